theorem dX10_hasPlan_2 : decode cX10_hasPlan 2 = .ok (.putfield 59, 3) := by decide +kernel
theorem dX10_hasPlan_5 : decode cX10_hasPlan 5 = .ok (.aload_n 0, 1) := by decide +kernel
theorem dX10_hasPlan_6 : decode cX10_hasPlan 6 = .ok (.getfield 62, 3) := by decide +kernel
theorem dX10_hasPlan_9 : decode cX10_hasPlan 9 = .ok (.ireturn, 1) := by decide +kernel
set_option maxRecDepth 20000 in
theorem ggX10_cost_X10_fail : GoodIn wsX10_cost wsX10_fail := goodIn_r _ [8, 1, 9, 10, 11, 12, 13, 14, 15, 16, 17, 18, 19, 20, 21, 22, 23, 24, 25, 26, 27, 28, 29, 30, 31] (by decide +kernel) (by decide +kernel)
set_option maxRecDepth 20000 in
theorem gX10_cost_X10_fail : GoodIn wsX10_cost (wsV RX10 73 RX10 yX10_fail wsX10_fail) := goodIn_app (goodIn_of _ (by decide +kernel)) ggX10_cost_X10_fail
theorem dX10_cost_0 : decode cX10_cost 0 = .ok (.aload_n 0, 1) := by decide +kernel
theorem dX10_cost_1 : decode cX10_cost 1 = .ok (.iconst 0, 1) := by decide +kernel
theorem dX10_cost_2 : decode cX10_cost 2 = .ok (.putfield 59, 3) := by decide +kernel
theorem dX10_cost_5 : decode cX10_cost 5 = .ok (.aload_n 0, 1) := by decide +kernel
theorem dX10_cost_6 : decode cX10_cost 6 = .ok (.getfield 62, 3) := by decide +kernel
theorem dX10_cost_9 : decode cX10_cost 9 = .ok (.ifCond .eq 10, 3) := by decide +kernel
theorem dX10_cost_12 : decode cX10_cost 12 = .ok (.aload_n 0, 1) := by decide +kernel
theorem dX10_cost_13 : decode cX10_cost 13 = .ok (.getfield 110, 3) := by decide +kernel
theorem dX10_cost_16 : decode cX10_cost 16 = .ok (.goto 8, 3) := by decide +kernel
theorem dX10_cost_19 : decode cX10_cost 19 = .ok (.aload_n 0, 1) := by decide +kernel
theorem dX10_cost_20 : decode cX10_cost 20 = .ok (.iconst 1, 1) := by decide +kernel
theorem dX10_cost_21 : decode cX10_cost 21 = .ok (.invokevirtual 73, 3) := by decide +kernel
theorem dX10_cost_24 : decode cX10_cost 24 = .ok (.ireturn, 1) := by decide +kernel
set_option maxRecDepth 20000 in
theorem ggX10_asks_X10_isIn : GoodIn wsX10_asks wsX10_isIn := goodIn_r _ [7] (by decide +kernel) (by decide +kernel)
set_option maxRecDepth 20000 in
theorem gX10_asks_X10_isIn : GoodIn wsX10_asks (va_wsS RX10 69 yX10_isIn wsX10_isIn) := goodIn_app (goodIn_of _ (by decide +kernel)) ggX10_asks_X10_isIn
theorem dX10_asks_0 : decode cX10_asks 0 = .ok (.aload_n 0, 1) := by decide +kernel
theorem dX10_asks_1 : decode cX10_asks 1 = .ok (.aload_n 0, 1) := by decide +kernel
theorem dX10_asks_2 : decode cX10_asks 2 = .ok (.getfield 62, 3) := by decide +kernel
theorem dX10_asks_5 : decode cX10_asks 5 = .ok (.ifCond .ne 7, 3) := by decide +kernel
theorem dX10_asks_8 : decode cX10_asks 8 = .ok (.iconst 1, 1) := by decide +kernel
theorem dX10_asks_9 : decode cX10_asks 9 = .ok (.goto 32, 3) := by decide +kernel
theorem dX10_asks_12 : decode cX10_asks 12 = .ok (.iload_n 1, 1) := by decide +kernel
theorem dX10_asks_13 : decode cX10_asks 13 = .ok (.iconst 0, 1) := by decide +kernel
theorem dX10_asks_14 : decode cX10_asks 14 = .ok (.aload_n 0, 1) := by decide +kernel
theorem dX10_asks_15 : decode cX10_asks 15 = .ok (.getfield 113, 3) := by decide +kernel
theorem dX10_asks_18 : decode cX10_asks 18 = .ok (.iconst 1, 1) := by decide +kernel
theorem dX10_asks_19 : decode cX10_asks 19 = .ok (.isub, 1) := by decide +kernel
theorem dX10_asks_20 : decode cX10_asks 20 = .ok (.invokestatic 69, 3) := by decide +kernel
theorem dX10_asks_23 : decode cX10_asks 23 = .ok (.ifCond .eq 13, 3) := by decide +kernel
theorem dX10_asks_26 : decode cX10_asks 26 = .ok (.iload_n 2, 1) := by decide +kernel
theorem dX10_asks_27 : decode cX10_asks 27 = .ok (.iconst 0, 1) := by decide +kernel
theorem dX10_asks_28 : decode cX10_asks 28 = .ok (.bipush 15, 2) := by decide +kernel
theorem dX10_asks_30 : decode cX10_asks 30 = .ok (.invokestatic 69, 3) := by decide +kernel
theorem dX10_asks_33 : decode cX10_asks 33 = .ok (.ifCond .ne 7, 3) := by decide +kernel
theorem dX10_asks_36 : decode cX10_asks 36 = .ok (.iconst 2, 1) := by decide +kernel
theorem dX10_asks_37 : decode cX10_asks 37 = .ok (.goto 4, 3) := by decide +kernel
theorem dX10_asks_40 : decode cX10_asks 40 = .ok (.iconst 0, 1) := by decide +kernel
theorem dX10_asks_41 : decode cX10_asks 41 = .ok (.putfield 59, 3) := by decide +kernel
theorem dX10_asks_44 : decode cX10_asks 44 = .ok (.aload_n 0, 1) := by decide +kernel
theorem dX10_asks_45 : decode cX10_asks 45 = .ok (.getfield 59, 3) := by decide +kernel
theorem dX10_asks_48 : decode cX10_asks 48 = .ok (.ifCond .ne 7, 3) := by decide +kernel
theorem dX10_asks_51 : decode cX10_asks 51 = .ok (.iconst 1, 1) := by decide +kernel
theorem dX10_asks_52 : decode cX10_asks 52 = .ok (.goto 4, 3) := by decide +kernel
theorem dX10_asks_55 : decode cX10_asks 55 = .ok (.iconst 0, 1) := by decide +kernel
theorem dX10_asks_56 : decode cX10_asks 56 = .ok (.ireturn, 1) := by decide +kernel
set_option maxRecDepth 20000 in
theorem ggX10_start_X10_asks : GoodIn wsX10_start wsX10_asks := goodIn_r _ [6, 7, 8, 9, 10, 11, 5, 12, 13, 14, 15, 16, 17, 18, 19, 20, 21, 22, 23, 24, 25, 26, 27, 28, 29, 30, 31, 32, 33, 34, 35] (by decide +kernel) (by decide +kernel)
set_option maxRecDepth 20000 in
theorem gX10_start_X10_asks : GoodIn wsX10_start (wsV RX10 125 RX10 yX10_asks wsX10_asks) := goodIn_app (goodIn_of _ (by decide +kernel)) ggX10_start_X10_asks
theorem dX10_start_0 : decode cX10_start 0 = .ok (.aload_n 0, 1) := by decide +kernel
theorem dX10_start_1 : decode cX10_start 1 = .ok (.iload_n 1, 1) := by decide +kernel
theorem dX10_start_2 : decode cX10_start 2 = .ok (.iconst 0, 1) := by decide +kernel
theorem dX10_start_3 : decode cX10_start 3 = .ok (.invokevirtual 125, 3) := by decide +kernel
theorem dX10_start_6 : decode cX10_start 6 = .ok (.ifCond .eq 12, 3) := by decide +kernel
theorem dX10_start_9 : decode cX10_start 9 = .ok (.aload_n 0, 1) := by decide +kernel
theorem dX10_start_10 : decode cX10_start 10 = .ok (.getfield 26, 3) := by decide +kernel
theorem dX10_start_13 : decode cX10_start 13 = .ok (.iload_n 1, 1) := by decide +kernel
theorem dX10_start_14 : decode cX10_start 14 = .ok (.iaload, 1) := by decide +kernel
theorem dX10_start_15 : decode cX10_start 15 = .ok (.goto 4, 3) := by decide +kernel
theorem dX10_start_18 : decode cX10_start 18 = .ok (.iconst 0, 1) := by decide +kernel
theorem dX10_start_19 : decode cX10_start 19 = .ok (.ireturn, 1) := by decide +kernel
set_option maxRecDepth 20000 in
theorem ggX10_length_X10_asks : GoodIn wsX10_length wsX10_asks := goodIn_r _ [6, 7, 8, 9, 10, 11, 5, 12, 13, 14, 15, 16, 17, 18, 19, 20, 21, 22, 23, 24, 25, 26, 27, 28, 29, 30, 31, 32, 33, 34, 35] (by decide +kernel) (by decide +kernel)
set_option maxRecDepth 20000 in
theorem gX10_length_X10_asks : GoodIn wsX10_length (wsV RX10 125 RX10 yX10_asks wsX10_asks) := goodIn_app (goodIn_of _ (by decide +kernel)) ggX10_length_X10_asks
theorem dX10_length_0 : decode cX10_length 0 = .ok (.aload_n 0, 1) := by decide +kernel
theorem dX10_length_1 : decode cX10_length 1 = .ok (.iload_n 1, 1) := by decide +kernel
theorem dX10_length_2 : decode cX10_length 2 = .ok (.iload_n 2, 1) := by decide +kernel
theorem dX10_length_3 : decode cX10_length 3 = .ok (.invokevirtual 125, 3) := by decide +kernel
theorem dX10_length_6 : decode cX10_length 6 = .ok (.ifCond .eq 17, 3) := by decide +kernel
theorem dX10_length_9 : decode cX10_length 9 = .ok (.aload_n 0, 1) := by decide +kernel
theorem dX10_length_10 : decode cX10_length 10 = .ok (.getfield 29, 3) := by decide +kernel
theorem dX10_length_13 : decode cX10_length 13 = .ok (.bipush 16, 2) := by decide +kernel
theorem dX10_length_15 : decode cX10_length 15 = .ok (.iload_n 1, 1) := by decide +kernel
theorem dX10_length_16 : decode cX10_length 16 = .ok (.imul, 1) := by decide +kernel
theorem dX10_length_17 : decode cX10_length 17 = .ok (.iload_n 2, 1) := by decide +kernel
theorem dX10_length_18 : decode cX10_length 18 = .ok (.iadd, 1) := by decide +kernel
theorem dX10_length_19 : decode cX10_length 19 = .ok (.iaload, 1) := by decide +kernel
theorem dX10_length_20 : decode cX10_length 20 = .ok (.goto 4, 3) := by decide +kernel
theorem dX10_length_23 : decode cX10_length 23 = .ok (.iconst 0, 1) := by decide +kernel
theorem dX10_length_24 : decode cX10_length 24 = .ok (.ireturn, 1) := by decide +kernel
set_option maxRecDepth 20000 in
theorem ggX10_word_X10_asks : GoodIn wsX10_word wsX10_asks := goodIn_r _ [6, 7, 8, 9, 10, 11, 5, 12, 13, 14, 15, 16, 17, 18, 19, 20, 21, 22, 23, 24, 25, 26, 27, 28, 29, 30, 31, 32, 33, 34, 35] (by decide +kernel) (by decide +kernel)
set_option maxRecDepth 20000 in
theorem gX10_word_X10_asks : GoodIn wsX10_word (wsV RX10 125 RX10 yX10_asks wsX10_asks) := goodIn_app (goodIn_of _ (by decide +kernel)) ggX10_word_X10_asks
theorem dX10_word_0 : decode cX10_word 0 = .ok (.aload_n 0, 1) := by decide +kernel
theorem dX10_word_1 : decode cX10_word 1 = .ok (.iload_n 1, 1) := by decide +kernel
theorem dX10_word_2 : decode cX10_word 2 = .ok (.iload_n 2, 1) := by decide +kernel
theorem dX10_word_3 : decode cX10_word 3 = .ok (.invokevirtual 125, 3) := by decide +kernel
theorem dX10_word_6 : decode cX10_word 6 = .ok (.ifCond .eq 17, 3) := by decide +kernel
theorem dX10_word_9 : decode cX10_word 9 = .ok (.aload_n 0, 1) := by decide +kernel
theorem dX10_word_10 : decode cX10_word 10 = .ok (.getfield 32, 3) := by decide +kernel
theorem dX10_word_13 : decode cX10_word 13 = .ok (.bipush 16, 2) := by decide +kernel
theorem dX10_word_15 : decode cX10_word 15 = .ok (.iload_n 1, 1) := by decide +kernel
theorem dX10_word_16 : decode cX10_word 16 = .ok (.imul, 1) := by decide +kernel
theorem dX10_word_17 : decode cX10_word 17 = .ok (.iload_n 2, 1) := by decide +kernel
theorem dX10_word_18 : decode cX10_word 18 = .ok (.iadd, 1) := by decide +kernel
theorem dX10_word_19 : decode cX10_word 19 = .ok (.iaload, 1) := by decide +kernel
theorem dX10_word_20 : decode cX10_word 20 = .ok (.goto 4, 3) := by decide +kernel
theorem dX10_word_23 : decode cX10_word 23 = .ok (.iconst 0, 1) := by decide +kernel
theorem dX10_word_24 : decode cX10_word 24 = .ok (.ireturn, 1) := by decide +kernel
set_option maxRecDepth 20000 in
theorem ggX10_slack_X10_asks : GoodIn wsX10_slack wsX10_asks := goodIn_r _ [7, 8, 9, 10, 11, 12, 6, 13, 14, 15, 16, 17, 18, 19, 20, 21, 22, 23, 24, 25, 26, 27, 28, 29, 30, 31, 32, 33, 34, 35, 36] (by decide +kernel) (by decide +kernel)
set_option maxRecDepth 20000 in
theorem gX10_slack_X10_asks : GoodIn wsX10_slack (wsV RX10 125 RX10 yX10_asks wsX10_asks) := goodIn_app (goodIn_of _ (by decide +kernel)) ggX10_slack_X10_asks
theorem dX10_slack_0 : decode cX10_slack 0 = .ok (.aload_n 0, 1) := by decide +kernel
theorem dX10_slack_1 : decode cX10_slack 1 = .ok (.iload_n 1, 1) := by decide +kernel
theorem dX10_slack_2 : decode cX10_slack 2 = .ok (.iconst 0, 1) := by decide +kernel
theorem dX10_slack_3 : decode cX10_slack 3 = .ok (.invokevirtual 125, 3) := by decide +kernel
theorem dX10_slack_6 : decode cX10_slack 6 = .ok (.ifCond .ne 5, 3) := by decide +kernel
theorem dX10_slack_9 : decode cX10_slack 9 = .ok (.iconst 0, 1) := by decide +kernel
theorem dX10_slack_10 : decode cX10_slack 10 = .ok (.ireturn, 1) := by decide +kernel
theorem dX10_slack_11 : decode cX10_slack 11 = .ok (.iconst 1, 1) := by decide +kernel
theorem dX10_slack_12 : decode cX10_slack 12 = .ok (.aload_n 0, 1) := by decide +kernel
theorem dX10_slack_13 : decode cX10_slack 13 = .ok (.getfield 13, 3) := by decide +kernel
theorem dX10_slack_16 : decode cX10_slack 16 = .ok (.ishl, 1) := by decide +kernel
theorem dX10_slack_17 : decode cX10_slack 17 = .ok (.istore_n 2, 1) := by decide +kernel
theorem dX10_slack_18 : decode cX10_slack 18 = .ok (.iconst 0, 1) := by decide +kernel
theorem dX10_slack_19 : decode cX10_slack 19 = .ok (.istore_n 3, 1) := by decide +kernel
theorem dX10_slack_20 : decode cX10_slack 20 = .ok (.iload_n 3, 1) := by decide +kernel
theorem dX10_slack_21 : decode cX10_slack 21 = .ok (.bipush 16, 2) := by decide +kernel
theorem dX10_slack_23 : decode cX10_slack 23 = .ok (.if_icmp .ge 48, 3) := by decide +kernel
theorem dX10_slack_26 : decode cX10_slack 26 = .ok (.iload_n 2, 1) := by decide +kernel
theorem dX10_slack_27 : decode cX10_slack 27 = .ok (.aload_n 0, 1) := by decide +kernel
theorem dX10_slack_28 : decode cX10_slack 28 = .ok (.getfield 29, 3) := by decide +kernel
theorem dX10_slack_31 : decode cX10_slack 31 = .ok (.bipush 16, 2) := by decide +kernel
theorem dX10_slack_33 : decode cX10_slack 33 = .ok (.iload_n 1, 1) := by decide +kernel
theorem dX10_slack_34 : decode cX10_slack 34 = .ok (.imul, 1) := by decide +kernel
theorem dX10_slack_35 : decode cX10_slack 35 = .ok (.iload_n 3, 1) := by decide +kernel
theorem dX10_slack_36 : decode cX10_slack 36 = .ok (.iadd, 1) := by decide +kernel
theorem dX10_slack_37 : decode cX10_slack 37 = .ok (.iaload, 1) := by decide +kernel
theorem dX10_slack_38 : decode cX10_slack 38 = .ok (.ifCond .ne 7, 3) := by decide +kernel
theorem dX10_slack_41 : decode cX10_slack 41 = .ok (.iconst 0, 1) := by decide +kernel
theorem dX10_slack_42 : decode cX10_slack 42 = .ok (.goto 21, 3) := by decide +kernel
theorem dX10_slack_45 : decode cX10_slack 45 = .ok (.iconst 1, 1) := by decide +kernel
theorem dX10_slack_46 : decode cX10_slack 46 = .ok (.aload_n 0, 1) := by decide +kernel
theorem dX10_slack_47 : decode cX10_slack 47 = .ok (.getfield 13, 3) := by decide +kernel
theorem dX10_slack_50 : decode cX10_slack 50 = .ok (.aload_n 0, 1) := by decide +kernel
theorem dX10_slack_51 : decode cX10_slack 51 = .ok (.getfield 29, 3) := by decide +kernel
theorem dX10_slack_54 : decode cX10_slack 54 = .ok (.bipush 16, 2) := by decide +kernel
theorem dX10_slack_56 : decode cX10_slack 56 = .ok (.iload_n 1, 1) := by decide +kernel
theorem dX10_slack_57 : decode cX10_slack 57 = .ok (.imul, 1) := by decide +kernel
theorem dX10_slack_58 : decode cX10_slack 58 = .ok (.iload_n 3, 1) := by decide +kernel
theorem dX10_slack_59 : decode cX10_slack 59 = .ok (.iadd, 1) := by decide +kernel
theorem dX10_slack_60 : decode cX10_slack 60 = .ok (.iaload, 1) := by decide +kernel
theorem dX10_slack_61 : decode cX10_slack 61 = .ok (.isub, 1) := by decide +kernel
theorem dX10_slack_62 : decode cX10_slack 62 = .ok (.ishl, 1) := by decide +kernel
theorem dX10_slack_63 : decode cX10_slack 63 = .ok (.isub, 1) := by decide +kernel
theorem dX10_slack_64 : decode cX10_slack 64 = .ok (.istore_n 2, 1) := by decide +kernel
theorem dX10_slack_65 : decode cX10_slack 65 = .ok (.iinc 3 1, 3) := by decide +kernel
theorem dX10_slack_68 : decode cX10_slack 68 = .ok (.goto (-48), 3) := by decide +kernel
theorem dX10_slack_71 : decode cX10_slack 71 = .ok (.iload_n 2, 1) := by decide +kernel
theorem dX10_slack_72 : decode cX10_slack 72 = .ok (.ireturn, 1) := by decide +kernel
theorem dX10_symbolOf_0 : decode cX10_symbolOf 0 = .ok (.iconst 0, 1) := by decide +kernel
theorem dX10_symbolOf_1 : decode cX10_symbolOf 1 = .ok (.istore 4, 2) := by decide +kernel
theorem dX10_symbolOf_3 : decode cX10_symbolOf 3 = .ok (.iload 4, 2) := by decide +kernel
theorem dX10_symbolOf_5 : decode cX10_symbolOf 5 = .ok (.bipush 16, 2) := by decide +kernel
theorem dX10_symbolOf_7 : decode cX10_symbolOf 7 = .ok (.if_icmp .ge 44, 3) := by decide +kernel
theorem dX10_symbolOf_10 : decode cX10_symbolOf 10 = .ok (.aload_n 0, 1) := by decide +kernel
theorem dX10_symbolOf_11 : decode cX10_symbolOf 11 = .ok (.getfield 29, 3) := by decide +kernel
theorem dX10_symbolOf_14 : decode cX10_symbolOf 14 = .ok (.bipush 16, 2) := by decide +kernel
theorem dX10_symbolOf_16 : decode cX10_symbolOf 16 = .ok (.iload_n 1, 1) := by decide +kernel
theorem dX10_symbolOf_17 : decode cX10_symbolOf 17 = .ok (.imul, 1) := by decide +kernel
theorem dX10_symbolOf_18 : decode cX10_symbolOf 18 = .ok (.iload 4, 2) := by decide +kernel
theorem dX10_symbolOf_20 : decode cX10_symbolOf 20 = .ok (.iadd, 1) := by decide +kernel
theorem dX10_symbolOf_21 : decode cX10_symbolOf 21 = .ok (.iaload, 1) := by decide +kernel
theorem dX10_symbolOf_22 : decode cX10_symbolOf 22 = .ok (.iload_n 2, 1) := by decide +kernel
theorem dX10_symbolOf_23 : decode cX10_symbolOf 23 = .ok (.if_icmp .ne 22, 3) := by decide +kernel
theorem dX10_symbolOf_26 : decode cX10_symbolOf 26 = .ok (.aload_n 0, 1) := by decide +kernel
theorem dX10_symbolOf_27 : decode cX10_symbolOf 27 = .ok (.getfield 32, 3) := by decide +kernel
theorem dX10_symbolOf_30 : decode cX10_symbolOf 30 = .ok (.bipush 16, 2) := by decide +kernel
theorem dX10_symbolOf_32 : decode cX10_symbolOf 32 = .ok (.iload_n 1, 1) := by decide +kernel
theorem dX10_symbolOf_33 : decode cX10_symbolOf 33 = .ok (.imul, 1) := by decide +kernel
theorem dX10_symbolOf_34 : decode cX10_symbolOf 34 = .ok (.iload 4, 2) := by decide +kernel
theorem dX10_symbolOf_36 : decode cX10_symbolOf 36 = .ok (.iadd, 1) := by decide +kernel
theorem dX10_symbolOf_37 : decode cX10_symbolOf 37 = .ok (.iaload, 1) := by decide +kernel
theorem dX10_symbolOf_38 : decode cX10_symbolOf 38 = .ok (.iload_n 3, 1) := by decide +kernel
theorem dX10_symbolOf_39 : decode cX10_symbolOf 39 = .ok (.if_icmp .ne 6, 3) := by decide +kernel
theorem dX10_symbolOf_42 : decode cX10_symbolOf 42 = .ok (.iload 4, 2) := by decide +kernel
theorem dX10_symbolOf_44 : decode cX10_symbolOf 44 = .ok (.ireturn, 1) := by decide +kernel
theorem dX10_symbolOf_45 : decode cX10_symbolOf 45 = .ok (.iinc 4 1, 3) := by decide +kernel
theorem dX10_symbolOf_48 : decode cX10_symbolOf 48 = .ok (.goto (-45), 3) := by decide +kernel
theorem dX10_symbolOf_51 : decode cX10_symbolOf 51 = .ok (.iconst (-1), 1) := by decide +kernel
theorem dX10_symbolOf_52 : decode cX10_symbolOf 52 = .ok (.ireturn, 1) := by decide +kernel
set_option maxRecDepth 20000 in
theorem ggX10_look_X10_asks : GoodIn wsX10_look wsX10_asks := goodIn_r _ [6, 7, 8, 9, 10, 11, 5, 12, 23, 24, 25, 26, 27, 28, 29, 30, 31, 32, 33, 34, 35, 36, 37, 38, 39, 40, 41, 42, 43, 44, 45] (by decide +kernel) (by decide +kernel)
set_option maxRecDepth 20000 in
theorem gX10_look_X10_asks : GoodIn wsX10_look (wsV RX10 125 RX10 yX10_asks wsX10_asks) := goodIn_app (goodIn_of _ (by decide +kernel)) ggX10_look_X10_asks
set_option maxRecDepth 20000 in
theorem ggX10_look_X10_isIn : GoodIn wsX10_look wsX10_isIn := goodIn_r _ [12] (by decide +kernel) (by decide +kernel)
set_option maxRecDepth 20000 in
theorem gX10_look_X10_isIn : GoodIn wsX10_look (va_wsS RX10 69 yX10_isIn wsX10_isIn) := goodIn_app (goodIn_of _ (by decide +kernel)) ggX10_look_X10_isIn
set_option maxRecDepth 20000 in
theorem ggX10_look_X10_fail : GoodIn wsX10_look wsX10_fail := goodIn_r _ [16, 9, 23, 24, 25, 26, 27, 28, 29, 30, 31, 32, 33, 34, 35, 36, 37, 38, 39, 40, 41, 42, 43, 44, 45] (by decide +kernel) (by decide +kernel)
set_option maxRecDepth 20000 in
theorem gX10_look_X10_fail : GoodIn wsX10_look (wsV RX10 73 RX10 yX10_fail wsX10_fail) := goodIn_app (goodIn_of _ (by decide +kernel)) ggX10_look_X10_fail
set_option maxRecDepth 20000 in
theorem ggX10_look_X10_symbolOf : GoodIn wsX10_look wsX10_symbolOf := goodIn_r _ [20, 21, 22, 23, 24, 25, 26, 27, 28, 29, 30, 31, 32, 33, 34, 35, 36, 37, 38, 39, 40, 41, 42, 43, 44, 45] (by decide +kernel) (by decide +kernel)
set_option maxRecDepth 20000 in
theorem gX10_look_X10_symbolOf : GoodIn wsX10_look (wsV RX10 129 RX10 yX10_symbolOf wsX10_symbolOf) := goodIn_app (goodIn_of _ (by decide +kernel)) ggX10_look_X10_symbolOf
theorem dX10_look_0 : decode cX10_look 0 = .ok (.aload_n 0, 1) := by decide +kernel
theorem dX10_look_1 : decode cX10_look 1 = .ok (.iload_n 1, 1) := by decide +kernel
theorem dX10_look_2 : decode cX10_look 2 = .ok (.iconst 0, 1) := by decide +kernel
theorem dX10_look_3 : decode cX10_look 3 = .ok (.invokevirtual 125, 3) := by decide +kernel
theorem dX10_look_6 : decode cX10_look 6 = .ok (.ifCond .ne 5, 3) := by decide +kernel
theorem dX10_look_9 : decode cX10_look 9 = .ok (.iconst 0, 1) := by decide +kernel
theorem dX10_look_10 : decode cX10_look 10 = .ok (.ireturn, 1) := by decide +kernel
theorem dX10_look_11 : decode cX10_look 11 = .ok (.iload_n 2, 1) := by decide +kernel
theorem dX10_look_12 : decode cX10_look 12 = .ok (.iconst 0, 1) := by decide +kernel
theorem dX10_look_13 : decode cX10_look 13 = .ok (.iconst 1, 1) := by decide +kernel
theorem dX10_look_14 : decode cX10_look 14 = .ok (.aload_n 0, 1) := by decide +kernel
theorem dX10_look_15 : decode cX10_look 15 = .ok (.getfield 13, 3) := by decide +kernel
theorem dX10_look_18 : decode cX10_look 18 = .ok (.ishl, 1) := by decide +kernel
theorem dX10_look_19 : decode cX10_look 19 = .ok (.iconst 1, 1) := by decide +kernel
theorem dX10_look_20 : decode cX10_look 20 = .ok (.isub, 1) := by decide +kernel
theorem dX10_look_21 : decode cX10_look 21 = .ok (.invokestatic 69, 3) := by decide +kernel
theorem dX10_look_24 : decode cX10_look 24 = .ok (.ifCond .ne 9, 3) := by decide +kernel
theorem dX10_look_27 : decode cX10_look 27 = .ok (.aload_n 0, 1) := by decide +kernel
theorem dX10_look_28 : decode cX10_look 28 = .ok (.iconst 3, 1) := by decide +kernel
theorem dX10_look_29 : decode cX10_look 29 = .ok (.invokevirtual 73, 3) := by decide +kernel
theorem dX10_look_32 : decode cX10_look 32 = .ok (.ireturn, 1) := by decide +kernel
theorem dX10_look_33 : decode cX10_look 33 = .ok (.iconst 1, 1) := by decide +kernel
theorem dX10_look_34 : decode cX10_look 34 = .ok (.istore_n 3, 1) := by decide +kernel
theorem dX10_look_35 : decode cX10_look 35 = .ok (.iload_n 3, 1) := by decide +kernel
theorem dX10_look_36 : decode cX10_look 36 = .ok (.aload_n 0, 1) := by decide +kernel
theorem dX10_look_37 : decode cX10_look 37 = .ok (.getfield 13, 3) := by decide +kernel
theorem dX10_look_40 : decode cX10_look 40 = .ok (.if_icmp .gt 39, 3) := by decide +kernel
theorem dX10_look_43 : decode cX10_look 43 = .ok (.aload_n 0, 1) := by decide +kernel
theorem dX10_look_44 : decode cX10_look 44 = .ok (.iload_n 1, 1) := by decide +kernel
theorem dX10_look_45 : decode cX10_look 45 = .ok (.iload_n 3, 1) := by decide +kernel
theorem dX10_look_46 : decode cX10_look 46 = .ok (.iload_n 2, 1) := by decide +kernel
theorem dX10_look_47 : decode cX10_look 47 = .ok (.aload_n 0, 1) := by decide +kernel
theorem dX10_look_48 : decode cX10_look 48 = .ok (.getfield 13, 3) := by decide +kernel
theorem dX10_look_51 : decode cX10_look 51 = .ok (.iload_n 3, 1) := by decide +kernel
theorem dX10_look_52 : decode cX10_look 52 = .ok (.isub, 1) := by decide +kernel
theorem dX10_look_53 : decode cX10_look 53 = .ok (.ishr, 1) := by decide +kernel
theorem dX10_look_54 : decode cX10_look 54 = .ok (.invokevirtual 129, 3) := by decide +kernel
theorem dX10_look_57 : decode cX10_look 57 = .ok (.istore 4, 2) := by decide +kernel
theorem dX10_look_59 : decode cX10_look 59 = .ok (.iload 4, 2) := by decide +kernel
theorem dX10_look_61 : decode cX10_look 61 = .ok (.iconst (-1), 1) := by decide +kernel
theorem dX10_look_62 : decode cX10_look 62 = .ok (.if_icmp .eq 11, 3) := by decide +kernel
theorem dX10_look_65 : decode cX10_look 65 = .ok (.bipush 16, 2) := by decide +kernel
theorem dX10_look_67 : decode cX10_look 67 = .ok (.iload_n 3, 1) := by decide +kernel
theorem dX10_look_68 : decode cX10_look 68 = .ok (.imul, 1) := by decide +kernel
theorem dX10_look_69 : decode cX10_look 69 = .ok (.iload 4, 2) := by decide +kernel
theorem dX10_look_71 : decode cX10_look 71 = .ok (.iadd, 1) := by decide +kernel
theorem dX10_look_72 : decode cX10_look 72 = .ok (.ireturn, 1) := by decide +kernel
theorem dX10_look_73 : decode cX10_look 73 = .ok (.iinc 3 1, 3) := by decide +kernel
theorem dX10_look_76 : decode cX10_look 76 = .ok (.goto (-41), 3) := by decide +kernel
theorem dX10_look_79 : decode cX10_look 79 = .ok (.iconst (-1), 1) := by decide +kernel
theorem dX10_look_80 : decode cX10_look 80 = .ok (.ireturn, 1) := by decide +kernel
set_option maxRecDepth 20000 in
theorem ggX10_gain_X10_countAll : GoodIn wsX10_gain wsX10_countAll := goodIn_r _ [10, 11, 12, 33, 34, 35, 36, 37, 38, 39, 40, 41, 42, 43, 44, 45, 46, 47, 48, 49, 50, 51, 52, 53, 54, 55] (by decide +kernel) (by decide +kernel)
set_option maxRecDepth 20000 in
theorem gX10_gain_X10_countAll : GoodIn wsX10_gain (wsV RX10 99 RX10 yX10_countAll wsX10_countAll) := goodIn_app (goodIn_of _ (by decide +kernel)) ggX10_gain_X10_countAll
set_option maxRecDepth 20000 in
theorem ggX10_gain_X10_costOfCounts : GoodIn wsX10_gain wsX10_costOfCounts := goodIn_r _ [16, 17, 11, 18, 19, 20, 21, 9, 22, 23, 24, 4, 25, 26, 27, 28, 29, 30, 31, 32, 33, 34, 35, 36, 37, 38, 39, 40, 41, 42, 43, 44, 45, 46, 47, 48, 49, 50, 51, 52, 53, 54, 55] (by decide +kernel) (by decide +kernel)
set_option maxRecDepth 20000 in
theorem gX10_gain_X10_costOfCounts : GoodIn wsX10_gain (wsV RX10 103 RX10 yX10_costOfCounts wsX10_costOfCounts) := goodIn_app (goodIn_of _ (by decide +kernel)) ggX10_gain_X10_costOfCounts
theorem dX10_gain_0 : decode cX10_gain 0 = .ok (.aload_n 0, 1) := by decide +kernel
theorem dX10_gain_1 : decode cX10_gain 1 = .ok (.aload_n 0, 1) := by decide +kernel
theorem dX10_gain_2 : decode cX10_gain 2 = .ok (.getfield 62, 3) := by decide +kernel
theorem dX10_gain_5 : decode cX10_gain 5 = .ok (.ifCond .ne 7, 3) := by decide +kernel
theorem dX10_gain_8 : decode cX10_gain 8 = .ok (.iconst 1, 1) := by decide +kernel
theorem dX10_gain_9 : decode cX10_gain 9 = .ok (.goto 15, 3) := by decide +kernel
theorem dX10_gain_12 : decode cX10_gain 12 = .ok (.aload_n 0, 1) := by decide +kernel
theorem dX10_gain_13 : decode cX10_gain 13 = .ok (.getfield 77, 3) := by decide +kernel
theorem dX10_gain_16 : decode cX10_gain 16 = .ok (.ifCond .ne 7, 3) := by decide +kernel
theorem dX10_gain_19 : decode cX10_gain 19 = .ok (.iconst 2, 1) := by decide +kernel
theorem dX10_gain_20 : decode cX10_gain 20 = .ok (.goto 4, 3) := by decide +kernel
theorem dX10_gain_23 : decode cX10_gain 23 = .ok (.iconst 0, 1) := by decide +kernel
theorem dX10_gain_24 : decode cX10_gain 24 = .ok (.putfield 59, 3) := by decide +kernel
theorem dX10_gain_27 : decode cX10_gain 27 = .ok (.aload_n 0, 1) := by decide +kernel
theorem dX10_gain_28 : decode cX10_gain 28 = .ok (.getfield 59, 3) := by decide +kernel
theorem dX10_gain_31 : decode cX10_gain 31 = .ok (.ifCond .eq 5, 3) := by decide +kernel
theorem dX10_gain_34 : decode cX10_gain 34 = .ok (.iconst 0, 1) := by decide +kernel
theorem dX10_gain_35 : decode cX10_gain 35 = .ok (.ireturn, 1) := by decide +kernel
theorem dX10_gain_36 : decode cX10_gain 36 = .ok (.aload_n 0, 1) := by decide +kernel
theorem dX10_gain_37 : decode cX10_gain 37 = .ok (.iconst 0, 1) := by decide +kernel
theorem dX10_gain_38 : decode cX10_gain 38 = .ok (.aload_n 0, 1) := by decide +kernel
theorem dX10_gain_39 : decode cX10_gain 39 = .ok (.getfield 77, 3) := by decide +kernel
theorem dX10_gain_42 : decode cX10_gain 42 = .ok (.invokevirtual 99, 3) := by decide +kernel
theorem dX10_gain_45 : decode cX10_gain 45 = .ok (.aload_n 0, 1) := by decide +kernel
theorem dX10_gain_46 : decode cX10_gain 46 = .ok (.invokevirtual 103, 3) := by decide +kernel
theorem dX10_gain_49 : decode cX10_gain 49 = .ok (.istore_n 1, 1) := by decide +kernel
theorem dX10_gain_50 : decode cX10_gain 50 = .ok (.iload_n 1, 1) := by decide +kernel
theorem dX10_gain_51 : decode cX10_gain 51 = .ok (.ldc 85, 2) := by decide +kernel
theorem dX10_gain_53 : decode cX10_gain 53 = .ok (.if_icmp .lt 7, 3) := by decide +kernel
theorem dX10_gain_56 : decode cX10_gain 56 = .ok (.iconst (-1), 1) := by decide +kernel
theorem dX10_gain_57 : decode cX10_gain 57 = .ok (.goto 9, 3) := by decide +kernel
theorem dX10_gain_60 : decode cX10_gain 60 = .ok (.iload_n 1, 1) := by decide +kernel
theorem dX10_gain_61 : decode cX10_gain 61 = .ok (.aload_n 0, 1) := by decide +kernel
theorem dX10_gain_62 : decode cX10_gain 62 = .ok (.getfield 110, 3) := by decide +kernel
theorem dX10_gain_65 : decode cX10_gain 65 = .ok (.isub, 1) := by decide +kernel
theorem dX10_gain_66 : decode cX10_gain 66 = .ok (.ireturn, 1) := by decide +kernel
set_option maxRecDepth 20000 in
theorem ggX10_write_X10_fail : GoodIn wsX10_write wsX10_fail := goodIn_r _ [14, 1, 15, 16, 17, 18, 19, 20, 21, 22, 23, 24, 25, 26, 27, 28, 29, 30, 31, 32, 33, 34, 35, 36, 37] (by decide +kernel) (by decide +kernel)
set_option maxRecDepth 20000 in
theorem gX10_write_X10_fail : GoodIn wsX10_write (wsV RX10 73 RX10 yX10_fail wsX10_fail) := goodIn_app (goodIn_of _ (by decide +kernel)) ggX10_write_X10_fail
theorem dX10_write_0 : decode cX10_write 0 = .ok (.aload_n 0, 1) := by decide +kernel
theorem dX10_write_1 : decode cX10_write 1 = .ok (.iconst 0, 1) := by decide +kernel
theorem dX10_write_2 : decode cX10_write 2 = .ok (.putfield 59, 3) := by decide +kernel
theorem dX10_write_5 : decode cX10_write 5 = .ok (.aload_n 0, 1) := by decide +kernel
theorem dX10_write_6 : decode cX10_write 6 = .ok (.getfield 62, 3) := by decide +kernel
theorem dX10_write_9 : decode cX10_write 9 = .ok (.ifCond .ne 9, 3) := by decide +kernel
theorem dX10_write_12 : decode cX10_write 12 = .ok (.aload_n 0, 1) := by decide +kernel
theorem dX10_write_13 : decode cX10_write 13 = .ok (.iconst 1, 1) := by decide +kernel
theorem dX10_write_14 : decode cX10_write 14 = .ok (.invokevirtual 73, 3) := by decide +kernel
theorem dX10_write_17 : decode cX10_write 17 = .ok (.ireturn, 1) := by decide +kernel
theorem dX10_write_18 : decode cX10_write 18 = .ok (.aload_n 0, 1) := by decide +kernel
theorem dX10_write_19 : decode cX10_write 19 = .ok (.iconst 0, 1) := by decide +kernel
theorem dX10_write_20 : decode cX10_write 20 = .ok (.putfield 66, 3) := by decide +kernel
theorem dX10_write_23 : decode cX10_write 23 = .ok (.iconst 0, 1) := by decide +kernel
theorem dX10_write_24 : decode cX10_write 24 = .ok (.istore_n 1, 1) := by decide +kernel
theorem dX10_write_25 : decode cX10_write 25 = .ok (.iload_n 1, 1) := by decide +kernel
theorem dX10_write_26 : decode cX10_write 26 = .ok (.aload_n 0, 1) := by decide +kernel
theorem dX10_write_27 : decode cX10_write 27 = .ok (.getfield 113, 3) := by decide +kernel
theorem dX10_write_30 : decode cX10_write 30 = .ok (.if_icmp .ge 97, 3) := by decide +kernel
theorem dX10_write_33 : decode cX10_write 33 = .ok (.aload_n 0, 1) := by decide +kernel
theorem dX10_write_34 : decode cX10_write 34 = .ok (.getfield 26, 3) := by decide +kernel
theorem dX10_write_37 : decode cX10_write 37 = .ok (.iload_n 1, 1) := by decide +kernel
theorem dX10_write_38 : decode cX10_write 38 = .ok (.iaload, 1) := by decide +kernel
theorem dX10_write_39 : decode cX10_write 39 = .ok (.istore_n 2, 1) := by decide +kernel
theorem dX10_write_40 : decode cX10_write 40 = .ok (.iload_n 2, 1) := by decide +kernel
theorem dX10_write_41 : decode cX10_write 41 = .ok (.aload_n 0, 1) := by decide +kernel
theorem dX10_write_42 : decode cX10_write 42 = .ok (.getfield 26, 3) := by decide +kernel
theorem dX10_write_45 : decode cX10_write 45 = .ok (.iload_n 1, 1) := by decide +kernel
theorem dX10_write_46 : decode cX10_write 46 = .ok (.iconst 1, 1) := by decide +kernel
theorem dX10_write_47 : decode cX10_write 47 = .ok (.iadd, 1) := by decide +kernel
theorem dX10_write_48 : decode cX10_write 48 = .ok (.iaload, 1) := by decide +kernel
theorem dX10_write_49 : decode cX10_write 49 = .ok (.if_icmp .ge 72, 3) := by decide +kernel
theorem dX10_write_52 : decode cX10_write 52 = .ok (.bipush 16, 2) := by decide +kernel
theorem dX10_write_54 : decode cX10_write 54 = .ok (.iload_n 1, 1) := by decide +kernel
theorem dX10_write_55 : decode cX10_write 55 = .ok (.imul, 1) := by decide +kernel
theorem dX10_write_56 : decode cX10_write 56 = .ok (.aload_n 0, 1) := by decide +kernel
theorem dX10_write_57 : decode cX10_write 57 = .ok (.getfield 9, 3) := by decide +kernel
theorem dX10_write_60 : decode cX10_write 60 = .ok (.iload_n 2, 1) := by decide +kernel
theorem dX10_write_61 : decode cX10_write 61 = .ok (.iaload, 1) := by decide +kernel
theorem dX10_write_62 : decode cX10_write 62 = .ok (.iadd, 1) := by decide +kernel
theorem dX10_write_63 : decode cX10_write 63 = .ok (.istore_n 3, 1) := by decide +kernel
theorem dX10_write_64 : decode cX10_write 64 = .ok (.aload_n 0, 1) := by decide +kernel
theorem dX10_write_65 : decode cX10_write 65 = .ok (.getfield 29, 3) := by decide +kernel
theorem dX10_write_68 : decode cX10_write 68 = .ok (.iload_n 3, 1) := by decide +kernel
theorem dX10_write_69 : decode cX10_write 69 = .ok (.iaload, 1) := by decide +kernel
theorem dX10_write_70 : decode cX10_write 70 = .ok (.iconst 1, 1) := by decide +kernel
theorem dX10_write_71 : decode cX10_write 71 = .ok (.isub, 1) := by decide +kernel
theorem dX10_write_72 : decode cX10_write 72 = .ok (.istore 4, 2) := by decide +kernel
theorem dX10_write_74 : decode cX10_write 74 = .ok (.iload 4, 2) := by decide +kernel
theorem dX10_write_76 : decode cX10_write 76 = .ok (.ifCond .lt 39, 3) := by decide +kernel
theorem dX10_write_79 : decode cX10_write 79 = .ok (.aload_n 0, 1) := by decide +kernel
theorem dX10_write_80 : decode cX10_write 80 = .ok (.getfield 35, 3) := by decide +kernel
theorem dX10_write_83 : decode cX10_write 83 = .ok (.aload_n 0, 1) := by decide +kernel
theorem dX10_write_84 : decode cX10_write 84 = .ok (.getfield 66, 3) := by decide +kernel
theorem dX10_write_87 : decode cX10_write 87 = .ok (.aload_n 0, 1) := by decide +kernel
theorem dX10_write_88 : decode cX10_write 88 = .ok (.getfield 32, 3) := by decide +kernel
theorem dX10_write_91 : decode cX10_write 91 = .ok (.iload_n 3, 1) := by decide +kernel
theorem dX10_write_92 : decode cX10_write 92 = .ok (.iaload, 1) := by decide +kernel
theorem dX10_write_93 : decode cX10_write 93 = .ok (.iload 4, 2) := by decide +kernel
theorem dX10_write_95 : decode cX10_write 95 = .ok (.ishr, 1) := by decide +kernel
theorem dX10_write_96 : decode cX10_write 96 = .ok (.iconst 1, 1) := by decide +kernel
theorem dX10_write_97 : decode cX10_write 97 = .ok (.iand, 1) := by decide +kernel
theorem dX10_write_98 : decode cX10_write 98 = .ok (.iastore, 1) := by decide +kernel
theorem dX10_write_99 : decode cX10_write 99 = .ok (.aload_n 0, 1) := by decide +kernel
theorem dX10_write_100 : decode cX10_write 100 = .ok (.dup, 1) := by decide +kernel
theorem dX10_write_101 : decode cX10_write 101 = .ok (.getfield 66, 3) := by decide +kernel
theorem dX10_write_104 : decode cX10_write 104 = .ok (.iconst 1, 1) := by decide +kernel
theorem dX10_write_105 : decode cX10_write 105 = .ok (.iadd, 1) := by decide +kernel
theorem dX10_write_106 : decode cX10_write 106 = .ok (.putfield 66, 3) := by decide +kernel
theorem dX10_write_109 : decode cX10_write 109 = .ok (.iinc 4 (-1), 3) := by decide +kernel
theorem dX10_write_112 : decode cX10_write 112 = .ok (.goto (-38), 3) := by decide +kernel
theorem dX10_write_115 : decode cX10_write 115 = .ok (.iinc 2 1, 3) := by decide +kernel
theorem dX10_write_118 : decode cX10_write 118 = .ok (.goto (-78), 3) := by decide +kernel
theorem dX10_write_121 : decode cX10_write 121 = .ok (.iinc 1 1, 3) := by decide +kernel
theorem dX10_write_124 : decode cX10_write 124 = .ok (.goto (-99), 3) := by decide +kernel
theorem dX10_write_127 : decode cX10_write 127 = .ok (.aload_n 0, 1) := by decide +kernel
theorem dX10_write_128 : decode cX10_write 128 = .ok (.getfield 66, 3) := by decide +kernel
theorem dX10_write_131 : decode cX10_write 131 = .ok (.ireturn, 1) := by decide +kernel
theorem dX10_bitCount_0 : decode cX10_bitCount 0 = .ok (.aload_n 0, 1) := by decide +kernel
theorem dX10_bitCount_1 : decode cX10_bitCount 1 = .ok (.iconst 0, 1) := by decide +kernel
theorem dX10_bitCount_2 : decode cX10_bitCount 2 = .ok (.putfield 59, 3) := by decide +kernel
theorem dX10_bitCount_5 : decode cX10_bitCount 5 = .ok (.aload_n 0, 1) := by decide +kernel
theorem dX10_bitCount_6 : decode cX10_bitCount 6 = .ok (.getfield 66, 3) := by decide +kernel
theorem dX10_bitCount_9 : decode cX10_bitCount 9 = .ok (.ireturn, 1) := by decide +kernel
set_option maxRecDepth 20000 in
theorem ggX10_bit_X10_isIn : GoodIn wsX10_bit wsX10_isIn := goodIn_r _ [7] (by decide +kernel) (by decide +kernel)
set_option maxRecDepth 20000 in
theorem gX10_bit_X10_isIn : GoodIn wsX10_bit (va_wsS RX10 69 yX10_isIn wsX10_isIn) := goodIn_app (goodIn_of _ (by decide +kernel)) ggX10_bit_X10_isIn
set_option maxRecDepth 20000 in
theorem ggX10_bit_X10_fail : GoodIn wsX10_bit wsX10_fail := goodIn_r _ [11, 1, 12, 13, 14, 15, 16, 17, 18, 19, 20, 21, 22, 23, 24, 25, 26, 27, 28, 29, 30, 31, 32, 33, 34] (by decide +kernel) (by decide +kernel)
set_option maxRecDepth 20000 in
theorem gX10_bit_X10_fail : GoodIn wsX10_bit (wsV RX10 73 RX10 yX10_fail wsX10_fail) := goodIn_app (goodIn_of _ (by decide +kernel)) ggX10_bit_X10_fail
theorem dX10_bit_0 : decode cX10_bit 0 = .ok (.aload_n 0, 1) := by decide +kernel
theorem dX10_bit_1 : decode cX10_bit 1 = .ok (.iconst 0, 1) := by decide +kernel
theorem dX10_bit_2 : decode cX10_bit 2 = .ok (.putfield 59, 3) := by decide +kernel
theorem dX10_bit_5 : decode cX10_bit 5 = .ok (.iload_n 1, 1) := by decide +kernel
theorem dX10_bit_6 : decode cX10_bit 6 = .ok (.iconst 0, 1) := by decide +kernel
theorem dX10_bit_7 : decode cX10_bit 7 = .ok (.aload_n 0, 1) := by decide +kernel
theorem dX10_bit_8 : decode cX10_bit 8 = .ok (.getfield 66, 3) := by decide +kernel
theorem dX10_bit_11 : decode cX10_bit 11 = .ok (.iconst 1, 1) := by decide +kernel
theorem dX10_bit_12 : decode cX10_bit 12 = .ok (.isub, 1) := by decide +kernel
theorem dX10_bit_13 : decode cX10_bit 13 = .ok (.invokestatic 69, 3) := by decide +kernel
theorem dX10_bit_16 : decode cX10_bit 16 = .ok (.ifCond .eq 12, 3) := by decide +kernel
theorem dX10_bit_19 : decode cX10_bit 19 = .ok (.aload_n 0, 1) := by decide +kernel
theorem dX10_bit_20 : decode cX10_bit 20 = .ok (.getfield 35, 3) := by decide +kernel
theorem dX10_bit_23 : decode cX10_bit 23 = .ok (.iload_n 1, 1) := by decide +kernel
theorem dX10_bit_24 : decode cX10_bit 24 = .ok (.iaload, 1) := by decide +kernel
theorem dX10_bit_25 : decode cX10_bit 25 = .ok (.goto 8, 3) := by decide +kernel
theorem dX10_bit_28 : decode cX10_bit 28 = .ok (.aload_n 0, 1) := by decide +kernel
theorem dX10_bit_29 : decode cX10_bit 29 = .ok (.iconst 1, 1) := by decide +kernel
theorem dX10_bit_30 : decode cX10_bit 30 = .ok (.invokevirtual 73, 3) := by decide +kernel
theorem dX10_bit_33 : decode cX10_bit 33 = .ok (.ireturn, 1) := by decide +kernel
set_option maxRecDepth 20000 in
theorem ggX10_flip_X10_isIn : GoodIn wsX10_flip wsX10_isIn := goodIn_r _ [7] (by decide +kernel) (by decide +kernel)
set_option maxRecDepth 20000 in
theorem gX10_flip_X10_isIn : GoodIn wsX10_flip (va_wsS RX10 69 yX10_isIn wsX10_isIn) := goodIn_app (goodIn_of _ (by decide +kernel)) ggX10_flip_X10_isIn
set_option maxRecDepth 20000 in
theorem ggX10_flip_X10_fail : GoodIn wsX10_flip wsX10_fail := goodIn_r _ [11, 1, 12, 13, 14, 15, 16, 17, 18, 19, 20, 21, 22, 23, 24, 25, 26, 27, 28, 29, 30, 31, 32, 33, 34] (by decide +kernel) (by decide +kernel)
set_option maxRecDepth 20000 in
theorem gX10_flip_X10_fail : GoodIn wsX10_flip (wsV RX10 73 RX10 yX10_fail wsX10_fail) := goodIn_app (goodIn_of _ (by decide +kernel)) ggX10_flip_X10_fail
theorem dX10_flip_0 : decode cX10_flip 0 = .ok (.aload_n 0, 1) := by decide +kernel
theorem dX10_flip_1 : decode cX10_flip 1 = .ok (.iconst 0, 1) := by decide +kernel
theorem dX10_flip_2 : decode cX10_flip 2 = .ok (.putfield 59, 3) := by decide +kernel
theorem dX10_flip_5 : decode cX10_flip 5 = .ok (.iload_n 1, 1) := by decide +kernel
theorem dX10_flip_6 : decode cX10_flip 6 = .ok (.iconst 0, 1) := by decide +kernel
theorem dX10_flip_7 : decode cX10_flip 7 = .ok (.aload_n 0, 1) := by decide +kernel
theorem dX10_flip_8 : decode cX10_flip 8 = .ok (.getfield 66, 3) := by decide +kernel
theorem dX10_flip_11 : decode cX10_flip 11 = .ok (.iconst 1, 1) := by decide +kernel
theorem dX10_flip_12 : decode cX10_flip 12 = .ok (.isub, 1) := by decide +kernel
theorem dX10_flip_13 : decode cX10_flip 13 = .ok (.invokestatic 69, 3) := by decide +kernel
theorem dX10_flip_16 : decode cX10_flip 16 = .ok (.ifCond .ne 9, 3) := by decide +kernel
theorem dX10_flip_19 : decode cX10_flip 19 = .ok (.aload_n 0, 1) := by decide +kernel
theorem dX10_flip_20 : decode cX10_flip 20 = .ok (.iconst 1, 1) := by decide +kernel
theorem dX10_flip_21 : decode cX10_flip 21 = .ok (.invokevirtual 73, 3) := by decide +kernel
theorem dX10_flip_24 : decode cX10_flip 24 = .ok (.ireturn, 1) := by decide +kernel
theorem dX10_flip_25 : decode cX10_flip 25 = .ok (.aload_n 0, 1) := by decide +kernel
theorem dX10_flip_26 : decode cX10_flip 26 = .ok (.getfield 35, 3) := by decide +kernel
theorem dX10_flip_29 : decode cX10_flip 29 = .ok (.iload_n 1, 1) := by decide +kernel
theorem dX10_flip_30 : decode cX10_flip 30 = .ok (.iconst 1, 1) := by decide +kernel
theorem dX10_flip_31 : decode cX10_flip 31 = .ok (.aload_n 0, 1) := by decide +kernel
theorem dX10_flip_32 : decode cX10_flip 32 = .ok (.getfield 35, 3) := by decide +kernel
theorem dX10_flip_35 : decode cX10_flip 35 = .ok (.iload_n 1, 1) := by decide +kernel
theorem dX10_flip_36 : decode cX10_flip 36 = .ok (.iaload, 1) := by decide +kernel
theorem dX10_flip_37 : decode cX10_flip 37 = .ok (.isub, 1) := by decide +kernel
theorem dX10_flip_38 : decode cX10_flip 38 = .ok (.iastore, 1) := by decide +kernel
theorem dX10_flip_39 : decode cX10_flip 39 = .ok (.iconst 1, 1) := by decide +kernel
theorem dX10_flip_40 : decode cX10_flip 40 = .ok (.aload_n 0, 1) := by decide +kernel
theorem dX10_flip_41 : decode cX10_flip 41 = .ok (.getfield 35, 3) := by decide +kernel
theorem dX10_flip_44 : decode cX10_flip 44 = .ok (.iload_n 1, 1) := by decide +kernel
theorem dX10_flip_45 : decode cX10_flip 45 = .ok (.iaload, 1) := by decide +kernel
theorem dX10_flip_46 : decode cX10_flip 46 = .ok (.isub, 1) := by decide +kernel
theorem dX10_flip_47 : decode cX10_flip 47 = .ok (.ireturn, 1) := by decide +kernel
set_option maxRecDepth 20000 in
theorem ggX10_read_X10_fail : GoodIn wsX10_read wsX10_fail := goodIn_r _ [14, 1, 21, 22, 23, 24, 25, 26, 27, 28, 29, 30, 31, 32, 33, 34, 35, 36, 37, 38, 39, 40, 41, 42, 43] (by decide +kernel) (by decide +kernel)
set_option maxRecDepth 20000 in
theorem gX10_read_X10_fail : GoodIn wsX10_read (wsV RX10 73 RX10 yX10_fail wsX10_fail) := goodIn_app (goodIn_of _ (by decide +kernel)) ggX10_read_X10_fail
set_option maxRecDepth 20000 in
theorem ggX10_read_X10_symbolOf : GoodIn wsX10_read wsX10_symbolOf := goodIn_r _ [18, 19, 20, 21, 22, 23, 24, 25, 26, 27, 28, 29, 30, 31, 32, 33, 34, 35, 36, 37, 38, 39, 40, 41, 42, 43] (by decide +kernel) (by decide +kernel)
set_option maxRecDepth 20000 in
theorem gX10_read_X10_symbolOf : GoodIn wsX10_read (wsV RX10 129 RX10 yX10_symbolOf wsX10_symbolOf) := goodIn_app (goodIn_of _ (by decide +kernel)) ggX10_read_X10_symbolOf
theorem dX10_read_0 : decode cX10_read 0 = .ok (.aload_n 0, 1) := by decide +kernel
theorem dX10_read_1 : decode cX10_read 1 = .ok (.iconst 0, 1) := by decide +kernel
theorem dX10_read_2 : decode cX10_read 2 = .ok (.putfield 59, 3) := by decide +kernel
theorem dX10_read_5 : decode cX10_read 5 = .ok (.aload_n 0, 1) := by decide +kernel
theorem dX10_read_6 : decode cX10_read 6 = .ok (.getfield 62, 3) := by decide +kernel
theorem dX10_read_9 : decode cX10_read 9 = .ok (.ifCond .ne 9, 3) := by decide +kernel
theorem dX10_read_12 : decode cX10_read 12 = .ok (.aload_n 0, 1) := by decide +kernel
theorem dX10_read_13 : decode cX10_read 13 = .ok (.iconst 1, 1) := by decide +kernel
theorem dX10_read_14 : decode cX10_read 14 = .ok (.invokevirtual 73, 3) := by decide +kernel
theorem dX10_read_17 : decode cX10_read 17 = .ok (.ireturn, 1) := by decide +kernel
theorem dX10_read_18 : decode cX10_read 18 = .ok (.aload_n 0, 1) := by decide +kernel
theorem dX10_read_19 : decode cX10_read 19 = .ok (.iconst 0, 1) := by decide +kernel
theorem dX10_read_20 : decode cX10_read 20 = .ok (.putfield 133, 3) := by decide +kernel
theorem dX10_read_23 : decode cX10_read 23 = .ok (.iconst 0, 1) := by decide +kernel
theorem dX10_read_24 : decode cX10_read 24 = .ok (.istore_n 1, 1) := by decide +kernel
theorem dX10_read_25 : decode cX10_read 25 = .ok (.iconst 0, 1) := by decide +kernel
theorem dX10_read_26 : decode cX10_read 26 = .ok (.istore_n 2, 1) := by decide +kernel
theorem dX10_read_27 : decode cX10_read 27 = .ok (.aload_n 0, 1) := by decide +kernel
theorem dX10_read_28 : decode cX10_read 28 = .ok (.getfield 133, 3) := by decide +kernel
theorem dX10_read_31 : decode cX10_read 31 = .ok (.aload_n 0, 1) := by decide +kernel
theorem dX10_read_32 : decode cX10_read 32 = .ok (.getfield 77, 3) := by decide +kernel
theorem dX10_read_35 : decode cX10_read 35 = .ok (.if_icmp .ge 114, 3) := by decide +kernel
theorem dX10_read_38 : decode cX10_read 38 = .ok (.aload_n 0, 1) := by decide +kernel
theorem dX10_read_39 : decode cX10_read 39 = .ok (.getfield 133, 3) := by decide +kernel
theorem dX10_read_42 : decode cX10_read 42 = .ok (.aload_n 0, 1) := by decide +kernel
theorem dX10_read_43 : decode cX10_read 43 = .ok (.getfield 26, 3) := by decide +kernel
theorem dX10_read_46 : decode cX10_read 46 = .ok (.iload_n 2, 1) := by decide +kernel
theorem dX10_read_47 : decode cX10_read 47 = .ok (.iconst 1, 1) := by decide +kernel
theorem dX10_read_48 : decode cX10_read 48 = .ok (.iadd, 1) := by decide +kernel
theorem dX10_read_49 : decode cX10_read 49 = .ok (.iaload, 1) := by decide +kernel
theorem dX10_read_50 : decode cX10_read 50 = .ok (.if_icmp .ne 9, 3) := by decide +kernel
theorem dX10_read_53 : decode cX10_read 53 = .ok (.iinc 2 1, 3) := by decide +kernel
theorem dX10_read_56 : decode cX10_read 56 = .ok (.goto (-18), 3) := by decide +kernel
theorem dX10_read_59 : decode cX10_read 59 = .ok (.iconst 0, 1) := by decide +kernel
theorem dX10_read_60 : decode cX10_read 60 = .ok (.istore_n 3, 1) := by decide +kernel
theorem dX10_read_61 : decode cX10_read 61 = .ok (.iconst 0, 1) := by decide +kernel
theorem dX10_read_62 : decode cX10_read 62 = .ok (.istore 4, 2) := by decide +kernel
theorem dX10_read_64 : decode cX10_read 64 = .ok (.iconst (-1), 1) := by decide +kernel
theorem dX10_read_65 : decode cX10_read 65 = .ok (.istore 5, 2) := by decide +kernel
theorem dX10_read_67 : decode cX10_read 67 = .ok (.iload 5, 2) := by decide +kernel
theorem dX10_read_69 : decode cX10_read 69 = .ok (.iconst (-1), 1) := by decide +kernel
theorem dX10_read_70 : decode cX10_read 70 = .ok (.if_icmp .ne 55, 3) := by decide +kernel
theorem dX10_read_73 : decode cX10_read 73 = .ok (.iload 4, 2) := by decide +kernel
theorem dX10_read_75 : decode cX10_read 75 = .ok (.aload_n 0, 1) := by decide +kernel
theorem dX10_read_76 : decode cX10_read 76 = .ok (.getfield 13, 3) := by decide +kernel
theorem dX10_read_79 : decode cX10_read 79 = .ok (.if_icmp .eq 11, 3) := by decide +kernel
theorem dX10_read_82 : decode cX10_read 82 = .ok (.iload_n 1, 1) := by decide +kernel
theorem dX10_read_83 : decode cX10_read 83 = .ok (.aload_n 0, 1) := by decide +kernel
theorem dX10_read_84 : decode cX10_read 84 = .ok (.getfield 66, 3) := by decide +kernel
theorem dX10_read_87 : decode cX10_read 87 = .ok (.if_icmp .ne 8, 3) := by decide +kernel
theorem dX10_read_90 : decode cX10_read 90 = .ok (.aload_n 0, 1) := by decide +kernel
theorem dX10_read_91 : decode cX10_read 91 = .ok (.getfield 133, 3) := by decide +kernel
theorem dX10_read_94 : decode cX10_read 94 = .ok (.ireturn, 1) := by decide +kernel
theorem dX10_read_95 : decode cX10_read 95 = .ok (.iconst 2, 1) := by decide +kernel
theorem dX10_read_96 : decode cX10_read 96 = .ok (.iload_n 3, 1) := by decide +kernel
theorem dX10_read_97 : decode cX10_read 97 = .ok (.imul, 1) := by decide +kernel
theorem dX10_read_98 : decode cX10_read 98 = .ok (.aload_n 0, 1) := by decide +kernel
theorem dX10_read_99 : decode cX10_read 99 = .ok (.getfield 35, 3) := by decide +kernel
theorem dX10_read_102 : decode cX10_read 102 = .ok (.iload_n 1, 1) := by decide +kernel
theorem dX10_read_103 : decode cX10_read 103 = .ok (.iaload, 1) := by decide +kernel
theorem dX10_read_104 : decode cX10_read 104 = .ok (.iadd, 1) := by decide +kernel
theorem dX10_read_105 : decode cX10_read 105 = .ok (.istore_n 3, 1) := by decide +kernel
theorem dX10_read_106 : decode cX10_read 106 = .ok (.iinc 1 1, 3) := by decide +kernel
theorem dX10_read_109 : decode cX10_read 109 = .ok (.iinc 4 1, 3) := by decide +kernel
theorem dX10_read_112 : decode cX10_read 112 = .ok (.aload_n 0, 1) := by decide +kernel
theorem dX10_read_113 : decode cX10_read 113 = .ok (.iload_n 2, 1) := by decide +kernel
theorem dX10_read_114 : decode cX10_read 114 = .ok (.iload 4, 2) := by decide +kernel
theorem dX10_read_116 : decode cX10_read 116 = .ok (.iload_n 3, 1) := by decide +kernel
theorem dX10_read_117 : decode cX10_read 117 = .ok (.invokevirtual 129, 3) := by decide +kernel
theorem dX10_read_120 : decode cX10_read 120 = .ok (.istore 5, 2) := by decide +kernel
theorem dX10_read_122 : decode cX10_read 122 = .ok (.goto (-55), 3) := by decide +kernel
theorem dX10_read_125 : decode cX10_read 125 = .ok (.aload_n 0, 1) := by decide +kernel
theorem dX10_read_126 : decode cX10_read 126 = .ok (.getfield 38, 3) := by decide +kernel
theorem dX10_read_129 : decode cX10_read 129 = .ok (.aload_n 0, 1) := by decide +kernel
theorem dX10_read_130 : decode cX10_read 130 = .ok (.getfield 133, 3) := by decide +kernel
theorem dX10_read_133 : decode cX10_read 133 = .ok (.iload 5, 2) := by decide +kernel
theorem dX10_read_135 : decode cX10_read 135 = .ok (.iastore, 1) := by decide +kernel
theorem dX10_read_136 : decode cX10_read 136 = .ok (.aload_n 0, 1) := by decide +kernel
theorem dX10_read_137 : decode cX10_read 137 = .ok (.dup, 1) := by decide +kernel
theorem dX10_read_138 : decode cX10_read 138 = .ok (.getfield 133, 3) := by decide +kernel
theorem dX10_read_141 : decode cX10_read 141 = .ok (.iconst 1, 1) := by decide +kernel
theorem dX10_read_142 : decode cX10_read 142 = .ok (.iadd, 1) := by decide +kernel
theorem dX10_read_143 : decode cX10_read 143 = .ok (.putfield 133, 3) := by decide +kernel
theorem dX10_read_146 : decode cX10_read 146 = .ok (.goto (-119), 3) := by decide +kernel
theorem dX10_read_149 : decode cX10_read 149 = .ok (.aload_n 0, 1) := by decide +kernel
theorem dX10_read_150 : decode cX10_read 150 = .ok (.getfield 133, 3) := by decide +kernel
theorem dX10_read_153 : decode cX10_read 153 = .ok (.ireturn, 1) := by decide +kernel
set_option maxRecDepth 20000 in
theorem ggX10_got_X10_isIn : GoodIn wsX10_got wsX10_isIn := goodIn_r _ [7] (by decide +kernel) (by decide +kernel)
set_option maxRecDepth 20000 in
theorem gX10_got_X10_isIn : GoodIn wsX10_got (va_wsS RX10 69 yX10_isIn wsX10_isIn) := goodIn_app (goodIn_of _ (by decide +kernel)) ggX10_got_X10_isIn
set_option maxRecDepth 20000 in
theorem ggX10_got_X10_fail : GoodIn wsX10_got wsX10_fail := goodIn_r _ [11, 1, 12, 13, 14, 15, 16, 17, 18, 19, 20, 21, 22, 23, 24, 25, 26, 27, 28, 29, 30, 31, 32, 33, 34] (by decide +kernel) (by decide +kernel)
set_option maxRecDepth 20000 in
theorem gX10_got_X10_fail : GoodIn wsX10_got (wsV RX10 73 RX10 yX10_fail wsX10_fail) := goodIn_app (goodIn_of _ (by decide +kernel)) ggX10_got_X10_fail
theorem dX10_got_0 : decode cX10_got 0 = .ok (.aload_n 0, 1) := by decide +kernel
theorem dX10_got_1 : decode cX10_got 1 = .ok (.iconst 0, 1) := by decide +kernel
theorem dX10_got_2 : decode cX10_got 2 = .ok (.putfield 59, 3) := by decide +kernel
theorem dX10_got_5 : decode cX10_got 5 = .ok (.iload_n 1, 1) := by decide +kernel
theorem dX10_got_6 : decode cX10_got 6 = .ok (.iconst 0, 1) := by decide +kernel
theorem dX10_got_7 : decode cX10_got 7 = .ok (.aload_n 0, 1) := by decide +kernel
theorem dX10_got_8 : decode cX10_got 8 = .ok (.getfield 133, 3) := by decide +kernel
theorem dX10_got_11 : decode cX10_got 11 = .ok (.iconst 1, 1) := by decide +kernel
theorem dX10_got_12 : decode cX10_got 12 = .ok (.isub, 1) := by decide +kernel
theorem dX10_got_13 : decode cX10_got 13 = .ok (.invokestatic 69, 3) := by decide +kernel
theorem dX10_got_16 : decode cX10_got 16 = .ok (.ifCond .eq 12, 3) := by decide +kernel
theorem dX10_got_19 : decode cX10_got 19 = .ok (.aload_n 0, 1) := by decide +kernel
theorem dX10_got_20 : decode cX10_got 20 = .ok (.getfield 38, 3) := by decide +kernel
theorem dX10_got_23 : decode cX10_got 23 = .ok (.iload_n 1, 1) := by decide +kernel
theorem dX10_got_24 : decode cX10_got 24 = .ok (.iaload, 1) := by decide +kernel
theorem dX10_got_25 : decode cX10_got 25 = .ok (.goto 8, 3) := by decide +kernel
theorem dX10_got_28 : decode cX10_got 28 = .ok (.aload_n 0, 1) := by decide +kernel
theorem dX10_got_29 : decode cX10_got 29 = .ok (.iconst 1, 1) := by decide +kernel
theorem dX10_got_30 : decode cX10_got 30 = .ok (.invokevirtual 73, 3) := by decide +kernel
theorem dX10_got_33 : decode cX10_got 33 = .ok (.ireturn, 1) := by decide +kernel
theorem dX10_differences_0 : decode cX10_differences 0 = .ok (.aload_n 0, 1) := by decide +kernel
theorem dX10_differences_1 : decode cX10_differences 1 = .ok (.iconst 0, 1) := by decide +kernel
theorem dX10_differences_2 : decode cX10_differences 2 = .ok (.putfield 59, 3) := by decide +kernel
theorem dX10_differences_5 : decode cX10_differences 5 = .ok (.aload_n 0, 1) := by decide +kernel
theorem dX10_differences_6 : decode cX10_differences 6 = .ok (.getfield 77, 3) := by decide +kernel
theorem dX10_differences_9 : decode cX10_differences 9 = .ok (.aload_n 0, 1) := by decide +kernel
theorem dX10_differences_10 : decode cX10_differences 10 = .ok (.getfield 133, 3) := by decide +kernel
theorem dX10_differences_13 : decode cX10_differences 13 = .ok (.isub, 1) := by decide +kernel
theorem dX10_differences_14 : decode cX10_differences 14 = .ok (.invokestatic 136, 3) := by decide +kernel
theorem dX10_differences_17 : decode cX10_differences 17 = .ok (.istore_n 1, 1) := by decide +kernel
theorem dX10_differences_18 : decode cX10_differences 18 = .ok (.iconst 0, 1) := by decide +kernel
theorem dX10_differences_19 : decode cX10_differences 19 = .ok (.istore_n 2, 1) := by decide +kernel
theorem dX10_differences_20 : decode cX10_differences 20 = .ok (.iload_n 2, 1) := by decide +kernel
theorem dX10_differences_21 : decode cX10_differences 21 = .ok (.aload_n 0, 1) := by decide +kernel
theorem dX10_differences_22 : decode cX10_differences 22 = .ok (.getfield 77, 3) := by decide +kernel
theorem dX10_differences_25 : decode cX10_differences 25 = .ok (.if_icmp .ge 40, 3) := by decide +kernel
theorem dX10_differences_28 : decode cX10_differences 28 = .ok (.iload_n 2, 1) := by decide +kernel
theorem dX10_differences_29 : decode cX10_differences 29 = .ok (.aload_n 0, 1) := by decide +kernel
theorem dX10_differences_30 : decode cX10_differences 30 = .ok (.getfield 133, 3) := by decide +kernel
theorem dX10_differences_33 : decode cX10_differences 33 = .ok (.if_icmp .ge 32, 3) := by decide +kernel
theorem dX10_differences_36 : decode cX10_differences 36 = .ok (.iload_n 1, 1) := by decide +kernel
theorem dX10_differences_37 : decode cX10_differences 37 = .ok (.aload_n 0, 1) := by decide +kernel
theorem dX10_differences_38 : decode cX10_differences 38 = .ok (.getfield 9, 3) := by decide +kernel
theorem dX10_differences_41 : decode cX10_differences 41 = .ok (.iload_n 2, 1) := by decide +kernel
theorem dX10_differences_42 : decode cX10_differences 42 = .ok (.iaload, 1) := by decide +kernel
theorem dX10_differences_43 : decode cX10_differences 43 = .ok (.aload_n 0, 1) := by decide +kernel
theorem dX10_differences_44 : decode cX10_differences 44 = .ok (.getfield 38, 3) := by decide +kernel
theorem dX10_differences_47 : decode cX10_differences 47 = .ok (.iload_n 2, 1) := by decide +kernel
theorem dX10_differences_48 : decode cX10_differences 48 = .ok (.iaload, 1) := by decide +kernel
theorem dX10_differences_49 : decode cX10_differences 49 = .ok (.if_icmp .ne 7, 3) := by decide +kernel
theorem dX10_differences_52 : decode cX10_differences 52 = .ok (.iconst 0, 1) := by decide +kernel
theorem dX10_differences_53 : decode cX10_differences 53 = .ok (.goto 4, 3) := by decide +kernel
theorem dX10_differences_56 : decode cX10_differences 56 = .ok (.iconst 1, 1) := by decide +kernel
theorem dX10_differences_57 : decode cX10_differences 57 = .ok (.iadd, 1) := by decide +kernel
theorem dX10_differences_58 : decode cX10_differences 58 = .ok (.istore_n 1, 1) := by decide +kernel
theorem dX10_differences_59 : decode cX10_differences 59 = .ok (.iinc 2 1, 3) := by decide +kernel
theorem dX10_differences_62 : decode cX10_differences 62 = .ok (.goto (-42), 3) := by decide +kernel
theorem dX10_differences_65 : decode cX10_differences 65 = .ok (.iload_n 1, 1) := by decide +kernel
theorem dX10_differences_66 : decode cX10_differences 66 = .ok (.ireturn, 1) := by decide +kernel
theorem dX10_average_0 : decode cX10_average 0 = .ok (.aload_n 0, 1) := by decide +kernel
theorem dX10_average_1 : decode cX10_average 1 = .ok (.aload_n 0, 1) := by decide +kernel
theorem dX10_average_2 : decode cX10_average 2 = .ok (.getfield 62, 3) := by decide +kernel
theorem dX10_average_5 : decode cX10_average 5 = .ok (.ifCond .eq 7, 3) := by decide +kernel
theorem dX10_average_8 : decode cX10_average 8 = .ok (.iconst 0, 1) := by decide +kernel
theorem dX10_average_9 : decode cX10_average 9 = .ok (.goto 4, 3) := by decide +kernel
theorem dX10_average_12 : decode cX10_average 12 = .ok (.iconst 1, 1) := by decide +kernel
theorem dX10_average_13 : decode cX10_average 13 = .ok (.putfield 59, 3) := by decide +kernel
theorem dX10_average_16 : decode cX10_average 16 = .ok (.aload_n 0, 1) := by decide +kernel
theorem dX10_average_17 : decode cX10_average 17 = .ok (.getfield 59, 3) := by decide +kernel
theorem dX10_average_20 : decode cX10_average 20 = .ok (.ifCond .ne 10, 3) := by decide +kernel
theorem dX10_average_23 : decode cX10_average 23 = .ok (.aload_n 0, 1) := by decide +kernel
theorem dX10_average_24 : decode cX10_average 24 = .ok (.getfield 77, 3) := by decide +kernel
theorem dX10_average_27 : decode cX10_average 27 = .ok (.ifCond .ne 5, 3) := by decide +kernel
theorem dX10_average_30 : decode cX10_average 30 = .ok (.dconst 0, 1) := by decide +kernel
theorem dX10_average_31 : decode cX10_average 31 = .ok (.dreturn, 1) := by decide +kernel
theorem dX10_average_32 : decode cX10_average 32 = .ok (.iconst 0, 1) := by decide +kernel
theorem dX10_average_33 : decode cX10_average 33 = .ok (.istore_n 1, 1) := by decide +kernel
theorem dX10_average_34 : decode cX10_average 34 = .ok (.iconst 0, 1) := by decide +kernel
theorem dX10_average_35 : decode cX10_average 35 = .ok (.istore_n 2, 1) := by decide +kernel
theorem dX10_average_36 : decode cX10_average 36 = .ok (.iload_n 2, 1) := by decide +kernel
theorem dX10_average_37 : decode cX10_average 37 = .ok (.aload_n 0, 1) := by decide +kernel
theorem dX10_average_38 : decode cX10_average 38 = .ok (.getfield 113, 3) := by decide +kernel
theorem dX10_average_41 : decode cX10_average 41 = .ok (.if_icmp .ge 53, 3) := by decide +kernel
theorem dX10_average_44 : decode cX10_average 44 = .ok (.aload_n 0, 1) := by decide +kernel
theorem dX10_average_45 : decode cX10_average 45 = .ok (.getfield 26, 3) := by decide +kernel
theorem dX10_average_48 : decode cX10_average 48 = .ok (.iload_n 2, 1) := by decide +kernel
theorem dX10_average_49 : decode cX10_average 49 = .ok (.iaload, 1) := by decide +kernel
theorem dX10_average_50 : decode cX10_average 50 = .ok (.istore_n 3, 1) := by decide +kernel
theorem dX10_average_51 : decode cX10_average 51 = .ok (.iload_n 3, 1) := by decide +kernel
theorem dX10_average_52 : decode cX10_average 52 = .ok (.aload_n 0, 1) := by decide +kernel
theorem dX10_average_53 : decode cX10_average 53 = .ok (.getfield 26, 3) := by decide +kernel
theorem dX10_average_56 : decode cX10_average 56 = .ok (.iload_n 2, 1) := by decide +kernel
theorem dX10_average_57 : decode cX10_average 57 = .ok (.iconst 1, 1) := by decide +kernel
theorem dX10_average_58 : decode cX10_average 58 = .ok (.iadd, 1) := by decide +kernel
theorem dX10_average_59 : decode cX10_average 59 = .ok (.iaload, 1) := by decide +kernel
theorem dX10_average_60 : decode cX10_average 60 = .ok (.if_icmp .ge 28, 3) := by decide +kernel
theorem dX10_average_63 : decode cX10_average 63 = .ok (.iload_n 1, 1) := by decide +kernel
theorem dX10_average_64 : decode cX10_average 64 = .ok (.aload_n 0, 1) := by decide +kernel
theorem dX10_average_65 : decode cX10_average 65 = .ok (.getfield 29, 3) := by decide +kernel
theorem dX10_average_68 : decode cX10_average 68 = .ok (.bipush 16, 2) := by decide +kernel
theorem dX10_average_70 : decode cX10_average 70 = .ok (.iload_n 2, 1) := by decide +kernel
theorem dX10_average_71 : decode cX10_average 71 = .ok (.imul, 1) := by decide +kernel
theorem dX10_average_72 : decode cX10_average 72 = .ok (.aload_n 0, 1) := by decide +kernel
theorem dX10_average_73 : decode cX10_average 73 = .ok (.getfield 9, 3) := by decide +kernel
theorem dX10_average_76 : decode cX10_average 76 = .ok (.iload_n 3, 1) := by decide +kernel
theorem dX10_average_77 : decode cX10_average 77 = .ok (.iaload, 1) := by decide +kernel
theorem dX10_average_78 : decode cX10_average 78 = .ok (.iadd, 1) := by decide +kernel
theorem dX10_average_79 : decode cX10_average 79 = .ok (.iaload, 1) := by decide +kernel
theorem dX10_average_80 : decode cX10_average 80 = .ok (.iadd, 1) := by decide +kernel
theorem dX10_average_81 : decode cX10_average 81 = .ok (.istore_n 1, 1) := by decide +kernel
theorem dX10_average_82 : decode cX10_average 82 = .ok (.iinc 3 1, 3) := by decide +kernel
theorem dX10_average_85 : decode cX10_average 85 = .ok (.goto (-34), 3) := by decide +kernel
theorem dX10_average_88 : decode cX10_average 88 = .ok (.iinc 2 1, 3) := by decide +kernel
theorem dX10_average_91 : decode cX10_average 91 = .ok (.goto (-55), 3) := by decide +kernel
theorem dX10_average_94 : decode cX10_average 94 = .ok (.iload_n 1, 1) := by decide +kernel
theorem dX10_average_95 : decode cX10_average 95 = .ok (.i2d, 1) := by decide +kernel
theorem dX10_average_96 : decode cX10_average 96 = .ok (.aload_n 0, 1) := by decide +kernel
theorem dX10_average_97 : decode cX10_average 97 = .ok (.getfield 77, 3) := by decide +kernel
theorem dX10_average_100 : decode cX10_average 100 = .ok (.i2d, 1) := by decide +kernel
theorem dX10_average_101 : decode cX10_average 101 = .ok (.ddiv, 1) := by decide +kernel
theorem dX10_average_102 : decode cX10_average 102 = .ok (.dreturn, 1) := by decide +kernel
theorem dX10_digest_0 : decode cX10_digest 0 = .ok (.aload_n 0, 1) := by decide +kernel
theorem dX10_digest_1 : decode cX10_digest 1 = .ok (.iconst 0, 1) := by decide +kernel
theorem dX10_digest_2 : decode cX10_digest 2 = .ok (.putfield 59, 3) := by decide +kernel
theorem dX10_digest_5 : decode cX10_digest 5 = .ok (.ldc2_w 139, 3) := by decide +kernel
theorem dX10_digest_8 : decode cX10_digest 8 = .ok (.aload_n 0, 1) := by decide +kernel
theorem dX10_digest_9 : decode cX10_digest 9 = .ok (.getfield 13, 3) := by decide +kernel
theorem dX10_digest_12 : decode cX10_digest 12 = .ok (.i2l, 1) := by decide +kernel
theorem dX10_digest_13 : decode cX10_digest 13 = .ok (.ladd, 1) := by decide +kernel
theorem dX10_digest_14 : decode cX10_digest 14 = .ok (.ldc2_w 141, 3) := by decide +kernel
theorem dX10_digest_17 : decode cX10_digest 17 = .ok (.lmul, 1) := by decide +kernel
theorem dX10_digest_18 : decode cX10_digest 18 = .ok (.aload_n 0, 1) := by decide +kernel
theorem dX10_digest_19 : decode cX10_digest 19 = .ok (.getfield 17, 3) := by decide +kernel
theorem dX10_digest_22 : decode cX10_digest 22 = .ok (.i2l, 1) := by decide +kernel
theorem dX10_digest_23 : decode cX10_digest 23 = .ok (.ladd, 1) := by decide +kernel
theorem dX10_digest_24 : decode cX10_digest 24 = .ok (.ldc2_w 141, 3) := by decide +kernel
theorem dX10_digest_27 : decode cX10_digest 27 = .ok (.lmul, 1) := by decide +kernel
theorem dX10_digest_28 : decode cX10_digest 28 = .ok (.aload_n 0, 1) := by decide +kernel
theorem dX10_digest_29 : decode cX10_digest 29 = .ok (.getfield 20, 3) := by decide +kernel
theorem dX10_digest_32 : decode cX10_digest 32 = .ok (.i2l, 1) := by decide +kernel
theorem dX10_digest_33 : decode cX10_digest 33 = .ok (.ladd, 1) := by decide +kernel
theorem dX10_digest_34 : decode cX10_digest 34 = .ok (.ldc2_w 141, 3) := by decide +kernel
theorem dX10_digest_37 : decode cX10_digest 37 = .ok (.lmul, 1) := by decide +kernel
theorem dX10_digest_38 : decode cX10_digest 38 = .ok (.aload_n 0, 1) := by decide +kernel
theorem dX10_digest_39 : decode cX10_digest 39 = .ok (.getfield 23, 3) := by decide +kernel
theorem dX10_digest_42 : decode cX10_digest 42 = .ok (.i2l, 1) := by decide +kernel
theorem dX10_digest_43 : decode cX10_digest 43 = .ok (.ladd, 1) := by decide +kernel
theorem dX10_digest_44 : decode cX10_digest 44 = .ok (.ldc2_w 141, 3) := by decide +kernel
theorem dX10_digest_47 : decode cX10_digest 47 = .ok (.lmul, 1) := by decide +kernel
theorem dX10_digest_48 : decode cX10_digest 48 = .ok (.aload_n 0, 1) := by decide +kernel
theorem dX10_digest_49 : decode cX10_digest 49 = .ok (.getfield 77, 3) := by decide +kernel
theorem dX10_digest_52 : decode cX10_digest 52 = .ok (.i2l, 1) := by decide +kernel
theorem dX10_digest_53 : decode cX10_digest 53 = .ok (.ladd, 1) := by decide +kernel
theorem dX10_digest_54 : decode cX10_digest 54 = .ok (.lstore_n 1, 1) := by decide +kernel
theorem dX10_digest_55 : decode cX10_digest 55 = .ok (.iconst 0, 1) := by decide +kernel
theorem dX10_digest_56 : decode cX10_digest 56 = .ok (.istore_n 3, 1) := by decide +kernel
theorem dX10_digest_57 : decode cX10_digest 57 = .ok (.iload_n 3, 1) := by decide +kernel
theorem dX10_digest_58 : decode cX10_digest 58 = .ok (.aload_n 0, 1) := by decide +kernel
theorem dX10_digest_59 : decode cX10_digest 59 = .ok (.getfield 77, 3) := by decide +kernel
theorem dX10_digest_62 : decode cX10_digest 62 = .ok (.if_icmp .ge 23, 3) := by decide +kernel
theorem dX10_digest_65 : decode cX10_digest 65 = .ok (.lload_n 1, 1) := by decide +kernel
theorem dX10_digest_66 : decode cX10_digest 66 = .ok (.ldc2_w 141, 3) := by decide +kernel
theorem dX10_digest_69 : decode cX10_digest 69 = .ok (.lmul, 1) := by decide +kernel
theorem dX10_digest_70 : decode cX10_digest 70 = .ok (.aload_n 0, 1) := by decide +kernel
theorem dX10_digest_71 : decode cX10_digest 71 = .ok (.getfield 9, 3) := by decide +kernel
theorem dX10_digest_74 : decode cX10_digest 74 = .ok (.iload_n 3, 1) := by decide +kernel
theorem dX10_digest_75 : decode cX10_digest 75 = .ok (.iaload, 1) := by decide +kernel
theorem dX10_digest_76 : decode cX10_digest 76 = .ok (.i2l, 1) := by decide +kernel
theorem dX10_digest_77 : decode cX10_digest 77 = .ok (.ladd, 1) := by decide +kernel
theorem dX10_digest_78 : decode cX10_digest 78 = .ok (.lstore_n 1, 1) := by decide +kernel
theorem dX10_digest_79 : decode cX10_digest 79 = .ok (.iinc 3 1, 3) := by decide +kernel
theorem dX10_digest_82 : decode cX10_digest 82 = .ok (.goto (-25), 3) := by decide +kernel
theorem dX10_digest_85 : decode cX10_digest 85 = .ok (.aload_n 0, 1) := by decide +kernel
theorem dX10_digest_86 : decode cX10_digest 86 = .ok (.getfield 62, 3) := by decide +kernel
theorem dX10_digest_89 : decode cX10_digest 89 = .ok (.ifCond .eq 91, 3) := by decide +kernel
theorem dX10_digest_92 : decode cX10_digest 92 = .ok (.lload_n 1, 1) := by decide +kernel
theorem dX10_digest_93 : decode cX10_digest 93 = .ok (.ldc2_w 141, 3) := by decide +kernel
theorem dX10_digest_96 : decode cX10_digest 96 = .ok (.lmul, 1) := by decide +kernel
theorem dX10_digest_97 : decode cX10_digest 97 = .ok (.aload_n 0, 1) := by decide +kernel
theorem dX10_digest_98 : decode cX10_digest 98 = .ok (.getfield 110, 3) := by decide +kernel
theorem dX10_digest_101 : decode cX10_digest 101 = .ok (.i2l, 1) := by decide +kernel
theorem dX10_digest_102 : decode cX10_digest 102 = .ok (.ladd, 1) := by decide +kernel
theorem dX10_digest_103 : decode cX10_digest 103 = .ok (.ldc2_w 141, 3) := by decide +kernel
theorem dX10_digest_106 : decode cX10_digest 106 = .ok (.lmul, 1) := by decide +kernel
theorem dX10_digest_107 : decode cX10_digest 107 = .ok (.aload_n 0, 1) := by decide +kernel
theorem dX10_digest_108 : decode cX10_digest 108 = .ok (.getfield 113, 3) := by decide +kernel
theorem dX10_digest_111 : decode cX10_digest 111 = .ok (.i2l, 1) := by decide +kernel
theorem dX10_digest_112 : decode cX10_digest 112 = .ok (.ladd, 1) := by decide +kernel
theorem dX10_digest_113 : decode cX10_digest 113 = .ok (.lstore_n 1, 1) := by decide +kernel
theorem dX10_digest_114 : decode cX10_digest 114 = .ok (.iconst 0, 1) := by decide +kernel
theorem dX10_digest_115 : decode cX10_digest 115 = .ok (.istore_n 3, 1) := by decide +kernel
theorem dX10_digest_116 : decode cX10_digest 116 = .ok (.iload_n 3, 1) := by decide +kernel
theorem dX10_digest_117 : decode cX10_digest 117 = .ok (.aload_n 0, 1) := by decide +kernel
theorem dX10_digest_118 : decode cX10_digest 118 = .ok (.getfield 113, 3) := by decide +kernel
theorem dX10_digest_121 : decode cX10_digest 121 = .ok (.if_icmp .ge 59, 3) := by decide +kernel
theorem dX10_digest_124 : decode cX10_digest 124 = .ok (.lload_n 1, 1) := by decide +kernel
theorem dX10_digest_125 : decode cX10_digest 125 = .ok (.ldc2_w 141, 3) := by decide +kernel
theorem dX10_digest_128 : decode cX10_digest 128 = .ok (.lmul, 1) := by decide +kernel
theorem dX10_digest_129 : decode cX10_digest 129 = .ok (.aload_n 0, 1) := by decide +kernel
theorem dX10_digest_130 : decode cX10_digest 130 = .ok (.getfield 26, 3) := by decide +kernel
theorem dX10_digest_133 : decode cX10_digest 133 = .ok (.iload_n 3, 1) := by decide +kernel
theorem dX10_digest_134 : decode cX10_digest 134 = .ok (.iaload, 1) := by decide +kernel
theorem dX10_digest_135 : decode cX10_digest 135 = .ok (.i2l, 1) := by decide +kernel
theorem dX10_digest_136 : decode cX10_digest 136 = .ok (.ladd, 1) := by decide +kernel
theorem dX10_digest_137 : decode cX10_digest 137 = .ok (.lstore_n 1, 1) := by decide +kernel
theorem dX10_digest_138 : decode cX10_digest 138 = .ok (.iconst 0, 1) := by decide +kernel
theorem dX10_digest_139 : decode cX10_digest 139 = .ok (.istore 4, 2) := by decide +kernel
theorem dX10_digest_141 : decode cX10_digest 141 = .ok (.iload 4, 2) := by decide +kernel
theorem dX10_digest_143 : decode cX10_digest 143 = .ok (.bipush 16, 2) := by decide +kernel
theorem dX10_digest_145 : decode cX10_digest 145 = .ok (.if_icmp .ge 29, 3) := by decide +kernel
theorem dX10_digest_148 : decode cX10_digest 148 = .ok (.lload_n 1, 1) := by decide +kernel
theorem dX10_digest_149 : decode cX10_digest 149 = .ok (.ldc2_w 141, 3) := by decide +kernel
theorem dX10_digest_152 : decode cX10_digest 152 = .ok (.lmul, 1) := by decide +kernel
theorem dX10_digest_153 : decode cX10_digest 153 = .ok (.aload_n 0, 1) := by decide +kernel
theorem dX10_digest_154 : decode cX10_digest 154 = .ok (.getfield 29, 3) := by decide +kernel
theorem dX10_digest_157 : decode cX10_digest 157 = .ok (.bipush 16, 2) := by decide +kernel
theorem dX10_digest_159 : decode cX10_digest 159 = .ok (.iload_n 3, 1) := by decide +kernel
theorem dX10_digest_160 : decode cX10_digest 160 = .ok (.imul, 1) := by decide +kernel
theorem dX10_digest_161 : decode cX10_digest 161 = .ok (.iload 4, 2) := by decide +kernel
theorem dX10_digest_163 : decode cX10_digest 163 = .ok (.iadd, 1) := by decide +kernel
theorem dX10_digest_164 : decode cX10_digest 164 = .ok (.iaload, 1) := by decide +kernel
theorem dX10_digest_165 : decode cX10_digest 165 = .ok (.i2l, 1) := by decide +kernel
theorem dX10_digest_166 : decode cX10_digest 166 = .ok (.ladd, 1) := by decide +kernel
theorem dX10_digest_167 : decode cX10_digest 167 = .ok (.lstore_n 1, 1) := by decide +kernel
theorem dX10_digest_168 : decode cX10_digest 168 = .ok (.iinc 4 1, 3) := by decide +kernel
theorem dX10_digest_171 : decode cX10_digest 171 = .ok (.goto (-30), 3) := by decide +kernel
theorem dX10_digest_174 : decode cX10_digest 174 = .ok (.iinc 3 1, 3) := by decide +kernel
theorem dX10_digest_177 : decode cX10_digest 177 = .ok (.goto (-61), 3) := by decide +kernel
theorem dX10_digest_180 : decode cX10_digest 180 = .ok (.lload_n 1, 1) := by decide +kernel
theorem dX10_digest_181 : decode cX10_digest 181 = .ok (.ldc2_w 141, 3) := by decide +kernel
theorem dX10_digest_184 : decode cX10_digest 184 = .ok (.lmul, 1) := by decide +kernel
theorem dX10_digest_185 : decode cX10_digest 185 = .ok (.aload_n 0, 1) := by decide +kernel
theorem dX10_digest_186 : decode cX10_digest 186 = .ok (.getfield 66, 3) := by decide +kernel
theorem dX10_digest_189 : decode cX10_digest 189 = .ok (.i2l, 1) := by decide +kernel
theorem dX10_digest_190 : decode cX10_digest 190 = .ok (.ladd, 1) := by decide +kernel
theorem dX10_digest_191 : decode cX10_digest 191 = .ok (.lstore_n 1, 1) := by decide +kernel
theorem dX10_digest_192 : decode cX10_digest 192 = .ok (.iconst 0, 1) := by decide +kernel
theorem dX10_digest_193 : decode cX10_digest 193 = .ok (.istore_n 3, 1) := by decide +kernel
theorem dX10_digest_194 : decode cX10_digest 194 = .ok (.iload_n 3, 1) := by decide +kernel
theorem dX10_digest_195 : decode cX10_digest 195 = .ok (.aload_n 0, 1) := by decide +kernel
theorem dX10_digest_196 : decode cX10_digest 196 = .ok (.getfield 66, 3) := by decide +kernel
theorem dX10_digest_199 : decode cX10_digest 199 = .ok (.if_icmp .ge 23, 3) := by decide +kernel
theorem dX10_digest_202 : decode cX10_digest 202 = .ok (.lload_n 1, 1) := by decide +kernel
theorem dX10_digest_203 : decode cX10_digest 203 = .ok (.ldc2_w 141, 3) := by decide +kernel
theorem dX10_digest_206 : decode cX10_digest 206 = .ok (.lmul, 1) := by decide +kernel
theorem dX10_digest_207 : decode cX10_digest 207 = .ok (.aload_n 0, 1) := by decide +kernel
theorem dX10_digest_208 : decode cX10_digest 208 = .ok (.getfield 35, 3) := by decide +kernel
theorem dX10_digest_211 : decode cX10_digest 211 = .ok (.iload_n 3, 1) := by decide +kernel
theorem dX10_digest_212 : decode cX10_digest 212 = .ok (.iaload, 1) := by decide +kernel
theorem dX10_digest_213 : decode cX10_digest 213 = .ok (.i2l, 1) := by decide +kernel
theorem dX10_digest_214 : decode cX10_digest 214 = .ok (.ladd, 1) := by decide +kernel
theorem dX10_digest_215 : decode cX10_digest 215 = .ok (.lstore_n 1, 1) := by decide +kernel
theorem dX10_digest_216 : decode cX10_digest 216 = .ok (.iinc 3 1, 3) := by decide +kernel
theorem dX10_digest_219 : decode cX10_digest 219 = .ok (.goto (-25), 3) := by decide +kernel
theorem dX10_digest_222 : decode cX10_digest 222 = .ok (.lload_n 1, 1) := by decide +kernel
theorem dX10_digest_223 : decode cX10_digest 223 = .ok (.lreturn, 1) := by decide +kernel
theorem dJ9_abs_0f7a4_0 : decode cJ9_abs_0f7a4 0 = .ok (.iload_n 0, 1) := by decide +kernel
theorem dJ9_abs_0f7a4_1 : decode cJ9_abs_0f7a4 1 = .ok (.ifCond .ge 8, 3) := by decide +kernel
theorem dJ9_abs_0f7a4_4 : decode cJ9_abs_0f7a4 4 = .ok (.iload_n 0, 1) := by decide +kernel
theorem dJ9_abs_0f7a4_5 : decode cJ9_abs_0f7a4 5 = .ok (.ineg, 1) := by decide +kernel
theorem dJ9_abs_0f7a4_6 : decode cJ9_abs_0f7a4 6 = .ok (.goto 4, 3) := by decide +kernel
theorem dJ9_abs_0f7a4_9 : decode cJ9_abs_0f7a4 9 = .ok (.iload_n 0, 1) := by decide +kernel
theorem dJ9_abs_0f7a4_10 : decode cJ9_abs_0f7a4 10 = .ok (.ireturn, 1) := by decide +kernel
theorem dJ9_max_7cf53_0 : decode cJ9_max_7cf53 0 = .ok (.iload_n 0, 1) := by decide +kernel
theorem dJ9_max_7cf53_1 : decode cJ9_max_7cf53 1 = .ok (.iload_n 1, 1) := by decide +kernel
theorem dJ9_max_7cf53_2 : decode cJ9_max_7cf53 2 = .ok (.if_icmp .lt 7, 3) := by decide +kernel
theorem dJ9_max_7cf53_5 : decode cJ9_max_7cf53 5 = .ok (.iload_n 0, 1) := by decide +kernel
theorem dJ9_max_7cf53_6 : decode cJ9_max_7cf53 6 = .ok (.goto 4, 3) := by decide +kernel
theorem dJ9_max_7cf53_9 : decode cJ9_max_7cf53 9 = .ok (.iload_n 1, 1) := by decide +kernel
theorem dJ9_max_7cf53_10 : decode cJ9_max_7cf53 10 = .ok (.ireturn, 1) := by decide +kernel
theorem dJ9_min_7cf53_0 : decode cJ9_min_7cf53 0 = .ok (.iload_n 0, 1) := by decide +kernel
theorem dJ9_min_7cf53_1 : decode cJ9_min_7cf53 1 = .ok (.iload_n 1, 1) := by decide +kernel
theorem dJ9_min_7cf53_2 : decode cJ9_min_7cf53 2 = .ok (.if_icmp .gt 7, 3) := by decide +kernel
theorem dJ9_min_7cf53_5 : decode cJ9_min_7cf53 5 = .ok (.iload_n 0, 1) := by decide +kernel
theorem dJ9_min_7cf53_6 : decode cJ9_min_7cf53 6 = .ok (.goto 4, 3) := by decide +kernel
theorem dJ9_min_7cf53_9 : decode cJ9_min_7cf53 9 = .ok (.iload_n 1, 1) := by decide +kernel
theorem dJ9_min_7cf53_10 : decode cJ9_min_7cf53 10 = .ok (.ireturn, 1) := by decide +kernel
theorem dJ7_fill_53178_0 : decode cJ7_fill_53178 0 = .ok (.iconst 0, 1) := by decide +kernel
theorem dJ7_fill_53178_1 : decode cJ7_fill_53178 1 = .ok (.istore_n 2, 1) := by decide +kernel
theorem dJ7_fill_53178_2 : decode cJ7_fill_53178 2 = .ok (.aload_n 0, 1) := by decide +kernel
theorem dJ7_fill_53178_3 : decode cJ7_fill_53178 3 = .ok (.arraylength, 1) := by decide +kernel
theorem dJ7_fill_53178_4 : decode cJ7_fill_53178 4 = .ok (.istore_n 3, 1) := by decide +kernel
theorem dJ7_fill_53178_5 : decode cJ7_fill_53178 5 = .ok (.iload_n 2, 1) := by decide +kernel
theorem dJ7_fill_53178_6 : decode cJ7_fill_53178 6 = .ok (.iload_n 3, 1) := by decide +kernel
theorem dJ7_fill_53178_7 : decode cJ7_fill_53178 7 = .ok (.if_icmp .ge 13, 3) := by decide +kernel
theorem dJ7_fill_53178_10 : decode cJ7_fill_53178 10 = .ok (.aload_n 0, 1) := by decide +kernel
theorem dJ7_fill_53178_11 : decode cJ7_fill_53178 11 = .ok (.iload_n 2, 1) := by decide +kernel
theorem dJ7_fill_53178_12 : decode cJ7_fill_53178 12 = .ok (.iload_n 1, 1) := by decide +kernel
theorem dJ7_fill_53178_13 : decode cJ7_fill_53178 13 = .ok (.iastore, 1) := by decide +kernel
theorem dJ7_fill_53178_14 : decode cJ7_fill_53178 14 = .ok (.iinc 2 1, 3) := by decide +kernel
theorem dJ7_fill_53178_17 : decode cJ7_fill_53178 17 = .ok (.goto (-12), 3) := by decide +kernel
theorem dJ7_fill_53178_20 : decode cJ7_fill_53178 20 = .ok (.return_, 1) := by decide +kernel
set_option maxRecDepth 20000 in
theorem ggL_append_X9_append : GoodIn wsL_append wsX9_append := goodIn_ca (goodIn_ca (goodIn_r _ [7, 8, 9, 10, 11, 12, 13, 6, 14, 15, 16, 17, 18, 19, 20, 21, 22, 23, 24, 25, 26, 27, 28, 29, 30, 31, 32, 33, 34, 35, 36, 37, 38, 39, 40, 41, 42, 43, 44, 45, 46, 47, 48, 49] (by decide +kernel) (by decide +kernel)) (goodIn_sub (fun _ h => List.mem_cons_of_mem _ (List.mem_append_left _ (List.mem_append_right _ h))) (by decide +kernel))) (goodIn_sub (fun _ h => List.mem_cons_of_mem _ (List.mem_append_right _ h)) (by decide +kernel))
set_option maxRecDepth 20000 in
theorem gL_append_X9_append : GoodIn wsL_append (wsV RL 7 RX9 yX9_append wsX9_append) := goodIn_app (goodIn_of _ (by decide +kernel)) ggL_append_X9_append
theorem dL_append_0 : decode cL_append 0 = .ok (.aload_n 3, 1) := by decide +kernel
theorem dL_append_1 : decode cL_append 1 = .ok (.iconst 0, 1) := by decide +kernel
theorem dL_append_2 : decode cL_append 2 = .ok (.aload_n 0, 1) := by decide +kernel
theorem dL_append_3 : decode cL_append 3 = .ok (.iload_n 1, 1) := by decide +kernel
theorem dL_append_4 : decode cL_append 4 = .ok (.iload_n 2, 1) := by decide +kernel
theorem dL_append_5 : decode cL_append 5 = .ok (.invokevirtual 7, 3) := by decide +kernel
theorem dL_append_8 : decode cL_append 8 = .ok (.i2l, 1) := by decide +kernel
theorem dL_append_9 : decode cL_append 9 = .ok (.lastore, 1) := by decide +kernel
theorem dL_append_10 : decode cL_append 10 = .ok (.goto 11, 3) := by decide +kernel
theorem dL_append_13 : decode cL_append 13 = .ok (.astore 4, 2) := by decide +kernel
theorem dL_append_15 : decode cL_append 15 = .ok (.iconst 1, 1) := by decide +kernel
theorem dL_append_16 : decode cL_append 16 = .ok (.ireturn, 1) := by decide +kernel
theorem dL_append_17 : decode cL_append 17 = .ok (.astore 4, 2) := by decide +kernel
theorem dL_append_19 : decode cL_append 19 = .ok (.iconst 2, 1) := by decide +kernel
theorem dL_append_20 : decode cL_append 20 = .ok (.ireturn, 1) := by decide +kernel
theorem dL_append_21 : decode cL_append 21 = .ok (.iconst 0, 1) := by decide +kernel
theorem dL_append_22 : decode cL_append 22 = .ok (.ireturn, 1) := by decide +kernel
set_option maxRecDepth 20000 in
theorem ggL_feed_X9_feed : GoodIn wsL_feed wsX9_feed := goodIn_ca (goodIn_ca (goodIn_r _ [7, 8, 9, 10, 11, 12, 13, 14, 6, 15, 16, 17, 18, 19, 20, 21, 22, 23, 24, 25, 26, 27, 28, 29, 30, 31, 32, 33, 34, 35, 36, 37, 38, 39, 40, 41, 42, 43, 44, 45, 46] (by decide +kernel) (by decide +kernel)) (goodIn_sub (fun _ h => List.mem_cons_of_mem _ (List.mem_append_left _ (List.mem_append_right _ h))) (by decide +kernel))) (goodIn_sub (fun _ h => List.mem_cons_of_mem _ (List.mem_append_right _ h)) (by decide +kernel))
set_option maxRecDepth 20000 in
theorem gL_feed_X9_feed : GoodIn wsL_feed (wsV RL 17 RX9 yX9_feed wsX9_feed) := goodIn_app (goodIn_of _ (by decide +kernel)) ggL_feed_X9_feed
theorem dL_feed_0 : decode cL_feed 0 = .ok (.aload 4, 2) := by decide +kernel
theorem dL_feed_2 : decode cL_feed 2 = .ok (.iconst 0, 1) := by decide +kernel
theorem dL_feed_3 : decode cL_feed 3 = .ok (.aload_n 0, 1) := by decide +kernel
theorem dL_feed_4 : decode cL_feed 4 = .ok (.lload_n 1, 1) := by decide +kernel
theorem dL_feed_5 : decode cL_feed 5 = .ok (.iload_n 3, 1) := by decide +kernel
theorem dL_feed_6 : decode cL_feed 6 = .ok (.invokevirtual 17, 3) := by decide +kernel
theorem dL_feed_9 : decode cL_feed 9 = .ok (.i2l, 1) := by decide +kernel
theorem dL_feed_10 : decode cL_feed 10 = .ok (.lastore, 1) := by decide +kernel
theorem dL_feed_11 : decode cL_feed 11 = .ok (.goto 11, 3) := by decide +kernel
theorem dL_feed_14 : decode cL_feed 14 = .ok (.astore 5, 2) := by decide +kernel
theorem dL_feed_16 : decode cL_feed 16 = .ok (.iconst 1, 1) := by decide +kernel
theorem dL_feed_17 : decode cL_feed 17 = .ok (.ireturn, 1) := by decide +kernel
theorem dL_feed_18 : decode cL_feed 18 = .ok (.astore 5, 2) := by decide +kernel
theorem dL_feed_20 : decode cL_feed 20 = .ok (.iconst 2, 1) := by decide +kernel
theorem dL_feed_21 : decode cL_feed 21 = .ok (.ireturn, 1) := by decide +kernel
theorem dL_feed_22 : decode cL_feed 22 = .ok (.iconst 0, 1) := by decide +kernel
theorem dL_feed_23 : decode cL_feed 23 = .ok (.ireturn, 1) := by decide +kernel
set_option maxRecDepth 20000 in
theorem ggL_set_X9_set : GoodIn wsL_set wsX9_set := goodIn_ca (goodIn_ca (goodIn_r _ [7, 8, 9, 10, 11, 12, 13, 14, 15, 16, 6, 17, 18, 19, 20, 21, 22, 23, 24, 25, 26, 27, 28, 29, 30, 31, 32, 33, 34, 35, 36, 37, 38, 39] (by decide +kernel) (by decide +kernel)) (goodIn_sub (fun _ h => List.mem_cons_of_mem _ (List.mem_append_left _ (List.mem_append_right _ h))) (by decide +kernel))) (goodIn_sub (fun _ h => List.mem_cons_of_mem _ (List.mem_append_right _ h)) (by decide +kernel))
