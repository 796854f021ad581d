theorem dX10_feed_32 : decode cX10_feed 32 = .ok (.aload_n 0, 1) := by decide +kernel
theorem dX10_feed_33 : decode cX10_feed 33 = .ok (.iconst 2, 1) := by decide +kernel
theorem dX10_feed_34 : decode cX10_feed 34 = .ok (.invokevirtual 73, 3) := by decide +kernel
theorem dX10_feed_37 : decode cX10_feed 37 = .ok (.ireturn, 1) := by decide +kernel
theorem dX10_feed_38 : decode cX10_feed 38 = .ok (.iconst 0, 1) := by decide +kernel
theorem dX10_feed_39 : decode cX10_feed 39 = .ok (.istore 4, 2) := by decide +kernel
theorem dX10_feed_41 : decode cX10_feed 41 = .ok (.iload 4, 2) := by decide +kernel
theorem dX10_feed_43 : decode cX10_feed 43 = .ok (.iload_n 3, 1) := by decide +kernel
theorem dX10_feed_44 : decode cX10_feed 44 = .ok (.if_icmp .ge 35, 3) := by decide +kernel
theorem dX10_feed_47 : decode cX10_feed 47 = .ok (.aload_n 0, 1) := by decide +kernel
theorem dX10_feed_48 : decode cX10_feed 48 = .ok (.getfield 9, 3) := by decide +kernel
theorem dX10_feed_51 : decode cX10_feed 51 = .ok (.aload_n 0, 1) := by decide +kernel
theorem dX10_feed_52 : decode cX10_feed 52 = .ok (.getfield 77, 3) := by decide +kernel
theorem dX10_feed_55 : decode cX10_feed 55 = .ok (.iload 4, 2) := by decide +kernel
theorem dX10_feed_57 : decode cX10_feed 57 = .ok (.iadd, 1) := by decide +kernel
theorem dX10_feed_58 : decode cX10_feed 58 = .ok (.lload_n 1, 1) := by decide +kernel
theorem dX10_feed_59 : decode cX10_feed 59 = .ok (.bipush 60, 2) := by decide +kernel
theorem dX10_feed_61 : decode cX10_feed 61 = .ok (.iconst 4, 1) := by decide +kernel
theorem dX10_feed_62 : decode cX10_feed 62 = .ok (.iload 4, 2) := by decide +kernel
theorem dX10_feed_64 : decode cX10_feed 64 = .ok (.imul, 1) := by decide +kernel
theorem dX10_feed_65 : decode cX10_feed 65 = .ok (.isub, 1) := by decide +kernel
theorem dX10_feed_66 : decode cX10_feed 66 = .ok (.lshr, 1) := by decide +kernel
theorem dX10_feed_67 : decode cX10_feed 67 = .ok (.ldc2_w 83, 3) := by decide +kernel
theorem dX10_feed_70 : decode cX10_feed 70 = .ok (.land, 1) := by decide +kernel
theorem dX10_feed_71 : decode cX10_feed 71 = .ok (.l2i, 1) := by decide +kernel
theorem dX10_feed_72 : decode cX10_feed 72 = .ok (.iastore, 1) := by decide +kernel
theorem dX10_feed_73 : decode cX10_feed 73 = .ok (.iinc 4 1, 3) := by decide +kernel
theorem dX10_feed_76 : decode cX10_feed 76 = .ok (.goto (-35), 3) := by decide +kernel
theorem dX10_feed_79 : decode cX10_feed 79 = .ok (.aload_n 0, 1) := by decide +kernel
theorem dX10_feed_80 : decode cX10_feed 80 = .ok (.dup, 1) := by decide +kernel
theorem dX10_feed_81 : decode cX10_feed 81 = .ok (.getfield 77, 3) := by decide +kernel
theorem dX10_feed_84 : decode cX10_feed 84 = .ok (.iload_n 3, 1) := by decide +kernel
theorem dX10_feed_85 : decode cX10_feed 85 = .ok (.iadd, 1) := by decide +kernel
theorem dX10_feed_86 : decode cX10_feed 86 = .ok (.putfield 77, 3) := by decide +kernel
theorem dX10_feed_89 : decode cX10_feed 89 = .ok (.aload_n 0, 1) := by decide +kernel
theorem dX10_feed_90 : decode cX10_feed 90 = .ok (.invokevirtual 80, 3) := by decide +kernel
theorem dX10_feed_93 : decode cX10_feed 93 = .ok (.aload_n 0, 1) := by decide +kernel
theorem dX10_feed_94 : decode cX10_feed 94 = .ok (.getfield 77, 3) := by decide +kernel
theorem dX10_feed_97 : decode cX10_feed 97 = .ok (.ireturn, 1) := by decide +kernel
set_option maxRecDepth 20000 in
theorem ggX10_set_X10_isIn : GoodIn wsX10_set wsX10_isIn := goodIn_r _ [7] (by decide +kernel) (by decide +kernel)
set_option maxRecDepth 20000 in
theorem gX10_set_X10_isIn : GoodIn wsX10_set (va_wsS RX10 69 yX10_isIn wsX10_isIn) := goodIn_app (goodIn_of _ (by decide +kernel)) ggX10_set_X10_isIn
set_option maxRecDepth 20000 in
theorem ggX10_set_X10_fail : GoodIn wsX10_set wsX10_fail := goodIn_r _ [11, 1, 18, 19, 20, 21, 22, 23, 24, 25, 26, 27, 28, 29, 30, 31, 32, 33, 34, 35, 36, 37, 38, 39, 40] (by decide +kernel) (by decide +kernel)
set_option maxRecDepth 20000 in
theorem gX10_set_X10_fail : GoodIn wsX10_set (wsV RX10 73 RX10 yX10_fail wsX10_fail) := goodIn_app (goodIn_of _ (by decide +kernel)) ggX10_set_X10_fail
set_option maxRecDepth 20000 in
theorem ggX10_set_X10_changed : GoodIn wsX10_set wsX10_changed := goodIn_r _ [15, 16, 17, 18, 19, 20, 21, 22, 23, 24, 25, 26, 27, 28, 29, 30, 31, 32, 33, 34, 35, 36, 37, 38, 39, 40] (by decide +kernel) (by decide +kernel)
set_option maxRecDepth 20000 in
theorem gX10_set_X10_changed : GoodIn wsX10_set (wsV RX10 80 RX10 yX10_changed wsX10_changed) := goodIn_app (goodIn_of _ (by decide +kernel)) ggX10_set_X10_changed
theorem dX10_set_0 : decode cX10_set 0 = .ok (.aload_n 0, 1) := by decide +kernel
theorem dX10_set_1 : decode cX10_set 1 = .ok (.iconst 0, 1) := by decide +kernel
theorem dX10_set_2 : decode cX10_set 2 = .ok (.putfield 59, 3) := by decide +kernel
theorem dX10_set_5 : decode cX10_set 5 = .ok (.iload_n 1, 1) := by decide +kernel
theorem dX10_set_6 : decode cX10_set 6 = .ok (.iconst 0, 1) := by decide +kernel
theorem dX10_set_7 : decode cX10_set 7 = .ok (.aload_n 0, 1) := by decide +kernel
theorem dX10_set_8 : decode cX10_set 8 = .ok (.getfield 77, 3) := by decide +kernel
theorem dX10_set_11 : decode cX10_set 11 = .ok (.iconst 1, 1) := by decide +kernel
theorem dX10_set_12 : decode cX10_set 12 = .ok (.isub, 1) := by decide +kernel
theorem dX10_set_13 : decode cX10_set 13 = .ok (.invokestatic 69, 3) := by decide +kernel
theorem dX10_set_16 : decode cX10_set 16 = .ok (.ifCond .ne 9, 3) := by decide +kernel
theorem dX10_set_19 : decode cX10_set 19 = .ok (.aload_n 0, 1) := by decide +kernel
theorem dX10_set_20 : decode cX10_set 20 = .ok (.iconst 1, 1) := by decide +kernel
theorem dX10_set_21 : decode cX10_set 21 = .ok (.invokevirtual 73, 3) := by decide +kernel
theorem dX10_set_24 : decode cX10_set 24 = .ok (.ireturn, 1) := by decide +kernel
theorem dX10_set_25 : decode cX10_set 25 = .ok (.iload_n 2, 1) := by decide +kernel
theorem dX10_set_26 : decode cX10_set 26 = .ok (.iconst 0, 1) := by decide +kernel
theorem dX10_set_27 : decode cX10_set 27 = .ok (.bipush 15, 2) := by decide +kernel
theorem dX10_set_29 : decode cX10_set 29 = .ok (.invokestatic 69, 3) := by decide +kernel
theorem dX10_set_32 : decode cX10_set 32 = .ok (.ifCond .ne 9, 3) := by decide +kernel
theorem dX10_set_35 : decode cX10_set 35 = .ok (.aload_n 0, 1) := by decide +kernel
theorem dX10_set_36 : decode cX10_set 36 = .ok (.iconst 2, 1) := by decide +kernel
theorem dX10_set_37 : decode cX10_set 37 = .ok (.invokevirtual 73, 3) := by decide +kernel
theorem dX10_set_40 : decode cX10_set 40 = .ok (.ireturn, 1) := by decide +kernel
theorem dX10_set_41 : decode cX10_set 41 = .ok (.aload_n 0, 1) := by decide +kernel
theorem dX10_set_42 : decode cX10_set 42 = .ok (.getfield 9, 3) := by decide +kernel
theorem dX10_set_45 : decode cX10_set 45 = .ok (.iload_n 1, 1) := by decide +kernel
theorem dX10_set_46 : decode cX10_set 46 = .ok (.iaload, 1) := by decide +kernel
theorem dX10_set_47 : decode cX10_set 47 = .ok (.istore_n 3, 1) := by decide +kernel
theorem dX10_set_48 : decode cX10_set 48 = .ok (.aload_n 0, 1) := by decide +kernel
theorem dX10_set_49 : decode cX10_set 49 = .ok (.getfield 9, 3) := by decide +kernel
theorem dX10_set_52 : decode cX10_set 52 = .ok (.iload_n 1, 1) := by decide +kernel
theorem dX10_set_53 : decode cX10_set 53 = .ok (.iload_n 2, 1) := by decide +kernel
theorem dX10_set_54 : decode cX10_set 54 = .ok (.iastore, 1) := by decide +kernel
theorem dX10_set_55 : decode cX10_set 55 = .ok (.aload_n 0, 1) := by decide +kernel
theorem dX10_set_56 : decode cX10_set 56 = .ok (.invokevirtual 80, 3) := by decide +kernel
theorem dX10_set_59 : decode cX10_set 59 = .ok (.iload_n 3, 1) := by decide +kernel
theorem dX10_set_60 : decode cX10_set 60 = .ok (.ireturn, 1) := by decide +kernel
set_option maxRecDepth 20000 in
theorem ggX10_cut_X10_isIn : GoodIn wsX10_cut wsX10_isIn := goodIn_r _ [6] (by decide +kernel) (by decide +kernel)
set_option maxRecDepth 20000 in
theorem gX10_cut_X10_isIn : GoodIn wsX10_cut (va_wsS RX10 69 yX10_isIn wsX10_isIn) := goodIn_app (goodIn_of _ (by decide +kernel)) ggX10_cut_X10_isIn
set_option maxRecDepth 20000 in
theorem ggX10_cut_X10_fail : GoodIn wsX10_cut wsX10_fail := goodIn_r _ [10, 1, 17, 18, 19, 20, 21, 22, 23, 24, 25, 26, 27, 28, 29, 30, 31, 32, 33, 34, 35, 36, 37, 38, 39] (by decide +kernel) (by decide +kernel)
set_option maxRecDepth 20000 in
theorem gX10_cut_X10_fail : GoodIn wsX10_cut (wsV RX10 73 RX10 yX10_fail wsX10_fail) := goodIn_app (goodIn_of _ (by decide +kernel)) ggX10_cut_X10_fail
set_option maxRecDepth 20000 in
theorem ggX10_cut_X10_changed : GoodIn wsX10_cut wsX10_changed := goodIn_r _ [14, 15, 16, 17, 18, 19, 20, 21, 22, 23, 24, 25, 26, 27, 28, 29, 30, 31, 32, 33, 34, 35, 36, 37, 38, 39] (by decide +kernel) (by decide +kernel)
set_option maxRecDepth 20000 in
theorem gX10_cut_X10_changed : GoodIn wsX10_cut (wsV RX10 80 RX10 yX10_changed wsX10_changed) := goodIn_app (goodIn_of _ (by decide +kernel)) ggX10_cut_X10_changed
theorem dX10_cut_0 : decode cX10_cut 0 = .ok (.aload_n 0, 1) := by decide +kernel
theorem dX10_cut_1 : decode cX10_cut 1 = .ok (.iconst 0, 1) := by decide +kernel
theorem dX10_cut_2 : decode cX10_cut 2 = .ok (.putfield 59, 3) := by decide +kernel
theorem dX10_cut_5 : decode cX10_cut 5 = .ok (.iload_n 1, 1) := by decide +kernel
theorem dX10_cut_6 : decode cX10_cut 6 = .ok (.iconst 0, 1) := by decide +kernel
theorem dX10_cut_7 : decode cX10_cut 7 = .ok (.aload_n 0, 1) := by decide +kernel
theorem dX10_cut_8 : decode cX10_cut 8 = .ok (.getfield 77, 3) := by decide +kernel
theorem dX10_cut_11 : decode cX10_cut 11 = .ok (.invokestatic 69, 3) := by decide +kernel
theorem dX10_cut_14 : decode cX10_cut 14 = .ok (.ifCond .ne 9, 3) := by decide +kernel
theorem dX10_cut_17 : decode cX10_cut 17 = .ok (.aload_n 0, 1) := by decide +kernel
theorem dX10_cut_18 : decode cX10_cut 18 = .ok (.iconst 1, 1) := by decide +kernel
theorem dX10_cut_19 : decode cX10_cut 19 = .ok (.invokevirtual 73, 3) := by decide +kernel
theorem dX10_cut_22 : decode cX10_cut 22 = .ok (.ireturn, 1) := by decide +kernel
theorem dX10_cut_23 : decode cX10_cut 23 = .ok (.aload_n 0, 1) := by decide +kernel
theorem dX10_cut_24 : decode cX10_cut 24 = .ok (.dup, 1) := by decide +kernel
theorem dX10_cut_25 : decode cX10_cut 25 = .ok (.getfield 77, 3) := by decide +kernel
theorem dX10_cut_28 : decode cX10_cut 28 = .ok (.iload_n 1, 1) := by decide +kernel
theorem dX10_cut_29 : decode cX10_cut 29 = .ok (.isub, 1) := by decide +kernel
theorem dX10_cut_30 : decode cX10_cut 30 = .ok (.putfield 77, 3) := by decide +kernel
theorem dX10_cut_33 : decode cX10_cut 33 = .ok (.aload_n 0, 1) := by decide +kernel
theorem dX10_cut_34 : decode cX10_cut 34 = .ok (.invokevirtual 80, 3) := by decide +kernel
theorem dX10_cut_37 : decode cX10_cut 37 = .ok (.aload_n 0, 1) := by decide +kernel
theorem dX10_cut_38 : decode cX10_cut 38 = .ok (.getfield 77, 3) := by decide +kernel
theorem dX10_cut_41 : decode cX10_cut 41 = .ok (.ireturn, 1) := by decide +kernel
theorem dX10_size_0 : decode cX10_size 0 = .ok (.aload_n 0, 1) := by decide +kernel
theorem dX10_size_1 : decode cX10_size 1 = .ok (.iconst 0, 1) := by decide +kernel
theorem dX10_size_2 : decode cX10_size 2 = .ok (.putfield 59, 3) := by decide +kernel
theorem dX10_size_5 : decode cX10_size 5 = .ok (.aload_n 0, 1) := by decide +kernel
theorem dX10_size_6 : decode cX10_size 6 = .ok (.getfield 77, 3) := by decide +kernel
theorem dX10_size_9 : decode cX10_size 9 = .ok (.ireturn, 1) := by decide +kernel
set_option maxRecDepth 20000 in
theorem ggX10_count_X10_isIn : GoodIn wsX10_count wsX10_isIn := goodIn_r _ [7] (by decide +kernel) (by decide +kernel)
set_option maxRecDepth 20000 in
theorem gX10_count_X10_isIn : GoodIn wsX10_count (va_wsS RX10 69 yX10_isIn wsX10_isIn) := goodIn_app (goodIn_of _ (by decide +kernel)) ggX10_count_X10_isIn
set_option maxRecDepth 20000 in
theorem ggX10_count_X10_fail : GoodIn wsX10_count wsX10_fail := goodIn_r _ [11, 1, 12, 13, 14, 15, 16, 17, 18, 19, 20, 21, 22, 23, 24, 25, 26, 27, 28, 29, 30, 31, 32, 33, 34] (by decide +kernel) (by decide +kernel)
set_option maxRecDepth 20000 in
theorem gX10_count_X10_fail : GoodIn wsX10_count (wsV RX10 73 RX10 yX10_fail wsX10_fail) := goodIn_app (goodIn_of _ (by decide +kernel)) ggX10_count_X10_fail
theorem dX10_count_0 : decode cX10_count 0 = .ok (.aload_n 0, 1) := by decide +kernel
theorem dX10_count_1 : decode cX10_count 1 = .ok (.iconst 0, 1) := by decide +kernel
theorem dX10_count_2 : decode cX10_count 2 = .ok (.putfield 59, 3) := by decide +kernel
theorem dX10_count_5 : decode cX10_count 5 = .ok (.iload_n 1, 1) := by decide +kernel
theorem dX10_count_6 : decode cX10_count 6 = .ok (.ifCond .lt 26, 3) := by decide +kernel
theorem dX10_count_9 : decode cX10_count 9 = .ok (.iload_n 2, 1) := by decide +kernel
theorem dX10_count_10 : decode cX10_count 10 = .ok (.aload_n 0, 1) := by decide +kernel
theorem dX10_count_11 : decode cX10_count 11 = .ok (.getfield 77, 3) := by decide +kernel
theorem dX10_count_14 : decode cX10_count 14 = .ok (.if_icmp .gt 18, 3) := by decide +kernel
theorem dX10_count_17 : decode cX10_count 17 = .ok (.iload_n 1, 1) := by decide +kernel
theorem dX10_count_18 : decode cX10_count 18 = .ok (.iload_n 2, 1) := by decide +kernel
theorem dX10_count_19 : decode cX10_count 19 = .ok (.if_icmp .gt 13, 3) := by decide +kernel
theorem dX10_count_22 : decode cX10_count 22 = .ok (.iload_n 3, 1) := by decide +kernel
theorem dX10_count_23 : decode cX10_count 23 = .ok (.iconst 0, 1) := by decide +kernel
theorem dX10_count_24 : decode cX10_count 24 = .ok (.bipush 15, 2) := by decide +kernel
theorem dX10_count_26 : decode cX10_count 26 = .ok (.invokestatic 69, 3) := by decide +kernel
theorem dX10_count_29 : decode cX10_count 29 = .ok (.ifCond .ne 9, 3) := by decide +kernel
theorem dX10_count_32 : decode cX10_count 32 = .ok (.aload_n 0, 1) := by decide +kernel
theorem dX10_count_33 : decode cX10_count 33 = .ok (.iconst 1, 1) := by decide +kernel
theorem dX10_count_34 : decode cX10_count 34 = .ok (.invokevirtual 73, 3) := by decide +kernel
theorem dX10_count_37 : decode cX10_count 37 = .ok (.ireturn, 1) := by decide +kernel
theorem dX10_count_38 : decode cX10_count 38 = .ok (.iconst 0, 1) := by decide +kernel
theorem dX10_count_39 : decode cX10_count 39 = .ok (.istore 4, 2) := by decide +kernel
theorem dX10_count_41 : decode cX10_count 41 = .ok (.iload_n 1, 1) := by decide +kernel
theorem dX10_count_42 : decode cX10_count 42 = .ok (.istore 5, 2) := by decide +kernel
theorem dX10_count_44 : decode cX10_count 44 = .ok (.iload 5, 2) := by decide +kernel
theorem dX10_count_46 : decode cX10_count 46 = .ok (.iload_n 2, 1) := by decide +kernel
theorem dX10_count_47 : decode cX10_count 47 = .ok (.if_icmp .ge 30, 3) := by decide +kernel
theorem dX10_count_50 : decode cX10_count 50 = .ok (.iload 4, 2) := by decide +kernel
theorem dX10_count_52 : decode cX10_count 52 = .ok (.aload_n 0, 1) := by decide +kernel
theorem dX10_count_53 : decode cX10_count 53 = .ok (.getfield 9, 3) := by decide +kernel
theorem dX10_count_56 : decode cX10_count 56 = .ok (.iload 5, 2) := by decide +kernel
theorem dX10_count_58 : decode cX10_count 58 = .ok (.iaload, 1) := by decide +kernel
theorem dX10_count_59 : decode cX10_count 59 = .ok (.iload_n 3, 1) := by decide +kernel
theorem dX10_count_60 : decode cX10_count 60 = .ok (.if_icmp .ne 7, 3) := by decide +kernel
theorem dX10_count_63 : decode cX10_count 63 = .ok (.iconst 1, 1) := by decide +kernel
theorem dX10_count_64 : decode cX10_count 64 = .ok (.goto 4, 3) := by decide +kernel
theorem dX10_count_67 : decode cX10_count 67 = .ok (.iconst 0, 1) := by decide +kernel
theorem dX10_count_68 : decode cX10_count 68 = .ok (.iadd, 1) := by decide +kernel
theorem dX10_count_69 : decode cX10_count 69 = .ok (.istore 4, 2) := by decide +kernel
theorem dX10_count_71 : decode cX10_count 71 = .ok (.iinc 5 1, 3) := by decide +kernel
theorem dX10_count_74 : decode cX10_count 74 = .ok (.goto (-30), 3) := by decide +kernel
theorem dX10_count_77 : decode cX10_count 77 = .ok (.iload 4, 2) := by decide +kernel
theorem dX10_count_79 : decode cX10_count 79 = .ok (.ireturn, 1) := by decide +kernel
set_option maxRecDepth 20000 in
theorem ggX10_setLimit_X10_isIn : GoodIn wsX10_setLimit wsX10_isIn := goodIn_r _ [6] (by decide +kernel) (by decide +kernel)
set_option maxRecDepth 20000 in
theorem gX10_setLimit_X10_isIn : GoodIn wsX10_setLimit (va_wsS RX10 69 yX10_isIn wsX10_isIn) := goodIn_app (goodIn_of _ (by decide +kernel)) ggX10_setLimit_X10_isIn
set_option maxRecDepth 20000 in
theorem ggX10_setLimit_X10_fail : GoodIn wsX10_setLimit wsX10_fail := goodIn_r _ [10, 1, 17, 18, 19, 20, 21, 22, 23, 24, 25, 26, 27, 28, 29, 30, 31, 32, 33, 34, 35, 36, 37, 38, 39] (by decide +kernel) (by decide +kernel)
set_option maxRecDepth 20000 in
theorem gX10_setLimit_X10_fail : GoodIn wsX10_setLimit (wsV RX10 73 RX10 yX10_fail wsX10_fail) := goodIn_app (goodIn_of _ (by decide +kernel)) ggX10_setLimit_X10_fail
set_option maxRecDepth 20000 in
theorem ggX10_setLimit_X10_changed : GoodIn wsX10_setLimit wsX10_changed := goodIn_r _ [14, 15, 16, 17, 18, 19, 20, 21, 22, 23, 24, 25, 26, 27, 28, 29, 30, 31, 32, 33, 34, 35, 36, 37, 38, 39] (by decide +kernel) (by decide +kernel)
set_option maxRecDepth 20000 in
theorem gX10_setLimit_X10_changed : GoodIn wsX10_setLimit (wsV RX10 80 RX10 yX10_changed wsX10_changed) := goodIn_app (goodIn_of _ (by decide +kernel)) ggX10_setLimit_X10_changed
theorem dX10_setLimit_0 : decode cX10_setLimit 0 = .ok (.aload_n 0, 1) := by decide +kernel
theorem dX10_setLimit_1 : decode cX10_setLimit 1 = .ok (.iconst 0, 1) := by decide +kernel
theorem dX10_setLimit_2 : decode cX10_setLimit 2 = .ok (.putfield 59, 3) := by decide +kernel
theorem dX10_setLimit_5 : decode cX10_setLimit 5 = .ok (.iload_n 1, 1) := by decide +kernel
theorem dX10_setLimit_6 : decode cX10_setLimit 6 = .ok (.iconst 1, 1) := by decide +kernel
theorem dX10_setLimit_7 : decode cX10_setLimit 7 = .ok (.bipush 6, 2) := by decide +kernel
theorem dX10_setLimit_9 : decode cX10_setLimit 9 = .ok (.invokestatic 69, 3) := by decide +kernel
theorem dX10_setLimit_12 : decode cX10_setLimit 12 = .ok (.ifCond .ne 9, 3) := by decide +kernel
theorem dX10_setLimit_15 : decode cX10_setLimit 15 = .ok (.aload_n 0, 1) := by decide +kernel
theorem dX10_setLimit_16 : decode cX10_setLimit 16 = .ok (.iconst 1, 1) := by decide +kernel
theorem dX10_setLimit_17 : decode cX10_setLimit 17 = .ok (.invokevirtual 73, 3) := by decide +kernel
theorem dX10_setLimit_20 : decode cX10_setLimit 20 = .ok (.ireturn, 1) := by decide +kernel
theorem dX10_setLimit_21 : decode cX10_setLimit 21 = .ok (.aload_n 0, 1) := by decide +kernel
theorem dX10_setLimit_22 : decode cX10_setLimit 22 = .ok (.getfield 13, 3) := by decide +kernel
theorem dX10_setLimit_25 : decode cX10_setLimit 25 = .ok (.istore_n 2, 1) := by decide +kernel
theorem dX10_setLimit_26 : decode cX10_setLimit 26 = .ok (.aload_n 0, 1) := by decide +kernel
theorem dX10_setLimit_27 : decode cX10_setLimit 27 = .ok (.iload_n 1, 1) := by decide +kernel
theorem dX10_setLimit_28 : decode cX10_setLimit 28 = .ok (.putfield 13, 3) := by decide +kernel
theorem dX10_setLimit_31 : decode cX10_setLimit 31 = .ok (.aload_n 0, 1) := by decide +kernel
theorem dX10_setLimit_32 : decode cX10_setLimit 32 = .ok (.invokevirtual 80, 3) := by decide +kernel
theorem dX10_setLimit_35 : decode cX10_setLimit 35 = .ok (.iload_n 2, 1) := by decide +kernel
theorem dX10_setLimit_36 : decode cX10_setLimit 36 = .ok (.ireturn, 1) := by decide +kernel
set_option maxRecDepth 20000 in
theorem ggX10_setPrices_X10_isIn : GoodIn wsX10_setPrices wsX10_isIn := goodIn_r _ [7] (by decide +kernel) (by decide +kernel)
set_option maxRecDepth 20000 in
theorem gX10_setPrices_X10_isIn : GoodIn wsX10_setPrices (va_wsS RX10 69 yX10_isIn wsX10_isIn) := goodIn_app (goodIn_of _ (by decide +kernel)) ggX10_setPrices_X10_isIn
set_option maxRecDepth 20000 in
theorem ggX10_setPrices_X10_fail : GoodIn wsX10_setPrices wsX10_fail := goodIn_r _ [11, 1, 18, 19, 20, 21, 22, 23, 24, 25, 26, 27, 28, 29, 30, 31, 32, 33, 34, 35, 36, 37, 38, 39, 40] (by decide +kernel) (by decide +kernel)
set_option maxRecDepth 20000 in
theorem gX10_setPrices_X10_fail : GoodIn wsX10_setPrices (wsV RX10 73 RX10 yX10_fail wsX10_fail) := goodIn_app (goodIn_of _ (by decide +kernel)) ggX10_setPrices_X10_fail
set_option maxRecDepth 20000 in
theorem ggX10_setPrices_X10_changed : GoodIn wsX10_setPrices wsX10_changed := goodIn_r _ [15, 16, 17, 18, 19, 20, 21, 22, 23, 24, 25, 26, 27, 28, 29, 30, 31, 32, 33, 34, 35, 36, 37, 38, 39, 40] (by decide +kernel) (by decide +kernel)
set_option maxRecDepth 20000 in
theorem gX10_setPrices_X10_changed : GoodIn wsX10_setPrices (wsV RX10 80 RX10 yX10_changed wsX10_changed) := goodIn_app (goodIn_of _ (by decide +kernel)) ggX10_setPrices_X10_changed
theorem dX10_setPrices_0 : decode cX10_setPrices 0 = .ok (.aload_n 0, 1) := by decide +kernel
theorem dX10_setPrices_1 : decode cX10_setPrices 1 = .ok (.iconst 0, 1) := by decide +kernel
theorem dX10_setPrices_2 : decode cX10_setPrices 2 = .ok (.putfield 59, 3) := by decide +kernel
theorem dX10_setPrices_5 : decode cX10_setPrices 5 = .ok (.iload_n 1, 1) := by decide +kernel
theorem dX10_setPrices_6 : decode cX10_setPrices 6 = .ok (.iconst 0, 1) := by decide +kernel
theorem dX10_setPrices_7 : decode cX10_setPrices 7 = .ok (.sipush 200, 3) := by decide +kernel
theorem dX10_setPrices_10 : decode cX10_setPrices 10 = .ok (.invokestatic 69, 3) := by decide +kernel
theorem dX10_setPrices_13 : decode cX10_setPrices 13 = .ok (.ifCond .eq 13, 3) := by decide +kernel
theorem dX10_setPrices_16 : decode cX10_setPrices 16 = .ok (.iload_n 2, 1) := by decide +kernel
theorem dX10_setPrices_17 : decode cX10_setPrices 17 = .ok (.iconst 0, 1) := by decide +kernel
theorem dX10_setPrices_18 : decode cX10_setPrices 18 = .ok (.bipush 20, 2) := by decide +kernel
theorem dX10_setPrices_20 : decode cX10_setPrices 20 = .ok (.invokestatic 69, 3) := by decide +kernel
theorem dX10_setPrices_23 : decode cX10_setPrices 23 = .ok (.ifCond .ne 17, 3) := by decide +kernel
theorem dX10_setPrices_26 : decode cX10_setPrices 26 = .ok (.aload_n 0, 1) := by decide +kernel
theorem dX10_setPrices_27 : decode cX10_setPrices 27 = .ok (.iconst 1, 1) := by decide +kernel
theorem dX10_setPrices_28 : decode cX10_setPrices 28 = .ok (.invokevirtual 73, 3) := by decide +kernel
theorem dX10_setPrices_31 : decode cX10_setPrices 31 = .ok (.ifCond .eq 7, 3) := by decide +kernel
theorem dX10_setPrices_34 : decode cX10_setPrices 34 = .ok (.iconst 1, 1) := by decide +kernel
theorem dX10_setPrices_35 : decode cX10_setPrices 35 = .ok (.goto 4, 3) := by decide +kernel
theorem dX10_setPrices_38 : decode cX10_setPrices 38 = .ok (.iconst 0, 1) := by decide +kernel
theorem dX10_setPrices_39 : decode cX10_setPrices 39 = .ok (.ireturn, 1) := by decide +kernel
theorem dX10_setPrices_40 : decode cX10_setPrices 40 = .ok (.aload_n 0, 1) := by decide +kernel
theorem dX10_setPrices_41 : decode cX10_setPrices 41 = .ok (.getfield 17, 3) := by decide +kernel
theorem dX10_setPrices_44 : decode cX10_setPrices 44 = .ok (.iload_n 1, 1) := by decide +kernel
theorem dX10_setPrices_45 : decode cX10_setPrices 45 = .ok (.if_icmp .ne 11, 3) := by decide +kernel
theorem dX10_setPrices_48 : decode cX10_setPrices 48 = .ok (.aload_n 0, 1) := by decide +kernel
theorem dX10_setPrices_49 : decode cX10_setPrices 49 = .ok (.getfield 20, 3) := by decide +kernel
theorem dX10_setPrices_52 : decode cX10_setPrices 52 = .ok (.iload_n 2, 1) := by decide +kernel
theorem dX10_setPrices_53 : decode cX10_setPrices 53 = .ok (.if_icmp .eq 7, 3) := by decide +kernel
theorem dX10_setPrices_56 : decode cX10_setPrices 56 = .ok (.iconst 1, 1) := by decide +kernel
theorem dX10_setPrices_57 : decode cX10_setPrices 57 = .ok (.goto 4, 3) := by decide +kernel
theorem dX10_setPrices_60 : decode cX10_setPrices 60 = .ok (.iconst 0, 1) := by decide +kernel
theorem dX10_setPrices_61 : decode cX10_setPrices 61 = .ok (.istore_n 3, 1) := by decide +kernel
theorem dX10_setPrices_62 : decode cX10_setPrices 62 = .ok (.aload_n 0, 1) := by decide +kernel
theorem dX10_setPrices_63 : decode cX10_setPrices 63 = .ok (.iload_n 1, 1) := by decide +kernel
theorem dX10_setPrices_64 : decode cX10_setPrices 64 = .ok (.putfield 17, 3) := by decide +kernel
theorem dX10_setPrices_67 : decode cX10_setPrices 67 = .ok (.aload_n 0, 1) := by decide +kernel
theorem dX10_setPrices_68 : decode cX10_setPrices 68 = .ok (.iload_n 2, 1) := by decide +kernel
theorem dX10_setPrices_69 : decode cX10_setPrices 69 = .ok (.putfield 20, 3) := by decide +kernel
theorem dX10_setPrices_72 : decode cX10_setPrices 72 = .ok (.aload_n 0, 1) := by decide +kernel
theorem dX10_setPrices_73 : decode cX10_setPrices 73 = .ok (.invokevirtual 80, 3) := by decide +kernel
theorem dX10_setPrices_76 : decode cX10_setPrices 76 = .ok (.iload_n 3, 1) := by decide +kernel
theorem dX10_setPrices_77 : decode cX10_setPrices 77 = .ok (.ireturn, 1) := by decide +kernel
set_option maxRecDepth 20000 in
theorem ggX10_setGreatest_X10_isIn : GoodIn wsX10_setGreatest wsX10_isIn := goodIn_r _ [6] (by decide +kernel) (by decide +kernel)
set_option maxRecDepth 20000 in
theorem gX10_setGreatest_X10_isIn : GoodIn wsX10_setGreatest (va_wsS RX10 69 yX10_isIn wsX10_isIn) := goodIn_app (goodIn_of _ (by decide +kernel)) ggX10_setGreatest_X10_isIn
set_option maxRecDepth 20000 in
theorem ggX10_setGreatest_X10_fail : GoodIn wsX10_setGreatest wsX10_fail := goodIn_r _ [10, 1, 17, 18, 19, 20, 21, 22, 23, 24, 25, 26, 27, 28, 29, 30, 31, 32, 33, 34, 35, 36, 37, 38, 39] (by decide +kernel) (by decide +kernel)
set_option maxRecDepth 20000 in
theorem gX10_setGreatest_X10_fail : GoodIn wsX10_setGreatest (wsV RX10 73 RX10 yX10_fail wsX10_fail) := goodIn_app (goodIn_of _ (by decide +kernel)) ggX10_setGreatest_X10_fail
set_option maxRecDepth 20000 in
theorem ggX10_setGreatest_X10_changed : GoodIn wsX10_setGreatest wsX10_changed := goodIn_r _ [14, 15, 16, 17, 18, 19, 20, 21, 22, 23, 24, 25, 26, 27, 28, 29, 30, 31, 32, 33, 34, 35, 36, 37, 38, 39] (by decide +kernel) (by decide +kernel)
set_option maxRecDepth 20000 in
theorem gX10_setGreatest_X10_changed : GoodIn wsX10_setGreatest (wsV RX10 80 RX10 yX10_changed wsX10_changed) := goodIn_app (goodIn_of _ (by decide +kernel)) ggX10_setGreatest_X10_changed
theorem dX10_setGreatest_0 : decode cX10_setGreatest 0 = .ok (.aload_n 0, 1) := by decide +kernel
theorem dX10_setGreatest_1 : decode cX10_setGreatest 1 = .ok (.iconst 0, 1) := by decide +kernel
theorem dX10_setGreatest_2 : decode cX10_setGreatest 2 = .ok (.putfield 59, 3) := by decide +kernel
theorem dX10_setGreatest_5 : decode cX10_setGreatest 5 = .ok (.iload_n 1, 1) := by decide +kernel
theorem dX10_setGreatest_6 : decode cX10_setGreatest 6 = .ok (.iconst 1, 1) := by decide +kernel
theorem dX10_setGreatest_7 : decode cX10_setGreatest 7 = .ok (.bipush 80, 2) := by decide +kernel
theorem dX10_setGreatest_9 : decode cX10_setGreatest 9 = .ok (.invokestatic 69, 3) := by decide +kernel
theorem dX10_setGreatest_12 : decode cX10_setGreatest 12 = .ok (.ifCond .ne 9, 3) := by decide +kernel
theorem dX10_setGreatest_15 : decode cX10_setGreatest 15 = .ok (.aload_n 0, 1) := by decide +kernel
theorem dX10_setGreatest_16 : decode cX10_setGreatest 16 = .ok (.iconst 1, 1) := by decide +kernel
theorem dX10_setGreatest_17 : decode cX10_setGreatest 17 = .ok (.invokevirtual 73, 3) := by decide +kernel
theorem dX10_setGreatest_20 : decode cX10_setGreatest 20 = .ok (.ireturn, 1) := by decide +kernel
theorem dX10_setGreatest_21 : decode cX10_setGreatest 21 = .ok (.aload_n 0, 1) := by decide +kernel
theorem dX10_setGreatest_22 : decode cX10_setGreatest 22 = .ok (.getfield 23, 3) := by decide +kernel
theorem dX10_setGreatest_25 : decode cX10_setGreatest 25 = .ok (.istore_n 2, 1) := by decide +kernel
theorem dX10_setGreatest_26 : decode cX10_setGreatest 26 = .ok (.aload_n 0, 1) := by decide +kernel
theorem dX10_setGreatest_27 : decode cX10_setGreatest 27 = .ok (.iload_n 1, 1) := by decide +kernel
theorem dX10_setGreatest_28 : decode cX10_setGreatest 28 = .ok (.putfield 23, 3) := by decide +kernel
theorem dX10_setGreatest_31 : decode cX10_setGreatest 31 = .ok (.aload_n 0, 1) := by decide +kernel
theorem dX10_setGreatest_32 : decode cX10_setGreatest 32 = .ok (.invokevirtual 80, 3) := by decide +kernel
theorem dX10_setGreatest_35 : decode cX10_setGreatest 35 = .ok (.iload_n 2, 1) := by decide +kernel
theorem dX10_setGreatest_36 : decode cX10_setGreatest 36 = .ok (.ireturn, 1) := by decide +kernel
theorem dX10_from_0 : decode cX10_from 0 = .ok (.iload_n 2, 1) := by decide +kernel
theorem dX10_from_1 : decode cX10_from 1 = .ok (.ifCond .ge 8, 3) := by decide +kernel
theorem dX10_from_4 : decode cX10_from 4 = .ok (.ldc 85, 2) := by decide +kernel
theorem dX10_from_6 : decode cX10_from 6 = .ok (.goto 14, 3) := by decide +kernel
theorem dX10_from_9 : decode cX10_from 9 = .ok (.aload_n 0, 1) := by decide +kernel
theorem dX10_from_10 : decode cX10_from 10 = .ok (.getfield 44, 3) := by decide +kernel
theorem dX10_from_13 : decode cX10_from 13 = .ok (.bipush 65, 2) := by decide +kernel
theorem dX10_from_15 : decode cX10_from 15 = .ok (.iload_n 1, 1) := by decide +kernel
theorem dX10_from_16 : decode cX10_from 16 = .ok (.imul, 1) := by decide +kernel
theorem dX10_from_17 : decode cX10_from 17 = .ok (.iload_n 2, 1) := by decide +kernel
theorem dX10_from_18 : decode cX10_from 18 = .ok (.iadd, 1) := by decide +kernel
theorem dX10_from_19 : decode cX10_from 19 = .ok (.iaload, 1) := by decide +kernel
theorem dX10_from_20 : decode cX10_from 20 = .ok (.ireturn, 1) := by decide +kernel
set_option maxRecDepth 20000 in
theorem ggX10_sumOfLengths_X10_from : GoodIn wsX10_sumOfLengths wsX10_from := goodIn_r _ [13, 4, 2, 14, 15, 16, 17, 18, 19, 20, 21, 22, 23, 24, 25, 26, 27, 28, 29, 30, 31, 32, 33, 34, 35, 36] (by decide +kernel) (by decide +kernel)
set_option maxRecDepth 20000 in
theorem gX10_sumOfLengths_X10_from : GoodIn wsX10_sumOfLengths (wsV RX10 86 RX10 yX10_from wsX10_from) := goodIn_app (goodIn_of _ (by decide +kernel)) ggX10_sumOfLengths_X10_from
theorem dX10_sumOfLengths_0 : decode cX10_sumOfLengths 0 = .ok (.iconst 1, 1) := by decide +kernel
theorem dX10_sumOfLengths_1 : decode cX10_sumOfLengths 1 = .ok (.aload_n 0, 1) := by decide +kernel
theorem dX10_sumOfLengths_2 : decode cX10_sumOfLengths 2 = .ok (.getfield 13, 3) := by decide +kernel
theorem dX10_sumOfLengths_5 : decode cX10_sumOfLengths 5 = .ok (.ishl, 1) := by decide +kernel
theorem dX10_sumOfLengths_6 : decode cX10_sumOfLengths 6 = .ok (.istore_n 1, 1) := by decide +kernel
theorem dX10_sumOfLengths_7 : decode cX10_sumOfLengths 7 = .ok (.iconst 0, 1) := by decide +kernel
theorem dX10_sumOfLengths_8 : decode cX10_sumOfLengths 8 = .ok (.istore_n 2, 1) := by decide +kernel
theorem dX10_sumOfLengths_9 : decode cX10_sumOfLengths 9 = .ok (.iload_n 2, 1) := by decide +kernel
theorem dX10_sumOfLengths_10 : decode cX10_sumOfLengths 10 = .ok (.iload_n 1, 1) := by decide +kernel
theorem dX10_sumOfLengths_11 : decode cX10_sumOfLengths 11 = .ok (.if_icmp .gt 20, 3) := by decide +kernel
theorem dX10_sumOfLengths_14 : decode cX10_sumOfLengths 14 = .ok (.aload_n 0, 1) := by decide +kernel
theorem dX10_sumOfLengths_15 : decode cX10_sumOfLengths 15 = .ok (.getfield 44, 3) := by decide +kernel
theorem dX10_sumOfLengths_18 : decode cX10_sumOfLengths 18 = .ok (.sipush 1040, 3) := by decide +kernel
theorem dX10_sumOfLengths_21 : decode cX10_sumOfLengths 21 = .ok (.iload_n 2, 1) := by decide +kernel
theorem dX10_sumOfLengths_22 : decode cX10_sumOfLengths 22 = .ok (.iadd, 1) := by decide +kernel
theorem dX10_sumOfLengths_23 : decode cX10_sumOfLengths 23 = .ok (.iconst 0, 1) := by decide +kernel
theorem dX10_sumOfLengths_24 : decode cX10_sumOfLengths 24 = .ok (.iastore, 1) := by decide +kernel
theorem dX10_sumOfLengths_25 : decode cX10_sumOfLengths 25 = .ok (.iinc 2 1, 3) := by decide +kernel
theorem dX10_sumOfLengths_28 : decode cX10_sumOfLengths 28 = .ok (.goto (-19), 3) := by decide +kernel
theorem dX10_sumOfLengths_31 : decode cX10_sumOfLengths 31 = .ok (.bipush 15, 2) := by decide +kernel
theorem dX10_sumOfLengths_33 : decode cX10_sumOfLengths 33 = .ok (.istore_n 2, 1) := by decide +kernel
theorem dX10_sumOfLengths_34 : decode cX10_sumOfLengths 34 = .ok (.iload_n 2, 1) := by decide +kernel
theorem dX10_sumOfLengths_35 : decode cX10_sumOfLengths 35 = .ok (.ifCond .lt 121, 3) := by decide +kernel
theorem dX10_sumOfLengths_38 : decode cX10_sumOfLengths 38 = .ok (.iconst 0, 1) := by decide +kernel
theorem dX10_sumOfLengths_39 : decode cX10_sumOfLengths 39 = .ok (.istore_n 3, 1) := by decide +kernel
theorem dX10_sumOfLengths_40 : decode cX10_sumOfLengths 40 = .ok (.iload_n 3, 1) := by decide +kernel
theorem dX10_sumOfLengths_41 : decode cX10_sumOfLengths 41 = .ok (.iload_n 1, 1) := by decide +kernel
theorem dX10_sumOfLengths_42 : decode cX10_sumOfLengths 42 = .ok (.if_icmp .gt 108, 3) := by decide +kernel
theorem dX10_sumOfLengths_45 : decode cX10_sumOfLengths 45 = .ok (.aload_n 0, 1) := by decide +kernel
theorem dX10_sumOfLengths_46 : decode cX10_sumOfLengths 46 = .ok (.getfield 41, 3) := by decide +kernel
theorem dX10_sumOfLengths_49 : decode cX10_sumOfLengths 49 = .ok (.iload_n 2, 1) := by decide +kernel
theorem dX10_sumOfLengths_50 : decode cX10_sumOfLengths 50 = .ok (.iaload, 1) := by decide +kernel
theorem dX10_sumOfLengths_51 : decode cX10_sumOfLengths 51 = .ok (.ifCond .ne 14, 3) := by decide +kernel
theorem dX10_sumOfLengths_54 : decode cX10_sumOfLengths 54 = .ok (.aload_n 0, 1) := by decide +kernel
theorem dX10_sumOfLengths_55 : decode cX10_sumOfLengths 55 = .ok (.iload_n 2, 1) := by decide +kernel
theorem dX10_sumOfLengths_56 : decode cX10_sumOfLengths 56 = .ok (.iconst 1, 1) := by decide +kernel
theorem dX10_sumOfLengths_57 : decode cX10_sumOfLengths 57 = .ok (.iadd, 1) := by decide +kernel
theorem dX10_sumOfLengths_58 : decode cX10_sumOfLengths 58 = .ok (.iload_n 3, 1) := by decide +kernel
theorem dX10_sumOfLengths_59 : decode cX10_sumOfLengths 59 = .ok (.invokevirtual 86, 3) := by decide +kernel
theorem dX10_sumOfLengths_62 : decode cX10_sumOfLengths 62 = .ok (.goto 5, 3) := by decide +kernel
theorem dX10_sumOfLengths_65 : decode cX10_sumOfLengths 65 = .ok (.ldc 85, 2) := by decide +kernel
theorem dX10_sumOfLengths_67 : decode cX10_sumOfLengths 67 = .ok (.istore 4, 2) := by decide +kernel
theorem dX10_sumOfLengths_69 : decode cX10_sumOfLengths 69 = .ok (.iconst 1, 1) := by decide +kernel
theorem dX10_sumOfLengths_70 : decode cX10_sumOfLengths 70 = .ok (.istore 5, 2) := by decide +kernel
theorem dX10_sumOfLengths_72 : decode cX10_sumOfLengths 72 = .ok (.iload 5, 2) := by decide +kernel
theorem dX10_sumOfLengths_74 : decode cX10_sumOfLengths 74 = .ok (.aload_n 0, 1) := by decide +kernel
theorem dX10_sumOfLengths_75 : decode cX10_sumOfLengths 75 = .ok (.getfield 13, 3) := by decide +kernel
theorem dX10_sumOfLengths_78 : decode cX10_sumOfLengths 78 = .ok (.if_icmp .gt 53, 3) := by decide +kernel
theorem dX10_sumOfLengths_81 : decode cX10_sumOfLengths 81 = .ok (.aload_n 0, 1) := by decide +kernel
theorem dX10_sumOfLengths_82 : decode cX10_sumOfLengths 82 = .ok (.getfield 41, 3) := by decide +kernel
theorem dX10_sumOfLengths_85 : decode cX10_sumOfLengths 85 = .ok (.iload_n 2, 1) := by decide +kernel
theorem dX10_sumOfLengths_86 : decode cX10_sumOfLengths 86 = .ok (.iaload, 1) := by decide +kernel
theorem dX10_sumOfLengths_87 : decode cX10_sumOfLengths 87 = .ok (.ifCond .le 44, 3) := by decide +kernel
theorem dX10_sumOfLengths_90 : decode cX10_sumOfLengths 90 = .ok (.iload 4, 2) := by decide +kernel
theorem dX10_sumOfLengths_92 : decode cX10_sumOfLengths 92 = .ok (.aload_n 0, 1) := by decide +kernel
theorem dX10_sumOfLengths_93 : decode cX10_sumOfLengths 93 = .ok (.getfield 41, 3) := by decide +kernel
theorem dX10_sumOfLengths_96 : decode cX10_sumOfLengths 96 = .ok (.iload_n 2, 1) := by decide +kernel
theorem dX10_sumOfLengths_97 : decode cX10_sumOfLengths 97 = .ok (.iaload, 1) := by decide +kernel
theorem dX10_sumOfLengths_98 : decode cX10_sumOfLengths 98 = .ok (.iload 5, 2) := by decide +kernel
theorem dX10_sumOfLengths_100 : decode cX10_sumOfLengths 100 = .ok (.imul, 1) := by decide +kernel
theorem dX10_sumOfLengths_101 : decode cX10_sumOfLengths 101 = .ok (.aload_n 0, 1) := by decide +kernel
theorem dX10_sumOfLengths_102 : decode cX10_sumOfLengths 102 = .ok (.iload_n 2, 1) := by decide +kernel
theorem dX10_sumOfLengths_103 : decode cX10_sumOfLengths 103 = .ok (.iconst 1, 1) := by decide +kernel
theorem dX10_sumOfLengths_104 : decode cX10_sumOfLengths 104 = .ok (.iadd, 1) := by decide +kernel
theorem dX10_sumOfLengths_105 : decode cX10_sumOfLengths 105 = .ok (.iload_n 3, 1) := by decide +kernel
theorem dX10_sumOfLengths_106 : decode cX10_sumOfLengths 106 = .ok (.iconst 1, 1) := by decide +kernel
theorem dX10_sumOfLengths_107 : decode cX10_sumOfLengths 107 = .ok (.aload_n 0, 1) := by decide +kernel
theorem dX10_sumOfLengths_108 : decode cX10_sumOfLengths 108 = .ok (.getfield 13, 3) := by decide +kernel
theorem dX10_sumOfLengths_111 : decode cX10_sumOfLengths 111 = .ok (.iload 5, 2) := by decide +kernel
theorem dX10_sumOfLengths_113 : decode cX10_sumOfLengths 113 = .ok (.isub, 1) := by decide +kernel
theorem dX10_sumOfLengths_114 : decode cX10_sumOfLengths 114 = .ok (.ishl, 1) := by decide +kernel
theorem dX10_sumOfLengths_115 : decode cX10_sumOfLengths 115 = .ok (.isub, 1) := by decide +kernel
theorem dX10_sumOfLengths_116 : decode cX10_sumOfLengths 116 = .ok (.invokevirtual 86, 3) := by decide +kernel
theorem dX10_sumOfLengths_119 : decode cX10_sumOfLengths 119 = .ok (.iadd, 1) := by decide +kernel
theorem dX10_sumOfLengths_120 : decode cX10_sumOfLengths 120 = .ok (.invokestatic 90, 3) := by decide +kernel
theorem dX10_sumOfLengths_123 : decode cX10_sumOfLengths 123 = .ok (.istore 4, 2) := by decide +kernel
theorem dX10_sumOfLengths_125 : decode cX10_sumOfLengths 125 = .ok (.iinc 5 1, 3) := by decide +kernel
theorem dX10_sumOfLengths_128 : decode cX10_sumOfLengths 128 = .ok (.goto (-56), 3) := by decide +kernel
theorem dX10_sumOfLengths_131 : decode cX10_sumOfLengths 131 = .ok (.aload_n 0, 1) := by decide +kernel
theorem dX10_sumOfLengths_132 : decode cX10_sumOfLengths 132 = .ok (.getfield 44, 3) := by decide +kernel
theorem dX10_sumOfLengths_135 : decode cX10_sumOfLengths 135 = .ok (.bipush 65, 2) := by decide +kernel
theorem dX10_sumOfLengths_137 : decode cX10_sumOfLengths 137 = .ok (.iload_n 2, 1) := by decide +kernel
theorem dX10_sumOfLengths_138 : decode cX10_sumOfLengths 138 = .ok (.imul, 1) := by decide +kernel
theorem dX10_sumOfLengths_139 : decode cX10_sumOfLengths 139 = .ok (.iload_n 3, 1) := by decide +kernel
theorem dX10_sumOfLengths_140 : decode cX10_sumOfLengths 140 = .ok (.iadd, 1) := by decide +kernel
theorem dX10_sumOfLengths_141 : decode cX10_sumOfLengths 141 = .ok (.iload 4, 2) := by decide +kernel
theorem dX10_sumOfLengths_143 : decode cX10_sumOfLengths 143 = .ok (.iastore, 1) := by decide +kernel
theorem dX10_sumOfLengths_144 : decode cX10_sumOfLengths 144 = .ok (.iinc 3 1, 3) := by decide +kernel
theorem dX10_sumOfLengths_147 : decode cX10_sumOfLengths 147 = .ok (.goto (-107), 3) := by decide +kernel
theorem dX10_sumOfLengths_150 : decode cX10_sumOfLengths 150 = .ok (.iinc 2 (-1), 3) := by decide +kernel
theorem dX10_sumOfLengths_153 : decode cX10_sumOfLengths 153 = .ok (.goto (-119), 3) := by decide +kernel
theorem dX10_sumOfLengths_156 : decode cX10_sumOfLengths 156 = .ok (.aload_n 0, 1) := by decide +kernel
theorem dX10_sumOfLengths_157 : decode cX10_sumOfLengths 157 = .ok (.iconst 0, 1) := by decide +kernel
theorem dX10_sumOfLengths_158 : decode cX10_sumOfLengths 158 = .ok (.iload_n 1, 1) := by decide +kernel
theorem dX10_sumOfLengths_159 : decode cX10_sumOfLengths 159 = .ok (.invokevirtual 86, 3) := by decide +kernel
theorem dX10_sumOfLengths_162 : decode cX10_sumOfLengths 162 = .ok (.ireturn, 1) := by decide +kernel
set_option maxRecDepth 20000 in
theorem ggX10_findCode_X10_from : GoodIn wsX10_findCode wsX10_from := goodIn_r _ [8, 9, 10, 11, 12, 13, 14, 15, 16, 17, 18, 19, 20, 21, 22, 23, 24, 25, 26, 27, 28, 29, 30, 31, 32, 33] (by decide +kernel) (by decide +kernel)
set_option maxRecDepth 20000 in
theorem gX10_findCode_X10_from : GoodIn wsX10_findCode (wsV RX10 86 RX10 yX10_from wsX10_from) := goodIn_app (goodIn_of _ (by decide +kernel)) ggX10_findCode_X10_from
theorem dX10_findCode_0 : decode cX10_findCode 0 = .ok (.iconst 1, 1) := by decide +kernel
theorem dX10_findCode_1 : decode cX10_findCode 1 = .ok (.aload_n 0, 1) := by decide +kernel
theorem dX10_findCode_2 : decode cX10_findCode 2 = .ok (.getfield 13, 3) := by decide +kernel
theorem dX10_findCode_5 : decode cX10_findCode 5 = .ok (.ishl, 1) := by decide +kernel
theorem dX10_findCode_6 : decode cX10_findCode 6 = .ok (.istore_n 1, 1) := by decide +kernel
theorem dX10_findCode_7 : decode cX10_findCode 7 = .ok (.iconst 0, 1) := by decide +kernel
theorem dX10_findCode_8 : decode cX10_findCode 8 = .ok (.istore_n 2, 1) := by decide +kernel
theorem dX10_findCode_9 : decode cX10_findCode 9 = .ok (.iload_n 2, 1) := by decide +kernel
theorem dX10_findCode_10 : decode cX10_findCode 10 = .ok (.bipush 16, 2) := by decide +kernel
theorem dX10_findCode_12 : decode cX10_findCode 12 = .ok (.if_icmp .ge 89, 3) := by decide +kernel
theorem dX10_findCode_15 : decode cX10_findCode 15 = .ok (.aload_n 0, 1) := by decide +kernel
theorem dX10_findCode_16 : decode cX10_findCode 16 = .ok (.getfield 47, 3) := by decide +kernel
theorem dX10_findCode_19 : decode cX10_findCode 19 = .ok (.iload_n 2, 1) := by decide +kernel
theorem dX10_findCode_20 : decode cX10_findCode 20 = .ok (.iconst 0, 1) := by decide +kernel
theorem dX10_findCode_21 : decode cX10_findCode 21 = .ok (.iastore, 1) := by decide +kernel
theorem dX10_findCode_22 : decode cX10_findCode 22 = .ok (.aload_n 0, 1) := by decide +kernel
theorem dX10_findCode_23 : decode cX10_findCode 23 = .ok (.getfield 41, 3) := by decide +kernel
theorem dX10_findCode_26 : decode cX10_findCode 26 = .ok (.iload_n 2, 1) := by decide +kernel
theorem dX10_findCode_27 : decode cX10_findCode 27 = .ok (.iaload, 1) := by decide +kernel
theorem dX10_findCode_28 : decode cX10_findCode 28 = .ok (.ifCond .ne 6, 3) := by decide +kernel
theorem dX10_findCode_31 : decode cX10_findCode 31 = .ok (.goto 64, 3) := by decide +kernel
theorem dX10_findCode_34 : decode cX10_findCode 34 = .ok (.iconst 1, 1) := by decide +kernel
theorem dX10_findCode_35 : decode cX10_findCode 35 = .ok (.istore_n 3, 1) := by decide +kernel
theorem dX10_findCode_36 : decode cX10_findCode 36 = .ok (.aload_n 0, 1) := by decide +kernel
theorem dX10_findCode_37 : decode cX10_findCode 37 = .ok (.getfield 41, 3) := by decide +kernel
theorem dX10_findCode_40 : decode cX10_findCode 40 = .ok (.iload_n 2, 1) := by decide +kernel
theorem dX10_findCode_41 : decode cX10_findCode 41 = .ok (.iaload, 1) := by decide +kernel
theorem dX10_findCode_42 : decode cX10_findCode 42 = .ok (.iload_n 3, 1) := by decide +kernel
theorem dX10_findCode_43 : decode cX10_findCode 43 = .ok (.imul, 1) := by decide +kernel
theorem dX10_findCode_44 : decode cX10_findCode 44 = .ok (.aload_n 0, 1) := by decide +kernel
theorem dX10_findCode_45 : decode cX10_findCode 45 = .ok (.iload_n 2, 1) := by decide +kernel
theorem dX10_findCode_46 : decode cX10_findCode 46 = .ok (.iconst 1, 1) := by decide +kernel
theorem dX10_findCode_47 : decode cX10_findCode 47 = .ok (.iadd, 1) := by decide +kernel
theorem dX10_findCode_48 : decode cX10_findCode 48 = .ok (.iload_n 1, 1) := by decide +kernel
theorem dX10_findCode_49 : decode cX10_findCode 49 = .ok (.iconst 1, 1) := by decide +kernel
theorem dX10_findCode_50 : decode cX10_findCode 50 = .ok (.aload_n 0, 1) := by decide +kernel
theorem dX10_findCode_51 : decode cX10_findCode 51 = .ok (.getfield 13, 3) := by decide +kernel
theorem dX10_findCode_54 : decode cX10_findCode 54 = .ok (.iload_n 3, 1) := by decide +kernel
theorem dX10_findCode_55 : decode cX10_findCode 55 = .ok (.isub, 1) := by decide +kernel
theorem dX10_findCode_56 : decode cX10_findCode 56 = .ok (.ishl, 1) := by decide +kernel
theorem dX10_findCode_57 : decode cX10_findCode 57 = .ok (.isub, 1) := by decide +kernel
theorem dX10_findCode_58 : decode cX10_findCode 58 = .ok (.invokevirtual 86, 3) := by decide +kernel
theorem dX10_findCode_61 : decode cX10_findCode 61 = .ok (.iadd, 1) := by decide +kernel
theorem dX10_findCode_62 : decode cX10_findCode 62 = .ok (.aload_n 0, 1) := by decide +kernel
theorem dX10_findCode_63 : decode cX10_findCode 63 = .ok (.iload_n 2, 1) := by decide +kernel
theorem dX10_findCode_64 : decode cX10_findCode 64 = .ok (.iload_n 1, 1) := by decide +kernel
theorem dX10_findCode_65 : decode cX10_findCode 65 = .ok (.invokevirtual 86, 3) := by decide +kernel
theorem dX10_findCode_68 : decode cX10_findCode 68 = .ok (.if_icmp .eq 9, 3) := by decide +kernel
theorem dX10_findCode_71 : decode cX10_findCode 71 = .ok (.iinc 3 1, 3) := by decide +kernel
theorem dX10_findCode_74 : decode cX10_findCode 74 = .ok (.goto (-38), 3) := by decide +kernel
theorem dX10_findCode_77 : decode cX10_findCode 77 = .ok (.aload_n 0, 1) := by decide +kernel
theorem dX10_findCode_78 : decode cX10_findCode 78 = .ok (.getfield 47, 3) := by decide +kernel
theorem dX10_findCode_81 : decode cX10_findCode 81 = .ok (.iload_n 2, 1) := by decide +kernel
theorem dX10_findCode_82 : decode cX10_findCode 82 = .ok (.iload_n 3, 1) := by decide +kernel
theorem dX10_findCode_83 : decode cX10_findCode 83 = .ok (.iastore, 1) := by decide +kernel
theorem dX10_findCode_84 : decode cX10_findCode 84 = .ok (.iload_n 1, 1) := by decide +kernel
theorem dX10_findCode_85 : decode cX10_findCode 85 = .ok (.iconst 1, 1) := by decide +kernel
theorem dX10_findCode_86 : decode cX10_findCode 86 = .ok (.aload_n 0, 1) := by decide +kernel
theorem dX10_findCode_87 : decode cX10_findCode 87 = .ok (.getfield 13, 3) := by decide +kernel
theorem dX10_findCode_90 : decode cX10_findCode 90 = .ok (.iload_n 3, 1) := by decide +kernel
theorem dX10_findCode_91 : decode cX10_findCode 91 = .ok (.isub, 1) := by decide +kernel
theorem dX10_findCode_92 : decode cX10_findCode 92 = .ok (.ishl, 1) := by decide +kernel
theorem dX10_findCode_93 : decode cX10_findCode 93 = .ok (.isub, 1) := by decide +kernel
theorem dX10_findCode_94 : decode cX10_findCode 94 = .ok (.istore_n 1, 1) := by decide +kernel
theorem dX10_findCode_95 : decode cX10_findCode 95 = .ok (.iinc 2 1, 3) := by decide +kernel
theorem dX10_findCode_98 : decode cX10_findCode 98 = .ok (.goto (-89), 3) := by decide +kernel
theorem dX10_findCode_101 : decode cX10_findCode 101 = .ok (.return_, 1) := by decide +kernel
theorem dX10_countAll_0 : decode cX10_countAll 0 = .ok (.iconst 0, 1) := by decide +kernel
theorem dX10_countAll_1 : decode cX10_countAll 1 = .ok (.istore_n 3, 1) := by decide +kernel
theorem dX10_countAll_2 : decode cX10_countAll 2 = .ok (.iload_n 3, 1) := by decide +kernel
theorem dX10_countAll_3 : decode cX10_countAll 3 = .ok (.bipush 16, 2) := by decide +kernel
theorem dX10_countAll_5 : decode cX10_countAll 5 = .ok (.if_icmp .ge 16, 3) := by decide +kernel
theorem dX10_countAll_8 : decode cX10_countAll 8 = .ok (.aload_n 0, 1) := by decide +kernel
theorem dX10_countAll_9 : decode cX10_countAll 9 = .ok (.getfield 41, 3) := by decide +kernel
theorem dX10_countAll_12 : decode cX10_countAll 12 = .ok (.iload_n 3, 1) := by decide +kernel
theorem dX10_countAll_13 : decode cX10_countAll 13 = .ok (.iconst 0, 1) := by decide +kernel
theorem dX10_countAll_14 : decode cX10_countAll 14 = .ok (.iastore, 1) := by decide +kernel
theorem dX10_countAll_15 : decode cX10_countAll 15 = .ok (.iinc 3 1, 3) := by decide +kernel
theorem dX10_countAll_18 : decode cX10_countAll 18 = .ok (.goto (-16), 3) := by decide +kernel
theorem dX10_countAll_21 : decode cX10_countAll 21 = .ok (.iload_n 1, 1) := by decide +kernel
theorem dX10_countAll_22 : decode cX10_countAll 22 = .ok (.istore_n 3, 1) := by decide +kernel
theorem dX10_countAll_23 : decode cX10_countAll 23 = .ok (.iload_n 3, 1) := by decide +kernel
theorem dX10_countAll_24 : decode cX10_countAll 24 = .ok (.iload_n 2, 1) := by decide +kernel
theorem dX10_countAll_25 : decode cX10_countAll 25 = .ok (.if_icmp .ge 24, 3) := by decide +kernel
theorem dX10_countAll_28 : decode cX10_countAll 28 = .ok (.aload_n 0, 1) := by decide +kernel
theorem dX10_countAll_29 : decode cX10_countAll 29 = .ok (.getfield 41, 3) := by decide +kernel
theorem dX10_countAll_32 : decode cX10_countAll 32 = .ok (.aload_n 0, 1) := by decide +kernel
theorem dX10_countAll_33 : decode cX10_countAll 33 = .ok (.getfield 9, 3) := by decide +kernel
theorem dX10_countAll_36 : decode cX10_countAll 36 = .ok (.iload_n 3, 1) := by decide +kernel
theorem dX10_countAll_37 : decode cX10_countAll 37 = .ok (.iaload, 1) := by decide +kernel
theorem dX10_countAll_38 : decode cX10_countAll 38 = .ok (.dup2, 1) := by decide +kernel
theorem dX10_countAll_39 : decode cX10_countAll 39 = .ok (.iaload, 1) := by decide +kernel
theorem dX10_countAll_40 : decode cX10_countAll 40 = .ok (.iconst 1, 1) := by decide +kernel
theorem dX10_countAll_41 : decode cX10_countAll 41 = .ok (.iadd, 1) := by decide +kernel
theorem dX10_countAll_42 : decode cX10_countAll 42 = .ok (.iastore, 1) := by decide +kernel
theorem dX10_countAll_43 : decode cX10_countAll 43 = .ok (.iinc 3 1, 3) := by decide +kernel
theorem dX10_countAll_46 : decode cX10_countAll 46 = .ok (.goto (-23), 3) := by decide +kernel
theorem dX10_countAll_49 : decode cX10_countAll 49 = .ok (.return_, 1) := by decide +kernel
set_option maxRecDepth 20000 in
theorem ggX10_costOfCounts_X10_sumOfLengths : GoodIn wsX10_costOfCounts wsX10_sumOfLengths := goodIn_r _ [8, 9, 10, 2, 11, 12, 13, 14, 15, 16, 17, 18, 7, 19, 20, 21, 22, 23, 24, 25, 26, 27, 28, 29, 30, 31, 32, 33, 34, 35, 36, 37, 38, 39, 40, 41, 42] (by decide +kernel) (by decide +kernel)
set_option maxRecDepth 20000 in
theorem gX10_costOfCounts_X10_sumOfLengths : GoodIn wsX10_costOfCounts (wsV RX10 95 RX10 yX10_sumOfLengths wsX10_sumOfLengths) := goodIn_app (goodIn_of _ (by decide +kernel)) ggX10_costOfCounts_X10_sumOfLengths
theorem dX10_costOfCounts_0 : decode cX10_costOfCounts 0 = .ok (.aload_n 0, 1) := by decide +kernel
theorem dX10_costOfCounts_1 : decode cX10_costOfCounts 1 = .ok (.getfield 17, 3) := by decide +kernel
theorem dX10_costOfCounts_4 : decode cX10_costOfCounts 4 = .ok (.aload_n 0, 1) := by decide +kernel
theorem dX10_costOfCounts_5 : decode cX10_costOfCounts 5 = .ok (.invokevirtual 95, 3) := by decide +kernel
theorem dX10_costOfCounts_8 : decode cX10_costOfCounts 8 = .ok (.iadd, 1) := by decide +kernel
theorem dX10_costOfCounts_9 : decode cX10_costOfCounts 9 = .ok (.istore_n 1, 1) := by decide +kernel
theorem dX10_costOfCounts_10 : decode cX10_costOfCounts 10 = .ok (.iconst 0, 1) := by decide +kernel
theorem dX10_costOfCounts_11 : decode cX10_costOfCounts 11 = .ok (.istore_n 2, 1) := by decide +kernel
theorem dX10_costOfCounts_12 : decode cX10_costOfCounts 12 = .ok (.iload_n 2, 1) := by decide +kernel
theorem dX10_costOfCounts_13 : decode cX10_costOfCounts 13 = .ok (.bipush 16, 2) := by decide +kernel
theorem dX10_costOfCounts_15 : decode cX10_costOfCounts 15 = .ok (.if_icmp .ge 29, 3) := by decide +kernel
theorem dX10_costOfCounts_18 : decode cX10_costOfCounts 18 = .ok (.iload_n 1, 1) := by decide +kernel
theorem dX10_costOfCounts_19 : decode cX10_costOfCounts 19 = .ok (.aload_n 0, 1) := by decide +kernel
theorem dX10_costOfCounts_20 : decode cX10_costOfCounts 20 = .ok (.getfield 41, 3) := by decide +kernel
theorem dX10_costOfCounts_23 : decode cX10_costOfCounts 23 = .ok (.iload_n 2, 1) := by decide +kernel
theorem dX10_costOfCounts_24 : decode cX10_costOfCounts 24 = .ok (.iaload, 1) := by decide +kernel
theorem dX10_costOfCounts_25 : decode cX10_costOfCounts 25 = .ok (.ifCond .le 10, 3) := by decide +kernel
theorem dX10_costOfCounts_28 : decode cX10_costOfCounts 28 = .ok (.aload_n 0, 1) := by decide +kernel
theorem dX10_costOfCounts_29 : decode cX10_costOfCounts 29 = .ok (.getfield 20, 3) := by decide +kernel
theorem dX10_costOfCounts_32 : decode cX10_costOfCounts 32 = .ok (.goto 4, 3) := by decide +kernel
theorem dX10_costOfCounts_35 : decode cX10_costOfCounts 35 = .ok (.iconst 0, 1) := by decide +kernel
theorem dX10_costOfCounts_36 : decode cX10_costOfCounts 36 = .ok (.iadd, 1) := by decide +kernel
theorem dX10_costOfCounts_37 : decode cX10_costOfCounts 37 = .ok (.istore_n 1, 1) := by decide +kernel
theorem dX10_costOfCounts_38 : decode cX10_costOfCounts 38 = .ok (.iinc 2 1, 3) := by decide +kernel
theorem dX10_costOfCounts_41 : decode cX10_costOfCounts 41 = .ok (.goto (-29), 3) := by decide +kernel
theorem dX10_costOfCounts_44 : decode cX10_costOfCounts 44 = .ok (.iload_n 1, 1) := by decide +kernel
theorem dX10_costOfCounts_45 : decode cX10_costOfCounts 45 = .ok (.ireturn, 1) := by decide +kernel
set_option maxRecDepth 20000 in
theorem ggX10_costOf_X10_fail : GoodIn wsX10_costOf wsX10_fail := goodIn_r _ [8, 1, 35, 36, 37, 38, 39, 40, 41, 42, 43, 44, 45, 46, 47, 48, 49, 50, 51, 52, 53, 54, 55, 56, 57] (by decide +kernel) (by decide +kernel)
set_option maxRecDepth 20000 in
theorem gX10_costOf_X10_fail : GoodIn wsX10_costOf (wsV RX10 73 RX10 yX10_fail wsX10_fail) := goodIn_app (goodIn_of _ (by decide +kernel)) ggX10_costOf_X10_fail
set_option maxRecDepth 20000 in
theorem ggX10_costOf_X10_countAll : GoodIn wsX10_costOf wsX10_countAll := goodIn_r _ [12, 13, 14, 35, 36, 37, 38, 39, 40, 41, 42, 43, 44, 45, 46, 47, 48, 49, 50, 51, 52, 53, 54, 55, 56, 57] (by decide +kernel) (by decide +kernel)
set_option maxRecDepth 20000 in
theorem gX10_costOf_X10_countAll : GoodIn wsX10_costOf (wsV RX10 99 RX10 yX10_countAll wsX10_countAll) := goodIn_app (goodIn_of _ (by decide +kernel)) ggX10_costOf_X10_countAll
set_option maxRecDepth 20000 in
theorem ggX10_costOf_X10_costOfCounts : GoodIn wsX10_costOf wsX10_costOfCounts := goodIn_r _ [18, 19, 13, 20, 21, 22, 23, 7, 24, 25, 26, 3, 27, 28, 29, 30, 31, 32, 33, 34, 35, 36, 37, 38, 39, 40, 41, 42, 43, 44, 45, 46, 47, 48, 49, 50, 51, 52, 53, 54, 55, 56, 57] (by decide +kernel) (by decide +kernel)
set_option maxRecDepth 20000 in
theorem gX10_costOf_X10_costOfCounts : GoodIn wsX10_costOf (wsV RX10 103 RX10 yX10_costOfCounts wsX10_costOfCounts) := goodIn_app (goodIn_of _ (by decide +kernel)) ggX10_costOf_X10_costOfCounts
theorem dX10_costOf_0 : decode cX10_costOf 0 = .ok (.aload_n 0, 1) := by decide +kernel
theorem dX10_costOf_1 : decode cX10_costOf 1 = .ok (.iconst 0, 1) := by decide +kernel
theorem dX10_costOf_2 : decode cX10_costOf 2 = .ok (.putfield 59, 3) := by decide +kernel
theorem dX10_costOf_5 : decode cX10_costOf 5 = .ok (.iload_n 1, 1) := by decide +kernel
theorem dX10_costOf_6 : decode cX10_costOf 6 = .ok (.ifCond .lt 16, 3) := by decide +kernel
theorem dX10_costOf_9 : decode cX10_costOf 9 = .ok (.iload_n 2, 1) := by decide +kernel
theorem dX10_costOf_10 : decode cX10_costOf 10 = .ok (.aload_n 0, 1) := by decide +kernel
theorem dX10_costOf_11 : decode cX10_costOf 11 = .ok (.getfield 77, 3) := by decide +kernel
theorem dX10_costOf_14 : decode cX10_costOf 14 = .ok (.if_icmp .gt 8, 3) := by decide +kernel
theorem dX10_costOf_17 : decode cX10_costOf 17 = .ok (.iload_n 1, 1) := by decide +kernel
theorem dX10_costOf_18 : decode cX10_costOf 18 = .ok (.iload_n 2, 1) := by decide +kernel
theorem dX10_costOf_19 : decode cX10_costOf 19 = .ok (.if_icmp .lt 9, 3) := by decide +kernel
theorem dX10_costOf_22 : decode cX10_costOf 22 = .ok (.aload_n 0, 1) := by decide +kernel
theorem dX10_costOf_23 : decode cX10_costOf 23 = .ok (.iconst 1, 1) := by decide +kernel
theorem dX10_costOf_24 : decode cX10_costOf 24 = .ok (.invokevirtual 73, 3) := by decide +kernel
theorem dX10_costOf_27 : decode cX10_costOf 27 = .ok (.ireturn, 1) := by decide +kernel
theorem dX10_costOf_28 : decode cX10_costOf 28 = .ok (.aload_n 0, 1) := by decide +kernel
theorem dX10_costOf_29 : decode cX10_costOf 29 = .ok (.iload_n 1, 1) := by decide +kernel
theorem dX10_costOf_30 : decode cX10_costOf 30 = .ok (.iload_n 2, 1) := by decide +kernel
theorem dX10_costOf_31 : decode cX10_costOf 31 = .ok (.invokevirtual 99, 3) := by decide +kernel
theorem dX10_costOf_34 : decode cX10_costOf 34 = .ok (.aload_n 0, 1) := by decide +kernel
theorem dX10_costOf_35 : decode cX10_costOf 35 = .ok (.invokevirtual 103, 3) := by decide +kernel
theorem dX10_costOf_38 : decode cX10_costOf 38 = .ok (.istore_n 3, 1) := by decide +kernel
theorem dX10_costOf_39 : decode cX10_costOf 39 = .ok (.iload_n 3, 1) := by decide +kernel
theorem dX10_costOf_40 : decode cX10_costOf 40 = .ok (.ldc 85, 2) := by decide +kernel
theorem dX10_costOf_42 : decode cX10_costOf 42 = .ok (.if_icmp .lt 7, 3) := by decide +kernel
theorem dX10_costOf_45 : decode cX10_costOf 45 = .ok (.iconst (-1), 1) := by decide +kernel
theorem dX10_costOf_46 : decode cX10_costOf 46 = .ok (.goto 4, 3) := by decide +kernel
theorem dX10_costOf_49 : decode cX10_costOf 49 = .ok (.iload_n 3, 1) := by decide +kernel
theorem dX10_costOf_50 : decode cX10_costOf 50 = .ok (.ireturn, 1) := by decide +kernel
set_option maxRecDepth 20000 in
theorem ggX10_split_X10_costOfCounts : GoodIn wsX10_split wsX10_costOfCounts := goodIn_r _ [13, 14, 3, 15, 16, 17, 18, 12, 19, 20, 21, 2, 22, 23, 24, 25, 26, 27, 28, 29, 30, 31, 32, 33, 34, 35, 36, 37, 38, 39, 40, 41, 42, 43, 44, 45, 46, 47, 48, 49, 50, 51, 52] (by decide +kernel) (by decide +kernel)
set_option maxRecDepth 20000 in
theorem gX10_split_X10_costOfCounts : GoodIn wsX10_split (wsV RX10 103 RX10 yX10_costOfCounts wsX10_costOfCounts) := goodIn_app (goodIn_of _ (by decide +kernel)) ggX10_split_X10_costOfCounts
theorem dX10_split_0 : decode cX10_split 0 = .ok (.aload_n 0, 1) := by decide +kernel
theorem dX10_split_1 : decode cX10_split 1 = .ok (.getfield 50, 3) := by decide +kernel
theorem dX10_split_4 : decode cX10_split 4 = .ok (.iload_n 1, 1) := by decide +kernel
theorem dX10_split_5 : decode cX10_split 5 = .ok (.ldc 85, 2) := by decide +kernel
theorem dX10_split_7 : decode cX10_split 7 = .ok (.iastore, 1) := by decide +kernel
theorem dX10_split_8 : decode cX10_split 8 = .ok (.iconst 0, 1) := by decide +kernel
theorem dX10_split_9 : decode cX10_split 9 = .ok (.istore_n 2, 1) := by decide +kernel
theorem dX10_split_10 : decode cX10_split 10 = .ok (.iload_n 2, 1) := by decide +kernel
theorem dX10_split_11 : decode cX10_split 11 = .ok (.bipush 16, 2) := by decide +kernel
theorem dX10_split_13 : decode cX10_split 13 = .ok (.if_icmp .ge 16, 3) := by decide +kernel
theorem dX10_split_16 : decode cX10_split 16 = .ok (.aload_n 0, 1) := by decide +kernel
theorem dX10_split_17 : decode cX10_split 17 = .ok (.getfield 41, 3) := by decide +kernel
theorem dX10_split_20 : decode cX10_split 20 = .ok (.iload_n 2, 1) := by decide +kernel
theorem dX10_split_21 : decode cX10_split 21 = .ok (.iconst 0, 1) := by decide +kernel
theorem dX10_split_22 : decode cX10_split 22 = .ok (.iastore, 1) := by decide +kernel
theorem dX10_split_23 : decode cX10_split 23 = .ok (.iinc 2 1, 3) := by decide +kernel
theorem dX10_split_26 : decode cX10_split 26 = .ok (.goto (-16), 3) := by decide +kernel
theorem dX10_split_29 : decode cX10_split 29 = .ok (.iload_n 1, 1) := by decide +kernel
theorem dX10_split_30 : decode cX10_split 30 = .ok (.iconst 1, 1) := by decide +kernel
theorem dX10_split_31 : decode cX10_split 31 = .ok (.iadd, 1) := by decide +kernel
theorem dX10_split_32 : decode cX10_split 32 = .ok (.istore_n 2, 1) := by decide +kernel
theorem dX10_split_33 : decode cX10_split 33 = .ok (.iload_n 2, 1) := by decide +kernel
theorem dX10_split_34 : decode cX10_split 34 = .ok (.aload_n 0, 1) := by decide +kernel
theorem dX10_split_35 : decode cX10_split 35 = .ok (.getfield 77, 3) := by decide +kernel
theorem dX10_split_38 : decode cX10_split 38 = .ok (.if_icmp .gt 132, 3) := by decide +kernel
theorem dX10_split_41 : decode cX10_split 41 = .ok (.iload_n 2, 1) := by decide +kernel
theorem dX10_split_42 : decode cX10_split 42 = .ok (.iload_n 1, 1) := by decide +kernel
theorem dX10_split_43 : decode cX10_split 43 = .ok (.isub, 1) := by decide +kernel
theorem dX10_split_44 : decode cX10_split 44 = .ok (.aload_n 0, 1) := by decide +kernel
theorem dX10_split_45 : decode cX10_split 45 = .ok (.getfield 23, 3) := by decide +kernel
theorem dX10_split_48 : decode cX10_split 48 = .ok (.if_icmp .gt 122, 3) := by decide +kernel
theorem dX10_split_51 : decode cX10_split 51 = .ok (.aload_n 0, 1) := by decide +kernel
theorem dX10_split_52 : decode cX10_split 52 = .ok (.getfield 41, 3) := by decide +kernel
theorem dX10_split_55 : decode cX10_split 55 = .ok (.aload_n 0, 1) := by decide +kernel
theorem dX10_split_56 : decode cX10_split 56 = .ok (.getfield 9, 3) := by decide +kernel
theorem dX10_split_59 : decode cX10_split 59 = .ok (.iload_n 2, 1) := by decide +kernel
theorem dX10_split_60 : decode cX10_split 60 = .ok (.iconst 1, 1) := by decide +kernel
theorem dX10_split_61 : decode cX10_split 61 = .ok (.isub, 1) := by decide +kernel
theorem dX10_split_62 : decode cX10_split 62 = .ok (.iaload, 1) := by decide +kernel
theorem dX10_split_63 : decode cX10_split 63 = .ok (.dup2, 1) := by decide +kernel
theorem dX10_split_64 : decode cX10_split 64 = .ok (.iaload, 1) := by decide +kernel
theorem dX10_split_65 : decode cX10_split 65 = .ok (.iconst 1, 1) := by decide +kernel
theorem dX10_split_66 : decode cX10_split 66 = .ok (.iadd, 1) := by decide +kernel
theorem dX10_split_67 : decode cX10_split 67 = .ok (.iastore, 1) := by decide +kernel
theorem dX10_split_68 : decode cX10_split 68 = .ok (.aload_n 0, 1) := by decide +kernel
theorem dX10_split_69 : decode cX10_split 69 = .ok (.invokevirtual 103, 3) := by decide +kernel
theorem dX10_split_72 : decode cX10_split 72 = .ok (.aload_n 0, 1) := by decide +kernel
theorem dX10_split_73 : decode cX10_split 73 = .ok (.getfield 50, 3) := by decide +kernel
theorem dX10_split_76 : decode cX10_split 76 = .ok (.iload_n 2, 1) := by decide +kernel
theorem dX10_split_77 : decode cX10_split 77 = .ok (.iaload, 1) := by decide +kernel
theorem dX10_split_78 : decode cX10_split 78 = .ok (.iadd, 1) := by decide +kernel
theorem dX10_split_79 : decode cX10_split 79 = .ok (.istore_n 3, 1) := by decide +kernel
theorem dX10_split_80 : decode cX10_split 80 = .ok (.iconst 1, 1) := by decide +kernel
theorem dX10_split_81 : decode cX10_split 81 = .ok (.aload_n 0, 1) := by decide +kernel
theorem dX10_split_82 : decode cX10_split 82 = .ok (.getfield 53, 3) := by decide +kernel
theorem dX10_split_85 : decode cX10_split 85 = .ok (.iload_n 2, 1) := by decide +kernel
theorem dX10_split_86 : decode cX10_split 86 = .ok (.iaload, 1) := by decide +kernel
theorem dX10_split_87 : decode cX10_split 87 = .ok (.iadd, 1) := by decide +kernel
theorem dX10_split_88 : decode cX10_split 88 = .ok (.istore 4, 2) := by decide +kernel
theorem dX10_split_90 : decode cX10_split 90 = .ok (.iload_n 3, 1) := by decide +kernel
theorem dX10_split_91 : decode cX10_split 91 = .ok (.aload_n 0, 1) := by decide +kernel
theorem dX10_split_92 : decode cX10_split 92 = .ok (.getfield 50, 3) := by decide +kernel
theorem dX10_split_95 : decode cX10_split 95 = .ok (.iload_n 1, 1) := by decide +kernel
theorem dX10_split_96 : decode cX10_split 96 = .ok (.iaload, 1) := by decide +kernel
theorem dX10_split_97 : decode cX10_split 97 = .ok (.if_icmp .lt 24, 3) := by decide +kernel
theorem dX10_split_100 : decode cX10_split 100 = .ok (.iload_n 3, 1) := by decide +kernel
theorem dX10_split_101 : decode cX10_split 101 = .ok (.aload_n 0, 1) := by decide +kernel
theorem dX10_split_102 : decode cX10_split 102 = .ok (.getfield 50, 3) := by decide +kernel
theorem dX10_split_105 : decode cX10_split 105 = .ok (.iload_n 1, 1) := by decide +kernel
theorem dX10_split_106 : decode cX10_split 106 = .ok (.iaload, 1) := by decide +kernel
theorem dX10_split_107 : decode cX10_split 107 = .ok (.if_icmp .ne 18, 3) := by decide +kernel
theorem dX10_split_110 : decode cX10_split 110 = .ok (.iload 4, 2) := by decide +kernel
theorem dX10_split_112 : decode cX10_split 112 = .ok (.aload_n 0, 1) := by decide +kernel
theorem dX10_split_113 : decode cX10_split 113 = .ok (.getfield 53, 3) := by decide +kernel
theorem dX10_split_116 : decode cX10_split 116 = .ok (.iload_n 1, 1) := by decide +kernel
theorem dX10_split_117 : decode cX10_split 117 = .ok (.iaload, 1) := by decide +kernel
theorem dX10_split_118 : decode cX10_split 118 = .ok (.if_icmp .gt 7, 3) := by decide +kernel
theorem dX10_split_121 : decode cX10_split 121 = .ok (.iconst 1, 1) := by decide +kernel
theorem dX10_split_122 : decode cX10_split 122 = .ok (.goto 4, 3) := by decide +kernel
theorem dX10_split_125 : decode cX10_split 125 = .ok (.iconst 0, 1) := by decide +kernel
theorem dX10_split_126 : decode cX10_split 126 = .ok (.istore 5, 2) := by decide +kernel
theorem dX10_split_128 : decode cX10_split 128 = .ok (.iload_n 3, 1) := by decide +kernel
theorem dX10_split_129 : decode cX10_split 129 = .ok (.ldc 85, 2) := by decide +kernel
theorem dX10_split_131 : decode cX10_split 131 = .ok (.if_icmp .ge 33, 3) := by decide +kernel
theorem dX10_split_134 : decode cX10_split 134 = .ok (.iload 5, 2) := by decide +kernel
theorem dX10_split_136 : decode cX10_split 136 = .ok (.ifCond .ne 6, 3) := by decide +kernel
theorem dX10_split_139 : decode cX10_split 139 = .ok (.goto 25, 3) := by decide +kernel
theorem dX10_split_142 : decode cX10_split 142 = .ok (.aload_n 0, 1) := by decide +kernel
theorem dX10_split_143 : decode cX10_split 143 = .ok (.getfield 50, 3) := by decide +kernel
theorem dX10_split_146 : decode cX10_split 146 = .ok (.iload_n 1, 1) := by decide +kernel
theorem dX10_split_147 : decode cX10_split 147 = .ok (.iload_n 3, 1) := by decide +kernel
theorem dX10_split_148 : decode cX10_split 148 = .ok (.iastore, 1) := by decide +kernel
theorem dX10_split_149 : decode cX10_split 149 = .ok (.aload_n 0, 1) := by decide +kernel
theorem dX10_split_150 : decode cX10_split 150 = .ok (.getfield 53, 3) := by decide +kernel
theorem dX10_split_153 : decode cX10_split 153 = .ok (.iload_n 1, 1) := by decide +kernel
theorem dX10_split_154 : decode cX10_split 154 = .ok (.iload 4, 2) := by decide +kernel
theorem dX10_split_156 : decode cX10_split 156 = .ok (.iastore, 1) := by decide +kernel
theorem dX10_split_157 : decode cX10_split 157 = .ok (.aload_n 0, 1) := by decide +kernel
theorem dX10_split_158 : decode cX10_split 158 = .ok (.getfield 56, 3) := by decide +kernel
theorem dX10_split_161 : decode cX10_split 161 = .ok (.iload_n 1, 1) := by decide +kernel
theorem dX10_split_162 : decode cX10_split 162 = .ok (.iload_n 2, 1) := by decide +kernel
theorem dX10_split_163 : decode cX10_split 163 = .ok (.iastore, 1) := by decide +kernel
theorem dX10_split_164 : decode cX10_split 164 = .ok (.iinc 2 1, 3) := by decide +kernel
theorem dX10_split_167 : decode cX10_split 167 = .ok (.goto (-134), 3) := by decide +kernel
theorem dX10_split_170 : decode cX10_split 170 = .ok (.return_, 1) := by decide +kernel
theorem dX10_setWords_0 : decode cX10_setWords 0 = .ok (.iconst 0, 1) := by decide +kernel
theorem dX10_setWords_1 : decode cX10_setWords 1 = .ok (.istore_n 2, 1) := by decide +kernel
theorem dX10_setWords_2 : decode cX10_setWords 2 = .ok (.iconst 1, 1) := by decide +kernel
theorem dX10_setWords_3 : decode cX10_setWords 3 = .ok (.istore_n 3, 1) := by decide +kernel
theorem dX10_setWords_4 : decode cX10_setWords 4 = .ok (.iload_n 3, 1) := by decide +kernel
theorem dX10_setWords_5 : decode cX10_setWords 5 = .ok (.aload_n 0, 1) := by decide +kernel
theorem dX10_setWords_6 : decode cX10_setWords 6 = .ok (.getfield 13, 3) := by decide +kernel
theorem dX10_setWords_9 : decode cX10_setWords 9 = .ok (.if_icmp .gt 64, 3) := by decide +kernel
theorem dX10_setWords_12 : decode cX10_setWords 12 = .ok (.iconst 0, 1) := by decide +kernel
theorem dX10_setWords_13 : decode cX10_setWords 13 = .ok (.istore 4, 2) := by decide +kernel
theorem dX10_setWords_15 : decode cX10_setWords 15 = .ok (.iload 4, 2) := by decide +kernel
theorem dX10_setWords_17 : decode cX10_setWords 17 = .ok (.bipush 16, 2) := by decide +kernel
theorem dX10_setWords_19 : decode cX10_setWords 19 = .ok (.if_icmp .ge 44, 3) := by decide +kernel
theorem dX10_setWords_22 : decode cX10_setWords 22 = .ok (.aload_n 0, 1) := by decide +kernel
theorem dX10_setWords_23 : decode cX10_setWords 23 = .ok (.getfield 29, 3) := by decide +kernel
theorem dX10_setWords_26 : decode cX10_setWords 26 = .ok (.bipush 16, 2) := by decide +kernel
theorem dX10_setWords_28 : decode cX10_setWords 28 = .ok (.iload_n 1, 1) := by decide +kernel
theorem dX10_setWords_29 : decode cX10_setWords 29 = .ok (.imul, 1) := by decide +kernel
theorem dX10_setWords_30 : decode cX10_setWords 30 = .ok (.iload 4, 2) := by decide +kernel
theorem dX10_setWords_32 : decode cX10_setWords 32 = .ok (.iadd, 1) := by decide +kernel
theorem dX10_setWords_33 : decode cX10_setWords 33 = .ok (.iaload, 1) := by decide +kernel
theorem dX10_setWords_34 : decode cX10_setWords 34 = .ok (.iload_n 3, 1) := by decide +kernel
theorem dX10_setWords_35 : decode cX10_setWords 35 = .ok (.if_icmp .eq 6, 3) := by decide +kernel
theorem dX10_setWords_38 : decode cX10_setWords 38 = .ok (.goto 19, 3) := by decide +kernel
theorem dX10_setWords_41 : decode cX10_setWords 41 = .ok (.aload_n 0, 1) := by decide +kernel
theorem dX10_setWords_42 : decode cX10_setWords 42 = .ok (.getfield 32, 3) := by decide +kernel
theorem dX10_setWords_45 : decode cX10_setWords 45 = .ok (.bipush 16, 2) := by decide +kernel
theorem dX10_setWords_47 : decode cX10_setWords 47 = .ok (.iload_n 1, 1) := by decide +kernel
theorem dX10_setWords_48 : decode cX10_setWords 48 = .ok (.imul, 1) := by decide +kernel
theorem dX10_setWords_49 : decode cX10_setWords 49 = .ok (.iload 4, 2) := by decide +kernel
theorem dX10_setWords_51 : decode cX10_setWords 51 = .ok (.iadd, 1) := by decide +kernel
theorem dX10_setWords_52 : decode cX10_setWords 52 = .ok (.iload_n 2, 1) := by decide +kernel
theorem dX10_setWords_53 : decode cX10_setWords 53 = .ok (.iastore, 1) := by decide +kernel
theorem dX10_setWords_54 : decode cX10_setWords 54 = .ok (.iinc 2 1, 3) := by decide +kernel
theorem dX10_setWords_57 : decode cX10_setWords 57 = .ok (.iinc 4 1, 3) := by decide +kernel
theorem dX10_setWords_60 : decode cX10_setWords 60 = .ok (.goto (-45), 3) := by decide +kernel
theorem dX10_setWords_63 : decode cX10_setWords 63 = .ok (.iload_n 2, 1) := by decide +kernel
theorem dX10_setWords_64 : decode cX10_setWords 64 = .ok (.iconst 2, 1) := by decide +kernel
theorem dX10_setWords_65 : decode cX10_setWords 65 = .ok (.imul, 1) := by decide +kernel
theorem dX10_setWords_66 : decode cX10_setWords 66 = .ok (.istore_n 2, 1) := by decide +kernel
theorem dX10_setWords_67 : decode cX10_setWords 67 = .ok (.iinc 3 1, 3) := by decide +kernel
theorem dX10_setWords_70 : decode cX10_setWords 70 = .ok (.goto (-66), 3) := by decide +kernel
theorem dX10_setWords_73 : decode cX10_setWords 73 = .ok (.return_, 1) := by decide +kernel
set_option maxRecDepth 20000 in
theorem ggX10_make_X10_split : GoodIn wsX10_make wsX10_split := goodIn_r _ [17, 1, 18, 19, 2, 20, 21, 3, 6, 22, 23, 24, 16, 25, 26, 27, 28, 29, 30, 31, 32, 33, 34, 35, 36, 37, 38, 39, 40, 41, 54, 55, 56, 57, 58, 59, 60, 61, 62, 63, 64, 65, 66, 67, 68, 69, 70, 71, 72, 73, 74, 75, 76] (by decide +kernel) (by decide +kernel)
set_option maxRecDepth 20000 in
theorem gX10_make_X10_split : GoodIn wsX10_make (wsV RX10 106 RX10 yX10_split wsX10_split) := goodIn_app (goodIn_of _ (by decide +kernel)) ggX10_make_X10_split
set_option maxRecDepth 20000 in
theorem ggX10_make_X10_countAll : GoodIn wsX10_make wsX10_countAll := goodIn_r _ [45, 19, 21, 54, 55, 56, 57, 58, 59, 60, 61, 62, 63, 64, 65, 66, 67, 68, 69, 70, 71, 72, 73, 74, 75, 76] (by decide +kernel) (by decide +kernel)
set_option maxRecDepth 20000 in
theorem gX10_make_X10_countAll : GoodIn wsX10_make (wsV RX10 99 RX10 yX10_countAll wsX10_countAll) := goodIn_app (goodIn_of _ (by decide +kernel)) ggX10_make_X10_countAll
set_option maxRecDepth 20000 in
theorem ggX10_make_X10_sumOfLengths : GoodIn wsX10_make wsX10_sumOfLengths := goodIn_r _ [31, 32, 33, 19, 18, 34, 35, 36, 37, 38, 39, 40, 16, 41, 54, 55, 56, 57, 58, 59, 60, 61, 62, 63, 64, 65, 66, 67, 68, 69, 70, 71, 72, 73, 74, 75, 76] (by decide +kernel) (by decide +kernel)
set_option maxRecDepth 20000 in
theorem gX10_make_X10_sumOfLengths : GoodIn wsX10_make (wsV RX10 95 RX10 yX10_sumOfLengths wsX10_sumOfLengths) := goodIn_app (goodIn_of _ (by decide +kernel)) ggX10_make_X10_sumOfLengths
set_option maxRecDepth 20000 in
theorem ggX10_make_X10_findCode : GoodIn wsX10_make wsX10_findCode := goodIn_r _ [49, 32, 9, 19, 38, 39, 40, 16, 41, 18, 33, 54, 55, 56, 57, 58, 59, 60, 61, 62, 63, 64, 65, 66, 67, 68, 69, 70, 71, 72, 73, 74, 75, 76] (by decide +kernel) (by decide +kernel)
set_option maxRecDepth 20000 in
theorem gX10_make_X10_findCode : GoodIn wsX10_make (wsV RX10 116 RX10 yX10_findCode wsX10_findCode) := goodIn_app (goodIn_of _ (by decide +kernel)) ggX10_make_X10_findCode
set_option maxRecDepth 20000 in
theorem ggX10_make_X10_setWords : GoodIn wsX10_make wsX10_setWords := goodIn_r _ [53, 32, 8, 10, 54, 55, 56, 57, 58, 59, 60, 61, 62, 63, 64, 65, 66, 67, 68, 69, 70, 71, 72, 73, 74, 75, 76] (by decide +kernel) (by decide +kernel)
set_option maxRecDepth 20000 in
theorem gX10_make_X10_setWords : GoodIn wsX10_make (wsV RX10 119 RX10 yX10_setWords wsX10_setWords) := goodIn_app (goodIn_of _ (by decide +kernel)) ggX10_make_X10_setWords
theorem dX10_make_0 : decode cX10_make 0 = .ok (.aload_n 0, 1) := by decide +kernel
theorem dX10_make_1 : decode cX10_make 1 = .ok (.getfield 50, 3) := by decide +kernel
theorem dX10_make_4 : decode cX10_make 4 = .ok (.aload_n 0, 1) := by decide +kernel
theorem dX10_make_5 : decode cX10_make 5 = .ok (.getfield 77, 3) := by decide +kernel
theorem dX10_make_8 : decode cX10_make 8 = .ok (.iconst 0, 1) := by decide +kernel
theorem dX10_make_9 : decode cX10_make 9 = .ok (.iastore, 1) := by decide +kernel
theorem dX10_make_10 : decode cX10_make 10 = .ok (.aload_n 0, 1) := by decide +kernel
theorem dX10_make_11 : decode cX10_make 11 = .ok (.getfield 53, 3) := by decide +kernel
theorem dX10_make_14 : decode cX10_make 14 = .ok (.aload_n 0, 1) := by decide +kernel
theorem dX10_make_15 : decode cX10_make 15 = .ok (.getfield 77, 3) := by decide +kernel
theorem dX10_make_18 : decode cX10_make 18 = .ok (.iconst 0, 1) := by decide +kernel
theorem dX10_make_19 : decode cX10_make 19 = .ok (.iastore, 1) := by decide +kernel
theorem dX10_make_20 : decode cX10_make 20 = .ok (.aload_n 0, 1) := by decide +kernel
theorem dX10_make_21 : decode cX10_make 21 = .ok (.getfield 77, 3) := by decide +kernel
theorem dX10_make_24 : decode cX10_make 24 = .ok (.iconst 1, 1) := by decide +kernel
theorem dX10_make_25 : decode cX10_make 25 = .ok (.isub, 1) := by decide +kernel
theorem dX10_make_26 : decode cX10_make 26 = .ok (.istore_n 1, 1) := by decide +kernel
theorem dX10_make_27 : decode cX10_make 27 = .ok (.iload_n 1, 1) := by decide +kernel
theorem dX10_make_28 : decode cX10_make 28 = .ok (.ifCond .lt 14, 3) := by decide +kernel
theorem dX10_make_31 : decode cX10_make 31 = .ok (.aload_n 0, 1) := by decide +kernel
theorem dX10_make_32 : decode cX10_make 32 = .ok (.iload_n 1, 1) := by decide +kernel
theorem dX10_make_33 : decode cX10_make 33 = .ok (.invokevirtual 106, 3) := by decide +kernel
theorem dX10_make_36 : decode cX10_make 36 = .ok (.iinc 1 (-1), 3) := by decide +kernel
theorem dX10_make_39 : decode cX10_make 39 = .ok (.goto (-12), 3) := by decide +kernel
theorem dX10_make_42 : decode cX10_make 42 = .ok (.aload_n 0, 1) := by decide +kernel
theorem dX10_make_43 : decode cX10_make 43 = .ok (.aload_n 0, 1) := by decide +kernel
theorem dX10_make_44 : decode cX10_make 44 = .ok (.getfield 50, 3) := by decide +kernel
theorem dX10_make_47 : decode cX10_make 47 = .ok (.iconst 0, 1) := by decide +kernel
theorem dX10_make_48 : decode cX10_make 48 = .ok (.iaload, 1) := by decide +kernel
theorem dX10_make_49 : decode cX10_make 49 = .ok (.putfield 110, 3) := by decide +kernel
theorem dX10_make_52 : decode cX10_make 52 = .ok (.aload_n 0, 1) := by decide +kernel
theorem dX10_make_53 : decode cX10_make 53 = .ok (.iconst 0, 1) := by decide +kernel
theorem dX10_make_54 : decode cX10_make 54 = .ok (.putfield 113, 3) := by decide +kernel
theorem dX10_make_57 : decode cX10_make 57 = .ok (.iconst 0, 1) := by decide +kernel
theorem dX10_make_58 : decode cX10_make 58 = .ok (.istore_n 1, 1) := by decide +kernel
theorem dX10_make_59 : decode cX10_make 59 = .ok (.iload_n 1, 1) := by decide +kernel
theorem dX10_make_60 : decode cX10_make 60 = .ok (.aload_n 0, 1) := by decide +kernel
theorem dX10_make_61 : decode cX10_make 61 = .ok (.getfield 77, 3) := by decide +kernel
theorem dX10_make_64 : decode cX10_make 64 = .ok (.if_icmp .ge 110, 3) := by decide +kernel
theorem dX10_make_67 : decode cX10_make 67 = .ok (.aload_n 0, 1) := by decide +kernel
theorem dX10_make_68 : decode cX10_make 68 = .ok (.iload_n 1, 1) := by decide +kernel
theorem dX10_make_69 : decode cX10_make 69 = .ok (.aload_n 0, 1) := by decide +kernel
theorem dX10_make_70 : decode cX10_make 70 = .ok (.getfield 56, 3) := by decide +kernel
theorem dX10_make_73 : decode cX10_make 73 = .ok (.iload_n 1, 1) := by decide +kernel
theorem dX10_make_74 : decode cX10_make 74 = .ok (.iaload, 1) := by decide +kernel
theorem dX10_make_75 : decode cX10_make 75 = .ok (.invokevirtual 99, 3) := by decide +kernel
theorem dX10_make_78 : decode cX10_make 78 = .ok (.aload_n 0, 1) := by decide +kernel
theorem dX10_make_79 : decode cX10_make 79 = .ok (.invokevirtual 95, 3) := by decide +kernel
theorem dX10_make_82 : decode cX10_make 82 = .ok (.pop, 1) := by decide +kernel
theorem dX10_make_83 : decode cX10_make 83 = .ok (.aload_n 0, 1) := by decide +kernel
theorem dX10_make_84 : decode cX10_make 84 = .ok (.invokevirtual 116, 3) := by decide +kernel
theorem dX10_make_87 : decode cX10_make 87 = .ok (.aload_n 0, 1) := by decide +kernel
theorem dX10_make_88 : decode cX10_make 88 = .ok (.getfield 26, 3) := by decide +kernel
theorem dX10_make_91 : decode cX10_make 91 = .ok (.aload_n 0, 1) := by decide +kernel
theorem dX10_make_92 : decode cX10_make 92 = .ok (.getfield 113, 3) := by decide +kernel
theorem dX10_make_95 : decode cX10_make 95 = .ok (.iload_n 1, 1) := by decide +kernel
theorem dX10_make_96 : decode cX10_make 96 = .ok (.iastore, 1) := by decide +kernel
theorem dX10_make_97 : decode cX10_make 97 = .ok (.iconst 0, 1) := by decide +kernel
theorem dX10_make_98 : decode cX10_make 98 = .ok (.istore_n 2, 1) := by decide +kernel
theorem dX10_make_99 : decode cX10_make 99 = .ok (.iload_n 2, 1) := by decide +kernel
theorem dX10_make_100 : decode cX10_make 100 = .ok (.bipush 16, 2) := by decide +kernel
theorem dX10_make_102 : decode cX10_make 102 = .ok (.if_icmp .ge 44, 3) := by decide +kernel
theorem dX10_make_105 : decode cX10_make 105 = .ok (.aload_n 0, 1) := by decide +kernel
theorem dX10_make_106 : decode cX10_make 106 = .ok (.getfield 29, 3) := by decide +kernel
theorem dX10_make_109 : decode cX10_make 109 = .ok (.bipush 16, 2) := by decide +kernel
theorem dX10_make_111 : decode cX10_make 111 = .ok (.aload_n 0, 1) := by decide +kernel
theorem dX10_make_112 : decode cX10_make 112 = .ok (.getfield 113, 3) := by decide +kernel
theorem dX10_make_115 : decode cX10_make 115 = .ok (.imul, 1) := by decide +kernel
theorem dX10_make_116 : decode cX10_make 116 = .ok (.iload_n 2, 1) := by decide +kernel
theorem dX10_make_117 : decode cX10_make 117 = .ok (.iadd, 1) := by decide +kernel
theorem dX10_make_118 : decode cX10_make 118 = .ok (.aload_n 0, 1) := by decide +kernel
theorem dX10_make_119 : decode cX10_make 119 = .ok (.getfield 47, 3) := by decide +kernel
theorem dX10_make_122 : decode cX10_make 122 = .ok (.iload_n 2, 1) := by decide +kernel
theorem dX10_make_123 : decode cX10_make 123 = .ok (.iaload, 1) := by decide +kernel
theorem dX10_make_124 : decode cX10_make 124 = .ok (.iastore, 1) := by decide +kernel
theorem dX10_make_125 : decode cX10_make 125 = .ok (.aload_n 0, 1) := by decide +kernel
theorem dX10_make_126 : decode cX10_make 126 = .ok (.getfield 32, 3) := by decide +kernel
theorem dX10_make_129 : decode cX10_make 129 = .ok (.bipush 16, 2) := by decide +kernel
theorem dX10_make_131 : decode cX10_make 131 = .ok (.aload_n 0, 1) := by decide +kernel
theorem dX10_make_132 : decode cX10_make 132 = .ok (.getfield 113, 3) := by decide +kernel
theorem dX10_make_135 : decode cX10_make 135 = .ok (.imul, 1) := by decide +kernel
theorem dX10_make_136 : decode cX10_make 136 = .ok (.iload_n 2, 1) := by decide +kernel
theorem dX10_make_137 : decode cX10_make 137 = .ok (.iadd, 1) := by decide +kernel
theorem dX10_make_138 : decode cX10_make 138 = .ok (.iconst (-1), 1) := by decide +kernel
theorem dX10_make_139 : decode cX10_make 139 = .ok (.iastore, 1) := by decide +kernel
theorem dX10_make_140 : decode cX10_make 140 = .ok (.iinc 2 1, 3) := by decide +kernel
theorem dX10_make_143 : decode cX10_make 143 = .ok (.goto (-44), 3) := by decide +kernel
theorem dX10_make_146 : decode cX10_make 146 = .ok (.aload_n 0, 1) := by decide +kernel
theorem dX10_make_147 : decode cX10_make 147 = .ok (.aload_n 0, 1) := by decide +kernel
theorem dX10_make_148 : decode cX10_make 148 = .ok (.getfield 113, 3) := by decide +kernel
theorem dX10_make_151 : decode cX10_make 151 = .ok (.invokevirtual 119, 3) := by decide +kernel
theorem dX10_make_154 : decode cX10_make 154 = .ok (.aload_n 0, 1) := by decide +kernel
theorem dX10_make_155 : decode cX10_make 155 = .ok (.dup, 1) := by decide +kernel
theorem dX10_make_156 : decode cX10_make 156 = .ok (.getfield 113, 3) := by decide +kernel
theorem dX10_make_159 : decode cX10_make 159 = .ok (.iconst 1, 1) := by decide +kernel
theorem dX10_make_160 : decode cX10_make 160 = .ok (.iadd, 1) := by decide +kernel
theorem dX10_make_161 : decode cX10_make 161 = .ok (.putfield 113, 3) := by decide +kernel
theorem dX10_make_164 : decode cX10_make 164 = .ok (.aload_n 0, 1) := by decide +kernel
theorem dX10_make_165 : decode cX10_make 165 = .ok (.getfield 56, 3) := by decide +kernel
theorem dX10_make_168 : decode cX10_make 168 = .ok (.iload_n 1, 1) := by decide +kernel
theorem dX10_make_169 : decode cX10_make 169 = .ok (.iaload, 1) := by decide +kernel
theorem dX10_make_170 : decode cX10_make 170 = .ok (.istore_n 1, 1) := by decide +kernel
theorem dX10_make_171 : decode cX10_make 171 = .ok (.goto (-112), 3) := by decide +kernel
theorem dX10_make_174 : decode cX10_make 174 = .ok (.aload_n 0, 1) := by decide +kernel
theorem dX10_make_175 : decode cX10_make 175 = .ok (.getfield 26, 3) := by decide +kernel
theorem dX10_make_178 : decode cX10_make 178 = .ok (.aload_n 0, 1) := by decide +kernel
theorem dX10_make_179 : decode cX10_make 179 = .ok (.getfield 113, 3) := by decide +kernel
theorem dX10_make_182 : decode cX10_make 182 = .ok (.aload_n 0, 1) := by decide +kernel
theorem dX10_make_183 : decode cX10_make 183 = .ok (.getfield 77, 3) := by decide +kernel
theorem dX10_make_186 : decode cX10_make 186 = .ok (.iastore, 1) := by decide +kernel
theorem dX10_make_187 : decode cX10_make 187 = .ok (.aload_n 0, 1) := by decide +kernel
theorem dX10_make_188 : decode cX10_make 188 = .ok (.iconst 1, 1) := by decide +kernel
theorem dX10_make_189 : decode cX10_make 189 = .ok (.putfield 62, 3) := by decide +kernel
theorem dX10_make_192 : decode cX10_make 192 = .ok (.aload_n 0, 1) := by decide +kernel
theorem dX10_make_193 : decode cX10_make 193 = .ok (.iconst 0, 1) := by decide +kernel
theorem dX10_make_194 : decode cX10_make 194 = .ok (.putfield 66, 3) := by decide +kernel
theorem dX10_make_197 : decode cX10_make 197 = .ok (.return_, 1) := by decide +kernel
set_option maxRecDepth 20000 in
theorem ggX10_plan_X10_make : GoodIn wsX10_plan wsX10_make := goodIn_r _ [8, 9, 10, 11, 12, 3, 13, 14, 15, 16, 17, 2, 18, 19, 20, 21, 7, 22, 23, 24, 25, 26, 27, 28, 29, 30, 31, 32, 33, 34, 35, 36, 37, 38, 39, 40, 41, 42, 43, 44, 45, 46, 47, 48, 49, 50, 51, 52, 53, 54, 55, 56, 57, 58, 59, 60, 61, 62, 63, 64, 65, 66, 67, 68, 69, 70, 71, 72, 73, 74, 75, 76, 77, 78, 79, 80, 81] (by decide +kernel) (by decide +kernel)
set_option maxRecDepth 20000 in
theorem gX10_plan_X10_make : GoodIn wsX10_plan (wsV RX10 122 RX10 yX10_make wsX10_make) := goodIn_app (goodIn_of _ (by decide +kernel)) ggX10_plan_X10_make
theorem dX10_plan_0 : decode cX10_plan 0 = .ok (.aload_n 0, 1) := by decide +kernel
theorem dX10_plan_1 : decode cX10_plan 1 = .ok (.iconst 0, 1) := by decide +kernel
theorem dX10_plan_2 : decode cX10_plan 2 = .ok (.putfield 59, 3) := by decide +kernel
theorem dX10_plan_5 : decode cX10_plan 5 = .ok (.aload_n 0, 1) := by decide +kernel
theorem dX10_plan_6 : decode cX10_plan 6 = .ok (.getfield 62, 3) := by decide +kernel
theorem dX10_plan_9 : decode cX10_plan 9 = .ok (.ifCond .ne 7, 3) := by decide +kernel
theorem dX10_plan_12 : decode cX10_plan 12 = .ok (.aload_n 0, 1) := by decide +kernel
theorem dX10_plan_13 : decode cX10_plan 13 = .ok (.invokevirtual 122, 3) := by decide +kernel
theorem dX10_plan_16 : decode cX10_plan 16 = .ok (.aload_n 0, 1) := by decide +kernel
theorem dX10_plan_17 : decode cX10_plan 17 = .ok (.getfield 113, 3) := by decide +kernel
theorem dX10_plan_20 : decode cX10_plan 20 = .ok (.ireturn, 1) := by decide +kernel
theorem dX10_hasPlan_0 : decode cX10_hasPlan 0 = .ok (.aload_n 0, 1) := by decide +kernel
theorem dX10_hasPlan_1 : decode cX10_hasPlan 1 = .ok (.iconst 0, 1) := by decide +kernel
