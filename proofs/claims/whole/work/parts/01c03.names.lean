theorem dX6_split_30 : decode cX6_split 30 = .ok (.iconst 0, 1) := by decide +kernel
theorem dX6_split_31 : decode cX6_split 31 = .ok (.iastore, 1) := by decide +kernel
theorem dX6_split_32 : decode cX6_split 32 = .ok (.aload_n 1, 1) := by decide +kernel
theorem dX6_split_33 : decode cX6_split 33 = .ok (.getfield 38, 3) := by decide +kernel
theorem dX6_split_36 : decode cX6_split 36 = .ok (.iconst 1, 1) := by decide +kernel
theorem dX6_split_37 : decode cX6_split 37 = .ok (.isub, 1) := by decide +kernel
theorem dX6_split_38 : decode cX6_split 38 = .ok (.istore_n 3, 1) := by decide +kernel
theorem dX6_split_39 : decode cX6_split 39 = .ok (.iload_n 3, 1) := by decide +kernel
theorem dX6_split_40 : decode cX6_split 40 = .ok (.ifCond .lt 28, 3) := by decide +kernel
theorem dX6_split_43 : decode cX6_split 43 = .ok (.aload_n 0, 1) := by decide +kernel
theorem dX6_split_44 : decode cX6_split 44 = .ok (.iload_n 3, 1) := by decide +kernel
theorem dX6_split_45 : decode cX6_split 45 = .ok (.aload_n 1, 1) := by decide +kernel
theorem dX6_split_46 : decode cX6_split 46 = .ok (.getfield 38, 3) := by decide +kernel
theorem dX6_split_49 : decode cX6_split 49 = .ok (.iload_n 3, 1) := by decide +kernel
theorem dX6_split_50 : decode cX6_split 50 = .ok (.aload_n 2, 1) := by decide +kernel
theorem dX6_split_51 : decode cX6_split 51 = .ok (.getfield 43, 3) := by decide +kernel
theorem dX6_split_54 : decode cX6_split 54 = .ok (.iadd, 1) := by decide +kernel
theorem dX6_split_55 : decode cX6_split 55 = .ok (.invokestatic 46, 3) := by decide +kernel
theorem dX6_split_58 : decode cX6_split 58 = .ok (.aload_n 2, 1) := by decide +kernel
theorem dX6_split_59 : decode cX6_split 59 = .ok (.invokevirtual 52, 3) := by decide +kernel
theorem dX6_split_62 : decode cX6_split 62 = .ok (.iinc 3 (-1), 3) := by decide +kernel
theorem dX6_split_65 : decode cX6_split 65 = .ok (.goto (-26), 3) := by decide +kernel
theorem dX6_split_68 : decode cX6_split 68 = .ok (.return_, 1) := by decide +kernel
set_option maxRecDepth 20000 in
theorem ggX6_chooseEnd_X1_priceOf : GoodIn wsX6_chooseEnd wsX1_priceOf := goodIn_r _ [10, 11, 12, 13, 14, 9, 15, 16, 17, 18, 19, 20, 21, 22, 27, 28, 29, 30, 31, 32, 33, 34, 35, 36, 37] (by decide +kernel) (by decide +kernel)
set_option maxRecDepth 20000 in
theorem gX6_chooseEnd_X1_priceOf : GoodIn wsX6_chooseEnd (wsV RX6 57 RX1 yX1_priceOf wsX1_priceOf) := goodIn_app (goodIn_of _ (by decide +kernel)) ggX6_chooseEnd_X1_priceOf
theorem dX6_chooseEnd_0 : decode cX6_chooseEnd 0 = .ok (.aload_n 0, 1) := by decide +kernel
theorem dX6_chooseEnd_1 : decode cX6_chooseEnd 1 = .ok (.getfield 18, 3) := by decide +kernel
theorem dX6_chooseEnd_4 : decode cX6_chooseEnd 4 = .ok (.iload_n 1, 1) := by decide +kernel
theorem dX6_chooseEnd_5 : decode cX6_chooseEnd 5 = .ok (.ldc 56, 2) := by decide +kernel
theorem dX6_chooseEnd_7 : decode cX6_chooseEnd 7 = .ok (.iastore, 1) := by decide +kernel
theorem dX6_chooseEnd_8 : decode cX6_chooseEnd 8 = .ok (.aload_n 0, 1) := by decide +kernel
theorem dX6_chooseEnd_9 : decode cX6_chooseEnd 9 = .ok (.getfield 22, 3) := by decide +kernel
theorem dX6_chooseEnd_12 : decode cX6_chooseEnd 12 = .ok (.iload_n 1, 1) := by decide +kernel
theorem dX6_chooseEnd_13 : decode cX6_chooseEnd 13 = .ok (.bipush 80, 2) := by decide +kernel
theorem dX6_chooseEnd_15 : decode cX6_chooseEnd 15 = .ok (.iastore, 1) := by decide +kernel
theorem dX6_chooseEnd_16 : decode cX6_chooseEnd 16 = .ok (.aload_n 0, 1) := by decide +kernel
theorem dX6_chooseEnd_17 : decode cX6_chooseEnd 17 = .ok (.getfield 25, 3) := by decide +kernel
theorem dX6_chooseEnd_20 : decode cX6_chooseEnd 20 = .ok (.iload_n 1, 1) := by decide +kernel
theorem dX6_chooseEnd_21 : decode cX6_chooseEnd 21 = .ok (.iload_n 1, 1) := by decide +kernel
theorem dX6_chooseEnd_22 : decode cX6_chooseEnd 22 = .ok (.iconst 1, 1) := by decide +kernel
theorem dX6_chooseEnd_23 : decode cX6_chooseEnd 23 = .ok (.iadd, 1) := by decide +kernel
theorem dX6_chooseEnd_24 : decode cX6_chooseEnd 24 = .ok (.iastore, 1) := by decide +kernel
theorem dX6_chooseEnd_25 : decode cX6_chooseEnd 25 = .ok (.iload_n 1, 1) := by decide +kernel
theorem dX6_chooseEnd_26 : decode cX6_chooseEnd 26 = .ok (.iconst 1, 1) := by decide +kernel
theorem dX6_chooseEnd_27 : decode cX6_chooseEnd 27 = .ok (.iadd, 1) := by decide +kernel
theorem dX6_chooseEnd_28 : decode cX6_chooseEnd 28 = .ok (.istore 4, 2) := by decide +kernel
theorem dX6_chooseEnd_30 : decode cX6_chooseEnd 30 = .ok (.iload 4, 2) := by decide +kernel
theorem dX6_chooseEnd_32 : decode cX6_chooseEnd 32 = .ok (.iload_n 2, 1) := by decide +kernel
theorem dX6_chooseEnd_33 : decode cX6_chooseEnd 33 = .ok (.if_icmp .gt 109, 3) := by decide +kernel
theorem dX6_chooseEnd_36 : decode cX6_chooseEnd 36 = .ok (.aload_n 0, 1) := by decide +kernel
theorem dX6_chooseEnd_37 : decode cX6_chooseEnd 37 = .ok (.getfield 12, 3) := by decide +kernel
theorem dX6_chooseEnd_40 : decode cX6_chooseEnd 40 = .ok (.iload_n 1, 1) := by decide +kernel
theorem dX6_chooseEnd_41 : decode cX6_chooseEnd 41 = .ok (.iload 4, 2) := by decide +kernel
theorem dX6_chooseEnd_43 : decode cX6_chooseEnd 43 = .ok (.aload_n 3, 1) := by decide +kernel
theorem dX6_chooseEnd_44 : decode cX6_chooseEnd 44 = .ok (.invokevirtual 57, 3) := by decide +kernel
theorem dX6_chooseEnd_47 : decode cX6_chooseEnd 47 = .ok (.istore 5, 2) := by decide +kernel
theorem dX6_chooseEnd_49 : decode cX6_chooseEnd 49 = .ok (.iload 5, 2) := by decide +kernel
theorem dX6_chooseEnd_51 : decode cX6_chooseEnd 51 = .ok (.iconst (-1), 1) := by decide +kernel
theorem dX6_chooseEnd_52 : decode cX6_chooseEnd 52 = .ok (.if_icmp .ne 4, 3) := by decide +kernel
theorem dX6_chooseEnd_55 : decode cX6_chooseEnd 55 = .ok (.return_, 1) := by decide +kernel
theorem dX6_chooseEnd_56 : decode cX6_chooseEnd 56 = .ok (.iload 5, 2) := by decide +kernel
theorem dX6_chooseEnd_58 : decode cX6_chooseEnd 58 = .ok (.aload_n 0, 1) := by decide +kernel
theorem dX6_chooseEnd_59 : decode cX6_chooseEnd 59 = .ok (.getfield 18, 3) := by decide +kernel
theorem dX6_chooseEnd_62 : decode cX6_chooseEnd 62 = .ok (.iload 4, 2) := by decide +kernel
theorem dX6_chooseEnd_64 : decode cX6_chooseEnd 64 = .ok (.iaload, 1) := by decide +kernel
theorem dX6_chooseEnd_65 : decode cX6_chooseEnd 65 = .ok (.iadd, 1) := by decide +kernel
theorem dX6_chooseEnd_66 : decode cX6_chooseEnd 66 = .ok (.istore 6, 2) := by decide +kernel
theorem dX6_chooseEnd_68 : decode cX6_chooseEnd 68 = .ok (.iconst 1, 1) := by decide +kernel
theorem dX6_chooseEnd_69 : decode cX6_chooseEnd 69 = .ok (.aload_n 0, 1) := by decide +kernel
theorem dX6_chooseEnd_70 : decode cX6_chooseEnd 70 = .ok (.getfield 22, 3) := by decide +kernel
theorem dX6_chooseEnd_73 : decode cX6_chooseEnd 73 = .ok (.iload 4, 2) := by decide +kernel
theorem dX6_chooseEnd_75 : decode cX6_chooseEnd 75 = .ok (.iaload, 1) := by decide +kernel
theorem dX6_chooseEnd_76 : decode cX6_chooseEnd 76 = .ok (.iadd, 1) := by decide +kernel
theorem dX6_chooseEnd_77 : decode cX6_chooseEnd 77 = .ok (.istore 7, 2) := by decide +kernel
theorem dX6_chooseEnd_79 : decode cX6_chooseEnd 79 = .ok (.iload 6, 2) := by decide +kernel
theorem dX6_chooseEnd_81 : decode cX6_chooseEnd 81 = .ok (.aload_n 0, 1) := by decide +kernel
theorem dX6_chooseEnd_82 : decode cX6_chooseEnd 82 = .ok (.getfield 18, 3) := by decide +kernel
theorem dX6_chooseEnd_85 : decode cX6_chooseEnd 85 = .ok (.iload_n 1, 1) := by decide +kernel
theorem dX6_chooseEnd_86 : decode cX6_chooseEnd 86 = .ok (.iaload, 1) := by decide +kernel
theorem dX6_chooseEnd_87 : decode cX6_chooseEnd 87 = .ok (.if_icmp .lt 25, 3) := by decide +kernel
theorem dX6_chooseEnd_90 : decode cX6_chooseEnd 90 = .ok (.iload 6, 2) := by decide +kernel
theorem dX6_chooseEnd_92 : decode cX6_chooseEnd 92 = .ok (.aload_n 0, 1) := by decide +kernel
theorem dX6_chooseEnd_93 : decode cX6_chooseEnd 93 = .ok (.getfield 18, 3) := by decide +kernel
theorem dX6_chooseEnd_96 : decode cX6_chooseEnd 96 = .ok (.iload_n 1, 1) := by decide +kernel
theorem dX6_chooseEnd_97 : decode cX6_chooseEnd 97 = .ok (.iaload, 1) := by decide +kernel
theorem dX6_chooseEnd_98 : decode cX6_chooseEnd 98 = .ok (.if_icmp .ne 38, 3) := by decide +kernel
theorem dX6_chooseEnd_101 : decode cX6_chooseEnd 101 = .ok (.iload 7, 2) := by decide +kernel
theorem dX6_chooseEnd_103 : decode cX6_chooseEnd 103 = .ok (.aload_n 0, 1) := by decide +kernel
theorem dX6_chooseEnd_104 : decode cX6_chooseEnd 104 = .ok (.getfield 22, 3) := by decide +kernel
theorem dX6_chooseEnd_107 : decode cX6_chooseEnd 107 = .ok (.iload_n 1, 1) := by decide +kernel
theorem dX6_chooseEnd_108 : decode cX6_chooseEnd 108 = .ok (.iaload, 1) := by decide +kernel
theorem dX6_chooseEnd_109 : decode cX6_chooseEnd 109 = .ok (.if_icmp .gt 27, 3) := by decide +kernel
theorem dX6_chooseEnd_112 : decode cX6_chooseEnd 112 = .ok (.aload_n 0, 1) := by decide +kernel
theorem dX6_chooseEnd_113 : decode cX6_chooseEnd 113 = .ok (.getfield 18, 3) := by decide +kernel
theorem dX6_chooseEnd_116 : decode cX6_chooseEnd 116 = .ok (.iload_n 1, 1) := by decide +kernel
theorem dX6_chooseEnd_117 : decode cX6_chooseEnd 117 = .ok (.iload 6, 2) := by decide +kernel
theorem dX6_chooseEnd_119 : decode cX6_chooseEnd 119 = .ok (.iastore, 1) := by decide +kernel
theorem dX6_chooseEnd_120 : decode cX6_chooseEnd 120 = .ok (.aload_n 0, 1) := by decide +kernel
theorem dX6_chooseEnd_121 : decode cX6_chooseEnd 121 = .ok (.getfield 22, 3) := by decide +kernel
theorem dX6_chooseEnd_124 : decode cX6_chooseEnd 124 = .ok (.iload_n 1, 1) := by decide +kernel
theorem dX6_chooseEnd_125 : decode cX6_chooseEnd 125 = .ok (.iload 7, 2) := by decide +kernel
theorem dX6_chooseEnd_127 : decode cX6_chooseEnd 127 = .ok (.iastore, 1) := by decide +kernel
theorem dX6_chooseEnd_128 : decode cX6_chooseEnd 128 = .ok (.aload_n 0, 1) := by decide +kernel
theorem dX6_chooseEnd_129 : decode cX6_chooseEnd 129 = .ok (.getfield 25, 3) := by decide +kernel
theorem dX6_chooseEnd_132 : decode cX6_chooseEnd 132 = .ok (.iload_n 1, 1) := by decide +kernel
theorem dX6_chooseEnd_133 : decode cX6_chooseEnd 133 = .ok (.iload 4, 2) := by decide +kernel
theorem dX6_chooseEnd_135 : decode cX6_chooseEnd 135 = .ok (.iastore, 1) := by decide +kernel
theorem dX6_chooseEnd_136 : decode cX6_chooseEnd 136 = .ok (.iinc 4 1, 3) := by decide +kernel
theorem dX6_chooseEnd_139 : decode cX6_chooseEnd 139 = .ok (.goto (-109), 3) := by decide +kernel
theorem dX6_chooseEnd_142 : decode cX6_chooseEnd 142 = .ok (.return_, 1) := by decide +kernel
theorem dX7_init_0 : decode cX7_init 0 = .ok (.aload_n 0, 1) := by decide +kernel
theorem dX7_init_1 : decode cX7_init 1 = .ok (.invokespecial 3, 3) := by decide +kernel
theorem dX7_init_4 : decode cX7_init 4 = .ok (.aload_n 0, 1) := by decide +kernel
theorem dX7_init_5 : decode cX7_init 5 = .ok (.bipush 16, 2) := by decide +kernel
theorem dX7_init_7 : decode cX7_init 7 = .ok (.newarray .int, 2) := by decide +kernel
theorem dX7_init_9 : decode cX7_init 9 = .ok (.putfield 9, 3) := by decide +kernel
theorem dX7_init_12 : decode cX7_init 12 = .ok (.aload_n 0, 1) := by decide +kernel
theorem dX7_init_13 : decode cX7_init 13 = .ok (.bipush 16, 2) := by decide +kernel
theorem dX7_init_15 : decode cX7_init 15 = .ok (.newarray .int, 2) := by decide +kernel
theorem dX7_init_17 : decode cX7_init 17 = .ok (.putfield 15, 3) := by decide +kernel
theorem dX7_init_20 : decode cX7_init 20 = .ok (.aload_n 0, 1) := by decide +kernel
theorem dX7_init_21 : decode cX7_init 21 = .ok (.iconst 0, 1) := by decide +kernel
theorem dX7_init_22 : decode cX7_init 22 = .ok (.putfield 18, 3) := by decide +kernel
theorem dX7_init_25 : decode cX7_init 25 = .ok (.return_, 1) := by decide +kernel
set_option maxRecDepth 20000 in
theorem ggX7_clear_J7_fill_53178 : GoodIn wsX7_clear wsJ7_fill_53178 := goodIn_r _ [6] (by decide +kernel) (by decide +kernel)
set_option maxRecDepth 20000 in
theorem gX7_clear_J7_fill_53178 : GoodIn wsX7_clear (va_wsS RX7 22 yJ7_fill_53178 wsJ7_fill_53178) := goodIn_app (goodIn_of _ (by decide +kernel)) ggX7_clear_J7_fill_53178
theorem dX7_clear_0 : decode cX7_clear 0 = .ok (.aload_n 0, 1) := by decide +kernel
theorem dX7_clear_1 : decode cX7_clear 1 = .ok (.getfield 9, 3) := by decide +kernel
theorem dX7_clear_4 : decode cX7_clear 4 = .ok (.iconst 0, 1) := by decide +kernel
theorem dX7_clear_5 : decode cX7_clear 5 = .ok (.invokestatic 22, 3) := by decide +kernel
theorem dX7_clear_8 : decode cX7_clear 8 = .ok (.aload_n 0, 1) := by decide +kernel
theorem dX7_clear_9 : decode cX7_clear 9 = .ok (.iconst 0, 1) := by decide +kernel
theorem dX7_clear_10 : decode cX7_clear 10 = .ok (.putfield 18, 3) := by decide +kernel
theorem dX7_clear_13 : decode cX7_clear 13 = .ok (.return_, 1) := by decide +kernel
set_option maxRecDepth 20000 in
theorem ggX7_take_X7_clear : GoodIn wsX7_take wsX7_clear := goodIn_r _ [11, 12, 13, 14, 15, 16, 17, 28, 29, 30] (by decide +kernel) (by decide +kernel)
set_option maxRecDepth 20000 in
theorem gX7_take_X7_clear : GoodIn wsX7_take (wsV RX7 28 RX7 yX7_clear wsX7_clear) := goodIn_app (goodIn_of _ (by decide +kernel)) ggX7_take_X7_clear
set_option maxRecDepth 20000 in
theorem ggX7_take_X7_add : GoodIn wsX7_take wsX7_add := goodIn_r _ [21, 12, 13, 22, 23, 24, 25, 28, 29, 30] (by decide +kernel) (by decide +kernel)
set_option maxRecDepth 20000 in
theorem gX7_take_X7_add : GoodIn wsX7_take (wsV RX7 45 RX7 yX7_add wsX7_add) := goodIn_app (goodIn_of _ (by decide +kernel)) ggX7_take_X7_add
theorem dX7_take_0 : decode cX7_take 0 = .ok (.aload_n 0, 1) := by decide +kernel
theorem dX7_take_1 : decode cX7_take 1 = .ok (.invokevirtual 28, 3) := by decide +kernel
theorem dX7_take_4 : decode cX7_take 4 = .ok (.iload_n 2, 1) := by decide +kernel
theorem dX7_take_5 : decode cX7_take 5 = .ok (.iconst 0, 1) := by decide +kernel
theorem dX7_take_6 : decode cX7_take 6 = .ok (.invokestatic 31, 3) := by decide +kernel
theorem dX7_take_9 : decode cX7_take 9 = .ok (.istore 4, 2) := by decide +kernel
theorem dX7_take_11 : decode cX7_take 11 = .ok (.iload 4, 2) := by decide +kernel
theorem dX7_take_13 : decode cX7_take 13 = .ok (.iload_n 3, 1) := by decide +kernel
theorem dX7_take_14 : decode cX7_take 14 = .ok (.if_icmp .ge 29, 3) := by decide +kernel
theorem dX7_take_17 : decode cX7_take 17 = .ok (.iload 4, 2) := by decide +kernel
theorem dX7_take_19 : decode cX7_take 19 = .ok (.aload_n 1, 1) := by decide +kernel
theorem dX7_take_20 : decode cX7_take 20 = .ok (.getfield 37, 3) := by decide +kernel
theorem dX7_take_23 : decode cX7_take 23 = .ok (.if_icmp .ge 20, 3) := by decide +kernel
theorem dX7_take_26 : decode cX7_take 26 = .ok (.aload_n 0, 1) := by decide +kernel
theorem dX7_take_27 : decode cX7_take 27 = .ok (.aload_n 1, 1) := by decide +kernel
theorem dX7_take_28 : decode cX7_take 28 = .ok (.getfield 42, 3) := by decide +kernel
theorem dX7_take_31 : decode cX7_take 31 = .ok (.iload 4, 2) := by decide +kernel
theorem dX7_take_33 : decode cX7_take 33 = .ok (.iaload, 1) := by decide +kernel
theorem dX7_take_34 : decode cX7_take 34 = .ok (.invokevirtual 45, 3) := by decide +kernel
theorem dX7_take_37 : decode cX7_take 37 = .ok (.iinc 4 1, 3) := by decide +kernel
theorem dX7_take_40 : decode cX7_take 40 = .ok (.goto (-29), 3) := by decide +kernel
theorem dX7_take_43 : decode cX7_take 43 = .ok (.return_, 1) := by decide +kernel
set_option maxRecDepth 20000 in
theorem ggX7_add_X9_isSymbol : GoodIn wsX7_add wsX9_isSymbol := goodIn_r _ [6] (by decide +kernel) (by decide +kernel)
set_option maxRecDepth 20000 in
theorem gX7_add_X9_isSymbol_n49 : GoodIn wsX7_add (wsX9_isSymbol) := ggX7_add_X9_isSymbol
theorem dX7_add_0 : decode cX7_add 0 = .ok (.iload_n 1, 1) := by decide +kernel
theorem dX7_add_1 : decode cX7_add 1 = .ok (.invokestatic 49, 3) := by decide +kernel
theorem dX7_add_4 : decode cX7_add 4 = .ok (.ifCond .ne 4, 3) := by decide +kernel
theorem dX7_add_7 : decode cX7_add 7 = .ok (.return_, 1) := by decide +kernel
theorem dX7_add_8 : decode cX7_add 8 = .ok (.aload_n 0, 1) := by decide +kernel
theorem dX7_add_9 : decode cX7_add 9 = .ok (.getfield 9, 3) := by decide +kernel
theorem dX7_add_12 : decode cX7_add 12 = .ok (.iload_n 1, 1) := by decide +kernel
theorem dX7_add_13 : decode cX7_add 13 = .ok (.iaload, 1) := by decide +kernel
theorem dX7_add_14 : decode cX7_add 14 = .ok (.istore_n 2, 1) := by decide +kernel
theorem dX7_add_15 : decode cX7_add 15 = .ok (.aload_n 0, 1) := by decide +kernel
theorem dX7_add_16 : decode cX7_add 16 = .ok (.getfield 9, 3) := by decide +kernel
theorem dX7_add_19 : decode cX7_add 19 = .ok (.iload_n 1, 1) := by decide +kernel
theorem dX7_add_20 : decode cX7_add 20 = .ok (.iload_n 2, 1) := by decide +kernel
theorem dX7_add_21 : decode cX7_add 21 = .ok (.iconst 1, 1) := by decide +kernel
theorem dX7_add_22 : decode cX7_add 22 = .ok (.iadd, 1) := by decide +kernel
theorem dX7_add_23 : decode cX7_add 23 = .ok (.iastore, 1) := by decide +kernel
theorem dX7_add_24 : decode cX7_add 24 = .ok (.iload_n 2, 1) := by decide +kernel
theorem dX7_add_25 : decode cX7_add 25 = .ok (.ifCond .ne 33, 3) := by decide +kernel
theorem dX7_add_28 : decode cX7_add 28 = .ok (.aload_n 0, 1) := by decide +kernel
theorem dX7_add_29 : decode cX7_add 29 = .ok (.getfield 18, 3) := by decide +kernel
theorem dX7_add_32 : decode cX7_add 32 = .ok (.bipush 16, 2) := by decide +kernel
theorem dX7_add_34 : decode cX7_add 34 = .ok (.if_icmp .ge 24, 3) := by decide +kernel
theorem dX7_add_37 : decode cX7_add 37 = .ok (.aload_n 0, 1) := by decide +kernel
theorem dX7_add_38 : decode cX7_add 38 = .ok (.getfield 15, 3) := by decide +kernel
theorem dX7_add_41 : decode cX7_add 41 = .ok (.aload_n 0, 1) := by decide +kernel
theorem dX7_add_42 : decode cX7_add 42 = .ok (.getfield 18, 3) := by decide +kernel
theorem dX7_add_45 : decode cX7_add 45 = .ok (.iconst 1, 1) := by decide +kernel
theorem dX7_add_46 : decode cX7_add 46 = .ok (.iastore, 1) := by decide +kernel
theorem dX7_add_47 : decode cX7_add 47 = .ok (.aload_n 0, 1) := by decide +kernel
theorem dX7_add_48 : decode cX7_add 48 = .ok (.dup, 1) := by decide +kernel
theorem dX7_add_49 : decode cX7_add 49 = .ok (.getfield 18, 3) := by decide +kernel
theorem dX7_add_52 : decode cX7_add 52 = .ok (.iconst 1, 1) := by decide +kernel
theorem dX7_add_53 : decode cX7_add 53 = .ok (.iadd, 1) := by decide +kernel
theorem dX7_add_54 : decode cX7_add 54 = .ok (.putfield 18, 3) := by decide +kernel
theorem dX7_add_57 : decode cX7_add 57 = .ok (.return_, 1) := by decide +kernel
theorem dX7_add_58 : decode cX7_add 58 = .ok (.iconst 0, 1) := by decide +kernel
theorem dX7_add_59 : decode cX7_add 59 = .ok (.istore_n 3, 1) := by decide +kernel
theorem dX7_add_60 : decode cX7_add 60 = .ok (.iload_n 3, 1) := by decide +kernel
theorem dX7_add_61 : decode cX7_add 61 = .ok (.aload_n 0, 1) := by decide +kernel
theorem dX7_add_62 : decode cX7_add 62 = .ok (.getfield 18, 3) := by decide +kernel
theorem dX7_add_65 : decode cX7_add 65 = .ok (.if_icmp .ge 29, 3) := by decide +kernel
theorem dX7_add_68 : decode cX7_add 68 = .ok (.aload_n 0, 1) := by decide +kernel
theorem dX7_add_69 : decode cX7_add 69 = .ok (.getfield 15, 3) := by decide +kernel
theorem dX7_add_72 : decode cX7_add 72 = .ok (.iload_n 3, 1) := by decide +kernel
theorem dX7_add_73 : decode cX7_add 73 = .ok (.iaload, 1) := by decide +kernel
theorem dX7_add_74 : decode cX7_add 74 = .ok (.iload_n 2, 1) := by decide +kernel
theorem dX7_add_75 : decode cX7_add 75 = .ok (.if_icmp .ne 13, 3) := by decide +kernel
theorem dX7_add_78 : decode cX7_add 78 = .ok (.aload_n 0, 1) := by decide +kernel
theorem dX7_add_79 : decode cX7_add 79 = .ok (.getfield 15, 3) := by decide +kernel
theorem dX7_add_82 : decode cX7_add 82 = .ok (.iload_n 3, 1) := by decide +kernel
theorem dX7_add_83 : decode cX7_add 83 = .ok (.iload_n 2, 1) := by decide +kernel
theorem dX7_add_84 : decode cX7_add 84 = .ok (.iconst 1, 1) := by decide +kernel
theorem dX7_add_85 : decode cX7_add 85 = .ok (.iadd, 1) := by decide +kernel
theorem dX7_add_86 : decode cX7_add 86 = .ok (.iastore, 1) := by decide +kernel
theorem dX7_add_87 : decode cX7_add 87 = .ok (.return_, 1) := by decide +kernel
theorem dX7_add_88 : decode cX7_add 88 = .ok (.iinc 3 1, 3) := by decide +kernel
theorem dX7_add_91 : decode cX7_add 91 = .ok (.goto (-31), 3) := by decide +kernel
theorem dX7_add_94 : decode cX7_add 94 = .ok (.return_, 1) := by decide +kernel
theorem dX8_init_0 : decode cX8_init 0 = .ok (.aload_n 0, 1) := by decide +kernel
theorem dX8_init_1 : decode cX8_init 1 = .ok (.invokespecial 3, 3) := by decide +kernel
theorem dX8_init_4 : decode cX8_init 4 = .ok (.aload_n 0, 1) := by decide +kernel
theorem dX8_init_5 : decode cX8_init 5 = .ok (.bipush 80, 2) := by decide +kernel
theorem dX8_init_7 : decode cX8_init 7 = .ok (.newarray .int, 2) := by decide +kernel
theorem dX8_init_9 : decode cX8_init 9 = .ok (.putfield 9, 3) := by decide +kernel
theorem dX8_init_12 : decode cX8_init 12 = .ok (.aload_n 0, 1) := by decide +kernel
theorem dX8_init_13 : decode cX8_init 13 = .ok (.iconst 0, 1) := by decide +kernel
theorem dX8_init_14 : decode cX8_init 14 = .ok (.putfield 15, 3) := by decide +kernel
theorem dX8_init_17 : decode cX8_init 17 = .ok (.return_, 1) := by decide +kernel
theorem dX8_push_0 : decode cX8_push 0 = .ok (.aload_n 0, 1) := by decide +kernel
theorem dX8_push_1 : decode cX8_push 1 = .ok (.getfield 15, 3) := by decide +kernel
theorem dX8_push_4 : decode cX8_push 4 = .ok (.bipush 80, 2) := by decide +kernel
theorem dX8_push_6 : decode cX8_push 6 = .ok (.if_icmp .ge 23, 3) := by decide +kernel
theorem dX8_push_9 : decode cX8_push 9 = .ok (.aload_n 0, 1) := by decide +kernel
theorem dX8_push_10 : decode cX8_push 10 = .ok (.getfield 9, 3) := by decide +kernel
theorem dX8_push_13 : decode cX8_push 13 = .ok (.aload_n 0, 1) := by decide +kernel
theorem dX8_push_14 : decode cX8_push 14 = .ok (.getfield 15, 3) := by decide +kernel
theorem dX8_push_17 : decode cX8_push 17 = .ok (.iload_n 1, 1) := by decide +kernel
theorem dX8_push_18 : decode cX8_push 18 = .ok (.iastore, 1) := by decide +kernel
theorem dX8_push_19 : decode cX8_push 19 = .ok (.aload_n 0, 1) := by decide +kernel
theorem dX8_push_20 : decode cX8_push 20 = .ok (.dup, 1) := by decide +kernel
theorem dX8_push_21 : decode cX8_push 21 = .ok (.getfield 15, 3) := by decide +kernel
theorem dX8_push_24 : decode cX8_push 24 = .ok (.iconst 1, 1) := by decide +kernel
theorem dX8_push_25 : decode cX8_push 25 = .ok (.iadd, 1) := by decide +kernel
theorem dX8_push_26 : decode cX8_push 26 = .ok (.putfield 15, 3) := by decide +kernel
theorem dX8_push_29 : decode cX8_push 29 = .ok (.return_, 1) := by decide +kernel
set_option maxRecDepth 20000 in
theorem ggX9_init_X8_init : GoodIn wsX9_init wsX8_init := goodIn_r _ [41, 42, 2, 3, 37, 43, 44, 106, 107] (by decide +kernel) (by decide +kernel)
set_option maxRecDepth 20000 in
theorem gX9_init_X8_init_n9 : GoodIn wsX9_init (wsX8_init) := ggX9_init_X8_init
set_option maxRecDepth 20000 in
theorem ggX9_init_X5_init : GoodIn wsX9_init wsX5_init := goodIn_r _ [46, 47, 2, 3, 48, 49, 50, 51, 119, 120, 121, 122] (by decide +kernel) (by decide +kernel)
set_option maxRecDepth 20000 in
theorem gX9_init_X5_init_n18 : GoodIn wsX9_init (wsX5_init) := ggX9_init_X5_init
set_option maxRecDepth 20000 in
theorem ggX9_init_X7_init : GoodIn wsX9_init wsX7_init := goodIn_r _ [53, 54, 2, 3, 37, 55, 56, 57, 123, 124, 125] (by decide +kernel) (by decide +kernel)
set_option maxRecDepth 20000 in
theorem gX9_init_X7_init_n25 : GoodIn wsX9_init (wsX7_init) := ggX9_init_X7_init
set_option maxRecDepth 20000 in
theorem ggX9_init_X3_init : GoodIn wsX9_init wsX3_init := goodIn_r _ [59, 60, 2, 3, 37, 61, 62, 63, 126, 127, 128] (by decide +kernel) (by decide +kernel)
set_option maxRecDepth 20000 in
theorem gX9_init_X3_init_n32 : GoodIn wsX9_init (wsX3_init) := ggX9_init_X3_init
set_option maxRecDepth 20000 in
theorem ggX9_init_X6_init : GoodIn wsX9_init wsX6_init := goodIn_r _ [65, 66, 2, 3, 67, 68, 69, 70, 37, 71, 72, 73, 74, 75, 76, 77, 13, 14, 78, 79, 17, 18, 80, 81, 82, 83, 84, 85, 52, 53, 54, 55, 56, 57, 58, 59, 60, 61, 62, 63, 144, 145, 146, 147, 148, 149, 150, 129, 130, 131, 132, 123, 124, 125, 126, 127, 128] (by decide +kernel) (by decide +kernel)
set_option maxRecDepth 20000 in
theorem gX9_init_X6_init_n39 : GoodIn wsX9_init (wsX6_init) := ggX9_init_X6_init
set_option maxRecDepth 20000 in
theorem ggX9_init_X2_init : GoodIn wsX9_init wsX2_init := goodIn_r _ [87, 88, 2, 3, 37, 89, 90, 133, 134] (by decide +kernel) (by decide +kernel)
set_option maxRecDepth 20000 in
theorem gX9_init_X2_init_n46 : GoodIn wsX9_init (wsX2_init) := ggX9_init_X2_init
set_option maxRecDepth 20000 in
theorem ggX9_init_X4_init : GoodIn wsX9_init wsX4_init := goodIn_r _ [92, 93, 2, 3, 37, 94, 95, 96, 97, 98, 99, 100, 135, 136, 137, 138, 139, 140, 141] (by decide +kernel) (by decide +kernel)
set_option maxRecDepth 20000 in
theorem gX9_init_X4_init_n53 : GoodIn wsX9_init (wsX4_init) := ggX9_init_X4_init
set_option maxRecDepth 20000 in
theorem ggX9_init_X0_init : GoodIn wsX9_init wsX0_init := goodIn_r _ [102, 103, 2, 3, 37, 104, 105, 142, 143] (by decide +kernel) (by decide +kernel)
set_option maxRecDepth 20000 in
theorem gX9_init_X0_init_n64 : GoodIn wsX9_init (wsX0_init) := ggX9_init_X0_init
theorem dX9_init_0 : decode cX9_init 0 = .ok (.aload_n 0, 1) := by decide +kernel
theorem dX9_init_1 : decode cX9_init 1 = .ok (.invokespecial 1, 3) := by decide +kernel
theorem dX9_init_4 : decode cX9_init 4 = .ok (.aload_n 0, 1) := by decide +kernel
theorem dX9_init_5 : decode cX9_init 5 = .ok (.new 7, 3) := by decide +kernel
theorem dX9_init_8 : decode cX9_init 8 = .ok (.dup, 1) := by decide +kernel
theorem dX9_init_9 : decode cX9_init 9 = .ok (.invokespecial 9, 3) := by decide +kernel
theorem dX9_init_12 : decode cX9_init 12 = .ok (.putfield 10, 3) := by decide +kernel
theorem dX9_init_15 : decode cX9_init 15 = .ok (.aload_n 0, 1) := by decide +kernel
theorem dX9_init_16 : decode cX9_init 16 = .ok (.new 16, 3) := by decide +kernel
theorem dX9_init_19 : decode cX9_init 19 = .ok (.dup, 1) := by decide +kernel
theorem dX9_init_20 : decode cX9_init 20 = .ok (.invokespecial 18, 3) := by decide +kernel
theorem dX9_init_23 : decode cX9_init 23 = .ok (.putfield 19, 3) := by decide +kernel
theorem dX9_init_26 : decode cX9_init 26 = .ok (.aload_n 0, 1) := by decide +kernel
theorem dX9_init_27 : decode cX9_init 27 = .ok (.new 23, 3) := by decide +kernel
theorem dX9_init_30 : decode cX9_init 30 = .ok (.dup, 1) := by decide +kernel
theorem dX9_init_31 : decode cX9_init 31 = .ok (.invokespecial 25, 3) := by decide +kernel
theorem dX9_init_34 : decode cX9_init 34 = .ok (.putfield 26, 3) := by decide +kernel
theorem dX9_init_37 : decode cX9_init 37 = .ok (.aload_n 0, 1) := by decide +kernel
theorem dX9_init_38 : decode cX9_init 38 = .ok (.new 30, 3) := by decide +kernel
theorem dX9_init_41 : decode cX9_init 41 = .ok (.dup, 1) := by decide +kernel
theorem dX9_init_42 : decode cX9_init 42 = .ok (.invokespecial 32, 3) := by decide +kernel
theorem dX9_init_45 : decode cX9_init 45 = .ok (.putfield 33, 3) := by decide +kernel
theorem dX9_init_48 : decode cX9_init 48 = .ok (.aload_n 0, 1) := by decide +kernel
theorem dX9_init_49 : decode cX9_init 49 = .ok (.new 37, 3) := by decide +kernel
theorem dX9_init_52 : decode cX9_init 52 = .ok (.dup, 1) := by decide +kernel
theorem dX9_init_53 : decode cX9_init 53 = .ok (.invokespecial 39, 3) := by decide +kernel
theorem dX9_init_56 : decode cX9_init 56 = .ok (.putfield 40, 3) := by decide +kernel
theorem dX9_init_59 : decode cX9_init 59 = .ok (.aload_n 0, 1) := by decide +kernel
theorem dX9_init_60 : decode cX9_init 60 = .ok (.new 44, 3) := by decide +kernel
theorem dX9_init_63 : decode cX9_init 63 = .ok (.dup, 1) := by decide +kernel
theorem dX9_init_64 : decode cX9_init 64 = .ok (.invokespecial 46, 3) := by decide +kernel
theorem dX9_init_67 : decode cX9_init 67 = .ok (.putfield 47, 3) := by decide +kernel
theorem dX9_init_70 : decode cX9_init 70 = .ok (.aload_n 0, 1) := by decide +kernel
theorem dX9_init_71 : decode cX9_init 71 = .ok (.new 51, 3) := by decide +kernel
theorem dX9_init_74 : decode cX9_init 74 = .ok (.dup, 1) := by decide +kernel
theorem dX9_init_75 : decode cX9_init 75 = .ok (.invokespecial 53, 3) := by decide +kernel
theorem dX9_init_78 : decode cX9_init 78 = .ok (.putfield 54, 3) := by decide +kernel
theorem dX9_init_81 : decode cX9_init 81 = .ok (.aload_n 0, 1) := by decide +kernel
theorem dX9_init_82 : decode cX9_init 82 = .ok (.iconst 0, 1) := by decide +kernel
theorem dX9_init_83 : decode cX9_init 83 = .ok (.putfield 58, 3) := by decide +kernel
theorem dX9_init_86 : decode cX9_init 86 = .ok (.aload_n 0, 1) := by decide +kernel
theorem dX9_init_87 : decode cX9_init 87 = .ok (.new 62, 3) := by decide +kernel
theorem dX9_init_90 : decode cX9_init 90 = .ok (.dup, 1) := by decide +kernel
theorem dX9_init_91 : decode cX9_init 91 = .ok (.invokespecial 64, 3) := by decide +kernel
theorem dX9_init_94 : decode cX9_init 94 = .ok (.putfield 65, 3) := by decide +kernel
theorem dX9_init_97 : decode cX9_init 97 = .ok (.aload_n 0, 1) := by decide +kernel
theorem dX9_init_98 : decode cX9_init 98 = .ok (.bipush 80, 2) := by decide +kernel
theorem dX9_init_100 : decode cX9_init 100 = .ok (.newarray .int, 2) := by decide +kernel
theorem dX9_init_102 : decode cX9_init 102 = .ok (.putfield 69, 3) := by decide +kernel
theorem dX9_init_105 : decode cX9_init 105 = .ok (.aload_n 0, 1) := by decide +kernel
theorem dX9_init_106 : decode cX9_init 106 = .ok (.iconst 0, 1) := by decide +kernel
theorem dX9_init_107 : decode cX9_init 107 = .ok (.putfield 73, 3) := by decide +kernel
theorem dX9_init_110 : decode cX9_init 110 = .ok (.return_, 1) := by decide +kernel
set_option maxRecDepth 20000 in
theorem ggX9_append_X9_isSymbol : GoodIn wsX9_append wsX9_isSymbol := goodIn_r _ [8] (by decide +kernel) (by decide +kernel)
set_option maxRecDepth 20000 in
theorem gX9_append_X9_isSymbol : GoodIn wsX9_append (va_wsS RX9 77 yX9_isSymbol wsX9_isSymbol) := goodIn_app (goodIn_of _ (by decide +kernel)) ggX9_append_X9_isSymbol
set_option maxRecDepth 20000 in
theorem ggX9_append_X9_requireRoom : GoodIn wsX9_append wsX9_requireRoom := goodIn_ca (goodIn_r _ [12, 13, 14, 3, 4, 29, 30, 31, 32, 33, 34, 35, 36, 37, 38, 39, 40, 41] (by decide +kernel) (by decide +kernel)) (goodIn_sub (fun _ h => List.mem_cons_of_mem _ (List.mem_append_right _ h)) (by decide +kernel))
set_option maxRecDepth 20000 in
theorem gX9_append_X9_requireRoom : GoodIn wsX9_append (wsV RX9 88 RX9 yX9_requireRoom wsX9_requireRoom) := goodIn_app (goodIn_of _ (by decide +kernel)) ggX9_append_X9_requireRoom
set_option maxRecDepth 20000 in
theorem ggX9_append_X8_push : GoodIn wsX9_append wsX8_push := goodIn_r _ [19, 20, 21, 40, 41] (by decide +kernel) (by decide +kernel)
set_option maxRecDepth 20000 in
theorem gX9_append_X8_push : GoodIn wsX9_append (wsV RX9 92 RX8 yX8_push wsX8_push) := goodIn_app (goodIn_of _ (by decide +kernel)) ggX9_append_X8_push
set_option maxRecDepth 20000 in
theorem ggX9_append_X9_dropPlan : GoodIn wsX9_append wsX9_dropPlan := goodIn_r _ [25, 26, 27, 28, 29, 30, 31, 32, 33, 34, 35, 36, 37, 38, 39, 42, 43] (by decide +kernel) (by decide +kernel)
set_option maxRecDepth 20000 in
theorem gX9_append_X9_dropPlan : GoodIn wsX9_append (wsV RX9 95 RX9 yX9_dropPlan wsX9_dropPlan) := goodIn_app (goodIn_of _ (by decide +kernel)) ggX9_append_X9_dropPlan
theorem dX9_append_0 : decode cX9_append 0 = .ok (.iload_n 1, 1) := by decide +kernel
theorem dX9_append_1 : decode cX9_append 1 = .ok (.invokestatic 77, 3) := by decide +kernel
theorem dX9_append_4 : decode cX9_append 4 = .ok (.ifCond .eq 14, 3) := by decide +kernel
theorem dX9_append_7 : decode cX9_append 7 = .ok (.iload_n 2, 1) := by decide +kernel
theorem dX9_append_8 : decode cX9_append 8 = .ok (.iconst 1, 1) := by decide +kernel
theorem dX9_append_9 : decode cX9_append 9 = .ok (.if_icmp .lt 9, 3) := by decide +kernel
theorem dX9_append_12 : decode cX9_append 12 = .ok (.iload_n 2, 1) := by decide +kernel
theorem dX9_append_13 : decode cX9_append 13 = .ok (.bipush 80, 2) := by decide +kernel
theorem dX9_append_15 : decode cX9_append 15 = .ok (.if_icmp .le 13, 3) := by decide +kernel
theorem dX9_append_18 : decode cX9_append 18 = .ok (.new 81, 3) := by decide +kernel
theorem dX9_append_21 : decode cX9_append 21 = .ok (.dup, 1) := by decide +kernel
theorem dX9_append_22 : decode cX9_append 22 = .ok (.ldc 83, 2) := by decide +kernel
theorem dX9_append_24 : decode cX9_append 24 = .ok (.invokespecial 85, 3) := by decide +kernel
theorem dX9_append_27 : decode cX9_append 27 = .ok (.athrow, 1) := by decide +kernel
theorem dX9_append_28 : decode cX9_append 28 = .ok (.aload_n 0, 1) := by decide +kernel
theorem dX9_append_29 : decode cX9_append 29 = .ok (.iload_n 2, 1) := by decide +kernel
theorem dX9_append_30 : decode cX9_append 30 = .ok (.invokevirtual 88, 3) := by decide +kernel
theorem dX9_append_33 : decode cX9_append 33 = .ok (.iconst 0, 1) := by decide +kernel
theorem dX9_append_34 : decode cX9_append 34 = .ok (.istore_n 3, 1) := by decide +kernel
theorem dX9_append_35 : decode cX9_append 35 = .ok (.iload_n 3, 1) := by decide +kernel
theorem dX9_append_36 : decode cX9_append 36 = .ok (.iload_n 2, 1) := by decide +kernel
theorem dX9_append_37 : decode cX9_append 37 = .ok (.if_icmp .ge 17, 3) := by decide +kernel
theorem dX9_append_40 : decode cX9_append 40 = .ok (.aload_n 0, 1) := by decide +kernel
theorem dX9_append_41 : decode cX9_append 41 = .ok (.getfield 10, 3) := by decide +kernel
theorem dX9_append_44 : decode cX9_append 44 = .ok (.iload_n 1, 1) := by decide +kernel
theorem dX9_append_45 : decode cX9_append 45 = .ok (.invokevirtual 92, 3) := by decide +kernel
theorem dX9_append_48 : decode cX9_append 48 = .ok (.iinc 3 1, 3) := by decide +kernel
theorem dX9_append_51 : decode cX9_append 51 = .ok (.goto (-16), 3) := by decide +kernel
theorem dX9_append_54 : decode cX9_append 54 = .ok (.aload_n 0, 1) := by decide +kernel
theorem dX9_append_55 : decode cX9_append 55 = .ok (.invokevirtual 95, 3) := by decide +kernel
theorem dX9_append_58 : decode cX9_append 58 = .ok (.aload_n 0, 1) := by decide +kernel
theorem dX9_append_59 : decode cX9_append 59 = .ok (.getfield 10, 3) := by decide +kernel
theorem dX9_append_62 : decode cX9_append 62 = .ok (.getfield 98, 3) := by decide +kernel
theorem dX9_append_65 : decode cX9_append 65 = .ok (.ireturn, 1) := by decide +kernel
set_option maxRecDepth 20000 in
theorem ggX9_feed_X9_requireRoom : GoodIn wsX9_feed wsX9_requireRoom := goodIn_ca (goodIn_r _ [9, 10, 11, 3, 4, 26, 27, 28, 29, 30, 31, 32, 33, 34, 35, 36, 37, 38] (by decide +kernel) (by decide +kernel)) (goodIn_sub (fun _ h => List.mem_cons_of_mem _ (List.mem_append_right _ h)) (by decide +kernel))
set_option maxRecDepth 20000 in
theorem gX9_feed_X9_requireRoom : GoodIn wsX9_feed (wsV RX9 88 RX9 yX9_requireRoom wsX9_requireRoom) := goodIn_app (goodIn_of _ (by decide +kernel)) ggX9_feed_X9_requireRoom
set_option maxRecDepth 20000 in
theorem ggX9_feed_X8_push : GoodIn wsX9_feed wsX8_push := goodIn_r _ [16, 17, 18, 37, 38] (by decide +kernel) (by decide +kernel)
set_option maxRecDepth 20000 in
theorem gX9_feed_X8_push : GoodIn wsX9_feed (wsV RX9 92 RX8 yX8_push wsX8_push) := goodIn_app (goodIn_of _ (by decide +kernel)) ggX9_feed_X8_push
set_option maxRecDepth 20000 in
theorem ggX9_feed_X9_dropPlan : GoodIn wsX9_feed wsX9_dropPlan := goodIn_r _ [22, 23, 24, 25, 26, 27, 28, 29, 30, 31, 32, 33, 34, 35, 36, 39, 40] (by decide +kernel) (by decide +kernel)
set_option maxRecDepth 20000 in
theorem gX9_feed_X9_dropPlan : GoodIn wsX9_feed (wsV RX9 95 RX9 yX9_dropPlan wsX9_dropPlan) := goodIn_app (goodIn_of _ (by decide +kernel)) ggX9_feed_X9_dropPlan
theorem dX9_feed_0 : decode cX9_feed 0 = .ok (.iload_n 3, 1) := by decide +kernel
theorem dX9_feed_1 : decode cX9_feed 1 = .ok (.iconst 1, 1) := by decide +kernel
theorem dX9_feed_2 : decode cX9_feed 2 = .ok (.if_icmp .lt 9, 3) := by decide +kernel
theorem dX9_feed_5 : decode cX9_feed 5 = .ok (.iload_n 3, 1) := by decide +kernel
theorem dX9_feed_6 : decode cX9_feed 6 = .ok (.bipush 16, 2) := by decide +kernel
theorem dX9_feed_8 : decode cX9_feed 8 = .ok (.if_icmp .le 13, 3) := by decide +kernel
theorem dX9_feed_11 : decode cX9_feed 11 = .ok (.new 81, 3) := by decide +kernel
theorem dX9_feed_14 : decode cX9_feed 14 = .ok (.dup, 1) := by decide +kernel
theorem dX9_feed_15 : decode cX9_feed 15 = .ok (.ldc 101, 2) := by decide +kernel
theorem dX9_feed_17 : decode cX9_feed 17 = .ok (.invokespecial 85, 3) := by decide +kernel
theorem dX9_feed_20 : decode cX9_feed 20 = .ok (.athrow, 1) := by decide +kernel
theorem dX9_feed_21 : decode cX9_feed 21 = .ok (.aload_n 0, 1) := by decide +kernel
theorem dX9_feed_22 : decode cX9_feed 22 = .ok (.iload_n 3, 1) := by decide +kernel
theorem dX9_feed_23 : decode cX9_feed 23 = .ok (.invokevirtual 88, 3) := by decide +kernel
theorem dX9_feed_26 : decode cX9_feed 26 = .ok (.iconst 0, 1) := by decide +kernel
theorem dX9_feed_27 : decode cX9_feed 27 = .ok (.istore 4, 2) := by decide +kernel
theorem dX9_feed_29 : decode cX9_feed 29 = .ok (.iload 4, 2) := by decide +kernel
theorem dX9_feed_31 : decode cX9_feed 31 = .ok (.iload_n 3, 1) := by decide +kernel
theorem dX9_feed_32 : decode cX9_feed 32 = .ok (.if_icmp .ge 33, 3) := by decide +kernel
theorem dX9_feed_35 : decode cX9_feed 35 = .ok (.bipush 15, 2) := by decide +kernel
theorem dX9_feed_37 : decode cX9_feed 37 = .ok (.iload 4, 2) := by decide +kernel
theorem dX9_feed_39 : decode cX9_feed 39 = .ok (.isub, 1) := by decide +kernel
theorem dX9_feed_40 : decode cX9_feed 40 = .ok (.iconst 4, 1) := by decide +kernel
theorem dX9_feed_41 : decode cX9_feed 41 = .ok (.imul, 1) := by decide +kernel
theorem dX9_feed_42 : decode cX9_feed 42 = .ok (.istore 5, 2) := by decide +kernel
theorem dX9_feed_44 : decode cX9_feed 44 = .ok (.aload_n 0, 1) := by decide +kernel
theorem dX9_feed_45 : decode cX9_feed 45 = .ok (.getfield 10, 3) := by decide +kernel
theorem dX9_feed_48 : decode cX9_feed 48 = .ok (.lload_n 1, 1) := by decide +kernel
theorem dX9_feed_49 : decode cX9_feed 49 = .ok (.iload 5, 2) := by decide +kernel
theorem dX9_feed_51 : decode cX9_feed 51 = .ok (.lushr, 1) := by decide +kernel
theorem dX9_feed_52 : decode cX9_feed 52 = .ok (.l2i, 1) := by decide +kernel
theorem dX9_feed_53 : decode cX9_feed 53 = .ok (.bipush 15, 2) := by decide +kernel
theorem dX9_feed_55 : decode cX9_feed 55 = .ok (.iand, 1) := by decide +kernel
theorem dX9_feed_56 : decode cX9_feed 56 = .ok (.invokevirtual 92, 3) := by decide +kernel
theorem dX9_feed_59 : decode cX9_feed 59 = .ok (.iinc 4 1, 3) := by decide +kernel
theorem dX9_feed_62 : decode cX9_feed 62 = .ok (.goto (-33), 3) := by decide +kernel
theorem dX9_feed_65 : decode cX9_feed 65 = .ok (.aload_n 0, 1) := by decide +kernel
theorem dX9_feed_66 : decode cX9_feed 66 = .ok (.invokevirtual 95, 3) := by decide +kernel
theorem dX9_feed_69 : decode cX9_feed 69 = .ok (.aload_n 0, 1) := by decide +kernel
theorem dX9_feed_70 : decode cX9_feed 70 = .ok (.getfield 10, 3) := by decide +kernel
theorem dX9_feed_73 : decode cX9_feed 73 = .ok (.getfield 98, 3) := by decide +kernel
theorem dX9_feed_76 : decode cX9_feed 76 = .ok (.ireturn, 1) := by decide +kernel
set_option maxRecDepth 20000 in
theorem ggX9_set_X9_isSymbol : GoodIn wsX9_set wsX9_isSymbol := goodIn_r _ [11] (by decide +kernel) (by decide +kernel)
set_option maxRecDepth 20000 in
theorem gX9_set_X9_isSymbol : GoodIn wsX9_set (va_wsS RX9 77 yX9_isSymbol wsX9_isSymbol) := goodIn_app (goodIn_of _ (by decide +kernel)) ggX9_set_X9_isSymbol
set_option maxRecDepth 20000 in
theorem ggX9_set_X9_dropPlan : GoodIn wsX9_set wsX9_dropPlan := goodIn_r _ [15, 16, 17, 18, 19, 20, 21, 22, 23, 24, 25, 26, 27, 28, 29, 32, 33] (by decide +kernel) (by decide +kernel)
set_option maxRecDepth 20000 in
theorem gX9_set_X9_dropPlan : GoodIn wsX9_set (wsV RX9 95 RX9 yX9_dropPlan wsX9_dropPlan) := goodIn_app (goodIn_of _ (by decide +kernel)) ggX9_set_X9_dropPlan
theorem dX9_set_0 : decode cX9_set 0 = .ok (.iload_n 1, 1) := by decide +kernel
theorem dX9_set_1 : decode cX9_set 1 = .ok (.ifCond .lt 14, 3) := by decide +kernel
theorem dX9_set_4 : decode cX9_set 4 = .ok (.iload_n 1, 1) := by decide +kernel
theorem dX9_set_5 : decode cX9_set 5 = .ok (.aload_n 0, 1) := by decide +kernel
theorem dX9_set_6 : decode cX9_set 6 = .ok (.getfield 10, 3) := by decide +kernel
theorem dX9_set_9 : decode cX9_set 9 = .ok (.getfield 98, 3) := by decide +kernel
theorem dX9_set_12 : decode cX9_set 12 = .ok (.if_icmp .lt 13, 3) := by decide +kernel
theorem dX9_set_15 : decode cX9_set 15 = .ok (.new 103, 3) := by decide +kernel
theorem dX9_set_18 : decode cX9_set 18 = .ok (.dup, 1) := by decide +kernel
theorem dX9_set_19 : decode cX9_set 19 = .ok (.ldc 105, 2) := by decide +kernel
theorem dX9_set_21 : decode cX9_set 21 = .ok (.invokespecial 107, 3) := by decide +kernel
theorem dX9_set_24 : decode cX9_set 24 = .ok (.athrow, 1) := by decide +kernel
theorem dX9_set_25 : decode cX9_set 25 = .ok (.iload_n 2, 1) := by decide +kernel
theorem dX9_set_26 : decode cX9_set 26 = .ok (.invokestatic 77, 3) := by decide +kernel
theorem dX9_set_29 : decode cX9_set 29 = .ok (.ifCond .ne 13, 3) := by decide +kernel
theorem dX9_set_32 : decode cX9_set 32 = .ok (.new 81, 3) := by decide +kernel
theorem dX9_set_35 : decode cX9_set 35 = .ok (.dup, 1) := by decide +kernel
theorem dX9_set_36 : decode cX9_set 36 = .ok (.ldc 108, 2) := by decide +kernel
theorem dX9_set_38 : decode cX9_set 38 = .ok (.invokespecial 85, 3) := by decide +kernel
theorem dX9_set_41 : decode cX9_set 41 = .ok (.athrow, 1) := by decide +kernel
theorem dX9_set_42 : decode cX9_set 42 = .ok (.aload_n 0, 1) := by decide +kernel
theorem dX9_set_43 : decode cX9_set 43 = .ok (.getfield 10, 3) := by decide +kernel
theorem dX9_set_46 : decode cX9_set 46 = .ok (.getfield 110, 3) := by decide +kernel
theorem dX9_set_49 : decode cX9_set 49 = .ok (.iload_n 1, 1) := by decide +kernel
theorem dX9_set_50 : decode cX9_set 50 = .ok (.iaload, 1) := by decide +kernel
theorem dX9_set_51 : decode cX9_set 51 = .ok (.istore_n 3, 1) := by decide +kernel
theorem dX9_set_52 : decode cX9_set 52 = .ok (.aload_n 0, 1) := by decide +kernel
theorem dX9_set_53 : decode cX9_set 53 = .ok (.getfield 10, 3) := by decide +kernel
theorem dX9_set_56 : decode cX9_set 56 = .ok (.getfield 110, 3) := by decide +kernel
theorem dX9_set_59 : decode cX9_set 59 = .ok (.iload_n 1, 1) := by decide +kernel
theorem dX9_set_60 : decode cX9_set 60 = .ok (.iload_n 2, 1) := by decide +kernel
theorem dX9_set_61 : decode cX9_set 61 = .ok (.iastore, 1) := by decide +kernel
theorem dX9_set_62 : decode cX9_set 62 = .ok (.aload_n 0, 1) := by decide +kernel
theorem dX9_set_63 : decode cX9_set 63 = .ok (.invokevirtual 95, 3) := by decide +kernel
theorem dX9_set_66 : decode cX9_set 66 = .ok (.iload_n 3, 1) := by decide +kernel
theorem dX9_set_67 : decode cX9_set 67 = .ok (.ireturn, 1) := by decide +kernel
set_option maxRecDepth 20000 in
theorem ggX9_cut_X9_dropPlan : GoodIn wsX9_cut wsX9_dropPlan := goodIn_r _ [9, 10, 11, 12, 13, 14, 15, 16, 17, 18, 19, 20, 21, 22, 23, 26, 27] (by decide +kernel) (by decide +kernel)
set_option maxRecDepth 20000 in
theorem gX9_cut_X9_dropPlan : GoodIn wsX9_cut (wsV RX9 95 RX9 yX9_dropPlan wsX9_dropPlan) := goodIn_app (goodIn_of _ (by decide +kernel)) ggX9_cut_X9_dropPlan
theorem dX9_cut_0 : decode cX9_cut 0 = .ok (.iload_n 1, 1) := by decide +kernel
theorem dX9_cut_1 : decode cX9_cut 1 = .ok (.ifCond .lt 14, 3) := by decide +kernel
theorem dX9_cut_4 : decode cX9_cut 4 = .ok (.iload_n 1, 1) := by decide +kernel
theorem dX9_cut_5 : decode cX9_cut 5 = .ok (.aload_n 0, 1) := by decide +kernel
theorem dX9_cut_6 : decode cX9_cut 6 = .ok (.getfield 10, 3) := by decide +kernel
theorem dX9_cut_9 : decode cX9_cut 9 = .ok (.getfield 98, 3) := by decide +kernel
theorem dX9_cut_12 : decode cX9_cut 12 = .ok (.if_icmp .le 13, 3) := by decide +kernel
theorem dX9_cut_15 : decode cX9_cut 15 = .ok (.new 81, 3) := by decide +kernel
theorem dX9_cut_18 : decode cX9_cut 18 = .ok (.dup, 1) := by decide +kernel
theorem dX9_cut_19 : decode cX9_cut 19 = .ok (.ldc 113, 2) := by decide +kernel
theorem dX9_cut_21 : decode cX9_cut 21 = .ok (.invokespecial 85, 3) := by decide +kernel
theorem dX9_cut_24 : decode cX9_cut 24 = .ok (.athrow, 1) := by decide +kernel
theorem dX9_cut_25 : decode cX9_cut 25 = .ok (.aload_n 0, 1) := by decide +kernel
theorem dX9_cut_26 : decode cX9_cut 26 = .ok (.getfield 10, 3) := by decide +kernel
theorem dX9_cut_29 : decode cX9_cut 29 = .ok (.dup, 1) := by decide +kernel
theorem dX9_cut_30 : decode cX9_cut 30 = .ok (.getfield 98, 3) := by decide +kernel
theorem dX9_cut_33 : decode cX9_cut 33 = .ok (.iload_n 1, 1) := by decide +kernel
theorem dX9_cut_34 : decode cX9_cut 34 = .ok (.isub, 1) := by decide +kernel
theorem dX9_cut_35 : decode cX9_cut 35 = .ok (.putfield 98, 3) := by decide +kernel
theorem dX9_cut_38 : decode cX9_cut 38 = .ok (.aload_n 0, 1) := by decide +kernel
theorem dX9_cut_39 : decode cX9_cut 39 = .ok (.invokevirtual 95, 3) := by decide +kernel
theorem dX9_cut_42 : decode cX9_cut 42 = .ok (.aload_n 0, 1) := by decide +kernel
theorem dX9_cut_43 : decode cX9_cut 43 = .ok (.getfield 10, 3) := by decide +kernel
theorem dX9_cut_46 : decode cX9_cut 46 = .ok (.getfield 98, 3) := by decide +kernel
theorem dX9_cut_49 : decode cX9_cut 49 = .ok (.ireturn, 1) := by decide +kernel
theorem dX9_size_0 : decode cX9_size 0 = .ok (.aload_n 0, 1) := by decide +kernel
theorem dX9_size_1 : decode cX9_size 1 = .ok (.getfield 10, 3) := by decide +kernel
theorem dX9_size_4 : decode cX9_size 4 = .ok (.getfield 98, 3) := by decide +kernel
theorem dX9_size_7 : decode cX9_size 7 = .ok (.ireturn, 1) := by decide +kernel
set_option maxRecDepth 20000 in
theorem ggX9_count_X9_isSymbol : GoodIn wsX9_count wsX9_isSymbol := goodIn_r _ [9] (by decide +kernel) (by decide +kernel)
set_option maxRecDepth 20000 in
theorem gX9_count_X9_isSymbol : GoodIn wsX9_count (va_wsS RX9 77 yX9_isSymbol wsX9_isSymbol) := goodIn_app (goodIn_of _ (by decide +kernel)) ggX9_count_X9_isSymbol
theorem dX9_count_0 : decode cX9_count 0 = .ok (.iload_n 1, 1) := by decide +kernel
theorem dX9_count_1 : decode cX9_count 1 = .ok (.ifCond .lt 26, 3) := by decide +kernel
theorem dX9_count_4 : decode cX9_count 4 = .ok (.iload_n 2, 1) := by decide +kernel
theorem dX9_count_5 : decode cX9_count 5 = .ok (.aload_n 0, 1) := by decide +kernel
theorem dX9_count_6 : decode cX9_count 6 = .ok (.getfield 10, 3) := by decide +kernel
theorem dX9_count_9 : decode cX9_count 9 = .ok (.getfield 98, 3) := by decide +kernel
theorem dX9_count_12 : decode cX9_count 12 = .ok (.if_icmp .gt 15, 3) := by decide +kernel
theorem dX9_count_15 : decode cX9_count 15 = .ok (.iload_n 1, 1) := by decide +kernel
theorem dX9_count_16 : decode cX9_count 16 = .ok (.iload_n 2, 1) := by decide +kernel
theorem dX9_count_17 : decode cX9_count 17 = .ok (.if_icmp .gt 10, 3) := by decide +kernel
theorem dX9_count_20 : decode cX9_count 20 = .ok (.iload_n 3, 1) := by decide +kernel
theorem dX9_count_21 : decode cX9_count 21 = .ok (.invokestatic 77, 3) := by decide +kernel
theorem dX9_count_24 : decode cX9_count 24 = .ok (.ifCond .ne 13, 3) := by decide +kernel
theorem dX9_count_27 : decode cX9_count 27 = .ok (.new 103, 3) := by decide +kernel
theorem dX9_count_30 : decode cX9_count 30 = .ok (.dup, 1) := by decide +kernel
theorem dX9_count_31 : decode cX9_count 31 = .ok (.ldc 115, 2) := by decide +kernel
theorem dX9_count_33 : decode cX9_count 33 = .ok (.invokespecial 107, 3) := by decide +kernel
theorem dX9_count_36 : decode cX9_count 36 = .ok (.athrow, 1) := by decide +kernel
theorem dX9_count_37 : decode cX9_count 37 = .ok (.iconst 0, 1) := by decide +kernel
theorem dX9_count_38 : decode cX9_count 38 = .ok (.istore 4, 2) := by decide +kernel
theorem dX9_count_40 : decode cX9_count 40 = .ok (.iload_n 1, 1) := by decide +kernel
theorem dX9_count_41 : decode cX9_count 41 = .ok (.istore 5, 2) := by decide +kernel
theorem dX9_count_43 : decode cX9_count 43 = .ok (.iload 5, 2) := by decide +kernel
theorem dX9_count_45 : decode cX9_count 45 = .ok (.iload_n 2, 1) := by decide +kernel
theorem dX9_count_46 : decode cX9_count 46 = .ok (.if_icmp .ge 26, 3) := by decide +kernel
theorem dX9_count_49 : decode cX9_count 49 = .ok (.aload_n 0, 1) := by decide +kernel
theorem dX9_count_50 : decode cX9_count 50 = .ok (.getfield 10, 3) := by decide +kernel
theorem dX9_count_53 : decode cX9_count 53 = .ok (.getfield 110, 3) := by decide +kernel
theorem dX9_count_56 : decode cX9_count 56 = .ok (.iload 5, 2) := by decide +kernel
theorem dX9_count_58 : decode cX9_count 58 = .ok (.iaload, 1) := by decide +kernel
theorem dX9_count_59 : decode cX9_count 59 = .ok (.iload_n 3, 1) := by decide +kernel
theorem dX9_count_60 : decode cX9_count 60 = .ok (.if_icmp .ne 6, 3) := by decide +kernel
theorem dX9_count_63 : decode cX9_count 63 = .ok (.iinc 4 1, 3) := by decide +kernel
theorem dX9_count_66 : decode cX9_count 66 = .ok (.iinc 5 1, 3) := by decide +kernel
theorem dX9_count_69 : decode cX9_count 69 = .ok (.goto (-26), 3) := by decide +kernel
theorem dX9_count_72 : decode cX9_count 72 = .ok (.iload 4, 2) := by decide +kernel
theorem dX9_count_74 : decode cX9_count 74 = .ok (.ireturn, 1) := by decide +kernel
set_option maxRecDepth 20000 in
theorem ggX9_setLimit_X9_dropPlan : GoodIn wsX9_setLimit wsX9_dropPlan := goodIn_r _ [9, 10, 11, 12, 13, 14, 15, 16, 17, 18, 19, 20, 21, 22, 23, 28, 29] (by decide +kernel) (by decide +kernel)
set_option maxRecDepth 20000 in
theorem gX9_setLimit_X9_dropPlan : GoodIn wsX9_setLimit (wsV RX9 95 RX9 yX9_dropPlan wsX9_dropPlan) := goodIn_app (goodIn_of _ (by decide +kernel)) ggX9_setLimit_X9_dropPlan
theorem dX9_setLimit_0 : decode cX9_setLimit 0 = .ok (.iload_n 1, 1) := by decide +kernel
theorem dX9_setLimit_1 : decode cX9_setLimit 1 = .ok (.iconst 1, 1) := by decide +kernel
theorem dX9_setLimit_2 : decode cX9_setLimit 2 = .ok (.if_icmp .lt 9, 3) := by decide +kernel
theorem dX9_setLimit_5 : decode cX9_setLimit 5 = .ok (.iload_n 1, 1) := by decide +kernel
theorem dX9_setLimit_6 : decode cX9_setLimit 6 = .ok (.bipush 6, 2) := by decide +kernel
theorem dX9_setLimit_8 : decode cX9_setLimit 8 = .ok (.if_icmp .le 13, 3) := by decide +kernel
theorem dX9_setLimit_11 : decode cX9_setLimit 11 = .ok (.new 81, 3) := by decide +kernel
theorem dX9_setLimit_14 : decode cX9_setLimit 14 = .ok (.dup, 1) := by decide +kernel
theorem dX9_setLimit_15 : decode cX9_setLimit 15 = .ok (.ldc 117, 2) := by decide +kernel
theorem dX9_setLimit_17 : decode cX9_setLimit 17 = .ok (.invokespecial 85, 3) := by decide +kernel
theorem dX9_setLimit_20 : decode cX9_setLimit 20 = .ok (.athrow, 1) := by decide +kernel
theorem dX9_setLimit_21 : decode cX9_setLimit 21 = .ok (.aload_n 0, 1) := by decide +kernel
theorem dX9_setLimit_22 : decode cX9_setLimit 22 = .ok (.getfield 19, 3) := by decide +kernel
theorem dX9_setLimit_25 : decode cX9_setLimit 25 = .ok (.getfield 119, 3) := by decide +kernel
theorem dX9_setLimit_28 : decode cX9_setLimit 28 = .ok (.istore_n 2, 1) := by decide +kernel
theorem dX9_setLimit_29 : decode cX9_setLimit 29 = .ok (.aload_n 0, 1) := by decide +kernel
theorem dX9_setLimit_30 : decode cX9_setLimit 30 = .ok (.getfield 19, 3) := by decide +kernel
theorem dX9_setLimit_33 : decode cX9_setLimit 33 = .ok (.iload_n 1, 1) := by decide +kernel
theorem dX9_setLimit_34 : decode cX9_setLimit 34 = .ok (.putfield 119, 3) := by decide +kernel
theorem dX9_setLimit_37 : decode cX9_setLimit 37 = .ok (.aload_n 0, 1) := by decide +kernel
theorem dX9_setLimit_38 : decode cX9_setLimit 38 = .ok (.invokevirtual 95, 3) := by decide +kernel
theorem dX9_setLimit_41 : decode cX9_setLimit 41 = .ok (.iload_n 2, 1) := by decide +kernel
theorem dX9_setLimit_42 : decode cX9_setLimit 42 = .ok (.ireturn, 1) := by decide +kernel
set_option maxRecDepth 20000 in
theorem ggX9_setPrices_X9_dropPlan : GoodIn wsX9_setPrices wsX9_dropPlan := goodIn_r _ [10, 11, 12, 13, 14, 15, 16, 17, 18, 19, 20, 21, 22, 23, 24, 29, 30] (by decide +kernel) (by decide +kernel)
set_option maxRecDepth 20000 in
theorem gX9_setPrices_X9_dropPlan : GoodIn wsX9_setPrices (wsV RX9 95 RX9 yX9_dropPlan wsX9_dropPlan) := goodIn_app (goodIn_of _ (by decide +kernel)) ggX9_setPrices_X9_dropPlan
theorem dX9_setPrices_0 : decode cX9_setPrices 0 = .ok (.iload_n 1, 1) := by decide +kernel
theorem dX9_setPrices_1 : decode cX9_setPrices 1 = .ok (.ifCond .lt 20, 3) := by decide +kernel
theorem dX9_setPrices_4 : decode cX9_setPrices 4 = .ok (.iload_n 1, 1) := by decide +kernel
theorem dX9_setPrices_5 : decode cX9_setPrices 5 = .ok (.sipush 200, 3) := by decide +kernel
theorem dX9_setPrices_8 : decode cX9_setPrices 8 = .ok (.if_icmp .gt 13, 3) := by decide +kernel
theorem dX9_setPrices_11 : decode cX9_setPrices 11 = .ok (.iload_n 2, 1) := by decide +kernel
theorem dX9_setPrices_12 : decode cX9_setPrices 12 = .ok (.ifCond .lt 9, 3) := by decide +kernel
theorem dX9_setPrices_15 : decode cX9_setPrices 15 = .ok (.iload_n 2, 1) := by decide +kernel
theorem dX9_setPrices_16 : decode cX9_setPrices 16 = .ok (.bipush 20, 2) := by decide +kernel
theorem dX9_setPrices_18 : decode cX9_setPrices 18 = .ok (.if_icmp .le 13, 3) := by decide +kernel
theorem dX9_setPrices_21 : decode cX9_setPrices 21 = .ok (.new 81, 3) := by decide +kernel
theorem dX9_setPrices_24 : decode cX9_setPrices 24 = .ok (.dup, 1) := by decide +kernel
theorem dX9_setPrices_25 : decode cX9_setPrices 25 = .ok (.ldc 122, 2) := by decide +kernel
theorem dX9_setPrices_27 : decode cX9_setPrices 27 = .ok (.invokespecial 85, 3) := by decide +kernel
theorem dX9_setPrices_30 : decode cX9_setPrices 30 = .ok (.athrow, 1) := by decide +kernel
theorem dX9_setPrices_31 : decode cX9_setPrices 31 = .ok (.iload_n 1, 1) := by decide +kernel
theorem dX9_setPrices_32 : decode cX9_setPrices 32 = .ok (.aload_n 0, 1) := by decide +kernel
theorem dX9_setPrices_33 : decode cX9_setPrices 33 = .ok (.getfield 19, 3) := by decide +kernel
theorem dX9_setPrices_36 : decode cX9_setPrices 36 = .ok (.getfield 124, 3) := by decide +kernel
theorem dX9_setPrices_39 : decode cX9_setPrices 39 = .ok (.if_icmp .ne 14, 3) := by decide +kernel
theorem dX9_setPrices_42 : decode cX9_setPrices 42 = .ok (.iload_n 2, 1) := by decide +kernel
theorem dX9_setPrices_43 : decode cX9_setPrices 43 = .ok (.aload_n 0, 1) := by decide +kernel
theorem dX9_setPrices_44 : decode cX9_setPrices 44 = .ok (.getfield 19, 3) := by decide +kernel
theorem dX9_setPrices_47 : decode cX9_setPrices 47 = .ok (.getfield 127, 3) := by decide +kernel
theorem dX9_setPrices_50 : decode cX9_setPrices 50 = .ok (.if_icmp .eq 7, 3) := by decide +kernel
theorem dX9_setPrices_53 : decode cX9_setPrices 53 = .ok (.iconst 1, 1) := by decide +kernel
theorem dX9_setPrices_54 : decode cX9_setPrices 54 = .ok (.goto 4, 3) := by decide +kernel
theorem dX9_setPrices_57 : decode cX9_setPrices 57 = .ok (.iconst 0, 1) := by decide +kernel
theorem dX9_setPrices_58 : decode cX9_setPrices 58 = .ok (.istore_n 3, 1) := by decide +kernel
theorem dX9_setPrices_59 : decode cX9_setPrices 59 = .ok (.aload_n 0, 1) := by decide +kernel
theorem dX9_setPrices_60 : decode cX9_setPrices 60 = .ok (.getfield 19, 3) := by decide +kernel
theorem dX9_setPrices_63 : decode cX9_setPrices 63 = .ok (.iload_n 1, 1) := by decide +kernel
theorem dX9_setPrices_64 : decode cX9_setPrices 64 = .ok (.putfield 124, 3) := by decide +kernel
theorem dX9_setPrices_67 : decode cX9_setPrices 67 = .ok (.aload_n 0, 1) := by decide +kernel
theorem dX9_setPrices_68 : decode cX9_setPrices 68 = .ok (.getfield 19, 3) := by decide +kernel
theorem dX9_setPrices_71 : decode cX9_setPrices 71 = .ok (.iload_n 2, 1) := by decide +kernel
theorem dX9_setPrices_72 : decode cX9_setPrices 72 = .ok (.putfield 127, 3) := by decide +kernel
theorem dX9_setPrices_75 : decode cX9_setPrices 75 = .ok (.aload_n 0, 1) := by decide +kernel
theorem dX9_setPrices_76 : decode cX9_setPrices 76 = .ok (.invokevirtual 95, 3) := by decide +kernel
theorem dX9_setPrices_79 : decode cX9_setPrices 79 = .ok (.iload_n 3, 1) := by decide +kernel
theorem dX9_setPrices_80 : decode cX9_setPrices 80 = .ok (.ireturn, 1) := by decide +kernel
set_option maxRecDepth 20000 in
theorem ggX9_setGreatest_X9_dropPlan : GoodIn wsX9_setGreatest wsX9_dropPlan := goodIn_r _ [9, 10, 11, 12, 13, 14, 15, 16, 17, 18, 19, 20, 21, 22, 23, 28, 29] (by decide +kernel) (by decide +kernel)
set_option maxRecDepth 20000 in
theorem gX9_setGreatest_X9_dropPlan : GoodIn wsX9_setGreatest (wsV RX9 95 RX9 yX9_dropPlan wsX9_dropPlan) := goodIn_app (goodIn_of _ (by decide +kernel)) ggX9_setGreatest_X9_dropPlan
theorem dX9_setGreatest_0 : decode cX9_setGreatest 0 = .ok (.iload_n 1, 1) := by decide +kernel
theorem dX9_setGreatest_1 : decode cX9_setGreatest 1 = .ok (.iconst 1, 1) := by decide +kernel
theorem dX9_setGreatest_2 : decode cX9_setGreatest 2 = .ok (.if_icmp .lt 9, 3) := by decide +kernel
theorem dX9_setGreatest_5 : decode cX9_setGreatest 5 = .ok (.iload_n 1, 1) := by decide +kernel
theorem dX9_setGreatest_6 : decode cX9_setGreatest 6 = .ok (.bipush 80, 2) := by decide +kernel
theorem dX9_setGreatest_8 : decode cX9_setGreatest 8 = .ok (.if_icmp .le 13, 3) := by decide +kernel
theorem dX9_setGreatest_11 : decode cX9_setGreatest 11 = .ok (.new 81, 3) := by decide +kernel
theorem dX9_setGreatest_14 : decode cX9_setGreatest 14 = .ok (.dup, 1) := by decide +kernel
theorem dX9_setGreatest_15 : decode cX9_setGreatest 15 = .ok (.ldc 130, 2) := by decide +kernel
theorem dX9_setGreatest_17 : decode cX9_setGreatest 17 = .ok (.invokespecial 85, 3) := by decide +kernel
theorem dX9_setGreatest_20 : decode cX9_setGreatest 20 = .ok (.athrow, 1) := by decide +kernel
theorem dX9_setGreatest_21 : decode cX9_setGreatest 21 = .ok (.aload_n 0, 1) := by decide +kernel
theorem dX9_setGreatest_22 : decode cX9_setGreatest 22 = .ok (.getfield 19, 3) := by decide +kernel
theorem dX9_setGreatest_25 : decode cX9_setGreatest 25 = .ok (.getfield 132, 3) := by decide +kernel
theorem dX9_setGreatest_28 : decode cX9_setGreatest 28 = .ok (.istore_n 2, 1) := by decide +kernel
theorem dX9_setGreatest_29 : decode cX9_setGreatest 29 = .ok (.aload_n 0, 1) := by decide +kernel
theorem dX9_setGreatest_30 : decode cX9_setGreatest 30 = .ok (.getfield 19, 3) := by decide +kernel
theorem dX9_setGreatest_33 : decode cX9_setGreatest 33 = .ok (.iload_n 1, 1) := by decide +kernel
theorem dX9_setGreatest_34 : decode cX9_setGreatest 34 = .ok (.putfield 132, 3) := by decide +kernel
theorem dX9_setGreatest_37 : decode cX9_setGreatest 37 = .ok (.aload_n 0, 1) := by decide +kernel
theorem dX9_setGreatest_38 : decode cX9_setGreatest 38 = .ok (.invokevirtual 95, 3) := by decide +kernel
theorem dX9_setGreatest_41 : decode cX9_setGreatest 41 = .ok (.iload_n 2, 1) := by decide +kernel
theorem dX9_setGreatest_42 : decode cX9_setGreatest 42 = .ok (.ireturn, 1) := by decide +kernel
set_option maxRecDepth 20000 in
theorem ggX9_costOf_X9_costOfBlock : GoodIn wsX9_costOf wsX9_costOfBlock := goodIn_r _ [9, 10, 3, 11, 12, 13, 14, 15, 16, 17, 18, 19, 20, 21, 22, 23, 24, 25, 26, 27, 28, 29, 30, 31, 32, 33, 34, 35, 36, 37, 38, 39, 40, 41, 8, 42, 43, 44, 45, 46, 47, 48, 49, 50, 51, 52, 53, 54, 55, 56, 57, 58, 59, 60, 61, 62, 63, 64, 65, 66, 67, 68, 69, 70, 71, 72, 73, 74, 77, 78, 79, 80, 81, 82, 83, 75, 76, 84, 85, 86] (by decide +kernel) (by decide +kernel)
set_option maxRecDepth 20000 in
theorem gX9_costOf_X9_costOfBlock : GoodIn wsX9_costOf (wsV RX9 137 RX9 yX9_costOfBlock wsX9_costOfBlock) := goodIn_app (goodIn_of _ (by decide +kernel)) ggX9_costOf_X9_costOfBlock
theorem dX9_costOf_0 : decode cX9_costOf 0 = .ok (.iload_n 1, 1) := by decide +kernel
theorem dX9_costOf_1 : decode cX9_costOf 1 = .ok (.ifCond .lt 19, 3) := by decide +kernel
theorem dX9_costOf_4 : decode cX9_costOf 4 = .ok (.iload_n 2, 1) := by decide +kernel
theorem dX9_costOf_5 : decode cX9_costOf 5 = .ok (.aload_n 0, 1) := by decide +kernel
theorem dX9_costOf_6 : decode cX9_costOf 6 = .ok (.getfield 10, 3) := by decide +kernel
theorem dX9_costOf_9 : decode cX9_costOf 9 = .ok (.getfield 98, 3) := by decide +kernel
theorem dX9_costOf_12 : decode cX9_costOf 12 = .ok (.if_icmp .gt 8, 3) := by decide +kernel
theorem dX9_costOf_15 : decode cX9_costOf 15 = .ok (.iload_n 1, 1) := by decide +kernel
theorem dX9_costOf_16 : decode cX9_costOf 16 = .ok (.iload_n 2, 1) := by decide +kernel
theorem dX9_costOf_17 : decode cX9_costOf 17 = .ok (.if_icmp .lt 13, 3) := by decide +kernel
theorem dX9_costOf_20 : decode cX9_costOf 20 = .ok (.new 103, 3) := by decide +kernel
theorem dX9_costOf_23 : decode cX9_costOf 23 = .ok (.dup, 1) := by decide +kernel
theorem dX9_costOf_24 : decode cX9_costOf 24 = .ok (.ldc 135, 2) := by decide +kernel
theorem dX9_costOf_26 : decode cX9_costOf 26 = .ok (.invokespecial 107, 3) := by decide +kernel
theorem dX9_costOf_29 : decode cX9_costOf 29 = .ok (.athrow, 1) := by decide +kernel
theorem dX9_costOf_30 : decode cX9_costOf 30 = .ok (.aload_n 0, 1) := by decide +kernel
theorem dX9_costOf_31 : decode cX9_costOf 31 = .ok (.iload_n 1, 1) := by decide +kernel
theorem dX9_costOf_32 : decode cX9_costOf 32 = .ok (.iload_n 2, 1) := by decide +kernel
theorem dX9_costOf_33 : decode cX9_costOf 33 = .ok (.invokevirtual 137, 3) := by decide +kernel
theorem dX9_costOf_36 : decode cX9_costOf 36 = .ok (.ireturn, 1) := by decide +kernel
set_option maxRecDepth 20000 in
theorem ggX9_plan_X6_split : GoodIn wsX9_plan wsX6_split := goodIn_r _ [17, 18, 19, 20, 21, 22, 23, 24, 25, 26, 27, 28, 29, 30, 31, 32, 33, 34, 35, 36, 37, 38, 39, 40, 41, 42, 43, 44, 45, 46, 47, 48, 49, 50, 51, 52, 53, 54, 55, 56, 57, 58, 59, 60, 61, 62, 63, 64, 65, 66, 67, 68, 69, 70, 71, 72, 73, 74, 75, 76, 77, 78, 79, 80, 81, 82, 83, 84, 85, 86, 87, 88, 89, 90, 16, 91, 92, 93, 94, 95, 96, 97, 98, 99, 100, 101, 102, 103, 104, 188, 189, 190, 191, 182, 183, 184, 185, 192, 193, 194, 195, 196, 197, 198, 199, 200, 201, 202, 203, 204, 205, 206] (by decide +kernel) (by decide +kernel)
set_option maxRecDepth 20000 in
theorem gX9_plan_X6_split : GoodIn wsX9_plan (wsV RX9 141 RX6 yX6_split wsX6_split) := goodIn_app (goodIn_of _ (by decide +kernel)) ggX9_plan_X6_split
set_option maxRecDepth 20000 in
theorem ggX9_plan_X4_follow : GoodIn wsX9_plan wsX4_follow := goodIn_r _ [109, 110, 111, 112, 113, 114, 115, 116, 117, 188, 189, 190, 191, 175, 176, 177, 178, 179, 180, 181, 192, 193] (by decide +kernel) (by decide +kernel)
set_option maxRecDepth 20000 in
theorem gX9_plan_X4_follow : GoodIn wsX9_plan (wsV RX9 145 RX4 yX4_follow wsX4_follow) := goodIn_app (goodIn_of _ (by decide +kernel)) ggX9_plan_X4_follow
set_option maxRecDepth 20000 in
theorem ggX9_plan_X7_take : GoodIn wsX9_plan wsX7_take := goodIn_r _ [121, 122, 123, 26, 124, 125, 126, 127, 53, 54, 55, 56, 57, 58, 59, 60, 61, 62, 128, 64, 65, 66, 67, 68, 69, 70, 192, 193, 201, 202, 203] (by decide +kernel) (by decide +kernel)
set_option maxRecDepth 20000 in
theorem gX9_plan_X7_take : GoodIn wsX9_plan (wsV RX9 158 RX7 yX7_take wsX7_take) := goodIn_app (goodIn_of _ (by decide +kernel)) ggX9_plan_X7_take
set_option maxRecDepth 20000 in
theorem ggX9_plan_X2_find : GoodIn wsX9_plan wsX2_find := goodIn_r _ [133, 134, 135, 136, 137, 132, 138, 139, 140, 25, 26, 27, 141, 142, 143, 144, 145, 146, 147, 148, 149, 150, 151, 152, 153, 154, 201, 202, 203, 186, 187] (by decide +kernel) (by decide +kernel)
set_option maxRecDepth 20000 in
theorem gX9_plan_X2_find : GoodIn wsX9_plan (wsV RX9 162 RX2 yX2_find wsX2_find) := goodIn_app (goodIn_of _ (by decide +kernel)) ggX9_plan_X2_find
set_option maxRecDepth 20000 in
theorem ggX9_plan_X4_keepCode : GoodIn wsX9_plan wsX4_keepCode := goodIn_r _ [158, 159, 160, 161, 162, 108, 163, 68, 69, 70, 175, 176, 177, 178, 179, 180, 181] (by decide +kernel) (by decide +kernel)
set_option maxRecDepth 20000 in
theorem gX9_plan_X4_keepCode : GoodIn wsX9_plan (wsV RX9 169 RX4 yX4_keepCode wsX4_keepCode) := goodIn_app (goodIn_of _ (by decide +kernel)) ggX9_plan_X4_keepCode
theorem dX9_plan_0 : decode cX9_plan 0 = .ok (.aload_n 0, 1) := by decide +kernel
theorem dX9_plan_1 : decode cX9_plan 1 = .ok (.getfield 58, 3) := by decide +kernel
theorem dX9_plan_4 : decode cX9_plan 4 = .ok (.ifCond .ne 126, 3) := by decide +kernel
theorem dX9_plan_7 : decode cX9_plan 7 = .ok (.aload_n 0, 1) := by decide +kernel
theorem dX9_plan_8 : decode cX9_plan 8 = .ok (.getfield 40, 3) := by decide +kernel
theorem dX9_plan_11 : decode cX9_plan 11 = .ok (.aload_n 0, 1) := by decide +kernel
theorem dX9_plan_12 : decode cX9_plan 12 = .ok (.getfield 10, 3) := by decide +kernel
theorem dX9_plan_15 : decode cX9_plan 15 = .ok (.aload_n 0, 1) := by decide +kernel
theorem dX9_plan_16 : decode cX9_plan 16 = .ok (.getfield 19, 3) := by decide +kernel
theorem dX9_plan_19 : decode cX9_plan 19 = .ok (.invokevirtual 141, 3) := by decide +kernel
theorem dX9_plan_22 : decode cX9_plan 22 = .ok (.aload_n 0, 1) := by decide +kernel
theorem dX9_plan_23 : decode cX9_plan 23 = .ok (.getfield 54, 3) := by decide +kernel
theorem dX9_plan_26 : decode cX9_plan 26 = .ok (.aload_n 0, 1) := by decide +kernel
theorem dX9_plan_27 : decode cX9_plan 27 = .ok (.getfield 40, 3) := by decide +kernel
theorem dX9_plan_30 : decode cX9_plan 30 = .ok (.aload_n 0, 1) := by decide +kernel
theorem dX9_plan_31 : decode cX9_plan 31 = .ok (.getfield 10, 3) := by decide +kernel
theorem dX9_plan_34 : decode cX9_plan 34 = .ok (.invokevirtual 145, 3) := by decide +kernel
theorem dX9_plan_37 : decode cX9_plan 37 = .ok (.iconst 0, 1) := by decide +kernel
theorem dX9_plan_38 : decode cX9_plan 38 = .ok (.istore_n 1, 1) := by decide +kernel
theorem dX9_plan_39 : decode cX9_plan 39 = .ok (.iload_n 1, 1) := by decide +kernel
theorem dX9_plan_40 : decode cX9_plan 40 = .ok (.aload_n 0, 1) := by decide +kernel
theorem dX9_plan_41 : decode cX9_plan 41 = .ok (.getfield 54, 3) := by decide +kernel
theorem dX9_plan_44 : decode cX9_plan 44 = .ok (.getfield 149, 3) := by decide +kernel
theorem dX9_plan_47 : decode cX9_plan 47 = .ok (.if_icmp .ge 78, 3) := by decide +kernel
theorem dX9_plan_50 : decode cX9_plan 50 = .ok (.aload_n 0, 1) := by decide +kernel
theorem dX9_plan_51 : decode cX9_plan 51 = .ok (.getfield 26, 3) := by decide +kernel
theorem dX9_plan_54 : decode cX9_plan 54 = .ok (.aload_n 0, 1) := by decide +kernel
theorem dX9_plan_55 : decode cX9_plan 55 = .ok (.getfield 10, 3) := by decide +kernel
theorem dX9_plan_58 : decode cX9_plan 58 = .ok (.aload_n 0, 1) := by decide +kernel
theorem dX9_plan_59 : decode cX9_plan 59 = .ok (.getfield 54, 3) := by decide +kernel
theorem dX9_plan_62 : decode cX9_plan 62 = .ok (.getfield 152, 3) := by decide +kernel
theorem dX9_plan_65 : decode cX9_plan 65 = .ok (.iload_n 1, 1) := by decide +kernel
theorem dX9_plan_66 : decode cX9_plan 66 = .ok (.iaload, 1) := by decide +kernel
theorem dX9_plan_67 : decode cX9_plan 67 = .ok (.aload_n 0, 1) := by decide +kernel
theorem dX9_plan_68 : decode cX9_plan 68 = .ok (.getfield 54, 3) := by decide +kernel
theorem dX9_plan_71 : decode cX9_plan 71 = .ok (.getfield 155, 3) := by decide +kernel
theorem dX9_plan_74 : decode cX9_plan 74 = .ok (.iload_n 1, 1) := by decide +kernel
theorem dX9_plan_75 : decode cX9_plan 75 = .ok (.iaload, 1) := by decide +kernel
theorem dX9_plan_76 : decode cX9_plan 76 = .ok (.invokevirtual 158, 3) := by decide +kernel
theorem dX9_plan_79 : decode cX9_plan 79 = .ok (.aload_n 0, 1) := by decide +kernel
theorem dX9_plan_80 : decode cX9_plan 80 = .ok (.getfield 47, 3) := by decide +kernel
theorem dX9_plan_83 : decode cX9_plan 83 = .ok (.aload_n 0, 1) := by decide +kernel
theorem dX9_plan_84 : decode cX9_plan 84 = .ok (.getfield 26, 3) := by decide +kernel
theorem dX9_plan_87 : decode cX9_plan 87 = .ok (.aload_n 0, 1) := by decide +kernel
theorem dX9_plan_88 : decode cX9_plan 88 = .ok (.getfield 19, 3) := by decide +kernel
theorem dX9_plan_91 : decode cX9_plan 91 = .ok (.getfield 119, 3) := by decide +kernel
theorem dX9_plan_94 : decode cX9_plan 94 = .ok (.invokevirtual 162, 3) := by decide +kernel
theorem dX9_plan_97 : decode cX9_plan 97 = .ok (.aload_n 0, 1) := by decide +kernel
theorem dX9_plan_98 : decode cX9_plan 98 = .ok (.getfield 54, 3) := by decide +kernel
theorem dX9_plan_101 : decode cX9_plan 101 = .ok (.iload_n 1, 1) := by decide +kernel
theorem dX9_plan_102 : decode cX9_plan 102 = .ok (.aload_n 0, 1) := by decide +kernel
theorem dX9_plan_103 : decode cX9_plan 103 = .ok (.getfield 47, 3) := by decide +kernel
theorem dX9_plan_106 : decode cX9_plan 106 = .ok (.getfield 166, 3) := by decide +kernel
theorem dX9_plan_109 : decode cX9_plan 109 = .ok (.aload_n 0, 1) := by decide +kernel
theorem dX9_plan_110 : decode cX9_plan 110 = .ok (.getfield 19, 3) := by decide +kernel
theorem dX9_plan_113 : decode cX9_plan 113 = .ok (.getfield 119, 3) := by decide +kernel
theorem dX9_plan_116 : decode cX9_plan 116 = .ok (.invokevirtual 169, 3) := by decide +kernel
theorem dX9_plan_119 : decode cX9_plan 119 = .ok (.iinc 1 1, 3) := by decide +kernel
theorem dX9_plan_122 : decode cX9_plan 122 = .ok (.goto (-83), 3) := by decide +kernel
theorem dX9_plan_125 : decode cX9_plan 125 = .ok (.aload_n 0, 1) := by decide +kernel
theorem dX9_plan_126 : decode cX9_plan 126 = .ok (.iconst 1, 1) := by decide +kernel
theorem dX9_plan_127 : decode cX9_plan 127 = .ok (.putfield 58, 3) := by decide +kernel
theorem dX9_plan_130 : decode cX9_plan 130 = .ok (.aload_n 0, 1) := by decide +kernel
theorem dX9_plan_131 : decode cX9_plan 131 = .ok (.getfield 54, 3) := by decide +kernel
theorem dX9_plan_134 : decode cX9_plan 134 = .ok (.getfield 149, 3) := by decide +kernel
theorem dX9_plan_137 : decode cX9_plan 137 = .ok (.ireturn, 1) := by decide +kernel
theorem dX9_hasPlan_0 : decode cX9_hasPlan 0 = .ok (.aload_n 0, 1) := by decide +kernel
theorem dX9_hasPlan_1 : decode cX9_hasPlan 1 = .ok (.getfield 58, 3) := by decide +kernel
theorem dX9_hasPlan_4 : decode cX9_hasPlan 4 = .ok (.ireturn, 1) := by decide +kernel
set_option maxRecDepth 20000 in
theorem ggX9_cost_X9_requirePlan : GoodIn wsX9_cost wsX9_requirePlan := goodIn_ca (goodIn_r _ [7, 8, 9, 10, 11, 12, 13, 14, 15, 16, 17, 18, 19, 20, 21] (by decide +kernel) (by decide +kernel)) (goodIn_sub (fun _ h => List.mem_cons_of_mem _ (List.mem_append_right _ h)) (by decide +kernel))
set_option maxRecDepth 20000 in
theorem gX9_cost_X9_requirePlan : GoodIn wsX9_cost (wsV RX9 173 RX9 yX9_requirePlan wsX9_requirePlan) := goodIn_app (goodIn_of _ (by decide +kernel)) ggX9_cost_X9_requirePlan
theorem dX9_cost_0 : decode cX9_cost 0 = .ok (.aload_n 0, 1) := by decide +kernel
theorem dX9_cost_1 : decode cX9_cost 1 = .ok (.invokevirtual 173, 3) := by decide +kernel
theorem dX9_cost_4 : decode cX9_cost 4 = .ok (.aload_n 0, 1) := by decide +kernel
theorem dX9_cost_5 : decode cX9_cost 5 = .ok (.getfield 54, 3) := by decide +kernel
theorem dX9_cost_8 : decode cX9_cost 8 = .ok (.getfield 176, 3) := by decide +kernel
theorem dX9_cost_11 : decode cX9_cost 11 = .ok (.ireturn, 1) := by decide +kernel
set_option maxRecDepth 20000 in
theorem ggX9_start_X9_requirePlan : GoodIn wsX9_start wsX9_requirePlan := goodIn_ca (goodIn_r _ [7, 8, 9, 10, 18, 19, 20, 21, 22, 23, 24, 25, 26, 27, 28] (by decide +kernel) (by decide +kernel)) (goodIn_sub (fun _ h => List.mem_cons_of_mem _ (List.mem_append_left _ (List.mem_append_right _ h))) (by decide +kernel))
set_option maxRecDepth 20000 in
theorem gX9_start_X9_requirePlan : GoodIn wsX9_start (wsV RX9 173 RX9 yX9_requirePlan wsX9_requirePlan) := goodIn_app (goodIn_of _ (by decide +kernel)) ggX9_start_X9_requirePlan
set_option maxRecDepth 20000 in
theorem ggX9_start_X9_requireBlock : GoodIn wsX9_start wsX9_requireBlock := goodIn_ca (goodIn_r _ [14, 15, 16, 1, 17, 18, 19, 20, 21, 22, 23, 24, 25, 26, 27, 28, 29, 30, 31, 32, 33, 34, 35] (by decide +kernel) (by decide +kernel)) (goodIn_sub (fun _ h => List.mem_cons_of_mem _ (List.mem_append_right _ h)) (by decide +kernel))
set_option maxRecDepth 20000 in
theorem gX9_start_X9_requireBlock : GoodIn wsX9_start (wsV RX9 179 RX9 yX9_requireBlock wsX9_requireBlock) := goodIn_app (goodIn_of _ (by decide +kernel)) ggX9_start_X9_requireBlock
theorem dX9_start_0 : decode cX9_start 0 = .ok (.aload_n 0, 1) := by decide +kernel
theorem dX9_start_1 : decode cX9_start 1 = .ok (.invokevirtual 173, 3) := by decide +kernel
theorem dX9_start_4 : decode cX9_start 4 = .ok (.aload_n 0, 1) := by decide +kernel
theorem dX9_start_5 : decode cX9_start 5 = .ok (.iload_n 1, 1) := by decide +kernel
theorem dX9_start_6 : decode cX9_start 6 = .ok (.invokevirtual 179, 3) := by decide +kernel
theorem dX9_start_9 : decode cX9_start 9 = .ok (.aload_n 0, 1) := by decide +kernel
theorem dX9_start_10 : decode cX9_start 10 = .ok (.getfield 54, 3) := by decide +kernel
theorem dX9_start_13 : decode cX9_start 13 = .ok (.getfield 152, 3) := by decide +kernel
theorem dX9_start_16 : decode cX9_start 16 = .ok (.iload_n 1, 1) := by decide +kernel
theorem dX9_start_17 : decode cX9_start 17 = .ok (.iaload, 1) := by decide +kernel
theorem dX9_start_18 : decode cX9_start 18 = .ok (.ireturn, 1) := by decide +kernel
set_option maxRecDepth 20000 in
theorem ggX9_length_X9_requirePlan : GoodIn wsX9_length wsX9_requirePlan := goodIn_ca (goodIn_r _ [7, 8, 9, 10, 29, 30, 31, 32, 33, 34, 35, 36, 37, 38, 39] (by decide +kernel) (by decide +kernel)) (goodIn_sub (fun _ h => List.mem_cons_of_mem _ (List.mem_append_left _ (List.mem_append_right _ h))) (by decide +kernel))
set_option maxRecDepth 20000 in
theorem gX9_length_X9_requirePlan : GoodIn wsX9_length (wsV RX9 173 RX9 yX9_requirePlan wsX9_requirePlan) := goodIn_app (goodIn_of _ (by decide +kernel)) ggX9_length_X9_requirePlan
set_option maxRecDepth 20000 in
theorem ggX9_length_X9_requireBlock : GoodIn wsX9_length wsX9_requireBlock := goodIn_ca (goodIn_r _ [14, 15, 16, 1, 17, 29, 30, 31, 32, 33, 34, 35, 36, 37, 38, 39, 40, 41, 42, 43, 44, 45, 46] (by decide +kernel) (by decide +kernel)) (goodIn_sub (fun _ h => List.mem_cons_of_mem _ (List.mem_append_right _ h)) (by decide +kernel))
set_option maxRecDepth 20000 in
theorem gX9_length_X9_requireBlock : GoodIn wsX9_length (wsV RX9 179 RX9 yX9_requireBlock wsX9_requireBlock) := goodIn_app (goodIn_of _ (by decide +kernel)) ggX9_length_X9_requireBlock
set_option maxRecDepth 20000 in
theorem ggX9_length_X9_requireSymbol : GoodIn wsX9_length wsX9_requireSymbol := goodIn_ca (goodIn_r _ [21, 15, 16, 22, 23, 6, 24] (by decide +kernel) (by decide +kernel)) (goodIn_sub (fun _ h => List.mem_cons_of_mem _ (List.mem_append_right _ h)) (by decide +kernel))
set_option maxRecDepth 20000 in
theorem gX9_length_X9_requireSymbol : GoodIn wsX9_length (wsV RX9 182 RX9 yX9_requireSymbol wsX9_requireSymbol) := goodIn_app (goodIn_of _ (by decide +kernel)) ggX9_length_X9_requireSymbol
set_option maxRecDepth 20000 in
theorem ggX9_length_X4_cellOf : GoodIn wsX9_length wsX4_cellOf := goodIn_r _ [28, 23, 6, 24] (by decide +kernel) (by decide +kernel)
set_option maxRecDepth 20000 in
theorem gX9_length_X4_cellOf : GoodIn wsX9_length (va_wsS RX9 186 yX4_cellOf wsX4_cellOf) := goodIn_app (goodIn_of _ (by decide +kernel)) ggX9_length_X4_cellOf
theorem dX9_length_0 : decode cX9_length 0 = .ok (.aload_n 0, 1) := by decide +kernel
theorem dX9_length_1 : decode cX9_length 1 = .ok (.invokevirtual 173, 3) := by decide +kernel
theorem dX9_length_4 : decode cX9_length 4 = .ok (.aload_n 0, 1) := by decide +kernel
theorem dX9_length_5 : decode cX9_length 5 = .ok (.iload_n 1, 1) := by decide +kernel
theorem dX9_length_6 : decode cX9_length 6 = .ok (.invokevirtual 179, 3) := by decide +kernel
theorem dX9_length_9 : decode cX9_length 9 = .ok (.aload_n 0, 1) := by decide +kernel
theorem dX9_length_10 : decode cX9_length 10 = .ok (.iload_n 2, 1) := by decide +kernel
theorem dX9_length_11 : decode cX9_length 11 = .ok (.invokevirtual 182, 3) := by decide +kernel
theorem dX9_length_14 : decode cX9_length 14 = .ok (.aload_n 0, 1) := by decide +kernel
theorem dX9_length_15 : decode cX9_length 15 = .ok (.getfield 54, 3) := by decide +kernel
theorem dX9_length_18 : decode cX9_length 18 = .ok (.getfield 185, 3) := by decide +kernel
theorem dX9_length_21 : decode cX9_length 21 = .ok (.iload_n 1, 1) := by decide +kernel
theorem dX9_length_22 : decode cX9_length 22 = .ok (.iload_n 2, 1) := by decide +kernel
theorem dX9_length_23 : decode cX9_length 23 = .ok (.invokestatic 186, 3) := by decide +kernel
theorem dX9_length_26 : decode cX9_length 26 = .ok (.iaload, 1) := by decide +kernel
theorem dX9_length_27 : decode cX9_length 27 = .ok (.ireturn, 1) := by decide +kernel
set_option maxRecDepth 20000 in
theorem ggX9_word_X9_requirePlan : GoodIn wsX9_word wsX9_requirePlan := goodIn_ca (goodIn_r _ [7, 8, 9, 10, 29, 30, 31, 32, 33, 34, 35, 36, 37, 38, 39] (by decide +kernel) (by decide +kernel)) (goodIn_sub (fun _ h => List.mem_cons_of_mem _ (List.mem_append_left _ (List.mem_append_right _ h))) (by decide +kernel))
set_option maxRecDepth 20000 in
theorem gX9_word_X9_requirePlan : GoodIn wsX9_word (wsV RX9 173 RX9 yX9_requirePlan wsX9_requirePlan) := goodIn_app (goodIn_of _ (by decide +kernel)) ggX9_word_X9_requirePlan
set_option maxRecDepth 20000 in
theorem ggX9_word_X9_requireBlock : GoodIn wsX9_word wsX9_requireBlock := goodIn_ca (goodIn_r _ [14, 15, 16, 1, 17, 29, 30, 31, 32, 33, 34, 35, 36, 37, 38, 39, 40, 41, 42, 43, 44, 45, 46] (by decide +kernel) (by decide +kernel)) (goodIn_sub (fun _ h => List.mem_cons_of_mem _ (List.mem_append_right _ h)) (by decide +kernel))
set_option maxRecDepth 20000 in
theorem gX9_word_X9_requireBlock : GoodIn wsX9_word (wsV RX9 179 RX9 yX9_requireBlock wsX9_requireBlock) := goodIn_app (goodIn_of _ (by decide +kernel)) ggX9_word_X9_requireBlock
set_option maxRecDepth 20000 in
theorem ggX9_word_X9_requireSymbol : GoodIn wsX9_word wsX9_requireSymbol := goodIn_ca (goodIn_r _ [21, 15, 16, 22, 23, 6, 24] (by decide +kernel) (by decide +kernel)) (goodIn_sub (fun _ h => List.mem_cons_of_mem _ (List.mem_append_right _ h)) (by decide +kernel))
set_option maxRecDepth 20000 in
theorem gX9_word_X9_requireSymbol : GoodIn wsX9_word (wsV RX9 182 RX9 yX9_requireSymbol wsX9_requireSymbol) := goodIn_app (goodIn_of _ (by decide +kernel)) ggX9_word_X9_requireSymbol
set_option maxRecDepth 20000 in
theorem ggX9_word_X4_cellOf : GoodIn wsX9_word wsX4_cellOf := goodIn_r _ [28, 23, 6, 24] (by decide +kernel) (by decide +kernel)
set_option maxRecDepth 20000 in
theorem gX9_word_X4_cellOf : GoodIn wsX9_word (va_wsS RX9 186 yX4_cellOf wsX4_cellOf) := goodIn_app (goodIn_of _ (by decide +kernel)) ggX9_word_X4_cellOf
theorem dX9_word_0 : decode cX9_word 0 = .ok (.aload_n 0, 1) := by decide +kernel
theorem dX9_word_1 : decode cX9_word 1 = .ok (.invokevirtual 173, 3) := by decide +kernel
theorem dX9_word_4 : decode cX9_word 4 = .ok (.aload_n 0, 1) := by decide +kernel
theorem dX9_word_5 : decode cX9_word 5 = .ok (.iload_n 1, 1) := by decide +kernel
theorem dX9_word_6 : decode cX9_word 6 = .ok (.invokevirtual 179, 3) := by decide +kernel
theorem dX9_word_9 : decode cX9_word 9 = .ok (.aload_n 0, 1) := by decide +kernel
theorem dX9_word_10 : decode cX9_word 10 = .ok (.iload_n 2, 1) := by decide +kernel
theorem dX9_word_11 : decode cX9_word 11 = .ok (.invokevirtual 182, 3) := by decide +kernel
theorem dX9_word_14 : decode cX9_word 14 = .ok (.aload_n 0, 1) := by decide +kernel
theorem dX9_word_15 : decode cX9_word 15 = .ok (.getfield 54, 3) := by decide +kernel
theorem dX9_word_18 : decode cX9_word 18 = .ok (.getfield 189, 3) := by decide +kernel
theorem dX9_word_21 : decode cX9_word 21 = .ok (.iload_n 1, 1) := by decide +kernel
theorem dX9_word_22 : decode cX9_word 22 = .ok (.iload_n 2, 1) := by decide +kernel
theorem dX9_word_23 : decode cX9_word 23 = .ok (.invokestatic 186, 3) := by decide +kernel
theorem dX9_word_26 : decode cX9_word 26 = .ok (.iaload, 1) := by decide +kernel
theorem dX9_word_27 : decode cX9_word 27 = .ok (.ireturn, 1) := by decide +kernel
set_option maxRecDepth 20000 in
theorem ggX9_slack_X9_requirePlan : GoodIn wsX9_slack wsX9_requirePlan := goodIn_ca (goodIn_r _ [9, 10, 11, 12, 26, 27, 28, 29, 30, 31, 32, 33, 34, 35, 36] (by decide +kernel) (by decide +kernel)) (goodIn_sub (fun _ h => List.mem_cons_of_mem _ (List.mem_append_left _ (List.mem_append_right _ h))) (by decide +kernel))
set_option maxRecDepth 20000 in
theorem gX9_slack_X9_requirePlan : GoodIn wsX9_slack (wsV RX9 173 RX9 yX9_requirePlan wsX9_requirePlan) := goodIn_app (goodIn_of _ (by decide +kernel)) ggX9_slack_X9_requirePlan
set_option maxRecDepth 20000 in
theorem ggX9_slack_X9_requireBlock : GoodIn wsX9_slack wsX9_requireBlock := goodIn_ca (goodIn_r _ [16, 17, 18, 3, 19, 26, 27, 28, 29, 30, 31, 32, 33, 34, 35, 36, 41, 42, 43, 44, 45, 46, 47] (by decide +kernel) (by decide +kernel)) (goodIn_sub (fun _ h => List.mem_cons_of_mem _ (List.mem_append_right _ h)) (by decide +kernel))
set_option maxRecDepth 20000 in
theorem gX9_slack_X9_requireBlock : GoodIn wsX9_slack (wsV RX9 179 RX9 yX9_requireBlock wsX9_requireBlock) := goodIn_app (goodIn_of _ (by decide +kernel)) ggX9_slack_X9_requireBlock
set_option maxRecDepth 20000 in
theorem ggX9_slack_X4_cellOf : GoodIn wsX9_slack wsX4_cellOf := goodIn_r _ [23, 24, 8, 25] (by decide +kernel) (by decide +kernel)
set_option maxRecDepth 20000 in
theorem gX9_slack_X4_cellOf : GoodIn wsX9_slack (va_wsS RX9 186 yX4_cellOf wsX4_cellOf) := goodIn_app (goodIn_of _ (by decide +kernel)) ggX9_slack_X4_cellOf
theorem dX9_slack_0 : decode cX9_slack 0 = .ok (.aload_n 0, 1) := by decide +kernel
theorem dX9_slack_1 : decode cX9_slack 1 = .ok (.invokevirtual 173, 3) := by decide +kernel
theorem dX9_slack_4 : decode cX9_slack 4 = .ok (.aload_n 0, 1) := by decide +kernel
theorem dX9_slack_5 : decode cX9_slack 5 = .ok (.iload_n 1, 1) := by decide +kernel
theorem dX9_slack_6 : decode cX9_slack 6 = .ok (.invokevirtual 179, 3) := by decide +kernel
theorem dX9_slack_9 : decode cX9_slack 9 = .ok (.iconst 1, 1) := by decide +kernel
theorem dX9_slack_10 : decode cX9_slack 10 = .ok (.aload_n 0, 1) := by decide +kernel
theorem dX9_slack_11 : decode cX9_slack 11 = .ok (.getfield 19, 3) := by decide +kernel
theorem dX9_slack_14 : decode cX9_slack 14 = .ok (.getfield 119, 3) := by decide +kernel
theorem dX9_slack_17 : decode cX9_slack 17 = .ok (.ishl, 1) := by decide +kernel
theorem dX9_slack_18 : decode cX9_slack 18 = .ok (.istore_n 2, 1) := by decide +kernel
theorem dX9_slack_19 : decode cX9_slack 19 = .ok (.iconst 0, 1) := by decide +kernel
theorem dX9_slack_20 : decode cX9_slack 20 = .ok (.istore_n 3, 1) := by decide +kernel
theorem dX9_slack_21 : decode cX9_slack 21 = .ok (.iload_n 3, 1) := by decide +kernel
theorem dX9_slack_22 : decode cX9_slack 22 = .ok (.bipush 16, 2) := by decide +kernel
theorem dX9_slack_24 : decode cX9_slack 24 = .ok (.if_icmp .ge 44, 3) := by decide +kernel
theorem dX9_slack_27 : decode cX9_slack 27 = .ok (.aload_n 0, 1) := by decide +kernel
theorem dX9_slack_28 : decode cX9_slack 28 = .ok (.getfield 54, 3) := by decide +kernel
theorem dX9_slack_31 : decode cX9_slack 31 = .ok (.getfield 185, 3) := by decide +kernel
