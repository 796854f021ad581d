theorem dX0_init_0 : decode cX0_init 0 = .ok (.aload_n 0, 1) := by decide +kernel
theorem dX0_init_1 : decode cX0_init 1 = .ok (.invokespecial 3, 3) := by decide +kernel
theorem dX0_init_4 : decode cX0_init 4 = .ok (.aload_n 0, 1) := by decide +kernel
theorem dX0_init_5 : decode cX0_init 5 = .ok (.sipush 480, 3) := by decide +kernel
theorem dX0_init_8 : decode cX0_init 8 = .ok (.newarray .int, 2) := by decide +kernel
theorem dX0_init_10 : decode cX0_init 10 = .ok (.putfield 9, 3) := by decide +kernel
theorem dX0_init_13 : decode cX0_init 13 = .ok (.aload_n 0, 1) := by decide +kernel
theorem dX0_init_14 : decode cX0_init 14 = .ok (.iconst 0, 1) := by decide +kernel
theorem dX0_init_15 : decode cX0_init 15 = .ok (.putfield 15, 3) := by decide +kernel
theorem dX0_init_18 : decode cX0_init 18 = .ok (.return_, 1) := by decide +kernel
theorem dX0_push_0 : decode cX0_push 0 = .ok (.iload_n 2, 1) := by decide +kernel
theorem dX0_push_1 : decode cX0_push 1 = .ok (.iconst 1, 1) := by decide +kernel
theorem dX0_push_2 : decode cX0_push 2 = .ok (.isub, 1) := by decide +kernel
theorem dX0_push_3 : decode cX0_push 3 = .ok (.istore_n 3, 1) := by decide +kernel
theorem dX0_push_4 : decode cX0_push 4 = .ok (.iload_n 3, 1) := by decide +kernel
theorem dX0_push_5 : decode cX0_push 5 = .ok (.ifCond .lt 43, 3) := by decide +kernel
theorem dX0_push_8 : decode cX0_push 8 = .ok (.aload_n 0, 1) := by decide +kernel
theorem dX0_push_9 : decode cX0_push 9 = .ok (.getfield 15, 3) := by decide +kernel
theorem dX0_push_12 : decode cX0_push 12 = .ok (.sipush 480, 3) := by decide +kernel
theorem dX0_push_15 : decode cX0_push 15 = .ok (.if_icmp .ge 33, 3) := by decide +kernel
theorem dX0_push_18 : decode cX0_push 18 = .ok (.aload_n 0, 1) := by decide +kernel
theorem dX0_push_19 : decode cX0_push 19 = .ok (.getfield 9, 3) := by decide +kernel
theorem dX0_push_22 : decode cX0_push 22 = .ok (.aload_n 0, 1) := by decide +kernel
theorem dX0_push_23 : decode cX0_push 23 = .ok (.getfield 15, 3) := by decide +kernel
theorem dX0_push_26 : decode cX0_push 26 = .ok (.iload_n 1, 1) := by decide +kernel
theorem dX0_push_27 : decode cX0_push 27 = .ok (.iload_n 3, 1) := by decide +kernel
theorem dX0_push_28 : decode cX0_push 28 = .ok (.ishr, 1) := by decide +kernel
theorem dX0_push_29 : decode cX0_push 29 = .ok (.iconst 1, 1) := by decide +kernel
theorem dX0_push_30 : decode cX0_push 30 = .ok (.iand, 1) := by decide +kernel
theorem dX0_push_31 : decode cX0_push 31 = .ok (.iastore, 1) := by decide +kernel
theorem dX0_push_32 : decode cX0_push 32 = .ok (.aload_n 0, 1) := by decide +kernel
theorem dX0_push_33 : decode cX0_push 33 = .ok (.dup, 1) := by decide +kernel
theorem dX0_push_34 : decode cX0_push 34 = .ok (.getfield 15, 3) := by decide +kernel
theorem dX0_push_37 : decode cX0_push 37 = .ok (.iconst 1, 1) := by decide +kernel
theorem dX0_push_38 : decode cX0_push 38 = .ok (.iadd, 1) := by decide +kernel
theorem dX0_push_39 : decode cX0_push 39 = .ok (.putfield 15, 3) := by decide +kernel
theorem dX0_push_42 : decode cX0_push 42 = .ok (.iinc 3 (-1), 3) := by decide +kernel
theorem dX0_push_45 : decode cX0_push 45 = .ok (.goto (-41), 3) := by decide +kernel
theorem dX0_push_48 : decode cX0_push 48 = .ok (.return_, 1) := by decide +kernel
set_option maxRecDepth 20000 in
theorem ggX1_init_X7_init : GoodIn wsX1_init wsX7_init := goodIn_r _ [19, 20, 2, 3, 12, 21, 22, 23, 30, 31, 32] (by decide +kernel) (by decide +kernel)
set_option maxRecDepth 20000 in
theorem gX1_init_X7_init_n11 : GoodIn wsX1_init (wsX7_init) := ggX1_init_X7_init
set_option maxRecDepth 20000 in
theorem ggX1_init_X3_init : GoodIn wsX1_init wsX3_init := goodIn_r _ [25, 26, 2, 3, 12, 27, 28, 29, 40, 41, 42] (by decide +kernel) (by decide +kernel)
set_option maxRecDepth 20000 in
theorem gX1_init_X3_init_n20 : GoodIn wsX1_init (wsX3_init) := ggX1_init_X3_init
theorem dX1_init_0 : decode cX1_init 0 = .ok (.aload_n 0, 1) := by decide +kernel
theorem dX1_init_1 : decode cX1_init 1 = .ok (.invokespecial 3, 3) := by decide +kernel
theorem dX1_init_4 : decode cX1_init 4 = .ok (.aload_n 0, 1) := by decide +kernel
theorem dX1_init_5 : decode cX1_init 5 = .ok (.new 9, 3) := by decide +kernel
theorem dX1_init_8 : decode cX1_init 8 = .ok (.dup, 1) := by decide +kernel
theorem dX1_init_9 : decode cX1_init 9 = .ok (.invokespecial 11, 3) := by decide +kernel
theorem dX1_init_12 : decode cX1_init 12 = .ok (.putfield 12, 3) := by decide +kernel
theorem dX1_init_15 : decode cX1_init 15 = .ok (.aload_n 0, 1) := by decide +kernel
theorem dX1_init_16 : decode cX1_init 16 = .ok (.new 18, 3) := by decide +kernel
theorem dX1_init_19 : decode cX1_init 19 = .ok (.dup, 1) := by decide +kernel
theorem dX1_init_20 : decode cX1_init 20 = .ok (.invokespecial 20, 3) := by decide +kernel
theorem dX1_init_23 : decode cX1_init 23 = .ok (.putfield 21, 3) := by decide +kernel
theorem dX1_init_26 : decode cX1_init 26 = .ok (.aload_n 0, 1) := by decide +kernel
theorem dX1_init_27 : decode cX1_init 27 = .ok (.sipush 3240, 3) := by decide +kernel
theorem dX1_init_30 : decode cX1_init 30 = .ok (.newarray .int, 2) := by decide +kernel
theorem dX1_init_32 : decode cX1_init 32 = .ok (.putfield 25, 3) := by decide +kernel
theorem dX1_init_35 : decode cX1_init 35 = .ok (.aload_n 0, 1) := by decide +kernel
theorem dX1_init_36 : decode cX1_init 36 = .ok (.sipush 3240, 3) := by decide +kernel
theorem dX1_init_39 : decode cX1_init 39 = .ok (.newarray .int, 2) := by decide +kernel
theorem dX1_init_41 : decode cX1_init 41 = .ok (.putfield 29, 3) := by decide +kernel
theorem dX1_init_44 : decode cX1_init 44 = .ok (.aload_n 0, 1) := by decide +kernel
theorem dX1_init_45 : decode cX1_init 45 = .ok (.bipush 80, 2) := by decide +kernel
theorem dX1_init_47 : decode cX1_init 47 = .ok (.newarray .int, 2) := by decide +kernel
theorem dX1_init_49 : decode cX1_init 49 = .ok (.putfield 32, 3) := by decide +kernel
theorem dX1_init_52 : decode cX1_init 52 = .ok (.aload_n 0, 1) := by decide +kernel
theorem dX1_init_53 : decode cX1_init 53 = .ok (.iconst 0, 1) := by decide +kernel
theorem dX1_init_54 : decode cX1_init 54 = .ok (.putfield 35, 3) := by decide +kernel
theorem dX1_init_57 : decode cX1_init 57 = .ok (.aload_n 0, 1) := by decide +kernel
theorem dX1_init_58 : decode cX1_init 58 = .ok (.iconst 0, 1) := by decide +kernel
theorem dX1_init_59 : decode cX1_init 59 = .ok (.putfield 39, 3) := by decide +kernel
theorem dX1_init_62 : decode cX1_init 62 = .ok (.return_, 1) := by decide +kernel
set_option maxRecDepth 20000 in
theorem ggX1_learn_X1_samePlaces : GoodIn wsX1_learn wsX1_samePlaces := goodIn_r _ [10, 5, 2, 11, 12, 13, 14, 3, 4, 60, 61, 62, 63, 64, 65, 66, 67, 68] (by decide +kernel) (by decide +kernel)
set_option maxRecDepth 20000 in
theorem gX1_learn_X1_samePlaces : GoodIn wsX1_learn (wsV RX1 42 RX1 yX1_samePlaces wsX1_samePlaces) := goodIn_app (goodIn_of _ (by decide +kernel)) ggX1_learn_X1_samePlaces
set_option maxRecDepth 20000 in
theorem ggX1_learn_X1_learnBlocksTo : GoodIn wsX1_learn wsX1_learnBlocksTo := goodIn_r _ [18, 19, 4, 20, 21, 22, 23, 24, 25, 26, 27, 28, 29, 30, 31, 32, 33, 34, 35, 36, 37, 38, 39, 40, 41, 42, 43, 44, 9, 45, 46, 47, 48, 49, 50, 51, 52, 53, 54, 55, 56, 57, 58, 59, 60, 61, 62, 63, 64, 65, 66, 67, 68, 69, 70, 71, 72, 73, 74] (by decide +kernel) (by decide +kernel)
set_option maxRecDepth 20000 in
theorem gX1_learn_X1_learnBlocksTo : GoodIn wsX1_learn (wsV RX1 51 RX1 yX1_learnBlocksTo wsX1_learnBlocksTo) := goodIn_app (goodIn_of _ (by decide +kernel)) ggX1_learn_X1_learnBlocksTo
theorem dX1_learn_0 : decode cX1_learn 0 = .ok (.iload_n 2, 1) := by decide +kernel
theorem dX1_learn_1 : decode cX1_learn 1 = .ok (.aload_n 0, 1) := by decide +kernel
theorem dX1_learn_2 : decode cX1_learn 2 = .ok (.getfield 39, 3) := by decide +kernel
theorem dX1_learn_5 : decode cX1_learn 5 = .ok (.if_icmp .ne 11, 3) := by decide +kernel
theorem dX1_learn_8 : decode cX1_learn 8 = .ok (.aload_n 0, 1) := by decide +kernel
theorem dX1_learn_9 : decode cX1_learn 9 = .ok (.aload_n 1, 1) := by decide +kernel
theorem dX1_learn_10 : decode cX1_learn 10 = .ok (.invokevirtual 42, 3) := by decide +kernel
theorem dX1_learn_13 : decode cX1_learn 13 = .ok (.goto 4, 3) := by decide +kernel
theorem dX1_learn_16 : decode cX1_learn 16 = .ok (.iconst 0, 1) := by decide +kernel
theorem dX1_learn_17 : decode cX1_learn 17 = .ok (.istore_n 3, 1) := by decide +kernel
theorem dX1_learn_18 : decode cX1_learn 18 = .ok (.iload_n 3, 1) := by decide +kernel
theorem dX1_learn_19 : decode cX1_learn 19 = .ok (.iconst 1, 1) := by decide +kernel
theorem dX1_learn_20 : decode cX1_learn 20 = .ok (.iadd, 1) := by decide +kernel
theorem dX1_learn_21 : decode cX1_learn 21 = .ok (.istore 4, 2) := by decide +kernel
theorem dX1_learn_23 : decode cX1_learn 23 = .ok (.iload 4, 2) := by decide +kernel
theorem dX1_learn_25 : decode cX1_learn 25 = .ok (.aload_n 1, 1) := by decide +kernel
theorem dX1_learn_26 : decode cX1_learn 26 = .ok (.getfield 46, 3) := by decide +kernel
theorem dX1_learn_29 : decode cX1_learn 29 = .ok (.if_icmp .gt 35, 3) := by decide +kernel
theorem dX1_learn_32 : decode cX1_learn 32 = .ok (.aload_n 0, 1) := by decide +kernel
theorem dX1_learn_33 : decode cX1_learn 33 = .ok (.iload 4, 2) := by decide +kernel
theorem dX1_learn_35 : decode cX1_learn 35 = .ok (.aload_n 1, 1) := by decide +kernel
theorem dX1_learn_36 : decode cX1_learn 36 = .ok (.iload_n 2, 1) := by decide +kernel
theorem dX1_learn_37 : decode cX1_learn 37 = .ok (.invokevirtual 51, 3) := by decide +kernel
theorem dX1_learn_40 : decode cX1_learn 40 = .ok (.aload_n 0, 1) := by decide +kernel
theorem dX1_learn_41 : decode cX1_learn 41 = .ok (.getfield 32, 3) := by decide +kernel
theorem dX1_learn_44 : decode cX1_learn 44 = .ok (.iload 4, 2) := by decide +kernel
theorem dX1_learn_46 : decode cX1_learn 46 = .ok (.iconst 1, 1) := by decide +kernel
theorem dX1_learn_47 : decode cX1_learn 47 = .ok (.isub, 1) := by decide +kernel
theorem dX1_learn_48 : decode cX1_learn 48 = .ok (.aload_n 1, 1) := by decide +kernel
theorem dX1_learn_49 : decode cX1_learn 49 = .ok (.getfield 55, 3) := by decide +kernel
theorem dX1_learn_52 : decode cX1_learn 52 = .ok (.iload 4, 2) := by decide +kernel
theorem dX1_learn_54 : decode cX1_learn 54 = .ok (.iconst 1, 1) := by decide +kernel
theorem dX1_learn_55 : decode cX1_learn 55 = .ok (.isub, 1) := by decide +kernel
theorem dX1_learn_56 : decode cX1_learn 56 = .ok (.iaload, 1) := by decide +kernel
theorem dX1_learn_57 : decode cX1_learn 57 = .ok (.iastore, 1) := by decide +kernel
theorem dX1_learn_58 : decode cX1_learn 58 = .ok (.iinc 4 1, 3) := by decide +kernel
theorem dX1_learn_61 : decode cX1_learn 61 = .ok (.goto (-38), 3) := by decide +kernel
theorem dX1_learn_64 : decode cX1_learn 64 = .ok (.aload_n 0, 1) := by decide +kernel
theorem dX1_learn_65 : decode cX1_learn 65 = .ok (.aload_n 1, 1) := by decide +kernel
theorem dX1_learn_66 : decode cX1_learn 66 = .ok (.getfield 46, 3) := by decide +kernel
theorem dX1_learn_69 : decode cX1_learn 69 = .ok (.putfield 35, 3) := by decide +kernel
theorem dX1_learn_72 : decode cX1_learn 72 = .ok (.aload_n 0, 1) := by decide +kernel
theorem dX1_learn_73 : decode cX1_learn 73 = .ok (.iload_n 2, 1) := by decide +kernel
theorem dX1_learn_74 : decode cX1_learn 74 = .ok (.putfield 39, 3) := by decide +kernel
theorem dX1_learn_77 : decode cX1_learn 77 = .ok (.return_, 1) := by decide +kernel
set_option maxRecDepth 20000 in
theorem ggX1_priceOf_X1_rowOf : GoodIn wsX1_priceOf wsX1_rowOf := goodIn_r _ [6] (by decide +kernel) (by decide +kernel)
set_option maxRecDepth 20000 in
theorem gX1_priceOf_X1_rowOf : GoodIn wsX1_priceOf (va_wsS RX1 58 yX1_rowOf wsX1_rowOf) := goodIn_app (goodIn_of _ (by decide +kernel)) ggX1_priceOf_X1_rowOf
set_option maxRecDepth 20000 in
theorem ggX1_priceOf_X5_priceOf : GoodIn wsX1_priceOf wsX5_priceOf := goodIn_r _ [11, 12, 13, 21, 22, 23, 24] (by decide +kernel) (by decide +kernel)
set_option maxRecDepth 20000 in
theorem gX1_priceOf_X5_priceOf : GoodIn wsX1_priceOf (wsV RX1 62 RX5 yX5_priceOf wsX5_priceOf) := goodIn_app (goodIn_of _ (by decide +kernel)) ggX1_priceOf_X5_priceOf
theorem dX1_priceOf_0 : decode cX1_priceOf 0 = .ok (.iload_n 1, 1) := by decide +kernel
theorem dX1_priceOf_1 : decode cX1_priceOf 1 = .ok (.ifCond .lt 14, 3) := by decide +kernel
theorem dX1_priceOf_4 : decode cX1_priceOf 4 = .ok (.iload_n 1, 1) := by decide +kernel
theorem dX1_priceOf_5 : decode cX1_priceOf 5 = .ok (.iload_n 2, 1) := by decide +kernel
theorem dX1_priceOf_6 : decode cX1_priceOf 6 = .ok (.if_icmp .ge 9, 3) := by decide +kernel
theorem dX1_priceOf_9 : decode cX1_priceOf 9 = .ok (.iload_n 2, 1) := by decide +kernel
theorem dX1_priceOf_10 : decode cX1_priceOf 10 = .ok (.bipush 80, 2) := by decide +kernel
theorem dX1_priceOf_12 : decode cX1_priceOf 12 = .ok (.if_icmp .le 5, 3) := by decide +kernel
theorem dX1_priceOf_15 : decode cX1_priceOf 15 = .ok (.iconst (-1), 1) := by decide +kernel
theorem dX1_priceOf_16 : decode cX1_priceOf 16 = .ok (.ireturn, 1) := by decide +kernel
theorem dX1_priceOf_17 : decode cX1_priceOf 17 = .ok (.iload_n 2, 1) := by decide +kernel
theorem dX1_priceOf_18 : decode cX1_priceOf 18 = .ok (.invokestatic 58, 3) := by decide +kernel
theorem dX1_priceOf_21 : decode cX1_priceOf 21 = .ok (.iload_n 1, 1) := by decide +kernel
theorem dX1_priceOf_22 : decode cX1_priceOf 22 = .ok (.iadd, 1) := by decide +kernel
theorem dX1_priceOf_23 : decode cX1_priceOf 23 = .ok (.istore 4, 2) := by decide +kernel
theorem dX1_priceOf_25 : decode cX1_priceOf 25 = .ok (.aload_n 0, 1) := by decide +kernel
theorem dX1_priceOf_26 : decode cX1_priceOf 26 = .ok (.getfield 25, 3) := by decide +kernel
theorem dX1_priceOf_29 : decode cX1_priceOf 29 = .ok (.iload 4, 2) := by decide +kernel
theorem dX1_priceOf_31 : decode cX1_priceOf 31 = .ok (.iaload, 1) := by decide +kernel
theorem dX1_priceOf_32 : decode cX1_priceOf 32 = .ok (.iconst (-1), 1) := by decide +kernel
theorem dX1_priceOf_33 : decode cX1_priceOf 33 = .ok (.if_icmp .ne 7, 3) := by decide +kernel
theorem dX1_priceOf_36 : decode cX1_priceOf 36 = .ok (.iconst (-1), 1) := by decide +kernel
theorem dX1_priceOf_37 : decode cX1_priceOf 37 = .ok (.goto 21, 3) := by decide +kernel
theorem dX1_priceOf_40 : decode cX1_priceOf 40 = .ok (.aload_n 3, 1) := by decide +kernel
theorem dX1_priceOf_41 : decode cX1_priceOf 41 = .ok (.aload_n 0, 1) := by decide +kernel
theorem dX1_priceOf_42 : decode cX1_priceOf 42 = .ok (.getfield 29, 3) := by decide +kernel
theorem dX1_priceOf_45 : decode cX1_priceOf 45 = .ok (.iload 4, 2) := by decide +kernel
theorem dX1_priceOf_47 : decode cX1_priceOf 47 = .ok (.iaload, 1) := by decide +kernel
theorem dX1_priceOf_48 : decode cX1_priceOf 48 = .ok (.aload_n 0, 1) := by decide +kernel
theorem dX1_priceOf_49 : decode cX1_priceOf 49 = .ok (.getfield 25, 3) := by decide +kernel
theorem dX1_priceOf_52 : decode cX1_priceOf 52 = .ok (.iload 4, 2) := by decide +kernel
theorem dX1_priceOf_54 : decode cX1_priceOf 54 = .ok (.iaload, 1) := by decide +kernel
theorem dX1_priceOf_55 : decode cX1_priceOf 55 = .ok (.invokevirtual 62, 3) := by decide +kernel
theorem dX1_priceOf_58 : decode cX1_priceOf 58 = .ok (.ireturn, 1) := by decide +kernel
theorem dX1_samePlaces_0 : decode cX1_samePlaces 0 = .ok (.aload_n 0, 1) := by decide +kernel
theorem dX1_samePlaces_1 : decode cX1_samePlaces 1 = .ok (.getfield 35, 3) := by decide +kernel
theorem dX1_samePlaces_4 : decode cX1_samePlaces 4 = .ok (.aload_n 1, 1) := by decide +kernel
theorem dX1_samePlaces_5 : decode cX1_samePlaces 5 = .ok (.getfield 46, 3) := by decide +kernel
theorem dX1_samePlaces_8 : decode cX1_samePlaces 8 = .ok (.invokestatic 68, 3) := by decide +kernel
theorem dX1_samePlaces_11 : decode cX1_samePlaces 11 = .ok (.istore_n 2, 1) := by decide +kernel
theorem dX1_samePlaces_12 : decode cX1_samePlaces 12 = .ok (.iconst 0, 1) := by decide +kernel
theorem dX1_samePlaces_13 : decode cX1_samePlaces 13 = .ok (.istore_n 3, 1) := by decide +kernel
theorem dX1_samePlaces_14 : decode cX1_samePlaces 14 = .ok (.iload_n 3, 1) := by decide +kernel
theorem dX1_samePlaces_15 : decode cX1_samePlaces 15 = .ok (.iload_n 2, 1) := by decide +kernel
theorem dX1_samePlaces_16 : decode cX1_samePlaces 16 = .ok (.if_icmp .ge 26, 3) := by decide +kernel
theorem dX1_samePlaces_19 : decode cX1_samePlaces 19 = .ok (.aload_n 0, 1) := by decide +kernel
theorem dX1_samePlaces_20 : decode cX1_samePlaces 20 = .ok (.getfield 32, 3) := by decide +kernel
theorem dX1_samePlaces_23 : decode cX1_samePlaces 23 = .ok (.iload_n 3, 1) := by decide +kernel
theorem dX1_samePlaces_24 : decode cX1_samePlaces 24 = .ok (.iaload, 1) := by decide +kernel
theorem dX1_samePlaces_25 : decode cX1_samePlaces 25 = .ok (.aload_n 1, 1) := by decide +kernel
theorem dX1_samePlaces_26 : decode cX1_samePlaces 26 = .ok (.getfield 55, 3) := by decide +kernel
theorem dX1_samePlaces_29 : decode cX1_samePlaces 29 = .ok (.iload_n 3, 1) := by decide +kernel
theorem dX1_samePlaces_30 : decode cX1_samePlaces 30 = .ok (.iaload, 1) := by decide +kernel
theorem dX1_samePlaces_31 : decode cX1_samePlaces 31 = .ok (.if_icmp .eq 5, 3) := by decide +kernel
theorem dX1_samePlaces_34 : decode cX1_samePlaces 34 = .ok (.iload_n 3, 1) := by decide +kernel
theorem dX1_samePlaces_35 : decode cX1_samePlaces 35 = .ok (.ireturn, 1) := by decide +kernel
theorem dX1_samePlaces_36 : decode cX1_samePlaces 36 = .ok (.iinc 3 1, 3) := by decide +kernel
theorem dX1_samePlaces_39 : decode cX1_samePlaces 39 = .ok (.goto (-25), 3) := by decide +kernel
theorem dX1_samePlaces_42 : decode cX1_samePlaces 42 = .ok (.iload_n 2, 1) := by decide +kernel
theorem dX1_samePlaces_43 : decode cX1_samePlaces 43 = .ok (.ireturn, 1) := by decide +kernel
set_option maxRecDepth 20000 in
theorem ggX1_learnBlocksTo_X7_clear : GoodIn wsX1_learnBlocksTo wsX7_clear := goodIn_r _ [11, 12, 13, 14, 15, 16, 17, 53, 54, 55] (by decide +kernel) (by decide +kernel)
set_option maxRecDepth 20000 in
theorem gX1_learnBlocksTo_X7_clear : GoodIn wsX1_learnBlocksTo (wsV RX1 73 RX7 yX7_clear wsX7_clear) := goodIn_app (goodIn_of _ (by decide +kernel)) ggX1_learnBlocksTo_X7_clear
set_option maxRecDepth 20000 in
theorem ggX1_learnBlocksTo_X7_add : GoodIn wsX1_learnBlocksTo wsX7_add := goodIn_r _ [21, 12, 13, 22, 23, 24, 25, 53, 54, 55] (by decide +kernel) (by decide +kernel)
set_option maxRecDepth 20000 in
theorem gX1_learnBlocksTo_X7_add : GoodIn wsX1_learnBlocksTo (wsV RX1 76 RX7 yX7_add wsX7_add) := goodIn_app (goodIn_of _ (by decide +kernel)) ggX1_learnBlocksTo_X7_add
set_option maxRecDepth 20000 in
theorem ggX1_learnBlocksTo_X1_rowOf : GoodIn wsX1_learnBlocksTo wsX1_rowOf := goodIn_r _ [29] (by decide +kernel) (by decide +kernel)
set_option maxRecDepth 20000 in
theorem gX1_learnBlocksTo_X1_rowOf : GoodIn wsX1_learnBlocksTo (va_wsS RX1 58 yX1_rowOf wsX1_rowOf) := goodIn_app (goodIn_of _ (by decide +kernel)) ggX1_learnBlocksTo_X1_rowOf
set_option maxRecDepth 20000 in
theorem ggX1_learnBlocksTo_X3_leastSum : GoodIn wsX1_learnBlocksTo wsX3_leastSum := goodIn_r _ [34, 35, 36, 37, 38, 39, 40, 41, 33, 42, 43, 53, 54, 55, 56, 57, 58] (by decide +kernel) (by decide +kernel)
set_option maxRecDepth 20000 in
theorem gX1_learnBlocksTo_X3_leastSum : GoodIn wsX1_learnBlocksTo (wsV RX1 80 RX3 yX3_leastSum wsX3_leastSum) := goodIn_app (goodIn_of _ (by decide +kernel)) ggX1_learnBlocksTo_X3_leastSum
theorem dX1_learnBlocksTo_0 : decode cX1_learnBlocksTo 0 = .ok (.aload_n 0, 1) := by decide +kernel
theorem dX1_learnBlocksTo_1 : decode cX1_learnBlocksTo 1 = .ok (.getfield 12, 3) := by decide +kernel
theorem dX1_learnBlocksTo_4 : decode cX1_learnBlocksTo 4 = .ok (.invokevirtual 73, 3) := by decide +kernel
theorem dX1_learnBlocksTo_7 : decode cX1_learnBlocksTo 7 = .ok (.iload_n 1, 1) := by decide +kernel
theorem dX1_learnBlocksTo_8 : decode cX1_learnBlocksTo 8 = .ok (.iconst 1, 1) := by decide +kernel
theorem dX1_learnBlocksTo_9 : decode cX1_learnBlocksTo 9 = .ok (.isub, 1) := by decide +kernel
theorem dX1_learnBlocksTo_10 : decode cX1_learnBlocksTo 10 = .ok (.istore 4, 2) := by decide +kernel
theorem dX1_learnBlocksTo_12 : decode cX1_learnBlocksTo 12 = .ok (.iload 4, 2) := by decide +kernel
theorem dX1_learnBlocksTo_14 : decode cX1_learnBlocksTo 14 = .ok (.ifCond .lt 66, 3) := by decide +kernel
theorem dX1_learnBlocksTo_17 : decode cX1_learnBlocksTo 17 = .ok (.aload_n 0, 1) := by decide +kernel
theorem dX1_learnBlocksTo_18 : decode cX1_learnBlocksTo 18 = .ok (.getfield 12, 3) := by decide +kernel
theorem dX1_learnBlocksTo_21 : decode cX1_learnBlocksTo 21 = .ok (.aload_n 2, 1) := by decide +kernel
theorem dX1_learnBlocksTo_22 : decode cX1_learnBlocksTo 22 = .ok (.getfield 55, 3) := by decide +kernel
theorem dX1_learnBlocksTo_25 : decode cX1_learnBlocksTo 25 = .ok (.iload 4, 2) := by decide +kernel
theorem dX1_learnBlocksTo_27 : decode cX1_learnBlocksTo 27 = .ok (.iaload, 1) := by decide +kernel
theorem dX1_learnBlocksTo_28 : decode cX1_learnBlocksTo 28 = .ok (.invokevirtual 76, 3) := by decide +kernel
theorem dX1_learnBlocksTo_31 : decode cX1_learnBlocksTo 31 = .ok (.aload_n 0, 1) := by decide +kernel
theorem dX1_learnBlocksTo_32 : decode cX1_learnBlocksTo 32 = .ok (.getfield 25, 3) := by decide +kernel
theorem dX1_learnBlocksTo_35 : decode cX1_learnBlocksTo 35 = .ok (.iload_n 1, 1) := by decide +kernel
theorem dX1_learnBlocksTo_36 : decode cX1_learnBlocksTo 36 = .ok (.invokestatic 58, 3) := by decide +kernel
theorem dX1_learnBlocksTo_39 : decode cX1_learnBlocksTo 39 = .ok (.iload 4, 2) := by decide +kernel
theorem dX1_learnBlocksTo_41 : decode cX1_learnBlocksTo 41 = .ok (.iadd, 1) := by decide +kernel
theorem dX1_learnBlocksTo_42 : decode cX1_learnBlocksTo 42 = .ok (.aload_n 0, 1) := by decide +kernel
theorem dX1_learnBlocksTo_43 : decode cX1_learnBlocksTo 43 = .ok (.getfield 21, 3) := by decide +kernel
theorem dX1_learnBlocksTo_46 : decode cX1_learnBlocksTo 46 = .ok (.aload_n 0, 1) := by decide +kernel
theorem dX1_learnBlocksTo_47 : decode cX1_learnBlocksTo 47 = .ok (.getfield 12, 3) := by decide +kernel
theorem dX1_learnBlocksTo_50 : decode cX1_learnBlocksTo 50 = .ok (.iload_n 3, 1) := by decide +kernel
theorem dX1_learnBlocksTo_51 : decode cX1_learnBlocksTo 51 = .ok (.invokevirtual 80, 3) := by decide +kernel
theorem dX1_learnBlocksTo_54 : decode cX1_learnBlocksTo 54 = .ok (.iastore, 1) := by decide +kernel
theorem dX1_learnBlocksTo_55 : decode cX1_learnBlocksTo 55 = .ok (.aload_n 0, 1) := by decide +kernel
theorem dX1_learnBlocksTo_56 : decode cX1_learnBlocksTo 56 = .ok (.getfield 29, 3) := by decide +kernel
theorem dX1_learnBlocksTo_59 : decode cX1_learnBlocksTo 59 = .ok (.iload_n 1, 1) := by decide +kernel
theorem dX1_learnBlocksTo_60 : decode cX1_learnBlocksTo 60 = .ok (.invokestatic 58, 3) := by decide +kernel
theorem dX1_learnBlocksTo_63 : decode cX1_learnBlocksTo 63 = .ok (.iload 4, 2) := by decide +kernel
theorem dX1_learnBlocksTo_65 : decode cX1_learnBlocksTo 65 = .ok (.iadd, 1) := by decide +kernel
theorem dX1_learnBlocksTo_66 : decode cX1_learnBlocksTo 66 = .ok (.aload_n 0, 1) := by decide +kernel
theorem dX1_learnBlocksTo_67 : decode cX1_learnBlocksTo 67 = .ok (.getfield 12, 3) := by decide +kernel
theorem dX1_learnBlocksTo_70 : decode cX1_learnBlocksTo 70 = .ok (.getfield 84, 3) := by decide +kernel
theorem dX1_learnBlocksTo_73 : decode cX1_learnBlocksTo 73 = .ok (.iastore, 1) := by decide +kernel
theorem dX1_learnBlocksTo_74 : decode cX1_learnBlocksTo 74 = .ok (.iinc 4 (-1), 3) := by decide +kernel
theorem dX1_learnBlocksTo_77 : decode cX1_learnBlocksTo 77 = .ok (.goto (-65), 3) := by decide +kernel
theorem dX1_learnBlocksTo_80 : decode cX1_learnBlocksTo 80 = .ok (.return_, 1) := by decide +kernel
theorem dX1_rowOf_0 : decode cX1_rowOf 0 = .ok (.iload_n 0, 1) := by decide +kernel
theorem dX1_rowOf_1 : decode cX1_rowOf 1 = .ok (.iload_n 0, 1) := by decide +kernel
theorem dX1_rowOf_2 : decode cX1_rowOf 2 = .ok (.iconst 1, 1) := by decide +kernel
theorem dX1_rowOf_3 : decode cX1_rowOf 3 = .ok (.isub, 1) := by decide +kernel
theorem dX1_rowOf_4 : decode cX1_rowOf 4 = .ok (.imul, 1) := by decide +kernel
theorem dX1_rowOf_5 : decode cX1_rowOf 5 = .ok (.iconst 2, 1) := by decide +kernel
theorem dX1_rowOf_6 : decode cX1_rowOf 6 = .ok (.idiv, 1) := by decide +kernel
theorem dX1_rowOf_7 : decode cX1_rowOf 7 = .ok (.ireturn, 1) := by decide +kernel
theorem dX2_init_0 : decode cX2_init 0 = .ok (.aload_n 0, 1) := by decide +kernel
theorem dX2_init_1 : decode cX2_init 1 = .ok (.invokespecial 3, 3) := by decide +kernel
theorem dX2_init_4 : decode cX2_init 4 = .ok (.aload_n 0, 1) := by decide +kernel
theorem dX2_init_5 : decode cX2_init 5 = .ok (.bipush 16, 2) := by decide +kernel
theorem dX2_init_7 : decode cX2_init 7 = .ok (.newarray .int, 2) := by decide +kernel
theorem dX2_init_9 : decode cX2_init 9 = .ok (.putfield 9, 3) := by decide +kernel
theorem dX2_init_12 : decode cX2_init 12 = .ok (.aload_n 0, 1) := by decide +kernel
theorem dX2_init_13 : decode cX2_init 13 = .ok (.sipush 1105, 3) := by decide +kernel
theorem dX2_init_16 : decode cX2_init 16 = .ok (.newarray .int, 2) := by decide +kernel
theorem dX2_init_18 : decode cX2_init 18 = .ok (.putfield 15, 3) := by decide +kernel
theorem dX2_init_21 : decode cX2_init 21 = .ok (.return_, 1) := by decide +kernel
set_option maxRecDepth 20000 in
theorem ggX2_find_X2_fillRow : GoodIn wsX2_find wsX2_fillRow := goodIn_r _ [6, 7, 8, 9, 10, 11, 12, 13, 14, 15, 5, 16, 29, 30] (by decide +kernel) (by decide +kernel)
set_option maxRecDepth 20000 in
theorem gX2_find_X2_fillRow : GoodIn wsX2_find (wsV RX2 23 RX2 yX2_fillRow wsX2_fillRow) := goodIn_app (goodIn_of _ (by decide +kernel)) ggX2_find_X2_fillRow
set_option maxRecDepth 20000 in
theorem ggX2_find_X2_chooseLengths : GoodIn wsX2_find wsX2_chooseLengths := goodIn_r _ [20, 21, 1, 22, 23, 24, 5, 25, 12, 13, 14, 15, 16, 7, 29, 30, 26, 27, 28] (by decide +kernel) (by decide +kernel)
set_option maxRecDepth 20000 in
theorem gX2_find_X2_chooseLengths : GoodIn wsX2_find (wsV RX2 27 RX2 yX2_chooseLengths wsX2_chooseLengths) := goodIn_app (goodIn_of _ (by decide +kernel)) ggX2_find_X2_chooseLengths
theorem dX2_find_0 : decode cX2_find 0 = .ok (.iconst 0, 1) := by decide +kernel
theorem dX2_find_1 : decode cX2_find 1 = .ok (.istore_n 3, 1) := by decide +kernel
theorem dX2_find_2 : decode cX2_find 2 = .ok (.bipush 15, 2) := by decide +kernel
theorem dX2_find_4 : decode cX2_find 4 = .ok (.istore 4, 2) := by decide +kernel
theorem dX2_find_6 : decode cX2_find 6 = .ok (.iload 4, 2) := by decide +kernel
theorem dX2_find_8 : decode cX2_find 8 = .ok (.ifCond .lt 35, 3) := by decide +kernel
theorem dX2_find_11 : decode cX2_find 11 = .ok (.aload_n 1, 1) := by decide +kernel
theorem dX2_find_12 : decode cX2_find 12 = .ok (.getfield 18, 3) := by decide +kernel
theorem dX2_find_15 : decode cX2_find 15 = .ok (.iload 4, 2) := by decide +kernel
theorem dX2_find_17 : decode cX2_find 17 = .ok (.iaload, 1) := by decide +kernel
theorem dX2_find_18 : decode cX2_find 18 = .ok (.ifCond .le 19, 3) := by decide +kernel
theorem dX2_find_21 : decode cX2_find 21 = .ok (.iinc 3 1, 3) := by decide +kernel
theorem dX2_find_24 : decode cX2_find 24 = .ok (.aload_n 0, 1) := by decide +kernel
theorem dX2_find_25 : decode cX2_find 25 = .ok (.iload_n 3, 1) := by decide +kernel
theorem dX2_find_26 : decode cX2_find 26 = .ok (.aload_n 1, 1) := by decide +kernel
theorem dX2_find_27 : decode cX2_find 27 = .ok (.getfield 18, 3) := by decide +kernel
theorem dX2_find_30 : decode cX2_find 30 = .ok (.iload 4, 2) := by decide +kernel
theorem dX2_find_32 : decode cX2_find 32 = .ok (.iaload, 1) := by decide +kernel
theorem dX2_find_33 : decode cX2_find 33 = .ok (.iload_n 2, 1) := by decide +kernel
theorem dX2_find_34 : decode cX2_find 34 = .ok (.invokevirtual 23, 3) := by decide +kernel
theorem dX2_find_37 : decode cX2_find 37 = .ok (.iinc 4 (-1), 3) := by decide +kernel
theorem dX2_find_40 : decode cX2_find 40 = .ok (.goto (-34), 3) := by decide +kernel
theorem dX2_find_43 : decode cX2_find 43 = .ok (.aload_n 0, 1) := by decide +kernel
theorem dX2_find_44 : decode cX2_find 44 = .ok (.aload_n 1, 1) := by decide +kernel
theorem dX2_find_45 : decode cX2_find 45 = .ok (.iload_n 3, 1) := by decide +kernel
theorem dX2_find_46 : decode cX2_find 46 = .ok (.iload_n 2, 1) := by decide +kernel
theorem dX2_find_47 : decode cX2_find 47 = .ok (.invokevirtual 27, 3) := by decide +kernel
theorem dX2_find_50 : decode cX2_find 50 = .ok (.return_, 1) := by decide +kernel
set_option maxRecDepth 20000 in
theorem ggX2_fillRow_X2_sumWith : GoodIn wsX2_fillRow wsX2_sumWith := goodIn_r _ [11, 1, 6, 12, 13] (by decide +kernel) (by decide +kernel)
set_option maxRecDepth 20000 in
theorem gX2_fillRow_X2_sumWith : GoodIn wsX2_fillRow (wsV RX2 32 RX2 yX2_sumWith wsX2_sumWith) := goodIn_app (goodIn_of _ (by decide +kernel)) ggX2_fillRow_X2_sumWith
theorem dX2_fillRow_0 : decode cX2_fillRow 0 = .ok (.iconst 0, 1) := by decide +kernel
theorem dX2_fillRow_1 : decode cX2_fillRow 1 = .ok (.istore 4, 2) := by decide +kernel
theorem dX2_fillRow_3 : decode cX2_fillRow 3 = .ok (.iload 4, 2) := by decide +kernel
theorem dX2_fillRow_5 : decode cX2_fillRow 5 = .ok (.iconst 1, 1) := by decide +kernel
theorem dX2_fillRow_6 : decode cX2_fillRow 6 = .ok (.iload_n 3, 1) := by decide +kernel
theorem dX2_fillRow_7 : decode cX2_fillRow 7 = .ok (.ishl, 1) := by decide +kernel
theorem dX2_fillRow_8 : decode cX2_fillRow 8 = .ok (.if_icmp .gt 66, 3) := by decide +kernel
theorem dX2_fillRow_11 : decode cX2_fillRow 11 = .ok (.ldc 31, 2) := by decide +kernel
theorem dX2_fillRow_13 : decode cX2_fillRow 13 = .ok (.istore 5, 2) := by decide +kernel
theorem dX2_fillRow_15 : decode cX2_fillRow 15 = .ok (.iconst 1, 1) := by decide +kernel
theorem dX2_fillRow_16 : decode cX2_fillRow 16 = .ok (.istore 6, 2) := by decide +kernel
theorem dX2_fillRow_18 : decode cX2_fillRow 18 = .ok (.iload 6, 2) := by decide +kernel
theorem dX2_fillRow_20 : decode cX2_fillRow 20 = .ok (.iload_n 3, 1) := by decide +kernel
theorem dX2_fillRow_21 : decode cX2_fillRow 21 = .ok (.if_icmp .gt 33, 3) := by decide +kernel
theorem dX2_fillRow_24 : decode cX2_fillRow 24 = .ok (.iload 5, 2) := by decide +kernel
theorem dX2_fillRow_26 : decode cX2_fillRow 26 = .ok (.aload_n 0, 1) := by decide +kernel
theorem dX2_fillRow_27 : decode cX2_fillRow 27 = .ok (.iload_n 1, 1) := by decide +kernel
theorem dX2_fillRow_28 : decode cX2_fillRow 28 = .ok (.iload_n 2, 1) := by decide +kernel
theorem dX2_fillRow_29 : decode cX2_fillRow 29 = .ok (.iload 6, 2) := by decide +kernel
theorem dX2_fillRow_31 : decode cX2_fillRow 31 = .ok (.iload 4, 2) := by decide +kernel
theorem dX2_fillRow_33 : decode cX2_fillRow 33 = .ok (.iconst 1, 1) := by decide +kernel
theorem dX2_fillRow_34 : decode cX2_fillRow 34 = .ok (.iload_n 3, 1) := by decide +kernel
theorem dX2_fillRow_35 : decode cX2_fillRow 35 = .ok (.iload 6, 2) := by decide +kernel
theorem dX2_fillRow_37 : decode cX2_fillRow 37 = .ok (.isub, 1) := by decide +kernel
theorem dX2_fillRow_38 : decode cX2_fillRow 38 = .ok (.ishl, 1) := by decide +kernel
theorem dX2_fillRow_39 : decode cX2_fillRow 39 = .ok (.isub, 1) := by decide +kernel
theorem dX2_fillRow_40 : decode cX2_fillRow 40 = .ok (.invokevirtual 32, 3) := by decide +kernel
theorem dX2_fillRow_43 : decode cX2_fillRow 43 = .ok (.invokestatic 36, 3) := by decide +kernel
theorem dX2_fillRow_46 : decode cX2_fillRow 46 = .ok (.istore 5, 2) := by decide +kernel
theorem dX2_fillRow_48 : decode cX2_fillRow 48 = .ok (.iinc 6 1, 3) := by decide +kernel
theorem dX2_fillRow_51 : decode cX2_fillRow 51 = .ok (.goto (-33), 3) := by decide +kernel
theorem dX2_fillRow_54 : decode cX2_fillRow 54 = .ok (.aload_n 0, 1) := by decide +kernel
theorem dX2_fillRow_55 : decode cX2_fillRow 55 = .ok (.getfield 15, 3) := by decide +kernel
theorem dX2_fillRow_58 : decode cX2_fillRow 58 = .ok (.iload_n 1, 1) := by decide +kernel
theorem dX2_fillRow_59 : decode cX2_fillRow 59 = .ok (.bipush 65, 2) := by decide +kernel
theorem dX2_fillRow_61 : decode cX2_fillRow 61 = .ok (.imul, 1) := by decide +kernel
theorem dX2_fillRow_62 : decode cX2_fillRow 62 = .ok (.iload 4, 2) := by decide +kernel
theorem dX2_fillRow_64 : decode cX2_fillRow 64 = .ok (.iadd, 1) := by decide +kernel
theorem dX2_fillRow_65 : decode cX2_fillRow 65 = .ok (.iload 5, 2) := by decide +kernel
theorem dX2_fillRow_67 : decode cX2_fillRow 67 = .ok (.iastore, 1) := by decide +kernel
theorem dX2_fillRow_68 : decode cX2_fillRow 68 = .ok (.iinc 4 1, 3) := by decide +kernel
theorem dX2_fillRow_71 : decode cX2_fillRow 71 = .ok (.goto (-68), 3) := by decide +kernel
theorem dX2_fillRow_74 : decode cX2_fillRow 74 = .ok (.return_, 1) := by decide +kernel
theorem dX2_sumWith_0 : decode cX2_sumWith 0 = .ok (.iload 4, 2) := by decide +kernel
theorem dX2_sumWith_2 : decode cX2_sumWith 2 = .ok (.ifCond .ge 8, 3) := by decide +kernel
theorem dX2_sumWith_5 : decode cX2_sumWith 5 = .ok (.ldc 31, 2) := by decide +kernel
theorem dX2_sumWith_7 : decode cX2_sumWith 7 = .ok (.goto 21, 3) := by decide +kernel
theorem dX2_sumWith_10 : decode cX2_sumWith 10 = .ok (.iload_n 2, 1) := by decide +kernel
theorem dX2_sumWith_11 : decode cX2_sumWith 11 = .ok (.iload_n 3, 1) := by decide +kernel
theorem dX2_sumWith_12 : decode cX2_sumWith 12 = .ok (.imul, 1) := by decide +kernel
theorem dX2_sumWith_13 : decode cX2_sumWith 13 = .ok (.aload_n 0, 1) := by decide +kernel
theorem dX2_sumWith_14 : decode cX2_sumWith 14 = .ok (.getfield 15, 3) := by decide +kernel
theorem dX2_sumWith_17 : decode cX2_sumWith 17 = .ok (.iload_n 1, 1) := by decide +kernel
theorem dX2_sumWith_18 : decode cX2_sumWith 18 = .ok (.iconst 1, 1) := by decide +kernel
theorem dX2_sumWith_19 : decode cX2_sumWith 19 = .ok (.isub, 1) := by decide +kernel
theorem dX2_sumWith_20 : decode cX2_sumWith 20 = .ok (.bipush 65, 2) := by decide +kernel
theorem dX2_sumWith_22 : decode cX2_sumWith 22 = .ok (.imul, 1) := by decide +kernel
theorem dX2_sumWith_23 : decode cX2_sumWith 23 = .ok (.iload 4, 2) := by decide +kernel
theorem dX2_sumWith_25 : decode cX2_sumWith 25 = .ok (.iadd, 1) := by decide +kernel
theorem dX2_sumWith_26 : decode cX2_sumWith 26 = .ok (.iaload, 1) := by decide +kernel
theorem dX2_sumWith_27 : decode cX2_sumWith 27 = .ok (.iadd, 1) := by decide +kernel
theorem dX2_sumWith_28 : decode cX2_sumWith 28 = .ok (.ireturn, 1) := by decide +kernel
set_option maxRecDepth 20000 in
theorem ggX2_chooseLengths_X2_shortestLength : GoodIn wsX2_chooseLengths wsX2_shortestLength := goodIn_r _ [7, 8, 9, 10, 11, 6, 12, 13, 14, 15] (by decide +kernel) (by decide +kernel)
set_option maxRecDepth 20000 in
theorem gX2_chooseLengths_X2_shortestLength : GoodIn wsX2_chooseLengths (wsV RX2 42 RX2 yX2_shortestLength wsX2_shortestLength) := goodIn_app (goodIn_of _ (by decide +kernel)) ggX2_chooseLengths_X2_shortestLength
theorem dX2_chooseLengths_0 : decode cX2_chooseLengths 0 = .ok (.iload_n 2, 1) := by decide +kernel
theorem dX2_chooseLengths_1 : decode cX2_chooseLengths 1 = .ok (.istore 4, 2) := by decide +kernel
theorem dX2_chooseLengths_3 : decode cX2_chooseLengths 3 = .ok (.iconst 1, 1) := by decide +kernel
theorem dX2_chooseLengths_4 : decode cX2_chooseLengths 4 = .ok (.iload_n 3, 1) := by decide +kernel
theorem dX2_chooseLengths_5 : decode cX2_chooseLengths 5 = .ok (.ishl, 1) := by decide +kernel
theorem dX2_chooseLengths_6 : decode cX2_chooseLengths 6 = .ok (.istore 5, 2) := by decide +kernel
theorem dX2_chooseLengths_8 : decode cX2_chooseLengths 8 = .ok (.iconst 0, 1) := by decide +kernel
theorem dX2_chooseLengths_9 : decode cX2_chooseLengths 9 = .ok (.istore 6, 2) := by decide +kernel
theorem dX2_chooseLengths_11 : decode cX2_chooseLengths 11 = .ok (.iload 6, 2) := by decide +kernel
theorem dX2_chooseLengths_13 : decode cX2_chooseLengths 13 = .ok (.bipush 16, 2) := by decide +kernel
theorem dX2_chooseLengths_15 : decode cX2_chooseLengths 15 = .ok (.if_icmp .ge 78, 3) := by decide +kernel
theorem dX2_chooseLengths_18 : decode cX2_chooseLengths 18 = .ok (.aload_n 0, 1) := by decide +kernel
theorem dX2_chooseLengths_19 : decode cX2_chooseLengths 19 = .ok (.getfield 9, 3) := by decide +kernel
theorem dX2_chooseLengths_22 : decode cX2_chooseLengths 22 = .ok (.iload 6, 2) := by decide +kernel
theorem dX2_chooseLengths_24 : decode cX2_chooseLengths 24 = .ok (.iconst 0, 1) := by decide +kernel
theorem dX2_chooseLengths_25 : decode cX2_chooseLengths 25 = .ok (.iastore, 1) := by decide +kernel
theorem dX2_chooseLengths_26 : decode cX2_chooseLengths 26 = .ok (.aload_n 1, 1) := by decide +kernel
theorem dX2_chooseLengths_27 : decode cX2_chooseLengths 27 = .ok (.getfield 18, 3) := by decide +kernel
theorem dX2_chooseLengths_30 : decode cX2_chooseLengths 30 = .ok (.iload 6, 2) := by decide +kernel
theorem dX2_chooseLengths_32 : decode cX2_chooseLengths 32 = .ok (.iaload, 1) := by decide +kernel
theorem dX2_chooseLengths_33 : decode cX2_chooseLengths 33 = .ok (.ifCond .le 54, 3) := by decide +kernel
theorem dX2_chooseLengths_36 : decode cX2_chooseLengths 36 = .ok (.iload 4, 2) := by decide +kernel
theorem dX2_chooseLengths_38 : decode cX2_chooseLengths 38 = .ok (.ifCond .le 49, 3) := by decide +kernel
theorem dX2_chooseLengths_41 : decode cX2_chooseLengths 41 = .ok (.iload 5, 2) := by decide +kernel
theorem dX2_chooseLengths_43 : decode cX2_chooseLengths 43 = .ok (.ifCond .le 44, 3) := by decide +kernel
theorem dX2_chooseLengths_46 : decode cX2_chooseLengths 46 = .ok (.aload_n 0, 1) := by decide +kernel
theorem dX2_chooseLengths_47 : decode cX2_chooseLengths 47 = .ok (.iload 4, 2) := by decide +kernel
theorem dX2_chooseLengths_49 : decode cX2_chooseLengths 49 = .ok (.aload_n 1, 1) := by decide +kernel
theorem dX2_chooseLengths_50 : decode cX2_chooseLengths 50 = .ok (.getfield 18, 3) := by decide +kernel
theorem dX2_chooseLengths_53 : decode cX2_chooseLengths 53 = .ok (.iload 6, 2) := by decide +kernel
theorem dX2_chooseLengths_55 : decode cX2_chooseLengths 55 = .ok (.iaload, 1) := by decide +kernel
theorem dX2_chooseLengths_56 : decode cX2_chooseLengths 56 = .ok (.iload 5, 2) := by decide +kernel
theorem dX2_chooseLengths_58 : decode cX2_chooseLengths 58 = .ok (.iload_n 3, 1) := by decide +kernel
theorem dX2_chooseLengths_59 : decode cX2_chooseLengths 59 = .ok (.invokevirtual 42, 3) := by decide +kernel
theorem dX2_chooseLengths_62 : decode cX2_chooseLengths 62 = .ok (.istore 7, 2) := by decide +kernel
theorem dX2_chooseLengths_64 : decode cX2_chooseLengths 64 = .ok (.aload_n 0, 1) := by decide +kernel
theorem dX2_chooseLengths_65 : decode cX2_chooseLengths 65 = .ok (.getfield 9, 3) := by decide +kernel
theorem dX2_chooseLengths_68 : decode cX2_chooseLengths 68 = .ok (.iload 6, 2) := by decide +kernel
theorem dX2_chooseLengths_70 : decode cX2_chooseLengths 70 = .ok (.iload 7, 2) := by decide +kernel
theorem dX2_chooseLengths_72 : decode cX2_chooseLengths 72 = .ok (.iastore, 1) := by decide +kernel
theorem dX2_chooseLengths_73 : decode cX2_chooseLengths 73 = .ok (.iload 5, 2) := by decide +kernel
theorem dX2_chooseLengths_75 : decode cX2_chooseLengths 75 = .ok (.iconst 1, 1) := by decide +kernel
theorem dX2_chooseLengths_76 : decode cX2_chooseLengths 76 = .ok (.iload_n 3, 1) := by decide +kernel
theorem dX2_chooseLengths_77 : decode cX2_chooseLengths 77 = .ok (.iload 7, 2) := by decide +kernel
theorem dX2_chooseLengths_79 : decode cX2_chooseLengths 79 = .ok (.isub, 1) := by decide +kernel
theorem dX2_chooseLengths_80 : decode cX2_chooseLengths 80 = .ok (.ishl, 1) := by decide +kernel
theorem dX2_chooseLengths_81 : decode cX2_chooseLengths 81 = .ok (.isub, 1) := by decide +kernel
theorem dX2_chooseLengths_82 : decode cX2_chooseLengths 82 = .ok (.istore 5, 2) := by decide +kernel
theorem dX2_chooseLengths_84 : decode cX2_chooseLengths 84 = .ok (.iinc 4 (-1), 3) := by decide +kernel
theorem dX2_chooseLengths_87 : decode cX2_chooseLengths 87 = .ok (.iinc 6 1, 3) := by decide +kernel
theorem dX2_chooseLengths_90 : decode cX2_chooseLengths 90 = .ok (.goto (-79), 3) := by decide +kernel
theorem dX2_chooseLengths_93 : decode cX2_chooseLengths 93 = .ok (.return_, 1) := by decide +kernel
set_option maxRecDepth 20000 in
theorem ggX2_shortestLength_X2_sumWith : GoodIn wsX2_shortestLength wsX2_sumWith := goodIn_r _ [6, 7, 1, 8, 9] (by decide +kernel) (by decide +kernel)
set_option maxRecDepth 20000 in
theorem gX2_shortestLength_X2_sumWith : GoodIn wsX2_shortestLength (wsV RX2 32 RX2 yX2_sumWith wsX2_sumWith) := goodIn_app (goodIn_of _ (by decide +kernel)) ggX2_shortestLength_X2_sumWith
theorem dX2_shortestLength_0 : decode cX2_shortestLength 0 = .ok (.iconst 1, 1) := by decide +kernel
theorem dX2_shortestLength_1 : decode cX2_shortestLength 1 = .ok (.istore 5, 2) := by decide +kernel
theorem dX2_shortestLength_3 : decode cX2_shortestLength 3 = .ok (.iload 5, 2) := by decide +kernel
theorem dX2_shortestLength_5 : decode cX2_shortestLength 5 = .ok (.iload 4, 2) := by decide +kernel
theorem dX2_shortestLength_7 : decode cX2_shortestLength 7 = .ok (.if_icmp .ge 47, 3) := by decide +kernel
theorem dX2_shortestLength_10 : decode cX2_shortestLength 10 = .ok (.iload_n 3, 1) := by decide +kernel
theorem dX2_shortestLength_11 : decode cX2_shortestLength 11 = .ok (.iconst 1, 1) := by decide +kernel
theorem dX2_shortestLength_12 : decode cX2_shortestLength 12 = .ok (.iload 4, 2) := by decide +kernel
theorem dX2_shortestLength_14 : decode cX2_shortestLength 14 = .ok (.iload 5, 2) := by decide +kernel
theorem dX2_shortestLength_16 : decode cX2_shortestLength 16 = .ok (.isub, 1) := by decide +kernel
theorem dX2_shortestLength_17 : decode cX2_shortestLength 17 = .ok (.ishl, 1) := by decide +kernel
theorem dX2_shortestLength_18 : decode cX2_shortestLength 18 = .ok (.isub, 1) := by decide +kernel
theorem dX2_shortestLength_19 : decode cX2_shortestLength 19 = .ok (.istore 6, 2) := by decide +kernel
theorem dX2_shortestLength_21 : decode cX2_shortestLength 21 = .ok (.aload_n 0, 1) := by decide +kernel
theorem dX2_shortestLength_22 : decode cX2_shortestLength 22 = .ok (.iload_n 1, 1) := by decide +kernel
theorem dX2_shortestLength_23 : decode cX2_shortestLength 23 = .ok (.iload_n 2, 1) := by decide +kernel
theorem dX2_shortestLength_24 : decode cX2_shortestLength 24 = .ok (.iload 5, 2) := by decide +kernel
theorem dX2_shortestLength_26 : decode cX2_shortestLength 26 = .ok (.iload 6, 2) := by decide +kernel
theorem dX2_shortestLength_28 : decode cX2_shortestLength 28 = .ok (.invokevirtual 32, 3) := by decide +kernel
theorem dX2_shortestLength_31 : decode cX2_shortestLength 31 = .ok (.aload_n 0, 1) := by decide +kernel
theorem dX2_shortestLength_32 : decode cX2_shortestLength 32 = .ok (.getfield 15, 3) := by decide +kernel
theorem dX2_shortestLength_35 : decode cX2_shortestLength 35 = .ok (.iload_n 1, 1) := by decide +kernel
theorem dX2_shortestLength_36 : decode cX2_shortestLength 36 = .ok (.bipush 65, 2) := by decide +kernel
theorem dX2_shortestLength_38 : decode cX2_shortestLength 38 = .ok (.imul, 1) := by decide +kernel
theorem dX2_shortestLength_39 : decode cX2_shortestLength 39 = .ok (.iload_n 3, 1) := by decide +kernel
theorem dX2_shortestLength_40 : decode cX2_shortestLength 40 = .ok (.iadd, 1) := by decide +kernel
theorem dX2_shortestLength_41 : decode cX2_shortestLength 41 = .ok (.iaload, 1) := by decide +kernel
theorem dX2_shortestLength_42 : decode cX2_shortestLength 42 = .ok (.if_icmp .ne 6, 3) := by decide +kernel
theorem dX2_shortestLength_45 : decode cX2_shortestLength 45 = .ok (.iload 5, 2) := by decide +kernel
theorem dX2_shortestLength_47 : decode cX2_shortestLength 47 = .ok (.ireturn, 1) := by decide +kernel
theorem dX2_shortestLength_48 : decode cX2_shortestLength 48 = .ok (.iinc 5 1, 3) := by decide +kernel
theorem dX2_shortestLength_51 : decode cX2_shortestLength 51 = .ok (.goto (-48), 3) := by decide +kernel
theorem dX2_shortestLength_54 : decode cX2_shortestLength 54 = .ok (.iload 4, 2) := by decide +kernel
theorem dX2_shortestLength_56 : decode cX2_shortestLength 56 = .ok (.ireturn, 1) := by decide +kernel
theorem dX3_init_0 : decode cX3_init 0 = .ok (.aload_n 0, 1) := by decide +kernel
theorem dX3_init_1 : decode cX3_init 1 = .ok (.invokespecial 3, 3) := by decide +kernel
theorem dX3_init_4 : decode cX3_init 4 = .ok (.aload_n 0, 1) := by decide +kernel
theorem dX3_init_5 : decode cX3_init 5 = .ok (.bipush 32, 2) := by decide +kernel
theorem dX3_init_7 : decode cX3_init 7 = .ok (.newarray .int, 2) := by decide +kernel
theorem dX3_init_9 : decode cX3_init 9 = .ok (.putfield 9, 3) := by decide +kernel
theorem dX3_init_12 : decode cX3_init 12 = .ok (.aload_n 0, 1) := by decide +kernel
theorem dX3_init_13 : decode cX3_init 13 = .ok (.bipush 32, 2) := by decide +kernel
theorem dX3_init_15 : decode cX3_init 15 = .ok (.newarray .int, 2) := by decide +kernel
theorem dX3_init_17 : decode cX3_init 17 = .ok (.putfield 15, 3) := by decide +kernel
theorem dX3_init_20 : decode cX3_init 20 = .ok (.aload_n 0, 1) := by decide +kernel
theorem dX3_init_21 : decode cX3_init 21 = .ok (.iconst 0, 1) := by decide +kernel
theorem dX3_init_22 : decode cX3_init 22 = .ok (.putfield 18, 3) := by decide +kernel
theorem dX3_init_25 : decode cX3_init 25 = .ok (.return_, 1) := by decide +kernel
set_option maxRecDepth 20000 in
theorem ggX3_leastSum_X3_mergePairs : GoodIn wsX3_leastSum wsX3_mergePairs := goodIn_r _ [9, 1, 3, 2, 4, 10, 11, 12, 13, 14, 15, 16] (by decide +kernel) (by decide +kernel)
set_option maxRecDepth 20000 in
theorem gX3_leastSum_X3_mergePairs : GoodIn wsX3_leastSum (wsV RX3 30 RX3 yX3_mergePairs wsX3_mergePairs) := goodIn_app (goodIn_of _ (by decide +kernel)) ggX3_leastSum_X3_mergePairs
theorem dX3_leastSum_0 : decode cX3_leastSum 0 = .ok (.aload_n 1, 1) := by decide +kernel
theorem dX3_leastSum_1 : decode cX3_leastSum 1 = .ok (.getfield 22, 3) := by decide +kernel
theorem dX3_leastSum_4 : decode cX3_leastSum 4 = .ok (.iconst 1, 1) := by decide +kernel
theorem dX3_leastSum_5 : decode cX3_leastSum 5 = .ok (.iload_n 2, 1) := by decide +kernel
theorem dX3_leastSum_6 : decode cX3_leastSum 6 = .ok (.ishl, 1) := by decide +kernel
theorem dX3_leastSum_7 : decode cX3_leastSum 7 = .ok (.if_icmp .le 5, 3) := by decide +kernel
theorem dX3_leastSum_10 : decode cX3_leastSum 10 = .ok (.iconst (-1), 1) := by decide +kernel
theorem dX3_leastSum_11 : decode cX3_leastSum 11 = .ok (.ireturn, 1) := by decide +kernel
theorem dX3_leastSum_12 : decode cX3_leastSum 12 = .ok (.aload_n 1, 1) := by decide +kernel
theorem dX3_leastSum_13 : decode cX3_leastSum 13 = .ok (.getfield 22, 3) := by decide +kernel
theorem dX3_leastSum_16 : decode cX3_leastSum 16 = .ok (.iconst 1, 1) := by decide +kernel
theorem dX3_leastSum_17 : decode cX3_leastSum 17 = .ok (.if_icmp .ne 10, 3) := by decide +kernel
theorem dX3_leastSum_20 : decode cX3_leastSum 20 = .ok (.aload_n 1, 1) := by decide +kernel
theorem dX3_leastSum_21 : decode cX3_leastSum 21 = .ok (.getfield 27, 3) := by decide +kernel
theorem dX3_leastSum_24 : decode cX3_leastSum 24 = .ok (.iconst 0, 1) := by decide +kernel
theorem dX3_leastSum_25 : decode cX3_leastSum 25 = .ok (.iaload, 1) := by decide +kernel
theorem dX3_leastSum_26 : decode cX3_leastSum 26 = .ok (.ireturn, 1) := by decide +kernel
theorem dX3_leastSum_27 : decode cX3_leastSum 27 = .ok (.aload_n 0, 1) := by decide +kernel
theorem dX3_leastSum_28 : decode cX3_leastSum 28 = .ok (.iconst 0, 1) := by decide +kernel
theorem dX3_leastSum_29 : decode cX3_leastSum 29 = .ok (.putfield 18, 3) := by decide +kernel
theorem dX3_leastSum_32 : decode cX3_leastSum 32 = .ok (.iconst 0, 1) := by decide +kernel
theorem dX3_leastSum_33 : decode cX3_leastSum 33 = .ok (.istore_n 3, 1) := by decide +kernel
theorem dX3_leastSum_34 : decode cX3_leastSum 34 = .ok (.iload_n 3, 1) := by decide +kernel
theorem dX3_leastSum_35 : decode cX3_leastSum 35 = .ok (.iload_n 2, 1) := by decide +kernel
theorem dX3_leastSum_36 : decode cX3_leastSum 36 = .ok (.if_icmp .ge 14, 3) := by decide +kernel
theorem dX3_leastSum_39 : decode cX3_leastSum 39 = .ok (.aload_n 0, 1) := by decide +kernel
theorem dX3_leastSum_40 : decode cX3_leastSum 40 = .ok (.aload_n 1, 1) := by decide +kernel
theorem dX3_leastSum_41 : decode cX3_leastSum 41 = .ok (.invokevirtual 30, 3) := by decide +kernel
theorem dX3_leastSum_44 : decode cX3_leastSum 44 = .ok (.iinc 3 1, 3) := by decide +kernel
theorem dX3_leastSum_47 : decode cX3_leastSum 47 = .ok (.goto (-13), 3) := by decide +kernel
theorem dX3_leastSum_50 : decode cX3_leastSum 50 = .ok (.iconst 0, 1) := by decide +kernel
theorem dX3_leastSum_51 : decode cX3_leastSum 51 = .ok (.istore_n 3, 1) := by decide +kernel
theorem dX3_leastSum_52 : decode cX3_leastSum 52 = .ok (.iconst 0, 1) := by decide +kernel
theorem dX3_leastSum_53 : decode cX3_leastSum 53 = .ok (.istore 4, 2) := by decide +kernel
theorem dX3_leastSum_55 : decode cX3_leastSum 55 = .ok (.iload 4, 2) := by decide +kernel
theorem dX3_leastSum_57 : decode cX3_leastSum 57 = .ok (.aload_n 0, 1) := by decide +kernel
theorem dX3_leastSum_58 : decode cX3_leastSum 58 = .ok (.getfield 18, 3) := by decide +kernel
theorem dX3_leastSum_61 : decode cX3_leastSum 61 = .ok (.if_icmp .ge 19, 3) := by decide +kernel
theorem dX3_leastSum_64 : decode cX3_leastSum 64 = .ok (.iload_n 3, 1) := by decide +kernel
theorem dX3_leastSum_65 : decode cX3_leastSum 65 = .ok (.aload_n 0, 1) := by decide +kernel
theorem dX3_leastSum_66 : decode cX3_leastSum 66 = .ok (.getfield 9, 3) := by decide +kernel
theorem dX3_leastSum_69 : decode cX3_leastSum 69 = .ok (.iload 4, 2) := by decide +kernel
theorem dX3_leastSum_71 : decode cX3_leastSum 71 = .ok (.iaload, 1) := by decide +kernel
theorem dX3_leastSum_72 : decode cX3_leastSum 72 = .ok (.iadd, 1) := by decide +kernel
theorem dX3_leastSum_73 : decode cX3_leastSum 73 = .ok (.istore_n 3, 1) := by decide +kernel
theorem dX3_leastSum_74 : decode cX3_leastSum 74 = .ok (.iinc 4 1, 3) := by decide +kernel
theorem dX3_leastSum_77 : decode cX3_leastSum 77 = .ok (.goto (-22), 3) := by decide +kernel
theorem dX3_leastSum_80 : decode cX3_leastSum 80 = .ok (.iload_n 3, 1) := by decide +kernel
theorem dX3_leastSum_81 : decode cX3_leastSum 81 = .ok (.ireturn, 1) := by decide +kernel
theorem dX3_mergePairs_0 : decode cX3_mergePairs 0 = .ok (.iconst 2, 1) := by decide +kernel
theorem dX3_mergePairs_1 : decode cX3_mergePairs 1 = .ok (.aload_n 1, 1) := by decide +kernel
theorem dX3_mergePairs_2 : decode cX3_mergePairs 2 = .ok (.getfield 22, 3) := by decide +kernel
theorem dX3_mergePairs_5 : decode cX3_mergePairs 5 = .ok (.imul, 1) := by decide +kernel
theorem dX3_mergePairs_6 : decode cX3_mergePairs 6 = .ok (.iconst 2, 1) := by decide +kernel
theorem dX3_mergePairs_7 : decode cX3_mergePairs 7 = .ok (.isub, 1) := by decide +kernel
theorem dX3_mergePairs_8 : decode cX3_mergePairs 8 = .ok (.istore_n 2, 1) := by decide +kernel
theorem dX3_mergePairs_9 : decode cX3_mergePairs 9 = .ok (.aload_n 1, 1) := by decide +kernel
theorem dX3_mergePairs_10 : decode cX3_mergePairs 10 = .ok (.getfield 22, 3) := by decide +kernel
theorem dX3_mergePairs_13 : decode cX3_mergePairs 13 = .ok (.iconst 1, 1) := by decide +kernel
theorem dX3_mergePairs_14 : decode cX3_mergePairs 14 = .ok (.isub, 1) := by decide +kernel
theorem dX3_mergePairs_15 : decode cX3_mergePairs 15 = .ok (.istore_n 3, 1) := by decide +kernel
theorem dX3_mergePairs_16 : decode cX3_mergePairs 16 = .ok (.iconst 0, 1) := by decide +kernel
theorem dX3_mergePairs_17 : decode cX3_mergePairs 17 = .ok (.istore 4, 2) := by decide +kernel
theorem dX3_mergePairs_19 : decode cX3_mergePairs 19 = .ok (.iconst 0, 1) := by decide +kernel
theorem dX3_mergePairs_20 : decode cX3_mergePairs 20 = .ok (.istore 5, 2) := by decide +kernel
theorem dX3_mergePairs_22 : decode cX3_mergePairs 22 = .ok (.iload 5, 2) := by decide +kernel
theorem dX3_mergePairs_24 : decode cX3_mergePairs 24 = .ok (.iload_n 2, 1) := by decide +kernel
theorem dX3_mergePairs_25 : decode cX3_mergePairs 25 = .ok (.if_icmp .ge 111, 3) := by decide +kernel
theorem dX3_mergePairs_28 : decode cX3_mergePairs 28 = .ok (.iload_n 3, 1) := by decide +kernel
theorem dX3_mergePairs_29 : decode cX3_mergePairs 29 = .ok (.ifCond .ge 14, 3) := by decide +kernel
theorem dX3_mergePairs_32 : decode cX3_mergePairs 32 = .ok (.iload 4, 2) := by decide +kernel
theorem dX3_mergePairs_34 : decode cX3_mergePairs 34 = .ok (.iconst 1, 1) := by decide +kernel
theorem dX3_mergePairs_35 : decode cX3_mergePairs 35 = .ok (.iadd, 1) := by decide +kernel
theorem dX3_mergePairs_36 : decode cX3_mergePairs 36 = .ok (.aload_n 0, 1) := by decide +kernel
theorem dX3_mergePairs_37 : decode cX3_mergePairs 37 = .ok (.getfield 18, 3) := by decide +kernel
theorem dX3_mergePairs_40 : decode cX3_mergePairs 40 = .ok (.if_icmp .ge 96, 3) := by decide +kernel
theorem dX3_mergePairs_43 : decode cX3_mergePairs 43 = .ok (.iload_n 3, 1) := by decide +kernel
theorem dX3_mergePairs_44 : decode cX3_mergePairs 44 = .ok (.ifCond .lt 59, 3) := by decide +kernel
theorem dX3_mergePairs_47 : decode cX3_mergePairs 47 = .ok (.iload 4, 2) := by decide +kernel
theorem dX3_mergePairs_49 : decode cX3_mergePairs 49 = .ok (.iconst 1, 1) := by decide +kernel
theorem dX3_mergePairs_50 : decode cX3_mergePairs 50 = .ok (.iadd, 1) := by decide +kernel
theorem dX3_mergePairs_51 : decode cX3_mergePairs 51 = .ok (.aload_n 0, 1) := by decide +kernel
theorem dX3_mergePairs_52 : decode cX3_mergePairs 52 = .ok (.getfield 18, 3) := by decide +kernel
theorem dX3_mergePairs_55 : decode cX3_mergePairs 55 = .ok (.if_icmp .ge 29, 3) := by decide +kernel
theorem dX3_mergePairs_58 : decode cX3_mergePairs 58 = .ok (.aload_n 1, 1) := by decide +kernel
theorem dX3_mergePairs_59 : decode cX3_mergePairs 59 = .ok (.getfield 27, 3) := by decide +kernel
theorem dX3_mergePairs_62 : decode cX3_mergePairs 62 = .ok (.iload_n 3, 1) := by decide +kernel
theorem dX3_mergePairs_63 : decode cX3_mergePairs 63 = .ok (.iaload, 1) := by decide +kernel
theorem dX3_mergePairs_64 : decode cX3_mergePairs 64 = .ok (.aload_n 0, 1) := by decide +kernel
theorem dX3_mergePairs_65 : decode cX3_mergePairs 65 = .ok (.getfield 9, 3) := by decide +kernel
theorem dX3_mergePairs_68 : decode cX3_mergePairs 68 = .ok (.iload 4, 2) := by decide +kernel
theorem dX3_mergePairs_70 : decode cX3_mergePairs 70 = .ok (.iaload, 1) := by decide +kernel
theorem dX3_mergePairs_71 : decode cX3_mergePairs 71 = .ok (.aload_n 0, 1) := by decide +kernel
theorem dX3_mergePairs_72 : decode cX3_mergePairs 72 = .ok (.getfield 9, 3) := by decide +kernel
theorem dX3_mergePairs_75 : decode cX3_mergePairs 75 = .ok (.iload 4, 2) := by decide +kernel
theorem dX3_mergePairs_77 : decode cX3_mergePairs 77 = .ok (.iconst 1, 1) := by decide +kernel
theorem dX3_mergePairs_78 : decode cX3_mergePairs 78 = .ok (.iadd, 1) := by decide +kernel
theorem dX3_mergePairs_79 : decode cX3_mergePairs 79 = .ok (.iaload, 1) := by decide +kernel
theorem dX3_mergePairs_80 : decode cX3_mergePairs 80 = .ok (.iadd, 1) := by decide +kernel
theorem dX3_mergePairs_81 : decode cX3_mergePairs 81 = .ok (.if_icmp .gt 22, 3) := by decide +kernel
theorem dX3_mergePairs_84 : decode cX3_mergePairs 84 = .ok (.aload_n 0, 1) := by decide +kernel
theorem dX3_mergePairs_85 : decode cX3_mergePairs 85 = .ok (.getfield 15, 3) := by decide +kernel
theorem dX3_mergePairs_88 : decode cX3_mergePairs 88 = .ok (.iload 5, 2) := by decide +kernel
theorem dX3_mergePairs_90 : decode cX3_mergePairs 90 = .ok (.aload_n 1, 1) := by decide +kernel
theorem dX3_mergePairs_91 : decode cX3_mergePairs 91 = .ok (.getfield 27, 3) := by decide +kernel
theorem dX3_mergePairs_94 : decode cX3_mergePairs 94 = .ok (.iload_n 3, 1) := by decide +kernel
theorem dX3_mergePairs_95 : decode cX3_mergePairs 95 = .ok (.iaload, 1) := by decide +kernel
theorem dX3_mergePairs_96 : decode cX3_mergePairs 96 = .ok (.iastore, 1) := by decide +kernel
theorem dX3_mergePairs_97 : decode cX3_mergePairs 97 = .ok (.iinc 3 (-1), 3) := by decide +kernel
theorem dX3_mergePairs_100 : decode cX3_mergePairs 100 = .ok (.goto 30, 3) := by decide +kernel
theorem dX3_mergePairs_103 : decode cX3_mergePairs 103 = .ok (.aload_n 0, 1) := by decide +kernel
theorem dX3_mergePairs_104 : decode cX3_mergePairs 104 = .ok (.getfield 15, 3) := by decide +kernel
theorem dX3_mergePairs_107 : decode cX3_mergePairs 107 = .ok (.iload 5, 2) := by decide +kernel
theorem dX3_mergePairs_109 : decode cX3_mergePairs 109 = .ok (.aload_n 0, 1) := by decide +kernel
theorem dX3_mergePairs_110 : decode cX3_mergePairs 110 = .ok (.getfield 9, 3) := by decide +kernel
theorem dX3_mergePairs_113 : decode cX3_mergePairs 113 = .ok (.iload 4, 2) := by decide +kernel
theorem dX3_mergePairs_115 : decode cX3_mergePairs 115 = .ok (.iaload, 1) := by decide +kernel
theorem dX3_mergePairs_116 : decode cX3_mergePairs 116 = .ok (.aload_n 0, 1) := by decide +kernel
theorem dX3_mergePairs_117 : decode cX3_mergePairs 117 = .ok (.getfield 9, 3) := by decide +kernel
theorem dX3_mergePairs_120 : decode cX3_mergePairs 120 = .ok (.iload 4, 2) := by decide +kernel
theorem dX3_mergePairs_122 : decode cX3_mergePairs 122 = .ok (.iconst 1, 1) := by decide +kernel
theorem dX3_mergePairs_123 : decode cX3_mergePairs 123 = .ok (.iadd, 1) := by decide +kernel
theorem dX3_mergePairs_124 : decode cX3_mergePairs 124 = .ok (.iaload, 1) := by decide +kernel
theorem dX3_mergePairs_125 : decode cX3_mergePairs 125 = .ok (.iadd, 1) := by decide +kernel
theorem dX3_mergePairs_126 : decode cX3_mergePairs 126 = .ok (.iastore, 1) := by decide +kernel
theorem dX3_mergePairs_127 : decode cX3_mergePairs 127 = .ok (.iinc 4 2, 3) := by decide +kernel
theorem dX3_mergePairs_130 : decode cX3_mergePairs 130 = .ok (.iinc 5 1, 3) := by decide +kernel
theorem dX3_mergePairs_133 : decode cX3_mergePairs 133 = .ok (.goto (-111), 3) := by decide +kernel
theorem dX3_mergePairs_136 : decode cX3_mergePairs 136 = .ok (.aload_n 0, 1) := by decide +kernel
theorem dX3_mergePairs_137 : decode cX3_mergePairs 137 = .ok (.getfield 9, 3) := by decide +kernel
theorem dX3_mergePairs_140 : decode cX3_mergePairs 140 = .ok (.astore 6, 2) := by decide +kernel
theorem dX3_mergePairs_142 : decode cX3_mergePairs 142 = .ok (.aload_n 0, 1) := by decide +kernel
theorem dX3_mergePairs_143 : decode cX3_mergePairs 143 = .ok (.aload_n 0, 1) := by decide +kernel
theorem dX3_mergePairs_144 : decode cX3_mergePairs 144 = .ok (.getfield 15, 3) := by decide +kernel
theorem dX3_mergePairs_147 : decode cX3_mergePairs 147 = .ok (.putfield 9, 3) := by decide +kernel
theorem dX3_mergePairs_150 : decode cX3_mergePairs 150 = .ok (.aload_n 0, 1) := by decide +kernel
theorem dX3_mergePairs_151 : decode cX3_mergePairs 151 = .ok (.aload 6, 2) := by decide +kernel
theorem dX3_mergePairs_153 : decode cX3_mergePairs 153 = .ok (.putfield 15, 3) := by decide +kernel
theorem dX3_mergePairs_156 : decode cX3_mergePairs 156 = .ok (.aload_n 0, 1) := by decide +kernel
theorem dX3_mergePairs_157 : decode cX3_mergePairs 157 = .ok (.iload 5, 2) := by decide +kernel
theorem dX3_mergePairs_159 : decode cX3_mergePairs 159 = .ok (.putfield 18, 3) := by decide +kernel
theorem dX3_mergePairs_162 : decode cX3_mergePairs 162 = .ok (.return_, 1) := by decide +kernel
theorem dX4_init_0 : decode cX4_init 0 = .ok (.aload_n 0, 1) := by decide +kernel
theorem dX4_init_1 : decode cX4_init 1 = .ok (.invokespecial 3, 3) := by decide +kernel
theorem dX4_init_4 : decode cX4_init 4 = .ok (.aload_n 0, 1) := by decide +kernel
theorem dX4_init_5 : decode cX4_init 5 = .ok (.bipush 80, 2) := by decide +kernel
theorem dX4_init_7 : decode cX4_init 7 = .ok (.newarray .int, 2) := by decide +kernel
theorem dX4_init_9 : decode cX4_init 9 = .ok (.putfield 9, 3) := by decide +kernel
theorem dX4_init_12 : decode cX4_init 12 = .ok (.aload_n 0, 1) := by decide +kernel
theorem dX4_init_13 : decode cX4_init 13 = .ok (.bipush 80, 2) := by decide +kernel
theorem dX4_init_15 : decode cX4_init 15 = .ok (.newarray .int, 2) := by decide +kernel
theorem dX4_init_17 : decode cX4_init 17 = .ok (.putfield 15, 3) := by decide +kernel
theorem dX4_init_20 : decode cX4_init 20 = .ok (.aload_n 0, 1) := by decide +kernel
theorem dX4_init_21 : decode cX4_init 21 = .ok (.bipush 80, 2) := by decide +kernel
theorem dX4_init_23 : decode cX4_init 23 = .ok (.newarray .int, 2) := by decide +kernel
theorem dX4_init_25 : decode cX4_init 25 = .ok (.putfield 18, 3) := by decide +kernel
theorem dX4_init_28 : decode cX4_init 28 = .ok (.aload_n 0, 1) := by decide +kernel
theorem dX4_init_29 : decode cX4_init 29 = .ok (.sipush 1280, 3) := by decide +kernel
theorem dX4_init_32 : decode cX4_init 32 = .ok (.newarray .int, 2) := by decide +kernel
theorem dX4_init_34 : decode cX4_init 34 = .ok (.putfield 21, 3) := by decide +kernel
theorem dX4_init_37 : decode cX4_init 37 = .ok (.aload_n 0, 1) := by decide +kernel
theorem dX4_init_38 : decode cX4_init 38 = .ok (.sipush 1280, 3) := by decide +kernel
theorem dX4_init_41 : decode cX4_init 41 = .ok (.newarray .int, 2) := by decide +kernel
theorem dX4_init_43 : decode cX4_init 43 = .ok (.putfield 24, 3) := by decide +kernel
theorem dX4_init_46 : decode cX4_init 46 = .ok (.aload_n 0, 1) := by decide +kernel
theorem dX4_init_47 : decode cX4_init 47 = .ok (.iconst 0, 1) := by decide +kernel
theorem dX4_init_48 : decode cX4_init 48 = .ok (.putfield 27, 3) := by decide +kernel
theorem dX4_init_51 : decode cX4_init 51 = .ok (.aload_n 0, 1) := by decide +kernel
theorem dX4_init_52 : decode cX4_init 52 = .ok (.iconst 0, 1) := by decide +kernel
theorem dX4_init_53 : decode cX4_init 53 = .ok (.putfield 31, 3) := by decide +kernel
theorem dX4_init_56 : decode cX4_init 56 = .ok (.return_, 1) := by decide +kernel
set_option maxRecDepth 20000 in
theorem ggX4_cellOf_X9_isSymbol : GoodIn wsX4_cellOf wsX9_isSymbol := goodIn_r _ [3] (by decide +kernel) (by decide +kernel)
set_option maxRecDepth 20000 in
theorem gX4_cellOf_X9_isSymbol_n34 : GoodIn wsX4_cellOf (wsX9_isSymbol) := ggX4_cellOf_X9_isSymbol
theorem dX4_cellOf_0 : decode cX4_cellOf 0 = .ok (.iload_n 0, 1) := by decide +kernel
theorem dX4_cellOf_1 : decode cX4_cellOf 1 = .ok (.ifCond .lt 25, 3) := by decide +kernel
theorem dX4_cellOf_4 : decode cX4_cellOf 4 = .ok (.iload_n 0, 1) := by decide +kernel
theorem dX4_cellOf_5 : decode cX4_cellOf 5 = .ok (.bipush 80, 2) := by decide +kernel
theorem dX4_cellOf_7 : decode cX4_cellOf 7 = .ok (.if_icmp .ge 19, 3) := by decide +kernel
theorem dX4_cellOf_10 : decode cX4_cellOf 10 = .ok (.iload_n 1, 1) := by decide +kernel
theorem dX4_cellOf_11 : decode cX4_cellOf 11 = .ok (.invokestatic 34, 3) := by decide +kernel
theorem dX4_cellOf_14 : decode cX4_cellOf 14 = .ok (.ifCond .eq 12, 3) := by decide +kernel
theorem dX4_cellOf_17 : decode cX4_cellOf 17 = .ok (.iload_n 0, 1) := by decide +kernel
theorem dX4_cellOf_18 : decode cX4_cellOf 18 = .ok (.bipush 16, 2) := by decide +kernel
theorem dX4_cellOf_20 : decode cX4_cellOf 20 = .ok (.imul, 1) := by decide +kernel
theorem dX4_cellOf_21 : decode cX4_cellOf 21 = .ok (.iload_n 1, 1) := by decide +kernel
theorem dX4_cellOf_22 : decode cX4_cellOf 22 = .ok (.iadd, 1) := by decide +kernel
theorem dX4_cellOf_23 : decode cX4_cellOf 23 = .ok (.goto 4, 3) := by decide +kernel
theorem dX4_cellOf_26 : decode cX4_cellOf 26 = .ok (.iconst 0, 1) := by decide +kernel
theorem dX4_cellOf_27 : decode cX4_cellOf 27 = .ok (.ireturn, 1) := by decide +kernel
theorem dX4_follow_0 : decode cX4_follow 0 = .ok (.aload_n 0, 1) := by decide +kernel
theorem dX4_follow_1 : decode cX4_follow 1 = .ok (.aload_n 1, 1) := by decide +kernel
theorem dX4_follow_2 : decode cX4_follow 2 = .ok (.getfield 38, 3) := by decide +kernel
theorem dX4_follow_5 : decode cX4_follow 5 = .ok (.iconst 0, 1) := by decide +kernel
theorem dX4_follow_6 : decode cX4_follow 6 = .ok (.iaload, 1) := by decide +kernel
theorem dX4_follow_7 : decode cX4_follow 7 = .ok (.putfield 31, 3) := by decide +kernel
theorem dX4_follow_10 : decode cX4_follow 10 = .ok (.aload_n 0, 1) := by decide +kernel
theorem dX4_follow_11 : decode cX4_follow 11 = .ok (.iconst 0, 1) := by decide +kernel
theorem dX4_follow_12 : decode cX4_follow 12 = .ok (.putfield 27, 3) := by decide +kernel
theorem dX4_follow_15 : decode cX4_follow 15 = .ok (.iconst 0, 1) := by decide +kernel
theorem dX4_follow_16 : decode cX4_follow 16 = .ok (.istore_n 3, 1) := by decide +kernel
theorem dX4_follow_17 : decode cX4_follow 17 = .ok (.iconst 0, 1) := by decide +kernel
theorem dX4_follow_18 : decode cX4_follow 18 = .ok (.istore 4, 2) := by decide +kernel
theorem dX4_follow_20 : decode cX4_follow 20 = .ok (.iload 4, 2) := by decide +kernel
theorem dX4_follow_22 : decode cX4_follow 22 = .ok (.aload_n 2, 1) := by decide +kernel
theorem dX4_follow_23 : decode cX4_follow 23 = .ok (.getfield 43, 3) := by decide +kernel
theorem dX4_follow_26 : decode cX4_follow 26 = .ok (.if_icmp .ge 67, 3) := by decide +kernel
theorem dX4_follow_29 : decode cX4_follow 29 = .ok (.iload 4, 2) := by decide +kernel
theorem dX4_follow_31 : decode cX4_follow 31 = .ok (.iload_n 3, 1) := by decide +kernel
theorem dX4_follow_32 : decode cX4_follow 32 = .ok (.if_icmp .ne 42, 3) := by decide +kernel
theorem dX4_follow_35 : decode cX4_follow 35 = .ok (.aload_n 1, 1) := by decide +kernel
theorem dX4_follow_36 : decode cX4_follow 36 = .ok (.getfield 48, 3) := by decide +kernel
theorem dX4_follow_39 : decode cX4_follow 39 = .ok (.iload 4, 2) := by decide +kernel
theorem dX4_follow_41 : decode cX4_follow 41 = .ok (.iaload, 1) := by decide +kernel
theorem dX4_follow_42 : decode cX4_follow 42 = .ok (.istore_n 3, 1) := by decide +kernel
theorem dX4_follow_43 : decode cX4_follow 43 = .ok (.aload_n 0, 1) := by decide +kernel
theorem dX4_follow_44 : decode cX4_follow 44 = .ok (.getfield 9, 3) := by decide +kernel
theorem dX4_follow_47 : decode cX4_follow 47 = .ok (.aload_n 0, 1) := by decide +kernel
theorem dX4_follow_48 : decode cX4_follow 48 = .ok (.getfield 27, 3) := by decide +kernel
theorem dX4_follow_51 : decode cX4_follow 51 = .ok (.iload 4, 2) := by decide +kernel
theorem dX4_follow_53 : decode cX4_follow 53 = .ok (.iastore, 1) := by decide +kernel
theorem dX4_follow_54 : decode cX4_follow 54 = .ok (.aload_n 0, 1) := by decide +kernel
theorem dX4_follow_55 : decode cX4_follow 55 = .ok (.getfield 15, 3) := by decide +kernel
theorem dX4_follow_58 : decode cX4_follow 58 = .ok (.aload_n 0, 1) := by decide +kernel
theorem dX4_follow_59 : decode cX4_follow 59 = .ok (.getfield 27, 3) := by decide +kernel
theorem dX4_follow_62 : decode cX4_follow 62 = .ok (.iload_n 3, 1) := by decide +kernel
theorem dX4_follow_63 : decode cX4_follow 63 = .ok (.iastore, 1) := by decide +kernel
theorem dX4_follow_64 : decode cX4_follow 64 = .ok (.aload_n 0, 1) := by decide +kernel
theorem dX4_follow_65 : decode cX4_follow 65 = .ok (.dup, 1) := by decide +kernel
theorem dX4_follow_66 : decode cX4_follow 66 = .ok (.getfield 27, 3) := by decide +kernel
theorem dX4_follow_69 : decode cX4_follow 69 = .ok (.iconst 1, 1) := by decide +kernel
theorem dX4_follow_70 : decode cX4_follow 70 = .ok (.iadd, 1) := by decide +kernel
theorem dX4_follow_71 : decode cX4_follow 71 = .ok (.putfield 27, 3) := by decide +kernel
theorem dX4_follow_74 : decode cX4_follow 74 = .ok (.aload_n 0, 1) := by decide +kernel
theorem dX4_follow_75 : decode cX4_follow 75 = .ok (.getfield 18, 3) := by decide +kernel
theorem dX4_follow_78 : decode cX4_follow 78 = .ok (.iload 4, 2) := by decide +kernel
theorem dX4_follow_80 : decode cX4_follow 80 = .ok (.aload_n 0, 1) := by decide +kernel
theorem dX4_follow_81 : decode cX4_follow 81 = .ok (.getfield 27, 3) := by decide +kernel
theorem dX4_follow_84 : decode cX4_follow 84 = .ok (.iconst 1, 1) := by decide +kernel
theorem dX4_follow_85 : decode cX4_follow 85 = .ok (.isub, 1) := by decide +kernel
theorem dX4_follow_86 : decode cX4_follow 86 = .ok (.iastore, 1) := by decide +kernel
theorem dX4_follow_87 : decode cX4_follow 87 = .ok (.iinc 4 1, 3) := by decide +kernel
theorem dX4_follow_90 : decode cX4_follow 90 = .ok (.goto (-70), 3) := by decide +kernel
theorem dX4_follow_93 : decode cX4_follow 93 = .ok (.return_, 1) := by decide +kernel
set_option maxRecDepth 20000 in
theorem ggX4_keepCode_X4_cellOf : GoodIn wsX4_keepCode wsX4_cellOf := goodIn_r _ [6, 7, 8, 9] (by decide +kernel) (by decide +kernel)
set_option maxRecDepth 20000 in
theorem gX4_keepCode_X4_cellOf : GoodIn wsX4_keepCode (va_wsS RX4 49 yX4_cellOf wsX4_cellOf) := goodIn_app (goodIn_of _ (by decide +kernel)) ggX4_keepCode_X4_cellOf
theorem dX4_keepCode_0 : decode cX4_keepCode 0 = .ok (.iconst 0, 1) := by decide +kernel
theorem dX4_keepCode_1 : decode cX4_keepCode 1 = .ok (.istore 4, 2) := by decide +kernel
theorem dX4_keepCode_3 : decode cX4_keepCode 3 = .ok (.iload 4, 2) := by decide +kernel
theorem dX4_keepCode_5 : decode cX4_keepCode 5 = .ok (.bipush 16, 2) := by decide +kernel
theorem dX4_keepCode_7 : decode cX4_keepCode 7 = .ok (.if_icmp .ge 36, 3) := by decide +kernel
theorem dX4_keepCode_10 : decode cX4_keepCode 10 = .ok (.iload_n 1, 1) := by decide +kernel
theorem dX4_keepCode_11 : decode cX4_keepCode 11 = .ok (.iload 4, 2) := by decide +kernel
theorem dX4_keepCode_13 : decode cX4_keepCode 13 = .ok (.invokestatic 49, 3) := by decide +kernel
theorem dX4_keepCode_16 : decode cX4_keepCode 16 = .ok (.istore 5, 2) := by decide +kernel
theorem dX4_keepCode_18 : decode cX4_keepCode 18 = .ok (.aload_n 0, 1) := by decide +kernel
theorem dX4_keepCode_19 : decode cX4_keepCode 19 = .ok (.getfield 21, 3) := by decide +kernel
theorem dX4_keepCode_22 : decode cX4_keepCode 22 = .ok (.iload 5, 2) := by decide +kernel
theorem dX4_keepCode_24 : decode cX4_keepCode 24 = .ok (.aload_n 2, 1) := by decide +kernel
theorem dX4_keepCode_25 : decode cX4_keepCode 25 = .ok (.iload 4, 2) := by decide +kernel
theorem dX4_keepCode_27 : decode cX4_keepCode 27 = .ok (.iaload, 1) := by decide +kernel
theorem dX4_keepCode_28 : decode cX4_keepCode 28 = .ok (.iastore, 1) := by decide +kernel
theorem dX4_keepCode_29 : decode cX4_keepCode 29 = .ok (.aload_n 0, 1) := by decide +kernel
theorem dX4_keepCode_30 : decode cX4_keepCode 30 = .ok (.getfield 24, 3) := by decide +kernel
theorem dX4_keepCode_33 : decode cX4_keepCode 33 = .ok (.iload 5, 2) := by decide +kernel
theorem dX4_keepCode_35 : decode cX4_keepCode 35 = .ok (.iconst (-1), 1) := by decide +kernel
theorem dX4_keepCode_36 : decode cX4_keepCode 36 = .ok (.iastore, 1) := by decide +kernel
theorem dX4_keepCode_37 : decode cX4_keepCode 37 = .ok (.iinc 4 1, 3) := by decide +kernel
theorem dX4_keepCode_40 : decode cX4_keepCode 40 = .ok (.goto (-37), 3) := by decide +kernel
theorem dX4_keepCode_43 : decode cX4_keepCode 43 = .ok (.iconst 0, 1) := by decide +kernel
theorem dX4_keepCode_44 : decode cX4_keepCode 44 = .ok (.istore 4, 2) := by decide +kernel
theorem dX4_keepCode_46 : decode cX4_keepCode 46 = .ok (.iconst 1, 1) := by decide +kernel
theorem dX4_keepCode_47 : decode cX4_keepCode 47 = .ok (.istore 5, 2) := by decide +kernel
theorem dX4_keepCode_49 : decode cX4_keepCode 49 = .ok (.iload 5, 2) := by decide +kernel
theorem dX4_keepCode_51 : decode cX4_keepCode 51 = .ok (.iload_n 3, 1) := by decide +kernel
theorem dX4_keepCode_52 : decode cX4_keepCode 52 = .ok (.if_icmp .gt 56, 3) := by decide +kernel
theorem dX4_keepCode_55 : decode cX4_keepCode 55 = .ok (.iload 4, 2) := by decide +kernel
theorem dX4_keepCode_57 : decode cX4_keepCode 57 = .ok (.iconst 2, 1) := by decide +kernel
theorem dX4_keepCode_58 : decode cX4_keepCode 58 = .ok (.imul, 1) := by decide +kernel
theorem dX4_keepCode_59 : decode cX4_keepCode 59 = .ok (.istore 4, 2) := by decide +kernel
theorem dX4_keepCode_61 : decode cX4_keepCode 61 = .ok (.iconst 0, 1) := by decide +kernel
theorem dX4_keepCode_62 : decode cX4_keepCode 62 = .ok (.istore 6, 2) := by decide +kernel
theorem dX4_keepCode_64 : decode cX4_keepCode 64 = .ok (.iload 6, 2) := by decide +kernel
theorem dX4_keepCode_66 : decode cX4_keepCode 66 = .ok (.bipush 16, 2) := by decide +kernel
theorem dX4_keepCode_68 : decode cX4_keepCode 68 = .ok (.if_icmp .ge 34, 3) := by decide +kernel
theorem dX4_keepCode_71 : decode cX4_keepCode 71 = .ok (.aload_n 2, 1) := by decide +kernel
theorem dX4_keepCode_72 : decode cX4_keepCode 72 = .ok (.iload 6, 2) := by decide +kernel
theorem dX4_keepCode_74 : decode cX4_keepCode 74 = .ok (.iaload, 1) := by decide +kernel
theorem dX4_keepCode_75 : decode cX4_keepCode 75 = .ok (.iload 5, 2) := by decide +kernel
theorem dX4_keepCode_77 : decode cX4_keepCode 77 = .ok (.if_icmp .ne 19, 3) := by decide +kernel
theorem dX4_keepCode_80 : decode cX4_keepCode 80 = .ok (.aload_n 0, 1) := by decide +kernel
theorem dX4_keepCode_81 : decode cX4_keepCode 81 = .ok (.getfield 24, 3) := by decide +kernel
theorem dX4_keepCode_84 : decode cX4_keepCode 84 = .ok (.iload_n 1, 1) := by decide +kernel
theorem dX4_keepCode_85 : decode cX4_keepCode 85 = .ok (.iload 6, 2) := by decide +kernel
theorem dX4_keepCode_87 : decode cX4_keepCode 87 = .ok (.invokestatic 49, 3) := by decide +kernel
theorem dX4_keepCode_90 : decode cX4_keepCode 90 = .ok (.iload 4, 2) := by decide +kernel
theorem dX4_keepCode_92 : decode cX4_keepCode 92 = .ok (.iastore, 1) := by decide +kernel
theorem dX4_keepCode_93 : decode cX4_keepCode 93 = .ok (.iinc 4 1, 3) := by decide +kernel
theorem dX4_keepCode_96 : decode cX4_keepCode 96 = .ok (.iinc 6 1, 3) := by decide +kernel
theorem dX4_keepCode_99 : decode cX4_keepCode 99 = .ok (.goto (-35), 3) := by decide +kernel
theorem dX4_keepCode_102 : decode cX4_keepCode 102 = .ok (.iinc 5 1, 3) := by decide +kernel
theorem dX4_keepCode_105 : decode cX4_keepCode 105 = .ok (.goto (-56), 3) := by decide +kernel
theorem dX4_keepCode_108 : decode cX4_keepCode 108 = .ok (.return_, 1) := by decide +kernel
set_option maxRecDepth 20000 in
theorem ggX4_symbolWith_X4_cellOf : GoodIn wsX4_symbolWith wsX4_cellOf := goodIn_r _ [6, 7, 8, 9] (by decide +kernel) (by decide +kernel)
set_option maxRecDepth 20000 in
theorem gX4_symbolWith_X4_cellOf : GoodIn wsX4_symbolWith (va_wsS RX4 49 yX4_cellOf wsX4_cellOf) := goodIn_app (goodIn_of _ (by decide +kernel)) ggX4_symbolWith_X4_cellOf
theorem dX4_symbolWith_0 : decode cX4_symbolWith 0 = .ok (.iconst 0, 1) := by decide +kernel
theorem dX4_symbolWith_1 : decode cX4_symbolWith 1 = .ok (.istore 4, 2) := by decide +kernel
theorem dX4_symbolWith_3 : decode cX4_symbolWith 3 = .ok (.iload 4, 2) := by decide +kernel
theorem dX4_symbolWith_5 : decode cX4_symbolWith 5 = .ok (.bipush 16, 2) := by decide +kernel
theorem dX4_symbolWith_7 : decode cX4_symbolWith 7 = .ok (.if_icmp .ge 42, 3) := by decide +kernel
theorem dX4_symbolWith_10 : decode cX4_symbolWith 10 = .ok (.iload_n 1, 1) := by decide +kernel
theorem dX4_symbolWith_11 : decode cX4_symbolWith 11 = .ok (.iload 4, 2) := by decide +kernel
theorem dX4_symbolWith_13 : decode cX4_symbolWith 13 = .ok (.invokestatic 49, 3) := by decide +kernel
theorem dX4_symbolWith_16 : decode cX4_symbolWith 16 = .ok (.istore 5, 2) := by decide +kernel
theorem dX4_symbolWith_18 : decode cX4_symbolWith 18 = .ok (.aload_n 0, 1) := by decide +kernel
theorem dX4_symbolWith_19 : decode cX4_symbolWith 19 = .ok (.getfield 21, 3) := by decide +kernel
theorem dX4_symbolWith_22 : decode cX4_symbolWith 22 = .ok (.iload 5, 2) := by decide +kernel
theorem dX4_symbolWith_24 : decode cX4_symbolWith 24 = .ok (.iaload, 1) := by decide +kernel
theorem dX4_symbolWith_25 : decode cX4_symbolWith 25 = .ok (.iload_n 2, 1) := by decide +kernel
theorem dX4_symbolWith_26 : decode cX4_symbolWith 26 = .ok (.if_icmp .ne 17, 3) := by decide +kernel
theorem dX4_symbolWith_29 : decode cX4_symbolWith 29 = .ok (.aload_n 0, 1) := by decide +kernel
theorem dX4_symbolWith_30 : decode cX4_symbolWith 30 = .ok (.getfield 24, 3) := by decide +kernel
theorem dX4_symbolWith_33 : decode cX4_symbolWith 33 = .ok (.iload 5, 2) := by decide +kernel
theorem dX4_symbolWith_35 : decode cX4_symbolWith 35 = .ok (.iaload, 1) := by decide +kernel
theorem dX4_symbolWith_36 : decode cX4_symbolWith 36 = .ok (.iload_n 3, 1) := by decide +kernel
theorem dX4_symbolWith_37 : decode cX4_symbolWith 37 = .ok (.if_icmp .ne 6, 3) := by decide +kernel
theorem dX4_symbolWith_40 : decode cX4_symbolWith 40 = .ok (.iload 4, 2) := by decide +kernel
theorem dX4_symbolWith_42 : decode cX4_symbolWith 42 = .ok (.ireturn, 1) := by decide +kernel
theorem dX4_symbolWith_43 : decode cX4_symbolWith 43 = .ok (.iinc 4 1, 3) := by decide +kernel
theorem dX4_symbolWith_46 : decode cX4_symbolWith 46 = .ok (.goto (-43), 3) := by decide +kernel
theorem dX4_symbolWith_49 : decode cX4_symbolWith 49 = .ok (.iconst (-1), 1) := by decide +kernel
theorem dX4_symbolWith_50 : decode cX4_symbolWith 50 = .ok (.ireturn, 1) := by decide +kernel
theorem dX5_init_0 : decode cX5_init 0 = .ok (.aload_n 0, 1) := by decide +kernel
theorem dX5_init_1 : decode cX5_init 1 = .ok (.invokespecial 3, 3) := by decide +kernel
theorem dX5_init_4 : decode cX5_init 4 = .ok (.aload_n 0, 1) := by decide +kernel
theorem dX5_init_5 : decode cX5_init 5 = .ok (.iconst 5, 1) := by decide +kernel
theorem dX5_init_6 : decode cX5_init 6 = .ok (.putfield 9, 3) := by decide +kernel
theorem dX5_init_9 : decode cX5_init 9 = .ok (.aload_n 0, 1) := by decide +kernel
theorem dX5_init_10 : decode cX5_init 10 = .ok (.bipush 20, 2) := by decide +kernel
theorem dX5_init_12 : decode cX5_init 12 = .ok (.putfield 15, 3) := by decide +kernel
theorem dX5_init_15 : decode cX5_init 15 = .ok (.aload_n 0, 1) := by decide +kernel
theorem dX5_init_16 : decode cX5_init 16 = .ok (.iconst 4, 1) := by decide +kernel
theorem dX5_init_17 : decode cX5_init 17 = .ok (.putfield 18, 3) := by decide +kernel
theorem dX5_init_20 : decode cX5_init 20 = .ok (.aload_n 0, 1) := by decide +kernel
theorem dX5_init_21 : decode cX5_init 21 = .ok (.bipush 80, 2) := by decide +kernel
theorem dX5_init_23 : decode cX5_init 23 = .ok (.putfield 21, 3) := by decide +kernel
theorem dX5_init_26 : decode cX5_init 26 = .ok (.return_, 1) := by decide +kernel
theorem dX5_priceOf_0 : decode cX5_priceOf 0 = .ok (.aload_n 0, 1) := by decide +kernel
theorem dX5_priceOf_1 : decode cX5_priceOf 1 = .ok (.getfield 15, 3) := by decide +kernel
theorem dX5_priceOf_4 : decode cX5_priceOf 4 = .ok (.aload_n 0, 1) := by decide +kernel
theorem dX5_priceOf_5 : decode cX5_priceOf 5 = .ok (.getfield 18, 3) := by decide +kernel
theorem dX5_priceOf_8 : decode cX5_priceOf 8 = .ok (.iload_n 1, 1) := by decide +kernel
theorem dX5_priceOf_9 : decode cX5_priceOf 9 = .ok (.imul, 1) := by decide +kernel
theorem dX5_priceOf_10 : decode cX5_priceOf 10 = .ok (.iadd, 1) := by decide +kernel
theorem dX5_priceOf_11 : decode cX5_priceOf 11 = .ok (.iload_n 2, 1) := by decide +kernel
theorem dX5_priceOf_12 : decode cX5_priceOf 12 = .ok (.iadd, 1) := by decide +kernel
theorem dX5_priceOf_13 : decode cX5_priceOf 13 = .ok (.ireturn, 1) := by decide +kernel
set_option maxRecDepth 20000 in
theorem ggX6_init_X1_init : GoodIn wsX6_init wsX1_init := goodIn_r _ [13, 14, 2, 3, 15, 16, 17, 18, 19, 20, 21, 22, 8, 23, 24, 25, 26, 27, 28, 29, 30, 31, 32, 33, 34, 35, 36, 37, 38, 39, 51, 52, 53, 40, 41, 42, 43, 44, 45, 46, 54, 55, 56] (by decide +kernel) (by decide +kernel)
set_option maxRecDepth 20000 in
theorem gX6_init_X1_init_n11 : GoodIn wsX6_init (wsX1_init) := ggX6_init_X1_init
theorem dX6_init_0 : decode cX6_init 0 = .ok (.aload_n 0, 1) := by decide +kernel
theorem dX6_init_1 : decode cX6_init 1 = .ok (.invokespecial 3, 3) := by decide +kernel
theorem dX6_init_4 : decode cX6_init 4 = .ok (.aload_n 0, 1) := by decide +kernel
theorem dX6_init_5 : decode cX6_init 5 = .ok (.new 9, 3) := by decide +kernel
theorem dX6_init_8 : decode cX6_init 8 = .ok (.dup, 1) := by decide +kernel
theorem dX6_init_9 : decode cX6_init 9 = .ok (.invokespecial 11, 3) := by decide +kernel
theorem dX6_init_12 : decode cX6_init 12 = .ok (.putfield 12, 3) := by decide +kernel
theorem dX6_init_15 : decode cX6_init 15 = .ok (.aload_n 0, 1) := by decide +kernel
theorem dX6_init_16 : decode cX6_init 16 = .ok (.bipush 81, 2) := by decide +kernel
theorem dX6_init_18 : decode cX6_init 18 = .ok (.newarray .int, 2) := by decide +kernel
theorem dX6_init_20 : decode cX6_init 20 = .ok (.putfield 18, 3) := by decide +kernel
theorem dX6_init_23 : decode cX6_init 23 = .ok (.aload_n 0, 1) := by decide +kernel
theorem dX6_init_24 : decode cX6_init 24 = .ok (.bipush 81, 2) := by decide +kernel
theorem dX6_init_26 : decode cX6_init 26 = .ok (.newarray .int, 2) := by decide +kernel
theorem dX6_init_28 : decode cX6_init 28 = .ok (.putfield 22, 3) := by decide +kernel
theorem dX6_init_31 : decode cX6_init 31 = .ok (.aload_n 0, 1) := by decide +kernel
theorem dX6_init_32 : decode cX6_init 32 = .ok (.bipush 81, 2) := by decide +kernel
theorem dX6_init_34 : decode cX6_init 34 = .ok (.newarray .int, 2) := by decide +kernel
theorem dX6_init_36 : decode cX6_init 36 = .ok (.putfield 25, 3) := by decide +kernel
theorem dX6_init_39 : decode cX6_init 39 = .ok (.return_, 1) := by decide +kernel
set_option maxRecDepth 20000 in
theorem ggX6_split_X1_learn : GoodIn wsX6_split wsX1_learn := goodIn_r _ [15, 16, 17, 18, 19, 20, 21, 22, 23, 14, 24, 25, 8, 9, 10, 26, 27, 28, 29, 30, 31, 32, 33, 34, 35, 36, 37, 38, 39, 40, 41, 42, 43, 44, 45, 46, 47, 48, 49, 50, 51, 52, 53, 54, 55, 56, 57, 58, 59, 60, 61, 62, 63, 64, 65, 66, 67, 68, 69, 70, 99, 100, 101, 102, 103, 104, 105, 97, 98, 106, 107, 108, 109, 110, 111] (by decide +kernel) (by decide +kernel)
set_option maxRecDepth 20000 in
theorem gX6_split_X1_learn : GoodIn wsX6_split (wsV RX6 34 RX1 yX1_learn wsX1_learn) := goodIn_app (goodIn_of _ (by decide +kernel)) ggX6_split_X1_learn
set_option maxRecDepth 20000 in
theorem ggX6_split_X6_chooseEnd : GoodIn wsX6_split wsX6_chooseEnd := goodIn_r _ [75, 3, 76, 5, 77, 1, 78, 79, 80, 14, 81, 31, 33, 54, 55, 56, 82, 83, 84, 85, 86, 87, 88, 89, 90, 91, 92, 99, 100, 101, 102, 103, 104, 105, 93, 94, 95, 96] (by decide +kernel) (by decide +kernel)
set_option maxRecDepth 20000 in
theorem gX6_split_X6_chooseEnd : GoodIn wsX6_split (wsV RX6 52 RX6 yX6_chooseEnd wsX6_chooseEnd) := goodIn_app (goodIn_of _ (by decide +kernel)) ggX6_split_X6_chooseEnd
theorem dX6_split_0 : decode cX6_split 0 = .ok (.aload_n 0, 1) := by decide +kernel
theorem dX6_split_1 : decode cX6_split 1 = .ok (.getfield 12, 3) := by decide +kernel
theorem dX6_split_4 : decode cX6_split 4 = .ok (.aload_n 1, 1) := by decide +kernel
theorem dX6_split_5 : decode cX6_split 5 = .ok (.aload_n 2, 1) := by decide +kernel
theorem dX6_split_6 : decode cX6_split 6 = .ok (.getfield 28, 3) := by decide +kernel
theorem dX6_split_9 : decode cX6_split 9 = .ok (.invokevirtual 34, 3) := by decide +kernel
theorem dX6_split_12 : decode cX6_split 12 = .ok (.aload_n 0, 1) := by decide +kernel
theorem dX6_split_13 : decode cX6_split 13 = .ok (.getfield 18, 3) := by decide +kernel
theorem dX6_split_16 : decode cX6_split 16 = .ok (.aload_n 1, 1) := by decide +kernel
theorem dX6_split_17 : decode cX6_split 17 = .ok (.getfield 38, 3) := by decide +kernel
theorem dX6_split_20 : decode cX6_split 20 = .ok (.iconst 0, 1) := by decide +kernel
theorem dX6_split_21 : decode cX6_split 21 = .ok (.iastore, 1) := by decide +kernel
theorem dX6_split_22 : decode cX6_split 22 = .ok (.aload_n 0, 1) := by decide +kernel
theorem dX6_split_23 : decode cX6_split 23 = .ok (.getfield 22, 3) := by decide +kernel
theorem dX6_split_26 : decode cX6_split 26 = .ok (.aload_n 1, 1) := by decide +kernel
theorem dX6_split_27 : decode cX6_split 27 = .ok (.getfield 38, 3) := by decide +kernel
