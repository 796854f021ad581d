theorem dX9_slack_34 : decode cX9_slack 34 = .ok (.iload_n 1, 1) := by decide +kernel
theorem dX9_slack_35 : decode cX9_slack 35 = .ok (.iload_n 3, 1) := by decide +kernel
theorem dX9_slack_36 : decode cX9_slack 36 = .ok (.invokestatic 186, 3) := by decide +kernel
theorem dX9_slack_39 : decode cX9_slack 39 = .ok (.iaload, 1) := by decide +kernel
theorem dX9_slack_40 : decode cX9_slack 40 = .ok (.istore 4, 2) := by decide +kernel
theorem dX9_slack_42 : decode cX9_slack 42 = .ok (.iload 4, 2) := by decide +kernel
theorem dX9_slack_44 : decode cX9_slack 44 = .ok (.ifCond .le 18, 3) := by decide +kernel
theorem dX9_slack_47 : decode cX9_slack 47 = .ok (.iload_n 2, 1) := by decide +kernel
theorem dX9_slack_48 : decode cX9_slack 48 = .ok (.iconst 1, 1) := by decide +kernel
theorem dX9_slack_49 : decode cX9_slack 49 = .ok (.aload_n 0, 1) := by decide +kernel
theorem dX9_slack_50 : decode cX9_slack 50 = .ok (.getfield 19, 3) := by decide +kernel
theorem dX9_slack_53 : decode cX9_slack 53 = .ok (.getfield 119, 3) := by decide +kernel
theorem dX9_slack_56 : decode cX9_slack 56 = .ok (.iload 4, 2) := by decide +kernel
theorem dX9_slack_58 : decode cX9_slack 58 = .ok (.isub, 1) := by decide +kernel
theorem dX9_slack_59 : decode cX9_slack 59 = .ok (.ishl, 1) := by decide +kernel
theorem dX9_slack_60 : decode cX9_slack 60 = .ok (.isub, 1) := by decide +kernel
theorem dX9_slack_61 : decode cX9_slack 61 = .ok (.istore_n 2, 1) := by decide +kernel
theorem dX9_slack_62 : decode cX9_slack 62 = .ok (.iinc 3 1, 3) := by decide +kernel
theorem dX9_slack_65 : decode cX9_slack 65 = .ok (.goto (-44), 3) := by decide +kernel
theorem dX9_slack_68 : decode cX9_slack 68 = .ok (.iload_n 2, 1) := by decide +kernel
theorem dX9_slack_69 : decode cX9_slack 69 = .ok (.ireturn, 1) := by decide +kernel
set_option maxRecDepth 20000 in
theorem ggX9_look_X9_requirePlan : GoodIn wsX9_look wsX9_requirePlan := goodIn_ca (goodIn_r _ [10, 11, 12, 13, 33, 34, 35, 36, 37, 38, 39, 40, 41, 42, 43] (by decide +kernel) (by decide +kernel)) (goodIn_sub (fun _ h => List.mem_cons_of_mem _ (List.mem_append_left _ (List.mem_append_right _ h))) (by decide +kernel))
set_option maxRecDepth 20000 in
theorem gX9_look_X9_requirePlan : GoodIn wsX9_look (wsV RX9 173 RX9 yX9_requirePlan wsX9_requirePlan) := goodIn_app (goodIn_of _ (by decide +kernel)) ggX9_look_X9_requirePlan
set_option maxRecDepth 20000 in
theorem ggX9_look_X9_requireBlock : GoodIn wsX9_look wsX9_requireBlock := goodIn_ca (goodIn_r _ [17, 18, 19, 5, 20, 33, 34, 35, 36, 37, 38, 39, 40, 41, 42, 43, 48, 49, 50, 51, 52, 53, 54] (by decide +kernel) (by decide +kernel)) (goodIn_sub (fun _ h => List.mem_cons_of_mem _ (List.mem_append_right _ h)) (by decide +kernel))
set_option maxRecDepth 20000 in
theorem gX9_look_X9_requireBlock : GoodIn wsX9_look (wsV RX9 179 RX9 yX9_requireBlock wsX9_requireBlock) := goodIn_app (goodIn_of _ (by decide +kernel)) ggX9_look_X9_requireBlock
set_option maxRecDepth 20000 in
theorem ggX9_look_X4_symbolWith : GoodIn wsX9_look wsX4_symbolWith := goodIn_r _ [25, 26, 27, 28, 29, 24, 30, 31, 9, 32, 48, 49, 50, 51, 52, 53, 54] (by decide +kernel) (by decide +kernel)
set_option maxRecDepth 20000 in
theorem gX9_look_X4_symbolWith : GoodIn wsX9_look (wsV RX9 194 RX4 yX4_symbolWith wsX4_symbolWith) := goodIn_app (goodIn_of _ (by decide +kernel)) ggX9_look_X4_symbolWith
theorem dX9_look_0 : decode cX9_look 0 = .ok (.aload_n 0, 1) := by decide +kernel
theorem dX9_look_1 : decode cX9_look 1 = .ok (.invokevirtual 173, 3) := by decide +kernel
theorem dX9_look_4 : decode cX9_look 4 = .ok (.aload_n 0, 1) := by decide +kernel
theorem dX9_look_5 : decode cX9_look 5 = .ok (.iload_n 1, 1) := by decide +kernel
theorem dX9_look_6 : decode cX9_look 6 = .ok (.invokevirtual 179, 3) := by decide +kernel
theorem dX9_look_9 : decode cX9_look 9 = .ok (.aload_n 0, 1) := by decide +kernel
theorem dX9_look_10 : decode cX9_look 10 = .ok (.getfield 19, 3) := by decide +kernel
theorem dX9_look_13 : decode cX9_look 13 = .ok (.getfield 119, 3) := by decide +kernel
theorem dX9_look_16 : decode cX9_look 16 = .ok (.istore_n 3, 1) := by decide +kernel
theorem dX9_look_17 : decode cX9_look 17 = .ok (.iload_n 2, 1) := by decide +kernel
theorem dX9_look_18 : decode cX9_look 18 = .ok (.ifCond .lt 10, 3) := by decide +kernel
theorem dX9_look_21 : decode cX9_look 21 = .ok (.iload_n 2, 1) := by decide +kernel
theorem dX9_look_22 : decode cX9_look 22 = .ok (.iconst 1, 1) := by decide +kernel
theorem dX9_look_23 : decode cX9_look 23 = .ok (.iload_n 3, 1) := by decide +kernel
theorem dX9_look_24 : decode cX9_look 24 = .ok (.ishl, 1) := by decide +kernel
theorem dX9_look_25 : decode cX9_look 25 = .ok (.if_icmp .lt 13, 3) := by decide +kernel
theorem dX9_look_28 : decode cX9_look 28 = .ok (.new 81, 3) := by decide +kernel
theorem dX9_look_31 : decode cX9_look 31 = .ok (.dup, 1) := by decide +kernel
theorem dX9_look_32 : decode cX9_look 32 = .ok (.ldc 192, 2) := by decide +kernel
theorem dX9_look_34 : decode cX9_look 34 = .ok (.invokespecial 85, 3) := by decide +kernel
theorem dX9_look_37 : decode cX9_look 37 = .ok (.athrow, 1) := by decide +kernel
theorem dX9_look_38 : decode cX9_look 38 = .ok (.iconst 1, 1) := by decide +kernel
theorem dX9_look_39 : decode cX9_look 39 = .ok (.istore 4, 2) := by decide +kernel
theorem dX9_look_41 : decode cX9_look 41 = .ok (.iload 4, 2) := by decide +kernel
theorem dX9_look_43 : decode cX9_look 43 = .ok (.iload_n 3, 1) := by decide +kernel
theorem dX9_look_44 : decode cX9_look 44 = .ok (.if_icmp .gt 42, 3) := by decide +kernel
theorem dX9_look_47 : decode cX9_look 47 = .ok (.aload_n 0, 1) := by decide +kernel
theorem dX9_look_48 : decode cX9_look 48 = .ok (.getfield 54, 3) := by decide +kernel
theorem dX9_look_51 : decode cX9_look 51 = .ok (.iload_n 1, 1) := by decide +kernel
theorem dX9_look_52 : decode cX9_look 52 = .ok (.iload 4, 2) := by decide +kernel
theorem dX9_look_54 : decode cX9_look 54 = .ok (.iload_n 2, 1) := by decide +kernel
theorem dX9_look_55 : decode cX9_look 55 = .ok (.iload_n 3, 1) := by decide +kernel
theorem dX9_look_56 : decode cX9_look 56 = .ok (.iload 4, 2) := by decide +kernel
theorem dX9_look_58 : decode cX9_look 58 = .ok (.isub, 1) := by decide +kernel
theorem dX9_look_59 : decode cX9_look 59 = .ok (.ishr, 1) := by decide +kernel
theorem dX9_look_60 : decode cX9_look 60 = .ok (.invokevirtual 194, 3) := by decide +kernel
theorem dX9_look_63 : decode cX9_look 63 = .ok (.istore 5, 2) := by decide +kernel
theorem dX9_look_65 : decode cX9_look 65 = .ok (.iload 5, 2) := by decide +kernel
theorem dX9_look_67 : decode cX9_look 67 = .ok (.iconst (-1), 1) := by decide +kernel
theorem dX9_look_68 : decode cX9_look 68 = .ok (.if_icmp .eq 12, 3) := by decide +kernel
theorem dX9_look_71 : decode cX9_look 71 = .ok (.bipush 16, 2) := by decide +kernel
theorem dX9_look_73 : decode cX9_look 73 = .ok (.iload 4, 2) := by decide +kernel
theorem dX9_look_75 : decode cX9_look 75 = .ok (.imul, 1) := by decide +kernel
theorem dX9_look_76 : decode cX9_look 76 = .ok (.iload 5, 2) := by decide +kernel
theorem dX9_look_78 : decode cX9_look 78 = .ok (.iadd, 1) := by decide +kernel
theorem dX9_look_79 : decode cX9_look 79 = .ok (.ireturn, 1) := by decide +kernel
theorem dX9_look_80 : decode cX9_look 80 = .ok (.iinc 4 1, 3) := by decide +kernel
theorem dX9_look_83 : decode cX9_look 83 = .ok (.goto (-42), 3) := by decide +kernel
theorem dX9_look_86 : decode cX9_look 86 = .ok (.iconst (-1), 1) := by decide +kernel
theorem dX9_look_87 : decode cX9_look 87 = .ok (.ireturn, 1) := by decide +kernel
set_option maxRecDepth 20000 in
theorem ggX9_gain_X9_requirePlan : GoodIn wsX9_gain wsX9_requirePlan := goodIn_ca (goodIn_r _ [11, 12, 13, 14, 73, 74, 75, 76, 77, 78, 79, 80, 81, 82, 83] (by decide +kernel) (by decide +kernel)) (goodIn_sub (fun _ h => List.mem_cons_of_mem _ (List.mem_append_right _ h)) (by decide +kernel))
set_option maxRecDepth 20000 in
theorem gX9_gain_X9_requirePlan : GoodIn wsX9_gain (wsV RX9 173 RX9 yX9_requirePlan wsX9_requirePlan) := goodIn_app (goodIn_of _ (by decide +kernel)) ggX9_gain_X9_requirePlan
set_option maxRecDepth 20000 in
theorem ggX9_gain_X9_costOfBlock : GoodIn wsX9_gain wsX9_costOfBlock := goodIn_r _ [18, 19, 3, 20, 21, 22, 23, 24, 25, 26, 27, 28, 29, 30, 31, 32, 33, 34, 35, 36, 37, 38, 39, 40, 41, 42, 43, 44, 45, 46, 47, 48, 49, 50, 10, 51, 52, 53, 54, 55, 56, 57, 58, 59, 60, 61, 62, 63, 64, 65, 66, 67, 68, 69, 70, 71, 72, 73, 74, 75, 76, 77, 78, 79, 80, 81, 82, 83, 93, 94, 95, 96, 97, 98, 99, 84, 85, 100, 101, 102] (by decide +kernel) (by decide +kernel)
set_option maxRecDepth 20000 in
theorem gX9_gain_X9_costOfBlock : GoodIn wsX9_gain (wsV RX9 137 RX9 yX9_costOfBlock wsX9_costOfBlock) := goodIn_app (goodIn_of _ (by decide +kernel)) ggX9_gain_X9_costOfBlock
theorem dX9_gain_0 : decode cX9_gain 0 = .ok (.aload_n 0, 1) := by decide +kernel
theorem dX9_gain_1 : decode cX9_gain 1 = .ok (.invokevirtual 173, 3) := by decide +kernel
theorem dX9_gain_4 : decode cX9_gain 4 = .ok (.aload_n 0, 1) := by decide +kernel
theorem dX9_gain_5 : decode cX9_gain 5 = .ok (.getfield 10, 3) := by decide +kernel
theorem dX9_gain_8 : decode cX9_gain 8 = .ok (.getfield 98, 3) := by decide +kernel
theorem dX9_gain_11 : decode cX9_gain 11 = .ok (.ifCond .ne 13, 3) := by decide +kernel
theorem dX9_gain_14 : decode cX9_gain 14 = .ok (.new 198, 3) := by decide +kernel
theorem dX9_gain_17 : decode cX9_gain 17 = .ok (.dup, 1) := by decide +kernel
theorem dX9_gain_18 : decode cX9_gain 18 = .ok (.ldc 200, 2) := by decide +kernel
theorem dX9_gain_20 : decode cX9_gain 20 = .ok (.invokespecial 202, 3) := by decide +kernel
theorem dX9_gain_23 : decode cX9_gain 23 = .ok (.athrow, 1) := by decide +kernel
theorem dX9_gain_24 : decode cX9_gain 24 = .ok (.aload_n 0, 1) := by decide +kernel
theorem dX9_gain_25 : decode cX9_gain 25 = .ok (.iconst 0, 1) := by decide +kernel
theorem dX9_gain_26 : decode cX9_gain 26 = .ok (.aload_n 0, 1) := by decide +kernel
theorem dX9_gain_27 : decode cX9_gain 27 = .ok (.getfield 10, 3) := by decide +kernel
theorem dX9_gain_30 : decode cX9_gain 30 = .ok (.getfield 98, 3) := by decide +kernel
theorem dX9_gain_33 : decode cX9_gain 33 = .ok (.invokevirtual 137, 3) := by decide +kernel
theorem dX9_gain_36 : decode cX9_gain 36 = .ok (.istore_n 1, 1) := by decide +kernel
theorem dX9_gain_37 : decode cX9_gain 37 = .ok (.iload_n 1, 1) := by decide +kernel
theorem dX9_gain_38 : decode cX9_gain 38 = .ok (.iconst (-1), 1) := by decide +kernel
theorem dX9_gain_39 : decode cX9_gain 39 = .ok (.if_icmp .ne 7, 3) := by decide +kernel
theorem dX9_gain_42 : decode cX9_gain 42 = .ok (.iconst (-1), 1) := by decide +kernel
theorem dX9_gain_43 : decode cX9_gain 43 = .ok (.goto 12, 3) := by decide +kernel
theorem dX9_gain_46 : decode cX9_gain 46 = .ok (.iload_n 1, 1) := by decide +kernel
theorem dX9_gain_47 : decode cX9_gain 47 = .ok (.aload_n 0, 1) := by decide +kernel
theorem dX9_gain_48 : decode cX9_gain 48 = .ok (.getfield 54, 3) := by decide +kernel
theorem dX9_gain_51 : decode cX9_gain 51 = .ok (.getfield 176, 3) := by decide +kernel
theorem dX9_gain_54 : decode cX9_gain 54 = .ok (.isub, 1) := by decide +kernel
theorem dX9_gain_55 : decode cX9_gain 55 = .ok (.ireturn, 1) := by decide +kernel
set_option maxRecDepth 20000 in
theorem ggX9_write_X9_requirePlan : GoodIn wsX9_write wsX9_requirePlan := goodIn_ca (goodIn_r _ [14, 15, 16, 17, 31, 32, 33, 34, 35, 36, 37, 38, 39, 40, 41] (by decide +kernel) (by decide +kernel)) (goodIn_sub (fun _ h => List.mem_cons_of_mem _ (List.mem_append_right _ h)) (by decide +kernel))
set_option maxRecDepth 20000 in
theorem gX9_write_X9_requirePlan : GoodIn wsX9_write (wsV RX9 173 RX9 yX9_requirePlan wsX9_requirePlan) := goodIn_app (goodIn_of _ (by decide +kernel)) ggX9_write_X9_requirePlan
set_option maxRecDepth 20000 in
theorem ggX9_write_X4_cellOf : GoodIn wsX9_write wsX4_cellOf := goodIn_r _ [21, 22, 13, 23] (by decide +kernel) (by decide +kernel)
set_option maxRecDepth 20000 in
theorem gX9_write_X4_cellOf : GoodIn wsX9_write (va_wsS RX9 186 yX4_cellOf wsX4_cellOf) := goodIn_app (goodIn_of _ (by decide +kernel)) ggX9_write_X4_cellOf
set_option maxRecDepth 20000 in
theorem ggX9_write_X0_push : GoodIn wsX9_write wsX0_push := goodIn_r _ [28, 29, 30, 42, 43] (by decide +kernel) (by decide +kernel)
set_option maxRecDepth 20000 in
theorem gX9_write_X0_push : GoodIn wsX9_write (wsV RX9 209 RX0 yX0_push wsX0_push) := goodIn_app (goodIn_of _ (by decide +kernel)) ggX9_write_X0_push
theorem dX9_write_0 : decode cX9_write 0 = .ok (.aload_n 0, 1) := by decide +kernel
theorem dX9_write_1 : decode cX9_write 1 = .ok (.invokevirtual 173, 3) := by decide +kernel
theorem dX9_write_4 : decode cX9_write 4 = .ok (.aload_n 0, 1) := by decide +kernel
theorem dX9_write_5 : decode cX9_write 5 = .ok (.getfield 65, 3) := by decide +kernel
theorem dX9_write_8 : decode cX9_write 8 = .ok (.iconst 0, 1) := by decide +kernel
theorem dX9_write_9 : decode cX9_write 9 = .ok (.putfield 203, 3) := by decide +kernel
theorem dX9_write_12 : decode cX9_write 12 = .ok (.iconst 0, 1) := by decide +kernel
theorem dX9_write_13 : decode cX9_write 13 = .ok (.istore_n 1, 1) := by decide +kernel
theorem dX9_write_14 : decode cX9_write 14 = .ok (.iload_n 1, 1) := by decide +kernel
theorem dX9_write_15 : decode cX9_write 15 = .ok (.aload_n 0, 1) := by decide +kernel
theorem dX9_write_16 : decode cX9_write 16 = .ok (.getfield 10, 3) := by decide +kernel
theorem dX9_write_19 : decode cX9_write 19 = .ok (.getfield 98, 3) := by decide +kernel
theorem dX9_write_22 : decode cX9_write 22 = .ok (.if_icmp .ge 56, 3) := by decide +kernel
theorem dX9_write_25 : decode cX9_write 25 = .ok (.aload_n 0, 1) := by decide +kernel
theorem dX9_write_26 : decode cX9_write 26 = .ok (.getfield 54, 3) := by decide +kernel
theorem dX9_write_29 : decode cX9_write 29 = .ok (.getfield 206, 3) := by decide +kernel
theorem dX9_write_32 : decode cX9_write 32 = .ok (.iload_n 1, 1) := by decide +kernel
theorem dX9_write_33 : decode cX9_write 33 = .ok (.iaload, 1) := by decide +kernel
theorem dX9_write_34 : decode cX9_write 34 = .ok (.aload_n 0, 1) := by decide +kernel
theorem dX9_write_35 : decode cX9_write 35 = .ok (.getfield 10, 3) := by decide +kernel
theorem dX9_write_38 : decode cX9_write 38 = .ok (.getfield 110, 3) := by decide +kernel
theorem dX9_write_41 : decode cX9_write 41 = .ok (.iload_n 1, 1) := by decide +kernel
theorem dX9_write_42 : decode cX9_write 42 = .ok (.iaload, 1) := by decide +kernel
theorem dX9_write_43 : decode cX9_write 43 = .ok (.invokestatic 186, 3) := by decide +kernel
theorem dX9_write_46 : decode cX9_write 46 = .ok (.istore_n 2, 1) := by decide +kernel
theorem dX9_write_47 : decode cX9_write 47 = .ok (.aload_n 0, 1) := by decide +kernel
theorem dX9_write_48 : decode cX9_write 48 = .ok (.getfield 65, 3) := by decide +kernel
theorem dX9_write_51 : decode cX9_write 51 = .ok (.aload_n 0, 1) := by decide +kernel
theorem dX9_write_52 : decode cX9_write 52 = .ok (.getfield 54, 3) := by decide +kernel
theorem dX9_write_55 : decode cX9_write 55 = .ok (.getfield 189, 3) := by decide +kernel
theorem dX9_write_58 : decode cX9_write 58 = .ok (.iload_n 2, 1) := by decide +kernel
theorem dX9_write_59 : decode cX9_write 59 = .ok (.iaload, 1) := by decide +kernel
theorem dX9_write_60 : decode cX9_write 60 = .ok (.aload_n 0, 1) := by decide +kernel
theorem dX9_write_61 : decode cX9_write 61 = .ok (.getfield 54, 3) := by decide +kernel
theorem dX9_write_64 : decode cX9_write 64 = .ok (.getfield 185, 3) := by decide +kernel
theorem dX9_write_67 : decode cX9_write 67 = .ok (.iload_n 2, 1) := by decide +kernel
theorem dX9_write_68 : decode cX9_write 68 = .ok (.iaload, 1) := by decide +kernel
theorem dX9_write_69 : decode cX9_write 69 = .ok (.invokevirtual 209, 3) := by decide +kernel
theorem dX9_write_72 : decode cX9_write 72 = .ok (.iinc 1 1, 3) := by decide +kernel
theorem dX9_write_75 : decode cX9_write 75 = .ok (.goto (-61), 3) := by decide +kernel
theorem dX9_write_78 : decode cX9_write 78 = .ok (.aload_n 0, 1) := by decide +kernel
theorem dX9_write_79 : decode cX9_write 79 = .ok (.getfield 65, 3) := by decide +kernel
theorem dX9_write_82 : decode cX9_write 82 = .ok (.getfield 203, 3) := by decide +kernel
theorem dX9_write_85 : decode cX9_write 85 = .ok (.ireturn, 1) := by decide +kernel
theorem dX9_bitCount_0 : decode cX9_bitCount 0 = .ok (.aload_n 0, 1) := by decide +kernel
theorem dX9_bitCount_1 : decode cX9_bitCount 1 = .ok (.getfield 65, 3) := by decide +kernel
theorem dX9_bitCount_4 : decode cX9_bitCount 4 = .ok (.getfield 203, 3) := by decide +kernel
theorem dX9_bitCount_7 : decode cX9_bitCount 7 = .ok (.ireturn, 1) := by decide +kernel
set_option maxRecDepth 20000 in
theorem ggX9_bit_X9_requireBit : GoodIn wsX9_bit wsX9_requireBit := goodIn_ca (goodIn_r _ [7, 8, 9, 1, 10, 11, 12, 13, 14, 15, 16, 17, 18, 19, 20, 21, 22, 23] (by decide +kernel) (by decide +kernel)) (goodIn_sub (fun _ h => List.mem_cons_of_mem _ (List.mem_append_right _ h)) (by decide +kernel))
set_option maxRecDepth 20000 in
theorem gX9_bit_X9_requireBit : GoodIn wsX9_bit (wsV RX9 212 RX9 yX9_requireBit wsX9_requireBit) := goodIn_app (goodIn_of _ (by decide +kernel)) ggX9_bit_X9_requireBit
theorem dX9_bit_0 : decode cX9_bit 0 = .ok (.aload_n 0, 1) := by decide +kernel
theorem dX9_bit_1 : decode cX9_bit 1 = .ok (.iload_n 1, 1) := by decide +kernel
theorem dX9_bit_2 : decode cX9_bit 2 = .ok (.invokevirtual 212, 3) := by decide +kernel
theorem dX9_bit_5 : decode cX9_bit 5 = .ok (.aload_n 0, 1) := by decide +kernel
theorem dX9_bit_6 : decode cX9_bit 6 = .ok (.getfield 65, 3) := by decide +kernel
theorem dX9_bit_9 : decode cX9_bit 9 = .ok (.getfield 215, 3) := by decide +kernel
theorem dX9_bit_12 : decode cX9_bit 12 = .ok (.iload_n 1, 1) := by decide +kernel
theorem dX9_bit_13 : decode cX9_bit 13 = .ok (.iaload, 1) := by decide +kernel
theorem dX9_bit_14 : decode cX9_bit 14 = .ok (.ireturn, 1) := by decide +kernel
set_option maxRecDepth 20000 in
theorem ggX9_flip_X9_requireBit : GoodIn wsX9_flip wsX9_requireBit := goodIn_ca (goodIn_r _ [7, 8, 9, 1, 10, 11, 12, 13, 14, 15, 16, 17, 18, 19, 20, 21, 22, 23] (by decide +kernel) (by decide +kernel)) (goodIn_sub (fun _ h => List.mem_cons_of_mem _ (List.mem_append_right _ h)) (by decide +kernel))
set_option maxRecDepth 20000 in
theorem gX9_flip_X9_requireBit : GoodIn wsX9_flip (wsV RX9 212 RX9 yX9_requireBit wsX9_requireBit) := goodIn_app (goodIn_of _ (by decide +kernel)) ggX9_flip_X9_requireBit
theorem dX9_flip_0 : decode cX9_flip 0 = .ok (.aload_n 0, 1) := by decide +kernel
theorem dX9_flip_1 : decode cX9_flip 1 = .ok (.iload_n 1, 1) := by decide +kernel
theorem dX9_flip_2 : decode cX9_flip 2 = .ok (.invokevirtual 212, 3) := by decide +kernel
theorem dX9_flip_5 : decode cX9_flip 5 = .ok (.aload_n 0, 1) := by decide +kernel
theorem dX9_flip_6 : decode cX9_flip 6 = .ok (.getfield 65, 3) := by decide +kernel
theorem dX9_flip_9 : decode cX9_flip 9 = .ok (.getfield 215, 3) := by decide +kernel
theorem dX9_flip_12 : decode cX9_flip 12 = .ok (.iload_n 1, 1) := by decide +kernel
theorem dX9_flip_13 : decode cX9_flip 13 = .ok (.iaload, 1) := by decide +kernel
theorem dX9_flip_14 : decode cX9_flip 14 = .ok (.istore_n 2, 1) := by decide +kernel
theorem dX9_flip_15 : decode cX9_flip 15 = .ok (.aload_n 0, 1) := by decide +kernel
theorem dX9_flip_16 : decode cX9_flip 16 = .ok (.getfield 65, 3) := by decide +kernel
theorem dX9_flip_19 : decode cX9_flip 19 = .ok (.getfield 215, 3) := by decide +kernel
theorem dX9_flip_22 : decode cX9_flip 22 = .ok (.iload_n 1, 1) := by decide +kernel
theorem dX9_flip_23 : decode cX9_flip 23 = .ok (.iconst 1, 1) := by decide +kernel
theorem dX9_flip_24 : decode cX9_flip 24 = .ok (.iload_n 2, 1) := by decide +kernel
theorem dX9_flip_25 : decode cX9_flip 25 = .ok (.isub, 1) := by decide +kernel
theorem dX9_flip_26 : decode cX9_flip 26 = .ok (.iastore, 1) := by decide +kernel
theorem dX9_flip_27 : decode cX9_flip 27 = .ok (.iload_n 2, 1) := by decide +kernel
theorem dX9_flip_28 : decode cX9_flip 28 = .ok (.ireturn, 1) := by decide +kernel
set_option maxRecDepth 20000 in
theorem ggX9_read_X9_requirePlan : GoodIn wsX9_read wsX9_requirePlan := goodIn_ca (goodIn_r _ [12, 13, 14, 15, 38, 39, 40, 41, 42, 43, 44, 45, 46, 47, 48] (by decide +kernel) (by decide +kernel)) (goodIn_sub (fun _ h => List.mem_cons_of_mem _ (List.mem_append_right _ h)) (by decide +kernel))
set_option maxRecDepth 20000 in
theorem gX9_read_X9_requirePlan : GoodIn wsX9_read (wsV RX9 173 RX9 yX9_requirePlan wsX9_requirePlan) := goodIn_app (goodIn_of _ (by decide +kernel)) ggX9_read_X9_requirePlan
set_option maxRecDepth 20000 in
theorem ggX9_read_X9_symbolAt : GoodIn wsX9_read wsX9_symbolAt := goodIn_r _ [19, 20, 21, 22, 23, 24, 4, 25, 26, 27, 28, 29, 30, 31, 32, 33, 34, 35, 11, 36, 38, 39, 40, 41, 42, 43, 44, 45, 46, 47, 48, 58, 59, 60, 61, 62, 63, 51, 52, 53, 54, 55, 56, 57] (by decide +kernel) (by decide +kernel)
set_option maxRecDepth 20000 in
theorem gX9_read_X9_symbolAt : GoodIn wsX9_read (wsV RX9 218 RX9 yX9_symbolAt wsX9_symbolAt) := goodIn_app (goodIn_of _ (by decide +kernel)) ggX9_read_X9_symbolAt
set_option maxRecDepth 20000 in
theorem ggX9_read_X4_cellOf : GoodIn wsX9_read wsX4_cellOf := goodIn_r _ [34, 35, 11, 36] (by decide +kernel) (by decide +kernel)
set_option maxRecDepth 20000 in
theorem gX9_read_X4_cellOf : GoodIn wsX9_read (va_wsS RX9 186 yX4_cellOf wsX4_cellOf) := goodIn_app (goodIn_of _ (by decide +kernel)) ggX9_read_X4_cellOf
theorem dX9_read_0 : decode cX9_read 0 = .ok (.aload_n 0, 1) := by decide +kernel
theorem dX9_read_1 : decode cX9_read 1 = .ok (.invokevirtual 173, 3) := by decide +kernel
theorem dX9_read_4 : decode cX9_read 4 = .ok (.aload_n 0, 1) := by decide +kernel
theorem dX9_read_5 : decode cX9_read 5 = .ok (.iconst 0, 1) := by decide +kernel
theorem dX9_read_6 : decode cX9_read 6 = .ok (.putfield 73, 3) := by decide +kernel
theorem dX9_read_9 : decode cX9_read 9 = .ok (.iconst 0, 1) := by decide +kernel
theorem dX9_read_10 : decode cX9_read 10 = .ok (.istore_n 1, 1) := by decide +kernel
theorem dX9_read_11 : decode cX9_read 11 = .ok (.iconst 0, 1) := by decide +kernel
theorem dX9_read_12 : decode cX9_read 12 = .ok (.istore_n 2, 1) := by decide +kernel
theorem dX9_read_13 : decode cX9_read 13 = .ok (.iload_n 2, 1) := by decide +kernel
theorem dX9_read_14 : decode cX9_read 14 = .ok (.aload_n 0, 1) := by decide +kernel
theorem dX9_read_15 : decode cX9_read 15 = .ok (.getfield 10, 3) := by decide +kernel
theorem dX9_read_18 : decode cX9_read 18 = .ok (.getfield 98, 3) := by decide +kernel
theorem dX9_read_21 : decode cX9_read 21 = .ok (.if_icmp .ge 68, 3) := by decide +kernel
theorem dX9_read_24 : decode cX9_read 24 = .ok (.aload_n 0, 1) := by decide +kernel
theorem dX9_read_25 : decode cX9_read 25 = .ok (.getfield 54, 3) := by decide +kernel
theorem dX9_read_28 : decode cX9_read 28 = .ok (.getfield 206, 3) := by decide +kernel
theorem dX9_read_31 : decode cX9_read 31 = .ok (.iload_n 2, 1) := by decide +kernel
theorem dX9_read_32 : decode cX9_read 32 = .ok (.iaload, 1) := by decide +kernel
theorem dX9_read_33 : decode cX9_read 33 = .ok (.istore_n 3, 1) := by decide +kernel
theorem dX9_read_34 : decode cX9_read 34 = .ok (.aload_n 0, 1) := by decide +kernel
theorem dX9_read_35 : decode cX9_read 35 = .ok (.iload_n 1, 1) := by decide +kernel
theorem dX9_read_36 : decode cX9_read 36 = .ok (.iload_n 3, 1) := by decide +kernel
theorem dX9_read_37 : decode cX9_read 37 = .ok (.invokevirtual 218, 3) := by decide +kernel
theorem dX9_read_40 : decode cX9_read 40 = .ok (.istore 4, 2) := by decide +kernel
theorem dX9_read_42 : decode cX9_read 42 = .ok (.iload 4, 2) := by decide +kernel
theorem dX9_read_44 : decode cX9_read 44 = .ok (.iconst (-1), 1) := by decide +kernel
theorem dX9_read_45 : decode cX9_read 45 = .ok (.if_icmp .ne 6, 3) := by decide +kernel
theorem dX9_read_48 : decode cX9_read 48 = .ok (.goto 41, 3) := by decide +kernel
theorem dX9_read_51 : decode cX9_read 51 = .ok (.aload_n 0, 1) := by decide +kernel
theorem dX9_read_52 : decode cX9_read 52 = .ok (.getfield 69, 3) := by decide +kernel
theorem dX9_read_55 : decode cX9_read 55 = .ok (.iload_n 2, 1) := by decide +kernel
theorem dX9_read_56 : decode cX9_read 56 = .ok (.iload 4, 2) := by decide +kernel
theorem dX9_read_58 : decode cX9_read 58 = .ok (.iastore, 1) := by decide +kernel
theorem dX9_read_59 : decode cX9_read 59 = .ok (.aload_n 0, 1) := by decide +kernel
theorem dX9_read_60 : decode cX9_read 60 = .ok (.iload_n 2, 1) := by decide +kernel
theorem dX9_read_61 : decode cX9_read 61 = .ok (.iconst 1, 1) := by decide +kernel
theorem dX9_read_62 : decode cX9_read 62 = .ok (.iadd, 1) := by decide +kernel
theorem dX9_read_63 : decode cX9_read 63 = .ok (.putfield 73, 3) := by decide +kernel
theorem dX9_read_66 : decode cX9_read 66 = .ok (.iload_n 1, 1) := by decide +kernel
theorem dX9_read_67 : decode cX9_read 67 = .ok (.aload_n 0, 1) := by decide +kernel
theorem dX9_read_68 : decode cX9_read 68 = .ok (.getfield 54, 3) := by decide +kernel
theorem dX9_read_71 : decode cX9_read 71 = .ok (.getfield 185, 3) := by decide +kernel
theorem dX9_read_74 : decode cX9_read 74 = .ok (.iload_n 3, 1) := by decide +kernel
theorem dX9_read_75 : decode cX9_read 75 = .ok (.iload 4, 2) := by decide +kernel
theorem dX9_read_77 : decode cX9_read 77 = .ok (.invokestatic 186, 3) := by decide +kernel
theorem dX9_read_80 : decode cX9_read 80 = .ok (.iaload, 1) := by decide +kernel
theorem dX9_read_81 : decode cX9_read 81 = .ok (.iadd, 1) := by decide +kernel
theorem dX9_read_82 : decode cX9_read 82 = .ok (.istore_n 1, 1) := by decide +kernel
theorem dX9_read_83 : decode cX9_read 83 = .ok (.iinc 2 1, 3) := by decide +kernel
theorem dX9_read_86 : decode cX9_read 86 = .ok (.goto (-73), 3) := by decide +kernel
theorem dX9_read_89 : decode cX9_read 89 = .ok (.aload_n 0, 1) := by decide +kernel
theorem dX9_read_90 : decode cX9_read 90 = .ok (.getfield 73, 3) := by decide +kernel
theorem dX9_read_93 : decode cX9_read 93 = .ok (.ireturn, 1) := by decide +kernel
theorem dX9_got_0 : decode cX9_got 0 = .ok (.iload_n 1, 1) := by decide +kernel
theorem dX9_got_1 : decode cX9_got 1 = .ok (.ifCond .lt 11, 3) := by decide +kernel
theorem dX9_got_4 : decode cX9_got 4 = .ok (.iload_n 1, 1) := by decide +kernel
theorem dX9_got_5 : decode cX9_got 5 = .ok (.aload_n 0, 1) := by decide +kernel
theorem dX9_got_6 : decode cX9_got 6 = .ok (.getfield 73, 3) := by decide +kernel
theorem dX9_got_9 : decode cX9_got 9 = .ok (.if_icmp .lt 13, 3) := by decide +kernel
theorem dX9_got_12 : decode cX9_got 12 = .ok (.new 103, 3) := by decide +kernel
theorem dX9_got_15 : decode cX9_got 15 = .ok (.dup, 1) := by decide +kernel
theorem dX9_got_16 : decode cX9_got 16 = .ok (.ldc 221, 2) := by decide +kernel
theorem dX9_got_18 : decode cX9_got 18 = .ok (.invokespecial 107, 3) := by decide +kernel
theorem dX9_got_21 : decode cX9_got 21 = .ok (.athrow, 1) := by decide +kernel
theorem dX9_got_22 : decode cX9_got 22 = .ok (.aload_n 0, 1) := by decide +kernel
theorem dX9_got_23 : decode cX9_got 23 = .ok (.getfield 69, 3) := by decide +kernel
theorem dX9_got_26 : decode cX9_got 26 = .ok (.iload_n 1, 1) := by decide +kernel
theorem dX9_got_27 : decode cX9_got 27 = .ok (.iaload, 1) := by decide +kernel
theorem dX9_got_28 : decode cX9_got 28 = .ok (.ireturn, 1) := by decide +kernel
theorem dX9_differences_0 : decode cX9_differences 0 = .ok (.aload_n 0, 1) := by decide +kernel
theorem dX9_differences_1 : decode cX9_differences 1 = .ok (.getfield 10, 3) := by decide +kernel
theorem dX9_differences_4 : decode cX9_differences 4 = .ok (.getfield 98, 3) := by decide +kernel
theorem dX9_differences_7 : decode cX9_differences 7 = .ok (.aload_n 0, 1) := by decide +kernel
theorem dX9_differences_8 : decode cX9_differences 8 = .ok (.getfield 73, 3) := by decide +kernel
theorem dX9_differences_11 : decode cX9_differences 11 = .ok (.invokestatic 223, 3) := by decide +kernel
theorem dX9_differences_14 : decode cX9_differences 14 = .ok (.istore_n 1, 1) := by decide +kernel
theorem dX9_differences_15 : decode cX9_differences 15 = .ok (.aload_n 0, 1) := by decide +kernel
theorem dX9_differences_16 : decode cX9_differences 16 = .ok (.getfield 10, 3) := by decide +kernel
theorem dX9_differences_19 : decode cX9_differences 19 = .ok (.getfield 98, 3) := by decide +kernel
theorem dX9_differences_22 : decode cX9_differences 22 = .ok (.aload_n 0, 1) := by decide +kernel
theorem dX9_differences_23 : decode cX9_differences 23 = .ok (.getfield 73, 3) := by decide +kernel
theorem dX9_differences_26 : decode cX9_differences 26 = .ok (.invokestatic 228, 3) := by decide +kernel
theorem dX9_differences_29 : decode cX9_differences 29 = .ok (.iload_n 1, 1) := by decide +kernel
theorem dX9_differences_30 : decode cX9_differences 30 = .ok (.isub, 1) := by decide +kernel
theorem dX9_differences_31 : decode cX9_differences 31 = .ok (.istore_n 2, 1) := by decide +kernel
theorem dX9_differences_32 : decode cX9_differences 32 = .ok (.iconst 0, 1) := by decide +kernel
theorem dX9_differences_33 : decode cX9_differences 33 = .ok (.istore_n 3, 1) := by decide +kernel
theorem dX9_differences_34 : decode cX9_differences 34 = .ok (.iload_n 3, 1) := by decide +kernel
theorem dX9_differences_35 : decode cX9_differences 35 = .ok (.iload_n 1, 1) := by decide +kernel
theorem dX9_differences_36 : decode cX9_differences 36 = .ok (.if_icmp .ge 30, 3) := by decide +kernel
theorem dX9_differences_39 : decode cX9_differences 39 = .ok (.aload_n 0, 1) := by decide +kernel
theorem dX9_differences_40 : decode cX9_differences 40 = .ok (.getfield 10, 3) := by decide +kernel
theorem dX9_differences_43 : decode cX9_differences 43 = .ok (.getfield 110, 3) := by decide +kernel
theorem dX9_differences_46 : decode cX9_differences 46 = .ok (.iload_n 3, 1) := by decide +kernel
theorem dX9_differences_47 : decode cX9_differences 47 = .ok (.iaload, 1) := by decide +kernel
theorem dX9_differences_48 : decode cX9_differences 48 = .ok (.aload_n 0, 1) := by decide +kernel
theorem dX9_differences_49 : decode cX9_differences 49 = .ok (.getfield 69, 3) := by decide +kernel
theorem dX9_differences_52 : decode cX9_differences 52 = .ok (.iload_n 3, 1) := by decide +kernel
theorem dX9_differences_53 : decode cX9_differences 53 = .ok (.iaload, 1) := by decide +kernel
theorem dX9_differences_54 : decode cX9_differences 54 = .ok (.if_icmp .eq 6, 3) := by decide +kernel
theorem dX9_differences_57 : decode cX9_differences 57 = .ok (.iinc 2 1, 3) := by decide +kernel
theorem dX9_differences_60 : decode cX9_differences 60 = .ok (.iinc 3 1, 3) := by decide +kernel
theorem dX9_differences_63 : decode cX9_differences 63 = .ok (.goto (-29), 3) := by decide +kernel
theorem dX9_differences_66 : decode cX9_differences 66 = .ok (.iload_n 2, 1) := by decide +kernel
theorem dX9_differences_67 : decode cX9_differences 67 = .ok (.ireturn, 1) := by decide +kernel
set_option maxRecDepth 20000 in
theorem ggX9_average_X9_requirePlan : GoodIn wsX9_average wsX9_requirePlan := goodIn_ca (goodIn_r _ [11, 12, 13, 14, 21, 22, 23, 24, 25, 26, 27, 28, 29, 30, 31] (by decide +kernel) (by decide +kernel)) (goodIn_sub (fun _ h => List.mem_cons_of_mem _ (List.mem_append_right _ h)) (by decide +kernel))
set_option maxRecDepth 20000 in
theorem gX9_average_X9_requirePlan : GoodIn wsX9_average (wsV RX9 173 RX9 yX9_requirePlan wsX9_requirePlan) := goodIn_app (goodIn_of _ (by decide +kernel)) ggX9_average_X9_requirePlan
set_option maxRecDepth 20000 in
theorem ggX9_average_X4_cellOf : GoodIn wsX9_average wsX4_cellOf := goodIn_r _ [18, 19, 10, 20] (by decide +kernel) (by decide +kernel)
set_option maxRecDepth 20000 in
theorem gX9_average_X4_cellOf : GoodIn wsX9_average (va_wsS RX9 186 yX4_cellOf wsX4_cellOf) := goodIn_app (goodIn_of _ (by decide +kernel)) ggX9_average_X4_cellOf
theorem dX9_average_0 : decode cX9_average 0 = .ok (.aload_n 0, 1) := by decide +kernel
theorem dX9_average_1 : decode cX9_average 1 = .ok (.invokevirtual 173, 3) := by decide +kernel
theorem dX9_average_4 : decode cX9_average 4 = .ok (.aload_n 0, 1) := by decide +kernel
theorem dX9_average_5 : decode cX9_average 5 = .ok (.getfield 10, 3) := by decide +kernel
theorem dX9_average_8 : decode cX9_average 8 = .ok (.getfield 98, 3) := by decide +kernel
theorem dX9_average_11 : decode cX9_average 11 = .ok (.ifCond .ne 5, 3) := by decide +kernel
theorem dX9_average_14 : decode cX9_average 14 = .ok (.dconst 0, 1) := by decide +kernel
theorem dX9_average_15 : decode cX9_average 15 = .ok (.dreturn, 1) := by decide +kernel
theorem dX9_average_16 : decode cX9_average 16 = .ok (.iconst 0, 1) := by decide +kernel
theorem dX9_average_17 : decode cX9_average 17 = .ok (.istore_n 1, 1) := by decide +kernel
theorem dX9_average_18 : decode cX9_average 18 = .ok (.iconst 0, 1) := by decide +kernel
theorem dX9_average_19 : decode cX9_average 19 = .ok (.istore_n 2, 1) := by decide +kernel
theorem dX9_average_20 : decode cX9_average 20 = .ok (.iload_n 2, 1) := by decide +kernel
theorem dX9_average_21 : decode cX9_average 21 = .ok (.aload_n 0, 1) := by decide +kernel
theorem dX9_average_22 : decode cX9_average 22 = .ok (.getfield 10, 3) := by decide +kernel
theorem dX9_average_25 : decode cX9_average 25 = .ok (.getfield 98, 3) := by decide +kernel
theorem dX9_average_28 : decode cX9_average 28 = .ok (.if_icmp .ge 41, 3) := by decide +kernel
theorem dX9_average_31 : decode cX9_average 31 = .ok (.iload_n 1, 1) := by decide +kernel
theorem dX9_average_32 : decode cX9_average 32 = .ok (.aload_n 0, 1) := by decide +kernel
theorem dX9_average_33 : decode cX9_average 33 = .ok (.getfield 54, 3) := by decide +kernel
theorem dX9_average_36 : decode cX9_average 36 = .ok (.getfield 185, 3) := by decide +kernel
theorem dX9_average_39 : decode cX9_average 39 = .ok (.aload_n 0, 1) := by decide +kernel
theorem dX9_average_40 : decode cX9_average 40 = .ok (.getfield 54, 3) := by decide +kernel
theorem dX9_average_43 : decode cX9_average 43 = .ok (.getfield 206, 3) := by decide +kernel
theorem dX9_average_46 : decode cX9_average 46 = .ok (.iload_n 2, 1) := by decide +kernel
theorem dX9_average_47 : decode cX9_average 47 = .ok (.iaload, 1) := by decide +kernel
theorem dX9_average_48 : decode cX9_average 48 = .ok (.aload_n 0, 1) := by decide +kernel
theorem dX9_average_49 : decode cX9_average 49 = .ok (.getfield 10, 3) := by decide +kernel
theorem dX9_average_52 : decode cX9_average 52 = .ok (.getfield 110, 3) := by decide +kernel
theorem dX9_average_55 : decode cX9_average 55 = .ok (.iload_n 2, 1) := by decide +kernel
theorem dX9_average_56 : decode cX9_average 56 = .ok (.iaload, 1) := by decide +kernel
theorem dX9_average_57 : decode cX9_average 57 = .ok (.invokestatic 186, 3) := by decide +kernel
theorem dX9_average_60 : decode cX9_average 60 = .ok (.iaload, 1) := by decide +kernel
theorem dX9_average_61 : decode cX9_average 61 = .ok (.iadd, 1) := by decide +kernel
theorem dX9_average_62 : decode cX9_average 62 = .ok (.istore_n 1, 1) := by decide +kernel
theorem dX9_average_63 : decode cX9_average 63 = .ok (.iinc 2 1, 3) := by decide +kernel
theorem dX9_average_66 : decode cX9_average 66 = .ok (.goto (-46), 3) := by decide +kernel
theorem dX9_average_69 : decode cX9_average 69 = .ok (.iload_n 1, 1) := by decide +kernel
theorem dX9_average_70 : decode cX9_average 70 = .ok (.i2d, 1) := by decide +kernel
theorem dX9_average_71 : decode cX9_average 71 = .ok (.aload_n 0, 1) := by decide +kernel
theorem dX9_average_72 : decode cX9_average 72 = .ok (.getfield 10, 3) := by decide +kernel
theorem dX9_average_75 : decode cX9_average 75 = .ok (.getfield 98, 3) := by decide +kernel
theorem dX9_average_78 : decode cX9_average 78 = .ok (.i2d, 1) := by decide +kernel
theorem dX9_average_79 : decode cX9_average 79 = .ok (.ddiv, 1) := by decide +kernel
theorem dX9_average_80 : decode cX9_average 80 = .ok (.dreturn, 1) := by decide +kernel
set_option maxRecDepth 20000 in
theorem ggX9_digest_X9_mixed : GoodIn wsX9_digest wsX9_mixed := goodIn_r _ [23, 2] (by decide +kernel) (by decide +kernel)
set_option maxRecDepth 20000 in
theorem gX9_digest_X9_mixed : GoodIn wsX9_digest (va_wsS RX9 235 yX9_mixed wsX9_mixed) := goodIn_app (goodIn_of _ (by decide +kernel)) ggX9_digest_X9_mixed
theorem dX9_digest_0 : decode cX9_digest 0 = .ok (.ldc2_w 231, 3) := by decide +kernel
theorem dX9_digest_3 : decode cX9_digest 3 = .ok (.lstore_n 1, 1) := by decide +kernel
theorem dX9_digest_4 : decode cX9_digest 4 = .ok (.lload_n 1, 1) := by decide +kernel
theorem dX9_digest_5 : decode cX9_digest 5 = .ok (.ldc2_w 233, 3) := by decide +kernel
theorem dX9_digest_8 : decode cX9_digest 8 = .ok (.lmul, 1) := by decide +kernel
theorem dX9_digest_9 : decode cX9_digest 9 = .ok (.aload_n 0, 1) := by decide +kernel
theorem dX9_digest_10 : decode cX9_digest 10 = .ok (.getfield 19, 3) := by decide +kernel
theorem dX9_digest_13 : decode cX9_digest 13 = .ok (.getfield 119, 3) := by decide +kernel
theorem dX9_digest_16 : decode cX9_digest 16 = .ok (.i2l, 1) := by decide +kernel
theorem dX9_digest_17 : decode cX9_digest 17 = .ok (.ladd, 1) := by decide +kernel
theorem dX9_digest_18 : decode cX9_digest 18 = .ok (.lstore_n 1, 1) := by decide +kernel
theorem dX9_digest_19 : decode cX9_digest 19 = .ok (.lload_n 1, 1) := by decide +kernel
theorem dX9_digest_20 : decode cX9_digest 20 = .ok (.ldc2_w 233, 3) := by decide +kernel
theorem dX9_digest_23 : decode cX9_digest 23 = .ok (.lmul, 1) := by decide +kernel
theorem dX9_digest_24 : decode cX9_digest 24 = .ok (.aload_n 0, 1) := by decide +kernel
theorem dX9_digest_25 : decode cX9_digest 25 = .ok (.getfield 19, 3) := by decide +kernel
theorem dX9_digest_28 : decode cX9_digest 28 = .ok (.getfield 124, 3) := by decide +kernel
theorem dX9_digest_31 : decode cX9_digest 31 = .ok (.i2l, 1) := by decide +kernel
theorem dX9_digest_32 : decode cX9_digest 32 = .ok (.ladd, 1) := by decide +kernel
theorem dX9_digest_33 : decode cX9_digest 33 = .ok (.lstore_n 1, 1) := by decide +kernel
theorem dX9_digest_34 : decode cX9_digest 34 = .ok (.lload_n 1, 1) := by decide +kernel
theorem dX9_digest_35 : decode cX9_digest 35 = .ok (.ldc2_w 233, 3) := by decide +kernel
theorem dX9_digest_38 : decode cX9_digest 38 = .ok (.lmul, 1) := by decide +kernel
theorem dX9_digest_39 : decode cX9_digest 39 = .ok (.aload_n 0, 1) := by decide +kernel
theorem dX9_digest_40 : decode cX9_digest 40 = .ok (.getfield 19, 3) := by decide +kernel
theorem dX9_digest_43 : decode cX9_digest 43 = .ok (.getfield 127, 3) := by decide +kernel
theorem dX9_digest_46 : decode cX9_digest 46 = .ok (.i2l, 1) := by decide +kernel
theorem dX9_digest_47 : decode cX9_digest 47 = .ok (.ladd, 1) := by decide +kernel
theorem dX9_digest_48 : decode cX9_digest 48 = .ok (.lstore_n 1, 1) := by decide +kernel
theorem dX9_digest_49 : decode cX9_digest 49 = .ok (.lload_n 1, 1) := by decide +kernel
theorem dX9_digest_50 : decode cX9_digest 50 = .ok (.ldc2_w 233, 3) := by decide +kernel
theorem dX9_digest_53 : decode cX9_digest 53 = .ok (.lmul, 1) := by decide +kernel
theorem dX9_digest_54 : decode cX9_digest 54 = .ok (.aload_n 0, 1) := by decide +kernel
theorem dX9_digest_55 : decode cX9_digest 55 = .ok (.getfield 19, 3) := by decide +kernel
theorem dX9_digest_58 : decode cX9_digest 58 = .ok (.getfield 132, 3) := by decide +kernel
theorem dX9_digest_61 : decode cX9_digest 61 = .ok (.i2l, 1) := by decide +kernel
theorem dX9_digest_62 : decode cX9_digest 62 = .ok (.ladd, 1) := by decide +kernel
theorem dX9_digest_63 : decode cX9_digest 63 = .ok (.lstore_n 1, 1) := by decide +kernel
theorem dX9_digest_64 : decode cX9_digest 64 = .ok (.lload_n 1, 1) := by decide +kernel
theorem dX9_digest_65 : decode cX9_digest 65 = .ok (.ldc2_w 233, 3) := by decide +kernel
theorem dX9_digest_68 : decode cX9_digest 68 = .ok (.lmul, 1) := by decide +kernel
theorem dX9_digest_69 : decode cX9_digest 69 = .ok (.aload_n 0, 1) := by decide +kernel
theorem dX9_digest_70 : decode cX9_digest 70 = .ok (.getfield 10, 3) := by decide +kernel
theorem dX9_digest_73 : decode cX9_digest 73 = .ok (.getfield 98, 3) := by decide +kernel
theorem dX9_digest_76 : decode cX9_digest 76 = .ok (.i2l, 1) := by decide +kernel
theorem dX9_digest_77 : decode cX9_digest 77 = .ok (.ladd, 1) := by decide +kernel
theorem dX9_digest_78 : decode cX9_digest 78 = .ok (.lstore_n 1, 1) := by decide +kernel
theorem dX9_digest_79 : decode cX9_digest 79 = .ok (.lload_n 1, 1) := by decide +kernel
theorem dX9_digest_80 : decode cX9_digest 80 = .ok (.aload_n 0, 1) := by decide +kernel
theorem dX9_digest_81 : decode cX9_digest 81 = .ok (.getfield 10, 3) := by decide +kernel
theorem dX9_digest_84 : decode cX9_digest 84 = .ok (.getfield 110, 3) := by decide +kernel
theorem dX9_digest_87 : decode cX9_digest 87 = .ok (.iconst 0, 1) := by decide +kernel
theorem dX9_digest_88 : decode cX9_digest 88 = .ok (.aload_n 0, 1) := by decide +kernel
theorem dX9_digest_89 : decode cX9_digest 89 = .ok (.getfield 10, 3) := by decide +kernel
theorem dX9_digest_92 : decode cX9_digest 92 = .ok (.getfield 98, 3) := by decide +kernel
theorem dX9_digest_95 : decode cX9_digest 95 = .ok (.invokestatic 235, 3) := by decide +kernel
theorem dX9_digest_98 : decode cX9_digest 98 = .ok (.lstore_n 1, 1) := by decide +kernel
theorem dX9_digest_99 : decode cX9_digest 99 = .ok (.aload_n 0, 1) := by decide +kernel
theorem dX9_digest_100 : decode cX9_digest 100 = .ok (.getfield 58, 3) := by decide +kernel
theorem dX9_digest_103 : decode cX9_digest 103 = .ok (.ifCond .eq 91, 3) := by decide +kernel
theorem dX9_digest_106 : decode cX9_digest 106 = .ok (.lload_n 1, 1) := by decide +kernel
theorem dX9_digest_107 : decode cX9_digest 107 = .ok (.ldc2_w 233, 3) := by decide +kernel
theorem dX9_digest_110 : decode cX9_digest 110 = .ok (.lmul, 1) := by decide +kernel
theorem dX9_digest_111 : decode cX9_digest 111 = .ok (.aload_n 0, 1) := by decide +kernel
theorem dX9_digest_112 : decode cX9_digest 112 = .ok (.getfield 54, 3) := by decide +kernel
theorem dX9_digest_115 : decode cX9_digest 115 = .ok (.getfield 176, 3) := by decide +kernel
theorem dX9_digest_118 : decode cX9_digest 118 = .ok (.i2l, 1) := by decide +kernel
theorem dX9_digest_119 : decode cX9_digest 119 = .ok (.ladd, 1) := by decide +kernel
theorem dX9_digest_120 : decode cX9_digest 120 = .ok (.lstore_n 1, 1) := by decide +kernel
theorem dX9_digest_121 : decode cX9_digest 121 = .ok (.lload_n 1, 1) := by decide +kernel
theorem dX9_digest_122 : decode cX9_digest 122 = .ok (.ldc2_w 233, 3) := by decide +kernel
theorem dX9_digest_125 : decode cX9_digest 125 = .ok (.lmul, 1) := by decide +kernel
theorem dX9_digest_126 : decode cX9_digest 126 = .ok (.aload_n 0, 1) := by decide +kernel
theorem dX9_digest_127 : decode cX9_digest 127 = .ok (.getfield 54, 3) := by decide +kernel
theorem dX9_digest_130 : decode cX9_digest 130 = .ok (.getfield 149, 3) := by decide +kernel
theorem dX9_digest_133 : decode cX9_digest 133 = .ok (.i2l, 1) := by decide +kernel
theorem dX9_digest_134 : decode cX9_digest 134 = .ok (.ladd, 1) := by decide +kernel
theorem dX9_digest_135 : decode cX9_digest 135 = .ok (.lstore_n 1, 1) := by decide +kernel
theorem dX9_digest_136 : decode cX9_digest 136 = .ok (.iconst 0, 1) := by decide +kernel
theorem dX9_digest_137 : decode cX9_digest 137 = .ok (.istore_n 3, 1) := by decide +kernel
theorem dX9_digest_138 : decode cX9_digest 138 = .ok (.iload_n 3, 1) := by decide +kernel
theorem dX9_digest_139 : decode cX9_digest 139 = .ok (.aload_n 0, 1) := by decide +kernel
theorem dX9_digest_140 : decode cX9_digest 140 = .ok (.getfield 54, 3) := by decide +kernel
theorem dX9_digest_143 : decode cX9_digest 143 = .ok (.getfield 149, 3) := by decide +kernel
theorem dX9_digest_146 : decode cX9_digest 146 = .ok (.if_icmp .ge 48, 3) := by decide +kernel
theorem dX9_digest_149 : decode cX9_digest 149 = .ok (.lload_n 1, 1) := by decide +kernel
theorem dX9_digest_150 : decode cX9_digest 150 = .ok (.ldc2_w 233, 3) := by decide +kernel
theorem dX9_digest_153 : decode cX9_digest 153 = .ok (.lmul, 1) := by decide +kernel
theorem dX9_digest_154 : decode cX9_digest 154 = .ok (.aload_n 0, 1) := by decide +kernel
theorem dX9_digest_155 : decode cX9_digest 155 = .ok (.getfield 54, 3) := by decide +kernel
theorem dX9_digest_158 : decode cX9_digest 158 = .ok (.getfield 152, 3) := by decide +kernel
theorem dX9_digest_161 : decode cX9_digest 161 = .ok (.iload_n 3, 1) := by decide +kernel
theorem dX9_digest_162 : decode cX9_digest 162 = .ok (.iaload, 1) := by decide +kernel
theorem dX9_digest_163 : decode cX9_digest 163 = .ok (.i2l, 1) := by decide +kernel
theorem dX9_digest_164 : decode cX9_digest 164 = .ok (.ladd, 1) := by decide +kernel
theorem dX9_digest_165 : decode cX9_digest 165 = .ok (.lstore_n 1, 1) := by decide +kernel
theorem dX9_digest_166 : decode cX9_digest 166 = .ok (.lload_n 1, 1) := by decide +kernel
theorem dX9_digest_167 : decode cX9_digest 167 = .ok (.aload_n 0, 1) := by decide +kernel
theorem dX9_digest_168 : decode cX9_digest 168 = .ok (.getfield 54, 3) := by decide +kernel
theorem dX9_digest_171 : decode cX9_digest 171 = .ok (.getfield 185, 3) := by decide +kernel
theorem dX9_digest_174 : decode cX9_digest 174 = .ok (.iload_n 3, 1) := by decide +kernel
theorem dX9_digest_175 : decode cX9_digest 175 = .ok (.bipush 16, 2) := by decide +kernel
theorem dX9_digest_177 : decode cX9_digest 177 = .ok (.imul, 1) := by decide +kernel
theorem dX9_digest_178 : decode cX9_digest 178 = .ok (.iload_n 3, 1) := by decide +kernel
theorem dX9_digest_179 : decode cX9_digest 179 = .ok (.iconst 1, 1) := by decide +kernel
theorem dX9_digest_180 : decode cX9_digest 180 = .ok (.iadd, 1) := by decide +kernel
theorem dX9_digest_181 : decode cX9_digest 181 = .ok (.bipush 16, 2) := by decide +kernel
theorem dX9_digest_183 : decode cX9_digest 183 = .ok (.imul, 1) := by decide +kernel
theorem dX9_digest_184 : decode cX9_digest 184 = .ok (.invokestatic 235, 3) := by decide +kernel
theorem dX9_digest_187 : decode cX9_digest 187 = .ok (.lstore_n 1, 1) := by decide +kernel
theorem dX9_digest_188 : decode cX9_digest 188 = .ok (.iinc 3 1, 3) := by decide +kernel
theorem dX9_digest_191 : decode cX9_digest 191 = .ok (.goto (-53), 3) := by decide +kernel
theorem dX9_digest_194 : decode cX9_digest 194 = .ok (.lload_n 1, 1) := by decide +kernel
theorem dX9_digest_195 : decode cX9_digest 195 = .ok (.ldc2_w 233, 3) := by decide +kernel
theorem dX9_digest_198 : decode cX9_digest 198 = .ok (.lmul, 1) := by decide +kernel
theorem dX9_digest_199 : decode cX9_digest 199 = .ok (.aload_n 0, 1) := by decide +kernel
theorem dX9_digest_200 : decode cX9_digest 200 = .ok (.getfield 65, 3) := by decide +kernel
theorem dX9_digest_203 : decode cX9_digest 203 = .ok (.getfield 203, 3) := by decide +kernel
theorem dX9_digest_206 : decode cX9_digest 206 = .ok (.i2l, 1) := by decide +kernel
theorem dX9_digest_207 : decode cX9_digest 207 = .ok (.ladd, 1) := by decide +kernel
theorem dX9_digest_208 : decode cX9_digest 208 = .ok (.lstore_n 1, 1) := by decide +kernel
theorem dX9_digest_209 : decode cX9_digest 209 = .ok (.lload_n 1, 1) := by decide +kernel
theorem dX9_digest_210 : decode cX9_digest 210 = .ok (.aload_n 0, 1) := by decide +kernel
theorem dX9_digest_211 : decode cX9_digest 211 = .ok (.getfield 65, 3) := by decide +kernel
theorem dX9_digest_214 : decode cX9_digest 214 = .ok (.getfield 215, 3) := by decide +kernel
theorem dX9_digest_217 : decode cX9_digest 217 = .ok (.iconst 0, 1) := by decide +kernel
theorem dX9_digest_218 : decode cX9_digest 218 = .ok (.aload_n 0, 1) := by decide +kernel
theorem dX9_digest_219 : decode cX9_digest 219 = .ok (.getfield 65, 3) := by decide +kernel
theorem dX9_digest_222 : decode cX9_digest 222 = .ok (.getfield 203, 3) := by decide +kernel
theorem dX9_digest_225 : decode cX9_digest 225 = .ok (.invokestatic 235, 3) := by decide +kernel
theorem dX9_digest_228 : decode cX9_digest 228 = .ok (.lreturn, 1) := by decide +kernel
theorem dX9_mixed_0 : decode cX9_mixed 0 = .ok (.lload_n 0, 1) := by decide +kernel
theorem dX9_mixed_1 : decode cX9_mixed 1 = .ok (.lstore 5, 2) := by decide +kernel
theorem dX9_mixed_3 : decode cX9_mixed 3 = .ok (.iload_n 3, 1) := by decide +kernel
theorem dX9_mixed_4 : decode cX9_mixed 4 = .ok (.istore 7, 2) := by decide +kernel
theorem dX9_mixed_6 : decode cX9_mixed 6 = .ok (.iload 7, 2) := by decide +kernel
theorem dX9_mixed_8 : decode cX9_mixed 8 = .ok (.ifCond .lt 37, 3) := by decide +kernel
theorem dX9_mixed_11 : decode cX9_mixed 11 = .ok (.iload 7, 2) := by decide +kernel
theorem dX9_mixed_13 : decode cX9_mixed 13 = .ok (.iload 4, 2) := by decide +kernel
theorem dX9_mixed_15 : decode cX9_mixed 15 = .ok (.if_icmp .ge 30, 3) := by decide +kernel
theorem dX9_mixed_18 : decode cX9_mixed 18 = .ok (.iload 7, 2) := by decide +kernel
theorem dX9_mixed_20 : decode cX9_mixed 20 = .ok (.aload_n 2, 1) := by decide +kernel
theorem dX9_mixed_21 : decode cX9_mixed 21 = .ok (.arraylength, 1) := by decide +kernel
theorem dX9_mixed_22 : decode cX9_mixed 22 = .ok (.if_icmp .ge 23, 3) := by decide +kernel
theorem dX9_mixed_25 : decode cX9_mixed 25 = .ok (.lload 5, 2) := by decide +kernel
theorem dX9_mixed_27 : decode cX9_mixed 27 = .ok (.ldc2_w 233, 3) := by decide +kernel
theorem dX9_mixed_30 : decode cX9_mixed 30 = .ok (.lmul, 1) := by decide +kernel
theorem dX9_mixed_31 : decode cX9_mixed 31 = .ok (.aload_n 2, 1) := by decide +kernel
theorem dX9_mixed_32 : decode cX9_mixed 32 = .ok (.iload 7, 2) := by decide +kernel
theorem dX9_mixed_34 : decode cX9_mixed 34 = .ok (.iaload, 1) := by decide +kernel
theorem dX9_mixed_35 : decode cX9_mixed 35 = .ok (.i2l, 1) := by decide +kernel
theorem dX9_mixed_36 : decode cX9_mixed 36 = .ok (.ladd, 1) := by decide +kernel
theorem dX9_mixed_37 : decode cX9_mixed 37 = .ok (.lstore 5, 2) := by decide +kernel
theorem dX9_mixed_39 : decode cX9_mixed 39 = .ok (.iinc 7 1, 3) := by decide +kernel
theorem dX9_mixed_42 : decode cX9_mixed 42 = .ok (.goto (-36), 3) := by decide +kernel
theorem dX9_mixed_45 : decode cX9_mixed 45 = .ok (.lload 5, 2) := by decide +kernel
theorem dX9_mixed_47 : decode cX9_mixed 47 = .ok (.lreturn, 1) := by decide +kernel
theorem dX9_isSymbol_0 : decode cX9_isSymbol 0 = .ok (.iload_n 0, 1) := by decide +kernel
theorem dX9_isSymbol_1 : decode cX9_isSymbol 1 = .ok (.ifCond .lt 13, 3) := by decide +kernel
theorem dX9_isSymbol_4 : decode cX9_isSymbol 4 = .ok (.iload_n 0, 1) := by decide +kernel
theorem dX9_isSymbol_5 : decode cX9_isSymbol 5 = .ok (.bipush 16, 2) := by decide +kernel
theorem dX9_isSymbol_7 : decode cX9_isSymbol 7 = .ok (.if_icmp .ge 7, 3) := by decide +kernel
theorem dX9_isSymbol_10 : decode cX9_isSymbol 10 = .ok (.iconst 1, 1) := by decide +kernel
theorem dX9_isSymbol_11 : decode cX9_isSymbol 11 = .ok (.goto 4, 3) := by decide +kernel
theorem dX9_isSymbol_14 : decode cX9_isSymbol 14 = .ok (.iconst 0, 1) := by decide +kernel
theorem dX9_isSymbol_15 : decode cX9_isSymbol 15 = .ok (.ireturn, 1) := by decide +kernel
theorem dX9_requireRoom_0 : decode cX9_requireRoom 0 = .ok (.iload_n 1, 1) := by decide +kernel
theorem dX9_requireRoom_1 : decode cX9_requireRoom 1 = .ok (.bipush 80, 2) := by decide +kernel
theorem dX9_requireRoom_3 : decode cX9_requireRoom 3 = .ok (.aload_n 0, 1) := by decide +kernel
theorem dX9_requireRoom_4 : decode cX9_requireRoom 4 = .ok (.getfield 10, 3) := by decide +kernel
theorem dX9_requireRoom_7 : decode cX9_requireRoom 7 = .ok (.getfield 98, 3) := by decide +kernel
theorem dX9_requireRoom_10 : decode cX9_requireRoom 10 = .ok (.isub, 1) := by decide +kernel
theorem dX9_requireRoom_11 : decode cX9_requireRoom 11 = .ok (.if_icmp .le 13, 3) := by decide +kernel
theorem dX9_requireRoom_14 : decode cX9_requireRoom 14 = .ok (.new 239, 3) := by decide +kernel
theorem dX9_requireRoom_17 : decode cX9_requireRoom 17 = .ok (.dup, 1) := by decide +kernel
theorem dX9_requireRoom_18 : decode cX9_requireRoom 18 = .ok (.ldc 241, 2) := by decide +kernel
theorem dX9_requireRoom_20 : decode cX9_requireRoom 20 = .ok (.invokespecial 243, 3) := by decide +kernel
theorem dX9_requireRoom_23 : decode cX9_requireRoom 23 = .ok (.athrow, 1) := by decide +kernel
theorem dX9_requireRoom_24 : decode cX9_requireRoom 24 = .ok (.return_, 1) := by decide +kernel
theorem dX9_requirePlan_0 : decode cX9_requirePlan 0 = .ok (.aload_n 0, 1) := by decide +kernel
theorem dX9_requirePlan_1 : decode cX9_requirePlan 1 = .ok (.getfield 58, 3) := by decide +kernel
theorem dX9_requirePlan_4 : decode cX9_requirePlan 4 = .ok (.ifCond .ne 13, 3) := by decide +kernel
theorem dX9_requirePlan_7 : decode cX9_requirePlan 7 = .ok (.new 239, 3) := by decide +kernel
theorem dX9_requirePlan_10 : decode cX9_requirePlan 10 = .ok (.dup, 1) := by decide +kernel
theorem dX9_requirePlan_11 : decode cX9_requirePlan 11 = .ok (.ldc 244, 2) := by decide +kernel
theorem dX9_requirePlan_13 : decode cX9_requirePlan 13 = .ok (.invokespecial 243, 3) := by decide +kernel
theorem dX9_requirePlan_16 : decode cX9_requirePlan 16 = .ok (.athrow, 1) := by decide +kernel
theorem dX9_requirePlan_17 : decode cX9_requirePlan 17 = .ok (.return_, 1) := by decide +kernel
theorem dX9_requireBlock_0 : decode cX9_requireBlock 0 = .ok (.iload_n 1, 1) := by decide +kernel
theorem dX9_requireBlock_1 : decode cX9_requireBlock 1 = .ok (.ifCond .lt 14, 3) := by decide +kernel
theorem dX9_requireBlock_4 : decode cX9_requireBlock 4 = .ok (.iload_n 1, 1) := by decide +kernel
theorem dX9_requireBlock_5 : decode cX9_requireBlock 5 = .ok (.aload_n 0, 1) := by decide +kernel
theorem dX9_requireBlock_6 : decode cX9_requireBlock 6 = .ok (.getfield 54, 3) := by decide +kernel
theorem dX9_requireBlock_9 : decode cX9_requireBlock 9 = .ok (.getfield 149, 3) := by decide +kernel
theorem dX9_requireBlock_12 : decode cX9_requireBlock 12 = .ok (.if_icmp .lt 13, 3) := by decide +kernel
theorem dX9_requireBlock_15 : decode cX9_requireBlock 15 = .ok (.new 103, 3) := by decide +kernel
theorem dX9_requireBlock_18 : decode cX9_requireBlock 18 = .ok (.dup, 1) := by decide +kernel
theorem dX9_requireBlock_19 : decode cX9_requireBlock 19 = .ok (.ldc 135, 2) := by decide +kernel
theorem dX9_requireBlock_21 : decode cX9_requireBlock 21 = .ok (.invokespecial 107, 3) := by decide +kernel
theorem dX9_requireBlock_24 : decode cX9_requireBlock 24 = .ok (.athrow, 1) := by decide +kernel
theorem dX9_requireBlock_25 : decode cX9_requireBlock 25 = .ok (.return_, 1) := by decide +kernel
set_option maxRecDepth 20000 in
theorem ggX9_requireSymbol_X9_isSymbol : GoodIn wsX9_requireSymbol wsX9_isSymbol := goodIn_r _ [6] (by decide +kernel) (by decide +kernel)
set_option maxRecDepth 20000 in
theorem gX9_requireSymbol_X9_isSymbol : GoodIn wsX9_requireSymbol (va_wsS RX9 77 yX9_isSymbol wsX9_isSymbol) := goodIn_app (goodIn_of _ (by decide +kernel)) ggX9_requireSymbol_X9_isSymbol
theorem dX9_requireSymbol_0 : decode cX9_requireSymbol 0 = .ok (.iload_n 1, 1) := by decide +kernel
theorem dX9_requireSymbol_1 : decode cX9_requireSymbol 1 = .ok (.invokestatic 77, 3) := by decide +kernel
theorem dX9_requireSymbol_4 : decode cX9_requireSymbol 4 = .ok (.ifCond .ne 13, 3) := by decide +kernel
theorem dX9_requireSymbol_7 : decode cX9_requireSymbol 7 = .ok (.new 103, 3) := by decide +kernel
theorem dX9_requireSymbol_10 : decode cX9_requireSymbol 10 = .ok (.dup, 1) := by decide +kernel
theorem dX9_requireSymbol_11 : decode cX9_requireSymbol 11 = .ok (.ldc 108, 2) := by decide +kernel
theorem dX9_requireSymbol_13 : decode cX9_requireSymbol 13 = .ok (.invokespecial 107, 3) := by decide +kernel
theorem dX9_requireSymbol_16 : decode cX9_requireSymbol 16 = .ok (.athrow, 1) := by decide +kernel
theorem dX9_requireSymbol_17 : decode cX9_requireSymbol 17 = .ok (.return_, 1) := by decide +kernel
theorem dX9_requireBit_0 : decode cX9_requireBit 0 = .ok (.iload_n 1, 1) := by decide +kernel
theorem dX9_requireBit_1 : decode cX9_requireBit 1 = .ok (.ifCond .lt 14, 3) := by decide +kernel
theorem dX9_requireBit_4 : decode cX9_requireBit 4 = .ok (.iload_n 1, 1) := by decide +kernel
theorem dX9_requireBit_5 : decode cX9_requireBit 5 = .ok (.aload_n 0, 1) := by decide +kernel
theorem dX9_requireBit_6 : decode cX9_requireBit 6 = .ok (.getfield 65, 3) := by decide +kernel
theorem dX9_requireBit_9 : decode cX9_requireBit 9 = .ok (.getfield 203, 3) := by decide +kernel
theorem dX9_requireBit_12 : decode cX9_requireBit 12 = .ok (.if_icmp .lt 13, 3) := by decide +kernel
theorem dX9_requireBit_15 : decode cX9_requireBit 15 = .ok (.new 103, 3) := by decide +kernel
theorem dX9_requireBit_18 : decode cX9_requireBit 18 = .ok (.dup, 1) := by decide +kernel
theorem dX9_requireBit_19 : decode cX9_requireBit 19 = .ok (.ldc 246, 2) := by decide +kernel
theorem dX9_requireBit_21 : decode cX9_requireBit 21 = .ok (.invokespecial 107, 3) := by decide +kernel
theorem dX9_requireBit_24 : decode cX9_requireBit 24 = .ok (.athrow, 1) := by decide +kernel
theorem dX9_requireBit_25 : decode cX9_requireBit 25 = .ok (.return_, 1) := by decide +kernel
theorem dX9_dropPlan_0 : decode cX9_dropPlan 0 = .ok (.aload_n 0, 1) := by decide +kernel
theorem dX9_dropPlan_1 : decode cX9_dropPlan 1 = .ok (.iconst 0, 1) := by decide +kernel
theorem dX9_dropPlan_2 : decode cX9_dropPlan 2 = .ok (.putfield 58, 3) := by decide +kernel
theorem dX9_dropPlan_5 : decode cX9_dropPlan 5 = .ok (.aload_n 0, 1) := by decide +kernel
theorem dX9_dropPlan_6 : decode cX9_dropPlan 6 = .ok (.getfield 65, 3) := by decide +kernel
theorem dX9_dropPlan_9 : decode cX9_dropPlan 9 = .ok (.iconst 0, 1) := by decide +kernel
theorem dX9_dropPlan_10 : decode cX9_dropPlan 10 = .ok (.putfield 203, 3) := by decide +kernel
theorem dX9_dropPlan_13 : decode cX9_dropPlan 13 = .ok (.return_, 1) := by decide +kernel
set_option maxRecDepth 20000 in
theorem ggX9_costOfBlock_X7_take : GoodIn wsX9_costOfBlock wsX7_take := goodIn_r _ [11, 12, 13, 14, 15, 16, 17, 18, 19, 20, 10, 21, 22, 23, 24, 25, 26, 27, 28, 29, 30, 31, 32, 33, 34, 35, 75, 76, 72, 73, 74] (by decide +kernel) (by decide +kernel)
set_option maxRecDepth 20000 in
theorem gX9_costOfBlock_X7_take : GoodIn wsX9_costOfBlock (wsV RX9 158 RX7 yX7_take wsX7_take) := goodIn_app (goodIn_of _ (by decide +kernel)) ggX9_costOfBlock_X7_take
set_option maxRecDepth 20000 in
theorem ggX9_costOfBlock_X3_leastSum : GoodIn wsX9_costOfBlock wsX3_leastSum := goodIn_r _ [40, 41, 42, 43, 44, 45, 46, 47, 39, 48, 49, 72, 73, 74, 77, 78, 79] (by decide +kernel) (by decide +kernel)
set_option maxRecDepth 20000 in
theorem gX9_costOfBlock_X3_leastSum : GoodIn wsX9_costOfBlock (wsV RX9 248 RX3 yX3_leastSum wsX3_leastSum) := goodIn_app (goodIn_of _ (by decide +kernel)) ggX9_costOfBlock_X3_leastSum
set_option maxRecDepth 20000 in
theorem ggX9_costOfBlock_X5_priceOf : GoodIn wsX9_costOfBlock wsX5_priceOf := goodIn_r _ [54, 55, 56, 68, 69, 70, 71] (by decide +kernel) (by decide +kernel)
set_option maxRecDepth 20000 in
theorem gX9_costOfBlock_X5_priceOf : GoodIn wsX9_costOfBlock (wsV RX9 255 RX5 yX5_priceOf wsX5_priceOf) := goodIn_app (goodIn_of _ (by decide +kernel)) ggX9_costOfBlock_X5_priceOf
theorem dX9_costOfBlock_0 : decode cX9_costOfBlock 0 = .ok (.aload_n 0, 1) := by decide +kernel
theorem dX9_costOfBlock_1 : decode cX9_costOfBlock 1 = .ok (.getfield 26, 3) := by decide +kernel
theorem dX9_costOfBlock_4 : decode cX9_costOfBlock 4 = .ok (.aload_n 0, 1) := by decide +kernel
theorem dX9_costOfBlock_5 : decode cX9_costOfBlock 5 = .ok (.getfield 10, 3) := by decide +kernel
theorem dX9_costOfBlock_8 : decode cX9_costOfBlock 8 = .ok (.iload_n 1, 1) := by decide +kernel
theorem dX9_costOfBlock_9 : decode cX9_costOfBlock 9 = .ok (.iload_n 2, 1) := by decide +kernel
theorem dX9_costOfBlock_10 : decode cX9_costOfBlock 10 = .ok (.invokevirtual 158, 3) := by decide +kernel
theorem dX9_costOfBlock_13 : decode cX9_costOfBlock 13 = .ok (.aload_n 0, 1) := by decide +kernel
theorem dX9_costOfBlock_14 : decode cX9_costOfBlock 14 = .ok (.getfield 33, 3) := by decide +kernel
theorem dX9_costOfBlock_17 : decode cX9_costOfBlock 17 = .ok (.aload_n 0, 1) := by decide +kernel
theorem dX9_costOfBlock_18 : decode cX9_costOfBlock 18 = .ok (.getfield 26, 3) := by decide +kernel
theorem dX9_costOfBlock_21 : decode cX9_costOfBlock 21 = .ok (.aload_n 0, 1) := by decide +kernel
theorem dX9_costOfBlock_22 : decode cX9_costOfBlock 22 = .ok (.getfield 19, 3) := by decide +kernel
theorem dX9_costOfBlock_25 : decode cX9_costOfBlock 25 = .ok (.getfield 119, 3) := by decide +kernel
theorem dX9_costOfBlock_28 : decode cX9_costOfBlock 28 = .ok (.invokevirtual 248, 3) := by decide +kernel
theorem dX9_costOfBlock_31 : decode cX9_costOfBlock 31 = .ok (.istore_n 3, 1) := by decide +kernel
theorem dX9_costOfBlock_32 : decode cX9_costOfBlock 32 = .ok (.iload_n 3, 1) := by decide +kernel
theorem dX9_costOfBlock_33 : decode cX9_costOfBlock 33 = .ok (.iconst (-1), 1) := by decide +kernel
theorem dX9_costOfBlock_34 : decode cX9_costOfBlock 34 = .ok (.if_icmp .ne 7, 3) := by decide +kernel
theorem dX9_costOfBlock_37 : decode cX9_costOfBlock 37 = .ok (.iconst (-1), 1) := by decide +kernel
theorem dX9_costOfBlock_38 : decode cX9_costOfBlock 38 = .ok (.goto 18, 3) := by decide +kernel
theorem dX9_costOfBlock_41 : decode cX9_costOfBlock 41 = .ok (.aload_n 0, 1) := by decide +kernel
theorem dX9_costOfBlock_42 : decode cX9_costOfBlock 42 = .ok (.getfield 19, 3) := by decide +kernel
theorem dX9_costOfBlock_45 : decode cX9_costOfBlock 45 = .ok (.aload_n 0, 1) := by decide +kernel
theorem dX9_costOfBlock_46 : decode cX9_costOfBlock 46 = .ok (.getfield 26, 3) := by decide +kernel
theorem dX9_costOfBlock_49 : decode cX9_costOfBlock 49 = .ok (.getfield 252, 3) := by decide +kernel
theorem dX9_costOfBlock_52 : decode cX9_costOfBlock 52 = .ok (.iload_n 3, 1) := by decide +kernel
theorem dX9_costOfBlock_53 : decode cX9_costOfBlock 53 = .ok (.invokevirtual 255, 3) := by decide +kernel
theorem dX9_costOfBlock_56 : decode cX9_costOfBlock 56 = .ok (.ireturn, 1) := by decide +kernel
set_option maxRecDepth 20000 in
theorem ggX9_symbolAt_X4_symbolWith : GoodIn wsX9_symbolAt wsX4_symbolWith := goodIn_r _ [11, 12, 13, 14, 15, 10, 16, 17, 18, 19, 37, 38, 39, 40, 41, 42, 43] (by decide +kernel) (by decide +kernel)
set_option maxRecDepth 20000 in
theorem gX9_symbolAt_X4_symbolWith : GoodIn wsX9_symbolAt (wsV RX9 194 RX4 yX4_symbolWith wsX4_symbolWith) := goodIn_app (goodIn_of _ (by decide +kernel)) ggX9_symbolAt_X4_symbolWith
theorem dX9_symbolAt_0 : decode cX9_symbolAt 0 = .ok (.iconst 0, 1) := by decide +kernel
theorem dX9_symbolAt_1 : decode cX9_symbolAt 1 = .ok (.istore_n 3, 1) := by decide +kernel
theorem dX9_symbolAt_2 : decode cX9_symbolAt 2 = .ok (.iconst 1, 1) := by decide +kernel
theorem dX9_symbolAt_3 : decode cX9_symbolAt 3 = .ok (.istore 4, 2) := by decide +kernel
theorem dX9_symbolAt_5 : decode cX9_symbolAt 5 = .ok (.iload 4, 2) := by decide +kernel
theorem dX9_symbolAt_7 : decode cX9_symbolAt 7 = .ok (.aload_n 0, 1) := by decide +kernel
theorem dX9_symbolAt_8 : decode cX9_symbolAt 8 = .ok (.getfield 19, 3) := by decide +kernel
theorem dX9_symbolAt_11 : decode cX9_symbolAt 11 = .ok (.getfield 119, 3) := by decide +kernel
theorem dX9_symbolAt_14 : decode cX9_symbolAt 14 = .ok (.if_icmp .gt 64, 3) := by decide +kernel
theorem dX9_symbolAt_17 : decode cX9_symbolAt 17 = .ok (.iload_n 1, 1) := by decide +kernel
theorem dX9_symbolAt_18 : decode cX9_symbolAt 18 = .ok (.iload 4, 2) := by decide +kernel
theorem dX9_symbolAt_20 : decode cX9_symbolAt 20 = .ok (.iadd, 1) := by decide +kernel
theorem dX9_symbolAt_21 : decode cX9_symbolAt 21 = .ok (.aload_n 0, 1) := by decide +kernel
theorem dX9_symbolAt_22 : decode cX9_symbolAt 22 = .ok (.getfield 65, 3) := by decide +kernel
theorem dX9_symbolAt_25 : decode cX9_symbolAt 25 = .ok (.getfield 203, 3) := by decide +kernel
theorem dX9_symbolAt_28 : decode cX9_symbolAt 28 = .ok (.if_icmp .gt 50, 3) := by decide +kernel
theorem dX9_symbolAt_31 : decode cX9_symbolAt 31 = .ok (.iload_n 3, 1) := by decide +kernel
theorem dX9_symbolAt_32 : decode cX9_symbolAt 32 = .ok (.iconst 2, 1) := by decide +kernel
theorem dX9_symbolAt_33 : decode cX9_symbolAt 33 = .ok (.imul, 1) := by decide +kernel
theorem dX9_symbolAt_34 : decode cX9_symbolAt 34 = .ok (.aload_n 0, 1) := by decide +kernel
theorem dX9_symbolAt_35 : decode cX9_symbolAt 35 = .ok (.getfield 65, 3) := by decide +kernel
theorem dX9_symbolAt_38 : decode cX9_symbolAt 38 = .ok (.getfield 215, 3) := by decide +kernel
theorem dX9_symbolAt_41 : decode cX9_symbolAt 41 = .ok (.iload_n 1, 1) := by decide +kernel
theorem dX9_symbolAt_42 : decode cX9_symbolAt 42 = .ok (.iload 4, 2) := by decide +kernel
theorem dX9_symbolAt_44 : decode cX9_symbolAt 44 = .ok (.iadd, 1) := by decide +kernel
theorem dX9_symbolAt_45 : decode cX9_symbolAt 45 = .ok (.iconst 1, 1) := by decide +kernel
theorem dX9_symbolAt_46 : decode cX9_symbolAt 46 = .ok (.isub, 1) := by decide +kernel
theorem dX9_symbolAt_47 : decode cX9_symbolAt 47 = .ok (.iaload, 1) := by decide +kernel
theorem dX9_symbolAt_48 : decode cX9_symbolAt 48 = .ok (.iadd, 1) := by decide +kernel
theorem dX9_symbolAt_49 : decode cX9_symbolAt 49 = .ok (.istore_n 3, 1) := by decide +kernel
theorem dX9_symbolAt_50 : decode cX9_symbolAt 50 = .ok (.aload_n 0, 1) := by decide +kernel
theorem dX9_symbolAt_51 : decode cX9_symbolAt 51 = .ok (.getfield 54, 3) := by decide +kernel
theorem dX9_symbolAt_54 : decode cX9_symbolAt 54 = .ok (.iload_n 2, 1) := by decide +kernel
theorem dX9_symbolAt_55 : decode cX9_symbolAt 55 = .ok (.iload 4, 2) := by decide +kernel
theorem dX9_symbolAt_57 : decode cX9_symbolAt 57 = .ok (.iload_n 3, 1) := by decide +kernel
theorem dX9_symbolAt_58 : decode cX9_symbolAt 58 = .ok (.invokevirtual 194, 3) := by decide +kernel
theorem dX9_symbolAt_61 : decode cX9_symbolAt 61 = .ok (.istore 5, 2) := by decide +kernel
theorem dX9_symbolAt_63 : decode cX9_symbolAt 63 = .ok (.iload 5, 2) := by decide +kernel
theorem dX9_symbolAt_65 : decode cX9_symbolAt 65 = .ok (.iconst (-1), 1) := by decide +kernel
theorem dX9_symbolAt_66 : decode cX9_symbolAt 66 = .ok (.if_icmp .eq 6, 3) := by decide +kernel
theorem dX9_symbolAt_69 : decode cX9_symbolAt 69 = .ok (.iload 5, 2) := by decide +kernel
theorem dX9_symbolAt_71 : decode cX9_symbolAt 71 = .ok (.ireturn, 1) := by decide +kernel
theorem dX9_symbolAt_72 : decode cX9_symbolAt 72 = .ok (.iinc 4 1, 3) := by decide +kernel
theorem dX9_symbolAt_75 : decode cX9_symbolAt 75 = .ok (.goto (-70), 3) := by decide +kernel
theorem dX9_symbolAt_78 : decode cX9_symbolAt 78 = .ok (.iconst (-1), 1) := by decide +kernel
theorem dX9_symbolAt_79 : decode cX9_symbolAt 79 = .ok (.ireturn, 1) := by decide +kernel
theorem dX10_init_0 : decode cX10_init 0 = .ok (.aload_n 0, 1) := by decide +kernel
theorem dX10_init_1 : decode cX10_init 1 = .ok (.invokespecial 1, 3) := by decide +kernel
theorem dX10_init_4 : decode cX10_init 4 = .ok (.aload_n 0, 1) := by decide +kernel
theorem dX10_init_5 : decode cX10_init 5 = .ok (.bipush 80, 2) := by decide +kernel
theorem dX10_init_7 : decode cX10_init 7 = .ok (.newarray .int, 2) := by decide +kernel
theorem dX10_init_9 : decode cX10_init 9 = .ok (.putfield 9, 3) := by decide +kernel
theorem dX10_init_12 : decode cX10_init 12 = .ok (.aload_n 0, 1) := by decide +kernel
theorem dX10_init_13 : decode cX10_init 13 = .ok (.iconst 5, 1) := by decide +kernel
theorem dX10_init_14 : decode cX10_init 14 = .ok (.putfield 13, 3) := by decide +kernel
theorem dX10_init_17 : decode cX10_init 17 = .ok (.aload_n 0, 1) := by decide +kernel
theorem dX10_init_18 : decode cX10_init 18 = .ok (.bipush 20, 2) := by decide +kernel
theorem dX10_init_20 : decode cX10_init 20 = .ok (.putfield 17, 3) := by decide +kernel
theorem dX10_init_23 : decode cX10_init 23 = .ok (.aload_n 0, 1) := by decide +kernel
theorem dX10_init_24 : decode cX10_init 24 = .ok (.iconst 4, 1) := by decide +kernel
theorem dX10_init_25 : decode cX10_init 25 = .ok (.putfield 20, 3) := by decide +kernel
theorem dX10_init_28 : decode cX10_init 28 = .ok (.aload_n 0, 1) := by decide +kernel
theorem dX10_init_29 : decode cX10_init 29 = .ok (.bipush 80, 2) := by decide +kernel
theorem dX10_init_31 : decode cX10_init 31 = .ok (.putfield 23, 3) := by decide +kernel
theorem dX10_init_34 : decode cX10_init 34 = .ok (.aload_n 0, 1) := by decide +kernel
theorem dX10_init_35 : decode cX10_init 35 = .ok (.bipush 81, 2) := by decide +kernel
theorem dX10_init_37 : decode cX10_init 37 = .ok (.newarray .int, 2) := by decide +kernel
theorem dX10_init_39 : decode cX10_init 39 = .ok (.putfield 26, 3) := by decide +kernel
theorem dX10_init_42 : decode cX10_init 42 = .ok (.aload_n 0, 1) := by decide +kernel
theorem dX10_init_43 : decode cX10_init 43 = .ok (.sipush 1280, 3) := by decide +kernel
theorem dX10_init_46 : decode cX10_init 46 = .ok (.newarray .int, 2) := by decide +kernel
theorem dX10_init_48 : decode cX10_init 48 = .ok (.putfield 29, 3) := by decide +kernel
theorem dX10_init_51 : decode cX10_init 51 = .ok (.aload_n 0, 1) := by decide +kernel
theorem dX10_init_52 : decode cX10_init 52 = .ok (.sipush 1280, 3) := by decide +kernel
theorem dX10_init_55 : decode cX10_init 55 = .ok (.newarray .int, 2) := by decide +kernel
theorem dX10_init_57 : decode cX10_init 57 = .ok (.putfield 32, 3) := by decide +kernel
theorem dX10_init_60 : decode cX10_init 60 = .ok (.aload_n 0, 1) := by decide +kernel
theorem dX10_init_61 : decode cX10_init 61 = .ok (.sipush 480, 3) := by decide +kernel
theorem dX10_init_64 : decode cX10_init 64 = .ok (.newarray .int, 2) := by decide +kernel
theorem dX10_init_66 : decode cX10_init 66 = .ok (.putfield 35, 3) := by decide +kernel
theorem dX10_init_69 : decode cX10_init 69 = .ok (.aload_n 0, 1) := by decide +kernel
theorem dX10_init_70 : decode cX10_init 70 = .ok (.bipush 80, 2) := by decide +kernel
theorem dX10_init_72 : decode cX10_init 72 = .ok (.newarray .int, 2) := by decide +kernel
theorem dX10_init_74 : decode cX10_init 74 = .ok (.putfield 38, 3) := by decide +kernel
theorem dX10_init_77 : decode cX10_init 77 = .ok (.aload_n 0, 1) := by decide +kernel
theorem dX10_init_78 : decode cX10_init 78 = .ok (.bipush 16, 2) := by decide +kernel
theorem dX10_init_80 : decode cX10_init 80 = .ok (.newarray .int, 2) := by decide +kernel
theorem dX10_init_82 : decode cX10_init 82 = .ok (.putfield 41, 3) := by decide +kernel
theorem dX10_init_85 : decode cX10_init 85 = .ok (.aload_n 0, 1) := by decide +kernel
theorem dX10_init_86 : decode cX10_init 86 = .ok (.sipush 1105, 3) := by decide +kernel
theorem dX10_init_89 : decode cX10_init 89 = .ok (.newarray .int, 2) := by decide +kernel
theorem dX10_init_91 : decode cX10_init 91 = .ok (.putfield 44, 3) := by decide +kernel
theorem dX10_init_94 : decode cX10_init 94 = .ok (.aload_n 0, 1) := by decide +kernel
theorem dX10_init_95 : decode cX10_init 95 = .ok (.bipush 16, 2) := by decide +kernel
theorem dX10_init_97 : decode cX10_init 97 = .ok (.newarray .int, 2) := by decide +kernel
theorem dX10_init_99 : decode cX10_init 99 = .ok (.putfield 47, 3) := by decide +kernel
theorem dX10_init_102 : decode cX10_init 102 = .ok (.aload_n 0, 1) := by decide +kernel
theorem dX10_init_103 : decode cX10_init 103 = .ok (.bipush 81, 2) := by decide +kernel
theorem dX10_init_105 : decode cX10_init 105 = .ok (.newarray .int, 2) := by decide +kernel
theorem dX10_init_107 : decode cX10_init 107 = .ok (.putfield 50, 3) := by decide +kernel
theorem dX10_init_110 : decode cX10_init 110 = .ok (.aload_n 0, 1) := by decide +kernel
theorem dX10_init_111 : decode cX10_init 111 = .ok (.bipush 81, 2) := by decide +kernel
theorem dX10_init_113 : decode cX10_init 113 = .ok (.newarray .int, 2) := by decide +kernel
theorem dX10_init_115 : decode cX10_init 115 = .ok (.putfield 53, 3) := by decide +kernel
theorem dX10_init_118 : decode cX10_init 118 = .ok (.aload_n 0, 1) := by decide +kernel
theorem dX10_init_119 : decode cX10_init 119 = .ok (.bipush 81, 2) := by decide +kernel
theorem dX10_init_121 : decode cX10_init 121 = .ok (.newarray .int, 2) := by decide +kernel
theorem dX10_init_123 : decode cX10_init 123 = .ok (.putfield 56, 3) := by decide +kernel
theorem dX10_init_126 : decode cX10_init 126 = .ok (.return_, 1) := by decide +kernel
theorem dX10_thrown_0 : decode cX10_thrown 0 = .ok (.aload_n 0, 1) := by decide +kernel
theorem dX10_thrown_1 : decode cX10_thrown 1 = .ok (.getfield 59, 3) := by decide +kernel
theorem dX10_thrown_4 : decode cX10_thrown 4 = .ok (.ireturn, 1) := by decide +kernel
theorem dX10_fail_0 : decode cX10_fail 0 = .ok (.aload_n 0, 1) := by decide +kernel
theorem dX10_fail_1 : decode cX10_fail 1 = .ok (.iload_n 1, 1) := by decide +kernel
theorem dX10_fail_2 : decode cX10_fail 2 = .ok (.putfield 59, 3) := by decide +kernel
theorem dX10_fail_5 : decode cX10_fail 5 = .ok (.iconst 0, 1) := by decide +kernel
theorem dX10_fail_6 : decode cX10_fail 6 = .ok (.ireturn, 1) := by decide +kernel
theorem dX10_isIn_0 : decode cX10_isIn 0 = .ok (.iload_n 0, 1) := by decide +kernel
theorem dX10_isIn_1 : decode cX10_isIn 1 = .ok (.iload_n 1, 1) := by decide +kernel
theorem dX10_isIn_2 : decode cX10_isIn 2 = .ok (.if_icmp .lt 12, 3) := by decide +kernel
theorem dX10_isIn_5 : decode cX10_isIn 5 = .ok (.iload_n 0, 1) := by decide +kernel
theorem dX10_isIn_6 : decode cX10_isIn 6 = .ok (.iload_n 2, 1) := by decide +kernel
theorem dX10_isIn_7 : decode cX10_isIn 7 = .ok (.if_icmp .gt 7, 3) := by decide +kernel
theorem dX10_isIn_10 : decode cX10_isIn 10 = .ok (.iconst 1, 1) := by decide +kernel
theorem dX10_isIn_11 : decode cX10_isIn 11 = .ok (.goto 4, 3) := by decide +kernel
theorem dX10_isIn_14 : decode cX10_isIn 14 = .ok (.iconst 0, 1) := by decide +kernel
theorem dX10_isIn_15 : decode cX10_isIn 15 = .ok (.ireturn, 1) := by decide +kernel
theorem dX10_changed_0 : decode cX10_changed 0 = .ok (.aload_n 0, 1) := by decide +kernel
theorem dX10_changed_1 : decode cX10_changed 1 = .ok (.iconst 0, 1) := by decide +kernel
theorem dX10_changed_2 : decode cX10_changed 2 = .ok (.putfield 62, 3) := by decide +kernel
theorem dX10_changed_5 : decode cX10_changed 5 = .ok (.aload_n 0, 1) := by decide +kernel
theorem dX10_changed_6 : decode cX10_changed 6 = .ok (.iconst 0, 1) := by decide +kernel
theorem dX10_changed_7 : decode cX10_changed 7 = .ok (.putfield 66, 3) := by decide +kernel
theorem dX10_changed_10 : decode cX10_changed 10 = .ok (.return_, 1) := by decide +kernel
set_option maxRecDepth 20000 in
theorem ggX10_append_X10_isIn : GoodIn wsX10_append wsX10_isIn := goodIn_r _ [7] (by decide +kernel) (by decide +kernel)
set_option maxRecDepth 20000 in
theorem gX10_append_X10_isIn : GoodIn wsX10_append (va_wsS RX10 69 yX10_isIn wsX10_isIn) := goodIn_app (goodIn_of _ (by decide +kernel)) ggX10_append_X10_isIn
set_option maxRecDepth 20000 in
theorem ggX10_append_X10_fail : GoodIn wsX10_append wsX10_fail := goodIn_r _ [11, 1, 18, 19, 20, 21, 22, 23, 24, 25, 26, 27, 28, 29, 30, 31, 32, 33, 34, 35, 36, 37, 38, 39, 40] (by decide +kernel) (by decide +kernel)
set_option maxRecDepth 20000 in
theorem gX10_append_X10_fail : GoodIn wsX10_append (wsV RX10 73 RX10 yX10_fail wsX10_fail) := goodIn_app (goodIn_of _ (by decide +kernel)) ggX10_append_X10_fail
set_option maxRecDepth 20000 in
theorem ggX10_append_X10_changed : GoodIn wsX10_append wsX10_changed := goodIn_r _ [15, 16, 17, 18, 19, 20, 21, 22, 23, 24, 25, 26, 27, 28, 29, 30, 31, 32, 33, 34, 35, 36, 37, 38, 39, 40] (by decide +kernel) (by decide +kernel)
set_option maxRecDepth 20000 in
theorem gX10_append_X10_changed : GoodIn wsX10_append (wsV RX10 80 RX10 yX10_changed wsX10_changed) := goodIn_app (goodIn_of _ (by decide +kernel)) ggX10_append_X10_changed
theorem dX10_append_0 : decode cX10_append 0 = .ok (.aload_n 0, 1) := by decide +kernel
theorem dX10_append_1 : decode cX10_append 1 = .ok (.iconst 0, 1) := by decide +kernel
theorem dX10_append_2 : decode cX10_append 2 = .ok (.putfield 59, 3) := by decide +kernel
theorem dX10_append_5 : decode cX10_append 5 = .ok (.iload_n 1, 1) := by decide +kernel
theorem dX10_append_6 : decode cX10_append 6 = .ok (.iconst 0, 1) := by decide +kernel
theorem dX10_append_7 : decode cX10_append 7 = .ok (.bipush 15, 2) := by decide +kernel
theorem dX10_append_9 : decode cX10_append 9 = .ok (.invokestatic 69, 3) := by decide +kernel
theorem dX10_append_12 : decode cX10_append 12 = .ok (.ifCond .eq 13, 3) := by decide +kernel
theorem dX10_append_15 : decode cX10_append 15 = .ok (.iload_n 2, 1) := by decide +kernel
theorem dX10_append_16 : decode cX10_append 16 = .ok (.iconst 1, 1) := by decide +kernel
theorem dX10_append_17 : decode cX10_append 17 = .ok (.bipush 80, 2) := by decide +kernel
theorem dX10_append_19 : decode cX10_append 19 = .ok (.invokestatic 69, 3) := by decide +kernel
theorem dX10_append_22 : decode cX10_append 22 = .ok (.ifCond .ne 9, 3) := by decide +kernel
theorem dX10_append_25 : decode cX10_append 25 = .ok (.aload_n 0, 1) := by decide +kernel
theorem dX10_append_26 : decode cX10_append 26 = .ok (.iconst 1, 1) := by decide +kernel
theorem dX10_append_27 : decode cX10_append 27 = .ok (.invokevirtual 73, 3) := by decide +kernel
theorem dX10_append_30 : decode cX10_append 30 = .ok (.ireturn, 1) := by decide +kernel
theorem dX10_append_31 : decode cX10_append 31 = .ok (.aload_n 0, 1) := by decide +kernel
theorem dX10_append_32 : decode cX10_append 32 = .ok (.getfield 77, 3) := by decide +kernel
theorem dX10_append_35 : decode cX10_append 35 = .ok (.iload_n 2, 1) := by decide +kernel
theorem dX10_append_36 : decode cX10_append 36 = .ok (.iadd, 1) := by decide +kernel
theorem dX10_append_37 : decode cX10_append 37 = .ok (.bipush 80, 2) := by decide +kernel
theorem dX10_append_39 : decode cX10_append 39 = .ok (.if_icmp .le 9, 3) := by decide +kernel
theorem dX10_append_42 : decode cX10_append 42 = .ok (.aload_n 0, 1) := by decide +kernel
theorem dX10_append_43 : decode cX10_append 43 = .ok (.iconst 2, 1) := by decide +kernel
theorem dX10_append_44 : decode cX10_append 44 = .ok (.invokevirtual 73, 3) := by decide +kernel
theorem dX10_append_47 : decode cX10_append 47 = .ok (.ireturn, 1) := by decide +kernel
theorem dX10_append_48 : decode cX10_append 48 = .ok (.iconst 0, 1) := by decide +kernel
theorem dX10_append_49 : decode cX10_append 49 = .ok (.istore_n 3, 1) := by decide +kernel
theorem dX10_append_50 : decode cX10_append 50 = .ok (.iload_n 3, 1) := by decide +kernel
theorem dX10_append_51 : decode cX10_append 51 = .ok (.iload_n 2, 1) := by decide +kernel
theorem dX10_append_52 : decode cX10_append 52 = .ok (.if_icmp .ge 21, 3) := by decide +kernel
theorem dX10_append_55 : decode cX10_append 55 = .ok (.aload_n 0, 1) := by decide +kernel
theorem dX10_append_56 : decode cX10_append 56 = .ok (.getfield 9, 3) := by decide +kernel
theorem dX10_append_59 : decode cX10_append 59 = .ok (.aload_n 0, 1) := by decide +kernel
theorem dX10_append_60 : decode cX10_append 60 = .ok (.getfield 77, 3) := by decide +kernel
theorem dX10_append_63 : decode cX10_append 63 = .ok (.iload_n 3, 1) := by decide +kernel
theorem dX10_append_64 : decode cX10_append 64 = .ok (.iadd, 1) := by decide +kernel
theorem dX10_append_65 : decode cX10_append 65 = .ok (.iload_n 1, 1) := by decide +kernel
theorem dX10_append_66 : decode cX10_append 66 = .ok (.iastore, 1) := by decide +kernel
theorem dX10_append_67 : decode cX10_append 67 = .ok (.iinc 3 1, 3) := by decide +kernel
theorem dX10_append_70 : decode cX10_append 70 = .ok (.goto (-20), 3) := by decide +kernel
theorem dX10_append_73 : decode cX10_append 73 = .ok (.aload_n 0, 1) := by decide +kernel
theorem dX10_append_74 : decode cX10_append 74 = .ok (.dup, 1) := by decide +kernel
theorem dX10_append_75 : decode cX10_append 75 = .ok (.getfield 77, 3) := by decide +kernel
theorem dX10_append_78 : decode cX10_append 78 = .ok (.iload_n 2, 1) := by decide +kernel
theorem dX10_append_79 : decode cX10_append 79 = .ok (.iadd, 1) := by decide +kernel
theorem dX10_append_80 : decode cX10_append 80 = .ok (.putfield 77, 3) := by decide +kernel
theorem dX10_append_83 : decode cX10_append 83 = .ok (.aload_n 0, 1) := by decide +kernel
theorem dX10_append_84 : decode cX10_append 84 = .ok (.invokevirtual 80, 3) := by decide +kernel
theorem dX10_append_87 : decode cX10_append 87 = .ok (.aload_n 0, 1) := by decide +kernel
theorem dX10_append_88 : decode cX10_append 88 = .ok (.getfield 77, 3) := by decide +kernel
theorem dX10_append_91 : decode cX10_append 91 = .ok (.ireturn, 1) := by decide +kernel
set_option maxRecDepth 20000 in
theorem ggX10_feed_X10_isIn : GoodIn wsX10_feed wsX10_isIn := goodIn_r _ [8] (by decide +kernel) (by decide +kernel)
set_option maxRecDepth 20000 in
theorem gX10_feed_X10_isIn : GoodIn wsX10_feed (va_wsS RX10 69 yX10_isIn wsX10_isIn) := goodIn_app (goodIn_of _ (by decide +kernel)) ggX10_feed_X10_isIn
set_option maxRecDepth 20000 in
theorem ggX10_feed_X10_fail : GoodIn wsX10_feed wsX10_fail := goodIn_r _ [12, 1, 19, 20, 21, 22, 23, 24, 25, 26, 27, 28, 29, 30, 31, 32, 33, 34, 35, 36, 37, 38, 39, 40, 41] (by decide +kernel) (by decide +kernel)
set_option maxRecDepth 20000 in
theorem gX10_feed_X10_fail : GoodIn wsX10_feed (wsV RX10 73 RX10 yX10_fail wsX10_fail) := goodIn_app (goodIn_of _ (by decide +kernel)) ggX10_feed_X10_fail
set_option maxRecDepth 20000 in
theorem ggX10_feed_X10_changed : GoodIn wsX10_feed wsX10_changed := goodIn_r _ [16, 17, 18, 19, 20, 21, 22, 23, 24, 25, 26, 27, 28, 29, 30, 31, 32, 33, 34, 35, 36, 37, 38, 39, 40, 41] (by decide +kernel) (by decide +kernel)
set_option maxRecDepth 20000 in
theorem gX10_feed_X10_changed : GoodIn wsX10_feed (wsV RX10 80 RX10 yX10_changed wsX10_changed) := goodIn_app (goodIn_of _ (by decide +kernel)) ggX10_feed_X10_changed
theorem dX10_feed_0 : decode cX10_feed 0 = .ok (.aload_n 0, 1) := by decide +kernel
theorem dX10_feed_1 : decode cX10_feed 1 = .ok (.iconst 0, 1) := by decide +kernel
theorem dX10_feed_2 : decode cX10_feed 2 = .ok (.putfield 59, 3) := by decide +kernel
theorem dX10_feed_5 : decode cX10_feed 5 = .ok (.iload_n 3, 1) := by decide +kernel
theorem dX10_feed_6 : decode cX10_feed 6 = .ok (.iconst 1, 1) := by decide +kernel
theorem dX10_feed_7 : decode cX10_feed 7 = .ok (.bipush 16, 2) := by decide +kernel
theorem dX10_feed_9 : decode cX10_feed 9 = .ok (.invokestatic 69, 3) := by decide +kernel
theorem dX10_feed_12 : decode cX10_feed 12 = .ok (.ifCond .ne 9, 3) := by decide +kernel
theorem dX10_feed_15 : decode cX10_feed 15 = .ok (.aload_n 0, 1) := by decide +kernel
theorem dX10_feed_16 : decode cX10_feed 16 = .ok (.iconst 1, 1) := by decide +kernel
theorem dX10_feed_17 : decode cX10_feed 17 = .ok (.invokevirtual 73, 3) := by decide +kernel
theorem dX10_feed_20 : decode cX10_feed 20 = .ok (.ireturn, 1) := by decide +kernel
theorem dX10_feed_21 : decode cX10_feed 21 = .ok (.aload_n 0, 1) := by decide +kernel
theorem dX10_feed_22 : decode cX10_feed 22 = .ok (.getfield 77, 3) := by decide +kernel
theorem dX10_feed_25 : decode cX10_feed 25 = .ok (.iload_n 3, 1) := by decide +kernel
theorem dX10_feed_26 : decode cX10_feed 26 = .ok (.iadd, 1) := by decide +kernel
theorem dX10_feed_27 : decode cX10_feed 27 = .ok (.bipush 80, 2) := by decide +kernel
theorem dX10_feed_29 : decode cX10_feed 29 = .ok (.if_icmp .le 9, 3) := by decide +kernel
