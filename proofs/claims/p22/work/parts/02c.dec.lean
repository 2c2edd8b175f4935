theorem dL_cell_0 : decode cL_cell 0 = .ok (.iload_n 1, 1) := by decide +kernel
theorem dL_cell_1 : decode cL_cell 1 = .ok (.aload_n 0, 1) := by decide +kernel
theorem dL_cell_2 : decode cL_cell 2 = .ok (.arraylength, 1) := by decide +kernel
theorem dL_cell_3 : decode cL_cell 3 = .ok (.if_icmp .ge 9, 3) := by decide +kernel
theorem dL_cell_6 : decode cL_cell 6 = .ok (.aload_n 0, 1) := by decide +kernel
theorem dL_cell_7 : decode cL_cell 7 = .ok (.iload_n 1, 1) := by decide +kernel
theorem dL_cell_8 : decode cL_cell 8 = .ok (.iaload, 1) := by decide +kernel
theorem dL_cell_9 : decode cL_cell 9 = .ok (.goto 12, 3) := by decide +kernel
theorem dL_cell_12 : decode cL_cell 12 = .ok (.ldc 7, 2) := by decide +kernel
theorem dL_cell_14 : decode cL_cell 14 = .ok (.iload_n 1, 1) := by decide +kernel
theorem dL_cell_15 : decode cL_cell 15 = .ok (.iconst 1, 1) := by decide +kernel
theorem dL_cell_16 : decode cL_cell 16 = .ok (.iadd, 1) := by decide +kernel
theorem dL_cell_17 : decode cL_cell 17 = .ok (.imul, 1) := by decide +kernel
theorem dL_cell_18 : decode cL_cell 18 = .ok (.ldc 8, 2) := by decide +kernel
theorem dL_cell_20 : decode cL_cell 20 = .ok (.iadd, 1) := by decide +kernel
theorem dL_cell_21 : decode cL_cell 21 = .ok (.ireturn, 1) := by decide +kernel
theorem dL_low_0 : decode cL_low 0 = .ok (.iload_n 0, 1) := by decide +kernel
theorem dL_low_1 : decode cL_low 1 = .ok (.ldc 9, 2) := by decide +kernel
theorem dL_low_3 : decode cL_low 3 = .ok (.iand, 1) := by decide +kernel
theorem dL_low_4 : decode cL_low 4 = .ok (.iload_n 1, 1) := by decide +kernel
theorem dL_low_5 : decode cL_low 5 = .ok (.irem, 1) := by decide +kernel
theorem dL_low_6 : decode cL_low 6 = .ok (.ireturn, 1) := by decide +kernel
theorem dL_price_0 : decode cL_price 0 = .ok (.sipush 1000, 3) := by decide +kernel
theorem dL_price_3 : decode cL_price 3 = .ok (.istore_n 3, 1) := by decide +kernel
theorem dL_price_4 : decode cL_price 4 = .ok (.iconst (-1), 1) := by decide +kernel
theorem dL_price_5 : decode cL_price 5 = .ok (.istore 4, 2) := by decide +kernel
theorem dL_price_7 : decode cL_price 7 = .ok (.iconst 0, 1) := by decide +kernel
theorem dL_price_8 : decode cL_price 8 = .ok (.istore 5, 2) := by decide +kernel
theorem dL_price_10 : decode cL_price 10 = .ok (.iload 5, 2) := by decide +kernel
theorem dL_price_12 : decode cL_price 12 = .ok (.bipush 20, 2) := by decide +kernel
theorem dL_price_14 : decode cL_price 14 = .ok (.if_icmp .ge 77, 3) := by decide +kernel
theorem dL_price_17 : decode cL_price 17 = .ok (.aload_n 0, 1) := by decide +kernel
theorem dL_price_18 : decode cL_price 18 = .ok (.iconst 3, 1) := by decide +kernel
theorem dL_price_19 : decode cL_price 19 = .ok (.iload 5, 2) := by decide +kernel
theorem dL_price_21 : decode cL_price 21 = .ok (.imul, 1) := by decide +kernel
theorem dL_price_22 : decode cL_price 22 = .ok (.iconst 2, 1) := by decide +kernel
theorem dL_price_23 : decode cL_price 23 = .ok (.iadd, 1) := by decide +kernel
theorem dL_price_24 : decode cL_price 24 = .ok (.iaload, 1) := by decide +kernel
theorem dL_price_25 : decode cL_price 25 = .ok (.ifCond .le 66, 3) := by decide +kernel
theorem dL_price_28 : decode cL_price 28 = .ok (.aload_n 0, 1) := by decide +kernel
theorem dL_price_29 : decode cL_price 29 = .ok (.iconst 3, 1) := by decide +kernel
theorem dL_price_30 : decode cL_price 30 = .ok (.iload 5, 2) := by decide +kernel
theorem dL_price_32 : decode cL_price 32 = .ok (.imul, 1) := by decide +kernel
theorem dL_price_33 : decode cL_price 33 = .ok (.iaload, 1) := by decide +kernel
theorem dL_price_34 : decode cL_price 34 = .ok (.iload_n 1, 1) := by decide +kernel
theorem dL_price_35 : decode cL_price 35 = .ok (.if_icmp .ne 50, 3) := by decide +kernel
theorem dL_price_38 : decode cL_price 38 = .ok (.aload_n 0, 1) := by decide +kernel
theorem dL_price_39 : decode cL_price 39 = .ok (.iconst 3, 1) := by decide +kernel
theorem dL_price_40 : decode cL_price 40 = .ok (.iload 5, 2) := by decide +kernel
theorem dL_price_42 : decode cL_price 42 = .ok (.imul, 1) := by decide +kernel
theorem dL_price_43 : decode cL_price 43 = .ok (.iconst 1, 1) := by decide +kernel
theorem dL_price_44 : decode cL_price 44 = .ok (.iadd, 1) := by decide +kernel
theorem dL_price_45 : decode cL_price 45 = .ok (.iaload, 1) := by decide +kernel
theorem dL_price_46 : decode cL_price 46 = .ok (.iload_n 2, 1) := by decide +kernel
theorem dL_price_47 : decode cL_price 47 = .ok (.if_icmp .gt 38, 3) := by decide +kernel
theorem dL_price_50 : decode cL_price 50 = .ok (.aload_n 0, 1) := by decide +kernel
theorem dL_price_51 : decode cL_price 51 = .ok (.iconst 3, 1) := by decide +kernel
theorem dL_price_52 : decode cL_price 52 = .ok (.iload 5, 2) := by decide +kernel
theorem dL_price_54 : decode cL_price 54 = .ok (.imul, 1) := by decide +kernel
theorem dL_price_55 : decode cL_price 55 = .ok (.iconst 1, 1) := by decide +kernel
theorem dL_price_56 : decode cL_price 56 = .ok (.iadd, 1) := by decide +kernel
theorem dL_price_57 : decode cL_price 57 = .ok (.iaload, 1) := by decide +kernel
theorem dL_price_58 : decode cL_price 58 = .ok (.iload 4, 2) := by decide +kernel
theorem dL_price_60 : decode cL_price 60 = .ok (.if_icmp .ge 6, 3) := by decide +kernel
theorem dL_price_63 : decode cL_price 63 = .ok (.goto 22, 3) := by decide +kernel
theorem dL_price_66 : decode cL_price 66 = .ok (.aload_n 0, 1) := by decide +kernel
theorem dL_price_67 : decode cL_price 67 = .ok (.iconst 3, 1) := by decide +kernel
theorem dL_price_68 : decode cL_price 68 = .ok (.iload 5, 2) := by decide +kernel
theorem dL_price_70 : decode cL_price 70 = .ok (.imul, 1) := by decide +kernel
theorem dL_price_71 : decode cL_price 71 = .ok (.iconst 1, 1) := by decide +kernel
theorem dL_price_72 : decode cL_price 72 = .ok (.iadd, 1) := by decide +kernel
theorem dL_price_73 : decode cL_price 73 = .ok (.iaload, 1) := by decide +kernel
theorem dL_price_74 : decode cL_price 74 = .ok (.istore 4, 2) := by decide +kernel
theorem dL_price_76 : decode cL_price 76 = .ok (.aload_n 0, 1) := by decide +kernel
theorem dL_price_77 : decode cL_price 77 = .ok (.iconst 3, 1) := by decide +kernel
theorem dL_price_78 : decode cL_price 78 = .ok (.iload 5, 2) := by decide +kernel
theorem dL_price_80 : decode cL_price 80 = .ok (.imul, 1) := by decide +kernel
theorem dL_price_81 : decode cL_price 81 = .ok (.iconst 2, 1) := by decide +kernel
theorem dL_price_82 : decode cL_price 82 = .ok (.iadd, 1) := by decide +kernel
theorem dL_price_83 : decode cL_price 83 = .ok (.iaload, 1) := by decide +kernel
theorem dL_price_84 : decode cL_price 84 = .ok (.istore_n 3, 1) := by decide +kernel
theorem dL_price_85 : decode cL_price 85 = .ok (.iinc 5 1, 3) := by decide +kernel
theorem dL_price_88 : decode cL_price 88 = .ok (.goto (-78), 3) := by decide +kernel
theorem dL_price_91 : decode cL_price 91 = .ok (.iload_n 3, 1) := by decide +kernel
theorem dL_price_92 : decode cL_price 92 = .ok (.ireturn, 1) := by decide +kernel
theorem dL_due_0 : decode cL_due 0 = .ok (.aload_n 0, 1) := by decide +kernel
theorem dL_due_1 : decode cL_due 1 = .ok (.bipush 9, 2) := by decide +kernel
theorem dL_due_3 : decode cL_due 3 = .ok (.iload_n 1, 1) := by decide +kernel
theorem dL_due_4 : decode cL_due 4 = .ok (.imul, 1) := by decide +kernel
theorem dL_due_5 : decode cL_due 5 = .ok (.iconst 3, 1) := by decide +kernel
theorem dL_due_6 : decode cL_due 6 = .ok (.iadd, 1) := by decide +kernel
theorem dL_due_7 : decode cL_due 7 = .ok (.iaload, 1) := by decide +kernel
theorem dL_due_8 : decode cL_due 8 = .ok (.ifCond .ne 16, 3) := by decide +kernel
theorem dL_due_11 : decode cL_due 11 = .ok (.aload_n 0, 1) := by decide +kernel
theorem dL_due_12 : decode cL_due 12 = .ok (.bipush 9, 2) := by decide +kernel
theorem dL_due_14 : decode cL_due 14 = .ok (.iload_n 1, 1) := by decide +kernel
theorem dL_due_15 : decode cL_due 15 = .ok (.imul, 1) := by decide +kernel
theorem dL_due_16 : decode cL_due 16 = .ok (.iconst 4, 1) := by decide +kernel
theorem dL_due_17 : decode cL_due 17 = .ok (.iadd, 1) := by decide +kernel
theorem dL_due_18 : decode cL_due 18 = .ok (.iaload, 1) := by decide +kernel
theorem dL_due_19 : decode cL_due 19 = .ok (.iconst 3, 1) := by decide +kernel
theorem dL_due_20 : decode cL_due 20 = .ok (.iadd, 1) := by decide +kernel
theorem dL_due_21 : decode cL_due 21 = .ok (.goto 24, 3) := by decide +kernel
theorem dL_due_24 : decode cL_due 24 = .ok (.aload_n 0, 1) := by decide +kernel
theorem dL_due_25 : decode cL_due 25 = .ok (.bipush 9, 2) := by decide +kernel
theorem dL_due_27 : decode cL_due 27 = .ok (.iload_n 1, 1) := by decide +kernel
theorem dL_due_28 : decode cL_due 28 = .ok (.imul, 1) := by decide +kernel
theorem dL_due_29 : decode cL_due 29 = .ok (.iconst 3, 1) := by decide +kernel
theorem dL_due_30 : decode cL_due 30 = .ok (.iadd, 1) := by decide +kernel
theorem dL_due_31 : decode cL_due 31 = .ok (.aload_n 0, 1) := by decide +kernel
theorem dL_due_32 : decode cL_due 32 = .ok (.bipush 9, 2) := by decide +kernel
theorem dL_due_34 : decode cL_due 34 = .ok (.iload_n 1, 1) := by decide +kernel
theorem dL_due_35 : decode cL_due 35 = .ok (.imul, 1) := by decide +kernel
theorem dL_due_36 : decode cL_due 36 = .ok (.iconst 3, 1) := by decide +kernel
theorem dL_due_37 : decode cL_due 37 = .ok (.iadd, 1) := by decide +kernel
theorem dL_due_38 : decode cL_due 38 = .ok (.iaload, 1) := by decide +kernel
theorem dL_due_39 : decode cL_due 39 = .ok (.iadd, 1) := by decide +kernel
theorem dL_due_40 : decode cL_due 40 = .ok (.iconst 1, 1) := by decide +kernel
theorem dL_due_41 : decode cL_due 41 = .ok (.iadd, 1) := by decide +kernel
theorem dL_due_42 : decode cL_due 42 = .ok (.iaload, 1) := by decide +kernel
theorem dL_due_43 : decode cL_due 43 = .ok (.iconst 2, 1) := by decide +kernel
theorem dL_due_44 : decode cL_due 44 = .ok (.iadd, 1) := by decide +kernel
theorem dL_due_45 : decode cL_due 45 = .ok (.ireturn, 1) := by decide +kernel
theorem dL_up_0 : decode cL_up 0 = .ok (.lload_n 0, 1) := by decide +kernel
theorem dL_up_1 : decode cL_up 1 = .ok (.lload_n 2, 1) := by decide +kernel
theorem dL_up_2 : decode cL_up 2 = .ok (.ldiv, 1) := by decide +kernel
theorem dL_up_3 : decode cL_up 3 = .ok (.lload_n 0, 1) := by decide +kernel
theorem dL_up_4 : decode cL_up 4 = .ok (.lload_n 2, 1) := by decide +kernel
theorem dL_up_5 : decode cL_up 5 = .ok (.lrem, 1) := by decide +kernel
theorem dL_up_6 : decode cL_up 6 = .ok (.lconst 0, 1) := by decide +kernel
theorem dL_up_7 : decode cL_up 7 = .ok (.lcmp, 1) := by decide +kernel
theorem dL_up_8 : decode cL_up 8 = .ok (.ifCond .le 7, 3) := by decide +kernel
theorem dL_up_11 : decode cL_up 11 = .ok (.iconst 1, 1) := by decide +kernel
theorem dL_up_12 : decode cL_up 12 = .ok (.goto 4, 3) := by decide +kernel
theorem dL_up_15 : decode cL_up 15 = .ok (.iconst 0, 1) := by decide +kernel
theorem dL_up_16 : decode cL_up 16 = .ok (.i2l, 1) := by decide +kernel
theorem dL_up_17 : decode cL_up 17 = .ok (.ladd, 1) := by decide +kernel
theorem dL_up_18 : decode cL_up 18 = .ok (.lreturn, 1) := by decide +kernel
set_option maxRecDepth 20000 in
theorem ggL_timely_L_price : GoodIn wsL_timely wsL_price := goodIn_r _ [5] (by decide +kernel) (by decide +kernel)
set_option maxRecDepth 20000 in
theorem gL_timely_L_price : GoodIn wsL_timely (va_wsS RL 10 yL_price wsL_price) := goodIn_app (goodIn_of _ (by decide +kernel)) ggL_timely_L_price
theorem dL_timely_0 : decode cL_timely 0 = .ok (.aload_n 1, 1) := by decide +kernel
theorem dL_timely_1 : decode cL_timely 1 = .ok (.bipush 9, 2) := by decide +kernel
theorem dL_timely_3 : decode cL_timely 3 = .ok (.iload_n 3, 1) := by decide +kernel
theorem dL_timely_4 : decode cL_timely 4 = .ok (.imul, 1) := by decide +kernel
theorem dL_timely_5 : decode cL_timely 5 = .ok (.bipush 7, 2) := by decide +kernel
theorem dL_timely_7 : decode cL_timely 7 = .ok (.iadd, 1) := by decide +kernel
theorem dL_timely_8 : decode cL_timely 8 = .ok (.iaload, 1) := by decide +kernel
theorem dL_timely_9 : decode cL_timely 9 = .ok (.aload_n 1, 1) := by decide +kernel
theorem dL_timely_10 : decode cL_timely 10 = .ok (.bipush 9, 2) := by decide +kernel
theorem dL_timely_12 : decode cL_timely 12 = .ok (.iload_n 3, 1) := by decide +kernel
theorem dL_timely_13 : decode cL_timely 13 = .ok (.imul, 1) := by decide +kernel
theorem dL_timely_14 : decode cL_timely 14 = .ok (.bipush 8, 2) := by decide +kernel
theorem dL_timely_16 : decode cL_timely 16 = .ok (.iadd, 1) := by decide +kernel
theorem dL_timely_17 : decode cL_timely 17 = .ok (.iaload, 1) := by decide +kernel
theorem dL_timely_18 : decode cL_timely 18 = .ok (.iadd, 1) := by decide +kernel
theorem dL_timely_19 : decode cL_timely 19 = .ok (.istore 6, 2) := by decide +kernel
theorem dL_timely_21 : decode cL_timely 21 = .ok (.aload_n 2, 1) := by decide +kernel
theorem dL_timely_22 : decode cL_timely 22 = .ok (.iconst 4, 1) := by decide +kernel
theorem dL_timely_23 : decode cL_timely 23 = .ok (.iload_n 3, 1) := by decide +kernel
theorem dL_timely_24 : decode cL_timely 24 = .ok (.imul, 1) := by decide +kernel
theorem dL_timely_25 : decode cL_timely 25 = .ok (.laload, 1) := by decide +kernel
theorem dL_timely_26 : decode cL_timely 26 = .ok (.aload_n 0, 1) := by decide +kernel
theorem dL_timely_27 : decode cL_timely 27 = .ok (.aload_n 1, 1) := by decide +kernel
theorem dL_timely_28 : decode cL_timely 28 = .ok (.bipush 9, 2) := by decide +kernel
theorem dL_timely_30 : decode cL_timely 30 = .ok (.iload_n 3, 1) := by decide +kernel
theorem dL_timely_31 : decode cL_timely 31 = .ok (.imul, 1) := by decide +kernel
theorem dL_timely_32 : decode cL_timely 32 = .ok (.iconst 1, 1) := by decide +kernel
theorem dL_timely_33 : decode cL_timely 33 = .ok (.iadd, 1) := by decide +kernel
theorem dL_timely_34 : decode cL_timely 34 = .ok (.iaload, 1) := by decide +kernel
theorem dL_timely_35 : decode cL_timely 35 = .ok (.aload_n 1, 1) := by decide +kernel
theorem dL_timely_36 : decode cL_timely 36 = .ok (.bipush 9, 2) := by decide +kernel
theorem dL_timely_38 : decode cL_timely 38 = .ok (.iload_n 3, 1) := by decide +kernel
theorem dL_timely_39 : decode cL_timely 39 = .ok (.imul, 1) := by decide +kernel
theorem dL_timely_40 : decode cL_timely 40 = .ok (.bipush 6, 2) := by decide +kernel
theorem dL_timely_42 : decode cL_timely 42 = .ok (.iadd, 1) := by decide +kernel
theorem dL_timely_43 : decode cL_timely 43 = .ok (.iaload, 1) := by decide +kernel
theorem dL_timely_44 : decode cL_timely 44 = .ok (.iload 6, 2) := by decide +kernel
theorem dL_timely_46 : decode cL_timely 46 = .ok (.isub, 1) := by decide +kernel
theorem dL_timely_47 : decode cL_timely 47 = .ok (.invokestatic 10, 3) := by decide +kernel
theorem dL_timely_50 : decode cL_timely 50 = .ok (.i2l, 1) := by decide +kernel
theorem dL_timely_51 : decode cL_timely 51 = .ok (.lmul, 1) := by decide +kernel
theorem dL_timely_52 : decode cL_timely 52 = .ok (.ldc2_w 16, 3) := by decide +kernel
theorem dL_timely_55 : decode cL_timely 55 = .ok (.ldiv, 1) := by decide +kernel
theorem dL_timely_56 : decode cL_timely 56 = .ok (.lstore 7, 2) := by decide +kernel
theorem dL_timely_58 : decode cL_timely 58 = .ok (.lload 7, 2) := by decide +kernel
theorem dL_timely_60 : decode cL_timely 60 = .ok (.ldc2_w 16, 3) := by decide +kernel
theorem dL_timely_63 : decode cL_timely 63 = .ok (.lmul, 1) := by decide +kernel
theorem dL_timely_64 : decode cL_timely 64 = .ok (.aload_n 0, 1) := by decide +kernel
theorem dL_timely_65 : decode cL_timely 65 = .ok (.aload_n 1, 1) := by decide +kernel
theorem dL_timely_66 : decode cL_timely 66 = .ok (.bipush 9, 2) := by decide +kernel
theorem dL_timely_68 : decode cL_timely 68 = .ok (.iload_n 3, 1) := by decide +kernel
theorem dL_timely_69 : decode cL_timely 69 = .ok (.imul, 1) := by decide +kernel
theorem dL_timely_70 : decode cL_timely 70 = .ok (.iconst 2, 1) := by decide +kernel
theorem dL_timely_71 : decode cL_timely 71 = .ok (.iadd, 1) := by decide +kernel
theorem dL_timely_72 : decode cL_timely 72 = .ok (.iaload, 1) := by decide +kernel
theorem dL_timely_73 : decode cL_timely 73 = .ok (.iload 4, 2) := by decide +kernel
theorem dL_timely_75 : decode cL_timely 75 = .ok (.iload 6, 2) := by decide +kernel
theorem dL_timely_77 : decode cL_timely 77 = .ok (.isub, 1) := by decide +kernel
theorem dL_timely_78 : decode cL_timely 78 = .ok (.iload 5, 2) := by decide +kernel
theorem dL_timely_80 : decode cL_timely 80 = .ok (.isub, 1) := by decide +kernel
theorem dL_timely_81 : decode cL_timely 81 = .ok (.invokestatic 10, 3) := by decide +kernel
theorem dL_timely_84 : decode cL_timely 84 = .ok (.i2l, 1) := by decide +kernel
theorem dL_timely_85 : decode cL_timely 85 = .ok (.ldiv, 1) := by decide +kernel
theorem dL_timely_86 : decode cL_timely 86 = .ok (.lreturn, 1) := by decide +kernel
set_option maxRecDepth 20000 in
theorem ggL_refused_X3_step : GoodIn wsL_refused wsX3_step := goodIn_ca (goodIn_ca (goodIn_ca (goodIn_r _ [8, 9, 10, 11, 7, 12, 13, 14, 15, 16, 17, 18, 19, 20, 21, 22, 23, 24, 25, 26, 27, 28, 29, 30, 31, 32, 33, 34, 35, 36, 37, 38, 39, 40, 41, 42, 43, 44, 45, 46, 47, 48, 49, 50, 51, 52, 53, 54, 55, 56, 57, 58, 59, 60, 61, 62, 63, 64, 65, 66, 67, 68, 69, 70, 71, 72, 73, 74, 75, 76, 77, 78, 79, 80, 81, 82, 83, 84, 85, 86, 87, 88, 89, 90, 91, 92, 93, 94, 95, 96, 97, 98, 99, 100, 101, 102, 103, 104, 105, 106, 107, 108, 109, 110, 111, 112, 113, 114, 115, 116, 117, 118, 119, 120, 121, 166, 167, 168, 169, 170, 171, 172, 173, 174, 175, 176, 177, 178, 179, 180, 181, 182, 183, 184, 185, 186, 187, 188, 189, 190, 191] (by decide +kernel) (by decide +kernel)) (goodIn_sub (fun _ h => List.mem_cons_of_mem _ (List.mem_append_left _ (List.mem_append_left _ (List.mem_append_right _ h)))) (by decide +kernel))) (goodIn_sub (fun _ h => List.mem_cons_of_mem _ (List.mem_append_left _ (List.mem_append_right _ h))) (by decide +kernel))) (goodIn_sub (fun _ h => List.mem_cons_of_mem _ (List.mem_append_right _ h)) (by decide +kernel))
set_option maxRecDepth 20000 in
theorem gL_refused_X3_step : GoodIn wsL_refused (wsV RL 18 RX3 yX3_step wsX3_step) := goodIn_app (goodIn_of _ (by decide +kernel)) ggL_refused_X3_step
set_option maxRecDepth 20000 in
theorem ggL_refused_X3_force : GoodIn wsL_refused wsX3_force := goodIn_ca (goodIn_ca (goodIn_ca (goodIn_r _ [125, 13, 14, 29, 9, 10, 11, 7, 12, 15, 16, 17, 18, 19, 20, 21, 22, 23, 24, 30, 31, 32, 33, 34, 35, 36, 37, 38, 39, 40, 41, 42, 43, 44, 25, 26, 27, 28, 45, 46, 47, 48, 49, 50, 51, 52, 53, 54, 55, 56, 57, 58, 59, 60, 61, 62, 63, 64, 65, 66, 67, 68, 69, 70, 71, 72, 73, 74, 75, 76, 77, 78, 79, 80, 81, 82, 83, 84, 85, 86, 87, 88, 89, 90, 91, 92, 93, 94, 95, 96, 97, 98, 99, 100, 101, 102, 103, 104, 105, 106, 107, 108, 109, 110, 111, 112, 113, 114, 115, 116, 117, 118, 119, 120, 121, 176, 177, 178, 179, 180, 181, 182, 183, 184, 166, 167, 168, 169, 170, 171, 172, 173, 174, 175, 185, 186, 187, 188, 189, 190, 191] (by decide +kernel) (by decide +kernel)) (goodIn_sub (fun _ h => List.mem_cons_of_mem _ (List.mem_append_left _ (List.mem_append_left _ (List.mem_append_right _ h)))) (by decide +kernel))) (goodIn_sub (fun _ h => List.mem_cons_of_mem _ (List.mem_append_left _ (List.mem_append_right _ h))) (by decide +kernel))) (goodIn_sub (fun _ h => List.mem_cons_of_mem _ (List.mem_append_right _ h)) (by decide +kernel))
set_option maxRecDepth 20000 in
theorem gL_refused_X3_force : GoodIn wsL_refused (wsV RL 24 RX3 yX3_force wsX3_force) := goodIn_app (goodIn_of _ (by decide +kernel)) ggL_refused_X3_force
set_option maxRecDepth 20000 in
theorem ggL_refused_X3_order : GoodIn wsL_refused wsX3_order := goodIn_ca (goodIn_ca (goodIn_ca (goodIn_r _ [129, 63, 64, 13, 14, 130, 21, 131, 132, 33, 29, 50, 51, 52, 7, 53, 19, 20, 54, 22, 23, 24, 133, 134, 135, 66, 67, 68, 136, 137, 138, 139, 140, 141, 43, 121, 120, 142, 143, 144, 145, 146, 147, 44, 185, 186, 187, 176, 177, 178, 179, 180, 181, 182, 183, 184, 166, 167, 168, 169, 170, 171, 172, 173, 174, 175] (by decide +kernel) (by decide +kernel)) (goodIn_sub (fun _ h => List.mem_cons_of_mem _ (List.mem_append_right _ h)) (by decide +kernel))) (goodIn_sub (fun _ h => List.mem_cons_of_mem _ (List.mem_append_left _ (List.mem_append_left _ (List.mem_append_right _ h)))) (by decide +kernel))) (goodIn_sub (fun _ h => List.mem_cons_of_mem _ (List.mem_append_left _ (List.mem_append_right _ h))) (by decide +kernel))
set_option maxRecDepth 20000 in
theorem gL_refused_X3_order : GoodIn wsL_refused (wsV RL 27 RX3 yX3_order wsX3_order) := goodIn_app (goodIn_of _ (by decide +kernel)) ggL_refused_X3_order
set_option maxRecDepth 20000 in
theorem ggL_refused_X3_pay : GoodIn wsL_refused wsX3_pay := goodIn_ca (goodIn_ca (goodIn_ca (goodIn_r _ [151, 63, 64, 13, 14, 152, 50, 51, 52, 7, 53, 19, 20, 54, 22, 23, 24, 55, 56, 57, 58, 29, 59, 60, 61, 62, 65, 66, 67, 68, 69, 70, 71, 72, 73, 74, 75, 76, 88, 89, 90, 80, 95, 96, 97, 98, 185, 186, 187, 176, 177, 178, 179, 180, 181, 182, 183, 184, 188, 189, 190, 191] (by decide +kernel) (by decide +kernel)) (goodIn_sub (fun _ h => List.mem_cons_of_mem _ (List.mem_append_right _ h)) (by decide +kernel))) (goodIn_sub (fun _ h => List.mem_cons_of_mem _ (List.mem_append_left _ (List.mem_append_left _ (List.mem_append_right _ h)))) (by decide +kernel))) (goodIn_sub (fun _ h => List.mem_cons_of_mem _ (List.mem_append_left _ (List.mem_append_right _ h))) (by decide +kernel))
set_option maxRecDepth 20000 in
theorem gL_refused_X3_pay : GoodIn wsL_refused (wsV RL 31 RX3 yX3_pay wsX3_pay) := goodIn_app (goodIn_of _ (by decide +kernel)) ggL_refused_X3_pay
set_option maxRecDepth 20000 in
theorem ggL_refused_X3_due : GoodIn wsL_refused wsX3_due := goodIn_ca (goodIn_ca (goodIn_r _ [156, 9, 10, 11, 7, 12, 13, 14, 15, 16, 17, 18, 19, 20, 21, 22, 23, 24, 157, 40, 41, 33, 42, 43, 44, 166, 167, 168, 169, 170, 171, 172, 173, 174, 175, 176, 177, 178, 179, 180, 181, 182, 183, 184] (by decide +kernel) (by decide +kernel)) (goodIn_sub (fun _ h => List.mem_cons_of_mem _ (List.mem_append_left _ (List.mem_append_left _ (List.mem_append_right _ h)))) (by decide +kernel))) (goodIn_sub (fun _ h => List.mem_cons_of_mem _ (List.mem_append_left _ (List.mem_append_right _ h))) (by decide +kernel))
set_option maxRecDepth 20000 in
theorem gL_refused_X3_due : GoodIn wsL_refused (wsV RL 34 RX3 yX3_due wsX3_due) := goodIn_app (goodIn_of _ (by decide +kernel)) ggL_refused_X3_due
set_option maxRecDepth 20000 in
theorem ggL_refused_X3_price : GoodIn wsL_refused wsX3_price := goodIn_ca (goodIn_r _ [161, 63, 64, 29, 59, 60, 61, 7, 62, 65, 66, 67, 68, 22, 23, 24, 69, 70, 71, 72, 73, 74, 75, 76, 176, 177, 178, 179, 180, 181, 182, 183, 184, 188, 189, 190, 191] (by decide +kernel) (by decide +kernel)) (goodIn_sub (fun _ h => List.mem_cons_of_mem _ (List.mem_append_right _ h)) (by decide +kernel))
set_option maxRecDepth 20000 in
theorem gL_refused_X3_price : GoodIn wsL_refused (wsV RL 37 RX3 yX3_price wsX3_price) := goodIn_app (goodIn_of _ (by decide +kernel)) ggL_refused_X3_price
set_option maxRecDepth 20000 in
theorem ggL_refused_X3_stage : GoodIn wsL_refused wsX3_stage := goodIn_ca (goodIn_r _ [165, 15, 16, 17, 7, 18, 19, 20, 21, 22, 23, 24, 166, 167, 168, 169, 170, 171, 172, 173, 174, 175, 176, 177, 178, 179, 180, 181, 182, 183, 184] (by decide +kernel) (by decide +kernel)) (goodIn_sub (fun _ h => List.mem_cons_of_mem _ (List.mem_append_left _ (List.mem_append_right _ h))) (by decide +kernel))
set_option maxRecDepth 20000 in
theorem gL_refused_X3_stage : GoodIn wsL_refused (wsV RL 39 RX3 yX3_stage wsX3_stage) := goodIn_app (goodIn_of _ (by decide +kernel)) ggL_refused_X3_stage
theorem dL_refused_0 : decode cL_refused 0 = .ok (.iload_n 1, 1) := by decide +kernel
theorem dL_refused_1 : decode cL_refused 1 = .ok (.ifCond .ne 11, 3) := by decide +kernel
theorem dL_refused_4 : decode cL_refused 4 = .ok (.aload_n 0, 1) := by decide +kernel
theorem dL_refused_5 : decode cL_refused 5 = .ok (.iload_n 2, 1) := by decide +kernel
theorem dL_refused_6 : decode cL_refused 6 = .ok (.invokevirtual 18, 3) := by decide +kernel
theorem dL_refused_9 : decode cL_refused 9 = .ok (.goto 76, 3) := by decide +kernel
theorem dL_refused_12 : decode cL_refused 12 = .ok (.iload_n 1, 1) := by decide +kernel
theorem dL_refused_13 : decode cL_refused 13 = .ok (.iconst 1, 1) := by decide +kernel
theorem dL_refused_14 : decode cL_refused 14 = .ok (.if_icmp .ne 11, 3) := by decide +kernel
theorem dL_refused_17 : decode cL_refused 17 = .ok (.aload_n 0, 1) := by decide +kernel
theorem dL_refused_18 : decode cL_refused 18 = .ok (.iload_n 2, 1) := by decide +kernel
theorem dL_refused_19 : decode cL_refused 19 = .ok (.invokevirtual 24, 3) := by decide +kernel
theorem dL_refused_22 : decode cL_refused 22 = .ok (.goto 63, 3) := by decide +kernel
theorem dL_refused_25 : decode cL_refused 25 = .ok (.iload_n 1, 1) := by decide +kernel
theorem dL_refused_26 : decode cL_refused 26 = .ok (.iconst 2, 1) := by decide +kernel
theorem dL_refused_27 : decode cL_refused 27 = .ok (.if_icmp .ne 12, 3) := by decide +kernel
theorem dL_refused_30 : decode cL_refused 30 = .ok (.aload_n 0, 1) := by decide +kernel
theorem dL_refused_31 : decode cL_refused 31 = .ok (.iload_n 2, 1) := by decide +kernel
theorem dL_refused_32 : decode cL_refused 32 = .ok (.iload_n 3, 1) := by decide +kernel
theorem dL_refused_33 : decode cL_refused 33 = .ok (.invokevirtual 27, 3) := by decide +kernel
theorem dL_refused_36 : decode cL_refused 36 = .ok (.goto 49, 3) := by decide +kernel
theorem dL_refused_39 : decode cL_refused 39 = .ok (.iload_n 1, 1) := by decide +kernel
theorem dL_refused_40 : decode cL_refused 40 = .ok (.iconst 3, 1) := by decide +kernel
theorem dL_refused_41 : decode cL_refused 41 = .ok (.if_icmp .ne 12, 3) := by decide +kernel
theorem dL_refused_44 : decode cL_refused 44 = .ok (.aload_n 0, 1) := by decide +kernel
theorem dL_refused_45 : decode cL_refused 45 = .ok (.iload_n 2, 1) := by decide +kernel
theorem dL_refused_46 : decode cL_refused 46 = .ok (.iload_n 3, 1) := by decide +kernel
theorem dL_refused_47 : decode cL_refused 47 = .ok (.invokevirtual 31, 3) := by decide +kernel
theorem dL_refused_50 : decode cL_refused 50 = .ok (.goto 35, 3) := by decide +kernel
theorem dL_refused_53 : decode cL_refused 53 = .ok (.iload_n 1, 1) := by decide +kernel
theorem dL_refused_54 : decode cL_refused 54 = .ok (.iconst 4, 1) := by decide +kernel
theorem dL_refused_55 : decode cL_refused 55 = .ok (.if_icmp .ne 11, 3) := by decide +kernel
theorem dL_refused_58 : decode cL_refused 58 = .ok (.aload_n 0, 1) := by decide +kernel
theorem dL_refused_59 : decode cL_refused 59 = .ok (.iload_n 2, 1) := by decide +kernel
theorem dL_refused_60 : decode cL_refused 60 = .ok (.invokevirtual 34, 3) := by decide +kernel
theorem dL_refused_63 : decode cL_refused 63 = .ok (.goto 22, 3) := by decide +kernel
theorem dL_refused_66 : decode cL_refused 66 = .ok (.iload_n 1, 1) := by decide +kernel
theorem dL_refused_67 : decode cL_refused 67 = .ok (.iconst 5, 1) := by decide +kernel
theorem dL_refused_68 : decode cL_refused 68 = .ok (.if_icmp .ne 12, 3) := by decide +kernel
theorem dL_refused_71 : decode cL_refused 71 = .ok (.aload_n 0, 1) := by decide +kernel
theorem dL_refused_72 : decode cL_refused 72 = .ok (.iload_n 2, 1) := by decide +kernel
theorem dL_refused_73 : decode cL_refused 73 = .ok (.iload_n 3, 1) := by decide +kernel
theorem dL_refused_74 : decode cL_refused 74 = .ok (.invokevirtual 37, 3) := by decide +kernel
theorem dL_refused_77 : decode cL_refused 77 = .ok (.goto 8, 3) := by decide +kernel
theorem dL_refused_80 : decode cL_refused 80 = .ok (.aload_n 0, 1) := by decide +kernel
theorem dL_refused_81 : decode cL_refused 81 = .ok (.iload_n 2, 1) := by decide +kernel
theorem dL_refused_82 : decode cL_refused 82 = .ok (.invokevirtual 39, 3) := by decide +kernel
theorem dL_refused_85 : decode cL_refused 85 = .ok (.iconst 0, 1) := by decide +kernel
theorem dL_refused_86 : decode cL_refused 86 = .ok (.imul, 1) := by decide +kernel
theorem dL_refused_87 : decode cL_refused 87 = .ok (.ireturn, 1) := by decide +kernel
theorem dL_refused_88 : decode cL_refused 88 = .ok (.astore 4, 2) := by decide +kernel
theorem dL_refused_90 : decode cL_refused 90 = .ok (.iconst 1, 1) := by decide +kernel
theorem dL_refused_91 : decode cL_refused 91 = .ok (.ireturn, 1) := by decide +kernel
theorem dL_refused_92 : decode cL_refused 92 = .ok (.astore 4, 2) := by decide +kernel
theorem dL_refused_94 : decode cL_refused 94 = .ok (.iconst 2, 1) := by decide +kernel
theorem dL_refused_95 : decode cL_refused 95 = .ok (.ireturn, 1) := by decide +kernel
theorem dL_refused_96 : decode cL_refused 96 = .ok (.astore 4, 2) := by decide +kernel
theorem dL_refused_98 : decode cL_refused 98 = .ok (.iconst 3, 1) := by decide +kernel
theorem dL_refused_99 : decode cL_refused 99 = .ok (.ireturn, 1) := by decide +kernel
set_option maxRecDepth 20000 in
theorem ggL_same_X3_provider : GoodIn wsL_same wsX3_provider := goodIn_ca (goodIn_r _ [5, 6, 7, 8, 4, 9, 10, 11, 12, 13, 14, 15, 208, 209, 210, 211, 212, 213, 214, 215, 216, 217, 218, 219] (by decide +kernel) (by decide +kernel)) (goodIn_sub (fun _ h => List.mem_cons_of_mem _ (List.mem_append_left _ (List.mem_append_left _ (List.mem_append_right _ h)))) (by decide +kernel))
set_option maxRecDepth 20000 in
theorem gL_same_X3_provider : GoodIn wsL_same (wsV RL 48 RX3 yX3_provider wsX3_provider) := goodIn_app (goodIn_of _ (by decide +kernel)) ggL_same_X3_provider
set_option maxRecDepth 20000 in
theorem ggL_same_X3_units : GoodIn wsL_same wsX3_units := goodIn_ca (goodIn_r _ [19, 6, 7, 8, 4, 9, 10, 11, 12, 13, 14, 15, 208, 209, 210, 211, 212, 213, 214, 215, 216, 217, 218, 219] (by decide +kernel) (by decide +kernel)) (goodIn_sub (fun _ h => List.mem_cons_of_mem _ (List.mem_append_left _ (List.mem_append_left _ (List.mem_append_right _ h)))) (by decide +kernel))
set_option maxRecDepth 20000 in
theorem gL_same_X3_units : GoodIn wsL_same (wsV RL 51 RX3 yX3_units wsX3_units) := goodIn_app (goodIn_of _ (by decide +kernel)) ggL_same_X3_units
set_option maxRecDepth 20000 in
theorem ggL_same_X3_stage : GoodIn wsL_same wsX3_stage := goodIn_ca (goodIn_r _ [23, 24, 25, 26, 4, 27, 10, 11, 28, 13, 14, 15, 220, 221, 222, 223, 224, 225, 226, 227, 228, 229, 211, 212, 213, 214, 215, 216, 217, 218, 219] (by decide +kernel) (by decide +kernel)) (goodIn_sub (fun _ h => List.mem_cons_of_mem _ (List.mem_append_left _ (List.mem_append_left _ (List.mem_append_right _ h)))) (by decide +kernel))
set_option maxRecDepth 20000 in
theorem gL_same_X3_stage : GoodIn wsL_same (wsV RL 39 RX3 yX3_stage wsX3_stage) := goodIn_app (goodIn_of _ (by decide +kernel)) ggL_same_X3_stage
set_option maxRecDepth 20000 in
theorem ggL_same_X3_late : GoodIn wsL_same wsX3_late := goodIn_ca (goodIn_r _ [32, 24, 25, 26, 4, 27, 10, 11, 28, 13, 14, 15, 220, 221, 222, 223, 224, 225, 226, 227, 228, 229, 211, 212, 213, 214, 215, 216, 217, 218, 219] (by decide +kernel) (by decide +kernel)) (goodIn_sub (fun _ h => List.mem_cons_of_mem _ (List.mem_append_left _ (List.mem_append_left _ (List.mem_append_right _ h)))) (by decide +kernel))
set_option maxRecDepth 20000 in
theorem gL_same_X3_late : GoodIn wsL_same (wsV RL 55 RX3 yX3_late wsX3_late) := goodIn_app (goodIn_of _ (by decide +kernel)) ggL_same_X3_late
set_option maxRecDepth 20000 in
theorem ggL_same_X3_money : GoodIn wsL_same wsX3_money := goodIn_ca (goodIn_r _ [36, 24, 25, 26, 4, 27, 10, 11, 28, 13, 14, 15, 220, 221, 222, 223, 224, 225, 226, 227, 228, 229, 211, 212, 213, 214, 215, 216, 217, 218, 219] (by decide +kernel) (by decide +kernel)) (goodIn_sub (fun _ h => List.mem_cons_of_mem _ (List.mem_append_left _ (List.mem_append_left _ (List.mem_append_right _ h)))) (by decide +kernel))
set_option maxRecDepth 20000 in
theorem gL_same_X3_money : GoodIn wsL_same (wsV RL 58 RX3 yX3_money wsX3_money) := goodIn_app (goodIn_of _ (by decide +kernel)) ggL_same_X3_money
set_option maxRecDepth 20000 in
theorem ggL_same_X3_madeGood : GoodIn wsL_same wsX3_madeGood := goodIn_ca (goodIn_r _ [40, 24, 25, 26, 4, 27, 10, 11, 28, 13, 14, 15, 220, 221, 222, 223, 224, 225, 226, 227, 228, 229, 211, 212, 213, 214, 215, 216, 217, 218, 219] (by decide +kernel) (by decide +kernel)) (goodIn_sub (fun _ h => List.mem_cons_of_mem _ (List.mem_append_left _ (List.mem_append_left _ (List.mem_append_right _ h)))) (by decide +kernel))
set_option maxRecDepth 20000 in
theorem gL_same_X3_madeGood : GoodIn wsL_same (wsV RL 61 RX3 yX3_madeGood wsX3_madeGood) := goodIn_app (goodIn_of _ (by decide +kernel)) ggL_same_X3_madeGood
set_option maxRecDepth 20000 in
theorem ggL_same_L_refused : GoodIn wsL_same wsL_refused := goodIn_ca (goodIn_ca (goodIn_ca (goodIn_r _ [44, 45, 46, 47, 48, 49, 50, 4, 51, 52, 53, 54, 55, 56, 57, 24, 25, 26, 27, 10, 11, 28, 13, 14, 15, 58, 59, 60, 61, 62, 63, 64, 65, 66, 67, 68, 69, 70, 71, 72, 73, 74, 75, 76, 77, 78, 79, 80, 81, 82, 6, 7, 8, 9, 12, 83, 84, 85, 86, 87, 88, 89, 90, 91, 92, 93, 94, 95, 96, 97, 98, 99, 100, 101, 102, 103, 104, 105, 106, 107, 108, 109, 110, 111, 112, 113, 114, 115, 116, 117, 118, 119, 120, 121, 122, 123, 124, 125, 126, 127, 128, 129, 130, 131, 132, 133, 134, 135, 136, 137, 138, 139, 140, 141, 142, 143, 144, 145, 146, 147, 148, 149, 150, 151, 152, 153, 154, 155, 156, 157, 158, 159, 160, 161, 162, 163, 164, 165, 166, 167, 168, 169, 170, 171, 172, 173, 174, 175, 176, 177, 178, 179, 180, 181, 182, 183, 184, 185, 186, 187, 188, 189, 20, 21, 22, 23, 220, 221, 222, 223, 224, 225, 226, 227, 228, 229, 211, 212, 213, 214, 215, 216, 217, 218, 219, 208, 209, 210, 230, 231, 232, 233] (by decide +kernel) (by decide +kernel)) (goodIn_sub (fun _ h => List.mem_cons_of_mem _ (List.mem_append_left _ (List.mem_append_right _ h))) (by decide +kernel))) (goodIn_sub (fun _ h => List.mem_cons_of_mem _ (List.mem_append_left _ (List.mem_append_left _ (List.mem_append_right _ h)))) (by decide +kernel))) (goodIn_sub (fun _ h => List.mem_cons_of_mem _ (List.mem_append_right _ h)) (by decide +kernel))
set_option maxRecDepth 20000 in
theorem gL_same_L_refused : GoodIn wsL_same (va_wsS RL 64 yL_refused wsL_refused) := goodIn_app (goodIn_of _ (by decide +kernel)) ggL_same_L_refused
set_option maxRecDepth 20000 in
theorem ggL_same_X3_due : GoodIn wsL_same wsX3_due := goodIn_ca (goodIn_ca (goodIn_r _ [184, 52, 53, 54, 4, 55, 56, 57, 24, 25, 26, 27, 10, 11, 28, 13, 14, 15, 185, 73, 74, 66, 75, 76, 77, 220, 221, 222, 223, 224, 225, 226, 227, 228, 229, 211, 212, 213, 214, 215, 216, 217, 218, 219] (by decide +kernel) (by decide +kernel)) (goodIn_sub (fun _ h => List.mem_cons_of_mem _ (List.mem_append_left _ (List.mem_append_right _ h))) (by decide +kernel))) (goodIn_sub (fun _ h => List.mem_cons_of_mem _ (List.mem_append_left _ (List.mem_append_left _ (List.mem_append_right _ h)))) (by decide +kernel))
set_option maxRecDepth 20000 in
theorem gL_same_X3_due : GoodIn wsL_same (wsV RL 34 RX3 yX3_due wsX3_due) := goodIn_app (goodIn_of _ (by decide +kernel)) ggL_same_X3_due
set_option maxRecDepth 20000 in
theorem ggL_same_L_due : GoodIn wsL_same wsL_due := goodIn_r _ [192] (by decide +kernel) (by decide +kernel)
set_option maxRecDepth 20000 in
theorem gL_same_L_due : GoodIn wsL_same (va_wsS RL 68 yL_due wsL_due) := goodIn_app (goodIn_of _ (by decide +kernel)) ggL_same_L_due
set_option maxRecDepth 20000 in
theorem ggL_same_X3_owes : GoodIn wsL_same wsX3_owes := goodIn_ca (goodIn_r _ [196, 134, 161, 162, 4, 163, 91, 92, 94, 95, 96, 13, 14, 15, 211, 212, 213, 214, 215, 216, 217, 218, 219] (by decide +kernel) (by decide +kernel)) (goodIn_sub (fun _ h => List.mem_cons_of_mem _ (List.mem_append_right _ h)) (by decide +kernel))
set_option maxRecDepth 20000 in
theorem gL_same_X3_owes : GoodIn wsL_same (wsV RL 71 RX3 yX3_owes wsX3_owes) := goodIn_app (goodIn_of _ (by decide +kernel)) ggL_same_X3_owes
set_option maxRecDepth 20000 in
theorem ggL_same_X3_losses : GoodIn wsL_same wsX3_losses := goodIn_ca (goodIn_r _ [200, 135, 161, 162, 4, 163, 91, 92, 94, 95, 96, 13, 14, 15, 211, 212, 213, 214, 215, 216, 217, 218, 219] (by decide +kernel) (by decide +kernel)) (goodIn_sub (fun _ h => List.mem_cons_of_mem _ (List.mem_append_right _ h)) (by decide +kernel))
set_option maxRecDepth 20000 in
theorem gL_same_X3_losses : GoodIn wsL_same (wsV RL 75 RX3 yX3_losses wsX3_losses) := goodIn_app (goodIn_of _ (by decide +kernel)) ggL_same_X3_losses
set_option maxRecDepth 20000 in
theorem ggL_same_X3_price : GoodIn wsL_same wsX3_price := goodIn_ca (goodIn_r _ [189, 91, 92, 62, 87, 88, 89, 4, 90, 93, 94, 95, 96, 13, 14, 15, 97, 98, 99, 100, 101, 102, 103, 104, 211, 212, 213, 214, 215, 216, 217, 218, 219, 230, 231, 232, 233] (by decide +kernel) (by decide +kernel)) (goodIn_sub (fun _ h => List.mem_cons_of_mem _ (List.mem_append_right _ h)) (by decide +kernel))
set_option maxRecDepth 20000 in
theorem gL_same_X3_price : GoodIn wsL_same (wsV RL 37 RX3 yX3_price wsX3_price) := goodIn_app (goodIn_of _ (by decide +kernel)) ggL_same_X3_price
set_option maxRecDepth 20000 in
theorem ggL_same_L_price : GoodIn wsL_same wsL_price := goodIn_r _ [203] (by decide +kernel) (by decide +kernel)
set_option maxRecDepth 20000 in
theorem gL_same_L_price : GoodIn wsL_same (va_wsS RL 10 yL_price wsL_price) := goodIn_app (goodIn_of _ (by decide +kernel)) ggL_same_L_price
set_option maxRecDepth 20000 in
theorem ggL_same_X3_today : GoodIn wsL_same wsX3_today := goodIn_r _ [207, 62, 211, 212, 213, 214, 215, 216, 217, 218, 219] (by decide +kernel) (by decide +kernel)
set_option maxRecDepth 20000 in
theorem gL_same_X3_today : GoodIn wsL_same (wsV RL 78 RX3 yX3_today wsX3_today) := goodIn_app (goodIn_of _ (by decide +kernel)) ggL_same_X3_today
theorem dL_same_0 : decode cL_same 0 = .ok (.iconst 0, 1) := by decide +kernel
theorem dL_same_1 : decode cL_same 1 = .ok (.istore 9, 2) := by decide +kernel
theorem dL_same_3 : decode cL_same 3 = .ok (.iload 9, 2) := by decide +kernel
theorem dL_same_5 : decode cL_same 5 = .ok (.aload 7, 2) := by decide +kernel
theorem dL_same_7 : decode cL_same 7 = .ok (.iconst 1, 1) := by decide +kernel
theorem dL_same_8 : decode cL_same 8 = .ok (.iaload, 1) := by decide +kernel
theorem dL_same_9 : decode cL_same 9 = .ok (.if_icmp .ge 40, 3) := by decide +kernel
theorem dL_same_12 : decode cL_same 12 = .ok (.aload_n 0, 1) := by decide +kernel
theorem dL_same_13 : decode cL_same 13 = .ok (.iload 9, 2) := by decide +kernel
theorem dL_same_15 : decode cL_same 15 = .ok (.invokevirtual 48, 3) := by decide +kernel
theorem dL_same_18 : decode cL_same 18 = .ok (.aload_n 2, 1) := by decide +kernel
theorem dL_same_19 : decode cL_same 19 = .ok (.iconst 2, 1) := by decide +kernel
theorem dL_same_20 : decode cL_same 20 = .ok (.iload 9, 2) := by decide +kernel
theorem dL_same_22 : decode cL_same 22 = .ok (.imul, 1) := by decide +kernel
theorem dL_same_23 : decode cL_same 23 = .ok (.iaload, 1) := by decide +kernel
theorem dL_same_24 : decode cL_same 24 = .ok (.if_icmp .ne 17, 3) := by decide +kernel
theorem dL_same_27 : decode cL_same 27 = .ok (.aload_n 0, 1) := by decide +kernel
theorem dL_same_28 : decode cL_same 28 = .ok (.iload 9, 2) := by decide +kernel
theorem dL_same_30 : decode cL_same 30 = .ok (.invokevirtual 51, 3) := by decide +kernel
theorem dL_same_33 : decode cL_same 33 = .ok (.aload_n 3, 1) := by decide +kernel
theorem dL_same_34 : decode cL_same 34 = .ok (.iload 9, 2) := by decide +kernel
theorem dL_same_36 : decode cL_same 36 = .ok (.laload, 1) := by decide +kernel
theorem dL_same_37 : decode cL_same 37 = .ok (.lcmp, 1) := by decide +kernel
theorem dL_same_38 : decode cL_same 38 = .ok (.ifCond .eq 5, 3) := by decide +kernel
theorem dL_same_41 : decode cL_same 41 = .ok (.iconst 0, 1) := by decide +kernel
theorem dL_same_42 : decode cL_same 42 = .ok (.ireturn, 1) := by decide +kernel
theorem dL_same_43 : decode cL_same 43 = .ok (.iinc 9 1, 3) := by decide +kernel
theorem dL_same_46 : decode cL_same 46 = .ok (.goto (-43), 3) := by decide +kernel
theorem dL_same_49 : decode cL_same 49 = .ok (.iconst 0, 1) := by decide +kernel
theorem dL_same_50 : decode cL_same 50 = .ok (.istore 9, 2) := by decide +kernel
theorem dL_same_52 : decode cL_same 52 = .ok (.iload 9, 2) := by decide +kernel
theorem dL_same_54 : decode cL_same 54 = .ok (.aload 7, 2) := by decide +kernel
theorem dL_same_56 : decode cL_same 56 = .ok (.iconst 2, 1) := by decide +kernel
theorem dL_same_57 : decode cL_same 57 = .ok (.iaload, 1) := by decide +kernel
theorem dL_same_58 : decode cL_same 58 = .ok (.if_icmp .ge 162, 3) := by decide +kernel
theorem dL_same_61 : decode cL_same 61 = .ok (.aload 4, 2) := by decide +kernel
theorem dL_same_63 : decode cL_same 63 = .ok (.bipush 9, 2) := by decide +kernel
theorem dL_same_65 : decode cL_same 65 = .ok (.iload 9, 2) := by decide +kernel
theorem dL_same_67 : decode cL_same 67 = .ok (.imul, 1) := by decide +kernel
theorem dL_same_68 : decode cL_same 68 = .ok (.bipush 7, 2) := by decide +kernel
theorem dL_same_70 : decode cL_same 70 = .ok (.iadd, 1) := by decide +kernel
theorem dL_same_71 : decode cL_same 71 = .ok (.iaload, 1) := by decide +kernel
theorem dL_same_72 : decode cL_same 72 = .ok (.aload 4, 2) := by decide +kernel
theorem dL_same_74 : decode cL_same 74 = .ok (.bipush 9, 2) := by decide +kernel
theorem dL_same_76 : decode cL_same 76 = .ok (.iload 9, 2) := by decide +kernel
theorem dL_same_78 : decode cL_same 78 = .ok (.imul, 1) := by decide +kernel
theorem dL_same_79 : decode cL_same 79 = .ok (.bipush 8, 2) := by decide +kernel
theorem dL_same_81 : decode cL_same 81 = .ok (.iadd, 1) := by decide +kernel
theorem dL_same_82 : decode cL_same 82 = .ok (.iaload, 1) := by decide +kernel
theorem dL_same_83 : decode cL_same 83 = .ok (.iadd, 1) := by decide +kernel
theorem dL_same_84 : decode cL_same 84 = .ok (.aload 5, 2) := by decide +kernel
theorem dL_same_86 : decode cL_same 86 = .ok (.iconst 4, 1) := by decide +kernel
theorem dL_same_87 : decode cL_same 87 = .ok (.iload 9, 2) := by decide +kernel
theorem dL_same_89 : decode cL_same 89 = .ok (.imul, 1) := by decide +kernel
theorem dL_same_90 : decode cL_same 90 = .ok (.iconst 3, 1) := by decide +kernel
theorem dL_same_91 : decode cL_same 91 = .ok (.iadd, 1) := by decide +kernel
theorem dL_same_92 : decode cL_same 92 = .ok (.laload, 1) := by decide +kernel
theorem dL_same_93 : decode cL_same 93 = .ok (.l2i, 1) := by decide +kernel
theorem dL_same_94 : decode cL_same 94 = .ok (.iadd, 1) := by decide +kernel
theorem dL_same_95 : decode cL_same 95 = .ok (.istore 10, 2) := by decide +kernel
theorem dL_same_97 : decode cL_same 97 = .ok (.aload_n 0, 1) := by decide +kernel
theorem dL_same_98 : decode cL_same 98 = .ok (.iload 9, 2) := by decide +kernel
theorem dL_same_100 : decode cL_same 100 = .ok (.invokevirtual 39, 3) := by decide +kernel
theorem dL_same_103 : decode cL_same 103 = .ok (.aload 4, 2) := by decide +kernel
theorem dL_same_105 : decode cL_same 105 = .ok (.bipush 9, 2) := by decide +kernel
theorem dL_same_107 : decode cL_same 107 = .ok (.iload 9, 2) := by decide +kernel
theorem dL_same_109 : decode cL_same 109 = .ok (.imul, 1) := by decide +kernel
theorem dL_same_110 : decode cL_same 110 = .ok (.iconst 3, 1) := by decide +kernel
theorem dL_same_111 : decode cL_same 111 = .ok (.iadd, 1) := by decide +kernel
theorem dL_same_112 : decode cL_same 112 = .ok (.iaload, 1) := by decide +kernel
theorem dL_same_113 : decode cL_same 113 = .ok (.if_icmp .ne 52, 3) := by decide +kernel
theorem dL_same_116 : decode cL_same 116 = .ok (.aload_n 0, 1) := by decide +kernel
theorem dL_same_117 : decode cL_same 117 = .ok (.iload 9, 2) := by decide +kernel
theorem dL_same_119 : decode cL_same 119 = .ok (.invokevirtual 55, 3) := by decide +kernel
theorem dL_same_122 : decode cL_same 122 = .ok (.iload 10, 2) := by decide +kernel
theorem dL_same_124 : decode cL_same 124 = .ok (.if_icmp .ne 41, 3) := by decide +kernel
theorem dL_same_127 : decode cL_same 127 = .ok (.aload_n 0, 1) := by decide +kernel
theorem dL_same_128 : decode cL_same 128 = .ok (.iload 9, 2) := by decide +kernel
theorem dL_same_130 : decode cL_same 130 = .ok (.invokevirtual 58, 3) := by decide +kernel
theorem dL_same_133 : decode cL_same 133 = .ok (.aload 5, 2) := by decide +kernel
theorem dL_same_135 : decode cL_same 135 = .ok (.iconst 4, 1) := by decide +kernel
theorem dL_same_136 : decode cL_same 136 = .ok (.iload 9, 2) := by decide +kernel
theorem dL_same_138 : decode cL_same 138 = .ok (.imul, 1) := by decide +kernel
theorem dL_same_139 : decode cL_same 139 = .ok (.iconst 1, 1) := by decide +kernel
theorem dL_same_140 : decode cL_same 140 = .ok (.iadd, 1) := by decide +kernel
theorem dL_same_141 : decode cL_same 141 = .ok (.laload, 1) := by decide +kernel
theorem dL_same_142 : decode cL_same 142 = .ok (.lcmp, 1) := by decide +kernel
theorem dL_same_143 : decode cL_same 143 = .ok (.ifCond .ne 22, 3) := by decide +kernel
theorem dL_same_146 : decode cL_same 146 = .ok (.aload_n 0, 1) := by decide +kernel
theorem dL_same_147 : decode cL_same 147 = .ok (.iload 9, 2) := by decide +kernel
theorem dL_same_149 : decode cL_same 149 = .ok (.invokevirtual 61, 3) := by decide +kernel
theorem dL_same_152 : decode cL_same 152 = .ok (.aload 5, 2) := by decide +kernel
theorem dL_same_154 : decode cL_same 154 = .ok (.iconst 4, 1) := by decide +kernel
theorem dL_same_155 : decode cL_same 155 = .ok (.iload 9, 2) := by decide +kernel
theorem dL_same_157 : decode cL_same 157 = .ok (.imul, 1) := by decide +kernel
theorem dL_same_158 : decode cL_same 158 = .ok (.iconst 2, 1) := by decide +kernel
theorem dL_same_159 : decode cL_same 159 = .ok (.iadd, 1) := by decide +kernel
theorem dL_same_160 : decode cL_same 160 = .ok (.laload, 1) := by decide +kernel
theorem dL_same_161 : decode cL_same 161 = .ok (.lcmp, 1) := by decide +kernel
theorem dL_same_162 : decode cL_same 162 = .ok (.ifCond .eq 5, 3) := by decide +kernel
theorem dL_same_165 : decode cL_same 165 = .ok (.iconst 0, 1) := by decide +kernel
theorem dL_same_166 : decode cL_same 166 = .ok (.ireturn, 1) := by decide +kernel
theorem dL_same_167 : decode cL_same 167 = .ok (.aload 4, 2) := by decide +kernel
theorem dL_same_169 : decode cL_same 169 = .ok (.bipush 9, 2) := by decide +kernel
theorem dL_same_171 : decode cL_same 171 = .ok (.iload 9, 2) := by decide +kernel
theorem dL_same_173 : decode cL_same 173 = .ok (.imul, 1) := by decide +kernel
theorem dL_same_174 : decode cL_same 174 = .ok (.iconst 3, 1) := by decide +kernel
theorem dL_same_175 : decode cL_same 175 = .ok (.iadd, 1) := by decide +kernel
theorem dL_same_176 : decode cL_same 176 = .ok (.iaload, 1) := by decide +kernel
theorem dL_same_177 : decode cL_same 177 = .ok (.iconst 3, 1) := by decide +kernel
theorem dL_same_178 : decode cL_same 178 = .ok (.if_icmp .ne 18, 3) := by decide +kernel
theorem dL_same_181 : decode cL_same 181 = .ok (.aload_n 0, 1) := by decide +kernel
theorem dL_same_182 : decode cL_same 182 = .ok (.iconst 4, 1) := by decide +kernel
theorem dL_same_183 : decode cL_same 183 = .ok (.iload 9, 2) := by decide +kernel
theorem dL_same_185 : decode cL_same 185 = .ok (.iconst 0, 1) := by decide +kernel
theorem dL_same_186 : decode cL_same 186 = .ok (.invokestatic 64, 3) := by decide +kernel
theorem dL_same_189 : decode cL_same 189 = .ok (.iconst 3, 1) := by decide +kernel
theorem dL_same_190 : decode cL_same 190 = .ok (.if_icmp .eq 24, 3) := by decide +kernel
theorem dL_same_193 : decode cL_same 193 = .ok (.goto 19, 3) := by decide +kernel
theorem dL_same_196 : decode cL_same 196 = .ok (.aload_n 0, 1) := by decide +kernel
theorem dL_same_197 : decode cL_same 197 = .ok (.iload 9, 2) := by decide +kernel
theorem dL_same_199 : decode cL_same 199 = .ok (.invokevirtual 34, 3) := by decide +kernel
theorem dL_same_202 : decode cL_same 202 = .ok (.aload 4, 2) := by decide +kernel
theorem dL_same_204 : decode cL_same 204 = .ok (.iload 9, 2) := by decide +kernel
theorem dL_same_206 : decode cL_same 206 = .ok (.invokestatic 68, 3) := by decide +kernel
theorem dL_same_209 : decode cL_same 209 = .ok (.if_icmp .eq 5, 3) := by decide +kernel
theorem dL_same_212 : decode cL_same 212 = .ok (.iconst 0, 1) := by decide +kernel
theorem dL_same_213 : decode cL_same 213 = .ok (.ireturn, 1) := by decide +kernel
theorem dL_same_214 : decode cL_same 214 = .ok (.iinc 9 1, 3) := by decide +kernel
theorem dL_same_217 : decode cL_same 217 = .ok (.goto (-165), 3) := by decide +kernel
theorem dL_same_220 : decode cL_same 220 = .ok (.iconst 0, 1) := by decide +kernel
theorem dL_same_221 : decode cL_same 221 = .ok (.istore 9, 2) := by decide +kernel
theorem dL_same_223 : decode cL_same 223 = .ok (.iload 9, 2) := by decide +kernel
theorem dL_same_225 : decode cL_same 225 = .ok (.bipush 25, 2) := by decide +kernel
theorem dL_same_227 : decode cL_same 227 = .ok (.if_icmp .ge 47, 3) := by decide +kernel
theorem dL_same_230 : decode cL_same 230 = .ok (.aload_n 0, 1) := by decide +kernel
theorem dL_same_231 : decode cL_same 231 = .ok (.iload 9, 2) := by decide +kernel
theorem dL_same_233 : decode cL_same 233 = .ok (.iconst 5, 1) := by decide +kernel
theorem dL_same_234 : decode cL_same 234 = .ok (.idiv, 1) := by decide +kernel
theorem dL_same_235 : decode cL_same 235 = .ok (.iload 9, 2) := by decide +kernel
theorem dL_same_237 : decode cL_same 237 = .ok (.iconst 5, 1) := by decide +kernel
theorem dL_same_238 : decode cL_same 238 = .ok (.irem, 1) := by decide +kernel
theorem dL_same_239 : decode cL_same 239 = .ok (.invokevirtual 71, 3) := by decide +kernel
theorem dL_same_242 : decode cL_same 242 = .ok (.aload 6, 2) := by decide +kernel
theorem dL_same_244 : decode cL_same 244 = .ok (.iload 9, 2) := by decide +kernel
theorem dL_same_246 : decode cL_same 246 = .ok (.laload, 1) := by decide +kernel
theorem dL_same_247 : decode cL_same 247 = .ok (.aload 6, 2) := by decide +kernel
theorem dL_same_249 : decode cL_same 249 = .ok (.iload 9, 2) := by decide +kernel
theorem dL_same_251 : decode cL_same 251 = .ok (.iconst 5, 1) := by decide +kernel
theorem dL_same_252 : decode cL_same 252 = .ok (.irem, 1) := by decide +kernel
theorem dL_same_253 : decode cL_same 253 = .ok (.iconst 5, 1) := by decide +kernel
theorem dL_same_254 : decode cL_same 254 = .ok (.imul, 1) := by decide +kernel
theorem dL_same_255 : decode cL_same 255 = .ok (.iload 9, 2) := by decide +kernel
theorem dL_same_257 : decode cL_same 257 = .ok (.iconst 5, 1) := by decide +kernel
theorem dL_same_258 : decode cL_same 258 = .ok (.idiv, 1) := by decide +kernel
theorem dL_same_259 : decode cL_same 259 = .ok (.iadd, 1) := by decide +kernel
theorem dL_same_260 : decode cL_same 260 = .ok (.laload, 1) := by decide +kernel
theorem dL_same_261 : decode cL_same 261 = .ok (.lsub, 1) := by decide +kernel
theorem dL_same_262 : decode cL_same 262 = .ok (.lcmp, 1) := by decide +kernel
theorem dL_same_263 : decode cL_same 263 = .ok (.ifCond .eq 5, 3) := by decide +kernel
theorem dL_same_266 : decode cL_same 266 = .ok (.iconst 0, 1) := by decide +kernel
theorem dL_same_267 : decode cL_same 267 = .ok (.ireturn, 1) := by decide +kernel
theorem dL_same_268 : decode cL_same 268 = .ok (.iinc 9 1, 3) := by decide +kernel
theorem dL_same_271 : decode cL_same 271 = .ok (.goto (-48), 3) := by decide +kernel
theorem dL_same_274 : decode cL_same 274 = .ok (.iconst 0, 1) := by decide +kernel
theorem dL_same_275 : decode cL_same 275 = .ok (.istore 9, 2) := by decide +kernel
theorem dL_same_277 : decode cL_same 277 = .ok (.iload 9, 2) := by decide +kernel
theorem dL_same_279 : decode cL_same 279 = .ok (.iconst 5, 1) := by decide +kernel
theorem dL_same_280 : decode cL_same 280 = .ok (.if_icmp .ge 48, 3) := by decide +kernel
theorem dL_same_283 : decode cL_same 283 = .ok (.aload_n 0, 1) := by decide +kernel
theorem dL_same_284 : decode cL_same 284 = .ok (.iload 9, 2) := by decide +kernel
theorem dL_same_286 : decode cL_same 286 = .ok (.invokevirtual 75, 3) := by decide +kernel
theorem dL_same_289 : decode cL_same 289 = .ok (.aload 6, 2) := by decide +kernel
theorem dL_same_291 : decode cL_same 291 = .ok (.bipush 25, 2) := by decide +kernel
theorem dL_same_293 : decode cL_same 293 = .ok (.iload 9, 2) := by decide +kernel
theorem dL_same_295 : decode cL_same 295 = .ok (.iadd, 1) := by decide +kernel
theorem dL_same_296 : decode cL_same 296 = .ok (.laload, 1) := by decide +kernel
theorem dL_same_297 : decode cL_same 297 = .ok (.lcmp, 1) := by decide +kernel
theorem dL_same_298 : decode cL_same 298 = .ok (.ifCond .ne 22, 3) := by decide +kernel
theorem dL_same_301 : decode cL_same 301 = .ok (.aload_n 0, 1) := by decide +kernel
theorem dL_same_302 : decode cL_same 302 = .ok (.iload 9, 2) := by decide +kernel
theorem dL_same_304 : decode cL_same 304 = .ok (.iload 8, 2) := by decide +kernel
theorem dL_same_306 : decode cL_same 306 = .ok (.invokevirtual 37, 3) := by decide +kernel
theorem dL_same_309 : decode cL_same 309 = .ok (.aload_n 1, 1) := by decide +kernel
theorem dL_same_310 : decode cL_same 310 = .ok (.iload 9, 2) := by decide +kernel
theorem dL_same_312 : decode cL_same 312 = .ok (.iload 8, 2) := by decide +kernel
theorem dL_same_314 : decode cL_same 314 = .ok (.invokestatic 10, 3) := by decide +kernel
theorem dL_same_317 : decode cL_same 317 = .ok (.if_icmp .eq 5, 3) := by decide +kernel
theorem dL_same_320 : decode cL_same 320 = .ok (.iconst 0, 1) := by decide +kernel
theorem dL_same_321 : decode cL_same 321 = .ok (.ireturn, 1) := by decide +kernel
theorem dL_same_322 : decode cL_same 322 = .ok (.iinc 9 1, 3) := by decide +kernel
theorem dL_same_325 : decode cL_same 325 = .ok (.goto (-48), 3) := by decide +kernel
theorem dL_same_328 : decode cL_same 328 = .ok (.aload_n 0, 1) := by decide +kernel
theorem dL_same_329 : decode cL_same 329 = .ok (.invokevirtual 78, 3) := by decide +kernel
theorem dL_same_332 : decode cL_same 332 = .ok (.aload 7, 2) := by decide +kernel
theorem dL_same_334 : decode cL_same 334 = .ok (.iconst 3, 1) := by decide +kernel
theorem dL_same_335 : decode cL_same 335 = .ok (.iaload, 1) := by decide +kernel
theorem dL_same_336 : decode cL_same 336 = .ok (.if_icmp .ne 38, 3) := by decide +kernel
theorem dL_same_339 : decode cL_same 339 = .ok (.aload_n 0, 1) := by decide +kernel
theorem dL_same_340 : decode cL_same 340 = .ok (.bipush 6, 2) := by decide +kernel
theorem dL_same_342 : decode cL_same 342 = .ok (.aload 7, 2) := by decide +kernel
theorem dL_same_344 : decode cL_same 344 = .ok (.iconst 2, 1) := by decide +kernel
theorem dL_same_345 : decode cL_same 345 = .ok (.iaload, 1) := by decide +kernel
theorem dL_same_346 : decode cL_same 346 = .ok (.iconst 0, 1) := by decide +kernel
theorem dL_same_347 : decode cL_same 347 = .ok (.invokestatic 64, 3) := by decide +kernel
theorem dL_same_350 : decode cL_same 350 = .ok (.iconst 1, 1) := by decide +kernel
theorem dL_same_351 : decode cL_same 351 = .ok (.if_icmp .ne 23, 3) := by decide +kernel
theorem dL_same_354 : decode cL_same 354 = .ok (.aload_n 0, 1) := by decide +kernel
theorem dL_same_355 : decode cL_same 355 = .ok (.iconst 5, 1) := by decide +kernel
theorem dL_same_356 : decode cL_same 356 = .ok (.iconst 0, 1) := by decide +kernel
theorem dL_same_357 : decode cL_same 357 = .ok (.aload 7, 2) := by decide +kernel
theorem dL_same_359 : decode cL_same 359 = .ok (.iconst 3, 1) := by decide +kernel
theorem dL_same_360 : decode cL_same 360 = .ok (.iaload, 1) := by decide +kernel
theorem dL_same_361 : decode cL_same 361 = .ok (.iconst 1, 1) := by decide +kernel
theorem dL_same_362 : decode cL_same 362 = .ok (.iadd, 1) := by decide +kernel
theorem dL_same_363 : decode cL_same 363 = .ok (.invokestatic 64, 3) := by decide +kernel
theorem dL_same_366 : decode cL_same 366 = .ok (.iconst 2, 1) := by decide +kernel
theorem dL_same_367 : decode cL_same 367 = .ok (.if_icmp .ne 7, 3) := by decide +kernel
theorem dL_same_370 : decode cL_same 370 = .ok (.iconst 1, 1) := by decide +kernel
theorem dL_same_371 : decode cL_same 371 = .ok (.goto 4, 3) := by decide +kernel
theorem dL_same_374 : decode cL_same 374 = .ok (.iconst 0, 1) := by decide +kernel
theorem dL_same_375 : decode cL_same 375 = .ok (.ireturn, 1) := by decide +kernel
set_option maxRecDepth 20000 in
theorem ggL_law_X3_init : GoodIn wsL_law wsX3_init := goodIn_r _ [11, 12, 13, 14, 15, 16, 17, 4, 18, 19, 20, 21, 22, 23, 24, 25, 26, 27, 28, 29, 30, 31, 32, 33, 3, 34, 35, 36, 37, 275, 276, 277, 278, 279, 280, 281, 282, 283, 284, 285, 286, 287] (by decide +kernel) (by decide +kernel)
set_option maxRecDepth 20000 in
theorem gL_law_X3_init : GoodIn wsL_law (wsX3_init) := ggL_law_X3_init
set_option maxRecDepth 20000 in
theorem ggL_law_L_cell : GoodIn wsL_law wsL_cell := goodIn_r _ [41, 42, 43] (by decide +kernel) (by decide +kernel)
set_option maxRecDepth 20000 in
theorem gL_law_L_cell : GoodIn wsL_law (va_wsS RL 83 yL_cell wsL_cell) := goodIn_app (goodIn_of _ (by decide +kernel)) ggL_law_L_cell
set_option maxRecDepth 20000 in
theorem ggL_law_L_low : GoodIn wsL_law wsL_low := goodIn_r _ [46, 47] (by decide +kernel) (by decide +kernel)
set_option maxRecDepth 20000 in
theorem gL_law_L_low : GoodIn wsL_law (va_wsS RL 86 yL_low wsL_low) := goodIn_app (goodIn_of _ (by decide +kernel)) ggL_law_L_low
set_option maxRecDepth 20000 in
theorem ggL_law_L_price : GoodIn wsL_law wsL_price := goodIn_r _ [50] (by decide +kernel) (by decide +kernel)
set_option maxRecDepth 20000 in
theorem gL_law_L_price : GoodIn wsL_law (va_wsS RL 10 yL_price wsL_price) := goodIn_app (goodIn_of _ (by decide +kernel)) ggL_law_L_price
set_option maxRecDepth 20000 in
theorem ggL_law_X3_setPrice : GoodIn wsL_law wsX3_setPrice := goodIn_ca (goodIn_ca (goodIn_r _ [54, 55, 56, 24, 57, 58, 59, 2, 60, 61, 62, 16, 63, 64, 65, 66, 67, 68, 69, 70, 71, 72, 73, 74, 29, 75, 36, 34, 35, 76, 77, 78, 79, 37, 275, 276, 277, 278, 279, 280, 281, 282, 283, 284, 285, 286, 287] (by decide +kernel) (by decide +kernel)) (goodIn_sub (fun _ h => List.mem_append_left _ (List.mem_append_left _ (List.mem_append_right _ h))) (by decide +kernel))) (goodIn_sub (fun _ h => List.mem_append_left _ (List.mem_append_right _ h)) (by decide +kernel))
set_option maxRecDepth 20000 in
theorem gL_law_X3_setPrice : GoodIn wsL_law (wsV RL 89 RX3 yX3_setPrice wsX3_setPrice) := goodIn_app (goodIn_of _ (by decide +kernel)) ggL_law_X3_setPrice
set_option maxRecDepth 20000 in
theorem ggL_law_X3_setDefault : GoodIn wsL_law wsX3_setDefault := goodIn_ca (goodIn_r _ [83, 25, 69, 70, 2, 71, 61, 62, 66, 67, 68, 275, 276, 277, 278, 279, 280, 281, 282, 283] (by decide +kernel) (by decide +kernel)) (goodIn_sub (fun _ h => List.mem_append_left _ (List.mem_append_right _ h)) (by decide +kernel))
set_option maxRecDepth 20000 in
theorem gL_law_X3_setDefault : GoodIn wsL_law (wsV RL 92 RX3 yX3_setDefault wsX3_setDefault) := goodIn_app (goodIn_of _ (by decide +kernel)) ggL_law_X3_setDefault
set_option maxRecDepth 20000 in
theorem ggL_law_X3_begin : GoodIn wsL_law wsX3_begin := goodIn_ca (goodIn_ca (goodIn_r _ [87, 61, 62, 55, 56, 88, 26, 21, 20, 89, 90, 24, 57, 58, 59, 2, 60, 16, 63, 64, 65, 66, 67, 68, 72, 73, 74, 29, 75, 36, 34, 35, 91, 92, 93, 94, 95, 96, 97, 98, 13, 14, 99, 100, 101, 275, 276, 277, 278, 279, 280, 281, 282, 283, 288, 289, 290, 284, 285, 286, 287] (by decide +kernel) (by decide +kernel)) (goodIn_sub (fun _ h => List.mem_append_left _ (List.mem_append_right _ h)) (by decide +kernel))) (goodIn_sub (fun _ h => List.mem_append_left _ (List.mem_append_left _ (List.mem_append_right _ h))) (by decide +kernel))
set_option maxRecDepth 20000 in
theorem gL_law_X3_begin : GoodIn wsL_law (wsV RL 96 RX3 yX3_begin wsX3_begin) := goodIn_app (goodIn_of _ (by decide +kernel)) ggL_law_X3_begin
set_option maxRecDepth 20000 in
theorem ggL_law_L_refused : GoodIn wsL_law wsL_refused := goodIn_ca (goodIn_ca (goodIn_ca (goodIn_r _ [104, 105, 106, 107, 108, 109, 110, 2, 111, 112, 113, 114, 115, 55, 56, 116, 117, 118, 119, 120, 121, 23, 66, 67, 68, 122, 123, 124, 125, 24, 126, 127, 128, 129, 130, 131, 132, 133, 134, 135, 136, 137, 138, 139, 140, 141, 142, 143, 144, 25, 145, 146, 147, 148, 21, 149, 150, 151, 152, 57, 58, 59, 60, 61, 62, 16, 63, 64, 65, 72, 73, 74, 29, 75, 36, 34, 35, 153, 154, 155, 94, 156, 157, 158, 159, 160, 161, 162, 91, 92, 93, 163, 164, 165, 166, 167, 168, 169, 170, 171, 172, 173, 174, 175, 176, 177, 18, 19, 178, 179, 180, 90, 181, 100, 101, 99, 182, 183, 184, 185, 186, 187, 188, 189, 190, 191, 192, 193, 194, 195, 27, 22, 196, 197, 198, 199, 200, 201, 202, 203, 13, 14, 204, 205, 206, 207, 208, 209, 210, 211, 212, 213, 88, 214, 215, 216, 217, 218, 219, 220, 221, 222, 223, 224, 225, 226, 291, 292, 293, 294, 295, 296, 297, 298, 299, 300, 275, 276, 277, 278, 279, 280, 281, 282, 283, 288, 289, 290, 284, 285, 286, 287] (by decide +kernel) (by decide +kernel)) (goodIn_sub (fun _ h => List.mem_append_left _ (List.mem_append_left _ (List.mem_append_right _ h))) (by decide +kernel))) (goodIn_sub (fun _ h => List.mem_append_right _ h) (by decide +kernel))) (goodIn_sub (fun _ h => List.mem_append_left _ (List.mem_append_right _ h)) (by decide +kernel))
set_option maxRecDepth 20000 in
theorem gL_law_L_refused : GoodIn wsL_law (va_wsS RL 64 yL_refused wsL_refused) := goodIn_app (goodIn_of _ (by decide +kernel)) ggL_law_L_refused
set_option maxRecDepth 20000 in
theorem ggL_law_X3_pay : GoodIn wsL_law wsX3_pay := goodIn_ca (goodIn_ca (goodIn_ca (goodIn_r _ [213, 61, 62, 55, 56, 88, 145, 146, 147, 2, 148, 120, 121, 21, 66, 67, 68, 149, 150, 151, 152, 24, 57, 58, 59, 60, 16, 63, 64, 65, 72, 73, 74, 29, 75, 36, 34, 35, 91, 92, 93, 94, 167, 168, 169, 170, 288, 289, 290, 275, 276, 277, 278, 279, 280, 281, 282, 283, 284, 285, 286, 287] (by decide +kernel) (by decide +kernel)) (goodIn_sub (fun _ h => List.mem_append_left _ (List.mem_append_right _ h)) (by decide +kernel))) (goodIn_sub (fun _ h => List.mem_append_left _ (List.mem_append_left _ (List.mem_append_right _ h))) (by decide +kernel))) (goodIn_sub (fun _ h => List.mem_append_right _ h) (by decide +kernel))
set_option maxRecDepth 20000 in
theorem gL_law_X3_pay : GoodIn wsL_law (wsV RL 31 RX3 yX3_pay wsX3_pay) := goodIn_app (goodIn_of _ (by decide +kernel)) ggL_law_X3_pay
set_option maxRecDepth 20000 in
theorem ggL_law_X3_order : GoodIn wsL_law wsX3_order := goodIn_ca (goodIn_ca (goodIn_ca (goodIn_r _ [195, 61, 62, 55, 56, 27, 23, 22, 196, 129, 24, 145, 146, 147, 2, 148, 120, 121, 21, 66, 67, 68, 197, 198, 199, 63, 64, 65, 200, 201, 202, 203, 13, 14, 139, 187, 186, 204, 205, 206, 207, 208, 209, 140, 288, 289, 290, 275, 276, 277, 278, 279, 280, 281, 282, 283, 291, 292, 293, 294, 295, 296, 297, 298, 299, 300] (by decide +kernel) (by decide +kernel)) (goodIn_sub (fun _ h => List.mem_append_left _ (List.mem_append_right _ h)) (by decide +kernel))) (goodIn_sub (fun _ h => List.mem_append_left _ (List.mem_append_left _ (List.mem_append_right _ h))) (by decide +kernel))) (goodIn_sub (fun _ h => List.mem_append_right _ h) (by decide +kernel))
set_option maxRecDepth 20000 in
theorem gL_law_X3_order : GoodIn wsL_law (wsV RL 27 RX3 yX3_order wsX3_order) := goodIn_app (goodIn_of _ (by decide +kernel)) ggL_law_X3_order
set_option maxRecDepth 20000 in
theorem ggL_law_L_due : GoodIn wsL_law wsL_due := goodIn_r _ [229] (by decide +kernel) (by decide +kernel)
set_option maxRecDepth 20000 in
theorem gL_law_L_due : GoodIn wsL_law (va_wsS RL 68 yL_due wsL_due) := goodIn_app (goodIn_of _ (by decide +kernel)) ggL_law_L_due
set_option maxRecDepth 20000 in
theorem ggL_law_L_timely : GoodIn wsL_law wsL_timely := goodIn_r _ [232, 6, 48, 49, 40, 50] (by decide +kernel) (by decide +kernel)
set_option maxRecDepth 20000 in
theorem gL_law_L_timely : GoodIn wsL_law (va_wsS RL 102 yL_timely wsL_timely) := goodIn_app (goodIn_of _ (by decide +kernel)) ggL_law_L_timely
set_option maxRecDepth 20000 in
theorem ggL_law_L_up : GoodIn wsL_law wsL_up := goodIn_r _ [235] (by decide +kernel) (by decide +kernel)
set_option maxRecDepth 20000 in
theorem gL_law_L_up : GoodIn wsL_law (va_wsS RL 106 yL_up wsL_up) := goodIn_app (goodIn_of _ (by decide +kernel)) ggL_law_L_up
set_option maxRecDepth 20000 in
theorem ggL_law_X3_force : GoodIn wsL_law wsX3_force := goodIn_ca (goodIn_ca (goodIn_ca (goodIn_r _ [191, 55, 56, 24, 112, 113, 114, 2, 115, 116, 117, 118, 119, 120, 121, 23, 66, 67, 68, 126, 127, 128, 129, 130, 131, 132, 133, 134, 135, 136, 137, 138, 139, 140, 122, 123, 124, 125, 141, 142, 143, 144, 25, 145, 146, 147, 148, 21, 149, 150, 151, 152, 57, 58, 59, 60, 61, 62, 16, 63, 64, 65, 72, 73, 74, 29, 75, 36, 34, 35, 153, 154, 155, 94, 156, 157, 158, 159, 160, 161, 162, 91, 92, 93, 163, 164, 165, 166, 167, 168, 169, 170, 171, 172, 173, 174, 175, 176, 177, 18, 19, 178, 179, 180, 90, 181, 100, 101, 99, 182, 183, 184, 185, 186, 187, 275, 276, 277, 278, 279, 280, 281, 282, 283, 291, 292, 293, 294, 295, 296, 297, 298, 299, 300, 288, 289, 290, 284, 285, 286, 287] (by decide +kernel) (by decide +kernel)) (goodIn_sub (fun _ h => List.mem_append_left _ (List.mem_append_left _ (List.mem_append_right _ h))) (by decide +kernel))) (goodIn_sub (fun _ h => List.mem_append_right _ h) (by decide +kernel))) (goodIn_sub (fun _ h => List.mem_append_left _ (List.mem_append_right _ h)) (by decide +kernel))
set_option maxRecDepth 20000 in
theorem gL_law_X3_force : GoodIn wsL_law (wsV RL 24 RX3 yX3_force wsX3_force) := goodIn_app (goodIn_of _ (by decide +kernel)) ggL_law_X3_force
set_option maxRecDepth 20000 in
theorem ggL_law_X3_step : GoodIn wsL_law wsX3_step := goodIn_ca (goodIn_ca (goodIn_ca (goodIn_r _ [111, 112, 113, 114, 2, 115, 55, 56, 116, 117, 118, 119, 120, 121, 23, 66, 67, 68, 122, 123, 124, 125, 24, 126, 127, 128, 129, 130, 131, 132, 133, 134, 135, 136, 137, 138, 139, 140, 141, 142, 143, 144, 25, 145, 146, 147, 148, 21, 149, 150, 151, 152, 57, 58, 59, 60, 61, 62, 16, 63, 64, 65, 72, 73, 74, 29, 75, 36, 34, 35, 153, 154, 155, 94, 156, 157, 158, 159, 160, 161, 162, 91, 92, 93, 163, 164, 165, 166, 167, 168, 169, 170, 171, 172, 173, 174, 175, 176, 177, 18, 19, 178, 179, 180, 90, 181, 100, 101, 99, 182, 183, 184, 185, 186, 187, 291, 292, 293, 294, 295, 296, 297, 298, 299, 300, 275, 276, 277, 278, 279, 280, 281, 282, 283, 288, 289, 290, 284, 285, 286, 287] (by decide +kernel) (by decide +kernel)) (goodIn_sub (fun _ h => List.mem_append_left _ (List.mem_append_left _ (List.mem_append_right _ h))) (by decide +kernel))) (goodIn_sub (fun _ h => List.mem_append_right _ h) (by decide +kernel))) (goodIn_sub (fun _ h => List.mem_append_left _ (List.mem_append_right _ h)) (by decide +kernel))
set_option maxRecDepth 20000 in
theorem gL_law_X3_step : GoodIn wsL_law (wsV RL 18 RX3 yX3_step wsX3_step) := goodIn_app (goodIn_of _ (by decide +kernel)) ggL_law_X3_step
set_option maxRecDepth 20000 in
theorem ggL_law_X3_pass : GoodIn wsL_law wsX3_pass := goodIn_ca (goodIn_ca (goodIn_r _ [239, 61, 62, 55, 56, 24, 66, 67, 2, 68, 275, 276, 277, 278, 279, 280, 281, 282, 283] (by decide +kernel) (by decide +kernel)) (goodIn_sub (fun _ h => List.mem_append_left _ (List.mem_append_right _ h)) (by decide +kernel))) (goodIn_sub (fun _ h => List.mem_append_left _ (List.mem_append_left _ (List.mem_append_right _ h))) (by decide +kernel))
set_option maxRecDepth 20000 in
theorem gL_law_X3_pass : GoodIn wsL_law (wsV RL 110 RX3 yX3_pass wsX3_pass) := goodIn_app (goodIn_of _ (by decide +kernel)) ggL_law_X3_pass
set_option maxRecDepth 20000 in
theorem ggL_law_L_same : GoodIn wsL_law wsL_same := goodIn_ca (goodIn_ca (goodIn_ca (goodIn_r _ [242, 243, 244, 245, 2, 246, 145, 146, 147, 148, 120, 121, 21, 66, 67, 68, 247, 248, 249, 250, 223, 224, 225, 226, 116, 117, 118, 119, 23, 251, 252, 253, 254, 255, 256, 257, 258, 259, 260, 261, 262, 102, 103, 40, 104, 105, 106, 107, 108, 109, 110, 111, 112, 113, 114, 115, 55, 56, 122, 123, 124, 125, 24, 126, 127, 128, 129, 130, 131, 132, 133, 134, 135, 136, 137, 138, 139, 140, 141, 142, 143, 144, 25, 149, 150, 151, 152, 57, 58, 59, 60, 61, 62, 16, 63, 64, 65, 72, 73, 74, 29, 75, 36, 34, 35, 153, 154, 155, 94, 156, 157, 158, 159, 160, 161, 162, 91, 92, 93, 163, 164, 165, 166, 167, 168, 169, 170, 171, 172, 173, 174, 175, 176, 177, 18, 19, 178, 179, 180, 90, 181, 100, 101, 99, 182, 183, 184, 185, 186, 187, 188, 189, 190, 191, 192, 193, 194, 195, 27, 22, 196, 197, 198, 199, 200, 201, 202, 203, 13, 14, 204, 205, 206, 207, 208, 209, 210, 211, 212, 213, 88, 214, 215, 216, 217, 218, 219, 220, 221, 222, 227, 228, 229, 263, 264, 265, 266, 267, 268, 269, 270, 48, 49, 50, 271, 272, 273, 274, 288, 289, 290, 275, 276, 277, 278, 279, 280, 281, 282, 283, 291, 292, 293, 294, 295, 296, 297, 298, 299, 300, 284, 285, 286, 287] (by decide +kernel) (by decide +kernel)) (goodIn_sub (fun _ h => List.mem_append_right _ h) (by decide +kernel))) (goodIn_sub (fun _ h => List.mem_append_left _ (List.mem_append_left _ (List.mem_append_right _ h))) (by decide +kernel))) (goodIn_sub (fun _ h => List.mem_append_left _ (List.mem_append_right _ h)) (by decide +kernel))
set_option maxRecDepth 20000 in
theorem gL_law_L_same : GoodIn wsL_law (va_wsS RL 113 yL_same wsL_same) := goodIn_app (goodIn_of _ (by decide +kernel)) ggL_law_L_same
