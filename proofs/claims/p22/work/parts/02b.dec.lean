theorem dX0_init_0 : decode cX0_init 0 = .ok (.aload_n 0, 1) := by decide +kernel
theorem dX0_init_1 : decode cX0_init 1 = .ok (.invokespecial 3, 3) := by decide +kernel
theorem dX0_init_4 : decode cX0_init 4 = .ok (.aload_n 0, 1) := by decide +kernel
theorem dX0_init_5 : decode cX0_init 5 = .ok (.iconst 0, 1) := by decide +kernel
theorem dX0_init_6 : decode cX0_init 6 = .ok (.putfield 9, 3) := by decide +kernel
theorem dX0_init_9 : decode cX0_init 9 = .ok (.aload_n 0, 1) := by decide +kernel
theorem dX0_init_10 : decode cX0_init 10 = .ok (.iconst 0, 1) := by decide +kernel
theorem dX0_init_11 : decode cX0_init 11 = .ok (.putfield 15, 3) := by decide +kernel
theorem dX0_init_14 : decode cX0_init 14 = .ok (.aload_n 0, 1) := by decide +kernel
theorem dX0_init_15 : decode cX0_init 15 = .ok (.iconst 0, 1) := by decide +kernel
theorem dX0_init_16 : decode cX0_init 16 = .ok (.putfield 18, 3) := by decide +kernel
theorem dX0_init_19 : decode cX0_init 19 = .ok (.aload_n 0, 1) := by decide +kernel
theorem dX0_init_20 : decode cX0_init 20 = .ok (.lconst 0, 1) := by decide +kernel
theorem dX0_init_21 : decode cX0_init 21 = .ok (.putfield 21, 3) := by decide +kernel
theorem dX0_init_24 : decode cX0_init 24 = .ok (.aload_n 0, 1) := by decide +kernel
theorem dX0_init_25 : decode cX0_init 25 = .ok (.lconst 0, 1) := by decide +kernel
theorem dX0_init_26 : decode cX0_init 26 = .ok (.putfield 25, 3) := by decide +kernel
theorem dX0_init_29 : decode cX0_init 29 = .ok (.aload_n 0, 1) := by decide +kernel
theorem dX0_init_30 : decode cX0_init 30 = .ok (.lconst 0, 1) := by decide +kernel
theorem dX0_init_31 : decode cX0_init 31 = .ok (.putfield 28, 3) := by decide +kernel
theorem dX0_init_34 : decode cX0_init 34 = .ok (.aload_n 0, 1) := by decide +kernel
theorem dX0_init_35 : decode cX0_init 35 = .ok (.iload_n 1, 1) := by decide +kernel
theorem dX0_init_36 : decode cX0_init 36 = .ok (.putfield 31, 3) := by decide +kernel
theorem dX0_init_39 : decode cX0_init 39 = .ok (.aload_n 0, 1) := by decide +kernel
theorem dX0_init_40 : decode cX0_init 40 = .ok (.iload_n 2, 1) := by decide +kernel
theorem dX0_init_41 : decode cX0_init 41 = .ok (.putfield 34, 3) := by decide +kernel
theorem dX0_init_44 : decode cX0_init 44 = .ok (.aload_n 0, 1) := by decide +kernel
theorem dX0_init_45 : decode cX0_init 45 = .ok (.iload_n 3, 1) := by decide +kernel
theorem dX0_init_46 : decode cX0_init 46 = .ok (.putfield 37, 3) := by decide +kernel
theorem dX0_init_49 : decode cX0_init 49 = .ok (.aload_n 0, 1) := by decide +kernel
theorem dX0_init_50 : decode cX0_init 50 = .ok (.iload 4, 2) := by decide +kernel
theorem dX0_init_52 : decode cX0_init 52 = .ok (.putfield 40, 3) := by decide +kernel
theorem dX0_init_55 : decode cX0_init 55 = .ok (.return_, 1) := by decide +kernel
theorem dX0_dueDay_0 : decode cX0_dueDay 0 = .ok (.aload_n 0, 1) := by decide +kernel
theorem dX0_dueDay_1 : decode cX0_dueDay 1 = .ok (.getfield 9, 3) := by decide +kernel
theorem dX0_dueDay_4 : decode cX0_dueDay 4 = .ok (.ifCond .ne 10, 3) := by decide +kernel
theorem dX0_dueDay_7 : decode cX0_dueDay 7 = .ok (.aload_n 0, 1) := by decide +kernel
theorem dX0_dueDay_8 : decode cX0_dueDay 8 = .ok (.getfield 40, 3) := by decide +kernel
theorem dX0_dueDay_11 : decode cX0_dueDay 11 = .ok (.iconst 3, 1) := by decide +kernel
theorem dX0_dueDay_12 : decode cX0_dueDay 12 = .ok (.iadd, 1) := by decide +kernel
theorem dX0_dueDay_13 : decode cX0_dueDay 13 = .ok (.ireturn, 1) := by decide +kernel
theorem dX0_dueDay_14 : decode cX0_dueDay 14 = .ok (.aload_n 0, 1) := by decide +kernel
theorem dX0_dueDay_15 : decode cX0_dueDay 15 = .ok (.getfield 40, 3) := by decide +kernel
theorem dX0_dueDay_18 : decode cX0_dueDay 18 = .ok (.aload_n 0, 1) := by decide +kernel
theorem dX0_dueDay_19 : decode cX0_dueDay 19 = .ok (.getfield 9, 3) := by decide +kernel
theorem dX0_dueDay_22 : decode cX0_dueDay 22 = .ok (.iconst 1, 1) := by decide +kernel
theorem dX0_dueDay_23 : decode cX0_dueDay 23 = .ok (.if_icmp .ne 7, 3) := by decide +kernel
theorem dX0_dueDay_26 : decode cX0_dueDay 26 = .ok (.iconst 2, 1) := by decide +kernel
theorem dX0_dueDay_27 : decode cX0_dueDay 27 = .ok (.goto 4, 3) := by decide +kernel
theorem dX0_dueDay_30 : decode cX0_dueDay 30 = .ok (.iconst 2, 1) := by decide +kernel
theorem dX0_dueDay_31 : decode cX0_dueDay 31 = .ok (.iadd, 1) := by decide +kernel
theorem dX0_dueDay_32 : decode cX0_dueDay 32 = .ok (.ireturn, 1) := by decide +kernel
set_option maxRecDepth 20000 in
theorem ggX0_latenessOn_X0_dueDay : GoodIn wsX0_latenessOn wsX0_dueDay := goodIn_r _ [9, 10, 11, 12, 13, 14, 15, 16, 17, 18, 19, 20, 21] (by decide +kernel) (by decide +kernel)
set_option maxRecDepth 20000 in
theorem gX0_latenessOn_X0_dueDay : GoodIn wsX0_latenessOn (wsV RX0 43 RX0 yX0_dueDay wsX0_dueDay) := goodIn_app (goodIn_of _ (by decide +kernel)) ggX0_latenessOn_X0_dueDay
theorem dX0_latenessOn_0 : decode cX0_latenessOn 0 = .ok (.iconst 0, 1) := by decide +kernel
theorem dX0_latenessOn_1 : decode cX0_latenessOn 1 = .ok (.iload_n 1, 1) := by decide +kernel
theorem dX0_latenessOn_2 : decode cX0_latenessOn 2 = .ok (.aload_n 0, 1) := by decide +kernel
theorem dX0_latenessOn_3 : decode cX0_latenessOn 3 = .ok (.invokevirtual 43, 3) := by decide +kernel
theorem dX0_latenessOn_6 : decode cX0_latenessOn 6 = .ok (.isub, 1) := by decide +kernel
theorem dX0_latenessOn_7 : decode cX0_latenessOn 7 = .ok (.invokestatic 47, 3) := by decide +kernel
theorem dX0_latenessOn_10 : decode cX0_latenessOn 10 = .ok (.ireturn, 1) := by decide +kernel
theorem dX0_goOn_0 : decode cX0_goOn 0 = .ok (.aload_n 0, 1) := by decide +kernel
theorem dX0_goOn_1 : decode cX0_goOn 1 = .ok (.getfield 9, 3) := by decide +kernel
theorem dX0_goOn_4 : decode cX0_goOn 4 = .ok (.iconst 2, 1) := by decide +kernel
theorem dX0_goOn_5 : decode cX0_goOn 5 = .ok (.if_icmp .ne 16, 3) := by decide +kernel
theorem dX0_goOn_8 : decode cX0_goOn 8 = .ok (.aload_n 0, 1) := by decide +kernel
theorem dX0_goOn_9 : decode cX0_goOn 9 = .ok (.dup, 1) := by decide +kernel
theorem dX0_goOn_10 : decode cX0_goOn 10 = .ok (.getfield 18, 3) := by decide +kernel
theorem dX0_goOn_13 : decode cX0_goOn 13 = .ok (.iload_n 2, 1) := by decide +kernel
theorem dX0_goOn_14 : decode cX0_goOn 14 = .ok (.iadd, 1) := by decide +kernel
theorem dX0_goOn_15 : decode cX0_goOn 15 = .ok (.putfield 18, 3) := by decide +kernel
theorem dX0_goOn_18 : decode cX0_goOn 18 = .ok (.goto 13, 3) := by decide +kernel
theorem dX0_goOn_21 : decode cX0_goOn 21 = .ok (.aload_n 0, 1) := by decide +kernel
theorem dX0_goOn_22 : decode cX0_goOn 22 = .ok (.dup, 1) := by decide +kernel
theorem dX0_goOn_23 : decode cX0_goOn 23 = .ok (.getfield 15, 3) := by decide +kernel
theorem dX0_goOn_26 : decode cX0_goOn 26 = .ok (.iload_n 2, 1) := by decide +kernel
theorem dX0_goOn_27 : decode cX0_goOn 27 = .ok (.iadd, 1) := by decide +kernel
theorem dX0_goOn_28 : decode cX0_goOn 28 = .ok (.putfield 15, 3) := by decide +kernel
theorem dX0_goOn_31 : decode cX0_goOn 31 = .ok (.aload_n 0, 1) := by decide +kernel
theorem dX0_goOn_32 : decode cX0_goOn 32 = .ok (.iload_n 1, 1) := by decide +kernel
theorem dX0_goOn_33 : decode cX0_goOn 33 = .ok (.putfield 40, 3) := by decide +kernel
theorem dX0_goOn_36 : decode cX0_goOn 36 = .ok (.aload_n 0, 1) := by decide +kernel
theorem dX0_goOn_37 : decode cX0_goOn 37 = .ok (.dup, 1) := by decide +kernel
theorem dX0_goOn_38 : decode cX0_goOn 38 = .ok (.getfield 9, 3) := by decide +kernel
theorem dX0_goOn_41 : decode cX0_goOn 41 = .ok (.iconst 1, 1) := by decide +kernel
theorem dX0_goOn_42 : decode cX0_goOn 42 = .ok (.iadd, 1) := by decide +kernel
theorem dX0_goOn_43 : decode cX0_goOn 43 = .ok (.putfield 9, 3) := by decide +kernel
theorem dX0_goOn_46 : decode cX0_goOn 46 = .ok (.return_, 1) := by decide +kernel
theorem dX1_init_0 : decode cX1_init 0 = .ok (.aload_n 0, 1) := by decide +kernel
theorem dX1_init_1 : decode cX1_init 1 = .ok (.invokespecial 3, 3) := by decide +kernel
theorem dX1_init_4 : decode cX1_init 4 = .ok (.aload_n 0, 1) := by decide +kernel
theorem dX1_init_5 : decode cX1_init 5 = .ok (.bipush 61, 2) := by decide +kernel
theorem dX1_init_7 : decode cX1_init 7 = .ok (.newarray .int, 2) := by decide +kernel
theorem dX1_init_9 : decode cX1_init 9 = .ok (.putfield 9, 3) := by decide +kernel
theorem dX1_init_12 : decode cX1_init 12 = .ok (.aload_n 0, 1) := by decide +kernel
theorem dX1_init_13 : decode cX1_init 13 = .ok (.bipush 61, 2) := by decide +kernel
theorem dX1_init_15 : decode cX1_init 15 = .ok (.newarray .int, 2) := by decide +kernel
theorem dX1_init_17 : decode cX1_init 17 = .ok (.putfield 15, 3) := by decide +kernel
theorem dX1_init_20 : decode cX1_init 20 = .ok (.aload_n 0, 1) := by decide +kernel
theorem dX1_init_21 : decode cX1_init 21 = .ok (.iconst 1, 1) := by decide +kernel
theorem dX1_init_22 : decode cX1_init 22 = .ok (.putfield 18, 3) := by decide +kernel
theorem dX1_init_25 : decode cX1_init 25 = .ok (.aload_n 0, 1) := by decide +kernel
theorem dX1_init_26 : decode cX1_init 26 = .ok (.iconst 0, 1) := by decide +kernel
theorem dX1_init_27 : decode cX1_init 27 = .ok (.putfield 22, 3) := by decide +kernel
theorem dX1_init_30 : decode cX1_init 30 = .ok (.aload_n 0, 1) := by decide +kernel
theorem dX1_init_31 : decode cX1_init 31 = .ok (.getfield 15, 3) := by decide +kernel
theorem dX1_init_34 : decode cX1_init 34 = .ok (.iconst 0, 1) := by decide +kernel
theorem dX1_init_35 : decode cX1_init 35 = .ok (.sipush 1000, 3) := by decide +kernel
theorem dX1_init_38 : decode cX1_init 38 = .ok (.iastore, 1) := by decide +kernel
theorem dX1_init_39 : decode cX1_init 39 = .ok (.return_, 1) := by decide +kernel
set_option maxRecDepth 20000 in
theorem ggX1_put_X3_isOutside : GoodIn wsX1_put wsX3_isOutside := goodIn_r _ [7] (by decide +kernel) (by decide +kernel)
set_option maxRecDepth 20000 in
theorem gX1_put_X3_isOutside_n25 : GoodIn wsX1_put (wsX3_isOutside) := ggX1_put_X3_isOutside
theorem dX1_put_0 : decode cX1_put 0 = .ok (.iload_n 1, 1) := by decide +kernel
theorem dX1_put_1 : decode cX1_put 1 = .ok (.aload_n 0, 1) := by decide +kernel
theorem dX1_put_2 : decode cX1_put 2 = .ok (.getfield 22, 3) := by decide +kernel
theorem dX1_put_5 : decode cX1_put 5 = .ok (.if_icmp .ne 12, 3) := by decide +kernel
theorem dX1_put_8 : decode cX1_put 8 = .ok (.aload_n 0, 1) := by decide +kernel
theorem dX1_put_9 : decode cX1_put 9 = .ok (.getfield 18, 3) := by decide +kernel
theorem dX1_put_12 : decode cX1_put 12 = .ok (.iconst 1, 1) := by decide +kernel
theorem dX1_put_13 : decode cX1_put 13 = .ok (.isub, 1) := by decide +kernel
theorem dX1_put_14 : decode cX1_put 14 = .ok (.goto 7, 3) := by decide +kernel
theorem dX1_put_17 : decode cX1_put 17 = .ok (.aload_n 0, 1) := by decide +kernel
theorem dX1_put_18 : decode cX1_put 18 = .ok (.getfield 18, 3) := by decide +kernel
theorem dX1_put_21 : decode cX1_put 21 = .ok (.istore_n 3, 1) := by decide +kernel
theorem dX1_put_22 : decode cX1_put 22 = .ok (.iload_n 3, 1) := by decide +kernel
theorem dX1_put_23 : decode cX1_put 23 = .ok (.iconst 0, 1) := by decide +kernel
theorem dX1_put_24 : decode cX1_put 24 = .ok (.bipush 60, 2) := by decide +kernel
theorem dX1_put_26 : decode cX1_put 26 = .ok (.invokestatic 25, 3) := by decide +kernel
theorem dX1_put_29 : decode cX1_put 29 = .ok (.ifCond .eq 5, 3) := by decide +kernel
theorem dX1_put_32 : decode cX1_put 32 = .ok (.iconst 0, 1) := by decide +kernel
theorem dX1_put_33 : decode cX1_put 33 = .ok (.ireturn, 1) := by decide +kernel
theorem dX1_put_34 : decode cX1_put 34 = .ok (.aload_n 0, 1) := by decide +kernel
theorem dX1_put_35 : decode cX1_put 35 = .ok (.getfield 9, 3) := by decide +kernel
theorem dX1_put_38 : decode cX1_put 38 = .ok (.iload_n 3, 1) := by decide +kernel
theorem dX1_put_39 : decode cX1_put 39 = .ok (.iload_n 1, 1) := by decide +kernel
theorem dX1_put_40 : decode cX1_put 40 = .ok (.iastore, 1) := by decide +kernel
theorem dX1_put_41 : decode cX1_put 41 = .ok (.aload_n 0, 1) := by decide +kernel
theorem dX1_put_42 : decode cX1_put 42 = .ok (.getfield 15, 3) := by decide +kernel
theorem dX1_put_45 : decode cX1_put 45 = .ok (.iload_n 3, 1) := by decide +kernel
theorem dX1_put_46 : decode cX1_put 46 = .ok (.iload_n 2, 1) := by decide +kernel
theorem dX1_put_47 : decode cX1_put 47 = .ok (.iastore, 1) := by decide +kernel
theorem dX1_put_48 : decode cX1_put 48 = .ok (.aload_n 0, 1) := by decide +kernel
theorem dX1_put_49 : decode cX1_put 49 = .ok (.iload_n 1, 1) := by decide +kernel
theorem dX1_put_50 : decode cX1_put 50 = .ok (.putfield 22, 3) := by decide +kernel
theorem dX1_put_53 : decode cX1_put 53 = .ok (.aload_n 0, 1) := by decide +kernel
theorem dX1_put_54 : decode cX1_put 54 = .ok (.iload_n 3, 1) := by decide +kernel
theorem dX1_put_55 : decode cX1_put 55 = .ok (.iconst 1, 1) := by decide +kernel
theorem dX1_put_56 : decode cX1_put 56 = .ok (.iadd, 1) := by decide +kernel
theorem dX1_put_57 : decode cX1_put 57 = .ok (.putfield 18, 3) := by decide +kernel
theorem dX1_put_60 : decode cX1_put 60 = .ok (.iconst 1, 1) := by decide +kernel
theorem dX1_put_61 : decode cX1_put 61 = .ok (.ireturn, 1) := by decide +kernel
theorem dX1_valueOn_0 : decode cX1_valueOn 0 = .ok (.sipush 1000, 3) := by decide +kernel
theorem dX1_valueOn_3 : decode cX1_valueOn 3 = .ok (.istore_n 2, 1) := by decide +kernel
theorem dX1_valueOn_4 : decode cX1_valueOn 4 = .ok (.iconst 0, 1) := by decide +kernel
theorem dX1_valueOn_5 : decode cX1_valueOn 5 = .ok (.istore_n 3, 1) := by decide +kernel
theorem dX1_valueOn_6 : decode cX1_valueOn 6 = .ok (.iload_n 3, 1) := by decide +kernel
theorem dX1_valueOn_7 : decode cX1_valueOn 7 = .ok (.aload_n 0, 1) := by decide +kernel
theorem dX1_valueOn_8 : decode cX1_valueOn 8 = .ok (.getfield 18, 3) := by decide +kernel
theorem dX1_valueOn_11 : decode cX1_valueOn 11 = .ok (.if_icmp .ge 32, 3) := by decide +kernel
theorem dX1_valueOn_14 : decode cX1_valueOn 14 = .ok (.iload_n 3, 1) := by decide +kernel
theorem dX1_valueOn_15 : decode cX1_valueOn 15 = .ok (.bipush 61, 2) := by decide +kernel
theorem dX1_valueOn_17 : decode cX1_valueOn 17 = .ok (.if_icmp .ge 26, 3) := by decide +kernel
theorem dX1_valueOn_20 : decode cX1_valueOn 20 = .ok (.aload_n 0, 1) := by decide +kernel
theorem dX1_valueOn_21 : decode cX1_valueOn 21 = .ok (.getfield 9, 3) := by decide +kernel
theorem dX1_valueOn_24 : decode cX1_valueOn 24 = .ok (.iload_n 3, 1) := by decide +kernel
theorem dX1_valueOn_25 : decode cX1_valueOn 25 = .ok (.iaload, 1) := by decide +kernel
theorem dX1_valueOn_26 : decode cX1_valueOn 26 = .ok (.iload_n 1, 1) := by decide +kernel
theorem dX1_valueOn_27 : decode cX1_valueOn 27 = .ok (.if_icmp .gt 16, 3) := by decide +kernel
theorem dX1_valueOn_30 : decode cX1_valueOn 30 = .ok (.aload_n 0, 1) := by decide +kernel
theorem dX1_valueOn_31 : decode cX1_valueOn 31 = .ok (.getfield 15, 3) := by decide +kernel
theorem dX1_valueOn_34 : decode cX1_valueOn 34 = .ok (.iload_n 3, 1) := by decide +kernel
theorem dX1_valueOn_35 : decode cX1_valueOn 35 = .ok (.iaload, 1) := by decide +kernel
theorem dX1_valueOn_36 : decode cX1_valueOn 36 = .ok (.istore_n 2, 1) := by decide +kernel
theorem dX1_valueOn_37 : decode cX1_valueOn 37 = .ok (.iinc 3 1, 3) := by decide +kernel
theorem dX1_valueOn_40 : decode cX1_valueOn 40 = .ok (.goto (-34), 3) := by decide +kernel
theorem dX1_valueOn_43 : decode cX1_valueOn 43 = .ok (.iload_n 2, 1) := by decide +kernel
theorem dX1_valueOn_44 : decode cX1_valueOn 44 = .ok (.ireturn, 1) := by decide +kernel
theorem dX2_init_0 : decode cX2_init 0 = .ok (.aload_n 0, 1) := by decide +kernel
theorem dX2_init_1 : decode cX2_init 1 = .ok (.invokespecial 1, 3) := by decide +kernel
theorem dX2_init_4 : decode cX2_init 4 = .ok (.aload_n 0, 1) := by decide +kernel
theorem dX2_init_5 : decode cX2_init 5 = .ok (.iconst 0, 1) := by decide +kernel
theorem dX2_init_6 : decode cX2_init 6 = .ok (.putfield 7, 3) := by decide +kernel
theorem dX2_init_9 : decode cX2_init 9 = .ok (.aload_n 0, 1) := by decide +kernel
theorem dX2_init_10 : decode cX2_init 10 = .ok (.iload_n 1, 1) := by decide +kernel
theorem dX2_init_11 : decode cX2_init 11 = .ok (.putfield 13, 3) := by decide +kernel
theorem dX2_init_14 : decode cX2_init 14 = .ok (.aload_n 0, 1) := by decide +kernel
theorem dX2_init_15 : decode cX2_init 15 = .ok (.lload_n 2, 1) := by decide +kernel
theorem dX2_init_16 : decode cX2_init 16 = .ok (.putfield 17, 3) := by decide +kernel
theorem dX2_init_19 : decode cX2_init 19 = .ok (.return_, 1) := by decide +kernel
theorem dX2_arrive_0 : decode cX2_arrive 0 = .ok (.aload_n 0, 1) := by decide +kernel
theorem dX2_arrive_1 : decode cX2_arrive 1 = .ok (.iload_n 1, 1) := by decide +kernel
theorem dX2_arrive_2 : decode cX2_arrive 2 = .ok (.putfield 13, 3) := by decide +kernel
theorem dX2_arrive_5 : decode cX2_arrive 5 = .ok (.aload_n 0, 1) := by decide +kernel
theorem dX2_arrive_6 : decode cX2_arrive 6 = .ok (.lload_n 2, 1) := by decide +kernel
theorem dX2_arrive_7 : decode cX2_arrive 7 = .ok (.putfield 17, 3) := by decide +kernel
theorem dX2_arrive_10 : decode cX2_arrive 10 = .ok (.aload_n 0, 1) := by decide +kernel
theorem dX2_arrive_11 : decode cX2_arrive 11 = .ok (.iconst 0, 1) := by decide +kernel
theorem dX2_arrive_12 : decode cX2_arrive 12 = .ok (.putfield 7, 3) := by decide +kernel
theorem dX2_arrive_15 : decode cX2_arrive 15 = .ok (.return_, 1) := by decide +kernel
set_option maxRecDepth 20000 in
theorem ggX3_init_X1_init : GoodIn wsX3_init wsX1_init := goodIn_r _ [22, 23, 2, 3, 24, 25, 26, 27, 28, 38, 39, 40, 41] (by decide +kernel) (by decide +kernel)
set_option maxRecDepth 20000 in
theorem gX3_init_X1_init : GoodIn wsX3_init (wsX1_init) := ggX3_init_X1_init
theorem dX3_init_0 : decode cX3_init 0 = .ok (.aload_n 0, 1) := by decide +kernel
theorem dX3_init_1 : decode cX3_init 1 = .ok (.invokespecial 1, 3) := by decide +kernel
theorem dX3_init_4 : decode cX3_init 4 = .ok (.aload_n 0, 1) := by decide +kernel
theorem dX3_init_5 : decode cX3_init 5 = .ok (.iconst 5, 1) := by decide +kernel
theorem dX3_init_6 : decode cX3_init 6 = .ok (.anewarray 9, 3) := by decide +kernel
theorem dX3_init_9 : decode cX3_init 9 = .ok (.putfield 11, 3) := by decide +kernel
theorem dX3_init_12 : decode cX3_init 12 = .ok (.aload_n 0, 1) := by decide +kernel
theorem dX3_init_13 : decode cX3_init 13 = .ok (.iconst 5, 1) := by decide +kernel
theorem dX3_init_14 : decode cX3_init 14 = .ok (.iconst 5, 1) := by decide +kernel
theorem dX3_init_15 : decode cX3_init 15 = .ok (.multianewarray 15 2, 4) := by decide +kernel
theorem dX3_init_19 : decode cX3_init 19 = .ok (.putfield 17, 3) := by decide +kernel
theorem dX3_init_22 : decode cX3_init 22 = .ok (.aload_n 0, 1) := by decide +kernel
theorem dX3_init_23 : decode cX3_init 23 = .ok (.iconst 5, 1) := by decide +kernel
theorem dX3_init_24 : decode cX3_init 24 = .ok (.newarray .long, 2) := by decide +kernel
theorem dX3_init_26 : decode cX3_init 26 = .ok (.putfield 20, 3) := by decide +kernel
theorem dX3_init_29 : decode cX3_init 29 = .ok (.aload_n 0, 1) := by decide +kernel
theorem dX3_init_30 : decode cX3_init 30 = .ok (.bipush 10, 2) := by decide +kernel
theorem dX3_init_32 : decode cX3_init 32 = .ok (.anewarray 24, 3) := by decide +kernel
theorem dX3_init_35 : decode cX3_init 35 = .ok (.putfield 26, 3) := by decide +kernel
theorem dX3_init_38 : decode cX3_init 38 = .ok (.aload_n 0, 1) := by decide +kernel
theorem dX3_init_39 : decode cX3_init 39 = .ok (.bipush 30, 2) := by decide +kernel
theorem dX3_init_41 : decode cX3_init 41 = .ok (.anewarray 30, 3) := by decide +kernel
theorem dX3_init_44 : decode cX3_init 44 = .ok (.putfield 32, 3) := by decide +kernel
theorem dX3_init_47 : decode cX3_init 47 = .ok (.aload_n 0, 1) := by decide +kernel
theorem dX3_init_48 : decode cX3_init 48 = .ok (.iconst 0, 1) := by decide +kernel
theorem dX3_init_49 : decode cX3_init 49 = .ok (.putfield 36, 3) := by decide +kernel
theorem dX3_init_52 : decode cX3_init 52 = .ok (.aload_n 0, 1) := by decide +kernel
theorem dX3_init_53 : decode cX3_init 53 = .ok (.sipush 1000, 3) := by decide +kernel
theorem dX3_init_56 : decode cX3_init 56 = .ok (.putfield 40, 3) := by decide +kernel
theorem dX3_init_59 : decode cX3_init 59 = .ok (.aload_n 0, 1) := by decide +kernel
theorem dX3_init_60 : decode cX3_init 60 = .ok (.iconst 0, 1) := by decide +kernel
theorem dX3_init_61 : decode cX3_init 61 = .ok (.putfield 43, 3) := by decide +kernel
theorem dX3_init_64 : decode cX3_init 64 = .ok (.aload_n 0, 1) := by decide +kernel
theorem dX3_init_65 : decode cX3_init 65 = .ok (.iconst 0, 1) := by decide +kernel
theorem dX3_init_66 : decode cX3_init 66 = .ok (.putfield 46, 3) := by decide +kernel
theorem dX3_init_69 : decode cX3_init 69 = .ok (.iconst 0, 1) := by decide +kernel
theorem dX3_init_70 : decode cX3_init 70 = .ok (.istore_n 1, 1) := by decide +kernel
theorem dX3_init_71 : decode cX3_init 71 = .ok (.iload_n 1, 1) := by decide +kernel
theorem dX3_init_72 : decode cX3_init 72 = .ok (.iconst 5, 1) := by decide +kernel
theorem dX3_init_73 : decode cX3_init 73 = .ok (.if_icmp .ge 22, 3) := by decide +kernel
theorem dX3_init_76 : decode cX3_init 76 = .ok (.aload_n 0, 1) := by decide +kernel
theorem dX3_init_77 : decode cX3_init 77 = .ok (.getfield 11, 3) := by decide +kernel
theorem dX3_init_80 : decode cX3_init 80 = .ok (.iload_n 1, 1) := by decide +kernel
theorem dX3_init_81 : decode cX3_init 81 = .ok (.new 9, 3) := by decide +kernel
theorem dX3_init_84 : decode cX3_init 84 = .ok (.dup, 1) := by decide +kernel
theorem dX3_init_85 : decode cX3_init 85 = .ok (.invokespecial 49, 3) := by decide +kernel
theorem dX3_init_88 : decode cX3_init 88 = .ok (.aastore, 1) := by decide +kernel
theorem dX3_init_89 : decode cX3_init 89 = .ok (.iinc 1 1, 3) := by decide +kernel
theorem dX3_init_92 : decode cX3_init 92 = .ok (.goto (-21), 3) := by decide +kernel
theorem dX3_init_95 : decode cX3_init 95 = .ok (.return_, 1) := by decide +kernel
set_option maxRecDepth 20000 in
theorem ggX3_pass_X3_isOutside : GoodIn wsX3_pass wsX3_isOutside := goodIn_r _ [9] (by decide +kernel) (by decide +kernel)
set_option maxRecDepth 20000 in
theorem gX3_pass_X3_isOutside : GoodIn wsX3_pass (va_wsS RX3 50 yX3_isOutside wsX3_isOutside) := goodIn_app (goodIn_of _ (by decide +kernel)) ggX3_pass_X3_isOutside
theorem dX3_pass_0 : decode cX3_pass 0 = .ok (.iload_n 1, 1) := by decide +kernel
theorem dX3_pass_1 : decode cX3_pass 1 = .ok (.iconst 1, 1) := by decide +kernel
theorem dX3_pass_2 : decode cX3_pass 2 = .ok (.bipush 100, 2) := by decide +kernel
theorem dX3_pass_4 : decode cX3_pass 4 = .ok (.invokestatic 50, 3) := by decide +kernel
theorem dX3_pass_7 : decode cX3_pass 7 = .ok (.ifCond .eq 13, 3) := by decide +kernel
theorem dX3_pass_10 : decode cX3_pass 10 = .ok (.new 54, 3) := by decide +kernel
theorem dX3_pass_13 : decode cX3_pass 13 = .ok (.dup, 1) := by decide +kernel
theorem dX3_pass_14 : decode cX3_pass 14 = .ok (.ldc 56, 2) := by decide +kernel
theorem dX3_pass_16 : decode cX3_pass 16 = .ok (.invokespecial 58, 3) := by decide +kernel
theorem dX3_pass_19 : decode cX3_pass 19 = .ok (.athrow, 1) := by decide +kernel
theorem dX3_pass_20 : decode cX3_pass 20 = .ok (.aload_n 0, 1) := by decide +kernel
theorem dX3_pass_21 : decode cX3_pass 21 = .ok (.getfield 36, 3) := by decide +kernel
theorem dX3_pass_24 : decode cX3_pass 24 = .ok (.iload_n 1, 1) := by decide +kernel
theorem dX3_pass_25 : decode cX3_pass 25 = .ok (.iadd, 1) := by decide +kernel
theorem dX3_pass_26 : decode cX3_pass 26 = .ok (.sipush 2000, 3) := by decide +kernel
theorem dX3_pass_29 : decode cX3_pass 29 = .ok (.if_icmp .le 13, 3) := by decide +kernel
theorem dX3_pass_32 : decode cX3_pass 32 = .ok (.new 61, 3) := by decide +kernel
theorem dX3_pass_35 : decode cX3_pass 35 = .ok (.dup, 1) := by decide +kernel
theorem dX3_pass_36 : decode cX3_pass 36 = .ok (.ldc 63, 2) := by decide +kernel
theorem dX3_pass_38 : decode cX3_pass 38 = .ok (.invokespecial 65, 3) := by decide +kernel
theorem dX3_pass_41 : decode cX3_pass 41 = .ok (.athrow, 1) := by decide +kernel
theorem dX3_pass_42 : decode cX3_pass 42 = .ok (.aload_n 0, 1) := by decide +kernel
theorem dX3_pass_43 : decode cX3_pass 43 = .ok (.dup, 1) := by decide +kernel
theorem dX3_pass_44 : decode cX3_pass 44 = .ok (.getfield 36, 3) := by decide +kernel
theorem dX3_pass_47 : decode cX3_pass 47 = .ok (.iload_n 1, 1) := by decide +kernel
theorem dX3_pass_48 : decode cX3_pass 48 = .ok (.iadd, 1) := by decide +kernel
theorem dX3_pass_49 : decode cX3_pass 49 = .ok (.putfield 36, 3) := by decide +kernel
theorem dX3_pass_52 : decode cX3_pass 52 = .ok (.aload_n 0, 1) := by decide +kernel
theorem dX3_pass_53 : decode cX3_pass 53 = .ok (.getfield 36, 3) := by decide +kernel
theorem dX3_pass_56 : decode cX3_pass 56 = .ok (.ireturn, 1) := by decide +kernel
theorem dX3_today_0 : decode cX3_today 0 = .ok (.aload_n 0, 1) := by decide +kernel
theorem dX3_today_1 : decode cX3_today 1 = .ok (.getfield 36, 3) := by decide +kernel
theorem dX3_today_4 : decode cX3_today 4 = .ok (.ireturn, 1) := by decide +kernel
set_option maxRecDepth 20000 in
theorem ggX3_setPrice_X3_priceRowOf : GoodIn wsX3_setPrice wsX3_priceRowOf := goodIn_ca (goodIn_r _ [8, 9, 10, 11, 12, 13, 7, 14, 15, 16, 17, 34, 35, 36, 37, 38, 39, 40, 41, 42] (by decide +kernel) (by decide +kernel)) (goodIn_sub (fun _ h => List.mem_cons_of_mem _ (List.mem_append_right _ h)) (by decide +kernel))
set_option maxRecDepth 20000 in
theorem gX3_setPrice_X3_priceRowOf : GoodIn wsX3_setPrice (wsV RX3 66 RX3 yX3_priceRowOf wsX3_priceRowOf) := goodIn_app (goodIn_of _ (by decide +kernel)) ggX3_setPrice_X3_priceRowOf
set_option maxRecDepth 20000 in
theorem ggX3_setPrice_X3_checkPrice : GoodIn wsX3_setPrice wsX3_checkPrice := goodIn_ca (goodIn_r _ [20, 9, 10, 15, 16, 7, 17] (by decide +kernel) (by decide +kernel)) (goodIn_sub (fun _ h => List.mem_cons_of_mem _ (List.mem_append_right _ h)) (by decide +kernel))
set_option maxRecDepth 20000 in
theorem gX3_setPrice_X3_checkPrice : GoodIn wsX3_setPrice (va_wsS RX3 70 yX3_checkPrice wsX3_checkPrice) := goodIn_app (goodIn_of _ (by decide +kernel)) ggX3_setPrice_X3_checkPrice
set_option maxRecDepth 20000 in
theorem ggX3_setPrice_X1_valueOn : GoodIn wsX3_setPrice wsX1_valueOn := goodIn_r _ [25, 26, 27, 28, 43, 44, 45, 46] (by decide +kernel) (by decide +kernel)
set_option maxRecDepth 20000 in
theorem gX3_setPrice_X1_valueOn : GoodIn wsX3_setPrice (wsV RX3 74 RX1 yX1_valueOn wsX1_valueOn) := goodIn_app (goodIn_of _ (by decide +kernel)) ggX3_setPrice_X1_valueOn
set_option maxRecDepth 20000 in
theorem ggX3_setPrice_X1_put : GoodIn wsX3_setPrice wsX1_put := goodIn_r _ [32, 33, 26, 27, 28, 16, 7, 17, 43, 44, 45, 46] (by decide +kernel) (by decide +kernel)
set_option maxRecDepth 20000 in
theorem gX3_setPrice_X1_put : GoodIn wsX3_setPrice (wsV RX3 78 RX1 yX1_put wsX1_put) := goodIn_app (goodIn_of _ (by decide +kernel)) ggX3_setPrice_X1_put
theorem dX3_setPrice_0 : decode cX3_setPrice 0 = .ok (.aload_n 0, 1) := by decide +kernel
theorem dX3_setPrice_1 : decode cX3_setPrice 1 = .ok (.iload_n 1, 1) := by decide +kernel
theorem dX3_setPrice_2 : decode cX3_setPrice 2 = .ok (.invokevirtual 66, 3) := by decide +kernel
theorem dX3_setPrice_5 : decode cX3_setPrice 5 = .ok (.astore_n 3, 1) := by decide +kernel
theorem dX3_setPrice_6 : decode cX3_setPrice 6 = .ok (.iload_n 2, 1) := by decide +kernel
theorem dX3_setPrice_7 : decode cX3_setPrice 7 = .ok (.invokestatic 70, 3) := by decide +kernel
theorem dX3_setPrice_10 : decode cX3_setPrice 10 = .ok (.aload_n 3, 1) := by decide +kernel
theorem dX3_setPrice_11 : decode cX3_setPrice 11 = .ok (.aload_n 0, 1) := by decide +kernel
theorem dX3_setPrice_12 : decode cX3_setPrice 12 = .ok (.getfield 36, 3) := by decide +kernel
theorem dX3_setPrice_15 : decode cX3_setPrice 15 = .ok (.invokevirtual 74, 3) := by decide +kernel
theorem dX3_setPrice_18 : decode cX3_setPrice 18 = .ok (.istore 4, 2) := by decide +kernel
theorem dX3_setPrice_20 : decode cX3_setPrice 20 = .ok (.aload_n 3, 1) := by decide +kernel
theorem dX3_setPrice_21 : decode cX3_setPrice 21 = .ok (.aload_n 0, 1) := by decide +kernel
theorem dX3_setPrice_22 : decode cX3_setPrice 22 = .ok (.getfield 36, 3) := by decide +kernel
theorem dX3_setPrice_25 : decode cX3_setPrice 25 = .ok (.iload_n 2, 1) := by decide +kernel
theorem dX3_setPrice_26 : decode cX3_setPrice 26 = .ok (.invokevirtual 78, 3) := by decide +kernel
theorem dX3_setPrice_29 : decode cX3_setPrice 29 = .ok (.ifCond .ne 13, 3) := by decide +kernel
theorem dX3_setPrice_32 : decode cX3_setPrice 32 = .ok (.new 61, 3) := by decide +kernel
theorem dX3_setPrice_35 : decode cX3_setPrice 35 = .ok (.dup, 1) := by decide +kernel
theorem dX3_setPrice_36 : decode cX3_setPrice 36 = .ok (.ldc 82, 2) := by decide +kernel
theorem dX3_setPrice_38 : decode cX3_setPrice 38 = .ok (.invokespecial 65, 3) := by decide +kernel
theorem dX3_setPrice_41 : decode cX3_setPrice 41 = .ok (.athrow, 1) := by decide +kernel
theorem dX3_setPrice_42 : decode cX3_setPrice 42 = .ok (.iload 4, 2) := by decide +kernel
theorem dX3_setPrice_44 : decode cX3_setPrice 44 = .ok (.ireturn, 1) := by decide +kernel
set_option maxRecDepth 20000 in
theorem ggX3_price_X3_priceRowOf : GoodIn wsX3_price wsX3_priceRowOf := goodIn_ca (goodIn_r _ [8, 1, 2, 9, 10, 11, 7, 12, 13, 14, 15, 24, 25, 26, 27, 28, 29, 30, 31, 32] (by decide +kernel) (by decide +kernel)) (goodIn_sub (fun _ h => List.mem_cons_of_mem _ (List.mem_append_right _ h)) (by decide +kernel))
set_option maxRecDepth 20000 in
theorem gX3_price_X3_priceRowOf : GoodIn wsX3_price (wsV RX3 66 RX3 yX3_priceRowOf wsX3_priceRowOf) := goodIn_app (goodIn_of _ (by decide +kernel)) ggX3_price_X3_priceRowOf
set_option maxRecDepth 20000 in
theorem ggX3_price_X3_isOutside : GoodIn wsX3_price wsX3_isOutside := goodIn_r _ [15] (by decide +kernel) (by decide +kernel)
set_option maxRecDepth 20000 in
theorem gX3_price_X3_isOutside : GoodIn wsX3_price (va_wsS RX3 50 yX3_isOutside wsX3_isOutside) := goodIn_app (goodIn_of _ (by decide +kernel)) ggX3_price_X3_isOutside
set_option maxRecDepth 20000 in
theorem ggX3_price_X1_valueOn : GoodIn wsX3_price wsX1_valueOn := goodIn_r _ [20, 21, 22, 23, 33, 34, 35, 36] (by decide +kernel) (by decide +kernel)
set_option maxRecDepth 20000 in
theorem gX3_price_X1_valueOn : GoodIn wsX3_price (wsV RX3 74 RX1 yX1_valueOn wsX1_valueOn) := goodIn_app (goodIn_of _ (by decide +kernel)) ggX3_price_X1_valueOn
theorem dX3_price_0 : decode cX3_price 0 = .ok (.aload_n 0, 1) := by decide +kernel
theorem dX3_price_1 : decode cX3_price 1 = .ok (.iload_n 1, 1) := by decide +kernel
theorem dX3_price_2 : decode cX3_price 2 = .ok (.invokevirtual 66, 3) := by decide +kernel
theorem dX3_price_5 : decode cX3_price 5 = .ok (.astore_n 3, 1) := by decide +kernel
theorem dX3_price_6 : decode cX3_price 6 = .ok (.iload_n 2, 1) := by decide +kernel
theorem dX3_price_7 : decode cX3_price 7 = .ok (.iconst 0, 1) := by decide +kernel
theorem dX3_price_8 : decode cX3_price 8 = .ok (.aload_n 0, 1) := by decide +kernel
theorem dX3_price_9 : decode cX3_price 9 = .ok (.getfield 36, 3) := by decide +kernel
theorem dX3_price_12 : decode cX3_price 12 = .ok (.invokestatic 50, 3) := by decide +kernel
theorem dX3_price_15 : decode cX3_price 15 = .ok (.ifCond .eq 13, 3) := by decide +kernel
theorem dX3_price_18 : decode cX3_price 18 = .ok (.new 54, 3) := by decide +kernel
theorem dX3_price_21 : decode cX3_price 21 = .ok (.dup, 1) := by decide +kernel
theorem dX3_price_22 : decode cX3_price 22 = .ok (.ldc 84, 2) := by decide +kernel
theorem dX3_price_24 : decode cX3_price 24 = .ok (.invokespecial 58, 3) := by decide +kernel
theorem dX3_price_27 : decode cX3_price 27 = .ok (.athrow, 1) := by decide +kernel
theorem dX3_price_28 : decode cX3_price 28 = .ok (.aload_n 3, 1) := by decide +kernel
theorem dX3_price_29 : decode cX3_price 29 = .ok (.iload_n 2, 1) := by decide +kernel
theorem dX3_price_30 : decode cX3_price 30 = .ok (.invokevirtual 74, 3) := by decide +kernel
theorem dX3_price_33 : decode cX3_price 33 = .ok (.ireturn, 1) := by decide +kernel
set_option maxRecDepth 20000 in
theorem ggX3_setDefault_X3_checkPrice : GoodIn wsX3_setDefault wsX3_checkPrice := goodIn_ca (goodIn_r _ [5, 6, 7, 8, 9, 4, 10] (by decide +kernel) (by decide +kernel)) (goodIn_sub (fun _ h => List.mem_cons_of_mem _ (List.mem_append_right _ h)) (by decide +kernel))
set_option maxRecDepth 20000 in
theorem gX3_setDefault_X3_checkPrice : GoodIn wsX3_setDefault (va_wsS RX3 70 yX3_checkPrice wsX3_checkPrice) := goodIn_app (goodIn_of _ (by decide +kernel)) ggX3_setDefault_X3_checkPrice
theorem dX3_setDefault_0 : decode cX3_setDefault 0 = .ok (.iload_n 1, 1) := by decide +kernel
theorem dX3_setDefault_1 : decode cX3_setDefault 1 = .ok (.invokestatic 70, 3) := by decide +kernel
theorem dX3_setDefault_4 : decode cX3_setDefault 4 = .ok (.aload_n 0, 1) := by decide +kernel
theorem dX3_setDefault_5 : decode cX3_setDefault 5 = .ok (.getfield 40, 3) := by decide +kernel
theorem dX3_setDefault_8 : decode cX3_setDefault 8 = .ok (.istore_n 2, 1) := by decide +kernel
theorem dX3_setDefault_9 : decode cX3_setDefault 9 = .ok (.aload_n 0, 1) := by decide +kernel
theorem dX3_setDefault_10 : decode cX3_setDefault 10 = .ok (.iload_n 1, 1) := by decide +kernel
theorem dX3_setDefault_11 : decode cX3_setDefault 11 = .ok (.putfield 40, 3) := by decide +kernel
theorem dX3_setDefault_14 : decode cX3_setDefault 14 = .ok (.iload_n 2, 1) := by decide +kernel
theorem dX3_setDefault_15 : decode cX3_setDefault 15 = .ok (.ireturn, 1) := by decide +kernel
set_option maxRecDepth 20000 in
theorem ggX3_begin_X3_priceRowOf : GoodIn wsX3_begin wsX3_priceRowOf := goodIn_ca (goodIn_r _ [16, 1, 2, 17, 18, 19, 15, 20, 21, 22, 23, 45, 46, 47, 48, 49, 50, 51, 52, 53] (by decide +kernel) (by decide +kernel)) (goodIn_sub (fun _ h => List.mem_cons_of_mem _ (List.mem_append_left _ (List.mem_append_right _ h))) (by decide +kernel))
set_option maxRecDepth 20000 in
theorem gX3_begin_X3_priceRowOf : GoodIn wsX3_begin (wsV RX3 66 RX3 yX3_priceRowOf wsX3_priceRowOf) := goodIn_app (goodIn_of _ (by decide +kernel)) ggX3_begin_X3_priceRowOf
set_option maxRecDepth 20000 in
theorem ggX3_begin_X3_isOutside : GoodIn wsX3_begin wsX3_isOutside := goodIn_r _ [23] (by decide +kernel) (by decide +kernel)
set_option maxRecDepth 20000 in
theorem gX3_begin_X3_isOutside : GoodIn wsX3_begin (va_wsS RX3 50 yX3_isOutside wsX3_isOutside) := goodIn_app (goodIn_of _ (by decide +kernel)) ggX3_begin_X3_isOutside
set_option maxRecDepth 20000 in
theorem ggX3_begin_X1_valueOn : GoodIn wsX3_begin wsX1_valueOn := goodIn_r _ [28, 29, 30, 31, 57, 58, 59, 60] (by decide +kernel) (by decide +kernel)
set_option maxRecDepth 20000 in
theorem gX3_begin_X1_valueOn : GoodIn wsX3_begin (wsV RX3 74 RX1 yX1_valueOn wsX1_valueOn) := goodIn_app (goodIn_of _ (by decide +kernel)) ggX3_begin_X1_valueOn
set_option maxRecDepth 20000 in
theorem ggX3_begin_X3_thousandthsFor : GoodIn wsX3_begin wsX3_thousandthsFor := goodIn_r _ [34, 35] (by decide +kernel) (by decide +kernel)
set_option maxRecDepth 20000 in
theorem gX3_begin_X3_thousandthsFor : GoodIn wsX3_begin (va_wsS RX3 91 yX3_thousandthsFor wsX3_thousandthsFor) := goodIn_app (goodIn_of _ (by decide +kernel)) ggX3_begin_X3_thousandthsFor
set_option maxRecDepth 20000 in
theorem ggX3_begin_X2_init : GoodIn wsX3_begin wsX2_init := goodIn_r _ [38, 39, 40, 41, 42, 43, 44, 54, 55, 56] (by decide +kernel) (by decide +kernel)
set_option maxRecDepth 20000 in
theorem gX3_begin_X2_init : GoodIn wsX3_begin (wsX2_init) := ggX3_begin_X2_init
theorem dX3_begin_0 : decode cX3_begin 0 = .ok (.aload_n 0, 1) := by decide +kernel
theorem dX3_begin_1 : decode cX3_begin 1 = .ok (.iload_n 1, 1) := by decide +kernel
theorem dX3_begin_2 : decode cX3_begin 2 = .ok (.invokevirtual 66, 3) := by decide +kernel
theorem dX3_begin_5 : decode cX3_begin 5 = .ok (.astore_n 3, 1) := by decide +kernel
theorem dX3_begin_6 : decode cX3_begin 6 = .ok (.iload_n 2, 1) := by decide +kernel
theorem dX3_begin_7 : decode cX3_begin 7 = .ok (.iconst 0, 1) := by decide +kernel
theorem dX3_begin_8 : decode cX3_begin 8 = .ok (.ldc 86, 2) := by decide +kernel
theorem dX3_begin_10 : decode cX3_begin 10 = .ok (.invokestatic 50, 3) := by decide +kernel
theorem dX3_begin_13 : decode cX3_begin 13 = .ok (.ifCond .eq 13, 3) := by decide +kernel
theorem dX3_begin_16 : decode cX3_begin 16 = .ok (.new 54, 3) := by decide +kernel
theorem dX3_begin_19 : decode cX3_begin 19 = .ok (.dup, 1) := by decide +kernel
theorem dX3_begin_20 : decode cX3_begin 20 = .ok (.ldc 87, 2) := by decide +kernel
theorem dX3_begin_22 : decode cX3_begin 22 = .ok (.invokespecial 58, 3) := by decide +kernel
theorem dX3_begin_25 : decode cX3_begin 25 = .ok (.athrow, 1) := by decide +kernel
theorem dX3_begin_26 : decode cX3_begin 26 = .ok (.aload_n 0, 1) := by decide +kernel
theorem dX3_begin_27 : decode cX3_begin 27 = .ok (.getfield 43, 3) := by decide +kernel
theorem dX3_begin_30 : decode cX3_begin 30 = .ok (.istore 4, 2) := by decide +kernel
theorem dX3_begin_32 : decode cX3_begin 32 = .ok (.iload 4, 2) := by decide +kernel
theorem dX3_begin_34 : decode cX3_begin 34 = .ok (.iconst 0, 1) := by decide +kernel
theorem dX3_begin_35 : decode cX3_begin 35 = .ok (.bipush 9, 2) := by decide +kernel
theorem dX3_begin_37 : decode cX3_begin 37 = .ok (.invokestatic 50, 3) := by decide +kernel
theorem dX3_begin_40 : decode cX3_begin 40 = .ok (.ifCond .eq 13, 3) := by decide +kernel
theorem dX3_begin_43 : decode cX3_begin 43 = .ok (.new 61, 3) := by decide +kernel
theorem dX3_begin_46 : decode cX3_begin 46 = .ok (.dup, 1) := by decide +kernel
theorem dX3_begin_47 : decode cX3_begin 47 = .ok (.ldc 89, 2) := by decide +kernel
theorem dX3_begin_49 : decode cX3_begin 49 = .ok (.invokespecial 65, 3) := by decide +kernel
theorem dX3_begin_52 : decode cX3_begin 52 = .ok (.athrow, 1) := by decide +kernel
theorem dX3_begin_53 : decode cX3_begin 53 = .ok (.aload_n 0, 1) := by decide +kernel
theorem dX3_begin_54 : decode cX3_begin 54 = .ok (.getfield 26, 3) := by decide +kernel
theorem dX3_begin_57 : decode cX3_begin 57 = .ok (.iload 4, 2) := by decide +kernel
theorem dX3_begin_59 : decode cX3_begin 59 = .ok (.new 24, 3) := by decide +kernel
theorem dX3_begin_62 : decode cX3_begin 62 = .ok (.dup, 1) := by decide +kernel
theorem dX3_begin_63 : decode cX3_begin 63 = .ok (.iload_n 1, 1) := by decide +kernel
theorem dX3_begin_64 : decode cX3_begin 64 = .ok (.iload_n 2, 1) := by decide +kernel
theorem dX3_begin_65 : decode cX3_begin 65 = .ok (.i2l, 1) := by decide +kernel
theorem dX3_begin_66 : decode cX3_begin 66 = .ok (.aload_n 3, 1) := by decide +kernel
theorem dX3_begin_67 : decode cX3_begin 67 = .ok (.aload_n 0, 1) := by decide +kernel
theorem dX3_begin_68 : decode cX3_begin 68 = .ok (.getfield 36, 3) := by decide +kernel
theorem dX3_begin_71 : decode cX3_begin 71 = .ok (.invokevirtual 74, 3) := by decide +kernel
theorem dX3_begin_74 : decode cX3_begin 74 = .ok (.invokestatic 91, 3) := by decide +kernel
theorem dX3_begin_77 : decode cX3_begin 77 = .ok (.invokespecial 95, 3) := by decide +kernel
theorem dX3_begin_80 : decode cX3_begin 80 = .ok (.aastore, 1) := by decide +kernel
theorem dX3_begin_81 : decode cX3_begin 81 = .ok (.aload_n 0, 1) := by decide +kernel
theorem dX3_begin_82 : decode cX3_begin 82 = .ok (.iload 4, 2) := by decide +kernel
theorem dX3_begin_84 : decode cX3_begin 84 = .ok (.iconst 1, 1) := by decide +kernel
theorem dX3_begin_85 : decode cX3_begin 85 = .ok (.iadd, 1) := by decide +kernel
theorem dX3_begin_86 : decode cX3_begin 86 = .ok (.putfield 43, 3) := by decide +kernel
theorem dX3_begin_89 : decode cX3_begin 89 = .ok (.iload 4, 2) := by decide +kernel
theorem dX3_begin_91 : decode cX3_begin 91 = .ok (.ireturn, 1) := by decide +kernel
set_option maxRecDepth 20000 in
theorem ggX3_pay_X3_saverAt : GoodIn wsX3_pay wsX3_saverAt := goodIn_ca (goodIn_r _ [10, 11, 12, 13, 14, 15, 9, 16, 49, 50, 51, 52, 53, 54, 55, 56, 57] (by decide +kernel) (by decide +kernel)) (goodIn_sub (fun _ h => List.mem_cons_of_mem _ (List.mem_append_right _ h)) (by decide +kernel))
set_option maxRecDepth 20000 in
theorem gX3_pay_X3_saverAt : GoodIn wsX3_pay (wsV RX3 98 RX3 yX3_saverAt wsX3_saverAt) := goodIn_app (goodIn_of _ (by decide +kernel)) ggX3_pay_X3_saverAt
set_option maxRecDepth 20000 in
theorem ggX3_pay_X3_isOutside : GoodIn wsX3_pay wsX3_isOutside := goodIn_r _ [16] (by decide +kernel) (by decide +kernel)
set_option maxRecDepth 20000 in
theorem gX3_pay_X3_isOutside : GoodIn wsX3_pay (va_wsS RX3 50 yX3_isOutside wsX3_isOutside) := goodIn_app (goodIn_of _ (by decide +kernel)) ggX3_pay_X3_isOutside
set_option maxRecDepth 20000 in
theorem ggX3_pay_X3_priceNow : GoodIn wsX3_pay wsX3_priceNow := goodIn_ca (goodIn_r _ [20, 21, 22, 23, 24, 9, 25, 1, 2, 26, 27, 28, 29, 14, 15, 16, 30, 31, 32, 33, 34, 35, 36, 37, 49, 50, 51, 52, 53, 54, 55, 56, 57, 58, 59, 60, 61] (by decide +kernel) (by decide +kernel)) (goodIn_sub (fun _ h => List.mem_cons_of_mem _ (List.mem_append_left _ (List.mem_append_left _ (List.mem_append_right _ h)))) (by decide +kernel))
set_option maxRecDepth 20000 in
theorem gX3_pay_X3_priceNow : GoodIn wsX3_pay (wsV RX3 111 RX3 yX3_priceNow wsX3_priceNow) := goodIn_app (goodIn_of _ (by decide +kernel)) ggX3_pay_X3_priceNow
set_option maxRecDepth 20000 in
theorem ggX3_pay_X3_thousandthsFor : GoodIn wsX3_pay wsX3_thousandthsFor := goodIn_r _ [40, 41] (by decide +kernel) (by decide +kernel)
set_option maxRecDepth 20000 in
theorem gX3_pay_X3_thousandthsFor : GoodIn wsX3_pay (va_wsS RX3 91 yX3_thousandthsFor wsX3_thousandthsFor) := goodIn_app (goodIn_of _ (by decide +kernel)) ggX3_pay_X3_thousandthsFor
set_option maxRecDepth 20000 in
theorem ggX3_pay_X3_checkHolding : GoodIn wsX3_pay wsX3_checkHolding := goodIn_ca (goodIn_r _ [44, 3, 4, 45] (by decide +kernel) (by decide +kernel)) (goodIn_sub (fun _ h => List.mem_cons_of_mem _ (List.mem_append_left _ (List.mem_append_right _ h))) (by decide +kernel))
set_option maxRecDepth 20000 in
theorem gX3_pay_X3_checkHolding : GoodIn wsX3_pay (va_wsS RX3 118 yX3_checkHolding wsX3_checkHolding) := goodIn_app (goodIn_of _ (by decide +kernel)) ggX3_pay_X3_checkHolding
theorem dX3_pay_0 : decode cX3_pay 0 = .ok (.aload_n 0, 1) := by decide +kernel
theorem dX3_pay_1 : decode cX3_pay 1 = .ok (.iload_n 1, 1) := by decide +kernel
theorem dX3_pay_2 : decode cX3_pay 2 = .ok (.invokevirtual 98, 3) := by decide +kernel
theorem dX3_pay_5 : decode cX3_pay 5 = .ok (.astore_n 3, 1) := by decide +kernel
theorem dX3_pay_6 : decode cX3_pay 6 = .ok (.iload_n 2, 1) := by decide +kernel
theorem dX3_pay_7 : decode cX3_pay 7 = .ok (.iconst 1, 1) := by decide +kernel
theorem dX3_pay_8 : decode cX3_pay 8 = .ok (.ldc 86, 2) := by decide +kernel
theorem dX3_pay_10 : decode cX3_pay 10 = .ok (.invokestatic 50, 3) := by decide +kernel
theorem dX3_pay_13 : decode cX3_pay 13 = .ok (.ifCond .eq 13, 3) := by decide +kernel
theorem dX3_pay_16 : decode cX3_pay 16 = .ok (.new 54, 3) := by decide +kernel
theorem dX3_pay_19 : decode cX3_pay 19 = .ok (.dup, 1) := by decide +kernel
theorem dX3_pay_20 : decode cX3_pay 20 = .ok (.ldc 87, 2) := by decide +kernel
theorem dX3_pay_22 : decode cX3_pay 22 = .ok (.invokespecial 58, 3) := by decide +kernel
theorem dX3_pay_25 : decode cX3_pay 25 = .ok (.athrow, 1) := by decide +kernel
theorem dX3_pay_26 : decode cX3_pay 26 = .ok (.aload_n 3, 1) := by decide +kernel
theorem dX3_pay_27 : decode cX3_pay 27 = .ok (.getfield 102, 3) := by decide +kernel
theorem dX3_pay_30 : decode cX3_pay 30 = .ok (.ifCond .eq 13, 3) := by decide +kernel
theorem dX3_pay_33 : decode cX3_pay 33 = .ok (.new 61, 3) := by decide +kernel
theorem dX3_pay_36 : decode cX3_pay 36 = .ok (.dup, 1) := by decide +kernel
theorem dX3_pay_37 : decode cX3_pay 37 = .ok (.ldc 106, 2) := by decide +kernel
theorem dX3_pay_39 : decode cX3_pay 39 = .ok (.invokespecial 65, 3) := by decide +kernel
theorem dX3_pay_42 : decode cX3_pay 42 = .ok (.athrow, 1) := by decide +kernel
theorem dX3_pay_43 : decode cX3_pay 43 = .ok (.iload_n 2, 1) := by decide +kernel
theorem dX3_pay_44 : decode cX3_pay 44 = .ok (.i2l, 1) := by decide +kernel
theorem dX3_pay_45 : decode cX3_pay 45 = .ok (.aload_n 0, 1) := by decide +kernel
theorem dX3_pay_46 : decode cX3_pay 46 = .ok (.aload_n 3, 1) := by decide +kernel
theorem dX3_pay_47 : decode cX3_pay 47 = .ok (.getfield 108, 3) := by decide +kernel
theorem dX3_pay_50 : decode cX3_pay 50 = .ok (.invokevirtual 111, 3) := by decide +kernel
theorem dX3_pay_53 : decode cX3_pay 53 = .ok (.invokestatic 91, 3) := by decide +kernel
theorem dX3_pay_56 : decode cX3_pay 56 = .ok (.lstore 4, 2) := by decide +kernel
theorem dX3_pay_58 : decode cX3_pay 58 = .ok (.aload_n 3, 1) := by decide +kernel
theorem dX3_pay_59 : decode cX3_pay 59 = .ok (.getfield 114, 3) := by decide +kernel
theorem dX3_pay_62 : decode cX3_pay 62 = .ok (.lload 4, 2) := by decide +kernel
theorem dX3_pay_64 : decode cX3_pay 64 = .ok (.ladd, 1) := by decide +kernel
theorem dX3_pay_65 : decode cX3_pay 65 = .ok (.invokestatic 118, 3) := by decide +kernel
theorem dX3_pay_68 : decode cX3_pay 68 = .ok (.aload_n 3, 1) := by decide +kernel
theorem dX3_pay_69 : decode cX3_pay 69 = .ok (.dup, 1) := by decide +kernel
theorem dX3_pay_70 : decode cX3_pay 70 = .ok (.getfield 114, 3) := by decide +kernel
theorem dX3_pay_73 : decode cX3_pay 73 = .ok (.lload 4, 2) := by decide +kernel
theorem dX3_pay_75 : decode cX3_pay 75 = .ok (.ladd, 1) := by decide +kernel
theorem dX3_pay_76 : decode cX3_pay 76 = .ok (.putfield 114, 3) := by decide +kernel
theorem dX3_pay_79 : decode cX3_pay 79 = .ok (.lload 4, 2) := by decide +kernel
theorem dX3_pay_81 : decode cX3_pay 81 = .ok (.l2i, 1) := by decide +kernel
theorem dX3_pay_82 : decode cX3_pay 82 = .ok (.ireturn, 1) := by decide +kernel
set_option maxRecDepth 20000 in
theorem ggX3_units_X3_saverAt : GoodIn wsX3_units wsX3_saverAt := goodIn_ca (goodIn_r _ [5, 6, 7, 8, 9, 10, 4, 11, 15, 16, 17, 18, 19, 20, 21, 22, 23] (by decide +kernel) (by decide +kernel)) (goodIn_sub (fun _ h => List.mem_cons_of_mem _ (List.mem_append_right _ h)) (by decide +kernel))
set_option maxRecDepth 20000 in
theorem gX3_units_X3_saverAt : GoodIn wsX3_units (wsV RX3 98 RX3 yX3_saverAt wsX3_saverAt) := goodIn_app (goodIn_of _ (by decide +kernel)) ggX3_units_X3_saverAt
theorem dX3_units_0 : decode cX3_units 0 = .ok (.aload_n 0, 1) := by decide +kernel
theorem dX3_units_1 : decode cX3_units 1 = .ok (.iload_n 1, 1) := by decide +kernel
theorem dX3_units_2 : decode cX3_units 2 = .ok (.invokevirtual 98, 3) := by decide +kernel
theorem dX3_units_5 : decode cX3_units 5 = .ok (.getfield 114, 3) := by decide +kernel
theorem dX3_units_8 : decode cX3_units 8 = .ok (.lreturn, 1) := by decide +kernel
set_option maxRecDepth 20000 in
theorem ggX3_provider_X3_saverAt : GoodIn wsX3_provider wsX3_saverAt := goodIn_ca (goodIn_r _ [5, 6, 7, 8, 9, 10, 4, 11, 15, 16, 17, 18, 19, 20, 21, 22, 23] (by decide +kernel) (by decide +kernel)) (goodIn_sub (fun _ h => List.mem_cons_of_mem _ (List.mem_append_right _ h)) (by decide +kernel))
set_option maxRecDepth 20000 in
theorem gX3_provider_X3_saverAt : GoodIn wsX3_provider (wsV RX3 98 RX3 yX3_saverAt wsX3_saverAt) := goodIn_app (goodIn_of _ (by decide +kernel)) ggX3_provider_X3_saverAt
theorem dX3_provider_0 : decode cX3_provider 0 = .ok (.aload_n 0, 1) := by decide +kernel
theorem dX3_provider_1 : decode cX3_provider 1 = .ok (.iload_n 1, 1) := by decide +kernel
theorem dX3_provider_2 : decode cX3_provider 2 = .ok (.invokevirtual 98, 3) := by decide +kernel
theorem dX3_provider_5 : decode cX3_provider 5 = .ok (.getfield 108, 3) := by decide +kernel
theorem dX3_provider_8 : decode cX3_provider 8 = .ok (.ireturn, 1) := by decide +kernel
set_option maxRecDepth 20000 in
theorem ggX3_order_X3_saverAt : GoodIn wsX3_order wsX3_saverAt := goodIn_ca (goodIn_r _ [15, 16, 17, 18, 19, 20, 14, 21, 47, 48, 49, 50, 51, 52, 53, 54, 55] (by decide +kernel) (by decide +kernel)) (goodIn_sub (fun _ h => List.mem_cons_of_mem _ (List.mem_append_right _ h)) (by decide +kernel))
set_option maxRecDepth 20000 in
theorem gX3_order_X3_saverAt : GoodIn wsX3_order (wsV RX3 98 RX3 yX3_saverAt wsX3_saverAt) := goodIn_app (goodIn_of _ (by decide +kernel)) ggX3_order_X3_saverAt
set_option maxRecDepth 20000 in
theorem ggX3_order_X3_checkProvider : GoodIn wsX3_order wsX3_checkProvider := goodIn_ca (goodIn_r _ [24, 1, 2, 25, 26, 14, 27, 19, 20, 21] (by decide +kernel) (by decide +kernel)) (goodIn_sub (fun _ h => List.mem_cons_of_mem _ (List.mem_append_left _ (List.mem_append_left _ (List.mem_append_right _ h)))) (by decide +kernel))
set_option maxRecDepth 20000 in
theorem gX3_order_X3_checkProvider : GoodIn wsX3_order (va_wsS RX3 122 yX3_checkProvider wsX3_checkProvider) := goodIn_app (goodIn_of _ (by decide +kernel)) ggX3_order_X3_checkProvider
set_option maxRecDepth 20000 in
theorem ggX3_order_X3_isOutside : GoodIn wsX3_order wsX3_isOutside := goodIn_r _ [21] (by decide +kernel) (by decide +kernel)
set_option maxRecDepth 20000 in
theorem gX3_order_X3_isOutside : GoodIn wsX3_order (va_wsS RX3 50 yX3_isOutside wsX3_isOutside) := goodIn_app (goodIn_of _ (by decide +kernel)) ggX3_order_X3_isOutside
set_option maxRecDepth 20000 in
theorem ggX3_order_X0_init : GoodIn wsX3_order wsX0_init := goodIn_r _ [30, 31, 32, 33, 34, 35, 36, 37, 38, 39, 40, 41, 42, 43, 56, 57, 58, 59, 60, 61, 62, 63, 64, 65] (by decide +kernel) (by decide +kernel)
set_option maxRecDepth 20000 in
theorem gX3_order_X0_init : GoodIn wsX3_order (wsX0_init) := ggX3_order_X0_init
theorem dX3_order_0 : decode cX3_order 0 = .ok (.aload_n 0, 1) := by decide +kernel
theorem dX3_order_1 : decode cX3_order 1 = .ok (.iload_n 1, 1) := by decide +kernel
theorem dX3_order_2 : decode cX3_order 2 = .ok (.invokevirtual 98, 3) := by decide +kernel
theorem dX3_order_5 : decode cX3_order 5 = .ok (.astore_n 3, 1) := by decide +kernel
theorem dX3_order_6 : decode cX3_order 6 = .ok (.iload_n 2, 1) := by decide +kernel
theorem dX3_order_7 : decode cX3_order 7 = .ok (.invokestatic 122, 3) := by decide +kernel
theorem dX3_order_10 : decode cX3_order 10 = .ok (.iload_n 2, 1) := by decide +kernel
theorem dX3_order_11 : decode cX3_order 11 = .ok (.aload_n 3, 1) := by decide +kernel
theorem dX3_order_12 : decode cX3_order 12 = .ok (.getfield 108, 3) := by decide +kernel
theorem dX3_order_15 : decode cX3_order 15 = .ok (.if_icmp .ne 13, 3) := by decide +kernel
theorem dX3_order_18 : decode cX3_order 18 = .ok (.new 54, 3) := by decide +kernel
theorem dX3_order_21 : decode cX3_order 21 = .ok (.dup, 1) := by decide +kernel
theorem dX3_order_22 : decode cX3_order 22 = .ok (.ldc 125, 2) := by decide +kernel
theorem dX3_order_24 : decode cX3_order 24 = .ok (.invokespecial 58, 3) := by decide +kernel
theorem dX3_order_27 : decode cX3_order 27 = .ok (.athrow, 1) := by decide +kernel
theorem dX3_order_28 : decode cX3_order 28 = .ok (.aload_n 3, 1) := by decide +kernel
theorem dX3_order_29 : decode cX3_order 29 = .ok (.getfield 102, 3) := by decide +kernel
theorem dX3_order_32 : decode cX3_order 32 = .ok (.ifCond .eq 13, 3) := by decide +kernel
theorem dX3_order_35 : decode cX3_order 35 = .ok (.new 61, 3) := by decide +kernel
theorem dX3_order_38 : decode cX3_order 38 = .ok (.dup, 1) := by decide +kernel
theorem dX3_order_39 : decode cX3_order 39 = .ok (.ldc 106, 2) := by decide +kernel
theorem dX3_order_41 : decode cX3_order 41 = .ok (.invokespecial 65, 3) := by decide +kernel
theorem dX3_order_44 : decode cX3_order 44 = .ok (.athrow, 1) := by decide +kernel
theorem dX3_order_45 : decode cX3_order 45 = .ok (.aload_n 0, 1) := by decide +kernel
theorem dX3_order_46 : decode cX3_order 46 = .ok (.getfield 46, 3) := by decide +kernel
theorem dX3_order_49 : decode cX3_order 49 = .ok (.istore 4, 2) := by decide +kernel
theorem dX3_order_51 : decode cX3_order 51 = .ok (.iload 4, 2) := by decide +kernel
theorem dX3_order_53 : decode cX3_order 53 = .ok (.iconst 0, 1) := by decide +kernel
theorem dX3_order_54 : decode cX3_order 54 = .ok (.bipush 29, 2) := by decide +kernel
theorem dX3_order_56 : decode cX3_order 56 = .ok (.invokestatic 50, 3) := by decide +kernel
theorem dX3_order_59 : decode cX3_order 59 = .ok (.ifCond .eq 13, 3) := by decide +kernel
theorem dX3_order_62 : decode cX3_order 62 = .ok (.new 61, 3) := by decide +kernel
theorem dX3_order_65 : decode cX3_order 65 = .ok (.dup, 1) := by decide +kernel
theorem dX3_order_66 : decode cX3_order 66 = .ok (.ldc 127, 2) := by decide +kernel
theorem dX3_order_68 : decode cX3_order 68 = .ok (.invokespecial 65, 3) := by decide +kernel
theorem dX3_order_71 : decode cX3_order 71 = .ok (.athrow, 1) := by decide +kernel
theorem dX3_order_72 : decode cX3_order 72 = .ok (.aload_n 0, 1) := by decide +kernel
theorem dX3_order_73 : decode cX3_order 73 = .ok (.getfield 32, 3) := by decide +kernel
theorem dX3_order_76 : decode cX3_order 76 = .ok (.iload 4, 2) := by decide +kernel
theorem dX3_order_78 : decode cX3_order 78 = .ok (.new 30, 3) := by decide +kernel
theorem dX3_order_81 : decode cX3_order 81 = .ok (.dup, 1) := by decide +kernel
theorem dX3_order_82 : decode cX3_order 82 = .ok (.iload_n 1, 1) := by decide +kernel
theorem dX3_order_83 : decode cX3_order 83 = .ok (.aload_n 3, 1) := by decide +kernel
theorem dX3_order_84 : decode cX3_order 84 = .ok (.getfield 108, 3) := by decide +kernel
theorem dX3_order_87 : decode cX3_order 87 = .ok (.iload_n 2, 1) := by decide +kernel
theorem dX3_order_88 : decode cX3_order 88 = .ok (.aload_n 0, 1) := by decide +kernel
theorem dX3_order_89 : decode cX3_order 89 = .ok (.getfield 36, 3) := by decide +kernel
theorem dX3_order_92 : decode cX3_order 92 = .ok (.invokespecial 129, 3) := by decide +kernel
theorem dX3_order_95 : decode cX3_order 95 = .ok (.aastore, 1) := by decide +kernel
theorem dX3_order_96 : decode cX3_order 96 = .ok (.aload_n 0, 1) := by decide +kernel
theorem dX3_order_97 : decode cX3_order 97 = .ok (.iload 4, 2) := by decide +kernel
theorem dX3_order_99 : decode cX3_order 99 = .ok (.iconst 1, 1) := by decide +kernel
theorem dX3_order_100 : decode cX3_order 100 = .ok (.iadd, 1) := by decide +kernel
theorem dX3_order_101 : decode cX3_order 101 = .ok (.putfield 46, 3) := by decide +kernel
theorem dX3_order_104 : decode cX3_order 104 = .ok (.aload_n 3, 1) := by decide +kernel
theorem dX3_order_105 : decode cX3_order 105 = .ok (.iconst 1, 1) := by decide +kernel
theorem dX3_order_106 : decode cX3_order 106 = .ok (.putfield 102, 3) := by decide +kernel
theorem dX3_order_109 : decode cX3_order 109 = .ok (.iload 4, 2) := by decide +kernel
theorem dX3_order_111 : decode cX3_order 111 = .ok (.ireturn, 1) := by decide +kernel
set_option maxRecDepth 20000 in
theorem ggX3_step_X3_openOrderAt : GoodIn wsX3_step wsX3_openOrderAt := goodIn_ca (goodIn_ca (goodIn_r _ [5, 6, 7, 8, 9, 10, 4, 11, 12, 13, 14, 15, 16, 17, 115, 116, 117, 118, 119, 120, 121, 122, 123, 124, 125, 126, 127, 128, 129, 130, 131, 132, 133] (by decide +kernel) (by decide +kernel)) (goodIn_sub (fun _ h => List.mem_cons_of_mem _ (List.mem_append_left _ (List.mem_append_left _ (List.mem_append_right _ h)))) (by decide +kernel))) (goodIn_sub (fun _ h => List.mem_cons_of_mem _ (List.mem_append_left _ (List.mem_append_right _ h))) (by decide +kernel))
set_option maxRecDepth 20000 in
theorem gX3_step_X3_openOrderAt : GoodIn wsX3_step (wsV RX3 132 RX3 yX3_openOrderAt wsX3_openOrderAt) := goodIn_app (goodIn_of _ (by decide +kernel)) ggX3_step_X3_openOrderAt
set_option maxRecDepth 20000 in
theorem ggX3_step_X3_doNextStep : GoodIn wsX3_step wsX3_doNextStep := goodIn_ca (goodIn_ca (goodIn_ca (goodIn_r _ [21, 22, 23, 24, 25, 26, 27, 28, 29, 30, 31, 32, 33, 34, 35, 36, 37, 38, 39, 40, 4, 41, 42, 43, 44, 45, 46, 12, 13, 47, 15, 16, 17, 48, 49, 50, 51, 52, 53, 54, 55, 56, 57, 58, 59, 60, 61, 62, 63, 64, 65, 66, 67, 68, 69, 70, 71, 72, 73, 74, 75, 76, 77, 78, 79, 80, 81, 82, 83, 84, 85, 86, 87, 88, 89, 90, 6, 7, 91, 92, 93, 94, 95, 96, 97, 98, 99, 100, 101, 102, 103, 104, 105, 106, 107, 108, 109, 110, 111, 112, 113, 114, 125, 126, 127, 128, 129, 130, 131, 132, 133, 115, 116, 117, 118, 119, 120, 121, 122, 123, 124, 134, 135, 136, 137, 138, 139, 140] (by decide +kernel) (by decide +kernel)) (goodIn_sub (fun _ h => List.mem_cons_of_mem _ (List.mem_append_left _ (List.mem_append_right _ h))) (by decide +kernel))) (goodIn_sub (fun _ h => List.mem_cons_of_mem _ (List.mem_append_right _ h)) (by decide +kernel))) (goodIn_sub (fun _ h => List.mem_cons_of_mem _ (List.mem_append_left _ (List.mem_append_left _ (List.mem_append_right _ h)))) (by decide +kernel))
set_option maxRecDepth 20000 in
theorem gX3_step_X3_doNextStep : GoodIn wsX3_step (wsV RX3 136 RX3 yX3_doNextStep wsX3_doNextStep) := goodIn_app (goodIn_of _ (by decide +kernel)) ggX3_step_X3_doNextStep
theorem dX3_step_0 : decode cX3_step 0 = .ok (.aload_n 0, 1) := by decide +kernel
theorem dX3_step_1 : decode cX3_step 1 = .ok (.aload_n 0, 1) := by decide +kernel
theorem dX3_step_2 : decode cX3_step 2 = .ok (.iload_n 1, 1) := by decide +kernel
theorem dX3_step_3 : decode cX3_step 3 = .ok (.invokevirtual 132, 3) := by decide +kernel
theorem dX3_step_6 : decode cX3_step 6 = .ok (.iconst 0, 1) := by decide +kernel
theorem dX3_step_7 : decode cX3_step 7 = .ok (.invokevirtual 136, 3) := by decide +kernel
theorem dX3_step_10 : decode cX3_step 10 = .ok (.ireturn, 1) := by decide +kernel
set_option maxRecDepth 20000 in
theorem ggX3_force_X3_openOrderAt : GoodIn wsX3_force wsX3_openOrderAt := goodIn_ca (goodIn_ca (goodIn_r _ [8, 1, 2, 9, 10, 11, 7, 12, 13, 14, 15, 16, 17, 18, 124, 125, 126, 127, 128, 129, 130, 131, 132, 133, 115, 116, 117, 118, 119, 120, 121, 122, 123] (by decide +kernel) (by decide +kernel)) (goodIn_sub (fun _ h => List.mem_cons_of_mem _ (List.mem_append_left _ (List.mem_append_left _ (List.mem_append_right _ h)))) (by decide +kernel))) (goodIn_sub (fun _ h => List.mem_cons_of_mem _ (List.mem_append_left _ (List.mem_append_right _ h))) (by decide +kernel))
set_option maxRecDepth 20000 in
theorem gX3_force_X3_openOrderAt : GoodIn wsX3_force (wsV RX3 132 RX3 yX3_openOrderAt wsX3_openOrderAt) := goodIn_app (goodIn_of _ (by decide +kernel)) ggX3_force_X3_openOrderAt
set_option maxRecDepth 20000 in
theorem ggX3_force_X0_latenessOn : GoodIn wsX3_force wsX0_latenessOn := goodIn_r _ [23, 24, 25, 26, 27, 28, 29, 30, 22, 31, 32, 33, 124, 125, 126, 127, 128, 129, 130, 131, 132, 133] (by decide +kernel) (by decide +kernel)
set_option maxRecDepth 20000 in
theorem gX3_force_X0_latenessOn : GoodIn wsX3_force (wsV RX3 140 RX0 yX0_latenessOn wsX0_latenessOn) := goodIn_app (goodIn_of _ (by decide +kernel)) ggX3_force_X0_latenessOn
set_option maxRecDepth 20000 in
theorem ggX3_force_X3_doNextStep : GoodIn wsX3_force wsX3_doNextStep := goodIn_ca (goodIn_ca (goodIn_ca (goodIn_r _ [37, 3, 19, 20, 21, 22, 23, 24, 25, 26, 27, 28, 29, 30, 31, 32, 33, 38, 39, 40, 7, 41, 42, 43, 44, 45, 46, 13, 14, 47, 16, 17, 18, 48, 49, 50, 51, 52, 53, 54, 55, 56, 57, 58, 59, 60, 61, 62, 63, 64, 65, 66, 67, 68, 69, 70, 71, 72, 73, 74, 75, 76, 77, 78, 79, 80, 81, 82, 83, 84, 85, 86, 87, 88, 89, 90, 1, 2, 91, 92, 93, 94, 95, 96, 97, 98, 99, 100, 101, 102, 103, 104, 105, 106, 107, 108, 109, 110, 111, 112, 113, 114, 115, 116, 117, 118, 119, 120, 121, 122, 123, 124, 125, 126, 127, 128, 129, 130, 131, 132, 133, 134, 135, 136, 137, 138, 139, 140] (by decide +kernel) (by decide +kernel)) (goodIn_sub (fun _ h => List.mem_cons_of_mem _ (List.mem_append_left _ (List.mem_append_right _ h))) (by decide +kernel))) (goodIn_sub (fun _ h => List.mem_cons_of_mem _ (List.mem_append_right _ h)) (by decide +kernel))) (goodIn_sub (fun _ h => List.mem_cons_of_mem _ (List.mem_append_left _ (List.mem_append_left _ (List.mem_append_right _ h)))) (by decide +kernel))
set_option maxRecDepth 20000 in
theorem gX3_force_X3_doNextStep : GoodIn wsX3_force (wsV RX3 136 RX3 yX3_doNextStep wsX3_doNextStep) := goodIn_app (goodIn_of _ (by decide +kernel)) ggX3_force_X3_doNextStep
theorem dX3_force_0 : decode cX3_force 0 = .ok (.aload_n 0, 1) := by decide +kernel
theorem dX3_force_1 : decode cX3_force 1 = .ok (.iload_n 1, 1) := by decide +kernel
theorem dX3_force_2 : decode cX3_force 2 = .ok (.invokevirtual 132, 3) := by decide +kernel
theorem dX3_force_5 : decode cX3_force 5 = .ok (.astore_n 2, 1) := by decide +kernel
theorem dX3_force_6 : decode cX3_force 6 = .ok (.aload_n 2, 1) := by decide +kernel
theorem dX3_force_7 : decode cX3_force 7 = .ok (.aload_n 0, 1) := by decide +kernel
theorem dX3_force_8 : decode cX3_force 8 = .ok (.getfield 36, 3) := by decide +kernel
theorem dX3_force_11 : decode cX3_force 11 = .ok (.invokevirtual 140, 3) := by decide +kernel
theorem dX3_force_14 : decode cX3_force 14 = .ok (.bipush 10, 2) := by decide +kernel
theorem dX3_force_16 : decode cX3_force 16 = .ok (.if_icmp .gt 13, 3) := by decide +kernel
theorem dX3_force_19 : decode cX3_force 19 = .ok (.new 61, 3) := by decide +kernel
theorem dX3_force_22 : decode cX3_force 22 = .ok (.dup, 1) := by decide +kernel
theorem dX3_force_23 : decode cX3_force 23 = .ok (.ldc 143, 2) := by decide +kernel
theorem dX3_force_25 : decode cX3_force 25 = .ok (.invokespecial 65, 3) := by decide +kernel
theorem dX3_force_28 : decode cX3_force 28 = .ok (.athrow, 1) := by decide +kernel
theorem dX3_force_29 : decode cX3_force 29 = .ok (.aload_n 0, 1) := by decide +kernel
theorem dX3_force_30 : decode cX3_force 30 = .ok (.aload_n 2, 1) := by decide +kernel
theorem dX3_force_31 : decode cX3_force 31 = .ok (.iconst 1, 1) := by decide +kernel
theorem dX3_force_32 : decode cX3_force 32 = .ok (.invokevirtual 136, 3) := by decide +kernel
theorem dX3_force_35 : decode cX3_force 35 = .ok (.ireturn, 1) := by decide +kernel
set_option maxRecDepth 20000 in
theorem ggX3_stage_X3_orderAt : GoodIn wsX3_stage wsX3_orderAt := goodIn_ca (goodIn_r _ [5, 6, 7, 8, 9, 10, 4, 11, 22, 23, 24, 25, 26, 27, 28, 29, 30] (by decide +kernel) (by decide +kernel)) (goodIn_sub (fun _ h => List.mem_cons_of_mem _ (List.mem_append_right _ h)) (by decide +kernel))
set_option maxRecDepth 20000 in
theorem gX3_stage_X3_orderAt : GoodIn wsX3_stage (wsV RX3 145 RX3 yX3_orderAt wsX3_orderAt) := goodIn_app (goodIn_of _ (by decide +kernel)) ggX3_stage_X3_orderAt
theorem dX3_stage_0 : decode cX3_stage 0 = .ok (.aload_n 0, 1) := by decide +kernel
theorem dX3_stage_1 : decode cX3_stage 1 = .ok (.iload_n 1, 1) := by decide +kernel
theorem dX3_stage_2 : decode cX3_stage 2 = .ok (.invokevirtual 145, 3) := by decide +kernel
theorem dX3_stage_5 : decode cX3_stage 5 = .ok (.getfield 148, 3) := by decide +kernel
theorem dX3_stage_8 : decode cX3_stage 8 = .ok (.ireturn, 1) := by decide +kernel
set_option maxRecDepth 20000 in
theorem ggX3_due_X3_openOrderAt : GoodIn wsX3_due wsX3_openOrderAt := goodIn_ca (goodIn_ca (goodIn_r _ [5, 6, 7, 8, 9, 10, 4, 11, 12, 13, 14, 15, 16, 17, 25, 26, 27, 28, 29, 30, 31, 32, 33, 34, 35, 36, 37, 38, 39, 40, 41, 42, 43] (by decide +kernel) (by decide +kernel)) (goodIn_sub (fun _ h => List.mem_cons_of_mem _ (List.mem_append_left _ (List.mem_append_right _ h))) (by decide +kernel))) (goodIn_sub (fun _ h => List.mem_cons_of_mem _ (List.mem_append_right _ h)) (by decide +kernel))
set_option maxRecDepth 20000 in
theorem gX3_due_X3_openOrderAt : GoodIn wsX3_due (wsV RX3 132 RX3 yX3_openOrderAt wsX3_openOrderAt) := goodIn_app (goodIn_of _ (by decide +kernel)) ggX3_due_X3_openOrderAt
set_option maxRecDepth 20000 in
theorem ggX3_due_X0_dueDay : GoodIn wsX3_due wsX0_dueDay := goodIn_r _ [22, 23, 24, 25, 26, 27, 28, 29, 30, 31, 32, 33, 34] (by decide +kernel) (by decide +kernel)
set_option maxRecDepth 20000 in
theorem gX3_due_X0_dueDay : GoodIn wsX3_due (wsV RX3 151 RX0 yX0_dueDay wsX0_dueDay) := goodIn_app (goodIn_of _ (by decide +kernel)) ggX3_due_X0_dueDay
theorem dX3_due_0 : decode cX3_due 0 = .ok (.aload_n 0, 1) := by decide +kernel
theorem dX3_due_1 : decode cX3_due 1 = .ok (.iload_n 1, 1) := by decide +kernel
theorem dX3_due_2 : decode cX3_due 2 = .ok (.invokevirtual 132, 3) := by decide +kernel
theorem dX3_due_5 : decode cX3_due 5 = .ok (.invokevirtual 151, 3) := by decide +kernel
theorem dX3_due_8 : decode cX3_due 8 = .ok (.ireturn, 1) := by decide +kernel
set_option maxRecDepth 20000 in
theorem ggX3_late_X3_orderAt : GoodIn wsX3_late wsX3_orderAt := goodIn_ca (goodIn_r _ [5, 6, 7, 8, 9, 10, 4, 11, 22, 23, 24, 25, 26, 27, 28, 29, 30] (by decide +kernel) (by decide +kernel)) (goodIn_sub (fun _ h => List.mem_cons_of_mem _ (List.mem_append_right _ h)) (by decide +kernel))
set_option maxRecDepth 20000 in
theorem gX3_late_X3_orderAt : GoodIn wsX3_late (wsV RX3 145 RX3 yX3_orderAt wsX3_orderAt) := goodIn_app (goodIn_of _ (by decide +kernel)) ggX3_late_X3_orderAt
theorem dX3_late_0 : decode cX3_late 0 = .ok (.aload_n 0, 1) := by decide +kernel
theorem dX3_late_1 : decode cX3_late 1 = .ok (.iload_n 1, 1) := by decide +kernel
theorem dX3_late_2 : decode cX3_late 2 = .ok (.invokevirtual 145, 3) := by decide +kernel
theorem dX3_late_5 : decode cX3_late 5 = .ok (.astore_n 2, 1) := by decide +kernel
theorem dX3_late_6 : decode cX3_late 6 = .ok (.aload_n 2, 1) := by decide +kernel
theorem dX3_late_7 : decode cX3_late 7 = .ok (.getfield 155, 3) := by decide +kernel
theorem dX3_late_10 : decode cX3_late 10 = .ok (.aload_n 2, 1) := by decide +kernel
theorem dX3_late_11 : decode cX3_late 11 = .ok (.getfield 158, 3) := by decide +kernel
theorem dX3_late_14 : decode cX3_late 14 = .ok (.iadd, 1) := by decide +kernel
theorem dX3_late_15 : decode cX3_late 15 = .ok (.ireturn, 1) := by decide +kernel
set_option maxRecDepth 20000 in
theorem ggX3_money_X3_orderAt : GoodIn wsX3_money wsX3_orderAt := goodIn_ca (goodIn_r _ [5, 6, 7, 8, 9, 10, 4, 11, 22, 23, 24, 25, 26, 27, 28, 29, 30] (by decide +kernel) (by decide +kernel)) (goodIn_sub (fun _ h => List.mem_cons_of_mem _ (List.mem_append_right _ h)) (by decide +kernel))
set_option maxRecDepth 20000 in
theorem gX3_money_X3_orderAt : GoodIn wsX3_money (wsV RX3 145 RX3 yX3_orderAt wsX3_orderAt) := goodIn_app (goodIn_of _ (by decide +kernel)) ggX3_money_X3_orderAt
theorem dX3_money_0 : decode cX3_money 0 = .ok (.aload_n 0, 1) := by decide +kernel
theorem dX3_money_1 : decode cX3_money 1 = .ok (.iload_n 1, 1) := by decide +kernel
theorem dX3_money_2 : decode cX3_money 2 = .ok (.invokevirtual 145, 3) := by decide +kernel
theorem dX3_money_5 : decode cX3_money 5 = .ok (.getfield 161, 3) := by decide +kernel
theorem dX3_money_8 : decode cX3_money 8 = .ok (.lreturn, 1) := by decide +kernel
set_option maxRecDepth 20000 in
theorem ggX3_madeGood_X3_orderAt : GoodIn wsX3_madeGood wsX3_orderAt := goodIn_ca (goodIn_r _ [5, 6, 7, 8, 9, 10, 4, 11, 22, 23, 24, 25, 26, 27, 28, 29, 30] (by decide +kernel) (by decide +kernel)) (goodIn_sub (fun _ h => List.mem_cons_of_mem _ (List.mem_append_right _ h)) (by decide +kernel))
set_option maxRecDepth 20000 in
theorem gX3_madeGood_X3_orderAt : GoodIn wsX3_madeGood (wsV RX3 145 RX3 yX3_orderAt wsX3_orderAt) := goodIn_app (goodIn_of _ (by decide +kernel)) ggX3_madeGood_X3_orderAt
theorem dX3_madeGood_0 : decode cX3_madeGood 0 = .ok (.aload_n 0, 1) := by decide +kernel
theorem dX3_madeGood_1 : decode cX3_madeGood 1 = .ok (.iload_n 1, 1) := by decide +kernel
theorem dX3_madeGood_2 : decode cX3_madeGood 2 = .ok (.invokevirtual 145, 3) := by decide +kernel
theorem dX3_madeGood_5 : decode cX3_madeGood 5 = .ok (.getfield 164, 3) := by decide +kernel
theorem dX3_madeGood_8 : decode cX3_madeGood 8 = .ok (.lreturn, 1) := by decide +kernel
set_option maxRecDepth 20000 in
theorem ggX3_owes_X3_checkProvider : GoodIn wsX3_owes wsX3_checkProvider := goodIn_ca (goodIn_r _ [5, 6, 7, 8, 9, 4, 10, 11, 12, 13] (by decide +kernel) (by decide +kernel)) (goodIn_sub (fun _ h => List.mem_cons_of_mem _ (List.mem_append_right _ h)) (by decide +kernel))
set_option maxRecDepth 20000 in
theorem gX3_owes_X3_checkProvider : GoodIn wsX3_owes (va_wsS RX3 122 yX3_checkProvider wsX3_checkProvider) := goodIn_app (goodIn_of _ (by decide +kernel)) ggX3_owes_X3_checkProvider
theorem dX3_owes_0 : decode cX3_owes 0 = .ok (.iload_n 1, 1) := by decide +kernel
theorem dX3_owes_1 : decode cX3_owes 1 = .ok (.invokestatic 122, 3) := by decide +kernel
theorem dX3_owes_4 : decode cX3_owes 4 = .ok (.iload_n 2, 1) := by decide +kernel
theorem dX3_owes_5 : decode cX3_owes 5 = .ok (.invokestatic 122, 3) := by decide +kernel
theorem dX3_owes_8 : decode cX3_owes 8 = .ok (.aload_n 0, 1) := by decide +kernel
theorem dX3_owes_9 : decode cX3_owes 9 = .ok (.getfield 17, 3) := by decide +kernel
theorem dX3_owes_12 : decode cX3_owes 12 = .ok (.iload_n 1, 1) := by decide +kernel
theorem dX3_owes_13 : decode cX3_owes 13 = .ok (.aaload, 1) := by decide +kernel
theorem dX3_owes_14 : decode cX3_owes 14 = .ok (.iload_n 2, 1) := by decide +kernel
theorem dX3_owes_15 : decode cX3_owes 15 = .ok (.laload, 1) := by decide +kernel
theorem dX3_owes_16 : decode cX3_owes 16 = .ok (.aload_n 0, 1) := by decide +kernel
theorem dX3_owes_17 : decode cX3_owes 17 = .ok (.getfield 17, 3) := by decide +kernel
theorem dX3_owes_20 : decode cX3_owes 20 = .ok (.iload_n 2, 1) := by decide +kernel
theorem dX3_owes_21 : decode cX3_owes 21 = .ok (.aaload, 1) := by decide +kernel
theorem dX3_owes_22 : decode cX3_owes 22 = .ok (.iload_n 1, 1) := by decide +kernel
theorem dX3_owes_23 : decode cX3_owes 23 = .ok (.laload, 1) := by decide +kernel
theorem dX3_owes_24 : decode cX3_owes 24 = .ok (.lsub, 1) := by decide +kernel
theorem dX3_owes_25 : decode cX3_owes 25 = .ok (.lreturn, 1) := by decide +kernel
set_option maxRecDepth 20000 in
theorem ggX3_losses_X3_checkProvider : GoodIn wsX3_losses wsX3_checkProvider := goodIn_ca (goodIn_r _ [5, 6, 7, 8, 9, 4, 10, 11, 12, 13] (by decide +kernel) (by decide +kernel)) (goodIn_sub (fun _ h => List.mem_cons_of_mem _ (List.mem_append_right _ h)) (by decide +kernel))
set_option maxRecDepth 20000 in
theorem gX3_losses_X3_checkProvider : GoodIn wsX3_losses (va_wsS RX3 122 yX3_checkProvider wsX3_checkProvider) := goodIn_app (goodIn_of _ (by decide +kernel)) ggX3_losses_X3_checkProvider
theorem dX3_losses_0 : decode cX3_losses 0 = .ok (.iload_n 1, 1) := by decide +kernel
theorem dX3_losses_1 : decode cX3_losses 1 = .ok (.invokestatic 122, 3) := by decide +kernel
theorem dX3_losses_4 : decode cX3_losses 4 = .ok (.aload_n 0, 1) := by decide +kernel
theorem dX3_losses_5 : decode cX3_losses 5 = .ok (.getfield 20, 3) := by decide +kernel
theorem dX3_losses_8 : decode cX3_losses 8 = .ok (.iload_n 1, 1) := by decide +kernel
theorem dX3_losses_9 : decode cX3_losses 9 = .ok (.laload, 1) := by decide +kernel
theorem dX3_losses_10 : decode cX3_losses 10 = .ok (.lreturn, 1) := by decide +kernel
set_option maxRecDepth 20000 in
theorem ggX3_doNextStep_X0_latenessOn : GoodIn wsX3_doNextStep wsX0_latenessOn := goodIn_r _ [6, 7, 8, 9, 10, 11, 12, 13, 5, 14, 15, 16, 111, 112, 113, 114, 115, 116, 117, 118, 119, 120] (by decide +kernel) (by decide +kernel)
set_option maxRecDepth 20000 in
theorem gX3_doNextStep_X0_latenessOn : GoodIn wsX3_doNextStep (wsV RX3 140 RX0 yX0_latenessOn wsX0_latenessOn) := goodIn_app (goodIn_of _ (by decide +kernel)) ggX3_doNextStep_X0_latenessOn
set_option maxRecDepth 20000 in
theorem ggX3_doNextStep_X3_sell : GoodIn wsX3_doNextStep wsX3_sell := goodIn_ca (goodIn_ca (goodIn_r _ [21, 22, 23, 24, 25, 20, 26, 27, 28, 29, 30, 31, 32, 33, 34, 35, 36, 1, 37, 38, 39, 40, 41, 42, 43, 44, 45, 46, 47, 48, 49, 50, 51, 52, 53, 54, 55, 56, 57, 58, 111, 112, 113, 114, 115, 116, 117, 118, 119, 120, 121, 122, 123, 102, 103, 104, 105, 106, 107, 108, 109, 110, 124, 125, 126, 127] (by decide +kernel) (by decide +kernel)) (goodIn_sub (fun _ h => List.mem_cons_of_mem _ (List.mem_append_left _ (List.mem_append_left _ (List.mem_append_right _ h)))) (by decide +kernel))) (goodIn_sub (fun _ h => List.mem_cons_of_mem _ (List.mem_append_left _ (List.mem_append_right _ h))) (by decide +kernel))
set_option maxRecDepth 20000 in
theorem gX3_doNextStep_X3_sell : GoodIn wsX3_doNextStep (wsV RX3 167 RX3 yX3_sell wsX3_sell) := goodIn_app (goodIn_of _ (by decide +kernel)) ggX3_doNextStep_X3_sell
set_option maxRecDepth 20000 in
theorem ggX3_doNextStep_X3_buy : GoodIn wsX3_doNextStep wsX3_buy := goodIn_ca (goodIn_ca (goodIn_ca (goodIn_r _ [62, 22, 63, 64, 9, 65, 23, 24, 25, 20, 26, 27, 28, 29, 30, 31, 32, 33, 34, 35, 36, 1, 37, 38, 39, 40, 41, 42, 43, 44, 45, 46, 47, 48, 49, 50, 51, 52, 53, 54, 66, 67, 68, 58, 69, 70, 71, 72, 55, 56, 57, 73, 74, 75, 76, 77, 78, 79, 80, 81, 82, 83, 84, 85, 86, 87, 88, 89, 90, 91, 92, 93, 94, 95, 111, 112, 113, 114, 115, 116, 117, 118, 119, 120, 102, 103, 104, 105, 106, 107, 108, 109, 110, 124, 125, 126, 127, 121, 122, 123] (by decide +kernel) (by decide +kernel)) (goodIn_sub (fun _ h => List.mem_cons_of_mem _ (List.mem_append_left _ (List.mem_append_left _ (List.mem_append_right _ h)))) (by decide +kernel))) (goodIn_sub (fun _ h => List.mem_cons_of_mem _ (List.mem_append_left _ (List.mem_append_right _ h))) (by decide +kernel))) (goodIn_sub (fun _ h => List.mem_cons_of_mem _ (List.mem_append_right _ h)) (by decide +kernel))
set_option maxRecDepth 20000 in
theorem gX3_doNextStep_X3_buy : GoodIn wsX3_doNextStep (wsV RX3 171 RX3 yX3_buy wsX3_buy) := goodIn_app (goodIn_of _ (by decide +kernel)) ggX3_doNextStep_X3_buy
set_option maxRecDepth 20000 in
theorem ggX3_doNextStep_X0_goOn : GoodIn wsX3_doNextStep wsX0_goOn := goodIn_r _ [99, 15, 100, 101, 16, 111, 112, 113, 114, 115, 116, 117, 118, 119, 120] (by decide +kernel) (by decide +kernel)
set_option maxRecDepth 20000 in
theorem gX3_doNextStep_X0_goOn : GoodIn wsX3_doNextStep (wsV RX3 175 RX0 yX0_goOn wsX0_goOn) := goodIn_app (goodIn_of _ (by decide +kernel)) ggX3_doNextStep_X0_goOn
theorem dX3_doNextStep_0 : decode cX3_doNextStep 0 = .ok (.aload_n 1, 1) := by decide +kernel
theorem dX3_doNextStep_1 : decode cX3_doNextStep 1 = .ok (.aload_n 0, 1) := by decide +kernel
theorem dX3_doNextStep_2 : decode cX3_doNextStep 2 = .ok (.getfield 36, 3) := by decide +kernel
theorem dX3_doNextStep_5 : decode cX3_doNextStep 5 = .ok (.invokevirtual 140, 3) := by decide +kernel
theorem dX3_doNextStep_8 : decode cX3_doNextStep 8 = .ok (.istore_n 3, 1) := by decide +kernel
theorem dX3_doNextStep_9 : decode cX3_doNextStep 9 = .ok (.aload_n 1, 1) := by decide +kernel
theorem dX3_doNextStep_10 : decode cX3_doNextStep 10 = .ok (.getfield 148, 3) := by decide +kernel
theorem dX3_doNextStep_13 : decode cX3_doNextStep 13 = .ok (.iconst 1, 1) := by decide +kernel
theorem dX3_doNextStep_14 : decode cX3_doNextStep 14 = .ok (.if_icmp .ne 12, 3) := by decide +kernel
theorem dX3_doNextStep_17 : decode cX3_doNextStep 17 = .ok (.aload_n 0, 1) := by decide +kernel
theorem dX3_doNextStep_18 : decode cX3_doNextStep 18 = .ok (.aload_n 1, 1) := by decide +kernel
theorem dX3_doNextStep_19 : decode cX3_doNextStep 19 = .ok (.iload_n 2, 1) := by decide +kernel
theorem dX3_doNextStep_20 : decode cX3_doNextStep 20 = .ok (.invokevirtual 167, 3) := by decide +kernel
theorem dX3_doNextStep_23 : decode cX3_doNextStep 23 = .ok (.goto 18, 3) := by decide +kernel
theorem dX3_doNextStep_26 : decode cX3_doNextStep 26 = .ok (.aload_n 1, 1) := by decide +kernel
theorem dX3_doNextStep_27 : decode cX3_doNextStep 27 = .ok (.getfield 148, 3) := by decide +kernel
theorem dX3_doNextStep_30 : decode cX3_doNextStep 30 = .ok (.iconst 2, 1) := by decide +kernel
theorem dX3_doNextStep_31 : decode cX3_doNextStep 31 = .ok (.if_icmp .ne 10, 3) := by decide +kernel
theorem dX3_doNextStep_34 : decode cX3_doNextStep 34 = .ok (.aload_n 0, 1) := by decide +kernel
theorem dX3_doNextStep_35 : decode cX3_doNextStep 35 = .ok (.aload_n 1, 1) := by decide +kernel
theorem dX3_doNextStep_36 : decode cX3_doNextStep 36 = .ok (.iload_n 3, 1) := by decide +kernel
theorem dX3_doNextStep_37 : decode cX3_doNextStep 37 = .ok (.iload_n 2, 1) := by decide +kernel
theorem dX3_doNextStep_38 : decode cX3_doNextStep 38 = .ok (.invokevirtual 171, 3) := by decide +kernel
theorem dX3_doNextStep_41 : decode cX3_doNextStep 41 = .ok (.aload_n 1, 1) := by decide +kernel
theorem dX3_doNextStep_42 : decode cX3_doNextStep 42 = .ok (.aload_n 0, 1) := by decide +kernel
theorem dX3_doNextStep_43 : decode cX3_doNextStep 43 = .ok (.getfield 36, 3) := by decide +kernel
theorem dX3_doNextStep_46 : decode cX3_doNextStep 46 = .ok (.iload_n 3, 1) := by decide +kernel
theorem dX3_doNextStep_47 : decode cX3_doNextStep 47 = .ok (.invokevirtual 175, 3) := by decide +kernel
theorem dX3_doNextStep_50 : decode cX3_doNextStep 50 = .ok (.iload_n 3, 1) := by decide +kernel
theorem dX3_doNextStep_51 : decode cX3_doNextStep 51 = .ok (.ireturn, 1) := by decide +kernel
set_option maxRecDepth 20000 in
theorem ggX3_sell_X3_saverAt : GoodIn wsX3_sell wsX3_saverAt := goodIn_ca (goodIn_r _ [6, 7, 8, 9, 10, 11, 5, 12, 53, 54, 55, 56, 57, 58, 59, 60, 61] (by decide +kernel) (by decide +kernel)) (goodIn_sub (fun _ h => List.mem_cons_of_mem _ (List.mem_append_left _ (List.mem_append_right _ h))) (by decide +kernel))
set_option maxRecDepth 20000 in
theorem gX3_sell_X3_saverAt : GoodIn wsX3_sell (wsV RX3 98 RX3 yX3_saverAt wsX3_saverAt) := goodIn_app (goodIn_of _ (by decide +kernel)) ggX3_sell_X3_saverAt
set_option maxRecDepth 20000 in
theorem ggX3_sell_X3_priceNow : GoodIn wsX3_sell wsX3_priceNow := goodIn_ca (goodIn_r _ [16, 17, 18, 19, 20, 5, 21, 22, 23, 24, 25, 26, 27, 10, 11, 12, 28, 29, 30, 31, 32, 33, 34, 35, 53, 54, 55, 56, 57, 58, 59, 60, 61, 62, 63, 64, 65] (by decide +kernel) (by decide +kernel)) (goodIn_sub (fun _ h => List.mem_cons_of_mem _ (List.mem_append_right _ h)) (by decide +kernel))
set_option maxRecDepth 20000 in
theorem gX3_sell_X3_priceNow : GoodIn wsX3_sell (wsV RX3 111 RX3 yX3_priceNow wsX3_priceNow) := goodIn_app (goodIn_of _ (by decide +kernel)) ggX3_sell_X3_priceNow
set_option maxRecDepth 20000 in
theorem ggX3_sell_X3_moneyFor : GoodIn wsX3_sell wsX3_moneyFor := goodIn_r _ [38, 39] (by decide +kernel) (by decide +kernel)
set_option maxRecDepth 20000 in
theorem gX3_sell_X3_moneyFor : GoodIn wsX3_sell (va_wsS RX3 188 yX3_moneyFor wsX3_moneyFor) := goodIn_app (goodIn_of _ (by decide +kernel)) ggX3_sell_X3_moneyFor
theorem dX3_sell_0 : decode cX3_sell 0 = .ok (.aload_n 0, 1) := by decide +kernel
theorem dX3_sell_1 : decode cX3_sell 1 = .ok (.aload_n 1, 1) := by decide +kernel
theorem dX3_sell_2 : decode cX3_sell 2 = .ok (.getfield 179, 3) := by decide +kernel
theorem dX3_sell_5 : decode cX3_sell 5 = .ok (.invokevirtual 98, 3) := by decide +kernel
theorem dX3_sell_8 : decode cX3_sell 8 = .ok (.astore_n 3, 1) := by decide +kernel
theorem dX3_sell_9 : decode cX3_sell 9 = .ok (.aload_n 1, 1) := by decide +kernel
theorem dX3_sell_10 : decode cX3_sell 10 = .ok (.aload_n 3, 1) := by decide +kernel
theorem dX3_sell_11 : decode cX3_sell 11 = .ok (.getfield 114, 3) := by decide +kernel
theorem dX3_sell_14 : decode cX3_sell 14 = .ok (.putfield 182, 3) := by decide +kernel
theorem dX3_sell_17 : decode cX3_sell 17 = .ok (.aload_n 1, 1) := by decide +kernel
theorem dX3_sell_18 : decode cX3_sell 18 = .ok (.aload_n 1, 1) := by decide +kernel
theorem dX3_sell_19 : decode cX3_sell 19 = .ok (.getfield 182, 3) := by decide +kernel
theorem dX3_sell_22 : decode cX3_sell 22 = .ok (.iload_n 2, 1) := by decide +kernel
theorem dX3_sell_23 : decode cX3_sell 23 = .ok (.ifCond .eq 10, 3) := by decide +kernel
theorem dX3_sell_26 : decode cX3_sell 26 = .ok (.aload_n 0, 1) := by decide +kernel
theorem dX3_sell_27 : decode cX3_sell 27 = .ok (.getfield 40, 3) := by decide +kernel
theorem dX3_sell_30 : decode cX3_sell 30 = .ok (.goto 11, 3) := by decide +kernel
theorem dX3_sell_33 : decode cX3_sell 33 = .ok (.aload_n 0, 1) := by decide +kernel
theorem dX3_sell_34 : decode cX3_sell 34 = .ok (.aload_n 1, 1) := by decide +kernel
theorem dX3_sell_35 : decode cX3_sell 35 = .ok (.getfield 185, 3) := by decide +kernel
theorem dX3_sell_38 : decode cX3_sell 38 = .ok (.invokevirtual 111, 3) := by decide +kernel
theorem dX3_sell_41 : decode cX3_sell 41 = .ok (.invokestatic 188, 3) := by decide +kernel
theorem dX3_sell_44 : decode cX3_sell 44 = .ok (.putfield 161, 3) := by decide +kernel
theorem dX3_sell_47 : decode cX3_sell 47 = .ok (.aload_n 3, 1) := by decide +kernel
theorem dX3_sell_48 : decode cX3_sell 48 = .ok (.lconst 0, 1) := by decide +kernel
theorem dX3_sell_49 : decode cX3_sell 49 = .ok (.putfield 114, 3) := by decide +kernel
theorem dX3_sell_52 : decode cX3_sell 52 = .ok (.return_, 1) := by decide +kernel
set_option maxRecDepth 20000 in
theorem ggX3_buy_X3_saverAt : GoodIn wsX3_buy wsX3_saverAt := goodIn_ca (goodIn_r _ [10, 11, 12, 13, 14, 15, 9, 16, 84, 85, 86, 87, 88, 89, 90, 91, 92] (by decide +kernel) (by decide +kernel)) (goodIn_sub (fun _ h => List.mem_cons_of_mem _ (List.mem_append_left _ (List.mem_append_left _ (List.mem_append_right _ h)))) (by decide +kernel))
set_option maxRecDepth 20000 in
theorem gX3_buy_X3_saverAt : GoodIn wsX3_buy (wsV RX3 98 RX3 yX3_saverAt wsX3_saverAt) := goodIn_app (goodIn_of _ (by decide +kernel)) ggX3_buy_X3_saverAt
set_option maxRecDepth 20000 in
theorem ggX3_buy_X3_priceNow : GoodIn wsX3_buy wsX3_priceNow := goodIn_ca (goodIn_r _ [20, 21, 22, 23, 24, 9, 25, 26, 27, 28, 29, 30, 31, 14, 15, 16, 32, 33, 34, 35, 36, 37, 38, 39, 84, 85, 86, 87, 88, 89, 90, 91, 92, 93, 94, 95, 96] (by decide +kernel) (by decide +kernel)) (goodIn_sub (fun _ h => List.mem_cons_of_mem _ (List.mem_append_left _ (List.mem_append_right _ h))) (by decide +kernel))
set_option maxRecDepth 20000 in
theorem gX3_buy_X3_priceNow : GoodIn wsX3_buy (wsV RX3 111 RX3 yX3_priceNow wsX3_priceNow) := goodIn_app (goodIn_of _ (by decide +kernel)) ggX3_buy_X3_priceNow
set_option maxRecDepth 20000 in
theorem ggX3_buy_X3_thousandthsFor : GoodIn wsX3_buy wsX3_thousandthsFor := goodIn_r _ [42, 43] (by decide +kernel) (by decide +kernel)
set_option maxRecDepth 20000 in
theorem gX3_buy_X3_thousandthsFor : GoodIn wsX3_buy (va_wsS RX3 91 yX3_thousandthsFor wsX3_thousandthsFor) := goodIn_app (goodIn_of _ (by decide +kernel)) ggX3_buy_X3_thousandthsFor
set_option maxRecDepth 20000 in
theorem ggX3_buy_X3_timelyThousandths : GoodIn wsX3_buy wsX3_timelyThousandths := goodIn_ca (goodIn_r _ [47, 21, 22, 23, 24, 9, 25, 26, 27, 28, 29, 30, 31, 14, 15, 16, 32, 33, 34, 35, 36, 37, 38, 39, 48, 49, 50, 43, 40, 41, 42, 74, 75, 76, 77, 78, 79, 80, 81, 82, 83, 84, 85, 86, 87, 88, 89, 90, 91, 92, 93, 94, 95, 96] (by decide +kernel) (by decide +kernel)) (goodIn_sub (fun _ h => List.mem_cons_of_mem _ (List.mem_append_left _ (List.mem_append_right _ h))) (by decide +kernel))
set_option maxRecDepth 20000 in
theorem gX3_buy_X3_timelyThousandths : GoodIn wsX3_buy (wsV RX3 194 RX3 yX3_timelyThousandths wsX3_timelyThousandths) := goodIn_app (goodIn_of _ (by decide +kernel)) ggX3_buy_X3_timelyThousandths
set_option maxRecDepth 20000 in
theorem ggX3_buy_X3_checkHolding : GoodIn wsX3_buy wsX3_checkHolding := goodIn_ca (goodIn_r _ [53, 54, 55, 56] (by decide +kernel) (by decide +kernel)) (goodIn_sub (fun _ h => List.mem_cons_of_mem _ (List.mem_append_right _ h)) (by decide +kernel))
set_option maxRecDepth 20000 in
theorem gX3_buy_X3_checkHolding : GoodIn wsX3_buy (va_wsS RX3 118 yX3_checkHolding wsX3_checkHolding) := goodIn_app (goodIn_of _ (by decide +kernel)) ggX3_buy_X3_checkHolding
set_option maxRecDepth 20000 in
theorem ggX3_buy_X3_costOf : GoodIn wsX3_buy wsX3_costOf := goodIn_r _ [59, 43] (by decide +kernel) (by decide +kernel)
set_option maxRecDepth 20000 in
theorem gX3_buy_X3_costOf : GoodIn wsX3_buy (va_wsS RX3 204 yX3_costOf wsX3_costOf) := goodIn_app (goodIn_of _ (by decide +kernel)) ggX3_buy_X3_costOf
set_option maxRecDepth 20000 in
theorem ggX3_buy_X3_shareCost : GoodIn wsX3_buy wsX3_shareCost := goodIn_r _ [63, 64, 65, 29, 30, 9, 31, 14, 15, 16, 74, 75, 76, 77, 78, 79, 80, 81, 82, 83, 84, 85, 86, 87, 88, 89, 90, 91, 92] (by decide +kernel) (by decide +kernel)
set_option maxRecDepth 20000 in
theorem gX3_buy_X3_shareCost : GoodIn wsX3_buy (wsV RX3 207 RX3 yX3_shareCost wsX3_shareCost) := goodIn_app (goodIn_of _ (by decide +kernel)) ggX3_buy_X3_shareCost
set_option maxRecDepth 20000 in
theorem ggX3_buy_X2_arrive : GoodIn wsX3_buy wsX2_arrive := goodIn_r _ [70, 71, 72, 73, 97, 98, 99] (by decide +kernel) (by decide +kernel)
set_option maxRecDepth 20000 in
theorem gX3_buy_X2_arrive : GoodIn wsX3_buy (wsV RX3 211 RX2 yX2_arrive wsX2_arrive) := goodIn_app (goodIn_of _ (by decide +kernel)) ggX3_buy_X2_arrive
theorem dX3_buy_0 : decode cX3_buy 0 = .ok (.aload_n 0, 1) := by decide +kernel
theorem dX3_buy_1 : decode cX3_buy 1 = .ok (.aload_n 1, 1) := by decide +kernel
theorem dX3_buy_2 : decode cX3_buy 2 = .ok (.getfield 179, 3) := by decide +kernel
theorem dX3_buy_5 : decode cX3_buy 5 = .ok (.invokevirtual 98, 3) := by decide +kernel
theorem dX3_buy_8 : decode cX3_buy 8 = .ok (.astore 4, 2) := by decide +kernel
theorem dX3_buy_10 : decode cX3_buy 10 = .ok (.aload_n 0, 1) := by decide +kernel
theorem dX3_buy_11 : decode cX3_buy 11 = .ok (.aload_n 1, 1) := by decide +kernel
theorem dX3_buy_12 : decode cX3_buy 12 = .ok (.getfield 191, 3) := by decide +kernel
theorem dX3_buy_15 : decode cX3_buy 15 = .ok (.invokevirtual 111, 3) := by decide +kernel
theorem dX3_buy_18 : decode cX3_buy 18 = .ok (.istore 5, 2) := by decide +kernel
theorem dX3_buy_20 : decode cX3_buy 20 = .ok (.aload_n 1, 1) := by decide +kernel
theorem dX3_buy_21 : decode cX3_buy 21 = .ok (.getfield 161, 3) := by decide +kernel
theorem dX3_buy_24 : decode cX3_buy 24 = .ok (.iload_n 3, 1) := by decide +kernel
theorem dX3_buy_25 : decode cX3_buy 25 = .ok (.ifCond .eq 10, 3) := by decide +kernel
theorem dX3_buy_28 : decode cX3_buy 28 = .ok (.aload_n 0, 1) := by decide +kernel
theorem dX3_buy_29 : decode cX3_buy 29 = .ok (.getfield 40, 3) := by decide +kernel
theorem dX3_buy_32 : decode cX3_buy 32 = .ok (.goto 5, 3) := by decide +kernel
theorem dX3_buy_35 : decode cX3_buy 35 = .ok (.iload 5, 2) := by decide +kernel
theorem dX3_buy_37 : decode cX3_buy 37 = .ok (.invokestatic 91, 3) := by decide +kernel
theorem dX3_buy_40 : decode cX3_buy 40 = .ok (.lstore 6, 2) := by decide +kernel
theorem dX3_buy_42 : decode cX3_buy 42 = .ok (.aload_n 1, 1) := by decide +kernel
theorem dX3_buy_43 : decode cX3_buy 43 = .ok (.getfield 155, 3) := by decide +kernel
theorem dX3_buy_46 : decode cX3_buy 46 = .ok (.iload_n 2, 1) := by decide +kernel
theorem dX3_buy_47 : decode cX3_buy 47 = .ok (.iadd, 1) := by decide +kernel
theorem dX3_buy_48 : decode cX3_buy 48 = .ok (.istore 8, 2) := by decide +kernel
theorem dX3_buy_50 : decode cX3_buy 50 = .ok (.lconst 0, 1) := by decide +kernel
theorem dX3_buy_51 : decode cX3_buy 51 = .ok (.lstore 9, 2) := by decide +kernel
theorem dX3_buy_53 : decode cX3_buy 53 = .ok (.iload 8, 2) := by decide +kernel
theorem dX3_buy_55 : decode cX3_buy 55 = .ok (.ifCond .le 19, 3) := by decide +kernel
theorem dX3_buy_58 : decode cX3_buy 58 = .ok (.lconst 0, 1) := by decide +kernel
theorem dX3_buy_59 : decode cX3_buy 59 = .ok (.aload_n 0, 1) := by decide +kernel
theorem dX3_buy_60 : decode cX3_buy 60 = .ok (.aload_n 1, 1) := by decide +kernel
theorem dX3_buy_61 : decode cX3_buy 61 = .ok (.iload 8, 2) := by decide +kernel
theorem dX3_buy_63 : decode cX3_buy 63 = .ok (.invokevirtual 194, 3) := by decide +kernel
theorem dX3_buy_66 : decode cX3_buy 66 = .ok (.lload 6, 2) := by decide +kernel
theorem dX3_buy_68 : decode cX3_buy 68 = .ok (.lsub, 1) := by decide +kernel
theorem dX3_buy_69 : decode cX3_buy 69 = .ok (.invokestatic 198, 3) := by decide +kernel
theorem dX3_buy_72 : decode cX3_buy 72 = .ok (.lstore 9, 2) := by decide +kernel
theorem dX3_buy_74 : decode cX3_buy 74 = .ok (.lload 6, 2) := by decide +kernel
theorem dX3_buy_76 : decode cX3_buy 76 = .ok (.lload 9, 2) := by decide +kernel
theorem dX3_buy_78 : decode cX3_buy 78 = .ok (.ladd, 1) := by decide +kernel
theorem dX3_buy_79 : decode cX3_buy 79 = .ok (.invokestatic 118, 3) := by decide +kernel
theorem dX3_buy_82 : decode cX3_buy 82 = .ok (.aload_n 0, 1) := by decide +kernel
theorem dX3_buy_83 : decode cX3_buy 83 = .ok (.aload_n 1, 1) := by decide +kernel
theorem dX3_buy_84 : decode cX3_buy 84 = .ok (.lload 9, 2) := by decide +kernel
theorem dX3_buy_86 : decode cX3_buy 86 = .ok (.iload 5, 2) := by decide +kernel
theorem dX3_buy_88 : decode cX3_buy 88 = .ok (.invokestatic 204, 3) := by decide +kernel
theorem dX3_buy_91 : decode cX3_buy 91 = .ok (.iload 8, 2) := by decide +kernel
theorem dX3_buy_93 : decode cX3_buy 93 = .ok (.invokevirtual 207, 3) := by decide +kernel
theorem dX3_buy_96 : decode cX3_buy 96 = .ok (.aload_n 1, 1) := by decide +kernel
theorem dX3_buy_97 : decode cX3_buy 97 = .ok (.lload 9, 2) := by decide +kernel
theorem dX3_buy_99 : decode cX3_buy 99 = .ok (.putfield 164, 3) := by decide +kernel
theorem dX3_buy_102 : decode cX3_buy 102 = .ok (.aload 4, 2) := by decide +kernel
theorem dX3_buy_104 : decode cX3_buy 104 = .ok (.aload_n 1, 1) := by decide +kernel
theorem dX3_buy_105 : decode cX3_buy 105 = .ok (.getfield 191, 3) := by decide +kernel
theorem dX3_buy_108 : decode cX3_buy 108 = .ok (.lload 6, 2) := by decide +kernel
theorem dX3_buy_110 : decode cX3_buy 110 = .ok (.lload 9, 2) := by decide +kernel
theorem dX3_buy_112 : decode cX3_buy 112 = .ok (.ladd, 1) := by decide +kernel
theorem dX3_buy_113 : decode cX3_buy 113 = .ok (.invokevirtual 211, 3) := by decide +kernel
theorem dX3_buy_116 : decode cX3_buy 116 = .ok (.return_, 1) := by decide +kernel
set_option maxRecDepth 20000 in
theorem ggX3_timelyThousandths_X3_priceRowOf : GoodIn wsX3_timelyThousandths wsX3_priceRowOf := goodIn_ca (goodIn_r _ [6, 7, 8, 9, 10, 11, 5, 12, 13, 14, 15, 41, 42, 43, 44, 45, 46, 47, 48, 49] (by decide +kernel) (by decide +kernel)) (goodIn_sub (fun _ h => List.mem_cons_of_mem _ (List.mem_append_right _ h)) (by decide +kernel))
set_option maxRecDepth 20000 in
theorem gX3_timelyThousandths_X3_priceRowOf : GoodIn wsX3_timelyThousandths (wsV RX3 66 RX3 yX3_priceRowOf wsX3_priceRowOf) := goodIn_app (goodIn_of _ (by decide +kernel)) ggX3_timelyThousandths_X3_priceRowOf
set_option maxRecDepth 20000 in
theorem ggX3_timelyThousandths_X1_valueOn : GoodIn wsX3_timelyThousandths wsX1_valueOn := goodIn_r _ [20, 21, 22, 23, 50, 51, 52, 53] (by decide +kernel) (by decide +kernel)
set_option maxRecDepth 20000 in
theorem gX3_timelyThousandths_X1_valueOn : GoodIn wsX3_timelyThousandths (wsV RX3 74 RX1 yX1_valueOn wsX1_valueOn) := goodIn_app (goodIn_of _ (by decide +kernel)) ggX3_timelyThousandths_X1_valueOn
set_option maxRecDepth 20000 in
theorem ggX3_timelyThousandths_X3_moneyFor : GoodIn wsX3_timelyThousandths wsX3_moneyFor := goodIn_r _ [26, 27] (by decide +kernel) (by decide +kernel)
set_option maxRecDepth 20000 in
theorem gX3_timelyThousandths_X3_moneyFor : GoodIn wsX3_timelyThousandths (va_wsS RX3 188 yX3_moneyFor wsX3_moneyFor) := goodIn_app (goodIn_of _ (by decide +kernel)) ggX3_timelyThousandths_X3_moneyFor
set_option maxRecDepth 20000 in
theorem ggX3_timelyThousandths_X3_thousandthsFor : GoodIn wsX3_timelyThousandths wsX3_thousandthsFor := goodIn_r _ [30, 27] (by decide +kernel) (by decide +kernel)
set_option maxRecDepth 20000 in
theorem gX3_timelyThousandths_X3_thousandthsFor : GoodIn wsX3_timelyThousandths (va_wsS RX3 91 yX3_thousandthsFor wsX3_thousandthsFor) := goodIn_app (goodIn_of _ (by decide +kernel)) ggX3_timelyThousandths_X3_thousandthsFor
theorem dX3_timelyThousandths_0 : decode cX3_timelyThousandths 0 = .ok (.aload_n 1, 1) := by decide +kernel
theorem dX3_timelyThousandths_1 : decode cX3_timelyThousandths 1 = .ok (.getfield 214, 3) := by decide +kernel
theorem dX3_timelyThousandths_4 : decode cX3_timelyThousandths 4 = .ok (.aload_n 1, 1) := by decide +kernel
theorem dX3_timelyThousandths_5 : decode cX3_timelyThousandths 5 = .ok (.getfield 155, 3) := by decide +kernel
theorem dX3_timelyThousandths_8 : decode cX3_timelyThousandths 8 = .ok (.isub, 1) := by decide +kernel
theorem dX3_timelyThousandths_9 : decode cX3_timelyThousandths 9 = .ok (.istore_n 3, 1) := by decide +kernel
theorem dX3_timelyThousandths_10 : decode cX3_timelyThousandths 10 = .ok (.aload_n 0, 1) := by decide +kernel
theorem dX3_timelyThousandths_11 : decode cX3_timelyThousandths 11 = .ok (.getfield 36, 3) := by decide +kernel
theorem dX3_timelyThousandths_14 : decode cX3_timelyThousandths 14 = .ok (.iload_n 2, 1) := by decide +kernel
theorem dX3_timelyThousandths_15 : decode cX3_timelyThousandths 15 = .ok (.isub, 1) := by decide +kernel
theorem dX3_timelyThousandths_16 : decode cX3_timelyThousandths 16 = .ok (.istore 4, 2) := by decide +kernel
theorem dX3_timelyThousandths_18 : decode cX3_timelyThousandths 18 = .ok (.aload_n 1, 1) := by decide +kernel
theorem dX3_timelyThousandths_19 : decode cX3_timelyThousandths 19 = .ok (.getfield 182, 3) := by decide +kernel
theorem dX3_timelyThousandths_22 : decode cX3_timelyThousandths 22 = .ok (.aload_n 0, 1) := by decide +kernel
theorem dX3_timelyThousandths_23 : decode cX3_timelyThousandths 23 = .ok (.aload_n 1, 1) := by decide +kernel
theorem dX3_timelyThousandths_24 : decode cX3_timelyThousandths 24 = .ok (.getfield 185, 3) := by decide +kernel
theorem dX3_timelyThousandths_27 : decode cX3_timelyThousandths 27 = .ok (.invokevirtual 66, 3) := by decide +kernel
theorem dX3_timelyThousandths_30 : decode cX3_timelyThousandths 30 = .ok (.iload_n 3, 1) := by decide +kernel
theorem dX3_timelyThousandths_31 : decode cX3_timelyThousandths 31 = .ok (.invokevirtual 74, 3) := by decide +kernel
theorem dX3_timelyThousandths_34 : decode cX3_timelyThousandths 34 = .ok (.invokestatic 188, 3) := by decide +kernel
theorem dX3_timelyThousandths_37 : decode cX3_timelyThousandths 37 = .ok (.lstore 5, 2) := by decide +kernel
theorem dX3_timelyThousandths_39 : decode cX3_timelyThousandths 39 = .ok (.lload 5, 2) := by decide +kernel
theorem dX3_timelyThousandths_41 : decode cX3_timelyThousandths 41 = .ok (.aload_n 0, 1) := by decide +kernel
theorem dX3_timelyThousandths_42 : decode cX3_timelyThousandths 42 = .ok (.aload_n 1, 1) := by decide +kernel
theorem dX3_timelyThousandths_43 : decode cX3_timelyThousandths 43 = .ok (.getfield 191, 3) := by decide +kernel
theorem dX3_timelyThousandths_46 : decode cX3_timelyThousandths 46 = .ok (.invokevirtual 66, 3) := by decide +kernel
theorem dX3_timelyThousandths_49 : decode cX3_timelyThousandths 49 = .ok (.iload 4, 2) := by decide +kernel
theorem dX3_timelyThousandths_51 : decode cX3_timelyThousandths 51 = .ok (.invokevirtual 74, 3) := by decide +kernel
theorem dX3_timelyThousandths_54 : decode cX3_timelyThousandths 54 = .ok (.invokestatic 91, 3) := by decide +kernel
theorem dX3_timelyThousandths_57 : decode cX3_timelyThousandths 57 = .ok (.lreturn, 1) := by decide +kernel
set_option maxRecDepth 20000 in
theorem ggX3_shareCost_X3_isProvider : GoodIn wsX3_shareCost wsX3_isProvider := goodIn_r _ [6, 7, 8, 5, 9] (by decide +kernel) (by decide +kernel)
set_option maxRecDepth 20000 in
theorem gX3_shareCost_X3_isProvider : GoodIn wsX3_shareCost (va_wsS RX3 217 yX3_isProvider wsX3_isProvider) := goodIn_app (goodIn_of _ (by decide +kernel)) ggX3_shareCost_X3_isProvider
theorem dX3_shareCost_0 : decode cX3_shareCost 0 = .ok (.iload 4, 2) := by decide +kernel
theorem dX3_shareCost_2 : decode cX3_shareCost 2 = .ok (.ifCond .le 23, 3) := by decide +kernel
theorem dX3_shareCost_5 : decode cX3_shareCost 5 = .ok (.aload_n 1, 1) := by decide +kernel
theorem dX3_shareCost_6 : decode cX3_shareCost 6 = .ok (.getfield 185, 3) := by decide +kernel
theorem dX3_shareCost_9 : decode cX3_shareCost 9 = .ok (.invokestatic 217, 3) := by decide +kernel
theorem dX3_shareCost_12 : decode cX3_shareCost 12 = .ok (.ifCond .eq 13, 3) := by decide +kernel
theorem dX3_shareCost_15 : decode cX3_shareCost 15 = .ok (.aload_n 1, 1) := by decide +kernel
theorem dX3_shareCost_16 : decode cX3_shareCost 16 = .ok (.getfield 191, 3) := by decide +kernel
theorem dX3_shareCost_19 : decode cX3_shareCost 19 = .ok (.invokestatic 217, 3) := by decide +kernel
theorem dX3_shareCost_22 : decode cX3_shareCost 22 = .ok (.ifCond .ne 4, 3) := by decide +kernel
theorem dX3_shareCost_25 : decode cX3_shareCost 25 = .ok (.return_, 1) := by decide +kernel
theorem dX3_shareCost_26 : decode cX3_shareCost 26 = .ok (.lload_n 2, 1) := by decide +kernel
theorem dX3_shareCost_27 : decode cX3_shareCost 27 = .ok (.aload_n 1, 1) := by decide +kernel
theorem dX3_shareCost_28 : decode cX3_shareCost 28 = .ok (.getfield 155, 3) := by decide +kernel
theorem dX3_shareCost_31 : decode cX3_shareCost 31 = .ok (.i2l, 1) := by decide +kernel
theorem dX3_shareCost_32 : decode cX3_shareCost 32 = .ok (.lmul, 1) := by decide +kernel
theorem dX3_shareCost_33 : decode cX3_shareCost 33 = .ok (.iload 4, 2) := by decide +kernel
theorem dX3_shareCost_35 : decode cX3_shareCost 35 = .ok (.i2l, 1) := by decide +kernel
theorem dX3_shareCost_36 : decode cX3_shareCost 36 = .ok (.ldiv, 1) := by decide +kernel
theorem dX3_shareCost_37 : decode cX3_shareCost 37 = .ok (.lstore 5, 2) := by decide +kernel
theorem dX3_shareCost_39 : decode cX3_shareCost 39 = .ok (.aload_n 0, 1) := by decide +kernel
theorem dX3_shareCost_40 : decode cX3_shareCost 40 = .ok (.getfield 17, 3) := by decide +kernel
theorem dX3_shareCost_43 : decode cX3_shareCost 43 = .ok (.aload_n 1, 1) := by decide +kernel
theorem dX3_shareCost_44 : decode cX3_shareCost 44 = .ok (.getfield 185, 3) := by decide +kernel
theorem dX3_shareCost_47 : decode cX3_shareCost 47 = .ok (.aaload, 1) := by decide +kernel
theorem dX3_shareCost_48 : decode cX3_shareCost 48 = .ok (.aload_n 1, 1) := by decide +kernel
theorem dX3_shareCost_49 : decode cX3_shareCost 49 = .ok (.getfield 191, 3) := by decide +kernel
theorem dX3_shareCost_52 : decode cX3_shareCost 52 = .ok (.dup2, 1) := by decide +kernel
theorem dX3_shareCost_53 : decode cX3_shareCost 53 = .ok (.laload, 1) := by decide +kernel
theorem dX3_shareCost_54 : decode cX3_shareCost 54 = .ok (.lload 5, 2) := by decide +kernel
theorem dX3_shareCost_56 : decode cX3_shareCost 56 = .ok (.ladd, 1) := by decide +kernel
theorem dX3_shareCost_57 : decode cX3_shareCost 57 = .ok (.lastore, 1) := by decide +kernel
theorem dX3_shareCost_58 : decode cX3_shareCost 58 = .ok (.aload_n 0, 1) := by decide +kernel
theorem dX3_shareCost_59 : decode cX3_shareCost 59 = .ok (.getfield 20, 3) := by decide +kernel
theorem dX3_shareCost_62 : decode cX3_shareCost 62 = .ok (.aload_n 1, 1) := by decide +kernel
theorem dX3_shareCost_63 : decode cX3_shareCost 63 = .ok (.getfield 191, 3) := by decide +kernel
theorem dX3_shareCost_66 : decode cX3_shareCost 66 = .ok (.dup2, 1) := by decide +kernel
theorem dX3_shareCost_67 : decode cX3_shareCost 67 = .ok (.laload, 1) := by decide +kernel
theorem dX3_shareCost_68 : decode cX3_shareCost 68 = .ok (.lload_n 2, 1) := by decide +kernel
theorem dX3_shareCost_69 : decode cX3_shareCost 69 = .ok (.lload 5, 2) := by decide +kernel
theorem dX3_shareCost_71 : decode cX3_shareCost 71 = .ok (.lsub, 1) := by decide +kernel
theorem dX3_shareCost_72 : decode cX3_shareCost 72 = .ok (.ladd, 1) := by decide +kernel
theorem dX3_shareCost_73 : decode cX3_shareCost 73 = .ok (.lastore, 1) := by decide +kernel
theorem dX3_shareCost_74 : decode cX3_shareCost 74 = .ok (.return_, 1) := by decide +kernel
theorem dX3_thousandthsFor_0 : decode cX3_thousandthsFor 0 = .ok (.iload_n 2, 1) := by decide +kernel
theorem dX3_thousandthsFor_1 : decode cX3_thousandthsFor 1 = .ok (.ifCond .gt 5, 3) := by decide +kernel
theorem dX3_thousandthsFor_4 : decode cX3_thousandthsFor 4 = .ok (.lconst 0, 1) := by decide +kernel
theorem dX3_thousandthsFor_5 : decode cX3_thousandthsFor 5 = .ok (.lreturn, 1) := by decide +kernel
theorem dX3_thousandthsFor_6 : decode cX3_thousandthsFor 6 = .ok (.lload_n 0, 1) := by decide +kernel
theorem dX3_thousandthsFor_7 : decode cX3_thousandthsFor 7 = .ok (.ldc2_w 221, 3) := by decide +kernel
theorem dX3_thousandthsFor_10 : decode cX3_thousandthsFor 10 = .ok (.lmul, 1) := by decide +kernel
theorem dX3_thousandthsFor_11 : decode cX3_thousandthsFor 11 = .ok (.iload_n 2, 1) := by decide +kernel
theorem dX3_thousandthsFor_12 : decode cX3_thousandthsFor 12 = .ok (.i2l, 1) := by decide +kernel
theorem dX3_thousandthsFor_13 : decode cX3_thousandthsFor 13 = .ok (.ldiv, 1) := by decide +kernel
theorem dX3_thousandthsFor_14 : decode cX3_thousandthsFor 14 = .ok (.lreturn, 1) := by decide +kernel
theorem dX3_moneyFor_0 : decode cX3_moneyFor 0 = .ok (.lload_n 0, 1) := by decide +kernel
theorem dX3_moneyFor_1 : decode cX3_moneyFor 1 = .ok (.iload_n 2, 1) := by decide +kernel
theorem dX3_moneyFor_2 : decode cX3_moneyFor 2 = .ok (.i2l, 1) := by decide +kernel
theorem dX3_moneyFor_3 : decode cX3_moneyFor 3 = .ok (.lmul, 1) := by decide +kernel
theorem dX3_moneyFor_4 : decode cX3_moneyFor 4 = .ok (.ldc2_w 221, 3) := by decide +kernel
theorem dX3_moneyFor_7 : decode cX3_moneyFor 7 = .ok (.ldiv, 1) := by decide +kernel
theorem dX3_moneyFor_8 : decode cX3_moneyFor 8 = .ok (.lreturn, 1) := by decide +kernel
theorem dX3_costOf_0 : decode cX3_costOf 0 = .ok (.lload_n 0, 1) := by decide +kernel
theorem dX3_costOf_1 : decode cX3_costOf 1 = .ok (.iload_n 2, 1) := by decide +kernel
theorem dX3_costOf_2 : decode cX3_costOf 2 = .ok (.i2l, 1) := by decide +kernel
theorem dX3_costOf_3 : decode cX3_costOf 3 = .ok (.lmul, 1) := by decide +kernel
theorem dX3_costOf_4 : decode cX3_costOf 4 = .ok (.ldc2_w 221, 3) := by decide +kernel
theorem dX3_costOf_7 : decode cX3_costOf 7 = .ok (.ladd, 1) := by decide +kernel
theorem dX3_costOf_8 : decode cX3_costOf 8 = .ok (.lconst 1, 1) := by decide +kernel
theorem dX3_costOf_9 : decode cX3_costOf 9 = .ok (.lsub, 1) := by decide +kernel
theorem dX3_costOf_10 : decode cX3_costOf 10 = .ok (.ldc2_w 221, 3) := by decide +kernel
theorem dX3_costOf_13 : decode cX3_costOf 13 = .ok (.ldiv, 1) := by decide +kernel
theorem dX3_costOf_14 : decode cX3_costOf 14 = .ok (.lreturn, 1) := by decide +kernel
theorem dX3_isOutside_0 : decode cX3_isOutside 0 = .ok (.iload_n 0, 1) := by decide +kernel
theorem dX3_isOutside_1 : decode cX3_isOutside 1 = .ok (.iload_n 1, 1) := by decide +kernel
theorem dX3_isOutside_2 : decode cX3_isOutside 2 = .ok (.if_icmp .lt 8, 3) := by decide +kernel
theorem dX3_isOutside_5 : decode cX3_isOutside 5 = .ok (.iload_n 0, 1) := by decide +kernel
theorem dX3_isOutside_6 : decode cX3_isOutside 6 = .ok (.iload_n 2, 1) := by decide +kernel
theorem dX3_isOutside_7 : decode cX3_isOutside 7 = .ok (.if_icmp .le 7, 3) := by decide +kernel
theorem dX3_isOutside_10 : decode cX3_isOutside 10 = .ok (.iconst 1, 1) := by decide +kernel
theorem dX3_isOutside_11 : decode cX3_isOutside 11 = .ok (.goto 4, 3) := by decide +kernel
theorem dX3_isOutside_14 : decode cX3_isOutside 14 = .ok (.iconst 0, 1) := by decide +kernel
theorem dX3_isOutside_15 : decode cX3_isOutside 15 = .ok (.ireturn, 1) := by decide +kernel
set_option maxRecDepth 20000 in
theorem ggX3_priceNow_X3_priceRowOf : GoodIn wsX3_priceNow wsX3_priceRowOf := goodIn_ca (goodIn_r _ [6, 7, 8, 9, 10, 11, 5, 12, 13, 14, 15, 24, 25, 26, 27, 28, 29, 30, 31, 32] (by decide +kernel) (by decide +kernel)) (goodIn_sub (fun _ h => List.mem_cons_of_mem _ (List.mem_append_right _ h)) (by decide +kernel))
set_option maxRecDepth 20000 in
theorem gX3_priceNow_X3_priceRowOf : GoodIn wsX3_priceNow (wsV RX3 66 RX3 yX3_priceRowOf wsX3_priceRowOf) := goodIn_app (goodIn_of _ (by decide +kernel)) ggX3_priceNow_X3_priceRowOf
set_option maxRecDepth 20000 in
theorem ggX3_priceNow_X1_valueOn : GoodIn wsX3_priceNow wsX1_valueOn := goodIn_r _ [20, 21, 22, 23, 33, 34, 35, 36] (by decide +kernel) (by decide +kernel)
set_option maxRecDepth 20000 in
theorem gX3_priceNow_X1_valueOn : GoodIn wsX3_priceNow (wsV RX3 74 RX1 yX1_valueOn wsX1_valueOn) := goodIn_app (goodIn_of _ (by decide +kernel)) ggX3_priceNow_X1_valueOn
theorem dX3_priceNow_0 : decode cX3_priceNow 0 = .ok (.aload_n 0, 1) := by decide +kernel
theorem dX3_priceNow_1 : decode cX3_priceNow 1 = .ok (.iload_n 1, 1) := by decide +kernel
theorem dX3_priceNow_2 : decode cX3_priceNow 2 = .ok (.invokevirtual 66, 3) := by decide +kernel
theorem dX3_priceNow_5 : decode cX3_priceNow 5 = .ok (.aload_n 0, 1) := by decide +kernel
theorem dX3_priceNow_6 : decode cX3_priceNow 6 = .ok (.getfield 36, 3) := by decide +kernel
theorem dX3_priceNow_9 : decode cX3_priceNow 9 = .ok (.invokevirtual 74, 3) := by decide +kernel
theorem dX3_priceNow_12 : decode cX3_priceNow 12 = .ok (.ireturn, 1) := by decide +kernel
set_option maxRecDepth 20000 in
theorem ggX3_priceRowOf_X3_isProvider : GoodIn wsX3_priceRowOf wsX3_isProvider := goodIn_r _ [7, 8, 9, 6, 10] (by decide +kernel) (by decide +kernel)
set_option maxRecDepth 20000 in
theorem gX3_priceRowOf_X3_isProvider : GoodIn wsX3_priceRowOf (va_wsS RX3 217 yX3_isProvider wsX3_isProvider) := goodIn_app (goodIn_of _ (by decide +kernel)) ggX3_priceRowOf_X3_isProvider
theorem dX3_priceRowOf_0 : decode cX3_priceRowOf 0 = .ok (.iload_n 1, 1) := by decide +kernel
theorem dX3_priceRowOf_1 : decode cX3_priceRowOf 1 = .ok (.invokestatic 217, 3) := by decide +kernel
theorem dX3_priceRowOf_4 : decode cX3_priceRowOf 4 = .ok (.ifCond .eq 12, 3) := by decide +kernel
theorem dX3_priceRowOf_7 : decode cX3_priceRowOf 7 = .ok (.aload_n 0, 1) := by decide +kernel
theorem dX3_priceRowOf_8 : decode cX3_priceRowOf 8 = .ok (.getfield 11, 3) := by decide +kernel
theorem dX3_priceRowOf_11 : decode cX3_priceRowOf 11 = .ok (.iload_n 1, 1) := by decide +kernel
theorem dX3_priceRowOf_12 : decode cX3_priceRowOf 12 = .ok (.aaload, 1) := by decide +kernel
theorem dX3_priceRowOf_13 : decode cX3_priceRowOf 13 = .ok (.goto 4, 3) := by decide +kernel
theorem dX3_priceRowOf_16 : decode cX3_priceRowOf 16 = .ok (.aconst_null, 1) := by decide +kernel
theorem dX3_priceRowOf_17 : decode cX3_priceRowOf 17 = .ok (.astore_n 2, 1) := by decide +kernel
theorem dX3_priceRowOf_18 : decode cX3_priceRowOf 18 = .ok (.aload_n 2, 1) := by decide +kernel
theorem dX3_priceRowOf_19 : decode cX3_priceRowOf 19 = .ok (.ifnonnull 13, 3) := by decide +kernel
theorem dX3_priceRowOf_22 : decode cX3_priceRowOf 22 = .ok (.new 54, 3) := by decide +kernel
theorem dX3_priceRowOf_25 : decode cX3_priceRowOf 25 = .ok (.dup, 1) := by decide +kernel
theorem dX3_priceRowOf_26 : decode cX3_priceRowOf 26 = .ok (.ldc 223, 2) := by decide +kernel
theorem dX3_priceRowOf_28 : decode cX3_priceRowOf 28 = .ok (.invokespecial 58, 3) := by decide +kernel
theorem dX3_priceRowOf_31 : decode cX3_priceRowOf 31 = .ok (.athrow, 1) := by decide +kernel
theorem dX3_priceRowOf_32 : decode cX3_priceRowOf 32 = .ok (.aload_n 2, 1) := by decide +kernel
theorem dX3_priceRowOf_33 : decode cX3_priceRowOf 33 = .ok (.areturn, 1) := by decide +kernel
set_option maxRecDepth 20000 in
theorem ggX3_isProvider_X3_isOutside : GoodIn wsX3_isProvider wsX3_isOutside := goodIn_r _ [4] (by decide +kernel) (by decide +kernel)
set_option maxRecDepth 20000 in
theorem gX3_isProvider_X3_isOutside : GoodIn wsX3_isProvider (va_wsS RX3 50 yX3_isOutside wsX3_isOutside) := goodIn_app (goodIn_of _ (by decide +kernel)) ggX3_isProvider_X3_isOutside
theorem dX3_isProvider_0 : decode cX3_isProvider 0 = .ok (.iload_n 0, 1) := by decide +kernel
theorem dX3_isProvider_1 : decode cX3_isProvider 1 = .ok (.iconst 0, 1) := by decide +kernel
theorem dX3_isProvider_2 : decode cX3_isProvider 2 = .ok (.iconst 4, 1) := by decide +kernel
theorem dX3_isProvider_3 : decode cX3_isProvider 3 = .ok (.invokestatic 50, 3) := by decide +kernel
theorem dX3_isProvider_6 : decode cX3_isProvider 6 = .ok (.ifCond .ne 7, 3) := by decide +kernel
theorem dX3_isProvider_9 : decode cX3_isProvider 9 = .ok (.iconst 1, 1) := by decide +kernel
theorem dX3_isProvider_10 : decode cX3_isProvider 10 = .ok (.goto 4, 3) := by decide +kernel
theorem dX3_isProvider_13 : decode cX3_isProvider 13 = .ok (.iconst 0, 1) := by decide +kernel
theorem dX3_isProvider_14 : decode cX3_isProvider 14 = .ok (.ireturn, 1) := by decide +kernel
set_option maxRecDepth 20000 in
theorem ggX3_checkProvider_X3_isProvider : GoodIn wsX3_checkProvider wsX3_isProvider := goodIn_r _ [6, 7, 8, 5, 9] (by decide +kernel) (by decide +kernel)
set_option maxRecDepth 20000 in
theorem gX3_checkProvider_X3_isProvider : GoodIn wsX3_checkProvider (va_wsS RX3 217 yX3_isProvider wsX3_isProvider) := goodIn_app (goodIn_of _ (by decide +kernel)) ggX3_checkProvider_X3_isProvider
theorem dX3_checkProvider_0 : decode cX3_checkProvider 0 = .ok (.iload_n 0, 1) := by decide +kernel
theorem dX3_checkProvider_1 : decode cX3_checkProvider 1 = .ok (.invokestatic 217, 3) := by decide +kernel
theorem dX3_checkProvider_4 : decode cX3_checkProvider 4 = .ok (.ifCond .ne 13, 3) := by decide +kernel
theorem dX3_checkProvider_7 : decode cX3_checkProvider 7 = .ok (.new 54, 3) := by decide +kernel
theorem dX3_checkProvider_10 : decode cX3_checkProvider 10 = .ok (.dup, 1) := by decide +kernel
theorem dX3_checkProvider_11 : decode cX3_checkProvider 11 = .ok (.ldc 223, 2) := by decide +kernel
theorem dX3_checkProvider_13 : decode cX3_checkProvider 13 = .ok (.invokespecial 58, 3) := by decide +kernel
theorem dX3_checkProvider_16 : decode cX3_checkProvider 16 = .ok (.athrow, 1) := by decide +kernel
theorem dX3_checkProvider_17 : decode cX3_checkProvider 17 = .ok (.return_, 1) := by decide +kernel
set_option maxRecDepth 20000 in
theorem ggX3_checkPrice_X3_isOutside : GoodIn wsX3_checkPrice wsX3_isOutside := goodIn_r _ [6] (by decide +kernel) (by decide +kernel)
set_option maxRecDepth 20000 in
theorem gX3_checkPrice_X3_isOutside : GoodIn wsX3_checkPrice (va_wsS RX3 50 yX3_isOutside wsX3_isOutside) := goodIn_app (goodIn_of _ (by decide +kernel)) ggX3_checkPrice_X3_isOutside
theorem dX3_checkPrice_0 : decode cX3_checkPrice 0 = .ok (.iload_n 0, 1) := by decide +kernel
theorem dX3_checkPrice_1 : decode cX3_checkPrice 1 = .ok (.bipush 100, 2) := by decide +kernel
theorem dX3_checkPrice_3 : decode cX3_checkPrice 3 = .ok (.sipush 10000, 3) := by decide +kernel
theorem dX3_checkPrice_6 : decode cX3_checkPrice 6 = .ok (.invokestatic 50, 3) := by decide +kernel
theorem dX3_checkPrice_9 : decode cX3_checkPrice 9 = .ok (.ifCond .eq 13, 3) := by decide +kernel
theorem dX3_checkPrice_12 : decode cX3_checkPrice 12 = .ok (.new 54, 3) := by decide +kernel
theorem dX3_checkPrice_15 : decode cX3_checkPrice 15 = .ok (.dup, 1) := by decide +kernel
theorem dX3_checkPrice_16 : decode cX3_checkPrice 16 = .ok (.ldc 225, 2) := by decide +kernel
theorem dX3_checkPrice_18 : decode cX3_checkPrice 18 = .ok (.invokespecial 58, 3) := by decide +kernel
theorem dX3_checkPrice_21 : decode cX3_checkPrice 21 = .ok (.athrow, 1) := by decide +kernel
theorem dX3_checkPrice_22 : decode cX3_checkPrice 22 = .ok (.return_, 1) := by decide +kernel
theorem dX3_checkHolding_0 : decode cX3_checkHolding 0 = .ok (.lload_n 0, 1) := by decide +kernel
theorem dX3_checkHolding_1 : decode cX3_checkHolding 1 = .ok (.ldc2_w 227, 3) := by decide +kernel
theorem dX3_checkHolding_4 : decode cX3_checkHolding 4 = .ok (.lcmp, 1) := by decide +kernel
theorem dX3_checkHolding_5 : decode cX3_checkHolding 5 = .ok (.ifCond .le 13, 3) := by decide +kernel
theorem dX3_checkHolding_8 : decode cX3_checkHolding 8 = .ok (.new 61, 3) := by decide +kernel
theorem dX3_checkHolding_11 : decode cX3_checkHolding 11 = .ok (.dup, 1) := by decide +kernel
theorem dX3_checkHolding_12 : decode cX3_checkHolding 12 = .ok (.ldc 229, 2) := by decide +kernel
theorem dX3_checkHolding_14 : decode cX3_checkHolding 14 = .ok (.invokespecial 65, 3) := by decide +kernel
theorem dX3_checkHolding_17 : decode cX3_checkHolding 17 = .ok (.athrow, 1) := by decide +kernel
theorem dX3_checkHolding_18 : decode cX3_checkHolding 18 = .ok (.return_, 1) := by decide +kernel
set_option maxRecDepth 20000 in
theorem ggX3_saverAt_X3_isOutside : GoodIn wsX3_saverAt wsX3_isOutside := goodIn_r _ [7] (by decide +kernel) (by decide +kernel)
set_option maxRecDepth 20000 in
theorem gX3_saverAt_X3_isOutside : GoodIn wsX3_saverAt (va_wsS RX3 50 yX3_isOutside wsX3_isOutside) := goodIn_app (goodIn_of _ (by decide +kernel)) ggX3_saverAt_X3_isOutside
theorem dX3_saverAt_0 : decode cX3_saverAt 0 = .ok (.iload_n 1, 1) := by decide +kernel
theorem dX3_saverAt_1 : decode cX3_saverAt 1 = .ok (.iconst 0, 1) := by decide +kernel
theorem dX3_saverAt_2 : decode cX3_saverAt 2 = .ok (.bipush 9, 2) := by decide +kernel
theorem dX3_saverAt_4 : decode cX3_saverAt 4 = .ok (.invokestatic 50, 3) := by decide +kernel
theorem dX3_saverAt_7 : decode cX3_saverAt 7 = .ok (.ifCond .eq 7, 3) := by decide +kernel
theorem dX3_saverAt_10 : decode cX3_saverAt 10 = .ok (.aconst_null, 1) := by decide +kernel
theorem dX3_saverAt_11 : decode cX3_saverAt 11 = .ok (.goto 9, 3) := by decide +kernel
theorem dX3_saverAt_14 : decode cX3_saverAt 14 = .ok (.aload_n 0, 1) := by decide +kernel
theorem dX3_saverAt_15 : decode cX3_saverAt 15 = .ok (.getfield 26, 3) := by decide +kernel
theorem dX3_saverAt_18 : decode cX3_saverAt 18 = .ok (.iload_n 1, 1) := by decide +kernel
theorem dX3_saverAt_19 : decode cX3_saverAt 19 = .ok (.aaload, 1) := by decide +kernel
theorem dX3_saverAt_20 : decode cX3_saverAt 20 = .ok (.astore_n 2, 1) := by decide +kernel
theorem dX3_saverAt_21 : decode cX3_saverAt 21 = .ok (.aload_n 2, 1) := by decide +kernel
theorem dX3_saverAt_22 : decode cX3_saverAt 22 = .ok (.ifnonnull 13, 3) := by decide +kernel
theorem dX3_saverAt_25 : decode cX3_saverAt 25 = .ok (.new 231, 3) := by decide +kernel
theorem dX3_saverAt_28 : decode cX3_saverAt 28 = .ok (.dup, 1) := by decide +kernel
theorem dX3_saverAt_29 : decode cX3_saverAt 29 = .ok (.ldc 233, 2) := by decide +kernel
theorem dX3_saverAt_31 : decode cX3_saverAt 31 = .ok (.invokespecial 235, 3) := by decide +kernel
theorem dX3_saverAt_34 : decode cX3_saverAt 34 = .ok (.athrow, 1) := by decide +kernel
theorem dX3_saverAt_35 : decode cX3_saverAt 35 = .ok (.aload_n 2, 1) := by decide +kernel
theorem dX3_saverAt_36 : decode cX3_saverAt 36 = .ok (.areturn, 1) := by decide +kernel
set_option maxRecDepth 20000 in
theorem ggX3_orderAt_X3_isOutside : GoodIn wsX3_orderAt wsX3_isOutside := goodIn_r _ [7] (by decide +kernel) (by decide +kernel)
set_option maxRecDepth 20000 in
theorem gX3_orderAt_X3_isOutside : GoodIn wsX3_orderAt (va_wsS RX3 50 yX3_isOutside wsX3_isOutside) := goodIn_app (goodIn_of _ (by decide +kernel)) ggX3_orderAt_X3_isOutside
theorem dX3_orderAt_0 : decode cX3_orderAt 0 = .ok (.iload_n 1, 1) := by decide +kernel
theorem dX3_orderAt_1 : decode cX3_orderAt 1 = .ok (.iconst 0, 1) := by decide +kernel
theorem dX3_orderAt_2 : decode cX3_orderAt 2 = .ok (.bipush 29, 2) := by decide +kernel
theorem dX3_orderAt_4 : decode cX3_orderAt 4 = .ok (.invokestatic 50, 3) := by decide +kernel
theorem dX3_orderAt_7 : decode cX3_orderAt 7 = .ok (.ifCond .eq 7, 3) := by decide +kernel
theorem dX3_orderAt_10 : decode cX3_orderAt 10 = .ok (.aconst_null, 1) := by decide +kernel
theorem dX3_orderAt_11 : decode cX3_orderAt 11 = .ok (.goto 9, 3) := by decide +kernel
theorem dX3_orderAt_14 : decode cX3_orderAt 14 = .ok (.aload_n 0, 1) := by decide +kernel
theorem dX3_orderAt_15 : decode cX3_orderAt 15 = .ok (.getfield 32, 3) := by decide +kernel
theorem dX3_orderAt_18 : decode cX3_orderAt 18 = .ok (.iload_n 1, 1) := by decide +kernel
theorem dX3_orderAt_19 : decode cX3_orderAt 19 = .ok (.aaload, 1) := by decide +kernel
theorem dX3_orderAt_20 : decode cX3_orderAt 20 = .ok (.astore_n 2, 1) := by decide +kernel
theorem dX3_orderAt_21 : decode cX3_orderAt 21 = .ok (.aload_n 2, 1) := by decide +kernel
theorem dX3_orderAt_22 : decode cX3_orderAt 22 = .ok (.ifnonnull 13, 3) := by decide +kernel
theorem dX3_orderAt_25 : decode cX3_orderAt 25 = .ok (.new 231, 3) := by decide +kernel
theorem dX3_orderAt_28 : decode cX3_orderAt 28 = .ok (.dup, 1) := by decide +kernel
theorem dX3_orderAt_29 : decode cX3_orderAt 29 = .ok (.ldc 236, 2) := by decide +kernel
theorem dX3_orderAt_31 : decode cX3_orderAt 31 = .ok (.invokespecial 235, 3) := by decide +kernel
theorem dX3_orderAt_34 : decode cX3_orderAt 34 = .ok (.athrow, 1) := by decide +kernel
theorem dX3_orderAt_35 : decode cX3_orderAt 35 = .ok (.aload_n 2, 1) := by decide +kernel
theorem dX3_orderAt_36 : decode cX3_orderAt 36 = .ok (.areturn, 1) := by decide +kernel
set_option maxRecDepth 20000 in
theorem ggX3_openOrderAt_X3_orderAt : GoodIn wsX3_openOrderAt wsX3_orderAt := goodIn_ca (goodIn_r _ [7, 8, 9, 10, 11, 12, 6, 13, 24, 25, 26, 27, 28, 29, 30, 31, 32] (by decide +kernel) (by decide +kernel)) (goodIn_sub (fun _ h => List.mem_cons_of_mem _ (List.mem_append_right _ h)) (by decide +kernel))
set_option maxRecDepth 20000 in
theorem gX3_openOrderAt_X3_orderAt : GoodIn wsX3_openOrderAt (wsV RX3 145 RX3 yX3_orderAt wsX3_orderAt) := goodIn_app (goodIn_of _ (by decide +kernel)) ggX3_openOrderAt_X3_orderAt
theorem dX3_openOrderAt_0 : decode cX3_openOrderAt 0 = .ok (.aload_n 0, 1) := by decide +kernel
theorem dX3_openOrderAt_1 : decode cX3_openOrderAt 1 = .ok (.iload_n 1, 1) := by decide +kernel
theorem dX3_openOrderAt_2 : decode cX3_openOrderAt 2 = .ok (.invokevirtual 145, 3) := by decide +kernel
theorem dX3_openOrderAt_5 : decode cX3_openOrderAt 5 = .ok (.astore_n 2, 1) := by decide +kernel
theorem dX3_openOrderAt_6 : decode cX3_openOrderAt 6 = .ok (.aload_n 2, 1) := by decide +kernel
theorem dX3_openOrderAt_7 : decode cX3_openOrderAt 7 = .ok (.getfield 148, 3) := by decide +kernel
theorem dX3_openOrderAt_10 : decode cX3_openOrderAt 10 = .ok (.iconst 3, 1) := by decide +kernel
theorem dX3_openOrderAt_11 : decode cX3_openOrderAt 11 = .ok (.if_icmp .ne 13, 3) := by decide +kernel
theorem dX3_openOrderAt_14 : decode cX3_openOrderAt 14 = .ok (.new 61, 3) := by decide +kernel
theorem dX3_openOrderAt_17 : decode cX3_openOrderAt 17 = .ok (.dup, 1) := by decide +kernel
theorem dX3_openOrderAt_18 : decode cX3_openOrderAt 18 = .ok (.ldc 238, 2) := by decide +kernel
theorem dX3_openOrderAt_20 : decode cX3_openOrderAt 20 = .ok (.invokespecial 65, 3) := by decide +kernel
theorem dX3_openOrderAt_23 : decode cX3_openOrderAt 23 = .ok (.athrow, 1) := by decide +kernel
theorem dX3_openOrderAt_24 : decode cX3_openOrderAt 24 = .ok (.aload_n 2, 1) := by decide +kernel
theorem dX3_openOrderAt_25 : decode cX3_openOrderAt 25 = .ok (.areturn, 1) := by decide +kernel
theorem dJ9_max_7cf53_0 : decode cJ9_max_7cf53 0 = .ok (.iload_n 0, 1) := by decide +kernel
theorem dJ9_max_7cf53_1 : decode cJ9_max_7cf53 1 = .ok (.iload_n 1, 1) := by decide +kernel
theorem dJ9_max_7cf53_2 : decode cJ9_max_7cf53 2 = .ok (.if_icmp .lt 7, 3) := by decide +kernel
theorem dJ9_max_7cf53_5 : decode cJ9_max_7cf53 5 = .ok (.iload_n 0, 1) := by decide +kernel
theorem dJ9_max_7cf53_6 : decode cJ9_max_7cf53 6 = .ok (.goto 4, 3) := by decide +kernel
theorem dJ9_max_7cf53_9 : decode cJ9_max_7cf53 9 = .ok (.iload_n 1, 1) := by decide +kernel
theorem dJ9_max_7cf53_10 : decode cJ9_max_7cf53 10 = .ok (.ireturn, 1) := by decide +kernel
theorem dJ9_max_f86c9_0 : decode cJ9_max_f86c9 0 = .ok (.lload_n 0, 1) := by decide +kernel
theorem dJ9_max_f86c9_1 : decode cJ9_max_f86c9 1 = .ok (.lload_n 2, 1) := by decide +kernel
theorem dJ9_max_f86c9_2 : decode cJ9_max_f86c9 2 = .ok (.lcmp, 1) := by decide +kernel
theorem dJ9_max_f86c9_3 : decode cJ9_max_f86c9 3 = .ok (.ifCond .lt 7, 3) := by decide +kernel
theorem dJ9_max_f86c9_6 : decode cJ9_max_f86c9 6 = .ok (.lload_n 0, 1) := by decide +kernel
theorem dJ9_max_f86c9_7 : decode cJ9_max_f86c9 7 = .ok (.goto 4, 3) := by decide +kernel
theorem dJ9_max_f86c9_10 : decode cJ9_max_f86c9 10 = .ok (.lload_n 2, 1) := by decide +kernel
theorem dJ9_max_f86c9_11 : decode cJ9_max_f86c9 11 = .ok (.lreturn, 1) := by decide +kernel
