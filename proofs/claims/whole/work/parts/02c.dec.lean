theorem dX4_init_0 : decode cX4_init 0 = .ok (.aload_n 0, 1) := by decide +kernel
theorem dX4_init_1 : decode cX4_init 1 = .ok (.invokespecial 1, 3) := by decide +kernel
theorem dX4_init_4 : decode cX4_init 4 = .ok (.aload_n 0, 1) := by decide +kernel
theorem dX4_init_5 : decode cX4_init 5 = .ok (.sipush 10005, 3) := by decide +kernel
theorem dX4_init_8 : decode cX4_init 8 = .ok (.newarray .int, 2) := by decide +kernel
theorem dX4_init_10 : decode cX4_init 10 = .ok (.putfield 7, 3) := by decide +kernel
theorem dX4_init_13 : decode cX4_init 13 = .ok (.aload_n 0, 1) := by decide +kernel
theorem dX4_init_14 : decode cX4_init 14 = .ok (.iconst 5, 1) := by decide +kernel
theorem dX4_init_15 : decode cX4_init 15 = .ok (.newarray .int, 2) := by decide +kernel
theorem dX4_init_17 : decode cX4_init 17 = .ok (.putfield 13, 3) := by decide +kernel
theorem dX4_init_20 : decode cX4_init 20 = .ok (.aload_n 0, 1) := by decide +kernel
theorem dX4_init_21 : decode cX4_init 21 = .ok (.iconst 5, 1) := by decide +kernel
theorem dX4_init_22 : decode cX4_init 22 = .ok (.newarray .int, 2) := by decide +kernel
theorem dX4_init_24 : decode cX4_init 24 = .ok (.putfield 16, 3) := by decide +kernel
theorem dX4_init_27 : decode cX4_init 27 = .ok (.aload_n 0, 1) := by decide +kernel
theorem dX4_init_28 : decode cX4_init 28 = .ok (.sipush 1000, 3) := by decide +kernel
theorem dX4_init_31 : decode cX4_init 31 = .ok (.putfield 19, 3) := by decide +kernel
theorem dX4_init_34 : decode cX4_init 34 = .ok (.aload_n 0, 1) := by decide +kernel
theorem dX4_init_35 : decode cX4_init 35 = .ok (.bipush 10, 2) := by decide +kernel
theorem dX4_init_37 : decode cX4_init 37 = .ok (.newarray .int, 2) := by decide +kernel
theorem dX4_init_39 : decode cX4_init 39 = .ok (.putfield 23, 3) := by decide +kernel
theorem dX4_init_42 : decode cX4_init 42 = .ok (.aload_n 0, 1) := by decide +kernel
theorem dX4_init_43 : decode cX4_init 43 = .ok (.bipush 10, 2) := by decide +kernel
theorem dX4_init_45 : decode cX4_init 45 = .ok (.newarray .long, 2) := by decide +kernel
theorem dX4_init_47 : decode cX4_init 47 = .ok (.putfield 26, 3) := by decide +kernel
theorem dX4_init_50 : decode cX4_init 50 = .ok (.aload_n 0, 1) := by decide +kernel
theorem dX4_init_51 : decode cX4_init 51 = .ok (.bipush 10, 2) := by decide +kernel
theorem dX4_init_53 : decode cX4_init 53 = .ok (.newarray .boolean, 2) := by decide +kernel
theorem dX4_init_55 : decode cX4_init 55 = .ok (.putfield 30, 3) := by decide +kernel
theorem dX4_init_58 : decode cX4_init 58 = .ok (.aload_n 0, 1) := by decide +kernel
theorem dX4_init_59 : decode cX4_init 59 = .ok (.bipush 30, 2) := by decide +kernel
theorem dX4_init_61 : decode cX4_init 61 = .ok (.newarray .int, 2) := by decide +kernel
theorem dX4_init_63 : decode cX4_init 63 = .ok (.putfield 34, 3) := by decide +kernel
theorem dX4_init_66 : decode cX4_init 66 = .ok (.aload_n 0, 1) := by decide +kernel
theorem dX4_init_67 : decode cX4_init 67 = .ok (.bipush 30, 2) := by decide +kernel
theorem dX4_init_69 : decode cX4_init 69 = .ok (.newarray .int, 2) := by decide +kernel
theorem dX4_init_71 : decode cX4_init 71 = .ok (.putfield 37, 3) := by decide +kernel
theorem dX4_init_74 : decode cX4_init 74 = .ok (.aload_n 0, 1) := by decide +kernel
theorem dX4_init_75 : decode cX4_init 75 = .ok (.bipush 30, 2) := by decide +kernel
theorem dX4_init_77 : decode cX4_init 77 = .ok (.newarray .int, 2) := by decide +kernel
theorem dX4_init_79 : decode cX4_init 79 = .ok (.putfield 40, 3) := by decide +kernel
theorem dX4_init_82 : decode cX4_init 82 = .ok (.aload_n 0, 1) := by decide +kernel
theorem dX4_init_83 : decode cX4_init 83 = .ok (.bipush 30, 2) := by decide +kernel
theorem dX4_init_85 : decode cX4_init 85 = .ok (.newarray .int, 2) := by decide +kernel
theorem dX4_init_87 : decode cX4_init 87 = .ok (.putfield 43, 3) := by decide +kernel
theorem dX4_init_90 : decode cX4_init 90 = .ok (.aload_n 0, 1) := by decide +kernel
theorem dX4_init_91 : decode cX4_init 91 = .ok (.bipush 30, 2) := by decide +kernel
theorem dX4_init_93 : decode cX4_init 93 = .ok (.newarray .int, 2) := by decide +kernel
theorem dX4_init_95 : decode cX4_init 95 = .ok (.putfield 46, 3) := by decide +kernel
theorem dX4_init_98 : decode cX4_init 98 = .ok (.aload_n 0, 1) := by decide +kernel
theorem dX4_init_99 : decode cX4_init 99 = .ok (.bipush 30, 2) := by decide +kernel
theorem dX4_init_101 : decode cX4_init 101 = .ok (.newarray .int, 2) := by decide +kernel
theorem dX4_init_103 : decode cX4_init 103 = .ok (.putfield 49, 3) := by decide +kernel
theorem dX4_init_106 : decode cX4_init 106 = .ok (.aload_n 0, 1) := by decide +kernel
theorem dX4_init_107 : decode cX4_init 107 = .ok (.bipush 30, 2) := by decide +kernel
theorem dX4_init_109 : decode cX4_init 109 = .ok (.newarray .int, 2) := by decide +kernel
theorem dX4_init_111 : decode cX4_init 111 = .ok (.putfield 52, 3) := by decide +kernel
theorem dX4_init_114 : decode cX4_init 114 = .ok (.aload_n 0, 1) := by decide +kernel
theorem dX4_init_115 : decode cX4_init 115 = .ok (.bipush 30, 2) := by decide +kernel
theorem dX4_init_117 : decode cX4_init 117 = .ok (.newarray .long, 2) := by decide +kernel
theorem dX4_init_119 : decode cX4_init 119 = .ok (.putfield 55, 3) := by decide +kernel
theorem dX4_init_122 : decode cX4_init 122 = .ok (.aload_n 0, 1) := by decide +kernel
theorem dX4_init_123 : decode cX4_init 123 = .ok (.bipush 30, 2) := by decide +kernel
theorem dX4_init_125 : decode cX4_init 125 = .ok (.newarray .long, 2) := by decide +kernel
theorem dX4_init_127 : decode cX4_init 127 = .ok (.putfield 58, 3) := by decide +kernel
theorem dX4_init_130 : decode cX4_init 130 = .ok (.aload_n 0, 1) := by decide +kernel
theorem dX4_init_131 : decode cX4_init 131 = .ok (.bipush 30, 2) := by decide +kernel
theorem dX4_init_133 : decode cX4_init 133 = .ok (.newarray .long, 2) := by decide +kernel
theorem dX4_init_135 : decode cX4_init 135 = .ok (.putfield 61, 3) := by decide +kernel
theorem dX4_init_138 : decode cX4_init 138 = .ok (.aload_n 0, 1) := by decide +kernel
theorem dX4_init_139 : decode cX4_init 139 = .ok (.bipush 25, 2) := by decide +kernel
theorem dX4_init_141 : decode cX4_init 141 = .ok (.newarray .long, 2) := by decide +kernel
theorem dX4_init_143 : decode cX4_init 143 = .ok (.putfield 64, 3) := by decide +kernel
theorem dX4_init_146 : decode cX4_init 146 = .ok (.aload_n 0, 1) := by decide +kernel
theorem dX4_init_147 : decode cX4_init 147 = .ok (.iconst 5, 1) := by decide +kernel
theorem dX4_init_148 : decode cX4_init 148 = .ok (.newarray .long, 2) := by decide +kernel
theorem dX4_init_150 : decode cX4_init 150 = .ok (.putfield 67, 3) := by decide +kernel
theorem dX4_init_153 : decode cX4_init 153 = .ok (.iconst 0, 1) := by decide +kernel
theorem dX4_init_154 : decode cX4_init 154 = .ok (.istore_n 1, 1) := by decide +kernel
theorem dX4_init_155 : decode cX4_init 155 = .ok (.iload_n 1, 1) := by decide +kernel
theorem dX4_init_156 : decode cX4_init 156 = .ok (.iconst 5, 1) := by decide +kernel
theorem dX4_init_157 : decode cX4_init 157 = .ok (.if_icmp .ge 29, 3) := by decide +kernel
theorem dX4_init_160 : decode cX4_init 160 = .ok (.aload_n 0, 1) := by decide +kernel
theorem dX4_init_161 : decode cX4_init 161 = .ok (.getfield 7, 3) := by decide +kernel
theorem dX4_init_164 : decode cX4_init 164 = .ok (.sipush 2001, 3) := by decide +kernel
theorem dX4_init_167 : decode cX4_init 167 = .ok (.iload_n 1, 1) := by decide +kernel
theorem dX4_init_168 : decode cX4_init 168 = .ok (.imul, 1) := by decide +kernel
theorem dX4_init_169 : decode cX4_init 169 = .ok (.sipush 1000, 3) := by decide +kernel
theorem dX4_init_172 : decode cX4_init 172 = .ok (.iastore, 1) := by decide +kernel
theorem dX4_init_173 : decode cX4_init 173 = .ok (.aload_n 0, 1) := by decide +kernel
theorem dX4_init_174 : decode cX4_init 174 = .ok (.getfield 13, 3) := by decide +kernel
theorem dX4_init_177 : decode cX4_init 177 = .ok (.iload_n 1, 1) := by decide +kernel
theorem dX4_init_178 : decode cX4_init 178 = .ok (.iconst 1, 1) := by decide +kernel
theorem dX4_init_179 : decode cX4_init 179 = .ok (.iastore, 1) := by decide +kernel
theorem dX4_init_180 : decode cX4_init 180 = .ok (.iinc 1 1, 3) := by decide +kernel
theorem dX4_init_183 : decode cX4_init 183 = .ok (.goto (-28), 3) := by decide +kernel
theorem dX4_init_186 : decode cX4_init 186 = .ok (.return_, 1) := by decide +kernel
theorem dX4_thrown_0 : decode cX4_thrown 0 = .ok (.aload_n 0, 1) := by decide +kernel
theorem dX4_thrown_1 : decode cX4_thrown 1 = .ok (.getfield 70, 3) := by decide +kernel
theorem dX4_thrown_4 : decode cX4_thrown 4 = .ok (.ireturn, 1) := by decide +kernel
theorem dX4_isIn_0 : decode cX4_isIn 0 = .ok (.iload_n 0, 1) := by decide +kernel
theorem dX4_isIn_1 : decode cX4_isIn 1 = .ok (.iload_n 1, 1) := by decide +kernel
theorem dX4_isIn_2 : decode cX4_isIn 2 = .ok (.if_icmp .lt 12, 3) := by decide +kernel
theorem dX4_isIn_5 : decode cX4_isIn 5 = .ok (.iload_n 0, 1) := by decide +kernel
theorem dX4_isIn_6 : decode cX4_isIn 6 = .ok (.iload_n 2, 1) := by decide +kernel
theorem dX4_isIn_7 : decode cX4_isIn 7 = .ok (.if_icmp .gt 7, 3) := by decide +kernel
theorem dX4_isIn_10 : decode cX4_isIn 10 = .ok (.iconst 1, 1) := by decide +kernel
theorem dX4_isIn_11 : decode cX4_isIn 11 = .ok (.goto 4, 3) := by decide +kernel
theorem dX4_isIn_14 : decode cX4_isIn 14 = .ok (.iconst 0, 1) := by decide +kernel
theorem dX4_isIn_15 : decode cX4_isIn 15 = .ok (.ireturn, 1) := by decide +kernel
set_option maxRecDepth 20000 in
theorem ggX4_isProvider_X4_isIn : GoodIn wsX4_isProvider wsX4_isIn := goodIn_r _ [4] (by decide +kernel) (by decide +kernel)
set_option maxRecDepth 20000 in
theorem gX4_isProvider_X4_isIn : GoodIn wsX4_isProvider (va_wsS RX4 73 yX4_isIn wsX4_isIn) := goodIn_app (goodIn_of _ (by decide +kernel)) ggX4_isProvider_X4_isIn
theorem dX4_isProvider_0 : decode cX4_isProvider 0 = .ok (.iload_n 0, 1) := by decide +kernel
theorem dX4_isProvider_1 : decode cX4_isProvider 1 = .ok (.iconst 0, 1) := by decide +kernel
theorem dX4_isProvider_2 : decode cX4_isProvider 2 = .ok (.iconst 4, 1) := by decide +kernel
theorem dX4_isProvider_3 : decode cX4_isProvider 3 = .ok (.invokestatic 73, 3) := by decide +kernel
theorem dX4_isProvider_6 : decode cX4_isProvider 6 = .ok (.ireturn, 1) := by decide +kernel
set_option maxRecDepth 20000 in
theorem ggX4_isSaver_X4_isIn : GoodIn wsX4_isSaver wsX4_isIn := goodIn_r _ [5] (by decide +kernel) (by decide +kernel)
set_option maxRecDepth 20000 in
theorem gX4_isSaver_X4_isIn : GoodIn wsX4_isSaver (va_wsS RX4 73 yX4_isIn wsX4_isIn) := goodIn_app (goodIn_of _ (by decide +kernel)) ggX4_isSaver_X4_isIn
theorem dX4_isSaver_0 : decode cX4_isSaver 0 = .ok (.iload_n 1, 1) := by decide +kernel
theorem dX4_isSaver_1 : decode cX4_isSaver 1 = .ok (.iconst 0, 1) := by decide +kernel
theorem dX4_isSaver_2 : decode cX4_isSaver 2 = .ok (.aload_n 0, 1) := by decide +kernel
theorem dX4_isSaver_3 : decode cX4_isSaver 3 = .ok (.getfield 77, 3) := by decide +kernel
theorem dX4_isSaver_6 : decode cX4_isSaver 6 = .ok (.iconst 1, 1) := by decide +kernel
theorem dX4_isSaver_7 : decode cX4_isSaver 7 = .ok (.isub, 1) := by decide +kernel
theorem dX4_isSaver_8 : decode cX4_isSaver 8 = .ok (.invokestatic 73, 3) := by decide +kernel
theorem dX4_isSaver_11 : decode cX4_isSaver 11 = .ok (.ireturn, 1) := by decide +kernel
set_option maxRecDepth 20000 in
theorem ggX4_isOrder_X4_isIn : GoodIn wsX4_isOrder wsX4_isIn := goodIn_r _ [5] (by decide +kernel) (by decide +kernel)
set_option maxRecDepth 20000 in
theorem gX4_isOrder_X4_isIn : GoodIn wsX4_isOrder (va_wsS RX4 73 yX4_isIn wsX4_isIn) := goodIn_app (goodIn_of _ (by decide +kernel)) ggX4_isOrder_X4_isIn
theorem dX4_isOrder_0 : decode cX4_isOrder 0 = .ok (.iload_n 1, 1) := by decide +kernel
theorem dX4_isOrder_1 : decode cX4_isOrder 1 = .ok (.iconst 0, 1) := by decide +kernel
theorem dX4_isOrder_2 : decode cX4_isOrder 2 = .ok (.aload_n 0, 1) := by decide +kernel
theorem dX4_isOrder_3 : decode cX4_isOrder 3 = .ok (.getfield 80, 3) := by decide +kernel
theorem dX4_isOrder_6 : decode cX4_isOrder 6 = .ok (.iconst 1, 1) := by decide +kernel
theorem dX4_isOrder_7 : decode cX4_isOrder 7 = .ok (.isub, 1) := by decide +kernel
theorem dX4_isOrder_8 : decode cX4_isOrder 8 = .ok (.invokestatic 73, 3) := by decide +kernel
theorem dX4_isOrder_11 : decode cX4_isOrder 11 = .ok (.ireturn, 1) := by decide +kernel
theorem dX4_priceOf_0 : decode cX4_priceOf 0 = .ok (.aload_n 0, 1) := by decide +kernel
theorem dX4_priceOf_1 : decode cX4_priceOf 1 = .ok (.getfield 7, 3) := by decide +kernel
theorem dX4_priceOf_4 : decode cX4_priceOf 4 = .ok (.sipush 2001, 3) := by decide +kernel
theorem dX4_priceOf_7 : decode cX4_priceOf 7 = .ok (.iload_n 1, 1) := by decide +kernel
theorem dX4_priceOf_8 : decode cX4_priceOf 8 = .ok (.imul, 1) := by decide +kernel
theorem dX4_priceOf_9 : decode cX4_priceOf 9 = .ok (.iload_n 2, 1) := by decide +kernel
theorem dX4_priceOf_10 : decode cX4_priceOf 10 = .ok (.iadd, 1) := by decide +kernel
theorem dX4_priceOf_11 : decode cX4_priceOf 11 = .ok (.iaload, 1) := by decide +kernel
theorem dX4_priceOf_12 : decode cX4_priceOf 12 = .ok (.ireturn, 1) := by decide +kernel
set_option maxRecDepth 20000 in
theorem ggX4_pass_X4_isIn : GoodIn wsX4_pass wsX4_isIn := goodIn_r _ [7] (by decide +kernel) (by decide +kernel)
set_option maxRecDepth 20000 in
theorem gX4_pass_X4_isIn : GoodIn wsX4_pass (va_wsS RX4 73 yX4_isIn wsX4_isIn) := goodIn_app (goodIn_of _ (by decide +kernel)) ggX4_pass_X4_isIn
theorem dX4_pass_0 : decode cX4_pass 0 = .ok (.aload_n 0, 1) := by decide +kernel
theorem dX4_pass_1 : decode cX4_pass 1 = .ok (.iload_n 1, 1) := by decide +kernel
theorem dX4_pass_2 : decode cX4_pass 2 = .ok (.iconst 1, 1) := by decide +kernel
theorem dX4_pass_3 : decode cX4_pass 3 = .ok (.bipush 100, 2) := by decide +kernel
theorem dX4_pass_5 : decode cX4_pass 5 = .ok (.invokestatic 73, 3) := by decide +kernel
theorem dX4_pass_8 : decode cX4_pass 8 = .ok (.ifCond .ne 7, 3) := by decide +kernel
theorem dX4_pass_11 : decode cX4_pass 11 = .ok (.iconst 1, 1) := by decide +kernel
theorem dX4_pass_12 : decode cX4_pass 12 = .ok (.goto 20, 3) := by decide +kernel
theorem dX4_pass_15 : decode cX4_pass 15 = .ok (.aload_n 0, 1) := by decide +kernel
theorem dX4_pass_16 : decode cX4_pass 16 = .ok (.getfield 83, 3) := by decide +kernel
theorem dX4_pass_19 : decode cX4_pass 19 = .ok (.iload_n 1, 1) := by decide +kernel
theorem dX4_pass_20 : decode cX4_pass 20 = .ok (.iadd, 1) := by decide +kernel
theorem dX4_pass_21 : decode cX4_pass 21 = .ok (.sipush 2001, 3) := by decide +kernel
theorem dX4_pass_24 : decode cX4_pass 24 = .ok (.if_icmp .lt 7, 3) := by decide +kernel
theorem dX4_pass_27 : decode cX4_pass 27 = .ok (.iconst 2, 1) := by decide +kernel
theorem dX4_pass_28 : decode cX4_pass 28 = .ok (.goto 4, 3) := by decide +kernel
theorem dX4_pass_31 : decode cX4_pass 31 = .ok (.iconst 0, 1) := by decide +kernel
theorem dX4_pass_32 : decode cX4_pass 32 = .ok (.putfield 70, 3) := by decide +kernel
theorem dX4_pass_35 : decode cX4_pass 35 = .ok (.iconst 0, 1) := by decide +kernel
theorem dX4_pass_36 : decode cX4_pass 36 = .ok (.istore_n 2, 1) := by decide +kernel
theorem dX4_pass_37 : decode cX4_pass 37 = .ok (.iload_n 2, 1) := by decide +kernel
theorem dX4_pass_38 : decode cX4_pass 38 = .ok (.iload_n 1, 1) := by decide +kernel
theorem dX4_pass_39 : decode cX4_pass 39 = .ok (.if_icmp .ge 71, 3) := by decide +kernel
theorem dX4_pass_42 : decode cX4_pass 42 = .ok (.aload_n 0, 1) := by decide +kernel
theorem dX4_pass_43 : decode cX4_pass 43 = .ok (.getfield 70, 3) := by decide +kernel
theorem dX4_pass_46 : decode cX4_pass 46 = .ok (.ifCond .ne 64, 3) := by decide +kernel
theorem dX4_pass_49 : decode cX4_pass 49 = .ok (.aload_n 0, 1) := by decide +kernel
theorem dX4_pass_50 : decode cX4_pass 50 = .ok (.dup, 1) := by decide +kernel
theorem dX4_pass_51 : decode cX4_pass 51 = .ok (.getfield 83, 3) := by decide +kernel
theorem dX4_pass_54 : decode cX4_pass 54 = .ok (.iconst 1, 1) := by decide +kernel
theorem dX4_pass_55 : decode cX4_pass 55 = .ok (.iadd, 1) := by decide +kernel
theorem dX4_pass_56 : decode cX4_pass 56 = .ok (.putfield 83, 3) := by decide +kernel
theorem dX4_pass_59 : decode cX4_pass 59 = .ok (.iconst 0, 1) := by decide +kernel
theorem dX4_pass_60 : decode cX4_pass 60 = .ok (.istore_n 3, 1) := by decide +kernel
theorem dX4_pass_61 : decode cX4_pass 61 = .ok (.iload_n 3, 1) := by decide +kernel
theorem dX4_pass_62 : decode cX4_pass 62 = .ok (.iconst 5, 1) := by decide +kernel
theorem dX4_pass_63 : decode cX4_pass 63 = .ok (.if_icmp .ge 41, 3) := by decide +kernel
theorem dX4_pass_66 : decode cX4_pass 66 = .ok (.aload_n 0, 1) := by decide +kernel
theorem dX4_pass_67 : decode cX4_pass 67 = .ok (.getfield 7, 3) := by decide +kernel
theorem dX4_pass_70 : decode cX4_pass 70 = .ok (.sipush 2001, 3) := by decide +kernel
theorem dX4_pass_73 : decode cX4_pass 73 = .ok (.iload_n 3, 1) := by decide +kernel
theorem dX4_pass_74 : decode cX4_pass 74 = .ok (.imul, 1) := by decide +kernel
theorem dX4_pass_75 : decode cX4_pass 75 = .ok (.aload_n 0, 1) := by decide +kernel
theorem dX4_pass_76 : decode cX4_pass 76 = .ok (.getfield 83, 3) := by decide +kernel
theorem dX4_pass_79 : decode cX4_pass 79 = .ok (.iadd, 1) := by decide +kernel
theorem dX4_pass_80 : decode cX4_pass 80 = .ok (.aload_n 0, 1) := by decide +kernel
theorem dX4_pass_81 : decode cX4_pass 81 = .ok (.getfield 7, 3) := by decide +kernel
theorem dX4_pass_84 : decode cX4_pass 84 = .ok (.sipush 2001, 3) := by decide +kernel
theorem dX4_pass_87 : decode cX4_pass 87 = .ok (.iload_n 3, 1) := by decide +kernel
theorem dX4_pass_88 : decode cX4_pass 88 = .ok (.imul, 1) := by decide +kernel
theorem dX4_pass_89 : decode cX4_pass 89 = .ok (.aload_n 0, 1) := by decide +kernel
theorem dX4_pass_90 : decode cX4_pass 90 = .ok (.getfield 83, 3) := by decide +kernel
theorem dX4_pass_93 : decode cX4_pass 93 = .ok (.iadd, 1) := by decide +kernel
theorem dX4_pass_94 : decode cX4_pass 94 = .ok (.iconst 1, 1) := by decide +kernel
theorem dX4_pass_95 : decode cX4_pass 95 = .ok (.isub, 1) := by decide +kernel
theorem dX4_pass_96 : decode cX4_pass 96 = .ok (.iaload, 1) := by decide +kernel
theorem dX4_pass_97 : decode cX4_pass 97 = .ok (.iastore, 1) := by decide +kernel
theorem dX4_pass_98 : decode cX4_pass 98 = .ok (.iinc 3 1, 3) := by decide +kernel
theorem dX4_pass_101 : decode cX4_pass 101 = .ok (.goto (-40), 3) := by decide +kernel
theorem dX4_pass_104 : decode cX4_pass 104 = .ok (.iinc 2 1, 3) := by decide +kernel
theorem dX4_pass_107 : decode cX4_pass 107 = .ok (.goto (-70), 3) := by decide +kernel
theorem dX4_pass_110 : decode cX4_pass 110 = .ok (.aload_n 0, 1) := by decide +kernel
theorem dX4_pass_111 : decode cX4_pass 111 = .ok (.getfield 83, 3) := by decide +kernel
theorem dX4_pass_114 : decode cX4_pass 114 = .ok (.ireturn, 1) := by decide +kernel
theorem dX4_today_0 : decode cX4_today 0 = .ok (.aload_n 0, 1) := by decide +kernel
theorem dX4_today_1 : decode cX4_today 1 = .ok (.iconst 0, 1) := by decide +kernel
theorem dX4_today_2 : decode cX4_today 2 = .ok (.putfield 70, 3) := by decide +kernel
theorem dX4_today_5 : decode cX4_today 5 = .ok (.aload_n 0, 1) := by decide +kernel
theorem dX4_today_6 : decode cX4_today 6 = .ok (.getfield 83, 3) := by decide +kernel
theorem dX4_today_9 : decode cX4_today 9 = .ok (.ireturn, 1) := by decide +kernel
set_option maxRecDepth 20000 in
theorem ggX4_setPrice_X4_isProvider : GoodIn wsX4_setPrice wsX4_isProvider := goodIn_r _ [9, 10, 11, 8, 12] (by decide +kernel) (by decide +kernel)
set_option maxRecDepth 20000 in
theorem gX4_setPrice_X4_isProvider : GoodIn wsX4_setPrice (va_wsS RX4 86 yX4_isProvider wsX4_isProvider) := goodIn_app (goodIn_of _ (by decide +kernel)) ggX4_setPrice_X4_isProvider
set_option maxRecDepth 20000 in
theorem ggX4_setPrice_X4_isIn : GoodIn wsX4_setPrice wsX4_isIn := goodIn_r _ [12] (by decide +kernel) (by decide +kernel)
set_option maxRecDepth 20000 in
theorem gX4_setPrice_X4_isIn : GoodIn wsX4_setPrice (va_wsS RX4 73 yX4_isIn wsX4_isIn) := goodIn_app (goodIn_of _ (by decide +kernel)) ggX4_setPrice_X4_isIn
set_option maxRecDepth 20000 in
theorem ggX4_setPrice_X4_priceOf : GoodIn wsX4_setPrice wsX4_priceOf := goodIn_r _ [16, 5, 17, 18, 19, 20, 21, 22, 23, 24, 25, 26, 27, 28, 29, 30, 31, 32, 33, 34, 35, 36, 37, 38, 39] (by decide +kernel) (by decide +kernel)
set_option maxRecDepth 20000 in
theorem gX4_setPrice_X4_priceOf : GoodIn wsX4_setPrice (wsV RX4 90 RX4 yX4_priceOf wsX4_priceOf) := goodIn_app (goodIn_of _ (by decide +kernel)) ggX4_setPrice_X4_priceOf
theorem dX4_setPrice_0 : decode cX4_setPrice 0 = .ok (.aload_n 0, 1) := by decide +kernel
theorem dX4_setPrice_1 : decode cX4_setPrice 1 = .ok (.iload_n 1, 1) := by decide +kernel
theorem dX4_setPrice_2 : decode cX4_setPrice 2 = .ok (.invokestatic 86, 3) := by decide +kernel
theorem dX4_setPrice_5 : decode cX4_setPrice 5 = .ok (.ifCond .eq 19, 3) := by decide +kernel
theorem dX4_setPrice_8 : decode cX4_setPrice 8 = .ok (.iload_n 2, 1) := by decide +kernel
theorem dX4_setPrice_9 : decode cX4_setPrice 9 = .ok (.bipush 100, 2) := by decide +kernel
theorem dX4_setPrice_11 : decode cX4_setPrice 11 = .ok (.sipush 10000, 3) := by decide +kernel
theorem dX4_setPrice_14 : decode cX4_setPrice 14 = .ok (.invokestatic 73, 3) := by decide +kernel
theorem dX4_setPrice_17 : decode cX4_setPrice 17 = .ok (.ifCond .eq 7, 3) := by decide +kernel
theorem dX4_setPrice_20 : decode cX4_setPrice 20 = .ok (.iconst 0, 1) := by decide +kernel
theorem dX4_setPrice_21 : decode cX4_setPrice 21 = .ok (.goto 4, 3) := by decide +kernel
theorem dX4_setPrice_24 : decode cX4_setPrice 24 = .ok (.iconst 1, 1) := by decide +kernel
theorem dX4_setPrice_25 : decode cX4_setPrice 25 = .ok (.putfield 70, 3) := by decide +kernel
theorem dX4_setPrice_28 : decode cX4_setPrice 28 = .ok (.aload_n 0, 1) := by decide +kernel
theorem dX4_setPrice_29 : decode cX4_setPrice 29 = .ok (.getfield 70, 3) := by decide +kernel
theorem dX4_setPrice_32 : decode cX4_setPrice 32 = .ok (.ifCond .le 5, 3) := by decide +kernel
theorem dX4_setPrice_35 : decode cX4_setPrice 35 = .ok (.iconst 0, 1) := by decide +kernel
theorem dX4_setPrice_36 : decode cX4_setPrice 36 = .ok (.ireturn, 1) := by decide +kernel
theorem dX4_setPrice_37 : decode cX4_setPrice 37 = .ok (.aload_n 0, 1) := by decide +kernel
theorem dX4_setPrice_38 : decode cX4_setPrice 38 = .ok (.aload_n 0, 1) := by decide +kernel
theorem dX4_setPrice_39 : decode cX4_setPrice 39 = .ok (.getfield 13, 3) := by decide +kernel
theorem dX4_setPrice_42 : decode cX4_setPrice 42 = .ok (.iload_n 1, 1) := by decide +kernel
theorem dX4_setPrice_43 : decode cX4_setPrice 43 = .ok (.iaload, 1) := by decide +kernel
theorem dX4_setPrice_44 : decode cX4_setPrice 44 = .ok (.bipush 61, 2) := by decide +kernel
theorem dX4_setPrice_46 : decode cX4_setPrice 46 = .ok (.if_icmp .ne 20, 3) := by decide +kernel
theorem dX4_setPrice_49 : decode cX4_setPrice 49 = .ok (.aload_n 0, 1) := by decide +kernel
theorem dX4_setPrice_50 : decode cX4_setPrice 50 = .ok (.getfield 16, 3) := by decide +kernel
theorem dX4_setPrice_53 : decode cX4_setPrice 53 = .ok (.iload_n 1, 1) := by decide +kernel
theorem dX4_setPrice_54 : decode cX4_setPrice 54 = .ok (.iaload, 1) := by decide +kernel
theorem dX4_setPrice_55 : decode cX4_setPrice 55 = .ok (.aload_n 0, 1) := by decide +kernel
theorem dX4_setPrice_56 : decode cX4_setPrice 56 = .ok (.getfield 83, 3) := by decide +kernel
theorem dX4_setPrice_59 : decode cX4_setPrice 59 = .ok (.if_icmp .eq 7, 3) := by decide +kernel
theorem dX4_setPrice_62 : decode cX4_setPrice 62 = .ok (.iconst 2, 1) := by decide +kernel
theorem dX4_setPrice_63 : decode cX4_setPrice 63 = .ok (.goto 4, 3) := by decide +kernel
theorem dX4_setPrice_66 : decode cX4_setPrice 66 = .ok (.iconst 0, 1) := by decide +kernel
theorem dX4_setPrice_67 : decode cX4_setPrice 67 = .ok (.putfield 70, 3) := by decide +kernel
theorem dX4_setPrice_70 : decode cX4_setPrice 70 = .ok (.aload_n 0, 1) := by decide +kernel
theorem dX4_setPrice_71 : decode cX4_setPrice 71 = .ok (.getfield 70, 3) := by decide +kernel
theorem dX4_setPrice_74 : decode cX4_setPrice 74 = .ok (.ifCond .le 5, 3) := by decide +kernel
theorem dX4_setPrice_77 : decode cX4_setPrice 77 = .ok (.iconst 0, 1) := by decide +kernel
theorem dX4_setPrice_78 : decode cX4_setPrice 78 = .ok (.ireturn, 1) := by decide +kernel
theorem dX4_setPrice_79 : decode cX4_setPrice 79 = .ok (.aload_n 0, 1) := by decide +kernel
theorem dX4_setPrice_80 : decode cX4_setPrice 80 = .ok (.iload_n 1, 1) := by decide +kernel
theorem dX4_setPrice_81 : decode cX4_setPrice 81 = .ok (.aload_n 0, 1) := by decide +kernel
theorem dX4_setPrice_82 : decode cX4_setPrice 82 = .ok (.getfield 83, 3) := by decide +kernel
theorem dX4_setPrice_85 : decode cX4_setPrice 85 = .ok (.invokevirtual 90, 3) := by decide +kernel
theorem dX4_setPrice_88 : decode cX4_setPrice 88 = .ok (.istore_n 3, 1) := by decide +kernel
theorem dX4_setPrice_89 : decode cX4_setPrice 89 = .ok (.aload_n 0, 1) := by decide +kernel
theorem dX4_setPrice_90 : decode cX4_setPrice 90 = .ok (.getfield 13, 3) := by decide +kernel
theorem dX4_setPrice_93 : decode cX4_setPrice 93 = .ok (.iload_n 1, 1) := by decide +kernel
theorem dX4_setPrice_94 : decode cX4_setPrice 94 = .ok (.dup2, 1) := by decide +kernel
theorem dX4_setPrice_95 : decode cX4_setPrice 95 = .ok (.iaload, 1) := by decide +kernel
theorem dX4_setPrice_96 : decode cX4_setPrice 96 = .ok (.aload_n 0, 1) := by decide +kernel
theorem dX4_setPrice_97 : decode cX4_setPrice 97 = .ok (.getfield 16, 3) := by decide +kernel
theorem dX4_setPrice_100 : decode cX4_setPrice 100 = .ok (.iload_n 1, 1) := by decide +kernel
theorem dX4_setPrice_101 : decode cX4_setPrice 101 = .ok (.iaload, 1) := by decide +kernel
theorem dX4_setPrice_102 : decode cX4_setPrice 102 = .ok (.aload_n 0, 1) := by decide +kernel
theorem dX4_setPrice_103 : decode cX4_setPrice 103 = .ok (.getfield 83, 3) := by decide +kernel
theorem dX4_setPrice_106 : decode cX4_setPrice 106 = .ok (.if_icmp .ne 7, 3) := by decide +kernel
theorem dX4_setPrice_109 : decode cX4_setPrice 109 = .ok (.iconst 0, 1) := by decide +kernel
theorem dX4_setPrice_110 : decode cX4_setPrice 110 = .ok (.goto 4, 3) := by decide +kernel
theorem dX4_setPrice_113 : decode cX4_setPrice 113 = .ok (.iconst 1, 1) := by decide +kernel
theorem dX4_setPrice_114 : decode cX4_setPrice 114 = .ok (.iadd, 1) := by decide +kernel
theorem dX4_setPrice_115 : decode cX4_setPrice 115 = .ok (.iastore, 1) := by decide +kernel
theorem dX4_setPrice_116 : decode cX4_setPrice 116 = .ok (.aload_n 0, 1) := by decide +kernel
theorem dX4_setPrice_117 : decode cX4_setPrice 117 = .ok (.getfield 16, 3) := by decide +kernel
theorem dX4_setPrice_120 : decode cX4_setPrice 120 = .ok (.iload_n 1, 1) := by decide +kernel
theorem dX4_setPrice_121 : decode cX4_setPrice 121 = .ok (.aload_n 0, 1) := by decide +kernel
theorem dX4_setPrice_122 : decode cX4_setPrice 122 = .ok (.getfield 83, 3) := by decide +kernel
theorem dX4_setPrice_125 : decode cX4_setPrice 125 = .ok (.iastore, 1) := by decide +kernel
theorem dX4_setPrice_126 : decode cX4_setPrice 126 = .ok (.aload_n 0, 1) := by decide +kernel
theorem dX4_setPrice_127 : decode cX4_setPrice 127 = .ok (.getfield 7, 3) := by decide +kernel
theorem dX4_setPrice_130 : decode cX4_setPrice 130 = .ok (.sipush 2001, 3) := by decide +kernel
theorem dX4_setPrice_133 : decode cX4_setPrice 133 = .ok (.iload_n 1, 1) := by decide +kernel
theorem dX4_setPrice_134 : decode cX4_setPrice 134 = .ok (.imul, 1) := by decide +kernel
theorem dX4_setPrice_135 : decode cX4_setPrice 135 = .ok (.aload_n 0, 1) := by decide +kernel
theorem dX4_setPrice_136 : decode cX4_setPrice 136 = .ok (.getfield 83, 3) := by decide +kernel
theorem dX4_setPrice_139 : decode cX4_setPrice 139 = .ok (.iadd, 1) := by decide +kernel
theorem dX4_setPrice_140 : decode cX4_setPrice 140 = .ok (.iload_n 2, 1) := by decide +kernel
theorem dX4_setPrice_141 : decode cX4_setPrice 141 = .ok (.iastore, 1) := by decide +kernel
theorem dX4_setPrice_142 : decode cX4_setPrice 142 = .ok (.iload_n 3, 1) := by decide +kernel
theorem dX4_setPrice_143 : decode cX4_setPrice 143 = .ok (.ireturn, 1) := by decide +kernel
set_option maxRecDepth 20000 in
theorem ggX4_price_X4_isProvider : GoodIn wsX4_price wsX4_isProvider := goodIn_r _ [6, 7, 8, 5, 9] (by decide +kernel) (by decide +kernel)
set_option maxRecDepth 20000 in
theorem gX4_price_X4_isProvider : GoodIn wsX4_price (va_wsS RX4 86 yX4_isProvider wsX4_isProvider) := goodIn_app (goodIn_of _ (by decide +kernel)) ggX4_price_X4_isProvider
set_option maxRecDepth 20000 in
theorem ggX4_price_X4_isIn : GoodIn wsX4_price wsX4_isIn := goodIn_r _ [9] (by decide +kernel) (by decide +kernel)
set_option maxRecDepth 20000 in
theorem gX4_price_X4_isIn : GoodIn wsX4_price (va_wsS RX4 73 yX4_isIn wsX4_isIn) := goodIn_app (goodIn_of _ (by decide +kernel)) ggX4_price_X4_isIn
set_option maxRecDepth 20000 in
theorem ggX4_price_X4_priceOf : GoodIn wsX4_price wsX4_priceOf := goodIn_r _ [13, 14, 15, 16, 17, 18, 19, 20, 21, 22, 23, 24, 25, 26, 27, 28, 29, 30, 31, 32, 33, 34, 35, 36, 37] (by decide +kernel) (by decide +kernel)
set_option maxRecDepth 20000 in
theorem gX4_price_X4_priceOf : GoodIn wsX4_price (wsV RX4 90 RX4 yX4_priceOf wsX4_priceOf) := goodIn_app (goodIn_of _ (by decide +kernel)) ggX4_price_X4_priceOf
theorem dX4_price_0 : decode cX4_price 0 = .ok (.aload_n 0, 1) := by decide +kernel
theorem dX4_price_1 : decode cX4_price 1 = .ok (.iload_n 1, 1) := by decide +kernel
theorem dX4_price_2 : decode cX4_price 2 = .ok (.invokestatic 86, 3) := by decide +kernel
theorem dX4_price_5 : decode cX4_price 5 = .ok (.ifCond .eq 19, 3) := by decide +kernel
theorem dX4_price_8 : decode cX4_price 8 = .ok (.iload_n 2, 1) := by decide +kernel
theorem dX4_price_9 : decode cX4_price 9 = .ok (.iconst 0, 1) := by decide +kernel
theorem dX4_price_10 : decode cX4_price 10 = .ok (.aload_n 0, 1) := by decide +kernel
theorem dX4_price_11 : decode cX4_price 11 = .ok (.getfield 83, 3) := by decide +kernel
theorem dX4_price_14 : decode cX4_price 14 = .ok (.invokestatic 73, 3) := by decide +kernel
theorem dX4_price_17 : decode cX4_price 17 = .ok (.ifCond .eq 7, 3) := by decide +kernel
theorem dX4_price_20 : decode cX4_price 20 = .ok (.iconst 0, 1) := by decide +kernel
theorem dX4_price_21 : decode cX4_price 21 = .ok (.goto 4, 3) := by decide +kernel
theorem dX4_price_24 : decode cX4_price 24 = .ok (.iconst 1, 1) := by decide +kernel
theorem dX4_price_25 : decode cX4_price 25 = .ok (.putfield 70, 3) := by decide +kernel
theorem dX4_price_28 : decode cX4_price 28 = .ok (.aload_n 0, 1) := by decide +kernel
theorem dX4_price_29 : decode cX4_price 29 = .ok (.getfield 70, 3) := by decide +kernel
theorem dX4_price_32 : decode cX4_price 32 = .ok (.ifCond .le 7, 3) := by decide +kernel
theorem dX4_price_35 : decode cX4_price 35 = .ok (.iconst 0, 1) := by decide +kernel
theorem dX4_price_36 : decode cX4_price 36 = .ok (.goto 9, 3) := by decide +kernel
theorem dX4_price_39 : decode cX4_price 39 = .ok (.aload_n 0, 1) := by decide +kernel
theorem dX4_price_40 : decode cX4_price 40 = .ok (.iload_n 1, 1) := by decide +kernel
theorem dX4_price_41 : decode cX4_price 41 = .ok (.iload_n 2, 1) := by decide +kernel
theorem dX4_price_42 : decode cX4_price 42 = .ok (.invokevirtual 90, 3) := by decide +kernel
theorem dX4_price_45 : decode cX4_price 45 = .ok (.ireturn, 1) := by decide +kernel
set_option maxRecDepth 20000 in
theorem ggX4_setDefault_X4_isIn : GoodIn wsX4_setDefault wsX4_isIn := goodIn_r _ [6] (by decide +kernel) (by decide +kernel)
set_option maxRecDepth 20000 in
theorem gX4_setDefault_X4_isIn : GoodIn wsX4_setDefault (va_wsS RX4 73 yX4_isIn wsX4_isIn) := goodIn_app (goodIn_of _ (by decide +kernel)) ggX4_setDefault_X4_isIn
theorem dX4_setDefault_0 : decode cX4_setDefault 0 = .ok (.aload_n 0, 1) := by decide +kernel
theorem dX4_setDefault_1 : decode cX4_setDefault 1 = .ok (.iload_n 1, 1) := by decide +kernel
theorem dX4_setDefault_2 : decode cX4_setDefault 2 = .ok (.bipush 100, 2) := by decide +kernel
theorem dX4_setDefault_4 : decode cX4_setDefault 4 = .ok (.sipush 10000, 3) := by decide +kernel
theorem dX4_setDefault_7 : decode cX4_setDefault 7 = .ok (.invokestatic 73, 3) := by decide +kernel
theorem dX4_setDefault_10 : decode cX4_setDefault 10 = .ok (.ifCond .eq 7, 3) := by decide +kernel
theorem dX4_setDefault_13 : decode cX4_setDefault 13 = .ok (.iconst 0, 1) := by decide +kernel
theorem dX4_setDefault_14 : decode cX4_setDefault 14 = .ok (.goto 4, 3) := by decide +kernel
theorem dX4_setDefault_17 : decode cX4_setDefault 17 = .ok (.iconst 1, 1) := by decide +kernel
theorem dX4_setDefault_18 : decode cX4_setDefault 18 = .ok (.putfield 70, 3) := by decide +kernel
theorem dX4_setDefault_21 : decode cX4_setDefault 21 = .ok (.aload_n 0, 1) := by decide +kernel
theorem dX4_setDefault_22 : decode cX4_setDefault 22 = .ok (.getfield 70, 3) := by decide +kernel
theorem dX4_setDefault_25 : decode cX4_setDefault 25 = .ok (.ifCond .le 5, 3) := by decide +kernel
theorem dX4_setDefault_28 : decode cX4_setDefault 28 = .ok (.iconst 0, 1) := by decide +kernel
theorem dX4_setDefault_29 : decode cX4_setDefault 29 = .ok (.ireturn, 1) := by decide +kernel
theorem dX4_setDefault_30 : decode cX4_setDefault 30 = .ok (.aload_n 0, 1) := by decide +kernel
theorem dX4_setDefault_31 : decode cX4_setDefault 31 = .ok (.getfield 19, 3) := by decide +kernel
theorem dX4_setDefault_34 : decode cX4_setDefault 34 = .ok (.istore_n 2, 1) := by decide +kernel
theorem dX4_setDefault_35 : decode cX4_setDefault 35 = .ok (.aload_n 0, 1) := by decide +kernel
theorem dX4_setDefault_36 : decode cX4_setDefault 36 = .ok (.iload_n 1, 1) := by decide +kernel
theorem dX4_setDefault_37 : decode cX4_setDefault 37 = .ok (.putfield 19, 3) := by decide +kernel
theorem dX4_setDefault_40 : decode cX4_setDefault 40 = .ok (.iload_n 2, 1) := by decide +kernel
theorem dX4_setDefault_41 : decode cX4_setDefault 41 = .ok (.ireturn, 1) := by decide +kernel
theorem dX4_unitsFor_0 : decode cX4_unitsFor 0 = .ok (.lload_n 0, 1) := by decide +kernel
theorem dX4_unitsFor_1 : decode cX4_unitsFor 1 = .ok (.ldc2_w 94, 3) := by decide +kernel
theorem dX4_unitsFor_4 : decode cX4_unitsFor 4 = .ok (.lmul, 1) := by decide +kernel
theorem dX4_unitsFor_5 : decode cX4_unitsFor 5 = .ok (.iload_n 2, 1) := by decide +kernel
theorem dX4_unitsFor_6 : decode cX4_unitsFor 6 = .ok (.i2l, 1) := by decide +kernel
theorem dX4_unitsFor_7 : decode cX4_unitsFor 7 = .ok (.ldiv, 1) := by decide +kernel
theorem dX4_unitsFor_8 : decode cX4_unitsFor 8 = .ok (.lreturn, 1) := by decide +kernel
set_option maxRecDepth 20000 in
theorem ggX4_begin_X4_isProvider : GoodIn wsX4_begin wsX4_isProvider := goodIn_r _ [10, 11, 12, 9, 13] (by decide +kernel) (by decide +kernel)
set_option maxRecDepth 20000 in
theorem gX4_begin_X4_isProvider : GoodIn wsX4_begin (va_wsS RX4 86 yX4_isProvider wsX4_isProvider) := goodIn_app (goodIn_of _ (by decide +kernel)) ggX4_begin_X4_isProvider
set_option maxRecDepth 20000 in
theorem ggX4_begin_X4_isIn : GoodIn wsX4_begin wsX4_isIn := goodIn_r _ [13] (by decide +kernel) (by decide +kernel)
set_option maxRecDepth 20000 in
theorem gX4_begin_X4_isIn : GoodIn wsX4_begin (va_wsS RX4 73 yX4_isIn wsX4_isIn) := goodIn_app (goodIn_of _ (by decide +kernel)) ggX4_begin_X4_isIn
set_option maxRecDepth 20000 in
theorem ggX4_begin_X4_priceOf : GoodIn wsX4_begin wsX4_priceOf := goodIn_r _ [17, 18, 23, 24, 25, 26, 27, 28, 29, 30, 31, 32, 33, 34, 35, 36, 37, 38, 39, 40, 41, 42, 43, 44, 45] (by decide +kernel) (by decide +kernel)
set_option maxRecDepth 20000 in
theorem gX4_begin_X4_priceOf : GoodIn wsX4_begin (wsV RX4 90 RX4 yX4_priceOf wsX4_priceOf) := goodIn_app (goodIn_of _ (by decide +kernel)) ggX4_begin_X4_priceOf
set_option maxRecDepth 20000 in
theorem ggX4_begin_X4_unitsFor : GoodIn wsX4_begin wsX4_unitsFor := goodIn_r _ [21, 22] (by decide +kernel) (by decide +kernel)
set_option maxRecDepth 20000 in
theorem gX4_begin_X4_unitsFor : GoodIn wsX4_begin (va_wsS RX4 97 yX4_unitsFor wsX4_unitsFor) := goodIn_app (goodIn_of _ (by decide +kernel)) ggX4_begin_X4_unitsFor
theorem dX4_begin_0 : decode cX4_begin 0 = .ok (.aload_n 0, 1) := by decide +kernel
theorem dX4_begin_1 : decode cX4_begin 1 = .ok (.iload_n 1, 1) := by decide +kernel
theorem dX4_begin_2 : decode cX4_begin 2 = .ok (.invokestatic 86, 3) := by decide +kernel
theorem dX4_begin_5 : decode cX4_begin 5 = .ok (.ifCond .eq 13, 3) := by decide +kernel
theorem dX4_begin_8 : decode cX4_begin 8 = .ok (.iload_n 2, 1) := by decide +kernel
theorem dX4_begin_9 : decode cX4_begin 9 = .ok (.iconst 0, 1) := by decide +kernel
theorem dX4_begin_10 : decode cX4_begin 10 = .ok (.ldc 96, 2) := by decide +kernel
theorem dX4_begin_12 : decode cX4_begin 12 = .ok (.invokestatic 73, 3) := by decide +kernel
theorem dX4_begin_15 : decode cX4_begin 15 = .ok (.ifCond .ne 7, 3) := by decide +kernel
theorem dX4_begin_18 : decode cX4_begin 18 = .ok (.iconst 1, 1) := by decide +kernel
theorem dX4_begin_19 : decode cX4_begin 19 = .ok (.goto 17, 3) := by decide +kernel
theorem dX4_begin_22 : decode cX4_begin 22 = .ok (.aload_n 0, 1) := by decide +kernel
theorem dX4_begin_23 : decode cX4_begin 23 = .ok (.getfield 77, 3) := by decide +kernel
theorem dX4_begin_26 : decode cX4_begin 26 = .ok (.bipush 10, 2) := by decide +kernel
theorem dX4_begin_28 : decode cX4_begin 28 = .ok (.if_icmp .ne 7, 3) := by decide +kernel
theorem dX4_begin_31 : decode cX4_begin 31 = .ok (.iconst 2, 1) := by decide +kernel
theorem dX4_begin_32 : decode cX4_begin 32 = .ok (.goto 4, 3) := by decide +kernel
theorem dX4_begin_35 : decode cX4_begin 35 = .ok (.iconst 0, 1) := by decide +kernel
theorem dX4_begin_36 : decode cX4_begin 36 = .ok (.putfield 70, 3) := by decide +kernel
theorem dX4_begin_39 : decode cX4_begin 39 = .ok (.aload_n 0, 1) := by decide +kernel
theorem dX4_begin_40 : decode cX4_begin 40 = .ok (.getfield 70, 3) := by decide +kernel
theorem dX4_begin_43 : decode cX4_begin 43 = .ok (.ifCond .le 5, 3) := by decide +kernel
theorem dX4_begin_46 : decode cX4_begin 46 = .ok (.iconst 0, 1) := by decide +kernel
theorem dX4_begin_47 : decode cX4_begin 47 = .ok (.ireturn, 1) := by decide +kernel
theorem dX4_begin_48 : decode cX4_begin 48 = .ok (.aload_n 0, 1) := by decide +kernel
theorem dX4_begin_49 : decode cX4_begin 49 = .ok (.getfield 23, 3) := by decide +kernel
theorem dX4_begin_52 : decode cX4_begin 52 = .ok (.aload_n 0, 1) := by decide +kernel
theorem dX4_begin_53 : decode cX4_begin 53 = .ok (.getfield 77, 3) := by decide +kernel
theorem dX4_begin_56 : decode cX4_begin 56 = .ok (.iload_n 1, 1) := by decide +kernel
theorem dX4_begin_57 : decode cX4_begin 57 = .ok (.iastore, 1) := by decide +kernel
theorem dX4_begin_58 : decode cX4_begin 58 = .ok (.aload_n 0, 1) := by decide +kernel
theorem dX4_begin_59 : decode cX4_begin 59 = .ok (.getfield 26, 3) := by decide +kernel
theorem dX4_begin_62 : decode cX4_begin 62 = .ok (.aload_n 0, 1) := by decide +kernel
theorem dX4_begin_63 : decode cX4_begin 63 = .ok (.getfield 77, 3) := by decide +kernel
theorem dX4_begin_66 : decode cX4_begin 66 = .ok (.iload_n 2, 1) := by decide +kernel
theorem dX4_begin_67 : decode cX4_begin 67 = .ok (.i2l, 1) := by decide +kernel
theorem dX4_begin_68 : decode cX4_begin 68 = .ok (.aload_n 0, 1) := by decide +kernel
theorem dX4_begin_69 : decode cX4_begin 69 = .ok (.iload_n 1, 1) := by decide +kernel
theorem dX4_begin_70 : decode cX4_begin 70 = .ok (.aload_n 0, 1) := by decide +kernel
theorem dX4_begin_71 : decode cX4_begin 71 = .ok (.getfield 83, 3) := by decide +kernel
theorem dX4_begin_74 : decode cX4_begin 74 = .ok (.invokevirtual 90, 3) := by decide +kernel
theorem dX4_begin_77 : decode cX4_begin 77 = .ok (.invokestatic 97, 3) := by decide +kernel
theorem dX4_begin_80 : decode cX4_begin 80 = .ok (.lastore, 1) := by decide +kernel
theorem dX4_begin_81 : decode cX4_begin 81 = .ok (.aload_n 0, 1) := by decide +kernel
theorem dX4_begin_82 : decode cX4_begin 82 = .ok (.dup, 1) := by decide +kernel
theorem dX4_begin_83 : decode cX4_begin 83 = .ok (.getfield 77, 3) := by decide +kernel
theorem dX4_begin_86 : decode cX4_begin 86 = .ok (.iconst 1, 1) := by decide +kernel
theorem dX4_begin_87 : decode cX4_begin 87 = .ok (.iadd, 1) := by decide +kernel
theorem dX4_begin_88 : decode cX4_begin 88 = .ok (.putfield 77, 3) := by decide +kernel
theorem dX4_begin_91 : decode cX4_begin 91 = .ok (.aload_n 0, 1) := by decide +kernel
theorem dX4_begin_92 : decode cX4_begin 92 = .ok (.getfield 77, 3) := by decide +kernel
theorem dX4_begin_95 : decode cX4_begin 95 = .ok (.iconst 1, 1) := by decide +kernel
theorem dX4_begin_96 : decode cX4_begin 96 = .ok (.isub, 1) := by decide +kernel
theorem dX4_begin_97 : decode cX4_begin 97 = .ok (.ireturn, 1) := by decide +kernel
set_option maxRecDepth 20000 in
theorem ggX4_pay_X4_isSaver : GoodIn wsX4_pay wsX4_isSaver := goodIn_r _ [12, 13, 14, 15, 11, 16, 26, 27, 28, 29, 30, 31, 32, 33, 34, 35, 36, 37, 38, 39, 40, 41, 42, 43, 44, 45, 46, 47, 48] (by decide +kernel) (by decide +kernel)
set_option maxRecDepth 20000 in
theorem gX4_pay_X4_isSaver : GoodIn wsX4_pay (wsV RX4 101 RX4 yX4_isSaver wsX4_isSaver) := goodIn_app (goodIn_of _ (by decide +kernel)) ggX4_pay_X4_isSaver
set_option maxRecDepth 20000 in
theorem ggX4_pay_X4_isIn : GoodIn wsX4_pay wsX4_isIn := goodIn_r _ [16] (by decide +kernel) (by decide +kernel)
set_option maxRecDepth 20000 in
theorem gX4_pay_X4_isIn : GoodIn wsX4_pay (va_wsS RX4 73 yX4_isIn wsX4_isIn) := goodIn_app (goodIn_of _ (by decide +kernel)) ggX4_pay_X4_isIn
set_option maxRecDepth 20000 in
theorem ggX4_pay_X4_priceOf : GoodIn wsX4_pay wsX4_priceOf := goodIn_r _ [20, 21, 26, 27, 28, 29, 30, 31, 32, 33, 34, 35, 36, 37, 38, 39, 40, 41, 42, 43, 44, 45, 46, 47, 48] (by decide +kernel) (by decide +kernel)
set_option maxRecDepth 20000 in
theorem gX4_pay_X4_priceOf : GoodIn wsX4_pay (wsV RX4 90 RX4 yX4_priceOf wsX4_priceOf) := goodIn_app (goodIn_of _ (by decide +kernel)) ggX4_pay_X4_priceOf
set_option maxRecDepth 20000 in
theorem ggX4_pay_X4_unitsFor : GoodIn wsX4_pay wsX4_unitsFor := goodIn_r _ [24, 25] (by decide +kernel) (by decide +kernel)
set_option maxRecDepth 20000 in
theorem gX4_pay_X4_unitsFor : GoodIn wsX4_pay (va_wsS RX4 97 yX4_unitsFor wsX4_unitsFor) := goodIn_app (goodIn_of _ (by decide +kernel)) ggX4_pay_X4_unitsFor
theorem dX4_pay_0 : decode cX4_pay 0 = .ok (.aload_n 0, 1) := by decide +kernel
theorem dX4_pay_1 : decode cX4_pay 1 = .ok (.aload_n 0, 1) := by decide +kernel
theorem dX4_pay_2 : decode cX4_pay 2 = .ok (.iload_n 1, 1) := by decide +kernel
theorem dX4_pay_3 : decode cX4_pay 3 = .ok (.invokevirtual 101, 3) := by decide +kernel
theorem dX4_pay_6 : decode cX4_pay 6 = .ok (.ifCond .ne 7, 3) := by decide +kernel
theorem dX4_pay_9 : decode cX4_pay 9 = .ok (.iconst 1, 1) := by decide +kernel
theorem dX4_pay_10 : decode cX4_pay 10 = .ok (.goto 18, 3) := by decide +kernel
theorem dX4_pay_13 : decode cX4_pay 13 = .ok (.iload_n 2, 1) := by decide +kernel
theorem dX4_pay_14 : decode cX4_pay 14 = .ok (.iconst 1, 1) := by decide +kernel
theorem dX4_pay_15 : decode cX4_pay 15 = .ok (.ldc 96, 2) := by decide +kernel
theorem dX4_pay_17 : decode cX4_pay 17 = .ok (.invokestatic 73, 3) := by decide +kernel
theorem dX4_pay_20 : decode cX4_pay 20 = .ok (.ifCond .eq 7, 3) := by decide +kernel
theorem dX4_pay_23 : decode cX4_pay 23 = .ok (.iconst 0, 1) := by decide +kernel
theorem dX4_pay_24 : decode cX4_pay 24 = .ok (.goto 4, 3) := by decide +kernel
theorem dX4_pay_27 : decode cX4_pay 27 = .ok (.iconst 2, 1) := by decide +kernel
theorem dX4_pay_28 : decode cX4_pay 28 = .ok (.putfield 70, 3) := by decide +kernel
theorem dX4_pay_31 : decode cX4_pay 31 = .ok (.aload_n 0, 1) := by decide +kernel
theorem dX4_pay_32 : decode cX4_pay 32 = .ok (.getfield 70, 3) := by decide +kernel
theorem dX4_pay_35 : decode cX4_pay 35 = .ok (.ifCond .le 5, 3) := by decide +kernel
theorem dX4_pay_38 : decode cX4_pay 38 = .ok (.iconst 0, 1) := by decide +kernel
theorem dX4_pay_39 : decode cX4_pay 39 = .ok (.ireturn, 1) := by decide +kernel
theorem dX4_pay_40 : decode cX4_pay 40 = .ok (.iload_n 2, 1) := by decide +kernel
theorem dX4_pay_41 : decode cX4_pay 41 = .ok (.i2l, 1) := by decide +kernel
theorem dX4_pay_42 : decode cX4_pay 42 = .ok (.aload_n 0, 1) := by decide +kernel
theorem dX4_pay_43 : decode cX4_pay 43 = .ok (.aload_n 0, 1) := by decide +kernel
theorem dX4_pay_44 : decode cX4_pay 44 = .ok (.getfield 23, 3) := by decide +kernel
theorem dX4_pay_47 : decode cX4_pay 47 = .ok (.iload_n 1, 1) := by decide +kernel
theorem dX4_pay_48 : decode cX4_pay 48 = .ok (.iaload, 1) := by decide +kernel
theorem dX4_pay_49 : decode cX4_pay 49 = .ok (.aload_n 0, 1) := by decide +kernel
theorem dX4_pay_50 : decode cX4_pay 50 = .ok (.getfield 83, 3) := by decide +kernel
theorem dX4_pay_53 : decode cX4_pay 53 = .ok (.invokevirtual 90, 3) := by decide +kernel
theorem dX4_pay_56 : decode cX4_pay 56 = .ok (.invokestatic 97, 3) := by decide +kernel
theorem dX4_pay_59 : decode cX4_pay 59 = .ok (.lstore_n 3, 1) := by decide +kernel
theorem dX4_pay_60 : decode cX4_pay 60 = .ok (.aload_n 0, 1) := by decide +kernel
theorem dX4_pay_61 : decode cX4_pay 61 = .ok (.aload_n 0, 1) := by decide +kernel
theorem dX4_pay_62 : decode cX4_pay 62 = .ok (.getfield 30, 3) := by decide +kernel
theorem dX4_pay_65 : decode cX4_pay 65 = .ok (.iload_n 1, 1) := by decide +kernel
theorem dX4_pay_66 : decode cX4_pay 66 = .ok (.baload, 1) := by decide +kernel
theorem dX4_pay_67 : decode cX4_pay 67 = .ok (.ifCond .ne 18, 3) := by decide +kernel
theorem dX4_pay_70 : decode cX4_pay 70 = .ok (.aload_n 0, 1) := by decide +kernel
theorem dX4_pay_71 : decode cX4_pay 71 = .ok (.getfield 26, 3) := by decide +kernel
theorem dX4_pay_74 : decode cX4_pay 74 = .ok (.iload_n 1, 1) := by decide +kernel
theorem dX4_pay_75 : decode cX4_pay 75 = .ok (.laload, 1) := by decide +kernel
theorem dX4_pay_76 : decode cX4_pay 76 = .ok (.lload_n 3, 1) := by decide +kernel
theorem dX4_pay_77 : decode cX4_pay 77 = .ok (.ladd, 1) := by decide +kernel
theorem dX4_pay_78 : decode cX4_pay 78 = .ok (.ldc2_w 104, 3) := by decide +kernel
theorem dX4_pay_81 : decode cX4_pay 81 = .ok (.lcmp, 1) := by decide +kernel
theorem dX4_pay_82 : decode cX4_pay 82 = .ok (.ifCond .le 7, 3) := by decide +kernel
theorem dX4_pay_85 : decode cX4_pay 85 = .ok (.iconst 3, 1) := by decide +kernel
theorem dX4_pay_86 : decode cX4_pay 86 = .ok (.goto 4, 3) := by decide +kernel
theorem dX4_pay_89 : decode cX4_pay 89 = .ok (.iconst 0, 1) := by decide +kernel
theorem dX4_pay_90 : decode cX4_pay 90 = .ok (.putfield 70, 3) := by decide +kernel
theorem dX4_pay_93 : decode cX4_pay 93 = .ok (.aload_n 0, 1) := by decide +kernel
theorem dX4_pay_94 : decode cX4_pay 94 = .ok (.getfield 70, 3) := by decide +kernel
theorem dX4_pay_97 : decode cX4_pay 97 = .ok (.ifCond .le 5, 3) := by decide +kernel
theorem dX4_pay_100 : decode cX4_pay 100 = .ok (.iconst 0, 1) := by decide +kernel
theorem dX4_pay_101 : decode cX4_pay 101 = .ok (.ireturn, 1) := by decide +kernel
theorem dX4_pay_102 : decode cX4_pay 102 = .ok (.aload_n 0, 1) := by decide +kernel
theorem dX4_pay_103 : decode cX4_pay 103 = .ok (.getfield 26, 3) := by decide +kernel
theorem dX4_pay_106 : decode cX4_pay 106 = .ok (.iload_n 1, 1) := by decide +kernel
theorem dX4_pay_107 : decode cX4_pay 107 = .ok (.dup2, 1) := by decide +kernel
theorem dX4_pay_108 : decode cX4_pay 108 = .ok (.laload, 1) := by decide +kernel
theorem dX4_pay_109 : decode cX4_pay 109 = .ok (.lload_n 3, 1) := by decide +kernel
theorem dX4_pay_110 : decode cX4_pay 110 = .ok (.ladd, 1) := by decide +kernel
theorem dX4_pay_111 : decode cX4_pay 111 = .ok (.lastore, 1) := by decide +kernel
theorem dX4_pay_112 : decode cX4_pay 112 = .ok (.lload_n 3, 1) := by decide +kernel
theorem dX4_pay_113 : decode cX4_pay 113 = .ok (.l2i, 1) := by decide +kernel
theorem dX4_pay_114 : decode cX4_pay 114 = .ok (.ireturn, 1) := by decide +kernel
set_option maxRecDepth 20000 in
theorem ggX4_units_X4_isSaver : GoodIn wsX4_units wsX4_isSaver := goodIn_r _ [7, 8, 9, 10, 6, 11, 12, 13, 14, 15, 16, 17, 18, 19, 20, 21, 22, 23, 24, 25, 26, 27, 28, 29, 30, 31, 32, 33, 34] (by decide +kernel) (by decide +kernel)
set_option maxRecDepth 20000 in
theorem gX4_units_X4_isSaver : GoodIn wsX4_units (wsV RX4 101 RX4 yX4_isSaver wsX4_isSaver) := goodIn_app (goodIn_of _ (by decide +kernel)) ggX4_units_X4_isSaver
theorem dX4_units_0 : decode cX4_units 0 = .ok (.aload_n 0, 1) := by decide +kernel
theorem dX4_units_1 : decode cX4_units 1 = .ok (.aload_n 0, 1) := by decide +kernel
theorem dX4_units_2 : decode cX4_units 2 = .ok (.iload_n 1, 1) := by decide +kernel
theorem dX4_units_3 : decode cX4_units 3 = .ok (.invokevirtual 101, 3) := by decide +kernel
theorem dX4_units_6 : decode cX4_units 6 = .ok (.ifCond .eq 7, 3) := by decide +kernel
theorem dX4_units_9 : decode cX4_units 9 = .ok (.iconst 0, 1) := by decide +kernel
theorem dX4_units_10 : decode cX4_units 10 = .ok (.goto 4, 3) := by decide +kernel
theorem dX4_units_13 : decode cX4_units 13 = .ok (.iconst 1, 1) := by decide +kernel
theorem dX4_units_14 : decode cX4_units 14 = .ok (.putfield 70, 3) := by decide +kernel
theorem dX4_units_17 : decode cX4_units 17 = .ok (.aload_n 0, 1) := by decide +kernel
theorem dX4_units_18 : decode cX4_units 18 = .ok (.getfield 70, 3) := by decide +kernel
theorem dX4_units_21 : decode cX4_units 21 = .ok (.ifCond .le 7, 3) := by decide +kernel
theorem dX4_units_24 : decode cX4_units 24 = .ok (.lconst 0, 1) := by decide +kernel
theorem dX4_units_25 : decode cX4_units 25 = .ok (.goto 9, 3) := by decide +kernel
theorem dX4_units_28 : decode cX4_units 28 = .ok (.aload_n 0, 1) := by decide +kernel
theorem dX4_units_29 : decode cX4_units 29 = .ok (.getfield 26, 3) := by decide +kernel
theorem dX4_units_32 : decode cX4_units 32 = .ok (.iload_n 1, 1) := by decide +kernel
theorem dX4_units_33 : decode cX4_units 33 = .ok (.laload, 1) := by decide +kernel
theorem dX4_units_34 : decode cX4_units 34 = .ok (.lreturn, 1) := by decide +kernel
set_option maxRecDepth 20000 in
theorem ggX4_provider_X4_isSaver : GoodIn wsX4_provider wsX4_isSaver := goodIn_r _ [7, 8, 9, 10, 6, 11, 12, 13, 14, 15, 16, 17, 18, 19, 20, 21, 22, 23, 24, 25, 26, 27, 28, 29, 30, 31, 32, 33, 34] (by decide +kernel) (by decide +kernel)
set_option maxRecDepth 20000 in
theorem gX4_provider_X4_isSaver : GoodIn wsX4_provider (wsV RX4 101 RX4 yX4_isSaver wsX4_isSaver) := goodIn_app (goodIn_of _ (by decide +kernel)) ggX4_provider_X4_isSaver
theorem dX4_provider_0 : decode cX4_provider 0 = .ok (.aload_n 0, 1) := by decide +kernel
theorem dX4_provider_1 : decode cX4_provider 1 = .ok (.aload_n 0, 1) := by decide +kernel
theorem dX4_provider_2 : decode cX4_provider 2 = .ok (.iload_n 1, 1) := by decide +kernel
theorem dX4_provider_3 : decode cX4_provider 3 = .ok (.invokevirtual 101, 3) := by decide +kernel
theorem dX4_provider_6 : decode cX4_provider 6 = .ok (.ifCond .eq 7, 3) := by decide +kernel
theorem dX4_provider_9 : decode cX4_provider 9 = .ok (.iconst 0, 1) := by decide +kernel
theorem dX4_provider_10 : decode cX4_provider 10 = .ok (.goto 4, 3) := by decide +kernel
theorem dX4_provider_13 : decode cX4_provider 13 = .ok (.iconst 1, 1) := by decide +kernel
theorem dX4_provider_14 : decode cX4_provider 14 = .ok (.putfield 70, 3) := by decide +kernel
theorem dX4_provider_17 : decode cX4_provider 17 = .ok (.aload_n 0, 1) := by decide +kernel
theorem dX4_provider_18 : decode cX4_provider 18 = .ok (.getfield 70, 3) := by decide +kernel
theorem dX4_provider_21 : decode cX4_provider 21 = .ok (.ifCond .le 7, 3) := by decide +kernel
theorem dX4_provider_24 : decode cX4_provider 24 = .ok (.iconst 0, 1) := by decide +kernel
theorem dX4_provider_25 : decode cX4_provider 25 = .ok (.goto 9, 3) := by decide +kernel
theorem dX4_provider_28 : decode cX4_provider 28 = .ok (.aload_n 0, 1) := by decide +kernel
theorem dX4_provider_29 : decode cX4_provider 29 = .ok (.getfield 23, 3) := by decide +kernel
theorem dX4_provider_32 : decode cX4_provider 32 = .ok (.iload_n 1, 1) := by decide +kernel
theorem dX4_provider_33 : decode cX4_provider 33 = .ok (.iaload, 1) := by decide +kernel
theorem dX4_provider_34 : decode cX4_provider 34 = .ok (.ireturn, 1) := by decide +kernel
set_option maxRecDepth 20000 in
theorem ggX4_order_X4_isSaver : GoodIn wsX4_order wsX4_isSaver := goodIn_r _ [13, 14, 15, 16, 12, 17, 21, 22, 23, 24, 25, 26, 27, 28, 29, 30, 31, 32, 33, 34, 35, 36, 37, 38, 39, 40, 41, 42, 43] (by decide +kernel) (by decide +kernel)
set_option maxRecDepth 20000 in
theorem gX4_order_X4_isSaver : GoodIn wsX4_order (wsV RX4 101 RX4 yX4_isSaver wsX4_isSaver) := goodIn_app (goodIn_of _ (by decide +kernel)) ggX4_order_X4_isSaver
set_option maxRecDepth 20000 in
theorem ggX4_order_X4_isProvider : GoodIn wsX4_order wsX4_isProvider := goodIn_r _ [20, 15, 16, 12, 17] (by decide +kernel) (by decide +kernel)
set_option maxRecDepth 20000 in
theorem gX4_order_X4_isProvider : GoodIn wsX4_order (va_wsS RX4 86 yX4_isProvider wsX4_isProvider) := goodIn_app (goodIn_of _ (by decide +kernel)) ggX4_order_X4_isProvider
theorem dX4_order_0 : decode cX4_order 0 = .ok (.aload_n 0, 1) := by decide +kernel
theorem dX4_order_1 : decode cX4_order 1 = .ok (.aload_n 0, 1) := by decide +kernel
theorem dX4_order_2 : decode cX4_order 2 = .ok (.iload_n 1, 1) := by decide +kernel
theorem dX4_order_3 : decode cX4_order 3 = .ok (.invokevirtual 101, 3) := by decide +kernel
theorem dX4_order_6 : decode cX4_order 6 = .ok (.ifCond .eq 7, 3) := by decide +kernel
theorem dX4_order_9 : decode cX4_order 9 = .ok (.iconst 0, 1) := by decide +kernel
theorem dX4_order_10 : decode cX4_order 10 = .ok (.goto 4, 3) := by decide +kernel
theorem dX4_order_13 : decode cX4_order 13 = .ok (.iconst 1, 1) := by decide +kernel
theorem dX4_order_14 : decode cX4_order 14 = .ok (.putfield 70, 3) := by decide +kernel
theorem dX4_order_17 : decode cX4_order 17 = .ok (.aload_n 0, 1) := by decide +kernel
theorem dX4_order_18 : decode cX4_order 18 = .ok (.getfield 70, 3) := by decide +kernel
theorem dX4_order_21 : decode cX4_order 21 = .ok (.ifCond .le 5, 3) := by decide +kernel
theorem dX4_order_24 : decode cX4_order 24 = .ok (.iconst 0, 1) := by decide +kernel
theorem dX4_order_25 : decode cX4_order 25 = .ok (.ireturn, 1) := by decide +kernel
theorem dX4_order_26 : decode cX4_order 26 = .ok (.aload_n 0, 1) := by decide +kernel
theorem dX4_order_27 : decode cX4_order 27 = .ok (.iload_n 2, 1) := by decide +kernel
theorem dX4_order_28 : decode cX4_order 28 = .ok (.invokestatic 86, 3) := by decide +kernel
theorem dX4_order_31 : decode cX4_order 31 = .ok (.ifCond .eq 13, 3) := by decide +kernel
theorem dX4_order_34 : decode cX4_order 34 = .ok (.iload_n 2, 1) := by decide +kernel
theorem dX4_order_35 : decode cX4_order 35 = .ok (.aload_n 0, 1) := by decide +kernel
theorem dX4_order_36 : decode cX4_order 36 = .ok (.getfield 23, 3) := by decide +kernel
theorem dX4_order_39 : decode cX4_order 39 = .ok (.iload_n 1, 1) := by decide +kernel
theorem dX4_order_40 : decode cX4_order 40 = .ok (.iaload, 1) := by decide +kernel
theorem dX4_order_41 : decode cX4_order 41 = .ok (.if_icmp .ne 7, 3) := by decide +kernel
theorem dX4_order_44 : decode cX4_order 44 = .ok (.iconst 2, 1) := by decide +kernel
theorem dX4_order_45 : decode cX4_order 45 = .ok (.goto 26, 3) := by decide +kernel
theorem dX4_order_48 : decode cX4_order 48 = .ok (.aload_n 0, 1) := by decide +kernel
theorem dX4_order_49 : decode cX4_order 49 = .ok (.getfield 30, 3) := by decide +kernel
theorem dX4_order_52 : decode cX4_order 52 = .ok (.iload_n 1, 1) := by decide +kernel
theorem dX4_order_53 : decode cX4_order 53 = .ok (.baload, 1) := by decide +kernel
theorem dX4_order_54 : decode cX4_order 54 = .ok (.ifCond .ne 12, 3) := by decide +kernel
theorem dX4_order_57 : decode cX4_order 57 = .ok (.aload_n 0, 1) := by decide +kernel
theorem dX4_order_58 : decode cX4_order 58 = .ok (.getfield 80, 3) := by decide +kernel
theorem dX4_order_61 : decode cX4_order 61 = .ok (.bipush 30, 2) := by decide +kernel
theorem dX4_order_63 : decode cX4_order 63 = .ok (.if_icmp .ne 7, 3) := by decide +kernel
theorem dX4_order_66 : decode cX4_order 66 = .ok (.iconst 3, 1) := by decide +kernel
theorem dX4_order_67 : decode cX4_order 67 = .ok (.goto 4, 3) := by decide +kernel
theorem dX4_order_70 : decode cX4_order 70 = .ok (.iconst 0, 1) := by decide +kernel
theorem dX4_order_71 : decode cX4_order 71 = .ok (.putfield 70, 3) := by decide +kernel
theorem dX4_order_74 : decode cX4_order 74 = .ok (.aload_n 0, 1) := by decide +kernel
theorem dX4_order_75 : decode cX4_order 75 = .ok (.getfield 70, 3) := by decide +kernel
theorem dX4_order_78 : decode cX4_order 78 = .ok (.ifCond .le 5, 3) := by decide +kernel
theorem dX4_order_81 : decode cX4_order 81 = .ok (.iconst 0, 1) := by decide +kernel
theorem dX4_order_82 : decode cX4_order 82 = .ok (.ireturn, 1) := by decide +kernel
theorem dX4_order_83 : decode cX4_order 83 = .ok (.aload_n 0, 1) := by decide +kernel
theorem dX4_order_84 : decode cX4_order 84 = .ok (.getfield 34, 3) := by decide +kernel
theorem dX4_order_87 : decode cX4_order 87 = .ok (.aload_n 0, 1) := by decide +kernel
theorem dX4_order_88 : decode cX4_order 88 = .ok (.getfield 80, 3) := by decide +kernel
theorem dX4_order_91 : decode cX4_order 91 = .ok (.iload_n 1, 1) := by decide +kernel
theorem dX4_order_92 : decode cX4_order 92 = .ok (.iastore, 1) := by decide +kernel
theorem dX4_order_93 : decode cX4_order 93 = .ok (.aload_n 0, 1) := by decide +kernel
theorem dX4_order_94 : decode cX4_order 94 = .ok (.getfield 37, 3) := by decide +kernel
theorem dX4_order_97 : decode cX4_order 97 = .ok (.aload_n 0, 1) := by decide +kernel
theorem dX4_order_98 : decode cX4_order 98 = .ok (.getfield 80, 3) := by decide +kernel
theorem dX4_order_101 : decode cX4_order 101 = .ok (.iload_n 2, 1) := by decide +kernel
theorem dX4_order_102 : decode cX4_order 102 = .ok (.iastore, 1) := by decide +kernel
theorem dX4_order_103 : decode cX4_order 103 = .ok (.aload_n 0, 1) := by decide +kernel
theorem dX4_order_104 : decode cX4_order 104 = .ok (.getfield 43, 3) := by decide +kernel
theorem dX4_order_107 : decode cX4_order 107 = .ok (.aload_n 0, 1) := by decide +kernel
theorem dX4_order_108 : decode cX4_order 108 = .ok (.getfield 80, 3) := by decide +kernel
theorem dX4_order_111 : decode cX4_order 111 = .ok (.aload_n 0, 1) := by decide +kernel
theorem dX4_order_112 : decode cX4_order 112 = .ok (.getfield 83, 3) := by decide +kernel
theorem dX4_order_115 : decode cX4_order 115 = .ok (.iastore, 1) := by decide +kernel
theorem dX4_order_116 : decode cX4_order 116 = .ok (.aload_n 0, 1) := by decide +kernel
theorem dX4_order_117 : decode cX4_order 117 = .ok (.getfield 30, 3) := by decide +kernel
theorem dX4_order_120 : decode cX4_order 120 = .ok (.iload_n 1, 1) := by decide +kernel
theorem dX4_order_121 : decode cX4_order 121 = .ok (.iconst 1, 1) := by decide +kernel
theorem dX4_order_122 : decode cX4_order 122 = .ok (.bastore, 1) := by decide +kernel
theorem dX4_order_123 : decode cX4_order 123 = .ok (.aload_n 0, 1) := by decide +kernel
theorem dX4_order_124 : decode cX4_order 124 = .ok (.dup, 1) := by decide +kernel
theorem dX4_order_125 : decode cX4_order 125 = .ok (.getfield 80, 3) := by decide +kernel
theorem dX4_order_128 : decode cX4_order 128 = .ok (.iconst 1, 1) := by decide +kernel
theorem dX4_order_129 : decode cX4_order 129 = .ok (.iadd, 1) := by decide +kernel
theorem dX4_order_130 : decode cX4_order 130 = .ok (.putfield 80, 3) := by decide +kernel
theorem dX4_order_133 : decode cX4_order 133 = .ok (.aload_n 0, 1) := by decide +kernel
theorem dX4_order_134 : decode cX4_order 134 = .ok (.getfield 80, 3) := by decide +kernel
theorem dX4_order_137 : decode cX4_order 137 = .ok (.iconst 1, 1) := by decide +kernel
theorem dX4_order_138 : decode cX4_order 138 = .ok (.isub, 1) := by decide +kernel
theorem dX4_order_139 : decode cX4_order 139 = .ok (.ireturn, 1) := by decide +kernel
theorem dX4_dueOf_0 : decode cX4_dueOf 0 = .ok (.aload_n 0, 1) := by decide +kernel
theorem dX4_dueOf_1 : decode cX4_dueOf 1 = .ok (.getfield 43, 3) := by decide +kernel
theorem dX4_dueOf_4 : decode cX4_dueOf 4 = .ok (.iload_n 1, 1) := by decide +kernel
theorem dX4_dueOf_5 : decode cX4_dueOf 5 = .ok (.iaload, 1) := by decide +kernel
theorem dX4_dueOf_6 : decode cX4_dueOf 6 = .ok (.aload_n 0, 1) := by decide +kernel
theorem dX4_dueOf_7 : decode cX4_dueOf 7 = .ok (.getfield 40, 3) := by decide +kernel
theorem dX4_dueOf_10 : decode cX4_dueOf 10 = .ok (.iload_n 1, 1) := by decide +kernel
theorem dX4_dueOf_11 : decode cX4_dueOf 11 = .ok (.iaload, 1) := by decide +kernel
theorem dX4_dueOf_12 : decode cX4_dueOf 12 = .ok (.ifCond .ne 7, 3) := by decide +kernel
theorem dX4_dueOf_15 : decode cX4_dueOf 15 = .ok (.iconst 3, 1) := by decide +kernel
theorem dX4_dueOf_16 : decode cX4_dueOf 16 = .ok (.goto 4, 3) := by decide +kernel
theorem dX4_dueOf_19 : decode cX4_dueOf 19 = .ok (.iconst 2, 1) := by decide +kernel
theorem dX4_dueOf_20 : decode cX4_dueOf 20 = .ok (.iadd, 1) := by decide +kernel
theorem dX4_dueOf_21 : decode cX4_dueOf 21 = .ok (.ireturn, 1) := by decide +kernel
set_option maxRecDepth 20000 in
theorem ggX4_lateBy_X4_dueOf : GoodIn wsX4_lateBy wsX4_dueOf := goodIn_r _ [6, 7, 8, 9, 10, 11, 12, 13, 14, 15, 16, 17, 18, 19, 20, 21, 22, 23, 24, 25, 26, 27, 28, 29, 30, 31] (by decide +kernel) (by decide +kernel)
set_option maxRecDepth 20000 in
theorem gX4_lateBy_X4_dueOf : GoodIn wsX4_lateBy (wsV RX4 106 RX4 yX4_dueOf wsX4_dueOf) := goodIn_app (goodIn_of _ (by decide +kernel)) ggX4_lateBy_X4_dueOf
theorem dX4_lateBy_0 : decode cX4_lateBy 0 = .ok (.aload_n 0, 1) := by decide +kernel
theorem dX4_lateBy_1 : decode cX4_lateBy 1 = .ok (.getfield 83, 3) := by decide +kernel
theorem dX4_lateBy_4 : decode cX4_lateBy 4 = .ok (.aload_n 0, 1) := by decide +kernel
theorem dX4_lateBy_5 : decode cX4_lateBy 5 = .ok (.iload_n 1, 1) := by decide +kernel
theorem dX4_lateBy_6 : decode cX4_lateBy 6 = .ok (.invokevirtual 106, 3) := by decide +kernel
theorem dX4_lateBy_9 : decode cX4_lateBy 9 = .ok (.if_icmp .le 16, 3) := by decide +kernel
theorem dX4_lateBy_12 : decode cX4_lateBy 12 = .ok (.aload_n 0, 1) := by decide +kernel
theorem dX4_lateBy_13 : decode cX4_lateBy 13 = .ok (.getfield 83, 3) := by decide +kernel
theorem dX4_lateBy_16 : decode cX4_lateBy 16 = .ok (.aload_n 0, 1) := by decide +kernel
theorem dX4_lateBy_17 : decode cX4_lateBy 17 = .ok (.iload_n 1, 1) := by decide +kernel
theorem dX4_lateBy_18 : decode cX4_lateBy 18 = .ok (.invokevirtual 106, 3) := by decide +kernel
theorem dX4_lateBy_21 : decode cX4_lateBy 21 = .ok (.isub, 1) := by decide +kernel
theorem dX4_lateBy_22 : decode cX4_lateBy 22 = .ok (.goto 4, 3) := by decide +kernel
theorem dX4_lateBy_25 : decode cX4_lateBy 25 = .ok (.iconst 0, 1) := by decide +kernel
theorem dX4_lateBy_26 : decode cX4_lateBy 26 = .ok (.ireturn, 1) := by decide +kernel
set_option maxRecDepth 20000 in
theorem ggX4_timely_X4_priceOf : GoodIn wsX4_timely wsX4_priceOf := goodIn_r _ [14, 15, 19, 20, 21, 22, 23, 24, 25, 26, 27, 28, 29, 30, 31, 32, 33, 34, 35, 36, 37, 38, 39, 40, 41] (by decide +kernel) (by decide +kernel)
set_option maxRecDepth 20000 in
theorem gX4_timely_X4_priceOf : GoodIn wsX4_timely (wsV RX4 90 RX4 yX4_priceOf wsX4_priceOf) := goodIn_app (goodIn_of _ (by decide +kernel)) ggX4_timely_X4_priceOf
set_option maxRecDepth 20000 in
theorem ggX4_timely_X4_unitsFor : GoodIn wsX4_timely wsX4_unitsFor := goodIn_r _ [18, 7] (by decide +kernel) (by decide +kernel)
set_option maxRecDepth 20000 in
theorem gX4_timely_X4_unitsFor : GoodIn wsX4_timely (va_wsS RX4 97 yX4_unitsFor wsX4_unitsFor) := goodIn_app (goodIn_of _ (by decide +kernel)) ggX4_timely_X4_unitsFor
theorem dX4_timely_0 : decode cX4_timely 0 = .ok (.aload_n 0, 1) := by decide +kernel
theorem dX4_timely_1 : decode cX4_timely 1 = .ok (.getfield 52, 3) := by decide +kernel
theorem dX4_timely_4 : decode cX4_timely 4 = .ok (.iload_n 1, 1) := by decide +kernel
theorem dX4_timely_5 : decode cX4_timely 5 = .ok (.iaload, 1) := by decide +kernel
theorem dX4_timely_6 : decode cX4_timely 6 = .ok (.iload_n 2, 1) := by decide +kernel
theorem dX4_timely_7 : decode cX4_timely 7 = .ok (.iadd, 1) := by decide +kernel
theorem dX4_timely_8 : decode cX4_timely 8 = .ok (.istore_n 3, 1) := by decide +kernel
theorem dX4_timely_9 : decode cX4_timely 9 = .ok (.iload_n 3, 1) := by decide +kernel
theorem dX4_timely_10 : decode cX4_timely 10 = .ok (.ifCond .ne 5, 3) := by decide +kernel
theorem dX4_timely_13 : decode cX4_timely 13 = .ok (.lconst 0, 1) := by decide +kernel
theorem dX4_timely_14 : decode cX4_timely 14 = .ok (.lreturn, 1) := by decide +kernel
theorem dX4_timely_15 : decode cX4_timely 15 = .ok (.aload_n 0, 1) := by decide +kernel
theorem dX4_timely_16 : decode cX4_timely 16 = .ok (.getfield 23, 3) := by decide +kernel
theorem dX4_timely_19 : decode cX4_timely 19 = .ok (.aload_n 0, 1) := by decide +kernel
theorem dX4_timely_20 : decode cX4_timely 20 = .ok (.getfield 34, 3) := by decide +kernel
theorem dX4_timely_23 : decode cX4_timely 23 = .ok (.iload_n 1, 1) := by decide +kernel
theorem dX4_timely_24 : decode cX4_timely 24 = .ok (.iaload, 1) := by decide +kernel
theorem dX4_timely_25 : decode cX4_timely 25 = .ok (.iaload, 1) := by decide +kernel
theorem dX4_timely_26 : decode cX4_timely 26 = .ok (.istore 4, 2) := by decide +kernel
theorem dX4_timely_28 : decode cX4_timely 28 = .ok (.aload_n 0, 1) := by decide +kernel
theorem dX4_timely_29 : decode cX4_timely 29 = .ok (.getfield 55, 3) := by decide +kernel
theorem dX4_timely_32 : decode cX4_timely 32 = .ok (.iload_n 1, 1) := by decide +kernel
theorem dX4_timely_33 : decode cX4_timely 33 = .ok (.laload, 1) := by decide +kernel
theorem dX4_timely_34 : decode cX4_timely 34 = .ok (.aload_n 0, 1) := by decide +kernel
theorem dX4_timely_35 : decode cX4_timely 35 = .ok (.iload 4, 2) := by decide +kernel
theorem dX4_timely_37 : decode cX4_timely 37 = .ok (.aload_n 0, 1) := by decide +kernel
theorem dX4_timely_38 : decode cX4_timely 38 = .ok (.getfield 46, 3) := by decide +kernel
theorem dX4_timely_41 : decode cX4_timely 41 = .ok (.iload_n 1, 1) := by decide +kernel
theorem dX4_timely_42 : decode cX4_timely 42 = .ok (.iaload, 1) := by decide +kernel
theorem dX4_timely_43 : decode cX4_timely 43 = .ok (.aload_n 0, 1) := by decide +kernel
theorem dX4_timely_44 : decode cX4_timely 44 = .ok (.getfield 49, 3) := by decide +kernel
theorem dX4_timely_47 : decode cX4_timely 47 = .ok (.iload_n 1, 1) := by decide +kernel
theorem dX4_timely_48 : decode cX4_timely 48 = .ok (.iaload, 1) := by decide +kernel
theorem dX4_timely_49 : decode cX4_timely 49 = .ok (.isub, 1) := by decide +kernel
theorem dX4_timely_50 : decode cX4_timely 50 = .ok (.invokevirtual 90, 3) := by decide +kernel
theorem dX4_timely_53 : decode cX4_timely 53 = .ok (.i2l, 1) := by decide +kernel
theorem dX4_timely_54 : decode cX4_timely 54 = .ok (.lmul, 1) := by decide +kernel
theorem dX4_timely_55 : decode cX4_timely 55 = .ok (.ldc2_w 94, 3) := by decide +kernel
theorem dX4_timely_58 : decode cX4_timely 58 = .ok (.ldiv, 1) := by decide +kernel
theorem dX4_timely_59 : decode cX4_timely 59 = .ok (.lstore 5, 2) := by decide +kernel
theorem dX4_timely_61 : decode cX4_timely 61 = .ok (.lload 5, 2) := by decide +kernel
theorem dX4_timely_63 : decode cX4_timely 63 = .ok (.aload_n 0, 1) := by decide +kernel
theorem dX4_timely_64 : decode cX4_timely 64 = .ok (.aload_n 0, 1) := by decide +kernel
theorem dX4_timely_65 : decode cX4_timely 65 = .ok (.getfield 37, 3) := by decide +kernel
theorem dX4_timely_68 : decode cX4_timely 68 = .ok (.iload_n 1, 1) := by decide +kernel
theorem dX4_timely_69 : decode cX4_timely 69 = .ok (.iaload, 1) := by decide +kernel
theorem dX4_timely_70 : decode cX4_timely 70 = .ok (.aload_n 0, 1) := by decide +kernel
theorem dX4_timely_71 : decode cX4_timely 71 = .ok (.getfield 83, 3) := by decide +kernel
theorem dX4_timely_74 : decode cX4_timely 74 = .ok (.iload_n 3, 1) := by decide +kernel
theorem dX4_timely_75 : decode cX4_timely 75 = .ok (.isub, 1) := by decide +kernel
theorem dX4_timely_76 : decode cX4_timely 76 = .ok (.invokevirtual 90, 3) := by decide +kernel
theorem dX4_timely_79 : decode cX4_timely 79 = .ok (.invokestatic 97, 3) := by decide +kernel
theorem dX4_timely_82 : decode cX4_timely 82 = .ok (.lreturn, 1) := by decide +kernel
set_option maxRecDepth 20000 in
theorem ggX4_isTooMuch_X4_unitsFor : GoodIn wsX4_isTooMuch wsX4_unitsFor := goodIn_r _ [7, 8] (by decide +kernel) (by decide +kernel)
set_option maxRecDepth 20000 in
theorem gX4_isTooMuch_X4_unitsFor : GoodIn wsX4_isTooMuch (va_wsS RX4 97 yX4_unitsFor wsX4_unitsFor) := goodIn_app (goodIn_of _ (by decide +kernel)) ggX4_isTooMuch_X4_unitsFor
set_option maxRecDepth 20000 in
theorem ggX4_isTooMuch_X4_timely : GoodIn wsX4_isTooMuch wsX4_timely := goodIn_r _ [12, 13, 14, 15, 16, 17, 18, 8, 19, 20, 21, 22, 23, 6, 24, 25, 4, 5, 7, 26, 27, 28, 29, 30, 31, 32, 33, 34, 35, 36, 37, 38, 39, 40, 41, 42, 43, 44, 45, 46, 47, 48] (by decide +kernel) (by decide +kernel)
set_option maxRecDepth 20000 in
theorem gX4_isTooMuch_X4_timely : GoodIn wsX4_isTooMuch (wsV RX4 110 RX4 yX4_timely wsX4_timely) := goodIn_app (goodIn_of _ (by decide +kernel)) ggX4_isTooMuch_X4_timely
theorem dX4_isTooMuch_0 : decode cX4_isTooMuch 0 = .ok (.aload_n 0, 1) := by decide +kernel
theorem dX4_isTooMuch_1 : decode cX4_isTooMuch 1 = .ok (.getfield 40, 3) := by decide +kernel
theorem dX4_isTooMuch_4 : decode cX4_isTooMuch 4 = .ok (.iload_n 1, 1) := by decide +kernel
theorem dX4_isTooMuch_5 : decode cX4_isTooMuch 5 = .ok (.iaload, 1) := by decide +kernel
theorem dX4_isTooMuch_6 : decode cX4_isTooMuch 6 = .ok (.iconst 2, 1) := by decide +kernel
theorem dX4_isTooMuch_7 : decode cX4_isTooMuch 7 = .ok (.if_icmp .eq 5, 3) := by decide +kernel
theorem dX4_isTooMuch_10 : decode cX4_isTooMuch 10 = .ok (.iconst 0, 1) := by decide +kernel
theorem dX4_isTooMuch_11 : decode cX4_isTooMuch 11 = .ok (.ireturn, 1) := by decide +kernel
theorem dX4_isTooMuch_12 : decode cX4_isTooMuch 12 = .ok (.aload_n 0, 1) := by decide +kernel
theorem dX4_isTooMuch_13 : decode cX4_isTooMuch 13 = .ok (.getfield 58, 3) := by decide +kernel
theorem dX4_isTooMuch_16 : decode cX4_isTooMuch 16 = .ok (.iload_n 1, 1) := by decide +kernel
theorem dX4_isTooMuch_17 : decode cX4_isTooMuch 17 = .ok (.laload, 1) := by decide +kernel
theorem dX4_isTooMuch_18 : decode cX4_isTooMuch 18 = .ok (.iload_n 2, 1) := by decide +kernel
theorem dX4_isTooMuch_19 : decode cX4_isTooMuch 19 = .ok (.invokestatic 97, 3) := by decide +kernel
theorem dX4_isTooMuch_22 : decode cX4_isTooMuch 22 = .ok (.ldc2_w 104, 3) := by decide +kernel
theorem dX4_isTooMuch_25 : decode cX4_isTooMuch 25 = .ok (.lcmp, 1) := by decide +kernel
theorem dX4_isTooMuch_26 : decode cX4_isTooMuch 26 = .ok (.ifCond .gt 16, 3) := by decide +kernel
theorem dX4_isTooMuch_29 : decode cX4_isTooMuch 29 = .ok (.aload_n 0, 1) := by decide +kernel
theorem dX4_isTooMuch_30 : decode cX4_isTooMuch 30 = .ok (.iload_n 1, 1) := by decide +kernel
theorem dX4_isTooMuch_31 : decode cX4_isTooMuch 31 = .ok (.iload_n 3, 1) := by decide +kernel
theorem dX4_isTooMuch_32 : decode cX4_isTooMuch 32 = .ok (.invokevirtual 110, 3) := by decide +kernel
theorem dX4_isTooMuch_35 : decode cX4_isTooMuch 35 = .ok (.ldc2_w 104, 3) := by decide +kernel
theorem dX4_isTooMuch_38 : decode cX4_isTooMuch 38 = .ok (.lcmp, 1) := by decide +kernel
theorem dX4_isTooMuch_39 : decode cX4_isTooMuch 39 = .ok (.ifCond .le 7, 3) := by decide +kernel
theorem dX4_isTooMuch_42 : decode cX4_isTooMuch 42 = .ok (.iconst 1, 1) := by decide +kernel
theorem dX4_isTooMuch_43 : decode cX4_isTooMuch 43 = .ok (.goto 4, 3) := by decide +kernel
theorem dX4_isTooMuch_46 : decode cX4_isTooMuch 46 = .ok (.iconst 0, 1) := by decide +kernel
theorem dX4_isTooMuch_47 : decode cX4_isTooMuch 47 = .ok (.ireturn, 1) := by decide +kernel
set_option maxRecDepth 20000 in
theorem ggX4_buys_X4_unitsFor : GoodIn wsX4_buys wsX4_unitsFor := goodIn_r _ [17, 5] (by decide +kernel) (by decide +kernel)
set_option maxRecDepth 20000 in
theorem gX4_buys_X4_unitsFor : GoodIn wsX4_buys (va_wsS RX4 97 yX4_unitsFor wsX4_unitsFor) := goodIn_app (goodIn_of _ (by decide +kernel)) ggX4_buys_X4_unitsFor
set_option maxRecDepth 20000 in
theorem ggX4_buys_X4_timely : GoodIn wsX4_buys wsX4_timely := goodIn_r _ [21, 6, 9, 1, 22, 23, 7, 5, 3, 4, 24, 25, 26, 16, 27, 28, 14, 15, 17, 29, 30, 31, 32, 33, 34, 35, 36, 37, 38, 39, 40, 41, 42, 43, 44, 45, 46, 47, 48, 49, 50, 51] (by decide +kernel) (by decide +kernel)
set_option maxRecDepth 20000 in
theorem gX4_buys_X4_timely : GoodIn wsX4_buys (wsV RX4 110 RX4 yX4_timely wsX4_timely) := goodIn_app (goodIn_of _ (by decide +kernel)) ggX4_buys_X4_timely
set_option maxRecDepth 20000 in
theorem ggX4_buys_X4_priceOf : GoodIn wsX4_buys wsX4_priceOf := goodIn_r _ [27, 28, 29, 30, 31, 32, 33, 34, 35, 36, 37, 38, 39, 40, 41, 42, 43, 44, 45, 46, 47, 48, 49, 50, 51] (by decide +kernel) (by decide +kernel)
set_option maxRecDepth 20000 in
theorem gX4_buys_X4_priceOf : GoodIn wsX4_buys (wsV RX4 90 RX4 yX4_priceOf wsX4_priceOf) := goodIn_app (goodIn_of _ (by decide +kernel)) ggX4_buys_X4_priceOf
theorem dX4_buys_0 : decode cX4_buys 0 = .ok (.aload_n 0, 1) := by decide +kernel
theorem dX4_buys_1 : decode cX4_buys 1 = .ok (.getfield 34, 3) := by decide +kernel
theorem dX4_buys_4 : decode cX4_buys 4 = .ok (.iload_n 1, 1) := by decide +kernel
theorem dX4_buys_5 : decode cX4_buys 5 = .ok (.iaload, 1) := by decide +kernel
theorem dX4_buys_6 : decode cX4_buys 6 = .ok (.istore 4, 2) := by decide +kernel
theorem dX4_buys_8 : decode cX4_buys 8 = .ok (.aload_n 0, 1) := by decide +kernel
theorem dX4_buys_9 : decode cX4_buys 9 = .ok (.getfield 58, 3) := by decide +kernel
theorem dX4_buys_12 : decode cX4_buys 12 = .ok (.iload_n 1, 1) := by decide +kernel
theorem dX4_buys_13 : decode cX4_buys 13 = .ok (.laload, 1) := by decide +kernel
theorem dX4_buys_14 : decode cX4_buys 14 = .ok (.iload_n 2, 1) := by decide +kernel
theorem dX4_buys_15 : decode cX4_buys 15 = .ok (.invokestatic 97, 3) := by decide +kernel
theorem dX4_buys_18 : decode cX4_buys 18 = .ok (.lstore 5, 2) := by decide +kernel
theorem dX4_buys_20 : decode cX4_buys 20 = .ok (.aload_n 0, 1) := by decide +kernel
theorem dX4_buys_21 : decode cX4_buys 21 = .ok (.iload_n 1, 1) := by decide +kernel
theorem dX4_buys_22 : decode cX4_buys 22 = .ok (.iload_n 3, 1) := by decide +kernel
theorem dX4_buys_23 : decode cX4_buys 23 = .ok (.invokevirtual 110, 3) := by decide +kernel
theorem dX4_buys_26 : decode cX4_buys 26 = .ok (.lload 5, 2) := by decide +kernel
theorem dX4_buys_28 : decode cX4_buys 28 = .ok (.lsub, 1) := by decide +kernel
theorem dX4_buys_29 : decode cX4_buys 29 = .ok (.lstore 7, 2) := by decide +kernel
theorem dX4_buys_31 : decode cX4_buys 31 = .ok (.lload 7, 2) := by decide +kernel
theorem dX4_buys_33 : decode cX4_buys 33 = .ok (.lconst 0, 1) := by decide +kernel
theorem dX4_buys_34 : decode cX4_buys 34 = .ok (.lcmp, 1) := by decide +kernel
theorem dX4_buys_35 : decode cX4_buys 35 = .ok (.ifCond .le 8, 3) := by decide +kernel
theorem dX4_buys_38 : decode cX4_buys 38 = .ok (.lload 7, 2) := by decide +kernel
theorem dX4_buys_40 : decode cX4_buys 40 = .ok (.goto 4, 3) := by decide +kernel
theorem dX4_buys_43 : decode cX4_buys 43 = .ok (.lconst 0, 1) := by decide +kernel
theorem dX4_buys_44 : decode cX4_buys 44 = .ok (.lstore 7, 2) := by decide +kernel
theorem dX4_buys_46 : decode cX4_buys 46 = .ok (.lload 7, 2) := by decide +kernel
theorem dX4_buys_48 : decode cX4_buys 48 = .ok (.aload_n 0, 1) := by decide +kernel
theorem dX4_buys_49 : decode cX4_buys 49 = .ok (.aload_n 0, 1) := by decide +kernel
theorem dX4_buys_50 : decode cX4_buys 50 = .ok (.getfield 37, 3) := by decide +kernel
theorem dX4_buys_53 : decode cX4_buys 53 = .ok (.iload_n 1, 1) := by decide +kernel
theorem dX4_buys_54 : decode cX4_buys 54 = .ok (.iaload, 1) := by decide +kernel
theorem dX4_buys_55 : decode cX4_buys 55 = .ok (.aload_n 0, 1) := by decide +kernel
theorem dX4_buys_56 : decode cX4_buys 56 = .ok (.getfield 83, 3) := by decide +kernel
theorem dX4_buys_59 : decode cX4_buys 59 = .ok (.invokevirtual 90, 3) := by decide +kernel
theorem dX4_buys_62 : decode cX4_buys 62 = .ok (.i2l, 1) := by decide +kernel
theorem dX4_buys_63 : decode cX4_buys 63 = .ok (.lmul, 1) := by decide +kernel
theorem dX4_buys_64 : decode cX4_buys 64 = .ok (.ldc2_w 94, 3) := by decide +kernel
theorem dX4_buys_67 : decode cX4_buys 67 = .ok (.ladd, 1) := by decide +kernel
theorem dX4_buys_68 : decode cX4_buys 68 = .ok (.lconst 1, 1) := by decide +kernel
theorem dX4_buys_69 : decode cX4_buys 69 = .ok (.lsub, 1) := by decide +kernel
theorem dX4_buys_70 : decode cX4_buys 70 = .ok (.ldc2_w 94, 3) := by decide +kernel
theorem dX4_buys_73 : decode cX4_buys 73 = .ok (.ldiv, 1) := by decide +kernel
theorem dX4_buys_74 : decode cX4_buys 74 = .ok (.lstore 9, 2) := by decide +kernel
theorem dX4_buys_76 : decode cX4_buys 76 = .ok (.aload_n 0, 1) := by decide +kernel
theorem dX4_buys_77 : decode cX4_buys 77 = .ok (.getfield 52, 3) := by decide +kernel
theorem dX4_buys_80 : decode cX4_buys 80 = .ok (.iload_n 1, 1) := by decide +kernel
theorem dX4_buys_81 : decode cX4_buys 81 = .ok (.iaload, 1) := by decide +kernel
theorem dX4_buys_82 : decode cX4_buys 82 = .ok (.iload_n 3, 1) := by decide +kernel
theorem dX4_buys_83 : decode cX4_buys 83 = .ok (.iadd, 1) := by decide +kernel
theorem dX4_buys_84 : decode cX4_buys 84 = .ok (.istore 11, 2) := by decide +kernel
theorem dX4_buys_86 : decode cX4_buys 86 = .ok (.iload 11, 2) := by decide +kernel
theorem dX4_buys_88 : decode cX4_buys 88 = .ok (.ifCond .ne 7, 3) := by decide +kernel
theorem dX4_buys_91 : decode cX4_buys 91 = .ok (.lconst 0, 1) := by decide +kernel
theorem dX4_buys_92 : decode cX4_buys 92 = .ok (.goto 17, 3) := by decide +kernel
theorem dX4_buys_95 : decode cX4_buys 95 = .ok (.lload 9, 2) := by decide +kernel
theorem dX4_buys_97 : decode cX4_buys 97 = .ok (.aload_n 0, 1) := by decide +kernel
theorem dX4_buys_98 : decode cX4_buys 98 = .ok (.getfield 49, 3) := by decide +kernel
theorem dX4_buys_101 : decode cX4_buys 101 = .ok (.iload_n 1, 1) := by decide +kernel
theorem dX4_buys_102 : decode cX4_buys 102 = .ok (.iaload, 1) := by decide +kernel
theorem dX4_buys_103 : decode cX4_buys 103 = .ok (.i2l, 1) := by decide +kernel
theorem dX4_buys_104 : decode cX4_buys 104 = .ok (.lmul, 1) := by decide +kernel
theorem dX4_buys_105 : decode cX4_buys 105 = .ok (.iload 11, 2) := by decide +kernel
theorem dX4_buys_107 : decode cX4_buys 107 = .ok (.i2l, 1) := by decide +kernel
theorem dX4_buys_108 : decode cX4_buys 108 = .ok (.ldiv, 1) := by decide +kernel
theorem dX4_buys_109 : decode cX4_buys 109 = .ok (.lstore 12, 2) := by decide +kernel
theorem dX4_buys_111 : decode cX4_buys 111 = .ok (.aload_n 0, 1) := by decide +kernel
theorem dX4_buys_112 : decode cX4_buys 112 = .ok (.getfield 64, 3) := by decide +kernel
theorem dX4_buys_115 : decode cX4_buys 115 = .ok (.iconst 5, 1) := by decide +kernel
theorem dX4_buys_116 : decode cX4_buys 116 = .ok (.aload_n 0, 1) := by decide +kernel
theorem dX4_buys_117 : decode cX4_buys 117 = .ok (.getfield 23, 3) := by decide +kernel
theorem dX4_buys_120 : decode cX4_buys 120 = .ok (.iload 4, 2) := by decide +kernel
theorem dX4_buys_122 : decode cX4_buys 122 = .ok (.iaload, 1) := by decide +kernel
theorem dX4_buys_123 : decode cX4_buys 123 = .ok (.imul, 1) := by decide +kernel
theorem dX4_buys_124 : decode cX4_buys 124 = .ok (.aload_n 0, 1) := by decide +kernel
theorem dX4_buys_125 : decode cX4_buys 125 = .ok (.getfield 37, 3) := by decide +kernel
theorem dX4_buys_128 : decode cX4_buys 128 = .ok (.iload_n 1, 1) := by decide +kernel
theorem dX4_buys_129 : decode cX4_buys 129 = .ok (.iaload, 1) := by decide +kernel
theorem dX4_buys_130 : decode cX4_buys 130 = .ok (.iadd, 1) := by decide +kernel
theorem dX4_buys_131 : decode cX4_buys 131 = .ok (.dup2, 1) := by decide +kernel
theorem dX4_buys_132 : decode cX4_buys 132 = .ok (.laload, 1) := by decide +kernel
theorem dX4_buys_133 : decode cX4_buys 133 = .ok (.lload 12, 2) := by decide +kernel
theorem dX4_buys_135 : decode cX4_buys 135 = .ok (.ladd, 1) := by decide +kernel
theorem dX4_buys_136 : decode cX4_buys 136 = .ok (.lastore, 1) := by decide +kernel
theorem dX4_buys_137 : decode cX4_buys 137 = .ok (.aload_n 0, 1) := by decide +kernel
theorem dX4_buys_138 : decode cX4_buys 138 = .ok (.getfield 67, 3) := by decide +kernel
theorem dX4_buys_141 : decode cX4_buys 141 = .ok (.aload_n 0, 1) := by decide +kernel
theorem dX4_buys_142 : decode cX4_buys 142 = .ok (.getfield 37, 3) := by decide +kernel
theorem dX4_buys_145 : decode cX4_buys 145 = .ok (.iload_n 1, 1) := by decide +kernel
theorem dX4_buys_146 : decode cX4_buys 146 = .ok (.iaload, 1) := by decide +kernel
theorem dX4_buys_147 : decode cX4_buys 147 = .ok (.dup2, 1) := by decide +kernel
theorem dX4_buys_148 : decode cX4_buys 148 = .ok (.laload, 1) := by decide +kernel
theorem dX4_buys_149 : decode cX4_buys 149 = .ok (.lload 9, 2) := by decide +kernel
theorem dX4_buys_151 : decode cX4_buys 151 = .ok (.lload 12, 2) := by decide +kernel
theorem dX4_buys_153 : decode cX4_buys 153 = .ok (.lsub, 1) := by decide +kernel
theorem dX4_buys_154 : decode cX4_buys 154 = .ok (.ladd, 1) := by decide +kernel
theorem dX4_buys_155 : decode cX4_buys 155 = .ok (.lastore, 1) := by decide +kernel
theorem dX4_buys_156 : decode cX4_buys 156 = .ok (.aload_n 0, 1) := by decide +kernel
theorem dX4_buys_157 : decode cX4_buys 157 = .ok (.getfield 61, 3) := by decide +kernel
theorem dX4_buys_160 : decode cX4_buys 160 = .ok (.iload_n 1, 1) := by decide +kernel
theorem dX4_buys_161 : decode cX4_buys 161 = .ok (.lload 7, 2) := by decide +kernel
theorem dX4_buys_163 : decode cX4_buys 163 = .ok (.lastore, 1) := by decide +kernel
theorem dX4_buys_164 : decode cX4_buys 164 = .ok (.aload_n 0, 1) := by decide +kernel
theorem dX4_buys_165 : decode cX4_buys 165 = .ok (.getfield 26, 3) := by decide +kernel
theorem dX4_buys_168 : decode cX4_buys 168 = .ok (.iload 4, 2) := by decide +kernel
theorem dX4_buys_170 : decode cX4_buys 170 = .ok (.lload 5, 2) := by decide +kernel
theorem dX4_buys_172 : decode cX4_buys 172 = .ok (.lload 7, 2) := by decide +kernel
theorem dX4_buys_174 : decode cX4_buys 174 = .ok (.ladd, 1) := by decide +kernel
theorem dX4_buys_175 : decode cX4_buys 175 = .ok (.lastore, 1) := by decide +kernel
theorem dX4_buys_176 : decode cX4_buys 176 = .ok (.aload_n 0, 1) := by decide +kernel
theorem dX4_buys_177 : decode cX4_buys 177 = .ok (.getfield 23, 3) := by decide +kernel
theorem dX4_buys_180 : decode cX4_buys 180 = .ok (.iload 4, 2) := by decide +kernel
theorem dX4_buys_182 : decode cX4_buys 182 = .ok (.aload_n 0, 1) := by decide +kernel
theorem dX4_buys_183 : decode cX4_buys 183 = .ok (.getfield 37, 3) := by decide +kernel
theorem dX4_buys_186 : decode cX4_buys 186 = .ok (.iload_n 1, 1) := by decide +kernel
theorem dX4_buys_187 : decode cX4_buys 187 = .ok (.iaload, 1) := by decide +kernel
theorem dX4_buys_188 : decode cX4_buys 188 = .ok (.iastore, 1) := by decide +kernel
theorem dX4_buys_189 : decode cX4_buys 189 = .ok (.aload_n 0, 1) := by decide +kernel
theorem dX4_buys_190 : decode cX4_buys 190 = .ok (.getfield 30, 3) := by decide +kernel
theorem dX4_buys_193 : decode cX4_buys 193 = .ok (.iload 4, 2) := by decide +kernel
theorem dX4_buys_195 : decode cX4_buys 195 = .ok (.iconst 0, 1) := by decide +kernel
theorem dX4_buys_196 : decode cX4_buys 196 = .ok (.bastore, 1) := by decide +kernel
theorem dX4_buys_197 : decode cX4_buys 197 = .ok (.return_, 1) := by decide +kernel
set_option maxRecDepth 20000 in
theorem ggX4_does_X4_lateBy : GoodIn wsX4_does wsX4_lateBy := goodIn_r _ [19, 5, 20, 21, 22, 18, 23, 14, 2, 44, 45, 46, 47, 48, 49, 50, 51, 52, 53, 54, 55, 56, 57, 58, 59, 60, 61, 62, 63, 64, 65, 66] (by decide +kernel) (by decide +kernel)
set_option maxRecDepth 20000 in
theorem gX4_does_X4_lateBy : GoodIn wsX4_does (wsV RX4 114 RX4 yX4_lateBy wsX4_lateBy) := goodIn_app (goodIn_of _ (by decide +kernel)) ggX4_does_X4_lateBy
set_option maxRecDepth 20000 in
theorem ggX4_does_X4_priceOf : GoodIn wsX4_does wsX4_priceOf := goodIn_r _ [27, 28, 44, 45, 46, 47, 48, 49, 50, 51, 52, 53, 54, 55, 56, 57, 58, 59, 60, 61, 62, 63, 64, 65, 66] (by decide +kernel) (by decide +kernel)
set_option maxRecDepth 20000 in
theorem gX4_does_X4_priceOf : GoodIn wsX4_does (wsV RX4 90 RX4 yX4_priceOf wsX4_priceOf) := goodIn_app (goodIn_of _ (by decide +kernel)) ggX4_does_X4_priceOf
set_option maxRecDepth 20000 in
theorem ggX4_does_X4_buys : GoodIn wsX4_does wsX4_buys := goodIn_r _ [32, 1, 8, 11, 5, 9, 13, 12, 33, 4, 34, 35, 7, 36, 37, 38, 18, 39, 40, 41, 42, 43, 6, 10, 24, 25, 26, 27, 28, 44, 45, 46, 47, 48, 49, 50, 51, 52, 53, 54, 55, 56, 57, 58, 59, 60, 61, 62, 63, 64, 65, 66] (by decide +kernel) (by decide +kernel)
set_option maxRecDepth 20000 in
theorem gX4_does_X4_buys : GoodIn wsX4_does (wsV RX4 117 RX4 yX4_buys wsX4_buys) := goodIn_app (goodIn_of _ (by decide +kernel)) ggX4_does_X4_buys
theorem dX4_does_0 : decode cX4_does 0 = .ok (.aload_n 0, 1) := by decide +kernel
theorem dX4_does_1 : decode cX4_does 1 = .ok (.getfield 34, 3) := by decide +kernel
theorem dX4_does_4 : decode cX4_does 4 = .ok (.iload_n 1, 1) := by decide +kernel
theorem dX4_does_5 : decode cX4_does 5 = .ok (.iaload, 1) := by decide +kernel
theorem dX4_does_6 : decode cX4_does 6 = .ok (.istore_n 3, 1) := by decide +kernel
theorem dX4_does_7 : decode cX4_does 7 = .ok (.aload_n 0, 1) := by decide +kernel
theorem dX4_does_8 : decode cX4_does 8 = .ok (.iload_n 1, 1) := by decide +kernel
theorem dX4_does_9 : decode cX4_does 9 = .ok (.invokevirtual 114, 3) := by decide +kernel
theorem dX4_does_12 : decode cX4_does 12 = .ok (.istore 4, 2) := by decide +kernel
theorem dX4_does_14 : decode cX4_does 14 = .ok (.aload_n 0, 1) := by decide +kernel
theorem dX4_does_15 : decode cX4_does 15 = .ok (.getfield 40, 3) := by decide +kernel
theorem dX4_does_18 : decode cX4_does 18 = .ok (.iload_n 1, 1) := by decide +kernel
theorem dX4_does_19 : decode cX4_does 19 = .ok (.iaload, 1) := by decide +kernel
theorem dX4_does_20 : decode cX4_does 20 = .ok (.iconst 1, 1) := by decide +kernel
theorem dX4_does_21 : decode cX4_does 21 = .ok (.if_icmp .ne 82, 3) := by decide +kernel
theorem dX4_does_24 : decode cX4_does 24 = .ok (.iload_n 2, 1) := by decide +kernel
theorem dX4_does_25 : decode cX4_does 25 = .ok (.ifCond .eq 10, 3) := by decide +kernel
theorem dX4_does_28 : decode cX4_does 28 = .ok (.aload_n 0, 1) := by decide +kernel
theorem dX4_does_29 : decode cX4_does 29 = .ok (.getfield 19, 3) := by decide +kernel
theorem dX4_does_32 : decode cX4_does 32 = .ok (.goto 17, 3) := by decide +kernel
theorem dX4_does_35 : decode cX4_does 35 = .ok (.aload_n 0, 1) := by decide +kernel
theorem dX4_does_36 : decode cX4_does 36 = .ok (.aload_n 0, 1) := by decide +kernel
theorem dX4_does_37 : decode cX4_does 37 = .ok (.getfield 23, 3) := by decide +kernel
theorem dX4_does_40 : decode cX4_does 40 = .ok (.iload_n 3, 1) := by decide +kernel
theorem dX4_does_41 : decode cX4_does 41 = .ok (.iaload, 1) := by decide +kernel
theorem dX4_does_42 : decode cX4_does 42 = .ok (.aload_n 0, 1) := by decide +kernel
theorem dX4_does_43 : decode cX4_does 43 = .ok (.getfield 83, 3) := by decide +kernel
theorem dX4_does_46 : decode cX4_does 46 = .ok (.invokevirtual 90, 3) := by decide +kernel
theorem dX4_does_49 : decode cX4_does 49 = .ok (.istore 5, 2) := by decide +kernel
theorem dX4_does_51 : decode cX4_does 51 = .ok (.aload_n 0, 1) := by decide +kernel
theorem dX4_does_52 : decode cX4_does 52 = .ok (.getfield 55, 3) := by decide +kernel
theorem dX4_does_55 : decode cX4_does 55 = .ok (.iload_n 1, 1) := by decide +kernel
theorem dX4_does_56 : decode cX4_does 56 = .ok (.aload_n 0, 1) := by decide +kernel
theorem dX4_does_57 : decode cX4_does 57 = .ok (.getfield 26, 3) := by decide +kernel
theorem dX4_does_60 : decode cX4_does 60 = .ok (.iload_n 3, 1) := by decide +kernel
theorem dX4_does_61 : decode cX4_does 61 = .ok (.laload, 1) := by decide +kernel
theorem dX4_does_62 : decode cX4_does 62 = .ok (.lastore, 1) := by decide +kernel
theorem dX4_does_63 : decode cX4_does 63 = .ok (.aload_n 0, 1) := by decide +kernel
theorem dX4_does_64 : decode cX4_does 64 = .ok (.getfield 58, 3) := by decide +kernel
theorem dX4_does_67 : decode cX4_does 67 = .ok (.iload_n 1, 1) := by decide +kernel
theorem dX4_does_68 : decode cX4_does 68 = .ok (.aload_n 0, 1) := by decide +kernel
theorem dX4_does_69 : decode cX4_does 69 = .ok (.getfield 26, 3) := by decide +kernel
theorem dX4_does_72 : decode cX4_does 72 = .ok (.iload_n 3, 1) := by decide +kernel
theorem dX4_does_73 : decode cX4_does 73 = .ok (.laload, 1) := by decide +kernel
theorem dX4_does_74 : decode cX4_does 74 = .ok (.iload 5, 2) := by decide +kernel
theorem dX4_does_76 : decode cX4_does 76 = .ok (.i2l, 1) := by decide +kernel
theorem dX4_does_77 : decode cX4_does 77 = .ok (.lmul, 1) := by decide +kernel
theorem dX4_does_78 : decode cX4_does 78 = .ok (.ldc2_w 94, 3) := by decide +kernel
theorem dX4_does_81 : decode cX4_does 81 = .ok (.ldiv, 1) := by decide +kernel
theorem dX4_does_82 : decode cX4_does 82 = .ok (.lastore, 1) := by decide +kernel
theorem dX4_does_83 : decode cX4_does 83 = .ok (.aload_n 0, 1) := by decide +kernel
theorem dX4_does_84 : decode cX4_does 84 = .ok (.getfield 26, 3) := by decide +kernel
theorem dX4_does_87 : decode cX4_does 87 = .ok (.iload_n 3, 1) := by decide +kernel
theorem dX4_does_88 : decode cX4_does 88 = .ok (.lconst 0, 1) := by decide +kernel
theorem dX4_does_89 : decode cX4_does 89 = .ok (.lastore, 1) := by decide +kernel
theorem dX4_does_90 : decode cX4_does 90 = .ok (.aload_n 0, 1) := by decide +kernel
theorem dX4_does_91 : decode cX4_does 91 = .ok (.getfield 46, 3) := by decide +kernel
theorem dX4_does_94 : decode cX4_does 94 = .ok (.iload_n 1, 1) := by decide +kernel
theorem dX4_does_95 : decode cX4_does 95 = .ok (.aload_n 0, 1) := by decide +kernel
theorem dX4_does_96 : decode cX4_does 96 = .ok (.getfield 83, 3) := by decide +kernel
theorem dX4_does_99 : decode cX4_does 99 = .ok (.iastore, 1) := by decide +kernel
theorem dX4_does_100 : decode cX4_does 100 = .ok (.goto 45, 3) := by decide +kernel
theorem dX4_does_103 : decode cX4_does 103 = .ok (.aload_n 0, 1) := by decide +kernel
theorem dX4_does_104 : decode cX4_does 104 = .ok (.getfield 40, 3) := by decide +kernel
theorem dX4_does_107 : decode cX4_does 107 = .ok (.iload_n 1, 1) := by decide +kernel
theorem dX4_does_108 : decode cX4_does 108 = .ok (.iaload, 1) := by decide +kernel
theorem dX4_does_109 : decode cX4_does 109 = .ok (.iconst 2, 1) := by decide +kernel
theorem dX4_does_110 : decode cX4_does 110 = .ok (.if_icmp .ne 35, 3) := by decide +kernel
theorem dX4_does_113 : decode cX4_does 113 = .ok (.aload_n 0, 1) := by decide +kernel
theorem dX4_does_114 : decode cX4_does 114 = .ok (.iload_n 1, 1) := by decide +kernel
theorem dX4_does_115 : decode cX4_does 115 = .ok (.iload_n 2, 1) := by decide +kernel
theorem dX4_does_116 : decode cX4_does 116 = .ok (.ifCond .eq 10, 3) := by decide +kernel
theorem dX4_does_119 : decode cX4_does 119 = .ok (.aload_n 0, 1) := by decide +kernel
theorem dX4_does_120 : decode cX4_does 120 = .ok (.getfield 19, 3) := by decide +kernel
theorem dX4_does_123 : decode cX4_does 123 = .ok (.goto 17, 3) := by decide +kernel
theorem dX4_does_126 : decode cX4_does 126 = .ok (.aload_n 0, 1) := by decide +kernel
theorem dX4_does_127 : decode cX4_does 127 = .ok (.aload_n 0, 1) := by decide +kernel
theorem dX4_does_128 : decode cX4_does 128 = .ok (.getfield 37, 3) := by decide +kernel
theorem dX4_does_131 : decode cX4_does 131 = .ok (.iload_n 1, 1) := by decide +kernel
theorem dX4_does_132 : decode cX4_does 132 = .ok (.iaload, 1) := by decide +kernel
theorem dX4_does_133 : decode cX4_does 133 = .ok (.aload_n 0, 1) := by decide +kernel
theorem dX4_does_134 : decode cX4_does 134 = .ok (.getfield 83, 3) := by decide +kernel
theorem dX4_does_137 : decode cX4_does 137 = .ok (.invokevirtual 90, 3) := by decide +kernel
theorem dX4_does_140 : decode cX4_does 140 = .ok (.iload 4, 2) := by decide +kernel
theorem dX4_does_142 : decode cX4_does 142 = .ok (.invokevirtual 117, 3) := by decide +kernel
theorem dX4_does_145 : decode cX4_does 145 = .ok (.aload_n 0, 1) := by decide +kernel
theorem dX4_does_146 : decode cX4_does 146 = .ok (.getfield 49, 3) := by decide +kernel
theorem dX4_does_149 : decode cX4_does 149 = .ok (.iload_n 1, 1) := by decide +kernel
theorem dX4_does_150 : decode cX4_does 150 = .ok (.dup2, 1) := by decide +kernel
theorem dX4_does_151 : decode cX4_does 151 = .ok (.iaload, 1) := by decide +kernel
theorem dX4_does_152 : decode cX4_does 152 = .ok (.aload_n 0, 1) := by decide +kernel
theorem dX4_does_153 : decode cX4_does 153 = .ok (.getfield 40, 3) := by decide +kernel
theorem dX4_does_156 : decode cX4_does 156 = .ok (.iload_n 1, 1) := by decide +kernel
theorem dX4_does_157 : decode cX4_does 157 = .ok (.iaload, 1) := by decide +kernel
theorem dX4_does_158 : decode cX4_does 158 = .ok (.iconst 2, 1) := by decide +kernel
theorem dX4_does_159 : decode cX4_does 159 = .ok (.if_icmp .ne 7, 3) := by decide +kernel
theorem dX4_does_162 : decode cX4_does 162 = .ok (.iconst 0, 1) := by decide +kernel
theorem dX4_does_163 : decode cX4_does 163 = .ok (.goto 5, 3) := by decide +kernel
theorem dX4_does_166 : decode cX4_does 166 = .ok (.iload 4, 2) := by decide +kernel
theorem dX4_does_168 : decode cX4_does 168 = .ok (.iadd, 1) := by decide +kernel
theorem dX4_does_169 : decode cX4_does 169 = .ok (.iastore, 1) := by decide +kernel
theorem dX4_does_170 : decode cX4_does 170 = .ok (.aload_n 0, 1) := by decide +kernel
theorem dX4_does_171 : decode cX4_does 171 = .ok (.getfield 52, 3) := by decide +kernel
theorem dX4_does_174 : decode cX4_does 174 = .ok (.iload_n 1, 1) := by decide +kernel
theorem dX4_does_175 : decode cX4_does 175 = .ok (.dup2, 1) := by decide +kernel
theorem dX4_does_176 : decode cX4_does 176 = .ok (.iaload, 1) := by decide +kernel
theorem dX4_does_177 : decode cX4_does 177 = .ok (.iload 4, 2) := by decide +kernel
theorem dX4_does_179 : decode cX4_does 179 = .ok (.iadd, 1) := by decide +kernel
theorem dX4_does_180 : decode cX4_does 180 = .ok (.iastore, 1) := by decide +kernel
theorem dX4_does_181 : decode cX4_does 181 = .ok (.aload_n 0, 1) := by decide +kernel
theorem dX4_does_182 : decode cX4_does 182 = .ok (.getfield 43, 3) := by decide +kernel
theorem dX4_does_185 : decode cX4_does 185 = .ok (.iload_n 1, 1) := by decide +kernel
theorem dX4_does_186 : decode cX4_does 186 = .ok (.aload_n 0, 1) := by decide +kernel
theorem dX4_does_187 : decode cX4_does 187 = .ok (.getfield 83, 3) := by decide +kernel
theorem dX4_does_190 : decode cX4_does 190 = .ok (.iastore, 1) := by decide +kernel
theorem dX4_does_191 : decode cX4_does 191 = .ok (.aload_n 0, 1) := by decide +kernel
theorem dX4_does_192 : decode cX4_does 192 = .ok (.getfield 40, 3) := by decide +kernel
theorem dX4_does_195 : decode cX4_does 195 = .ok (.iload_n 1, 1) := by decide +kernel
theorem dX4_does_196 : decode cX4_does 196 = .ok (.dup2, 1) := by decide +kernel
theorem dX4_does_197 : decode cX4_does 197 = .ok (.iaload, 1) := by decide +kernel
theorem dX4_does_198 : decode cX4_does 198 = .ok (.iconst 1, 1) := by decide +kernel
theorem dX4_does_199 : decode cX4_does 199 = .ok (.iadd, 1) := by decide +kernel
theorem dX4_does_200 : decode cX4_does 200 = .ok (.iastore, 1) := by decide +kernel
theorem dX4_does_201 : decode cX4_does 201 = .ok (.iload 4, 2) := by decide +kernel
theorem dX4_does_203 : decode cX4_does 203 = .ok (.ireturn, 1) := by decide +kernel
set_option maxRecDepth 20000 in
theorem ggX4_step_X4_isOrder : GoodIn wsX4_step wsX4_isOrder := goodIn_r _ [9, 10, 11, 12, 8, 13, 62, 63, 64, 65, 66, 67, 68, 69, 70, 71, 72, 73, 74, 75, 76, 77, 78, 79, 80, 81, 82, 83, 84] (by decide +kernel) (by decide +kernel)
set_option maxRecDepth 20000 in
theorem gX4_step_X4_isOrder : GoodIn wsX4_step (wsV RX4 121 RX4 yX4_isOrder wsX4_isOrder) := goodIn_app (goodIn_of _ (by decide +kernel)) ggX4_step_X4_isOrder
set_option maxRecDepth 20000 in
theorem ggX4_step_X4_priceOf : GoodIn wsX4_step wsX4_priceOf := goodIn_r _ [17, 18, 62, 63, 64, 65, 66, 67, 68, 69, 70, 71, 72, 73, 74, 75, 76, 77, 78, 79, 80, 81, 82, 83, 84] (by decide +kernel) (by decide +kernel)
set_option maxRecDepth 20000 in
theorem gX4_step_X4_priceOf : GoodIn wsX4_step (wsV RX4 90 RX4 yX4_priceOf wsX4_priceOf) := goodIn_app (goodIn_of _ (by decide +kernel)) ggX4_step_X4_priceOf
set_option maxRecDepth 20000 in
theorem ggX4_step_X4_lateBy : GoodIn wsX4_step wsX4_lateBy := goodIn_r _ [22, 4, 23, 24, 25, 8, 26, 27, 2, 62, 63, 64, 65, 66, 67, 68, 69, 70, 71, 72, 73, 74, 75, 76, 77, 78, 79, 80, 81, 82, 83, 84] (by decide +kernel) (by decide +kernel)
set_option maxRecDepth 20000 in
theorem gX4_step_X4_lateBy : GoodIn wsX4_step (wsV RX4 114 RX4 yX4_lateBy wsX4_lateBy) := goodIn_app (goodIn_of _ (by decide +kernel)) ggX4_step_X4_lateBy
set_option maxRecDepth 20000 in
theorem ggX4_step_X4_isTooMuch : GoodIn wsX4_step wsX4_isTooMuch := goodIn_r _ [31, 2, 32, 33, 34, 35, 8, 36, 37, 38, 39, 40, 41, 42, 43, 44, 45, 46, 47, 3, 4, 14, 15, 16, 17, 18, 62, 63, 64, 65, 66, 67, 68, 69, 70, 71, 72, 73, 74, 75, 76, 77, 78, 79, 80, 81, 82, 83, 84] (by decide +kernel) (by decide +kernel)
set_option maxRecDepth 20000 in
theorem gX4_step_X4_isTooMuch : GoodIn wsX4_step (wsV RX4 124 RX4 yX4_isTooMuch wsX4_isTooMuch) := goodIn_app (goodIn_of _ (by decide +kernel)) ggX4_step_X4_isTooMuch
set_option maxRecDepth 20000 in
theorem ggX4_step_X4_does : GoodIn wsX4_step wsX4_does := goodIn_r _ [51, 44, 2, 52, 43, 4, 45, 53, 32, 37, 46, 3, 47, 42, 27, 19, 20, 21, 8, 22, 23, 24, 25, 26, 14, 15, 16, 17, 18, 54, 55, 56, 57, 58, 59, 60, 61, 34, 35, 36, 38, 39, 40, 41, 62, 63, 64, 65, 66, 67, 68, 69, 70, 71, 72, 73, 74, 75, 76, 77, 78, 79, 80, 81, 82, 83, 84] (by decide +kernel) (by decide +kernel)
set_option maxRecDepth 20000 in
theorem gX4_step_X4_does : GoodIn wsX4_step (wsV RX4 127 RX4 yX4_does wsX4_does) := goodIn_app (goodIn_of _ (by decide +kernel)) ggX4_step_X4_does
theorem dX4_step_0 : decode cX4_step 0 = .ok (.aload_n 0, 1) := by decide +kernel
theorem dX4_step_1 : decode cX4_step 1 = .ok (.aload_n 0, 1) := by decide +kernel
theorem dX4_step_2 : decode cX4_step 2 = .ok (.iload_n 1, 1) := by decide +kernel
theorem dX4_step_3 : decode cX4_step 3 = .ok (.invokevirtual 121, 3) := by decide +kernel
theorem dX4_step_6 : decode cX4_step 6 = .ok (.ifCond .eq 7, 3) := by decide +kernel
theorem dX4_step_9 : decode cX4_step 9 = .ok (.iconst 0, 1) := by decide +kernel
theorem dX4_step_10 : decode cX4_step 10 = .ok (.goto 4, 3) := by decide +kernel
theorem dX4_step_13 : decode cX4_step 13 = .ok (.iconst 1, 1) := by decide +kernel
theorem dX4_step_14 : decode cX4_step 14 = .ok (.putfield 70, 3) := by decide +kernel
theorem dX4_step_17 : decode cX4_step 17 = .ok (.aload_n 0, 1) := by decide +kernel
theorem dX4_step_18 : decode cX4_step 18 = .ok (.getfield 70, 3) := by decide +kernel
theorem dX4_step_21 : decode cX4_step 21 = .ok (.ifCond .le 5, 3) := by decide +kernel
theorem dX4_step_24 : decode cX4_step 24 = .ok (.iconst 0, 1) := by decide +kernel
theorem dX4_step_25 : decode cX4_step 25 = .ok (.ireturn, 1) := by decide +kernel
theorem dX4_step_26 : decode cX4_step 26 = .ok (.aload_n 0, 1) := by decide +kernel
theorem dX4_step_27 : decode cX4_step 27 = .ok (.aload_n 0, 1) := by decide +kernel
theorem dX4_step_28 : decode cX4_step 28 = .ok (.getfield 40, 3) := by decide +kernel
theorem dX4_step_31 : decode cX4_step 31 = .ok (.iload_n 1, 1) := by decide +kernel
theorem dX4_step_32 : decode cX4_step 32 = .ok (.iaload, 1) := by decide +kernel
theorem dX4_step_33 : decode cX4_step 33 = .ok (.iconst 3, 1) := by decide +kernel
theorem dX4_step_34 : decode cX4_step 34 = .ok (.if_icmp .eq 30, 3) := by decide +kernel
theorem dX4_step_37 : decode cX4_step 37 = .ok (.aload_n 0, 1) := by decide +kernel
theorem dX4_step_38 : decode cX4_step 38 = .ok (.iload_n 1, 1) := by decide +kernel
theorem dX4_step_39 : decode cX4_step 39 = .ok (.aload_n 0, 1) := by decide +kernel
theorem dX4_step_40 : decode cX4_step 40 = .ok (.aload_n 0, 1) := by decide +kernel
theorem dX4_step_41 : decode cX4_step 41 = .ok (.getfield 37, 3) := by decide +kernel
theorem dX4_step_44 : decode cX4_step 44 = .ok (.iload_n 1, 1) := by decide +kernel
theorem dX4_step_45 : decode cX4_step 45 = .ok (.iaload, 1) := by decide +kernel
theorem dX4_step_46 : decode cX4_step 46 = .ok (.aload_n 0, 1) := by decide +kernel
theorem dX4_step_47 : decode cX4_step 47 = .ok (.getfield 83, 3) := by decide +kernel
theorem dX4_step_50 : decode cX4_step 50 = .ok (.invokevirtual 90, 3) := by decide +kernel
theorem dX4_step_53 : decode cX4_step 53 = .ok (.aload_n 0, 1) := by decide +kernel
theorem dX4_step_54 : decode cX4_step 54 = .ok (.iload_n 1, 1) := by decide +kernel
theorem dX4_step_55 : decode cX4_step 55 = .ok (.invokevirtual 114, 3) := by decide +kernel
theorem dX4_step_58 : decode cX4_step 58 = .ok (.invokevirtual 124, 3) := by decide +kernel
theorem dX4_step_61 : decode cX4_step 61 = .ok (.ifCond .eq 7, 3) := by decide +kernel
theorem dX4_step_64 : decode cX4_step 64 = .ok (.iconst 2, 1) := by decide +kernel
theorem dX4_step_65 : decode cX4_step 65 = .ok (.goto 4, 3) := by decide +kernel
theorem dX4_step_68 : decode cX4_step 68 = .ok (.iconst 0, 1) := by decide +kernel
theorem dX4_step_69 : decode cX4_step 69 = .ok (.putfield 70, 3) := by decide +kernel
theorem dX4_step_72 : decode cX4_step 72 = .ok (.aload_n 0, 1) := by decide +kernel
theorem dX4_step_73 : decode cX4_step 73 = .ok (.getfield 70, 3) := by decide +kernel
theorem dX4_step_76 : decode cX4_step 76 = .ok (.ifCond .le 7, 3) := by decide +kernel
theorem dX4_step_79 : decode cX4_step 79 = .ok (.iconst 0, 1) := by decide +kernel
theorem dX4_step_80 : decode cX4_step 80 = .ok (.goto 9, 3) := by decide +kernel
theorem dX4_step_83 : decode cX4_step 83 = .ok (.aload_n 0, 1) := by decide +kernel
theorem dX4_step_84 : decode cX4_step 84 = .ok (.iload_n 1, 1) := by decide +kernel
theorem dX4_step_85 : decode cX4_step 85 = .ok (.iconst 0, 1) := by decide +kernel
theorem dX4_step_86 : decode cX4_step 86 = .ok (.invokevirtual 127, 3) := by decide +kernel
theorem dX4_step_89 : decode cX4_step 89 = .ok (.ireturn, 1) := by decide +kernel
set_option maxRecDepth 20000 in
theorem ggX4_force_X4_isOrder : GoodIn wsX4_force wsX4_isOrder := goodIn_r _ [8, 9, 10, 11, 7, 12, 62, 63, 64, 65, 66, 67, 68, 69, 70, 71, 72, 73, 74, 75, 76, 77, 78, 79, 80, 81, 82, 83, 84] (by decide +kernel) (by decide +kernel)
set_option maxRecDepth 20000 in
theorem gX4_force_X4_isOrder : GoodIn wsX4_force (wsV RX4 121 RX4 yX4_isOrder wsX4_isOrder) := goodIn_app (goodIn_of _ (by decide +kernel)) ggX4_force_X4_isOrder
set_option maxRecDepth 20000 in
theorem ggX4_force_X4_lateBy : GoodIn wsX4_force wsX4_lateBy := goodIn_r _ [16, 17, 18, 19, 20, 7, 21, 22, 2, 62, 63, 64, 65, 66, 67, 68, 69, 70, 71, 72, 73, 74, 75, 76, 77, 78, 79, 80, 81, 82, 83, 84] (by decide +kernel) (by decide +kernel)
set_option maxRecDepth 20000 in
theorem gX4_force_X4_lateBy : GoodIn wsX4_force (wsV RX4 114 RX4 yX4_lateBy wsX4_lateBy) := goodIn_app (goodIn_of _ (by decide +kernel)) ggX4_force_X4_lateBy
set_option maxRecDepth 20000 in
theorem ggX4_force_X4_isTooMuch : GoodIn wsX4_force wsX4_isTooMuch := goodIn_r _ [26, 2, 27, 28, 29, 30, 7, 31, 32, 33, 34, 35, 36, 37, 38, 39, 40, 41, 42, 43, 17, 44, 45, 46, 47, 48, 62, 63, 64, 65, 66, 67, 68, 69, 70, 71, 72, 73, 74, 75, 76, 77, 78, 79, 80, 81, 82, 83, 84] (by decide +kernel) (by decide +kernel)
set_option maxRecDepth 20000 in
theorem gX4_force_X4_isTooMuch : GoodIn wsX4_force (wsV RX4 124 RX4 yX4_isTooMuch wsX4_isTooMuch) := goodIn_app (goodIn_of _ (by decide +kernel)) ggX4_force_X4_isTooMuch
set_option maxRecDepth 20000 in
theorem ggX4_force_X4_does : GoodIn wsX4_force wsX4_does := goodIn_r _ [52, 39, 2, 3, 38, 17, 40, 53, 27, 32, 41, 43, 42, 37, 22, 13, 14, 15, 7, 16, 18, 19, 20, 21, 44, 45, 46, 47, 48, 54, 55, 56, 57, 58, 59, 60, 61, 29, 30, 31, 33, 34, 35, 36, 62, 63, 64, 65, 66, 67, 68, 69, 70, 71, 72, 73, 74, 75, 76, 77, 78, 79, 80, 81, 82, 83, 84] (by decide +kernel) (by decide +kernel)
set_option maxRecDepth 20000 in
theorem gX4_force_X4_does : GoodIn wsX4_force (wsV RX4 127 RX4 yX4_does wsX4_does) := goodIn_app (goodIn_of _ (by decide +kernel)) ggX4_force_X4_does
theorem dX4_force_0 : decode cX4_force 0 = .ok (.aload_n 0, 1) := by decide +kernel
theorem dX4_force_1 : decode cX4_force 1 = .ok (.aload_n 0, 1) := by decide +kernel
theorem dX4_force_2 : decode cX4_force 2 = .ok (.iload_n 1, 1) := by decide +kernel
theorem dX4_force_3 : decode cX4_force 3 = .ok (.invokevirtual 121, 3) := by decide +kernel
theorem dX4_force_6 : decode cX4_force 6 = .ok (.ifCond .eq 7, 3) := by decide +kernel
theorem dX4_force_9 : decode cX4_force 9 = .ok (.iconst 0, 1) := by decide +kernel
theorem dX4_force_10 : decode cX4_force 10 = .ok (.goto 4, 3) := by decide +kernel
theorem dX4_force_13 : decode cX4_force 13 = .ok (.iconst 1, 1) := by decide +kernel
theorem dX4_force_14 : decode cX4_force 14 = .ok (.putfield 70, 3) := by decide +kernel
theorem dX4_force_17 : decode cX4_force 17 = .ok (.aload_n 0, 1) := by decide +kernel
theorem dX4_force_18 : decode cX4_force 18 = .ok (.getfield 70, 3) := by decide +kernel
theorem dX4_force_21 : decode cX4_force 21 = .ok (.ifCond .le 5, 3) := by decide +kernel
theorem dX4_force_24 : decode cX4_force 24 = .ok (.iconst 0, 1) := by decide +kernel
theorem dX4_force_25 : decode cX4_force 25 = .ok (.ireturn, 1) := by decide +kernel
theorem dX4_force_26 : decode cX4_force 26 = .ok (.aload_n 0, 1) := by decide +kernel
theorem dX4_force_27 : decode cX4_force 27 = .ok (.aload_n 0, 1) := by decide +kernel
theorem dX4_force_28 : decode cX4_force 28 = .ok (.getfield 40, 3) := by decide +kernel
theorem dX4_force_31 : decode cX4_force 31 = .ok (.iload_n 1, 1) := by decide +kernel
theorem dX4_force_32 : decode cX4_force 32 = .ok (.iaload, 1) := by decide +kernel
theorem dX4_force_33 : decode cX4_force 33 = .ok (.iconst 3, 1) := by decide +kernel
theorem dX4_force_34 : decode cX4_force 34 = .ok (.if_icmp .eq 30, 3) := by decide +kernel
theorem dX4_force_37 : decode cX4_force 37 = .ok (.aload_n 0, 1) := by decide +kernel
theorem dX4_force_38 : decode cX4_force 38 = .ok (.iload_n 1, 1) := by decide +kernel
theorem dX4_force_39 : decode cX4_force 39 = .ok (.invokevirtual 114, 3) := by decide +kernel
theorem dX4_force_42 : decode cX4_force 42 = .ok (.bipush 10, 2) := by decide +kernel
theorem dX4_force_44 : decode cX4_force 44 = .ok (.if_icmp .le 20, 3) := by decide +kernel
theorem dX4_force_47 : decode cX4_force 47 = .ok (.aload_n 0, 1) := by decide +kernel
theorem dX4_force_48 : decode cX4_force 48 = .ok (.iload_n 1, 1) := by decide +kernel
theorem dX4_force_49 : decode cX4_force 49 = .ok (.aload_n 0, 1) := by decide +kernel
theorem dX4_force_50 : decode cX4_force 50 = .ok (.getfield 19, 3) := by decide +kernel
theorem dX4_force_53 : decode cX4_force 53 = .ok (.aload_n 0, 1) := by decide +kernel
theorem dX4_force_54 : decode cX4_force 54 = .ok (.iload_n 1, 1) := by decide +kernel
theorem dX4_force_55 : decode cX4_force 55 = .ok (.invokevirtual 114, 3) := by decide +kernel
theorem dX4_force_58 : decode cX4_force 58 = .ok (.invokevirtual 124, 3) := by decide +kernel
theorem dX4_force_61 : decode cX4_force 61 = .ok (.ifCond .eq 7, 3) := by decide +kernel
theorem dX4_force_64 : decode cX4_force 64 = .ok (.iconst 2, 1) := by decide +kernel
theorem dX4_force_65 : decode cX4_force 65 = .ok (.goto 4, 3) := by decide +kernel
theorem dX4_force_68 : decode cX4_force 68 = .ok (.iconst 0, 1) := by decide +kernel
theorem dX4_force_69 : decode cX4_force 69 = .ok (.putfield 70, 3) := by decide +kernel
theorem dX4_force_72 : decode cX4_force 72 = .ok (.aload_n 0, 1) := by decide +kernel
theorem dX4_force_73 : decode cX4_force 73 = .ok (.getfield 70, 3) := by decide +kernel
theorem dX4_force_76 : decode cX4_force 76 = .ok (.ifCond .le 7, 3) := by decide +kernel
theorem dX4_force_79 : decode cX4_force 79 = .ok (.iconst 0, 1) := by decide +kernel
theorem dX4_force_80 : decode cX4_force 80 = .ok (.goto 9, 3) := by decide +kernel
theorem dX4_force_83 : decode cX4_force 83 = .ok (.aload_n 0, 1) := by decide +kernel
theorem dX4_force_84 : decode cX4_force 84 = .ok (.iload_n 1, 1) := by decide +kernel
theorem dX4_force_85 : decode cX4_force 85 = .ok (.iconst 1, 1) := by decide +kernel
theorem dX4_force_86 : decode cX4_force 86 = .ok (.invokevirtual 127, 3) := by decide +kernel
theorem dX4_force_89 : decode cX4_force 89 = .ok (.ireturn, 1) := by decide +kernel
set_option maxRecDepth 20000 in
theorem ggX4_asks_X4_isOrder : GoodIn wsX4_asks wsX4_isOrder := goodIn_r _ [6, 7, 8, 9, 5, 10, 11, 12, 13, 14, 15, 16, 17, 18, 19, 20, 21, 22, 23, 24, 25, 26, 27, 28, 29, 30, 31, 32, 33] (by decide +kernel) (by decide +kernel)
set_option maxRecDepth 20000 in
theorem gX4_asks_X4_isOrder : GoodIn wsX4_asks (wsV RX4 121 RX4 yX4_isOrder wsX4_isOrder) := goodIn_app (goodIn_of _ (by decide +kernel)) ggX4_asks_X4_isOrder
theorem dX4_asks_0 : decode cX4_asks 0 = .ok (.aload_n 0, 1) := by decide +kernel
theorem dX4_asks_1 : decode cX4_asks 1 = .ok (.aload_n 0, 1) := by decide +kernel
theorem dX4_asks_2 : decode cX4_asks 2 = .ok (.iload_n 1, 1) := by decide +kernel
theorem dX4_asks_3 : decode cX4_asks 3 = .ok (.invokevirtual 121, 3) := by decide +kernel
theorem dX4_asks_6 : decode cX4_asks 6 = .ok (.ifCond .eq 7, 3) := by decide +kernel
theorem dX4_asks_9 : decode cX4_asks 9 = .ok (.iconst 0, 1) := by decide +kernel
theorem dX4_asks_10 : decode cX4_asks 10 = .ok (.goto 4, 3) := by decide +kernel
theorem dX4_asks_13 : decode cX4_asks 13 = .ok (.iconst 1, 1) := by decide +kernel
theorem dX4_asks_14 : decode cX4_asks 14 = .ok (.putfield 70, 3) := by decide +kernel
theorem dX4_asks_17 : decode cX4_asks 17 = .ok (.aload_n 0, 1) := by decide +kernel
theorem dX4_asks_18 : decode cX4_asks 18 = .ok (.getfield 70, 3) := by decide +kernel
theorem dX4_asks_21 : decode cX4_asks 21 = .ok (.ifCond .ne 7, 3) := by decide +kernel
theorem dX4_asks_24 : decode cX4_asks 24 = .ok (.iconst 1, 1) := by decide +kernel
theorem dX4_asks_25 : decode cX4_asks 25 = .ok (.goto 4, 3) := by decide +kernel
theorem dX4_asks_28 : decode cX4_asks 28 = .ok (.iconst 0, 1) := by decide +kernel
theorem dX4_asks_29 : decode cX4_asks 29 = .ok (.ireturn, 1) := by decide +kernel
set_option maxRecDepth 20000 in
theorem ggX4_stage_X4_asks : GoodIn wsX4_stage wsX4_asks := goodIn_r _ [6, 7, 8, 9, 10, 5, 11, 12, 13, 14, 15, 16, 17, 18, 19, 20, 21, 22, 23, 24, 25, 26, 27, 28, 29, 30, 31, 32, 33, 34, 35, 36, 37, 38] (by decide +kernel) (by decide +kernel)
set_option maxRecDepth 20000 in
theorem gX4_stage_X4_asks : GoodIn wsX4_stage (wsV RX4 131 RX4 yX4_asks wsX4_asks) := goodIn_app (goodIn_of _ (by decide +kernel)) ggX4_stage_X4_asks
theorem dX4_stage_0 : decode cX4_stage 0 = .ok (.aload_n 0, 1) := by decide +kernel
theorem dX4_stage_1 : decode cX4_stage 1 = .ok (.iload_n 1, 1) := by decide +kernel
theorem dX4_stage_2 : decode cX4_stage 2 = .ok (.invokevirtual 131, 3) := by decide +kernel
theorem dX4_stage_5 : decode cX4_stage 5 = .ok (.ifCond .eq 12, 3) := by decide +kernel
theorem dX4_stage_8 : decode cX4_stage 8 = .ok (.aload_n 0, 1) := by decide +kernel
theorem dX4_stage_9 : decode cX4_stage 9 = .ok (.getfield 40, 3) := by decide +kernel
theorem dX4_stage_12 : decode cX4_stage 12 = .ok (.iload_n 1, 1) := by decide +kernel
theorem dX4_stage_13 : decode cX4_stage 13 = .ok (.iaload, 1) := by decide +kernel
theorem dX4_stage_14 : decode cX4_stage 14 = .ok (.goto 4, 3) := by decide +kernel
theorem dX4_stage_17 : decode cX4_stage 17 = .ok (.iconst 0, 1) := by decide +kernel
theorem dX4_stage_18 : decode cX4_stage 18 = .ok (.ireturn, 1) := by decide +kernel
set_option maxRecDepth 20000 in
theorem ggX4_due_X4_isOrder : GoodIn wsX4_due wsX4_isOrder := goodIn_r _ [7, 8, 9, 10, 6, 11, 17, 18, 19, 20, 21, 22, 23, 24, 25, 26, 27, 28, 29, 30, 31, 32, 33, 34, 35, 36, 37, 38, 39] (by decide +kernel) (by decide +kernel)
set_option maxRecDepth 20000 in
theorem gX4_due_X4_isOrder : GoodIn wsX4_due (wsV RX4 121 RX4 yX4_isOrder wsX4_isOrder) := goodIn_app (goodIn_of _ (by decide +kernel)) ggX4_due_X4_isOrder
set_option maxRecDepth 20000 in
theorem ggX4_due_X4_dueOf : GoodIn wsX4_due wsX4_dueOf := goodIn_r _ [15, 16, 1, 17, 18, 19, 20, 21, 22, 23, 24, 25, 26, 27, 28, 29, 30, 31, 32, 33, 34, 35, 36, 37, 38, 39] (by decide +kernel) (by decide +kernel)
set_option maxRecDepth 20000 in
theorem gX4_due_X4_dueOf : GoodIn wsX4_due (wsV RX4 106 RX4 yX4_dueOf wsX4_dueOf) := goodIn_app (goodIn_of _ (by decide +kernel)) ggX4_due_X4_dueOf
theorem dX4_due_0 : decode cX4_due 0 = .ok (.aload_n 0, 1) := by decide +kernel
theorem dX4_due_1 : decode cX4_due 1 = .ok (.aload_n 0, 1) := by decide +kernel
theorem dX4_due_2 : decode cX4_due 2 = .ok (.iload_n 1, 1) := by decide +kernel
theorem dX4_due_3 : decode cX4_due 3 = .ok (.invokevirtual 121, 3) := by decide +kernel
theorem dX4_due_6 : decode cX4_due 6 = .ok (.ifCond .ne 7, 3) := by decide +kernel
theorem dX4_due_9 : decode cX4_due 9 = .ok (.iconst 1, 1) := by decide +kernel
theorem dX4_due_10 : decode cX4_due 10 = .ok (.goto 18, 3) := by decide +kernel
theorem dX4_due_13 : decode cX4_due 13 = .ok (.aload_n 0, 1) := by decide +kernel
theorem dX4_due_14 : decode cX4_due 14 = .ok (.getfield 40, 3) := by decide +kernel
theorem dX4_due_17 : decode cX4_due 17 = .ok (.iload_n 1, 1) := by decide +kernel
theorem dX4_due_18 : decode cX4_due 18 = .ok (.iaload, 1) := by decide +kernel
theorem dX4_due_19 : decode cX4_due 19 = .ok (.iconst 3, 1) := by decide +kernel
theorem dX4_due_20 : decode cX4_due 20 = .ok (.if_icmp .ne 7, 3) := by decide +kernel
theorem dX4_due_23 : decode cX4_due 23 = .ok (.iconst 2, 1) := by decide +kernel
theorem dX4_due_24 : decode cX4_due 24 = .ok (.goto 4, 3) := by decide +kernel
theorem dX4_due_27 : decode cX4_due 27 = .ok (.iconst 0, 1) := by decide +kernel
theorem dX4_due_28 : decode cX4_due 28 = .ok (.putfield 70, 3) := by decide +kernel
theorem dX4_due_31 : decode cX4_due 31 = .ok (.aload_n 0, 1) := by decide +kernel
theorem dX4_due_32 : decode cX4_due 32 = .ok (.getfield 70, 3) := by decide +kernel
theorem dX4_due_35 : decode cX4_due 35 = .ok (.ifCond .le 7, 3) := by decide +kernel
theorem dX4_due_38 : decode cX4_due 38 = .ok (.iconst 0, 1) := by decide +kernel
theorem dX4_due_39 : decode cX4_due 39 = .ok (.goto 8, 3) := by decide +kernel
theorem dX4_due_42 : decode cX4_due 42 = .ok (.aload_n 0, 1) := by decide +kernel
theorem dX4_due_43 : decode cX4_due 43 = .ok (.iload_n 1, 1) := by decide +kernel
theorem dX4_due_44 : decode cX4_due 44 = .ok (.invokevirtual 106, 3) := by decide +kernel
theorem dX4_due_47 : decode cX4_due 47 = .ok (.ireturn, 1) := by decide +kernel
set_option maxRecDepth 20000 in
theorem ggX4_late_X4_asks : GoodIn wsX4_late wsX4_asks := goodIn_r _ [6, 7, 8, 9, 10, 5, 11, 12, 13, 14, 15, 16, 17, 18, 19, 20, 21, 22, 23, 24, 25, 26, 27, 28, 29, 30, 31, 32, 33, 34, 35, 36, 37, 38] (by decide +kernel) (by decide +kernel)
set_option maxRecDepth 20000 in
theorem gX4_late_X4_asks : GoodIn wsX4_late (wsV RX4 131 RX4 yX4_asks wsX4_asks) := goodIn_app (goodIn_of _ (by decide +kernel)) ggX4_late_X4_asks
theorem dX4_late_0 : decode cX4_late 0 = .ok (.aload_n 0, 1) := by decide +kernel
theorem dX4_late_1 : decode cX4_late 1 = .ok (.iload_n 1, 1) := by decide +kernel
theorem dX4_late_2 : decode cX4_late 2 = .ok (.invokevirtual 131, 3) := by decide +kernel
theorem dX4_late_5 : decode cX4_late 5 = .ok (.ifCond .eq 12, 3) := by decide +kernel
theorem dX4_late_8 : decode cX4_late 8 = .ok (.aload_n 0, 1) := by decide +kernel
theorem dX4_late_9 : decode cX4_late 9 = .ok (.getfield 52, 3) := by decide +kernel
theorem dX4_late_12 : decode cX4_late 12 = .ok (.iload_n 1, 1) := by decide +kernel
theorem dX4_late_13 : decode cX4_late 13 = .ok (.iaload, 1) := by decide +kernel
theorem dX4_late_14 : decode cX4_late 14 = .ok (.goto 4, 3) := by decide +kernel
theorem dX4_late_17 : decode cX4_late 17 = .ok (.iconst 0, 1) := by decide +kernel
theorem dX4_late_18 : decode cX4_late 18 = .ok (.ireturn, 1) := by decide +kernel
set_option maxRecDepth 20000 in
theorem ggX4_money_X4_asks : GoodIn wsX4_money wsX4_asks := goodIn_r _ [6, 7, 8, 9, 10, 5, 11, 12, 13, 14, 15, 16, 17, 18, 19, 20, 21, 22, 23, 24, 25, 26, 27, 28, 29, 30, 31, 32, 33, 34, 35, 36, 37, 38] (by decide +kernel) (by decide +kernel)
set_option maxRecDepth 20000 in
theorem gX4_money_X4_asks : GoodIn wsX4_money (wsV RX4 131 RX4 yX4_asks wsX4_asks) := goodIn_app (goodIn_of _ (by decide +kernel)) ggX4_money_X4_asks
theorem dX4_money_0 : decode cX4_money 0 = .ok (.aload_n 0, 1) := by decide +kernel
theorem dX4_money_1 : decode cX4_money 1 = .ok (.iload_n 1, 1) := by decide +kernel
theorem dX4_money_2 : decode cX4_money 2 = .ok (.invokevirtual 131, 3) := by decide +kernel
theorem dX4_money_5 : decode cX4_money 5 = .ok (.ifCond .eq 12, 3) := by decide +kernel
theorem dX4_money_8 : decode cX4_money 8 = .ok (.aload_n 0, 1) := by decide +kernel
theorem dX4_money_9 : decode cX4_money 9 = .ok (.getfield 58, 3) := by decide +kernel
theorem dX4_money_12 : decode cX4_money 12 = .ok (.iload_n 1, 1) := by decide +kernel
theorem dX4_money_13 : decode cX4_money 13 = .ok (.laload, 1) := by decide +kernel
theorem dX4_money_14 : decode cX4_money 14 = .ok (.goto 4, 3) := by decide +kernel
theorem dX4_money_17 : decode cX4_money 17 = .ok (.lconst 0, 1) := by decide +kernel
theorem dX4_money_18 : decode cX4_money 18 = .ok (.lreturn, 1) := by decide +kernel
set_option maxRecDepth 20000 in
theorem ggX4_madeGood_X4_asks : GoodIn wsX4_madeGood wsX4_asks := goodIn_r _ [6, 7, 8, 9, 10, 5, 11, 12, 13, 14, 15, 16, 17, 18, 19, 20, 21, 22, 23, 24, 25, 26, 27, 28, 29, 30, 31, 32, 33, 34, 35, 36, 37, 38] (by decide +kernel) (by decide +kernel)
set_option maxRecDepth 20000 in
theorem gX4_madeGood_X4_asks : GoodIn wsX4_madeGood (wsV RX4 131 RX4 yX4_asks wsX4_asks) := goodIn_app (goodIn_of _ (by decide +kernel)) ggX4_madeGood_X4_asks
theorem dX4_madeGood_0 : decode cX4_madeGood 0 = .ok (.aload_n 0, 1) := by decide +kernel
theorem dX4_madeGood_1 : decode cX4_madeGood 1 = .ok (.iload_n 1, 1) := by decide +kernel
theorem dX4_madeGood_2 : decode cX4_madeGood 2 = .ok (.invokevirtual 131, 3) := by decide +kernel
theorem dX4_madeGood_5 : decode cX4_madeGood 5 = .ok (.ifCond .eq 12, 3) := by decide +kernel
theorem dX4_madeGood_8 : decode cX4_madeGood 8 = .ok (.aload_n 0, 1) := by decide +kernel
theorem dX4_madeGood_9 : decode cX4_madeGood 9 = .ok (.getfield 61, 3) := by decide +kernel
theorem dX4_madeGood_12 : decode cX4_madeGood 12 = .ok (.iload_n 1, 1) := by decide +kernel
theorem dX4_madeGood_13 : decode cX4_madeGood 13 = .ok (.laload, 1) := by decide +kernel
theorem dX4_madeGood_14 : decode cX4_madeGood 14 = .ok (.goto 4, 3) := by decide +kernel
theorem dX4_madeGood_17 : decode cX4_madeGood 17 = .ok (.lconst 0, 1) := by decide +kernel
theorem dX4_madeGood_18 : decode cX4_madeGood 18 = .ok (.lreturn, 1) := by decide +kernel
set_option maxRecDepth 20000 in
theorem ggX4_owes_X4_isProvider : GoodIn wsX4_owes wsX4_isProvider := goodIn_r _ [6, 7, 8, 5, 9] (by decide +kernel) (by decide +kernel)
set_option maxRecDepth 20000 in
theorem gX4_owes_X4_isProvider : GoodIn wsX4_owes (va_wsS RX4 86 yX4_isProvider wsX4_isProvider) := goodIn_app (goodIn_of _ (by decide +kernel)) ggX4_owes_X4_isProvider
theorem dX4_owes_0 : decode cX4_owes 0 = .ok (.aload_n 0, 1) := by decide +kernel
theorem dX4_owes_1 : decode cX4_owes 1 = .ok (.iload_n 1, 1) := by decide +kernel
theorem dX4_owes_2 : decode cX4_owes 2 = .ok (.invokestatic 86, 3) := by decide +kernel
theorem dX4_owes_5 : decode cX4_owes 5 = .ok (.ifCond .eq 14, 3) := by decide +kernel
theorem dX4_owes_8 : decode cX4_owes 8 = .ok (.iload_n 2, 1) := by decide +kernel
theorem dX4_owes_9 : decode cX4_owes 9 = .ok (.invokestatic 86, 3) := by decide +kernel
theorem dX4_owes_12 : decode cX4_owes 12 = .ok (.ifCond .eq 7, 3) := by decide +kernel
theorem dX4_owes_15 : decode cX4_owes 15 = .ok (.iconst 0, 1) := by decide +kernel
theorem dX4_owes_16 : decode cX4_owes 16 = .ok (.goto 4, 3) := by decide +kernel
theorem dX4_owes_19 : decode cX4_owes 19 = .ok (.iconst 1, 1) := by decide +kernel
theorem dX4_owes_20 : decode cX4_owes 20 = .ok (.putfield 70, 3) := by decide +kernel
theorem dX4_owes_23 : decode cX4_owes 23 = .ok (.aload_n 0, 1) := by decide +kernel
theorem dX4_owes_24 : decode cX4_owes 24 = .ok (.getfield 70, 3) := by decide +kernel
theorem dX4_owes_27 : decode cX4_owes 27 = .ok (.ifCond .le 7, 3) := by decide +kernel
theorem dX4_owes_30 : decode cX4_owes 30 = .ok (.lconst 0, 1) := by decide +kernel
theorem dX4_owes_31 : decode cX4_owes 31 = .ok (.goto 24, 3) := by decide +kernel
theorem dX4_owes_34 : decode cX4_owes 34 = .ok (.aload_n 0, 1) := by decide +kernel
theorem dX4_owes_35 : decode cX4_owes 35 = .ok (.getfield 64, 3) := by decide +kernel
theorem dX4_owes_38 : decode cX4_owes 38 = .ok (.iconst 5, 1) := by decide +kernel
theorem dX4_owes_39 : decode cX4_owes 39 = .ok (.iload_n 1, 1) := by decide +kernel
theorem dX4_owes_40 : decode cX4_owes 40 = .ok (.imul, 1) := by decide +kernel
theorem dX4_owes_41 : decode cX4_owes 41 = .ok (.iload_n 2, 1) := by decide +kernel
theorem dX4_owes_42 : decode cX4_owes 42 = .ok (.iadd, 1) := by decide +kernel
theorem dX4_owes_43 : decode cX4_owes 43 = .ok (.laload, 1) := by decide +kernel
theorem dX4_owes_44 : decode cX4_owes 44 = .ok (.aload_n 0, 1) := by decide +kernel
theorem dX4_owes_45 : decode cX4_owes 45 = .ok (.getfield 64, 3) := by decide +kernel
theorem dX4_owes_48 : decode cX4_owes 48 = .ok (.iconst 5, 1) := by decide +kernel
theorem dX4_owes_49 : decode cX4_owes 49 = .ok (.iload_n 2, 1) := by decide +kernel
theorem dX4_owes_50 : decode cX4_owes 50 = .ok (.imul, 1) := by decide +kernel
theorem dX4_owes_51 : decode cX4_owes 51 = .ok (.iload_n 1, 1) := by decide +kernel
theorem dX4_owes_52 : decode cX4_owes 52 = .ok (.iadd, 1) := by decide +kernel
theorem dX4_owes_53 : decode cX4_owes 53 = .ok (.laload, 1) := by decide +kernel
theorem dX4_owes_54 : decode cX4_owes 54 = .ok (.lsub, 1) := by decide +kernel
theorem dX4_owes_55 : decode cX4_owes 55 = .ok (.lreturn, 1) := by decide +kernel
set_option maxRecDepth 20000 in
theorem ggX4_losses_X4_isProvider : GoodIn wsX4_losses wsX4_isProvider := goodIn_r _ [6, 7, 8, 5, 9] (by decide +kernel) (by decide +kernel)
set_option maxRecDepth 20000 in
theorem gX4_losses_X4_isProvider : GoodIn wsX4_losses (va_wsS RX4 86 yX4_isProvider wsX4_isProvider) := goodIn_app (goodIn_of _ (by decide +kernel)) ggX4_losses_X4_isProvider
theorem dX4_losses_0 : decode cX4_losses 0 = .ok (.aload_n 0, 1) := by decide +kernel
theorem dX4_losses_1 : decode cX4_losses 1 = .ok (.iload_n 1, 1) := by decide +kernel
theorem dX4_losses_2 : decode cX4_losses 2 = .ok (.invokestatic 86, 3) := by decide +kernel
theorem dX4_losses_5 : decode cX4_losses 5 = .ok (.ifCond .eq 7, 3) := by decide +kernel
theorem dX4_losses_8 : decode cX4_losses 8 = .ok (.iconst 0, 1) := by decide +kernel
theorem dX4_losses_9 : decode cX4_losses 9 = .ok (.goto 4, 3) := by decide +kernel
theorem dX4_losses_12 : decode cX4_losses 12 = .ok (.iconst 1, 1) := by decide +kernel
theorem dX4_losses_13 : decode cX4_losses 13 = .ok (.putfield 70, 3) := by decide +kernel
theorem dX4_losses_16 : decode cX4_losses 16 = .ok (.aload_n 0, 1) := by decide +kernel
theorem dX4_losses_17 : decode cX4_losses 17 = .ok (.getfield 70, 3) := by decide +kernel
theorem dX4_losses_20 : decode cX4_losses 20 = .ok (.ifCond .le 7, 3) := by decide +kernel
theorem dX4_losses_23 : decode cX4_losses 23 = .ok (.lconst 0, 1) := by decide +kernel
theorem dX4_losses_24 : decode cX4_losses 24 = .ok (.goto 9, 3) := by decide +kernel
theorem dX4_losses_27 : decode cX4_losses 27 = .ok (.aload_n 0, 1) := by decide +kernel
theorem dX4_losses_28 : decode cX4_losses 28 = .ok (.getfield 67, 3) := by decide +kernel
theorem dX4_losses_31 : decode cX4_losses 31 = .ok (.iload_n 1, 1) := by decide +kernel
theorem dX4_losses_32 : decode cX4_losses 32 = .ok (.laload, 1) := by decide +kernel
theorem dX4_losses_33 : decode cX4_losses 33 = .ok (.lreturn, 1) := by decide +kernel
theorem dJ9_max_7cf53_0 : decode cJ9_max_7cf53 0 = .ok (.iload_n 0, 1) := by decide +kernel
theorem dJ9_max_7cf53_1 : decode cJ9_max_7cf53 1 = .ok (.iload_n 1, 1) := by decide +kernel
theorem dJ9_max_7cf53_2 : decode cJ9_max_7cf53 2 = .ok (.if_icmp .lt 7, 3) := by decide +kernel
theorem dJ9_max_7cf53_5 : decode cJ9_max_7cf53 5 = .ok (.iload_n 0, 1) := by decide +kernel
theorem dJ9_max_7cf53_6 : decode cJ9_max_7cf53 6 = .ok (.goto 4, 3) := by decide +kernel
theorem dJ9_max_7cf53_9 : decode cJ9_max_7cf53 9 = .ok (.iload_n 1, 1) := by decide +kernel
theorem dJ9_max_7cf53_10 : decode cJ9_max_7cf53 10 = .ok (.ireturn, 1) := by decide +kernel
theorem dJ9_max_f86c9_0 : decode cJ9_max_f86c9 0 = .ok (.lload_n 0, 1) := by decide +kernel
theorem dJ9_max_f86c9_1 : decode cJ9_max_f86c9 1 = .ok (.lload_n 2, 1) := by decide +kernel
theorem dJ9_max_f86c9_2 : decode cJ9_max_f86c9 2 = .ok (.lcmp, 1) := by decide +kernel
theorem dJ9_max_f86c9_3 : decode cJ9_max_f86c9 3 = .ok (.ifCond .lt 7, 3) := by decide +kernel
theorem dJ9_max_f86c9_6 : decode cJ9_max_f86c9 6 = .ok (.lload_n 0, 1) := by decide +kernel
theorem dJ9_max_f86c9_7 : decode cJ9_max_f86c9 7 = .ok (.goto 4, 3) := by decide +kernel
theorem dJ9_max_f86c9_10 : decode cJ9_max_f86c9 10 = .ok (.lload_n 2, 1) := by decide +kernel
theorem dJ9_max_f86c9_11 : decode cJ9_max_f86c9 11 = .ok (.lreturn, 1) := by decide +kernel
set_option maxRecDepth 20000 in
theorem ggL_pass_X3_pass : GoodIn wsL_pass wsX3_pass := goodIn_ca (goodIn_ca (goodIn_r _ [7, 8, 9, 10, 11, 12, 13, 14, 6, 15, 16, 17, 18, 19, 20, 21, 22, 23, 24] (by decide +kernel) (by decide +kernel)) (goodIn_sub (fun _ h => List.mem_cons_of_mem _ (List.mem_append_left _ (List.mem_append_right _ h))) (by decide +kernel))) (goodIn_sub (fun _ h => List.mem_cons_of_mem _ (List.mem_append_right _ h)) (by decide +kernel))
set_option maxRecDepth 20000 in
theorem gL_pass_X3_pass : GoodIn wsL_pass (wsV RL 7 RX3 yX3_pass wsX3_pass) := goodIn_app (goodIn_of _ (by decide +kernel)) ggL_pass_X3_pass
