set_option maxRecDepth 20000 in
theorem ggX11_init_X10_init : GoodIn wsX11_init wsX10_init := goodIn_r _ [49, 50, 2, 3, 33, 51, 141, 142] rfl (by decide +kernel)
set_option maxRecDepth 20000 in
theorem gX11_init_X10_init_n9 : GoodIn wsX11_init (wsX10_init) := ggX11_init_X10_init
set_option maxRecDepth 20000 in
theorem ggX11_init_X1_init : GoodIn wsX11_init wsX1_init := goodIn_r _ [54, 55, 2, 3, 56, 57, 33, 58, 59, 60, 61, 44, 45, 62, 63, 64, 65, 66, 67, 68, 69, 70, 71, 72, 73, 160, 161, 162, 163, 164, 165, 166, 167, 216, 217, 218, 219, 220, 221, 222, 223, 224, 225, 226, 227] rfl (by decide +kernel)
set_option maxRecDepth 20000 in
theorem gX11_init_X1_init : GoodIn wsX11_init (wsX1_init) := ggX11_init_X1_init
set_option maxRecDepth 20000 in
theorem ggX11_init_X9_init : GoodIn wsX11_init wsX9_init := goodIn_r _ [76, 77, 2, 3, 33, 78, 79, 44, 45, 80, 63, 64, 65, 66, 67, 68, 69, 70, 71, 72, 73, 168, 169, 170, 171, 172, 173, 174, 175, 216, 217, 218, 219, 220, 221, 222, 223, 224, 225, 226, 227] rfl (by decide +kernel)
set_option maxRecDepth 20000 in
theorem gX11_init_X9_init : GoodIn wsX11_init (wsX9_init) := ggX11_init_X9_init
set_option maxRecDepth 20000 in
theorem ggX11_init_X7_init : GoodIn wsX11_init wsX7_init := goodIn_r _ [82, 83, 2, 3, 84, 85, 86, 87, 33, 88, 89, 90, 91, 92, 93, 94, 95, 96, 97, 98, 228, 229, 230, 231, 232, 233, 234, 235, 176, 177, 178, 179, 180] rfl (by decide +kernel)
set_option maxRecDepth 20000 in
theorem gX11_init_X7_init_n32 : GoodIn wsX11_init (wsX7_init) := ggX11_init_X7_init
set_option maxRecDepth 20000 in
theorem ggX11_init_X0_init : GoodIn wsX11_init wsX0_init := goodIn_r _ [101, 102, 2, 3, 103, 104, 105, 85, 86, 106, 33, 107, 108, 109, 110, 111, 112, 91, 92, 93, 94, 95, 96, 97, 98, 181, 182, 183, 184, 185, 186, 187, 188, 189, 190, 191, 228, 229, 230, 231, 232, 233, 234, 235] rfl (by decide +kernel)
set_option maxRecDepth 20000 in
theorem gX11_init_X0_init : GoodIn wsX11_init (wsX0_init) := ggX11_init_X0_init
set_option maxRecDepth 20000 in
theorem ggX11_init_X3_init : GoodIn wsX11_init wsX3_init := goodIn_r _ [114, 115, 2, 3, 33, 116, 117, 118, 192, 193, 194, 195] rfl (by decide +kernel)
set_option maxRecDepth 20000 in
theorem gX11_init_X3_init_n46 : GoodIn wsX11_init (wsX3_init) := ggX11_init_X3_init
set_option maxRecDepth 20000 in
theorem ggX11_init_X6_init : GoodIn wsX11_init wsX6_init := goodIn_r _ [121, 122, 2, 3, 33, 123, 124, 125, 126, 196, 197, 198, 199, 200, 201, 202, 203] rfl (by decide +kernel)
set_option maxRecDepth 20000 in
theorem gX11_init_X6_init : GoodIn wsX11_init (wsX6_init) := ggX11_init_X6_init
set_option maxRecDepth 20000 in
theorem ggX11_init_X2_init : GoodIn wsX11_init wsX2_init := goodIn_r _ [128, 129, 2, 3, 33, 130, 131, 132, 133, 134, 135, 136, 204, 205, 206, 207, 208, 209, 210, 211, 212] rfl (by decide +kernel)
set_option maxRecDepth 20000 in
theorem gX11_init_X2_init_n69 : GoodIn wsX11_init (wsX2_init) := ggX11_init_X2_init
set_option maxRecDepth 20000 in
theorem ggX11_init_X4_init : GoodIn wsX11_init wsX4_init := goodIn_r _ [138, 139, 2, 3, 33, 140, 213, 214, 215] rfl (by decide +kernel)
set_option maxRecDepth 20000 in
theorem gX11_init_X4_init_n76 : GoodIn wsX11_init (wsX4_init) := ggX11_init_X4_init
set_option maxRecDepth 20000 in
theorem ggX11_init_X8_init : GoodIn wsX11_init wsX8_init := goodIn_r _ [64, 65, 2, 3, 33, 66, 67, 68, 69, 70, 71, 72, 73, 216, 217, 218, 219, 220, 221, 222, 223, 224, 225, 226, 227] rfl (by decide +kernel)
set_option maxRecDepth 20000 in
theorem gX11_init_X8_init_n83 : GoodIn wsX11_init (wsX8_init) := ggX11_init_X8_init
theorem dX11_init_0 : decode cX11_init 0 = .ok (.aload_n 0, 1) := by decide +kernel
theorem dX11_init_1 : decode cX11_init 1 = .ok (.invokespecial 1, 3) := by decide +kernel
theorem dX11_init_4 : decode cX11_init 4 = .ok (.aload_n 0, 1) := by decide +kernel
theorem dX11_init_5 : decode cX11_init 5 = .ok (.new 7, 3) := by decide +kernel
theorem dX11_init_8 : decode cX11_init 8 = .ok (.dup, 1) := by decide +kernel
theorem dX11_init_9 : decode cX11_init 9 = .ok (.invokespecial 9, 3) := by decide +kernel
theorem dX11_init_12 : decode cX11_init 12 = .ok (.putfield 10, 3) := by decide +kernel
theorem dX11_init_15 : decode cX11_init 15 = .ok (.aload_n 0, 1) := by decide +kernel
theorem dX11_init_16 : decode cX11_init 16 = .ok (.new 16, 3) := by decide +kernel
theorem dX11_init_19 : decode cX11_init 19 = .ok (.dup, 1) := by decide +kernel
theorem dX11_init_20 : decode cX11_init 20 = .ok (.invokespecial 18, 3) := by decide +kernel
theorem dX11_init_23 : decode cX11_init 23 = .ok (.putfield 19, 3) := by decide +kernel
theorem dX11_init_26 : decode cX11_init 26 = .ok (.aload_n 0, 1) := by decide +kernel
theorem dX11_init_27 : decode cX11_init 27 = .ok (.new 23, 3) := by decide +kernel
theorem dX11_init_30 : decode cX11_init 30 = .ok (.dup, 1) := by decide +kernel
theorem dX11_init_31 : decode cX11_init 31 = .ok (.invokespecial 25, 3) := by decide +kernel
theorem dX11_init_34 : decode cX11_init 34 = .ok (.putfield 26, 3) := by decide +kernel
theorem dX11_init_37 : decode cX11_init 37 = .ok (.aload_n 0, 1) := by decide +kernel
theorem dX11_init_38 : decode cX11_init 38 = .ok (.new 30, 3) := by decide +kernel
theorem dX11_init_41 : decode cX11_init 41 = .ok (.dup, 1) := by decide +kernel
theorem dX11_init_42 : decode cX11_init 42 = .ok (.invokespecial 32, 3) := by decide +kernel
theorem dX11_init_45 : decode cX11_init 45 = .ok (.putfield 33, 3) := by decide +kernel
theorem dX11_init_48 : decode cX11_init 48 = .ok (.aload_n 0, 1) := by decide +kernel
theorem dX11_init_49 : decode cX11_init 49 = .ok (.new 37, 3) := by decide +kernel
theorem dX11_init_52 : decode cX11_init 52 = .ok (.dup, 1) := by decide +kernel
theorem dX11_init_53 : decode cX11_init 53 = .ok (.invokespecial 39, 3) := by decide +kernel
theorem dX11_init_56 : decode cX11_init 56 = .ok (.putfield 40, 3) := by decide +kernel
theorem dX11_init_59 : decode cX11_init 59 = .ok (.aload_n 0, 1) := by decide +kernel
theorem dX11_init_60 : decode cX11_init 60 = .ok (.new 44, 3) := by decide +kernel
theorem dX11_init_63 : decode cX11_init 63 = .ok (.dup, 1) := by decide +kernel
theorem dX11_init_64 : decode cX11_init 64 = .ok (.invokespecial 46, 3) := by decide +kernel
theorem dX11_init_67 : decode cX11_init 67 = .ok (.putfield 47, 3) := by decide +kernel
theorem dX11_init_70 : decode cX11_init 70 = .ok (.aload_n 0, 1) := by decide +kernel
theorem dX11_init_71 : decode cX11_init 71 = .ok (.new 51, 3) := by decide +kernel
theorem dX11_init_74 : decode cX11_init 74 = .ok (.dup, 1) := by decide +kernel
theorem dX11_init_75 : decode cX11_init 75 = .ok (.iconst 1, 1) := by decide +kernel
theorem dX11_init_76 : decode cX11_init 76 = .ok (.invokespecial 53, 3) := by decide +kernel
theorem dX11_init_79 : decode cX11_init 79 = .ok (.putfield 56, 3) := by decide +kernel
theorem dX11_init_82 : decode cX11_init 82 = .ok (.aload_n 0, 1) := by decide +kernel
theorem dX11_init_83 : decode cX11_init 83 = .ok (.new 51, 3) := by decide +kernel
theorem dX11_init_86 : decode cX11_init 86 = .ok (.dup, 1) := by decide +kernel
theorem dX11_init_87 : decode cX11_init 87 = .ok (.bipush 8, 2) := by decide +kernel
theorem dX11_init_89 : decode cX11_init 89 = .ok (.invokespecial 53, 3) := by decide +kernel
theorem dX11_init_92 : decode cX11_init 92 = .ok (.putfield 60, 3) := by decide +kernel
theorem dX11_init_95 : decode cX11_init 95 = .ok (.aload_n 0, 1) := by decide +kernel
theorem dX11_init_96 : decode cX11_init 96 = .ok (.bipush 60, 2) := by decide +kernel
theorem dX11_init_98 : decode cX11_init 98 = .ok (.newarray .int, 2) := by decide +kernel
theorem dX11_init_100 : decode cX11_init 100 = .ok (.putfield 63, 3) := by decide +kernel
theorem dX11_init_103 : decode cX11_init 103 = .ok (.aload_n 0, 1) := by decide +kernel
theorem dX11_init_104 : decode cX11_init 104 = .ok (.new 67, 3) := by decide +kernel
theorem dX11_init_107 : decode cX11_init 107 = .ok (.dup, 1) := by decide +kernel
theorem dX11_init_108 : decode cX11_init 108 = .ok (.invokespecial 69, 3) := by decide +kernel
theorem dX11_init_111 : decode cX11_init 111 = .ok (.putfield 70, 3) := by decide +kernel
theorem dX11_init_114 : decode cX11_init 114 = .ok (.aload_n 0, 1) := by decide +kernel
theorem dX11_init_115 : decode cX11_init 115 = .ok (.new 74, 3) := by decide +kernel
theorem dX11_init_118 : decode cX11_init 118 = .ok (.dup, 1) := by decide +kernel
theorem dX11_init_119 : decode cX11_init 119 = .ok (.invokespecial 76, 3) := by decide +kernel
theorem dX11_init_122 : decode cX11_init 122 = .ok (.putfield 77, 3) := by decide +kernel
theorem dX11_init_125 : decode cX11_init 125 = .ok (.aload_n 0, 1) := by decide +kernel
theorem dX11_init_126 : decode cX11_init 126 = .ok (.new 81, 3) := by decide +kernel
theorem dX11_init_129 : decode cX11_init 129 = .ok (.dup, 1) := by decide +kernel
theorem dX11_init_130 : decode cX11_init 130 = .ok (.invokespecial 83, 3) := by decide +kernel
theorem dX11_init_133 : decode cX11_init 133 = .ok (.putfield 84, 3) := by decide +kernel
theorem dX11_init_136 : decode cX11_init 136 = .ok (.aload_n 0, 1) := by decide +kernel
theorem dX11_init_137 : decode cX11_init 137 = .ok (.iconst (-1), 1) := by decide +kernel
theorem dX11_init_138 : decode cX11_init 138 = .ok (.putfield 88, 3) := by decide +kernel
theorem dX11_init_141 : decode cX11_init 141 = .ok (.return_, 1) := by decide +kernel
set_option maxRecDepth 20000 in
theorem ggX11_feed_X10_append : GoodIn wsX11_feed wsX10_append := goodIn_r _ [7, 8, 9, 27, 28] rfl (by decide +kernel)
set_option maxRecDepth 20000 in
theorem gX11_feed_X10_append : GoodIn wsX11_feed (wsV RX11 95 RX10 yX10_append wsX10_append) := goodIn_app (goodIn_r _ [3, 4, 5, 6] rfl (by decide +kernel)) ggX11_feed_X10_append
theorem dX11_feed_0 : decode cX11_feed 0 = .ok (.aload_n 0, 1) := by decide +kernel
theorem dX11_feed_1 : decode cX11_feed 1 = .ok (.getfield 10, 3) := by decide +kernel
theorem dX11_feed_4 : decode cX11_feed 4 = .ok (.getfield 92, 3) := by decide +kernel
theorem dX11_feed_7 : decode cX11_feed 7 = .ok (.bipush 20, 2) := by decide +kernel
theorem dX11_feed_9 : decode cX11_feed 9 = .ok (.iadd, 1) := by decide +kernel
theorem dX11_feed_10 : decode cX11_feed 10 = .ok (.sipush 440, 3) := by decide +kernel
theorem dX11_feed_13 : decode cX11_feed 13 = .ok (.if_icmp .le 5, 3) := by decide +kernel
theorem dX11_feed_16 : decode cX11_feed 16 = .ok (.iconst (-1), 1) := by decide +kernel
theorem dX11_feed_17 : decode cX11_feed 17 = .ok (.ireturn, 1) := by decide +kernel
theorem dX11_feed_18 : decode cX11_feed 18 = .ok (.aload_n 0, 1) := by decide +kernel
theorem dX11_feed_19 : decode cX11_feed 19 = .ok (.getfield 10, 3) := by decide +kernel
theorem dX11_feed_22 : decode cX11_feed 22 = .ok (.iload_n 1, 1) := by decide +kernel
theorem dX11_feed_23 : decode cX11_feed 23 = .ok (.invokevirtual 95, 3) := by decide +kernel
theorem dX11_feed_26 : decode cX11_feed 26 = .ok (.aload_n 0, 1) := by decide +kernel
theorem dX11_feed_27 : decode cX11_feed 27 = .ok (.getfield 10, 3) := by decide +kernel
theorem dX11_feed_30 : decode cX11_feed 30 = .ok (.iload_n 2, 1) := by decide +kernel
theorem dX11_feed_31 : decode cX11_feed 31 = .ok (.invokevirtual 95, 3) := by decide +kernel
theorem dX11_feed_34 : decode cX11_feed 34 = .ok (.aload_n 0, 1) := by decide +kernel
theorem dX11_feed_35 : decode cX11_feed 35 = .ok (.getfield 10, 3) := by decide +kernel
theorem dX11_feed_38 : decode cX11_feed 38 = .ok (.iload_n 3, 1) := by decide +kernel
theorem dX11_feed_39 : decode cX11_feed 39 = .ok (.invokevirtual 95, 3) := by decide +kernel
theorem dX11_feed_42 : decode cX11_feed 42 = .ok (.aload_n 0, 1) := by decide +kernel
theorem dX11_feed_43 : decode cX11_feed 43 = .ok (.getfield 10, 3) := by decide +kernel
theorem dX11_feed_46 : decode cX11_feed 46 = .ok (.iload 4, 2) := by decide +kernel
theorem dX11_feed_48 : decode cX11_feed 48 = .ok (.invokevirtual 95, 3) := by decide +kernel
theorem dX11_feed_51 : decode cX11_feed 51 = .ok (.aload_n 0, 1) := by decide +kernel
theorem dX11_feed_52 : decode cX11_feed 52 = .ok (.getfield 10, 3) := by decide +kernel
theorem dX11_feed_55 : decode cX11_feed 55 = .ok (.iload 5, 2) := by decide +kernel
theorem dX11_feed_57 : decode cX11_feed 57 = .ok (.invokevirtual 95, 3) := by decide +kernel
theorem dX11_feed_60 : decode cX11_feed 60 = .ok (.aload_n 0, 1) := by decide +kernel
theorem dX11_feed_61 : decode cX11_feed 61 = .ok (.getfield 10, 3) := by decide +kernel
theorem dX11_feed_64 : decode cX11_feed 64 = .ok (.getfield 92, 3) := by decide +kernel
theorem dX11_feed_67 : decode cX11_feed 67 = .ok (.ireturn, 1) := by decide +kernel
theorem dX11_end_0 : decode cX11_end 0 = .ok (.iload_n 1, 1) := by decide +kernel
theorem dX11_end_1 : decode cX11_end 1 = .ok (.ifCond .lt 14, 3) := by decide +kernel
theorem dX11_end_4 : decode cX11_end 4 = .ok (.iload_n 1, 1) := by decide +kernel
theorem dX11_end_5 : decode cX11_end 5 = .ok (.aload_n 0, 1) := by decide +kernel
theorem dX11_end_6 : decode cX11_end 6 = .ok (.getfield 10, 3) := by decide +kernel
theorem dX11_end_9 : decode cX11_end 9 = .ok (.getfield 92, 3) := by decide +kernel
theorem dX11_end_12 : decode cX11_end 12 = .ok (.if_icmp .le 5, 3) := by decide +kernel
theorem dX11_end_15 : decode cX11_end 15 = .ok (.iconst 0, 1) := by decide +kernel
theorem dX11_end_16 : decode cX11_end 16 = .ok (.ireturn, 1) := by decide +kernel
theorem dX11_end_17 : decode cX11_end 17 = .ok (.aload_n 0, 1) := by decide +kernel
theorem dX11_end_18 : decode cX11_end 18 = .ok (.getfield 10, 3) := by decide +kernel
theorem dX11_end_21 : decode cX11_end 21 = .ok (.iload_n 1, 1) := by decide +kernel
theorem dX11_end_22 : decode cX11_end 22 = .ok (.putfield 92, 3) := by decide +kernel
theorem dX11_end_25 : decode cX11_end 25 = .ok (.iconst 1, 1) := by decide +kernel
theorem dX11_end_26 : decode cX11_end 26 = .ok (.ireturn, 1) := by decide +kernel
theorem dX11_next_0 : decode cX11_next 0 = .ok (.iload_n 1, 1) := by decide +kernel
theorem dX11_next_1 : decode cX11_next 1 = .ok (.ifCond .lt 22, 3) := by decide +kernel
theorem dX11_next_4 : decode cX11_next 4 = .ok (.iload_n 1, 1) := by decide +kernel
theorem dX11_next_5 : decode cX11_next 5 = .ok (.sipush 999, 3) := by decide +kernel
theorem dX11_next_8 : decode cX11_next 8 = .ok (.if_icmp .gt 15, 3) := by decide +kernel
theorem dX11_next_11 : decode cX11_next 11 = .ok (.aload_n 0, 1) := by decide +kernel
theorem dX11_next_12 : decode cX11_next 12 = .ok (.getfield 98, 3) := by decide +kernel
theorem dX11_next_15 : decode cX11_next 15 = .ok (.iload_n 1, 1) := by decide +kernel
theorem dX11_next_16 : decode cX11_next 16 = .ok (.iadd, 1) := by decide +kernel
theorem dX11_next_17 : decode cX11_next 17 = .ok (.sipush 999, 3) := by decide +kernel
theorem dX11_next_20 : decode cX11_next 20 = .ok (.if_icmp .le 5, 3) := by decide +kernel
theorem dX11_next_23 : decode cX11_next 23 = .ok (.iconst (-1), 1) := by decide +kernel
theorem dX11_next_24 : decode cX11_next 24 = .ok (.ireturn, 1) := by decide +kernel
theorem dX11_next_25 : decode cX11_next 25 = .ok (.aload_n 0, 1) := by decide +kernel
theorem dX11_next_26 : decode cX11_next 26 = .ok (.dup, 1) := by decide +kernel
theorem dX11_next_27 : decode cX11_next 27 = .ok (.getfield 98, 3) := by decide +kernel
theorem dX11_next_30 : decode cX11_next 30 = .ok (.iload_n 1, 1) := by decide +kernel
theorem dX11_next_31 : decode cX11_next 31 = .ok (.iadd, 1) := by decide +kernel
theorem dX11_next_32 : decode cX11_next 32 = .ok (.putfield 98, 3) := by decide +kernel
theorem dX11_next_35 : decode cX11_next 35 = .ok (.aload_n 0, 1) := by decide +kernel
theorem dX11_next_36 : decode cX11_next 36 = .ok (.getfield 98, 3) := by decide +kernel
theorem dX11_next_39 : decode cX11_next 39 = .ok (.ireturn, 1) := by decide +kernel
theorem dX11_towers_0 : decode cX11_towers 0 = .ok (.iload_n 1, 1) := by decide +kernel
theorem dX11_towers_1 : decode cX11_towers 1 = .ok (.iconst 3, 1) := by decide +kernel
theorem dX11_towers_2 : decode cX11_towers 2 = .ok (.if_icmp .lt 29, 3) := by decide +kernel
theorem dX11_towers_5 : decode cX11_towers 5 = .ok (.iload_n 1, 1) := by decide +kernel
theorem dX11_towers_6 : decode cX11_towers 6 = .ok (.bipush 16, 2) := by decide +kernel
theorem dX11_towers_8 : decode cX11_towers 8 = .ok (.if_icmp .gt 23, 3) := by decide +kernel
theorem dX11_towers_11 : decode cX11_towers 11 = .ok (.aload_n 0, 1) := by decide +kernel
theorem dX11_towers_12 : decode cX11_towers 12 = .ok (.getfield 19, 3) := by decide +kernel
theorem dX11_towers_15 : decode cX11_towers 15 = .ok (.getfield 101, 3) := by decide +kernel
theorem dX11_towers_18 : decode cX11_towers 18 = .ok (.ifCond .gt 13, 3) := by decide +kernel
theorem dX11_towers_21 : decode cX11_towers 21 = .ok (.aload_n 0, 1) := by decide +kernel
theorem dX11_towers_22 : decode cX11_towers 22 = .ok (.getfield 70, 3) := by decide +kernel
theorem dX11_towers_25 : decode cX11_towers 25 = .ok (.getfield 104, 3) := by decide +kernel
theorem dX11_towers_28 : decode cX11_towers 28 = .ok (.ifCond .le 5, 3) := by decide +kernel
theorem dX11_towers_31 : decode cX11_towers 31 = .ok (.iconst 0, 1) := by decide +kernel
theorem dX11_towers_32 : decode cX11_towers 32 = .ok (.ireturn, 1) := by decide +kernel
theorem dX11_towers_33 : decode cX11_towers 33 = .ok (.aload_n 0, 1) := by decide +kernel
theorem dX11_towers_34 : decode cX11_towers 34 = .ok (.getfield 19, 3) := by decide +kernel
theorem dX11_towers_37 : decode cX11_towers 37 = .ok (.iload_n 1, 1) := by decide +kernel
theorem dX11_towers_38 : decode cX11_towers 38 = .ok (.putfield 107, 3) := by decide +kernel
theorem dX11_towers_41 : decode cX11_towers 41 = .ok (.iconst 1, 1) := by decide +kernel
theorem dX11_towers_42 : decode cX11_towers 42 = .ok (.ireturn, 1) := by decide +kernel
set_option maxRecDepth 20000 in
theorem ggX11_program_X9_read : GoodIn wsX11_program wsX9_read := goodIn_r _ [15, 16, 17, 18, 19, 20, 21, 22, 23, 24, 25, 26, 27, 28, 29, 30, 31, 32, 33, 34, 35, 36, 14, 37, 38, 39, 40, 41, 42, 43, 44, 45, 46, 47, 48, 49, 50, 51, 52, 53, 54, 55, 56, 57, 58, 59, 60, 61, 62, 63, 64, 65, 66, 67, 68, 69, 70, 71, 72, 73, 74, 75, 76, 77, 78, 79, 80, 81, 82, 83, 84, 85, 86, 87, 88, 89, 90, 91, 92, 93, 94, 95, 96, 97, 98, 99, 100, 101, 102, 103, 104, 105, 106, 107, 108, 109, 110, 111, 112, 113, 114, 115, 116, 117, 118, 119, 120, 121, 122, 123, 124, 125, 126, 127, 128, 129, 130, 131, 132, 133, 134, 135, 136, 137, 138, 139, 140, 141, 142, 143, 144, 145, 146, 147, 148, 149, 150, 151, 152, 153, 154, 155, 156, 157, 158, 159, 160, 161, 162, 163, 164, 165, 166, 167, 168, 169, 170, 171, 172, 173, 174, 175, 176, 177, 178, 179, 180, 181, 182, 183, 184, 185, 186, 187, 188, 189, 190, 191, 192, 193, 194, 195, 196, 197, 198, 199, 200, 201, 202, 203, 204, 205, 206, 207, 208, 209, 210, 211, 212, 213, 214, 215, 216, 262, 263, 234, 235, 236, 237, 238, 239, 240, 241, 242, 243, 244, 245, 246, 247, 248, 249, 250, 251, 252, 253] rfl (by decide +kernel)
set_option maxRecDepth 20000 in
theorem gX11_program_X9_read : GoodIn wsX11_program (wsV RX11 110 RX9 yX9_read wsX9_read) := goodIn_app (goodIn_r _ [11, 12, 13, 14] rfl (by decide +kernel)) ggX11_program_X9_read
theorem dX11_program_0 : decode cX11_program 0 = .ok (.sipush (-1000), 3) := by decide +kernel
theorem dX11_program_3 : decode cX11_program 3 = .ok (.istore_n 2, 1) := by decide +kernel
theorem dX11_program_4 : decode cX11_program 4 = .ok (.iload_n 1, 1) := by decide +kernel
theorem dX11_program_5 : decode cX11_program 5 = .ok (.ifCond .lt 93, 3) := by decide +kernel
theorem dX11_program_8 : decode cX11_program 8 = .ok (.iload_n 1, 1) := by decide +kernel
theorem dX11_program_9 : decode cX11_program 9 = .ok (.iconst 3, 1) := by decide +kernel
theorem dX11_program_10 : decode cX11_program 10 = .ok (.if_icmp .ge 88, 3) := by decide +kernel
theorem dX11_program_13 : decode cX11_program 13 = .ok (.aload_n 0, 1) := by decide +kernel
theorem dX11_program_14 : decode cX11_program 14 = .ok (.getfield 26, 3) := by decide +kernel
theorem dX11_program_17 : decode cX11_program 17 = .ok (.aload_n 0, 1) := by decide +kernel
theorem dX11_program_18 : decode cX11_program 18 = .ok (.getfield 10, 3) := by decide +kernel
theorem dX11_program_21 : decode cX11_program 21 = .ok (.aload_n 0, 1) := by decide +kernel
theorem dX11_program_22 : decode cX11_program 22 = .ok (.getfield 84, 3) := by decide +kernel
theorem dX11_program_25 : decode cX11_program 25 = .ok (.invokevirtual 110, 3) := by decide +kernel
theorem dX11_program_28 : decode cX11_program 28 = .ok (.istore_n 3, 1) := by decide +kernel
theorem dX11_program_29 : decode cX11_program 29 = .ok (.aload_n 0, 1) := by decide +kernel
theorem dX11_program_30 : decode cX11_program 30 = .ok (.aload_n 0, 1) := by decide +kernel
theorem dX11_program_31 : decode cX11_program 31 = .ok (.getfield 26, 3) := by decide +kernel
theorem dX11_program_34 : decode cX11_program 34 = .ok (.getfield 114, 3) := by decide +kernel
theorem dX11_program_37 : decode cX11_program 37 = .ok (.putfield 117, 3) := by decide +kernel
theorem dX11_program_40 : decode cX11_program 40 = .ok (.iload_n 3, 1) := by decide +kernel
theorem dX11_program_41 : decode cX11_program 41 = .ok (.ifCond .eq 13, 3) := by decide +kernel
theorem dX11_program_44 : decode cX11_program 44 = .ok (.aload_n 0, 1) := by decide +kernel
theorem dX11_program_45 : decode cX11_program 45 = .ok (.getfield 84, 3) := by decide +kernel
theorem dX11_program_48 : decode cX11_program 48 = .ok (.getfield 120, 3) := by decide +kernel
theorem dX11_program_51 : decode cX11_program 51 = .ok (.goto 12, 3) := by decide +kernel
theorem dX11_program_54 : decode cX11_program 54 = .ok (.iconst (-1), 1) := by decide +kernel
theorem dX11_program_55 : decode cX11_program 55 = .ok (.aload_n 0, 1) := by decide +kernel
theorem dX11_program_56 : decode cX11_program 56 = .ok (.getfield 26, 3) := by decide +kernel
theorem dX11_program_59 : decode cX11_program 59 = .ok (.getfield 123, 3) := by decide +kernel
theorem dX11_program_62 : decode cX11_program 62 = .ok (.isub, 1) := by decide +kernel
theorem dX11_program_63 : decode cX11_program 63 = .ok (.istore_n 2, 1) := by decide +kernel
theorem dX11_program_64 : decode cX11_program 64 = .ok (.iload_n 3, 1) := by decide +kernel
theorem dX11_program_65 : decode cX11_program 65 = .ok (.ifCond .eq 33, 3) := by decide +kernel
theorem dX11_program_68 : decode cX11_program 68 = .ok (.aload_n 0, 1) := by decide +kernel
theorem dX11_program_69 : decode cX11_program 69 = .ok (.getfield 19, 3) := by decide +kernel
theorem dX11_program_72 : decode cX11_program 72 = .ok (.getfield 126, 3) := by decide +kernel
theorem dX11_program_75 : decode cX11_program 75 = .ok (.iload_n 1, 1) := by decide +kernel
theorem dX11_program_76 : decode cX11_program 76 = .ok (.aaload, 1) := by decide +kernel
theorem dX11_program_77 : decode cX11_program 77 = .ok (.astore 4, 2) := by decide +kernel
theorem dX11_program_79 : decode cX11_program 79 = .ok (.aload_n 0, 1) := by decide +kernel
theorem dX11_program_80 : decode cX11_program 80 = .ok (.getfield 19, 3) := by decide +kernel
theorem dX11_program_83 : decode cX11_program 83 = .ok (.getfield 126, 3) := by decide +kernel
theorem dX11_program_86 : decode cX11_program 86 = .ok (.iload_n 1, 1) := by decide +kernel
theorem dX11_program_87 : decode cX11_program 87 = .ok (.aload_n 0, 1) := by decide +kernel
theorem dX11_program_88 : decode cX11_program 88 = .ok (.getfield 84, 3) := by decide +kernel
theorem dX11_program_91 : decode cX11_program 91 = .ok (.aastore, 1) := by decide +kernel
theorem dX11_program_92 : decode cX11_program 92 = .ok (.aload_n 0, 1) := by decide +kernel
theorem dX11_program_93 : decode cX11_program 93 = .ok (.aload 4, 2) := by decide +kernel
theorem dX11_program_95 : decode cX11_program 95 = .ok (.putfield 84, 3) := by decide +kernel
theorem dX11_program_98 : decode cX11_program 98 = .ok (.aload_n 0, 1) := by decide +kernel
theorem dX11_program_99 : decode cX11_program 99 = .ok (.getfield 10, 3) := by decide +kernel
theorem dX11_program_102 : decode cX11_program 102 = .ok (.iconst 0, 1) := by decide +kernel
theorem dX11_program_103 : decode cX11_program 103 = .ok (.putfield 92, 3) := by decide +kernel
theorem dX11_program_106 : decode cX11_program 106 = .ok (.iload_n 2, 1) := by decide +kernel
theorem dX11_program_107 : decode cX11_program 107 = .ok (.ireturn, 1) := by decide +kernel
theorem dX11_fault_0 : decode cX11_fault 0 = .ok (.aload_n 0, 1) := by decide +kernel
theorem dX11_fault_1 : decode cX11_fault 1 = .ok (.getfield 117, 3) := by decide +kernel
theorem dX11_fault_4 : decode cX11_fault 4 = .ok (.ireturn, 1) := by decide +kernel
set_option maxRecDepth 20000 in
theorem ggX11_message_X1_takeMessage : GoodIn wsX11_message wsX1_takeMessage := goodIn_r _ [8, 9, 10, 11, 12, 13, 14, 15, 16, 34, 35, 36, 37, 38, 39, 40, 41, 42, 43] rfl (by decide +kernel)
set_option maxRecDepth 20000 in
theorem gX11_message_X1_takeMessage : GoodIn wsX11_message (wsV RX11 130 RX1 yX1_takeMessage wsX1_takeMessage) := goodIn_app (goodIn_r _ [4, 5, 6, 7] rfl (by decide +kernel)) ggX11_message_X1_takeMessage
theorem dX11_message_0 : decode cX11_message 0 = .ok (.aload_n 0, 1) := by decide +kernel
theorem dX11_message_1 : decode cX11_message 1 = .ok (.getfield 19, 3) := by decide +kernel
theorem dX11_message_4 : decode cX11_message 4 = .ok (.aload_n 0, 1) := by decide +kernel
theorem dX11_message_5 : decode cX11_message 5 = .ok (.getfield 10, 3) := by decide +kernel
theorem dX11_message_8 : decode cX11_message 8 = .ok (.invokevirtual 130, 3) := by decide +kernel
theorem dX11_message_11 : decode cX11_message 11 = .ok (.istore_n 1, 1) := by decide +kernel
theorem dX11_message_12 : decode cX11_message 12 = .ok (.aload_n 0, 1) := by decide +kernel
theorem dX11_message_13 : decode cX11_message 13 = .ok (.getfield 10, 3) := by decide +kernel
theorem dX11_message_16 : decode cX11_message 16 = .ok (.iconst 0, 1) := by decide +kernel
theorem dX11_message_17 : decode cX11_message 17 = .ok (.putfield 92, 3) := by decide +kernel
theorem dX11_message_20 : decode cX11_message 20 = .ok (.iload_n 1, 1) := by decide +kernel
theorem dX11_message_21 : decode cX11_message 21 = .ok (.ireturn, 1) := by decide +kernel
set_option maxRecDepth 20000 in
theorem ggX11_fog_X1_addFog : GoodIn wsX11_fog wsX1_addFog := goodIn_r _ [8, 9, 10, 28, 29, 30, 31, 32, 33, 34, 35] rfl (by decide +kernel)
set_option maxRecDepth 20000 in
theorem gX11_fog_X1_addFog : GoodIn wsX11_fog (wsV RX11 134 RX1 yX1_addFog wsX1_addFog) := goodIn_app (goodIn_r _ [4, 5, 6, 7] rfl (by decide +kernel)) ggX11_fog_X1_addFog
theorem dX11_fog_0 : decode cX11_fog 0 = .ok (.aload_n 0, 1) := by decide +kernel
theorem dX11_fog_1 : decode cX11_fog 1 = .ok (.getfield 19, 3) := by decide +kernel
theorem dX11_fog_4 : decode cX11_fog 4 = .ok (.getfield 101, 3) := by decide +kernel
theorem dX11_fog_7 : decode cX11_fog 7 = .ok (.bipush 60, 2) := by decide +kernel
theorem dX11_fog_9 : decode cX11_fog 9 = .ok (.if_icmp .ge 37, 3) := by decide +kernel
theorem dX11_fog_12 : decode cX11_fog 12 = .ok (.iload_n 1, 1) := by decide +kernel
theorem dX11_fog_13 : decode cX11_fog 13 = .ok (.ifCond .lt 33, 3) := by decide +kernel
theorem dX11_fog_16 : decode cX11_fog 16 = .ok (.iload_n 1, 1) := by decide +kernel
theorem dX11_fog_17 : decode cX11_fog 17 = .ok (.aload_n 0, 1) := by decide +kernel
theorem dX11_fog_18 : decode cX11_fog 18 = .ok (.getfield 19, 3) := by decide +kernel
theorem dX11_fog_21 : decode cX11_fog 21 = .ok (.getfield 107, 3) := by decide +kernel
theorem dX11_fog_24 : decode cX11_fog 24 = .ok (.iconst 1, 1) := by decide +kernel
theorem dX11_fog_25 : decode cX11_fog 25 = .ok (.isub, 1) := by decide +kernel
theorem dX11_fog_26 : decode cX11_fog 26 = .ok (.if_icmp .ge 20, 3) := by decide +kernel
theorem dX11_fog_29 : decode cX11_fog 29 = .ok (.iload_n 2, 1) := by decide +kernel
theorem dX11_fog_30 : decode cX11_fog 30 = .ok (.iconst 1, 1) := by decide +kernel
theorem dX11_fog_31 : decode cX11_fog 31 = .ok (.if_icmp .lt 15, 3) := by decide +kernel
theorem dX11_fog_34 : decode cX11_fog 34 = .ok (.iload_n 3, 1) := by decide +kernel
theorem dX11_fog_35 : decode cX11_fog 35 = .ok (.iload_n 2, 1) := by decide +kernel
theorem dX11_fog_36 : decode cX11_fog 36 = .ok (.if_icmp .lt 10, 3) := by decide +kernel
theorem dX11_fog_39 : decode cX11_fog 39 = .ok (.iload_n 3, 1) := by decide +kernel
theorem dX11_fog_40 : decode cX11_fog 40 = .ok (.sipush 500, 3) := by decide +kernel
theorem dX11_fog_43 : decode cX11_fog 43 = .ok (.if_icmp .le 5, 3) := by decide +kernel
theorem dX11_fog_46 : decode cX11_fog 46 = .ok (.iconst (-1), 1) := by decide +kernel
theorem dX11_fog_47 : decode cX11_fog 47 = .ok (.ireturn, 1) := by decide +kernel
theorem dX11_fog_48 : decode cX11_fog 48 = .ok (.aload_n 0, 1) := by decide +kernel
theorem dX11_fog_49 : decode cX11_fog 49 = .ok (.getfield 19, 3) := by decide +kernel
theorem dX11_fog_52 : decode cX11_fog 52 = .ok (.iload_n 1, 1) := by decide +kernel
theorem dX11_fog_53 : decode cX11_fog 53 = .ok (.iload_n 2, 1) := by decide +kernel
theorem dX11_fog_54 : decode cX11_fog 54 = .ok (.iload_n 3, 1) := by decide +kernel
theorem dX11_fog_55 : decode cX11_fog 55 = .ok (.invokevirtual 134, 3) := by decide +kernel
theorem dX11_fog_58 : decode cX11_fog 58 = .ok (.ireturn, 1) := by decide +kernel
set_option maxRecDepth 20000 in
theorem ggX11_play_X7_run : GoodIn wsX11_play wsX7_run := goodIn_r _ [9, 10, 11, 12, 13, 14, 15, 16, 17, 18, 19, 20, 21, 22, 23, 24, 25, 26, 27, 28, 29, 30, 31, 32, 33, 34, 35, 36, 37, 38, 39, 40, 41, 42, 43, 44, 45, 46, 47, 48, 49, 50, 51, 52, 53, 54, 55, 56, 57, 58, 59, 60, 61, 62, 63, 64, 65, 66, 67, 68, 69, 70, 71, 72, 73, 74, 75, 76, 77, 78, 79, 80, 81, 82, 83, 84, 85, 86, 87, 88, 89, 90, 91, 92, 93, 94, 95, 96, 97, 98, 99, 100, 101, 102, 103, 104, 105, 106, 107, 108, 109, 110, 111, 112, 113, 114, 115, 133, 134, 135, 136, 137, 146, 147, 148, 149, 150, 151, 152, 153, 138, 139, 140, 141, 142, 143, 144, 145, 154, 155, 156, 157, 158, 159, 160, 161, 162, 163, 164, 165] rfl (by decide +kernel)
set_option maxRecDepth 20000 in
theorem gX11_play_X7_run : GoodIn wsX11_play (wsV RX11 138 RX7 yX7_run wsX7_run) := goodIn_app (goodIn_r _ [5, 6, 7, 8] rfl (by decide +kernel)) ggX11_play_X7_run
theorem dX11_play_0 : decode cX11_play 0 = .ok (.iload_n 1, 1) := by decide +kernel
theorem dX11_play_1 : decode cX11_play 1 = .ok (.ifCond .lt 10, 3) := by decide +kernel
theorem dX11_play_4 : decode cX11_play 4 = .ok (.iload_n 1, 1) := by decide +kernel
theorem dX11_play_5 : decode cX11_play 5 = .ok (.sipush 500, 3) := by decide +kernel
theorem dX11_play_8 : decode cX11_play 8 = .ok (.if_icmp .le 5, 3) := by decide +kernel
theorem dX11_play_11 : decode cX11_play 11 = .ok (.iconst (-1), 1) := by decide +kernel
theorem dX11_play_12 : decode cX11_play 12 = .ok (.ireturn, 1) := by decide +kernel
theorem dX11_play_13 : decode cX11_play 13 = .ok (.aload_n 0, 1) := by decide +kernel
theorem dX11_play_14 : decode cX11_play 14 = .ok (.getfield 33, 3) := by decide +kernel
theorem dX11_play_17 : decode cX11_play 17 = .ok (.aload_n 0, 1) := by decide +kernel
theorem dX11_play_18 : decode cX11_play 18 = .ok (.getfield 19, 3) := by decide +kernel
theorem dX11_play_21 : decode cX11_play 21 = .ok (.iload_n 1, 1) := by decide +kernel
theorem dX11_play_22 : decode cX11_play 22 = .ok (.invokevirtual 138, 3) := by decide +kernel
theorem dX11_play_25 : decode cX11_play 25 = .ok (.aload_n 0, 1) := by decide +kernel
theorem dX11_play_26 : decode cX11_play 26 = .ok (.getfield 33, 3) := by decide +kernel
theorem dX11_play_29 : decode cX11_play 29 = .ok (.getfield 142, 3) := by decide +kernel
theorem dX11_play_32 : decode cX11_play 32 = .ok (.getfield 146, 3) := by decide +kernel
theorem dX11_play_35 : decode cX11_play 35 = .ok (.ireturn, 1) := by decide +kernel
set_option maxRecDepth 20000 in
theorem ggX11_shown_X7_hasTower : GoodIn wsX11_shown wsX7_hasTower := goodIn_r _ [8, 9, 10, 11, 29, 30, 31, 32, 33, 34, 35, 36, 37, 38, 39, 40, 41] rfl (by decide +kernel)
set_option maxRecDepth 20000 in
theorem gX11_shown_X7_hasTower : GoodIn wsX11_shown (wsV RX11 151 RX7 yX7_hasTower wsX7_hasTower) := goodIn_app (goodIn_r _ [4, 5, 6, 7] rfl (by decide +kernel)) ggX11_shown_X7_hasTower
theorem dX11_shown_0 : decode cX11_shown 0 = .ok (.aload_n 0, 1) := by decide +kernel
theorem dX11_shown_1 : decode cX11_shown 1 = .ok (.getfield 33, 3) := by decide +kernel
theorem dX11_shown_4 : decode cX11_shown 4 = .ok (.iload_n 1, 1) := by decide +kernel
theorem dX11_shown_5 : decode cX11_shown 5 = .ok (.invokevirtual 151, 3) := by decide +kernel
theorem dX11_shown_8 : decode cX11_shown 8 = .ok (.ifCond .eq 18, 3) := by decide +kernel
theorem dX11_shown_11 : decode cX11_shown 11 = .ok (.iload_n 2, 1) := by decide +kernel
theorem dX11_shown_12 : decode cX11_shown 12 = .ok (.ifCond .lt 14, 3) := by decide +kernel
theorem dX11_shown_15 : decode cX11_shown 15 = .ok (.iload_n 2, 1) := by decide +kernel
theorem dX11_shown_16 : decode cX11_shown 16 = .ok (.aload_n 0, 1) := by decide +kernel
theorem dX11_shown_17 : decode cX11_shown 17 = .ok (.getfield 33, 3) := by decide +kernel
theorem dX11_shown_20 : decode cX11_shown 20 = .ok (.getfield 155, 3) := by decide +kernel
theorem dX11_shown_23 : decode cX11_shown 23 = .ok (.if_icmp .le 5, 3) := by decide +kernel
theorem dX11_shown_26 : decode cX11_shown 26 = .ok (.iconst (-1), 1) := by decide +kernel
theorem dX11_shown_27 : decode cX11_shown 27 = .ok (.ireturn, 1) := by decide +kernel
theorem dX11_shown_28 : decode cX11_shown 28 = .ok (.aload_n 0, 1) := by decide +kernel
theorem dX11_shown_29 : decode cX11_shown 29 = .ok (.getfield 33, 3) := by decide +kernel
theorem dX11_shown_32 : decode cX11_shown 32 = .ok (.getfield 158, 3) := by decide +kernel
theorem dX11_shown_35 : decode cX11_shown 35 = .ok (.iload_n 2, 1) := by decide +kernel
theorem dX11_shown_36 : decode cX11_shown 36 = .ok (.bipush 16, 2) := by decide +kernel
theorem dX11_shown_38 : decode cX11_shown 38 = .ok (.imul, 1) := by decide +kernel
theorem dX11_shown_39 : decode cX11_shown 39 = .ok (.iload_n 1, 1) := by decide +kernel
theorem dX11_shown_40 : decode cX11_shown 40 = .ok (.iadd, 1) := by decide +kernel
theorem dX11_shown_41 : decode cX11_shown 41 = .ok (.iaload, 1) := by decide +kernel
theorem dX11_shown_42 : decode cX11_shown 42 = .ok (.ireturn, 1) := by decide +kernel
set_option maxRecDepth 20000 in
theorem ggX11_cell_X7_hasTower : GoodIn wsX11_cell wsX7_hasTower := goodIn_r _ [9, 10, 11, 12, 30, 31, 32, 33, 34, 35, 36, 37, 38, 39, 40, 41, 42] rfl (by decide +kernel)
set_option maxRecDepth 20000 in
theorem gX11_cell_X7_hasTower : GoodIn wsX11_cell (wsV RX11 151 RX7 yX7_hasTower wsX7_hasTower) := goodIn_app (goodIn_r _ [5, 6, 7, 8] rfl (by decide +kernel)) ggX11_cell_X7_hasTower
theorem dX11_cell_0 : decode cX11_cell 0 = .ok (.aload_n 0, 1) := by decide +kernel
theorem dX11_cell_1 : decode cX11_cell 1 = .ok (.getfield 33, 3) := by decide +kernel
theorem dX11_cell_4 : decode cX11_cell 4 = .ok (.iload_n 1, 1) := by decide +kernel
theorem dX11_cell_5 : decode cX11_cell 5 = .ok (.invokevirtual 151, 3) := by decide +kernel
theorem dX11_cell_8 : decode cX11_cell 8 = .ok (.ifCond .eq 12, 3) := by decide +kernel
theorem dX11_cell_11 : decode cX11_cell 11 = .ok (.iload_n 2, 1) := by decide +kernel
theorem dX11_cell_12 : decode cX11_cell 12 = .ok (.ifCond .lt 8, 3) := by decide +kernel
theorem dX11_cell_15 : decode cX11_cell 15 = .ok (.iload_n 2, 1) := by decide +kernel
theorem dX11_cell_16 : decode cX11_cell 16 = .ok (.iconst 4, 1) := by decide +kernel
theorem dX11_cell_17 : decode cX11_cell 17 = .ok (.if_icmp .le 5, 3) := by decide +kernel
theorem dX11_cell_20 : decode cX11_cell 20 = .ok (.iconst (-1), 1) := by decide +kernel
theorem dX11_cell_21 : decode cX11_cell 21 = .ok (.ireturn, 1) := by decide +kernel
theorem dX11_cell_22 : decode cX11_cell 22 = .ok (.aload_n 0, 1) := by decide +kernel
theorem dX11_cell_23 : decode cX11_cell 23 = .ok (.getfield 33, 3) := by decide +kernel
theorem dX11_cell_26 : decode cX11_cell 26 = .ok (.getfield 142, 3) := by decide +kernel
theorem dX11_cell_29 : decode cX11_cell 29 = .ok (.astore_n 3, 1) := by decide +kernel
theorem dX11_cell_30 : decode cX11_cell 30 = .ok (.iload_n 2, 1) := by decide +kernel
theorem dX11_cell_31 : decode cX11_cell 31 = .ok (.iconst 4, 1) := by decide +kernel
theorem dX11_cell_32 : decode cX11_cell 32 = .ok (.if_icmp .ne 12, 3) := by decide +kernel
theorem dX11_cell_35 : decode cX11_cell 35 = .ok (.aload_n 3, 1) := by decide +kernel
theorem dX11_cell_36 : decode cX11_cell 36 = .ok (.getfield 161, 3) := by decide +kernel
theorem dX11_cell_39 : decode cX11_cell 39 = .ok (.iload_n 1, 1) := by decide +kernel
theorem dX11_cell_40 : decode cX11_cell 40 = .ok (.iaload, 1) := by decide +kernel
theorem dX11_cell_41 : decode cX11_cell 41 = .ok (.goto 13, 3) := by decide +kernel
theorem dX11_cell_44 : decode cX11_cell 44 = .ok (.aload_n 3, 1) := by decide +kernel
theorem dX11_cell_45 : decode cX11_cell 45 = .ok (.getfield 164, 3) := by decide +kernel
theorem dX11_cell_48 : decode cX11_cell 48 = .ok (.iload_n 1, 1) := by decide +kernel
theorem dX11_cell_49 : decode cX11_cell 49 = .ok (.iconst 4, 1) := by decide +kernel
theorem dX11_cell_50 : decode cX11_cell 50 = .ok (.imul, 1) := by decide +kernel
theorem dX11_cell_51 : decode cX11_cell 51 = .ok (.iload_n 2, 1) := by decide +kernel
theorem dX11_cell_52 : decode cX11_cell 52 = .ok (.iadd, 1) := by decide +kernel
theorem dX11_cell_53 : decode cX11_cell 53 = .ok (.iaload, 1) := by decide +kernel
theorem dX11_cell_54 : decode cX11_cell 54 = .ok (.ireturn, 1) := by decide +kernel
theorem dX11_written_0 : decode cX11_written 0 = .ok (.aload_n 0, 1) := by decide +kernel
theorem dX11_written_1 : decode cX11_written 1 = .ok (.getfield 33, 3) := by decide +kernel
theorem dX11_written_4 : decode cX11_written 4 = .ok (.getfield 142, 3) := by decide +kernel
theorem dX11_written_7 : decode cX11_written 7 = .ok (.astore_n 2, 1) := by decide +kernel
theorem dX11_written_8 : decode cX11_written 8 = .ok (.iload_n 1, 1) := by decide +kernel
theorem dX11_written_9 : decode cX11_written 9 = .ok (.ifCond .lt 20, 3) := by decide +kernel
theorem dX11_written_12 : decode cX11_written 12 = .ok (.iload_n 1, 1) := by decide +kernel
theorem dX11_written_13 : decode cX11_written 13 = .ok (.aload_n 2, 1) := by decide +kernel
theorem dX11_written_14 : decode cX11_written 14 = .ok (.getfield 146, 3) := by decide +kernel
theorem dX11_written_17 : decode cX11_written 17 = .ok (.if_icmp .ge 12, 3) := by decide +kernel
theorem dX11_written_20 : decode cX11_written 20 = .ok (.iload_n 1, 1) := by decide +kernel
theorem dX11_written_21 : decode cX11_written 21 = .ok (.aload_n 2, 1) := by decide +kernel
theorem dX11_written_22 : decode cX11_written 22 = .ok (.getfield 167, 3) := by decide +kernel
theorem dX11_written_25 : decode cX11_written 25 = .ok (.arraylength, 1) := by decide +kernel
theorem dX11_written_26 : decode cX11_written 26 = .ok (.if_icmp .lt 7, 3) := by decide +kernel
theorem dX11_written_29 : decode cX11_written 29 = .ok (.iconst (-1), 1) := by decide +kernel
theorem dX11_written_30 : decode cX11_written 30 = .ok (.goto 9, 3) := by decide +kernel
theorem dX11_written_33 : decode cX11_written 33 = .ok (.aload_n 2, 1) := by decide +kernel
theorem dX11_written_34 : decode cX11_written 34 = .ok (.getfield 167, 3) := by decide +kernel
theorem dX11_written_37 : decode cX11_written 37 = .ok (.iload_n 1, 1) := by decide +kernel
theorem dX11_written_38 : decode cX11_written 38 = .ok (.iaload, 1) := by decide +kernel
theorem dX11_written_39 : decode cX11_written 39 = .ok (.ireturn, 1) := by decide +kernel
theorem dX11_played_0 : decode cX11_played 0 = .ok (.aload_n 0, 1) := by decide +kernel
theorem dX11_played_1 : decode cX11_played 1 = .ok (.getfield 33, 3) := by decide +kernel
theorem dX11_played_4 : decode cX11_played 4 = .ok (.getfield 155, 3) := by decide +kernel
theorem dX11_played_7 : decode cX11_played 7 = .ok (.iconst (-1), 1) := by decide +kernel
theorem dX11_played_8 : decode cX11_played 8 = .ok (.if_icmp .ne 5, 3) := by decide +kernel
theorem dX11_played_11 : decode cX11_played 11 = .ok (.iconst (-1), 1) := by decide +kernel
theorem dX11_played_12 : decode cX11_played 12 = .ok (.ireturn, 1) := by decide +kernel
theorem dX11_played_13 : decode cX11_played 13 = .ok (.iload_n 1, 1) := by decide +kernel
theorem dX11_played_14 : decode cX11_played 14 = .ok (.tableswitch 68 0 3 #[30, 38, 49, 57], 30) := by decide +kernel
theorem dX11_played_44 : decode cX11_played 44 = .ok (.aload_n 0, 1) := by decide +kernel
theorem dX11_played_45 : decode cX11_played 45 = .ok (.getfield 33, 3) := by decide +kernel
theorem dX11_played_48 : decode cX11_played 48 = .ok (.getfield 170, 3) := by decide +kernel
theorem dX11_played_51 : decode cX11_played 51 = .ok (.ireturn, 1) := by decide +kernel
theorem dX11_played_52 : decode cX11_played 52 = .ok (.aload_n 0, 1) := by decide +kernel
theorem dX11_played_53 : decode cX11_played 53 = .ok (.getfield 33, 3) := by decide +kernel
theorem dX11_played_56 : decode cX11_played 56 = .ok (.getfield 142, 3) := by decide +kernel
theorem dX11_played_59 : decode cX11_played 59 = .ok (.getfield 173, 3) := by decide +kernel
theorem dX11_played_62 : decode cX11_played 62 = .ok (.ireturn, 1) := by decide +kernel
theorem dX11_played_63 : decode cX11_played 63 = .ok (.aload_n 0, 1) := by decide +kernel
theorem dX11_played_64 : decode cX11_played 64 = .ok (.getfield 33, 3) := by decide +kernel
theorem dX11_played_67 : decode cX11_played 67 = .ok (.getfield 176, 3) := by decide +kernel
theorem dX11_played_70 : decode cX11_played 70 = .ok (.ireturn, 1) := by decide +kernel
theorem dX11_played_71 : decode cX11_played 71 = .ok (.aload_n 0, 1) := by decide +kernel
theorem dX11_played_72 : decode cX11_played 72 = .ok (.getfield 33, 3) := by decide +kernel
theorem dX11_played_75 : decode cX11_played 75 = .ok (.getfield 142, 3) := by decide +kernel
theorem dX11_played_78 : decode cX11_played 78 = .ok (.getfield 179, 3) := by decide +kernel
theorem dX11_played_81 : decode cX11_played 81 = .ok (.ireturn, 1) := by decide +kernel
theorem dX11_played_82 : decode cX11_played 82 = .ok (.iconst (-1), 1) := by decide +kernel
theorem dX11_played_83 : decode cX11_played 83 = .ok (.ireturn, 1) := by decide +kernel
set_option maxRecDepth 20000 in
theorem ggX11_broken_X0_search : GoodIn wsX11_broken wsX0_search := goodIn_r _ [8, 9, 10, 11, 12, 13, 14, 15, 16, 17, 18, 19, 20, 7, 21, 22, 23, 24, 25, 26, 27, 28, 29, 30, 31, 32, 33, 34, 35, 36, 37, 38, 39, 40, 41, 42, 43, 44, 45, 46, 47, 48, 49, 50, 51, 52, 53, 54, 55, 56, 57, 58, 59, 60, 61, 62, 63, 64, 65, 66, 67, 68, 69, 70, 71, 72, 73, 74, 75, 76, 77, 78, 79, 80, 81, 82, 83, 84, 85, 86, 87, 88, 89, 90, 91, 92, 93, 94, 95, 96, 97, 98, 99, 100, 101, 102, 103, 104, 105, 106, 107, 108, 109, 110, 111, 112, 113, 114, 115, 116, 117, 118, 119, 120, 121, 122, 123, 124, 125, 126, 127, 128, 129, 130, 131, 132, 133, 134, 135, 136, 137, 138, 139, 140, 141, 142, 143, 144, 145, 146, 147, 148, 149, 150, 151, 152, 153, 154, 155, 156, 157, 158, 159, 160, 161, 187, 188, 189, 190, 191, 192, 193, 194, 195, 196, 197, 179, 180, 181, 182, 183, 184, 185, 186, 198, 199, 200, 201, 202, 203, 204, 205, 206, 207, 208, 209, 210, 211, 212, 213, 214, 215, 216, 217] rfl (by decide +kernel)
set_option maxRecDepth 20000 in
theorem gX11_broken_X0_search : GoodIn wsX11_broken (wsV RX11 182 RX0 yX0_search wsX0_search) := goodIn_app (goodIn_r _ [4, 5, 6, 7] rfl (by decide +kernel)) ggX11_broken_X0_search
theorem dX11_broken_0 : decode cX11_broken 0 = .ok (.iload_n 1, 1) := by decide +kernel
theorem dX11_broken_1 : decode cX11_broken 1 = .ok (.ifCond .lt 31, 3) := by decide +kernel
theorem dX11_broken_4 : decode cX11_broken 4 = .ok (.iload_n 1, 1) := by decide +kernel
theorem dX11_broken_5 : decode cX11_broken 5 = .ok (.bipush 60, 2) := by decide +kernel
theorem dX11_broken_7 : decode cX11_broken 7 = .ok (.if_icmp .gt 25, 3) := by decide +kernel
theorem dX11_broken_10 : decode cX11_broken 10 = .ok (.iload_n 2, 1) := by decide +kernel
theorem dX11_broken_11 : decode cX11_broken 11 = .ok (.ifCond .lt 21, 3) := by decide +kernel
theorem dX11_broken_14 : decode cX11_broken 14 = .ok (.iload_n 2, 1) := by decide +kernel
theorem dX11_broken_15 : decode cX11_broken 15 = .ok (.bipush 10, 2) := by decide +kernel
theorem dX11_broken_17 : decode cX11_broken 17 = .ok (.if_icmp .gt 15, 3) := by decide +kernel
theorem dX11_broken_20 : decode cX11_broken 20 = .ok (.aload_n 0, 1) := by decide +kernel
theorem dX11_broken_21 : decode cX11_broken 21 = .ok (.getfield 19, 3) := by decide +kernel
theorem dX11_broken_24 : decode cX11_broken 24 = .ok (.getfield 107, 3) := by decide +kernel
theorem dX11_broken_27 : decode cX11_broken 27 = .ok (.bipush 8, 2) := by decide +kernel
theorem dX11_broken_29 : decode cX11_broken 29 = .ok (.if_icmp .le 6, 3) := by decide +kernel
theorem dX11_broken_32 : decode cX11_broken 32 = .ok (.bipush (-2), 2) := by decide +kernel
theorem dX11_broken_34 : decode cX11_broken 34 = .ok (.ireturn, 1) := by decide +kernel
theorem dX11_broken_35 : decode cX11_broken 35 = .ok (.aload_n 0, 1) := by decide +kernel
theorem dX11_broken_36 : decode cX11_broken 36 = .ok (.getfield 40, 3) := by decide +kernel
theorem dX11_broken_39 : decode cX11_broken 39 = .ok (.aload_n 0, 1) := by decide +kernel
theorem dX11_broken_40 : decode cX11_broken 40 = .ok (.getfield 19, 3) := by decide +kernel
theorem dX11_broken_43 : decode cX11_broken 43 = .ok (.iload_n 1, 1) := by decide +kernel
theorem dX11_broken_44 : decode cX11_broken 44 = .ok (.iload_n 2, 1) := by decide +kernel
theorem dX11_broken_45 : decode cX11_broken 45 = .ok (.invokevirtual 182, 3) := by decide +kernel
theorem dX11_broken_48 : decode cX11_broken 48 = .ok (.ireturn, 1) := by decide +kernel
theorem dX11_fogAt_0 : decode cX11_fogAt 0 = .ok (.iload_n 1, 1) := by decide +kernel
theorem dX11_fogAt_1 : decode cX11_fogAt 1 = .ok (.ifCond .lt 14, 3) := by decide +kernel
theorem dX11_fogAt_4 : decode cX11_fogAt 4 = .ok (.iload_n 1, 1) := by decide +kernel
theorem dX11_fogAt_5 : decode cX11_fogAt 5 = .ok (.aload_n 0, 1) := by decide +kernel
theorem dX11_fogAt_6 : decode cX11_fogAt 6 = .ok (.getfield 40, 3) := by decide +kernel
theorem dX11_fogAt_9 : decode cX11_fogAt 9 = .ok (.getfield 186, 3) := by decide +kernel
theorem dX11_fogAt_12 : decode cX11_fogAt 12 = .ok (.if_icmp .lt 5, 3) := by decide +kernel
theorem dX11_fogAt_15 : decode cX11_fogAt 15 = .ok (.iconst (-1), 1) := by decide +kernel
theorem dX11_fogAt_16 : decode cX11_fogAt 16 = .ok (.ireturn, 1) := by decide +kernel
theorem dX11_fogAt_17 : decode cX11_fogAt 17 = .ok (.iload_n 2, 1) := by decide +kernel
theorem dX11_fogAt_18 : decode cX11_fogAt 18 = .ok (.lookupswitch 46 #[(0, 26), (1, 36)], 26) := by decide +kernel
theorem dX11_fogAt_44 : decode cX11_fogAt 44 = .ok (.aload_n 0, 1) := by decide +kernel
theorem dX11_fogAt_45 : decode cX11_fogAt 45 = .ok (.getfield 40, 3) := by decide +kernel
theorem dX11_fogAt_48 : decode cX11_fogAt 48 = .ok (.getfield 189, 3) := by decide +kernel
theorem dX11_fogAt_51 : decode cX11_fogAt 51 = .ok (.iload_n 1, 1) := by decide +kernel
theorem dX11_fogAt_52 : decode cX11_fogAt 52 = .ok (.iaload, 1) := by decide +kernel
theorem dX11_fogAt_53 : decode cX11_fogAt 53 = .ok (.ireturn, 1) := by decide +kernel
theorem dX11_fogAt_54 : decode cX11_fogAt 54 = .ok (.aload_n 0, 1) := by decide +kernel
theorem dX11_fogAt_55 : decode cX11_fogAt 55 = .ok (.getfield 40, 3) := by decide +kernel
theorem dX11_fogAt_58 : decode cX11_fogAt 58 = .ok (.getfield 192, 3) := by decide +kernel
theorem dX11_fogAt_61 : decode cX11_fogAt 61 = .ok (.iload_n 1, 1) := by decide +kernel
theorem dX11_fogAt_62 : decode cX11_fogAt 62 = .ok (.iaload, 1) := by decide +kernel
theorem dX11_fogAt_63 : decode cX11_fogAt 63 = .ok (.ireturn, 1) := by decide +kernel
theorem dX11_fogAt_64 : decode cX11_fogAt 64 = .ok (.iconst (-1), 1) := by decide +kernel
theorem dX11_fogAt_65 : decode cX11_fogAt 65 = .ok (.ireturn, 1) := by decide +kernel
set_option maxRecDepth 20000 in
theorem ggX11_entry_X10_isText : GoodIn wsX11_entry wsX10_isText := goodIn_r _ [9, 10, 11, 12, 13, 14, 55, 56] rfl (by decide +kernel)
set_option maxRecDepth 20000 in
theorem gX11_entry_X10_isText : GoodIn wsX11_entry (wsV RX11 195 RX10 yX10_isText wsX10_isText) := goodIn_app (goodIn_r _ [5, 6, 7, 8] rfl (by decide +kernel)) ggX11_entry_X10_isText
set_option maxRecDepth 20000 in
theorem ggX11_entry_X3_has : GoodIn wsX11_entry wsX3_has := goodIn_r _ [19, 20, 21, 22, 23, 24, 25, 26, 18, 27, 28, 51, 52, 53, 54, 55, 56] rfl (by decide +kernel)
set_option maxRecDepth 20000 in
theorem gX11_entry_X3_has : GoodIn wsX11_entry (wsV RX11 201 RX3 yX3_has wsX3_has) := goodIn_app (goodIn_r _ [15, 16, 17, 18] rfl (by decide +kernel)) ggX11_entry_X3_has
set_option maxRecDepth 20000 in
theorem ggX11_entry_X3_add : GoodIn wsX11_entry wsX3_add := goodIn_r _ [32, 20, 22, 33, 28, 23, 21, 51, 52, 53, 54, 55, 56] rfl (by decide +kernel)
set_option maxRecDepth 20000 in
theorem gX11_entry_X3_add : GoodIn wsX11_entry (wsV RX11 204 RX3 yX3_add wsX3_add) := goodIn_app (goodIn_r _ [29, 30, 31, 18] rfl (by decide +kernel)) ggX11_entry_X3_add
theorem dX11_entry_0 : decode cX11_entry 0 = .ok (.aload_n 0, 1) := by decide +kernel
theorem dX11_entry_1 : decode cX11_entry 1 = .ok (.getfield 10, 3) := by decide +kernel
theorem dX11_entry_4 : decode cX11_entry 4 = .ok (.bipush 12, 2) := by decide +kernel
theorem dX11_entry_6 : decode cX11_entry 6 = .ok (.invokevirtual 195, 3) := by decide +kernel
theorem dX11_entry_9 : decode cX11_entry 9 = .ok (.ifCond .eq 33, 3) := by decide +kernel
theorem dX11_entry_12 : decode cX11_entry 12 = .ok (.aload_n 0, 1) := by decide +kernel
theorem dX11_entry_13 : decode cX11_entry 13 = .ok (.getfield 47, 3) := by decide +kernel
theorem dX11_entry_16 : decode cX11_entry 16 = .ok (.getfield 198, 3) := by decide +kernel
theorem dX11_entry_19 : decode cX11_entry 19 = .ok (.bipush 12, 2) := by decide +kernel
theorem dX11_entry_21 : decode cX11_entry 21 = .ok (.if_icmp .ge 21, 3) := by decide +kernel
theorem dX11_entry_24 : decode cX11_entry 24 = .ok (.aload_n 0, 1) := by decide +kernel
theorem dX11_entry_25 : decode cX11_entry 25 = .ok (.getfield 47, 3) := by decide +kernel
theorem dX11_entry_28 : decode cX11_entry 28 = .ok (.aload_n 0, 1) := by decide +kernel
theorem dX11_entry_29 : decode cX11_entry 29 = .ok (.getfield 10, 3) := by decide +kernel
theorem dX11_entry_32 : decode cX11_entry 32 = .ok (.invokevirtual 201, 3) := by decide +kernel
theorem dX11_entry_35 : decode cX11_entry 35 = .ok (.ifCond .ne 7, 3) := by decide +kernel
theorem dX11_entry_38 : decode cX11_entry 38 = .ok (.iconst 1, 1) := by decide +kernel
theorem dX11_entry_39 : decode cX11_entry 39 = .ok (.goto 4, 3) := by decide +kernel
theorem dX11_entry_42 : decode cX11_entry 42 = .ok (.iconst 0, 1) := by decide +kernel
theorem dX11_entry_43 : decode cX11_entry 43 = .ok (.istore_n 1, 1) := by decide +kernel
theorem dX11_entry_44 : decode cX11_entry 44 = .ok (.iload_n 1, 1) := by decide +kernel
theorem dX11_entry_45 : decode cX11_entry 45 = .ok (.ifCond .eq 17, 3) := by decide +kernel
theorem dX11_entry_48 : decode cX11_entry 48 = .ok (.aload_n 0, 1) := by decide +kernel
theorem dX11_entry_49 : decode cX11_entry 49 = .ok (.getfield 47, 3) := by decide +kernel
theorem dX11_entry_52 : decode cX11_entry 52 = .ok (.aload_n 0, 1) := by decide +kernel
theorem dX11_entry_53 : decode cX11_entry 53 = .ok (.getfield 10, 3) := by decide +kernel
theorem dX11_entry_56 : decode cX11_entry 56 = .ok (.invokevirtual 204, 3) := by decide +kernel
theorem dX11_entry_59 : decode cX11_entry 59 = .ok (.goto 4, 3) := by decide +kernel
theorem dX11_entry_62 : decode cX11_entry 62 = .ok (.iconst (-1), 1) := by decide +kernel
theorem dX11_entry_63 : decode cX11_entry 63 = .ok (.istore_n 2, 1) := by decide +kernel
theorem dX11_entry_64 : decode cX11_entry 64 = .ok (.aload_n 0, 1) := by decide +kernel
theorem dX11_entry_65 : decode cX11_entry 65 = .ok (.getfield 10, 3) := by decide +kernel
theorem dX11_entry_68 : decode cX11_entry 68 = .ok (.iconst 0, 1) := by decide +kernel
theorem dX11_entry_69 : decode cX11_entry 69 = .ok (.putfield 92, 3) := by decide +kernel
theorem dX11_entry_72 : decode cX11_entry 72 = .ok (.iload_n 2, 1) := by decide +kernel
theorem dX11_entry_73 : decode cX11_entry 73 = .ok (.ireturn, 1) := by decide +kernel
set_option maxRecDepth 20000 in
theorem ggX11_code_X10_isText : GoodIn wsX11_code wsX10_isText := goodIn_r _ [12, 13, 14, 15, 16, 17, 112, 113] rfl (by decide +kernel)
set_option maxRecDepth 20000 in
theorem gX11_code_X10_isText : GoodIn wsX11_code (wsV RX11 195 RX10 yX10_isText wsX10_isText) := goodIn_app (goodIn_r _ [8, 9, 10, 11] rfl (by decide +kernel)) ggX11_code_X10_isText
set_option maxRecDepth 20000 in
theorem ggX11_code_X6_clear : GoodIn wsX11_code wsX6_clear := goodIn_r _ [22, 23, 24, 25, 26, 104, 105, 106, 107, 108, 109, 110, 111] rfl (by decide +kernel)
set_option maxRecDepth 20000 in
theorem gX11_code_X6_clear : GoodIn wsX11_code (wsV RX11 208 RX6 yX6_clear wsX6_clear) := goodIn_app (goodIn_r _ [18, 19, 20, 21] rfl (by decide +kernel)) ggX11_code_X6_clear
set_option maxRecDepth 20000 in
theorem ggX11_code_X6_add : GoodIn wsX11_code wsX6_add := goodIn_r _ [30, 23, 31, 32, 33, 34, 35, 36, 37, 26, 25, 104, 105, 106, 107, 108, 109, 110, 111, 112, 113] rfl (by decide +kernel)
set_option maxRecDepth 20000 in
theorem gX11_code_X6_add : GoodIn wsX11_code (wsV RX11 211 RX6 yX6_add wsX6_add) := goodIn_app (goodIn_r _ [27, 28, 29, 21] rfl (by decide +kernel)) ggX11_code_X6_add
set_option maxRecDepth 20000 in
theorem ggX11_code_X6_mark : GoodIn wsX11_code wsX6_mark := goodIn_r _ [41, 24, 23, 42, 32, 43, 15, 16, 17, 44, 45, 46, 47, 48, 49, 50, 51, 52, 53, 54, 55, 104, 105, 106, 107, 108, 109, 110, 111, 114, 115, 116, 117] rfl (by decide +kernel)
set_option maxRecDepth 20000 in
theorem gX11_code_X6_mark : GoodIn wsX11_code (wsV RX11 214 RX6 yX6_mark wsX6_mark) := goodIn_app (goodIn_r _ [38, 39, 40, 21] rfl (by decide +kernel)) ggX11_code_X6_mark
set_option maxRecDepth 20000 in
theorem ggX11_code_X3_all : GoodIn wsX11_code wsX3_all := goodIn_r _ [59, 49, 114, 115, 116, 117] rfl (by decide +kernel)
set_option maxRecDepth 20000 in
theorem gX11_code_X3_all : GoodIn wsX11_code (wsV RX11 221 RX3 yX3_all wsX3_all) := goodIn_app (goodIn_r _ [56, 57, 58, 47] rfl (by decide +kernel)) ggX11_code_X3_all
set_option maxRecDepth 20000 in
theorem ggX11_code_X6_saving : GoodIn wsX11_code wsX6_saving := goodIn_r _ [63, 64, 24, 43, 65, 66, 67, 68, 69, 70, 71, 72, 21, 73, 74, 75, 76, 77, 78, 104, 105, 106, 107, 108, 109, 110, 111, 114, 115, 116, 117] rfl (by decide +kernel)
set_option maxRecDepth 20000 in
theorem gX11_code_X6_saving : GoodIn wsX11_code (wsV RX11 225 RX6 yX6_saving wsX6_saving) := goodIn_app (goodIn_r _ [60, 61, 62, 21] rfl (by decide +kernel)) ggX11_code_X6_saving
set_option maxRecDepth 20000 in
theorem ggX11_code_X6_cut : GoodIn wsX11_code wsX6_cut := goodIn_r _ [82, 26, 24, 42, 74, 32, 78, 83, 84, 85, 21, 86, 65, 43, 64, 70, 71, 72, 73, 75, 76, 68, 77, 104, 105, 106, 107, 108, 109, 110, 111, 114, 115, 116, 117] rfl (by decide +kernel)
set_option maxRecDepth 20000 in
theorem gX11_code_X6_cut : GoodIn wsX11_code (wsV RX11 229 RX6 yX6_cut wsX6_cut) := goodIn_app (goodIn_r _ [79, 80, 81, 21] rfl (by decide +kernel)) ggX11_code_X6_cut
theorem dX11_code_0 : decode cX11_code 0 = .ok (.iconst (-1), 1) := by decide +kernel
theorem dX11_code_1 : decode cX11_code 1 = .ok (.istore_n 1, 1) := by decide +kernel
theorem dX11_code_2 : decode cX11_code 2 = .ok (.aload_n 0, 1) := by decide +kernel
theorem dX11_code_3 : decode cX11_code 3 = .ok (.getfield 10, 3) := by decide +kernel
theorem dX11_code_6 : decode cX11_code 6 = .ok (.bipush 60, 2) := by decide +kernel
theorem dX11_code_8 : decode cX11_code 8 = .ok (.invokevirtual 195, 3) := by decide +kernel
theorem dX11_code_11 : decode cX11_code 11 = .ok (.ifCond .eq 78, 3) := by decide +kernel
theorem dX11_code_14 : decode cX11_code 14 = .ok (.aload_n 0, 1) := by decide +kernel
theorem dX11_code_15 : decode cX11_code 15 = .ok (.getfield 56, 3) := by decide +kernel
theorem dX11_code_18 : decode cX11_code 18 = .ok (.invokevirtual 208, 3) := by decide +kernel
theorem dX11_code_21 : decode cX11_code 21 = .ok (.aload_n 0, 1) := by decide +kernel
theorem dX11_code_22 : decode cX11_code 22 = .ok (.getfield 56, 3) := by decide +kernel
theorem dX11_code_25 : decode cX11_code 25 = .ok (.aload_n 0, 1) := by decide +kernel
theorem dX11_code_26 : decode cX11_code 26 = .ok (.getfield 10, 3) := by decide +kernel
theorem dX11_code_29 : decode cX11_code 29 = .ok (.invokevirtual 211, 3) := by decide +kernel
theorem dX11_code_32 : decode cX11_code 32 = .ok (.aload_n 0, 1) := by decide +kernel
theorem dX11_code_33 : decode cX11_code 33 = .ok (.getfield 56, 3) := by decide +kernel
theorem dX11_code_36 : decode cX11_code 36 = .ok (.aload_n 0, 1) := by decide +kernel
theorem dX11_code_37 : decode cX11_code 37 = .ok (.getfield 47, 3) := by decide +kernel
theorem dX11_code_40 : decode cX11_code 40 = .ok (.invokevirtual 214, 3) := by decide +kernel
theorem dX11_code_43 : decode cX11_code 43 = .ok (.aload_n 0, 1) := by decide +kernel
theorem dX11_code_44 : decode cX11_code 44 = .ok (.getfield 56, 3) := by decide +kernel
theorem dX11_code_47 : decode cX11_code 47 = .ok (.getfield 218, 3) := by decide +kernel
theorem dX11_code_50 : decode cX11_code 50 = .ok (.aload_n 0, 1) := by decide +kernel
theorem dX11_code_51 : decode cX11_code 51 = .ok (.getfield 56, 3) := by decide +kernel
theorem dX11_code_54 : decode cX11_code 54 = .ok (.aload_n 0, 1) := by decide +kernel
theorem dX11_code_55 : decode cX11_code 55 = .ok (.getfield 47, 3) := by decide +kernel
theorem dX11_code_58 : decode cX11_code 58 = .ok (.aload_n 0, 1) := by decide +kernel
theorem dX11_code_59 : decode cX11_code 59 = .ok (.getfield 47, 3) := by decide +kernel
theorem dX11_code_62 : decode cX11_code 62 = .ok (.invokevirtual 221, 3) := by decide +kernel
theorem dX11_code_65 : decode cX11_code 65 = .ok (.invokevirtual 225, 3) := by decide +kernel
theorem dX11_code_68 : decode cX11_code 68 = .ok (.isub, 1) := by decide +kernel
theorem dX11_code_69 : decode cX11_code 69 = .ok (.istore_n 1, 1) := by decide +kernel
theorem dX11_code_70 : decode cX11_code 70 = .ok (.aload_n 0, 1) := by decide +kernel
theorem dX11_code_71 : decode cX11_code 71 = .ok (.aload_n 0, 1) := by decide +kernel
theorem dX11_code_72 : decode cX11_code 72 = .ok (.getfield 56, 3) := by decide +kernel
theorem dX11_code_75 : decode cX11_code 75 = .ok (.aload_n 0, 1) := by decide +kernel
theorem dX11_code_76 : decode cX11_code 76 = .ok (.getfield 47, 3) := by decide +kernel
theorem dX11_code_79 : decode cX11_code 79 = .ok (.aload_n 0, 1) := by decide +kernel
theorem dX11_code_80 : decode cX11_code 80 = .ok (.getfield 63, 3) := by decide +kernel
theorem dX11_code_83 : decode cX11_code 83 = .ok (.invokevirtual 229, 3) := by decide +kernel
theorem dX11_code_86 : decode cX11_code 86 = .ok (.putfield 233, 3) := by decide +kernel
theorem dX11_code_89 : decode cX11_code 89 = .ok (.aload_n 0, 1) := by decide +kernel
theorem dX11_code_90 : decode cX11_code 90 = .ok (.getfield 10, 3) := by decide +kernel
theorem dX11_code_93 : decode cX11_code 93 = .ok (.iconst 0, 1) := by decide +kernel
theorem dX11_code_94 : decode cX11_code 94 = .ok (.putfield 92, 3) := by decide +kernel
theorem dX11_code_97 : decode cX11_code 97 = .ok (.iload_n 1, 1) := by decide +kernel
theorem dX11_code_98 : decode cX11_code 98 = .ok (.ireturn, 1) := by decide +kernel
theorem dX11_piece_0 : decode cX11_piece 0 = .ok (.iload_n 1, 1) := by decide +kernel
theorem dX11_piece_1 : decode cX11_piece 1 = .ok (.ifCond .lt 20, 3) := by decide +kernel
theorem dX11_piece_4 : decode cX11_piece 4 = .ok (.iload_n 1, 1) := by decide +kernel
theorem dX11_piece_5 : decode cX11_piece 5 = .ok (.aload_n 0, 1) := by decide +kernel
theorem dX11_piece_6 : decode cX11_piece 6 = .ok (.getfield 233, 3) := by decide +kernel
theorem dX11_piece_9 : decode cX11_piece 9 = .ok (.if_icmp .ge 12, 3) := by decide +kernel
theorem dX11_piece_12 : decode cX11_piece 12 = .ok (.iload_n 1, 1) := by decide +kernel
theorem dX11_piece_13 : decode cX11_piece 13 = .ok (.aload_n 0, 1) := by decide +kernel
theorem dX11_piece_14 : decode cX11_piece 14 = .ok (.getfield 63, 3) := by decide +kernel
theorem dX11_piece_17 : decode cX11_piece 17 = .ok (.arraylength, 1) := by decide +kernel
theorem dX11_piece_18 : decode cX11_piece 18 = .ok (.if_icmp .lt 7, 3) := by decide +kernel
theorem dX11_piece_21 : decode cX11_piece 21 = .ok (.iconst (-1), 1) := by decide +kernel
theorem dX11_piece_22 : decode cX11_piece 22 = .ok (.goto 9, 3) := by decide +kernel
theorem dX11_piece_25 : decode cX11_piece 25 = .ok (.aload_n 0, 1) := by decide +kernel
theorem dX11_piece_26 : decode cX11_piece 26 = .ok (.getfield 63, 3) := by decide +kernel
theorem dX11_piece_29 : decode cX11_piece 29 = .ok (.iload_n 1, 1) := by decide +kernel
theorem dX11_piece_30 : decode cX11_piece 30 = .ok (.iaload, 1) := by decide +kernel
theorem dX11_piece_31 : decode cX11_piece 31 = .ok (.ireturn, 1) := by decide +kernel
set_option maxRecDepth 20000 in
theorem ggX11_year_X10_isText : GoodIn wsX11_year wsX10_isText := goodIn_r _ [9, 10, 11, 12, 13, 14, 55, 56] rfl (by decide +kernel)
set_option maxRecDepth 20000 in
theorem gX11_year_X10_isText : GoodIn wsX11_year (wsV RX11 195 RX10 yX10_isText wsX10_isText) := goodIn_app (goodIn_r _ [5, 6, 7, 8] rfl (by decide +kernel)) ggX11_year_X10_isText
set_option maxRecDepth 20000 in
theorem ggX11_year_X6_add : GoodIn wsX11_year wsX6_add := goodIn_r _ [19, 20, 21, 22, 23, 24, 25, 26, 27, 28, 29, 47, 48, 49, 50, 51, 52, 53, 54, 55, 56] rfl (by decide +kernel)
set_option maxRecDepth 20000 in
theorem gX11_year_X6_add : GoodIn wsX11_year (wsV RX11 211 RX6 yX6_add wsX6_add) := goodIn_app (goodIn_r _ [15, 16, 17, 18] rfl (by decide +kernel)) ggX11_year_X6_add
theorem dX11_year_0 : decode cX11_year 0 = .ok (.aload_n 0, 1) := by decide +kernel
theorem dX11_year_1 : decode cX11_year 1 = .ok (.getfield 10, 3) := by decide +kernel
theorem dX11_year_4 : decode cX11_year 4 = .ok (.bipush 60, 2) := by decide +kernel
theorem dX11_year_6 : decode cX11_year 6 = .ok (.invokevirtual 195, 3) := by decide +kernel
theorem dX11_year_9 : decode cX11_year 9 = .ok (.ifCond .eq 19, 3) := by decide +kernel
theorem dX11_year_12 : decode cX11_year 12 = .ok (.aload_n 0, 1) := by decide +kernel
theorem dX11_year_13 : decode cX11_year 13 = .ok (.getfield 60, 3) := by decide +kernel
theorem dX11_year_16 : decode cX11_year 16 = .ok (.getfield 236, 3) := by decide +kernel
theorem dX11_year_19 : decode cX11_year 19 = .ok (.bipush 8, 2) := by decide +kernel
theorem dX11_year_21 : decode cX11_year 21 = .ok (.if_icmp .ge 7, 3) := by decide +kernel
theorem dX11_year_24 : decode cX11_year 24 = .ok (.iconst 1, 1) := by decide +kernel
theorem dX11_year_25 : decode cX11_year 25 = .ok (.goto 4, 3) := by decide +kernel
theorem dX11_year_28 : decode cX11_year 28 = .ok (.iconst 0, 1) := by decide +kernel
theorem dX11_year_29 : decode cX11_year 29 = .ok (.istore_n 1, 1) := by decide +kernel
theorem dX11_year_30 : decode cX11_year 30 = .ok (.iload_n 1, 1) := by decide +kernel
theorem dX11_year_31 : decode cX11_year 31 = .ok (.ifCond .eq 14, 3) := by decide +kernel
theorem dX11_year_34 : decode cX11_year 34 = .ok (.aload_n 0, 1) := by decide +kernel
theorem dX11_year_35 : decode cX11_year 35 = .ok (.getfield 60, 3) := by decide +kernel
theorem dX11_year_38 : decode cX11_year 38 = .ok (.aload_n 0, 1) := by decide +kernel
theorem dX11_year_39 : decode cX11_year 39 = .ok (.getfield 10, 3) := by decide +kernel
theorem dX11_year_42 : decode cX11_year 42 = .ok (.invokevirtual 211, 3) := by decide +kernel
theorem dX11_year_45 : decode cX11_year 45 = .ok (.aload_n 0, 1) := by decide +kernel
theorem dX11_year_46 : decode cX11_year 46 = .ok (.getfield 10, 3) := by decide +kernel
theorem dX11_year_49 : decode cX11_year 49 = .ok (.iconst 0, 1) := by decide +kernel
theorem dX11_year_50 : decode cX11_year 50 = .ok (.putfield 92, 3) := by decide +kernel
theorem dX11_year_53 : decode cX11_year 53 = .ok (.iload_n 1, 1) := by decide +kernel
theorem dX11_year_54 : decode cX11_year 54 = .ok (.ifCond .eq 13, 3) := by decide +kernel
theorem dX11_year_57 : decode cX11_year 57 = .ok (.aload_n 0, 1) := by decide +kernel
theorem dX11_year_58 : decode cX11_year 58 = .ok (.getfield 60, 3) := by decide +kernel
theorem dX11_year_61 : decode cX11_year 61 = .ok (.getfield 236, 3) := by decide +kernel
theorem dX11_year_64 : decode cX11_year 64 = .ok (.goto 4, 3) := by decide +kernel
theorem dX11_year_67 : decode cX11_year 67 = .ok (.iconst (-1), 1) := by decide +kernel
theorem dX11_year_68 : decode cX11_year 68 = .ok (.ireturn, 1) := by decide +kernel
set_option maxRecDepth 20000 in
theorem ggX11_small_X6_mark : GoodIn wsX11_small wsX6_mark := goodIn_r _ [9, 10, 11, 12, 13, 14, 15, 16, 17, 18, 19, 20, 21, 22, 23, 24, 25, 26, 27, 28, 29, 82, 83, 84, 85, 86, 87, 88, 89, 90, 91, 92, 93] rfl (by decide +kernel)
set_option maxRecDepth 20000 in
theorem gX11_small_X6_mark : GoodIn wsX11_small (wsV RX11 214 RX6 yX6_mark wsX6_mark) := goodIn_app (goodIn_r _ [5, 6, 7, 8] rfl (by decide +kernel)) ggX11_small_X6_mark
set_option maxRecDepth 20000 in
theorem ggX11_small_X6_bestSet : GoodIn wsX11_small wsX6_bestSet := goodIn_r _ [33, 34, 35, 36, 8, 37, 10, 14, 38, 39, 40, 41, 42, 43, 44, 45, 46, 47, 48, 49, 50, 51, 52, 53, 54, 55, 56, 57, 58, 59, 60, 61, 62, 63, 82, 83, 84, 85, 86, 87, 88, 89, 90, 91, 92, 93] rfl (by decide +kernel)
set_option maxRecDepth 20000 in
theorem gX11_small_X6_bestSet : GoodIn wsX11_small (wsV RX11 239 RX6 yX6_bestSet wsX6_bestSet) := goodIn_app (goodIn_r _ [30, 31, 32, 8] rfl (by decide +kernel)) ggX11_small_X6_bestSet
set_option maxRecDepth 20000 in
theorem ggX11_small_X6_saving : GoodIn wsX11_small wsX6_saving := goodIn_r _ [50, 51, 10, 14, 38, 52, 53, 54, 55, 56, 57, 58, 8, 59, 60, 61, 62, 63, 39, 82, 83, 84, 85, 86, 87, 88, 89, 90, 91, 92, 93] rfl (by decide +kernel)
set_option maxRecDepth 20000 in
theorem gX11_small_X6_saving : GoodIn wsX11_small (wsV RX11 225 RX6 yX6_saving wsX6_saving) := goodIn_app (goodIn_r _ [64, 48, 49, 8] rfl (by decide +kernel)) ggX11_small_X6_saving
theorem dX11_small_0 : decode cX11_small 0 = .ok (.iload_n 1, 1) := by decide +kernel
theorem dX11_small_1 : decode cX11_small 1 = .ok (.ifCond .lt 9, 3) := by decide +kernel
theorem dX11_small_4 : decode cX11_small 4 = .ok (.iload_n 1, 1) := by decide +kernel
theorem dX11_small_5 : decode cX11_small 5 = .ok (.bipush 12, 2) := by decide +kernel
theorem dX11_small_7 : decode cX11_small 7 = .ok (.if_icmp .le 5, 3) := by decide +kernel
theorem dX11_small_10 : decode cX11_small 10 = .ok (.iconst (-1), 1) := by decide +kernel
theorem dX11_small_11 : decode cX11_small 11 = .ok (.ireturn, 1) := by decide +kernel
theorem dX11_small_12 : decode cX11_small 12 = .ok (.aload_n 0, 1) := by decide +kernel
theorem dX11_small_13 : decode cX11_small 13 = .ok (.getfield 60, 3) := by decide +kernel
theorem dX11_small_16 : decode cX11_small 16 = .ok (.aload_n 0, 1) := by decide +kernel
theorem dX11_small_17 : decode cX11_small 17 = .ok (.getfield 47, 3) := by decide +kernel
theorem dX11_small_20 : decode cX11_small 20 = .ok (.invokevirtual 214, 3) := by decide +kernel
theorem dX11_small_23 : decode cX11_small 23 = .ok (.aload_n 0, 1) := by decide +kernel
theorem dX11_small_24 : decode cX11_small 24 = .ok (.aload_n 0, 1) := by decide +kernel
theorem dX11_small_25 : decode cX11_small 25 = .ok (.getfield 60, 3) := by decide +kernel
theorem dX11_small_28 : decode cX11_small 28 = .ok (.aload_n 0, 1) := by decide +kernel
theorem dX11_small_29 : decode cX11_small 29 = .ok (.getfield 47, 3) := by decide +kernel
theorem dX11_small_32 : decode cX11_small 32 = .ok (.iload_n 1, 1) := by decide +kernel
theorem dX11_small_33 : decode cX11_small 33 = .ok (.invokevirtual 239, 3) := by decide +kernel
theorem dX11_small_36 : decode cX11_small 36 = .ok (.putfield 88, 3) := by decide +kernel
theorem dX11_small_39 : decode cX11_small 39 = .ok (.aload_n 0, 1) := by decide +kernel
theorem dX11_small_40 : decode cX11_small 40 = .ok (.getfield 60, 3) := by decide +kernel
theorem dX11_small_43 : decode cX11_small 43 = .ok (.getfield 218, 3) := by decide +kernel
theorem dX11_small_46 : decode cX11_small 46 = .ok (.aload_n 0, 1) := by decide +kernel
theorem dX11_small_47 : decode cX11_small 47 = .ok (.getfield 60, 3) := by decide +kernel
theorem dX11_small_50 : decode cX11_small 50 = .ok (.aload_n 0, 1) := by decide +kernel
theorem dX11_small_51 : decode cX11_small 51 = .ok (.getfield 47, 3) := by decide +kernel
theorem dX11_small_54 : decode cX11_small 54 = .ok (.aload_n 0, 1) := by decide +kernel
theorem dX11_small_55 : decode cX11_small 55 = .ok (.getfield 88, 3) := by decide +kernel
theorem dX11_small_58 : decode cX11_small 58 = .ok (.invokevirtual 225, 3) := by decide +kernel
theorem dX11_small_61 : decode cX11_small 61 = .ok (.isub, 1) := by decide +kernel
theorem dX11_small_62 : decode cX11_small 62 = .ok (.ireturn, 1) := by decide +kernel
theorem dX11_smallSet_0 : decode cX11_smallSet 0 = .ok (.aload_n 0, 1) := by decide +kernel
theorem dX11_smallSet_1 : decode cX11_smallSet 1 = .ok (.getfield 88, 3) := by decide +kernel
theorem dX11_smallSet_4 : decode cX11_smallSet 4 = .ok (.ireturn, 1) := by decide +kernel
theorem dX11_right_0 : decode cX11_right 0 = .ok (.iload_n 1, 1) := by decide +kernel
theorem dX11_right_1 : decode cX11_right 1 = .ok (.iconst 1, 1) := by decide +kernel
theorem dX11_right_2 : decode cX11_right 2 = .ok (.if_icmp .lt 32, 3) := by decide +kernel
theorem dX11_right_5 : decode cX11_right 5 = .ok (.iload_n 1, 1) := by decide +kernel
theorem dX11_right_6 : decode cX11_right 6 = .ok (.bipush 60, 2) := by decide +kernel
theorem dX11_right_8 : decode cX11_right 8 = .ok (.if_icmp .gt 26, 3) := by decide +kernel
theorem dX11_right_11 : decode cX11_right 11 = .ok (.iload_n 2, 1) := by decide +kernel
theorem dX11_right_12 : decode cX11_right 12 = .ok (.iconst 1, 1) := by decide +kernel
theorem dX11_right_13 : decode cX11_right 13 = .ok (.if_icmp .lt 21, 3) := by decide +kernel
theorem dX11_right_16 : decode cX11_right 16 = .ok (.iload_n 2, 1) := by decide +kernel
theorem dX11_right_17 : decode cX11_right 17 = .ok (.bipush 16, 2) := by decide +kernel
theorem dX11_right_19 : decode cX11_right 19 = .ok (.if_icmp .gt 15, 3) := by decide +kernel
theorem dX11_right_22 : decode cX11_right 22 = .ok (.iload_n 3, 1) := by decide +kernel
theorem dX11_right_23 : decode cX11_right 23 = .ok (.iconst 2, 1) := by decide +kernel
theorem dX11_right_24 : decode cX11_right 24 = .ok (.if_icmp .lt 10, 3) := by decide +kernel
theorem dX11_right_27 : decode cX11_right 27 = .ok (.iload_n 3, 1) := by decide +kernel
theorem dX11_right_28 : decode cX11_right 28 = .ok (.sipush 2000, 3) := by decide +kernel
theorem dX11_right_31 : decode cX11_right 31 = .ok (.if_icmp .le 13, 3) := by decide +kernel
theorem dX11_right_34 : decode cX11_right 34 = .ok (.new 242, 3) := by decide +kernel
theorem dX11_right_37 : decode cX11_right 37 = .ok (.dup, 1) := by decide +kernel
theorem dX11_right_38 : decode cX11_right 38 = .ok (.ldc 244, 2) := by decide +kernel
theorem dX11_right_40 : decode cX11_right 40 = .ok (.invokespecial 246, 3) := by decide +kernel
theorem dX11_right_43 : decode cX11_right 43 = .ok (.athrow, 1) := by decide +kernel
theorem dX11_right_44 : decode cX11_right 44 = .ok (.ldc2_w 249, 3) := by decide +kernel
theorem dX11_right_47 : decode cX11_right 47 = .ok (.lstore 4, 2) := by decide +kernel
theorem dX11_right_49 : decode cX11_right 49 = .ok (.iconst 0, 1) := by decide +kernel
theorem dX11_right_50 : decode cX11_right 50 = .ok (.istore 6, 2) := by decide +kernel
theorem dX11_right_52 : decode cX11_right 52 = .ok (.iload 6, 2) := by decide +kernel
theorem dX11_right_54 : decode cX11_right 54 = .ok (.iload_n 1, 1) := by decide +kernel
theorem dX11_right_55 : decode cX11_right 55 = .ok (.iload_n 2, 1) := by decide +kernel
theorem dX11_right_56 : decode cX11_right 56 = .ok (.imul, 1) := by decide +kernel
theorem dX11_right_57 : decode cX11_right 57 = .ok (.if_icmp .ge 21, 3) := by decide +kernel
theorem dX11_right_60 : decode cX11_right 60 = .ok (.lload 4, 2) := by decide +kernel
theorem dX11_right_62 : decode cX11_right 62 = .ok (.iload_n 3, 1) := by decide +kernel
theorem dX11_right_63 : decode cX11_right 63 = .ok (.iconst 1, 1) := by decide +kernel
theorem dX11_right_64 : decode cX11_right 64 = .ok (.isub, 1) := by decide +kernel
theorem dX11_right_65 : decode cX11_right 65 = .ok (.i2l, 1) := by decide +kernel
theorem dX11_right_66 : decode cX11_right 66 = .ok (.lmul, 1) := by decide +kernel
theorem dX11_right_67 : decode cX11_right 67 = .ok (.iload_n 3, 1) := by decide +kernel
theorem dX11_right_68 : decode cX11_right 68 = .ok (.i2l, 1) := by decide +kernel
theorem dX11_right_69 : decode cX11_right 69 = .ok (.ldiv, 1) := by decide +kernel
theorem dX11_right_70 : decode cX11_right 70 = .ok (.lstore 4, 2) := by decide +kernel
theorem dX11_right_72 : decode cX11_right 72 = .ok (.iinc 6 1, 3) := by decide +kernel
theorem dX11_right_75 : decode cX11_right 75 = .ok (.goto (-23), 3) := by decide +kernel
theorem dX11_right_78 : decode cX11_right 78 = .ok (.lload 4, 2) := by decide +kernel
theorem dX11_right_80 : decode cX11_right 80 = .ok (.lreturn, 1) := by decide +kernel
set_option maxRecDepth 20000 in
theorem ggX11_note_X2_add : GoodIn wsX11_note wsX2_add := goodIn_r _ [10, 11, 12, 13, 14, 15, 33, 34, 35, 36, 37, 38, 39, 40, 41] rfl (by decide +kernel)
set_option maxRecDepth 20000 in
theorem gX11_note_X2_add : GoodIn wsX11_note (wsV RX11 251 RX2 yX2_add wsX2_add) := goodIn_app (goodIn_r _ [6, 7, 8, 9] rfl (by decide +kernel)) ggX11_note_X2_add
theorem dX11_note_0 : decode cX11_note 0 = .ok (.aload_n 0, 1) := by decide +kernel
theorem dX11_note_1 : decode cX11_note 1 = .ok (.getfield 70, 3) := by decide +kernel
theorem dX11_note_4 : decode cX11_note 4 = .ok (.getfield 104, 3) := by decide +kernel
theorem dX11_note_7 : decode cX11_note 7 = .ok (.bipush 60, 2) := by decide +kernel
theorem dX11_note_9 : decode cX11_note 9 = .ok (.if_icmp .ge 35, 3) := by decide +kernel
theorem dX11_note_12 : decode cX11_note 12 = .ok (.iload_n 1, 1) := by decide +kernel
theorem dX11_note_13 : decode cX11_note 13 = .ok (.ifCond .lt 31, 3) := by decide +kernel
theorem dX11_note_16 : decode cX11_note 16 = .ok (.iload_n 2, 1) := by decide +kernel
theorem dX11_note_17 : decode cX11_note 17 = .ok (.iload_n 1, 1) := by decide +kernel
theorem dX11_note_18 : decode cX11_note 18 = .ok (.if_icmp .lt 26, 3) := by decide +kernel
theorem dX11_note_21 : decode cX11_note 21 = .ok (.iload_n 2, 1) := by decide +kernel
theorem dX11_note_22 : decode cX11_note 22 = .ok (.aload_n 0, 1) := by decide +kernel
theorem dX11_note_23 : decode cX11_note 23 = .ok (.getfield 19, 3) := by decide +kernel
theorem dX11_note_26 : decode cX11_note 26 = .ok (.getfield 107, 3) := by decide +kernel
theorem dX11_note_29 : decode cX11_note 29 = .ok (.if_icmp .ge 15, 3) := by decide +kernel
theorem dX11_note_32 : decode cX11_note 32 = .ok (.iload_n 3, 1) := by decide +kernel
theorem dX11_note_33 : decode cX11_note 33 = .ok (.iconst 1, 1) := by decide +kernel
theorem dX11_note_34 : decode cX11_note 34 = .ok (.if_icmp .lt 10, 3) := by decide +kernel
theorem dX11_note_37 : decode cX11_note 37 = .ok (.iload_n 3, 1) := by decide +kernel
theorem dX11_note_38 : decode cX11_note 38 = .ok (.sipush 200, 3) := by decide +kernel
theorem dX11_note_41 : decode cX11_note 41 = .ok (.if_icmp .le 5, 3) := by decide +kernel
theorem dX11_note_44 : decode cX11_note 44 = .ok (.iconst (-1), 1) := by decide +kernel
theorem dX11_note_45 : decode cX11_note 45 = .ok (.ireturn, 1) := by decide +kernel
theorem dX11_note_46 : decode cX11_note 46 = .ok (.aload_n 0, 1) := by decide +kernel
theorem dX11_note_47 : decode cX11_note 47 = .ok (.getfield 70, 3) := by decide +kernel
theorem dX11_note_50 : decode cX11_note 50 = .ok (.iload_n 1, 1) := by decide +kernel
theorem dX11_note_51 : decode cX11_note 51 = .ok (.iload_n 2, 1) := by decide +kernel
theorem dX11_note_52 : decode cX11_note 52 = .ok (.iload_n 3, 1) := by decide +kernel
theorem dX11_note_53 : decode cX11_note 53 = .ok (.aload_n 0, 1) := by decide +kernel
theorem dX11_note_54 : decode cX11_note 54 = .ok (.getfield 98, 3) := by decide +kernel
theorem dX11_note_57 : decode cX11_note 57 = .ok (.invokevirtual 251, 3) := by decide +kernel
theorem dX11_note_60 : decode cX11_note 60 = .ok (.ireturn, 1) := by decide +kernel
set_option maxRecDepth 20000 in
theorem ggX11_delay_X2_fit : GoodIn wsX11_delay wsX2_fit := goodIn_r _ [8, 9, 10, 11, 12, 13, 14, 7, 15, 16, 17, 18, 19, 20, 21, 22, 23, 24, 25, 26, 27, 28, 29, 30, 31, 32, 33, 67, 68, 69, 70, 71, 72, 73, 74, 75] rfl (by decide +kernel)
set_option maxRecDepth 20000 in
theorem gX11_delay_X2_fit : GoodIn wsX11_delay (wsV RX11 254 RX2 yX2_fit wsX2_fit) := goodIn_app (goodIn_r _ [4, 5, 6, 7] rfl (by decide +kernel)) ggX11_delay_X2_fit
set_option maxRecDepth 20000 in
theorem ggX11_delay_X2_least : GoodIn wsX11_delay wsX2_least := goodIn_r _ [37, 26, 67, 68, 69, 70, 71, 72, 73, 74, 75] rfl (by decide +kernel)
set_option maxRecDepth 20000 in
theorem gX11_delay_X2_least : GoodIn wsX11_delay (wsV RX11 258 RX2 yX2_least wsX2_least) := goodIn_app (goodIn_r _ [34, 35, 36, 7] rfl (by decide +kernel)) ggX11_delay_X2_least
set_option maxRecDepth 20000 in
theorem ggX11_delay_X2_greatest : GoodIn wsX11_delay wsX2_greatest := goodIn_r _ [41, 26, 67, 68, 69, 70, 71, 72, 73, 74, 75] rfl (by decide +kernel)
set_option maxRecDepth 20000 in
theorem gX11_delay_X2_greatest : GoodIn wsX11_delay (wsV RX11 262 RX2 yX2_greatest wsX2_greatest) := goodIn_app (goodIn_r _ [38, 39, 40, 7] rfl (by decide +kernel)) ggX11_delay_X2_greatest
theorem dX11_delay_0 : decode cX11_delay 0 = .ok (.iload_n 1, 1) := by decide +kernel
theorem dX11_delay_1 : decode cX11_delay 1 = .ok (.ifCond .lt 23, 3) := by decide +kernel
theorem dX11_delay_4 : decode cX11_delay 4 = .ok (.iload_n 1, 1) := by decide +kernel
theorem dX11_delay_5 : decode cX11_delay 5 = .ok (.aload_n 0, 1) := by decide +kernel
theorem dX11_delay_6 : decode cX11_delay 6 = .ok (.getfield 19, 3) := by decide +kernel
theorem dX11_delay_9 : decode cX11_delay 9 = .ok (.getfield 107, 3) := by decide +kernel
theorem dX11_delay_12 : decode cX11_delay 12 = .ok (.if_icmp .ge 12, 3) := by decide +kernel
theorem dX11_delay_15 : decode cX11_delay 15 = .ok (.iload_n 3, 1) := by decide +kernel
theorem dX11_delay_16 : decode cX11_delay 16 = .ok (.ifCond .lt 8, 3) := by decide +kernel
theorem dX11_delay_19 : decode cX11_delay 19 = .ok (.iload_n 3, 1) := by decide +kernel
theorem dX11_delay_20 : decode cX11_delay 20 = .ok (.iconst 1, 1) := by decide +kernel
theorem dX11_delay_21 : decode cX11_delay 21 = .ok (.if_icmp .le 5, 3) := by decide +kernel
theorem dX11_delay_24 : decode cX11_delay 24 = .ok (.iconst (-1), 1) := by decide +kernel
theorem dX11_delay_25 : decode cX11_delay 25 = .ok (.ireturn, 1) := by decide +kernel
theorem dX11_delay_26 : decode cX11_delay 26 = .ok (.aload_n 0, 1) := by decide +kernel
theorem dX11_delay_27 : decode cX11_delay 27 = .ok (.getfield 70, 3) := by decide +kernel
theorem dX11_delay_30 : decode cX11_delay 30 = .ok (.aload_n 0, 1) := by decide +kernel
theorem dX11_delay_31 : decode cX11_delay 31 = .ok (.getfield 19, 3) := by decide +kernel
theorem dX11_delay_34 : decode cX11_delay 34 = .ok (.getfield 107, 3) := by decide +kernel
theorem dX11_delay_37 : decode cX11_delay 37 = .ok (.iload_n 2, 1) := by decide +kernel
theorem dX11_delay_38 : decode cX11_delay 38 = .ok (.invokevirtual 254, 3) := by decide +kernel
theorem dX11_delay_41 : decode cX11_delay 41 = .ok (.ifCond .ne 6, 3) := by decide +kernel
theorem dX11_delay_44 : decode cX11_delay 44 = .ok (.bipush (-2), 2) := by decide +kernel
theorem dX11_delay_46 : decode cX11_delay 46 = .ok (.ireturn, 1) := by decide +kernel
theorem dX11_delay_47 : decode cX11_delay 47 = .ok (.iload_n 3, 1) := by decide +kernel
theorem dX11_delay_48 : decode cX11_delay 48 = .ok (.ifCond .ne 14, 3) := by decide +kernel
theorem dX11_delay_51 : decode cX11_delay 51 = .ok (.aload_n 0, 1) := by decide +kernel
theorem dX11_delay_52 : decode cX11_delay 52 = .ok (.getfield 70, 3) := by decide +kernel
theorem dX11_delay_55 : decode cX11_delay 55 = .ok (.iload_n 1, 1) := by decide +kernel
theorem dX11_delay_56 : decode cX11_delay 56 = .ok (.invokevirtual 258, 3) := by decide +kernel
theorem dX11_delay_59 : decode cX11_delay 59 = .ok (.goto 11, 3) := by decide +kernel
theorem dX11_delay_62 : decode cX11_delay 62 = .ok (.aload_n 0, 1) := by decide +kernel
theorem dX11_delay_63 : decode cX11_delay 63 = .ok (.getfield 70, 3) := by decide +kernel
theorem dX11_delay_66 : decode cX11_delay 66 = .ok (.iload_n 1, 1) := by decide +kernel
theorem dX11_delay_67 : decode cX11_delay 67 = .ok (.invokevirtual 262, 3) := by decide +kernel
theorem dX11_delay_70 : decode cX11_delay 70 = .ok (.ireturn, 1) := by decide +kernel
set_option maxRecDepth 20000 in
theorem ggX11_look_X2_fit : GoodIn wsX11_look wsX2_fit := goodIn_r _ [8, 9, 10, 11, 12, 13, 14, 7, 15, 16, 17, 18, 19, 20, 21, 22, 23, 24, 25, 26, 27, 28, 29, 30, 31, 32, 33, 71, 72, 73, 74, 75, 76, 77, 78, 79] rfl (by decide +kernel)
set_option maxRecDepth 20000 in
theorem gX11_look_X2_fit : GoodIn wsX11_look (wsV RX11 254 RX2 yX2_fit wsX2_fit) := goodIn_app (goodIn_r _ [4, 5, 6, 7] rfl (by decide +kernel)) ggX11_look_X2_fit
set_option maxRecDepth 20000 in
theorem ggX11_look_X2_spread : GoodIn wsX11_look wsX2_spread := goodIn_r _ [37, 38, 39, 40, 7, 41, 26, 42, 43, 44, 45, 71, 72, 73, 74, 75, 76, 77, 78, 79] rfl (by decide +kernel)
set_option maxRecDepth 20000 in
theorem gX11_look_X2_spread : GoodIn wsX11_look (wsV RX11 265 RX2 yX2_spread wsX2_spread) := goodIn_app (goodIn_r _ [34, 35, 36, 7] rfl (by decide +kernel)) ggX11_look_X2_spread
theorem dX11_look_0 : decode cX11_look 0 = .ok (.aload_n 0, 1) := by decide +kernel
theorem dX11_look_1 : decode cX11_look 1 = .ok (.getfield 70, 3) := by decide +kernel
theorem dX11_look_4 : decode cX11_look 4 = .ok (.aload_n 0, 1) := by decide +kernel
theorem dX11_look_5 : decode cX11_look 5 = .ok (.getfield 19, 3) := by decide +kernel
theorem dX11_look_8 : decode cX11_look 8 = .ok (.getfield 107, 3) := by decide +kernel
theorem dX11_look_11 : decode cX11_look 11 = .ok (.iload_n 1, 1) := by decide +kernel
theorem dX11_look_12 : decode cX11_look 12 = .ok (.invokevirtual 254, 3) := by decide +kernel
theorem dX11_look_15 : decode cX11_look 15 = .ok (.ifCond .ne 6, 3) := by decide +kernel
theorem dX11_look_18 : decode cX11_look 18 = .ok (.bipush (-2), 2) := by decide +kernel
theorem dX11_look_20 : decode cX11_look 20 = .ok (.ireturn, 1) := by decide +kernel
theorem dX11_look_21 : decode cX11_look 21 = .ok (.iconst 0, 1) := by decide +kernel
theorem dX11_look_22 : decode cX11_look 22 = .ok (.istore_n 2, 1) := by decide +kernel
theorem dX11_look_23 : decode cX11_look 23 = .ok (.iconst 1, 1) := by decide +kernel
theorem dX11_look_24 : decode cX11_look 24 = .ok (.istore_n 3, 1) := by decide +kernel
theorem dX11_look_25 : decode cX11_look 25 = .ok (.iload_n 3, 1) := by decide +kernel
theorem dX11_look_26 : decode cX11_look 26 = .ok (.aload_n 0, 1) := by decide +kernel
theorem dX11_look_27 : decode cX11_look 27 = .ok (.getfield 19, 3) := by decide +kernel
theorem dX11_look_30 : decode cX11_look 30 = .ok (.getfield 107, 3) := by decide +kernel
theorem dX11_look_33 : decode cX11_look 33 = .ok (.if_icmp .ge 30, 3) := by decide +kernel
theorem dX11_look_36 : decode cX11_look 36 = .ok (.aload_n 0, 1) := by decide +kernel
theorem dX11_look_37 : decode cX11_look 37 = .ok (.getfield 70, 3) := by decide +kernel
theorem dX11_look_40 : decode cX11_look 40 = .ok (.iload_n 3, 1) := by decide +kernel
theorem dX11_look_41 : decode cX11_look 41 = .ok (.invokevirtual 265, 3) := by decide +kernel
theorem dX11_look_44 : decode cX11_look 44 = .ok (.aload_n 0, 1) := by decide +kernel
theorem dX11_look_45 : decode cX11_look 45 = .ok (.getfield 70, 3) := by decide +kernel
theorem dX11_look_48 : decode cX11_look 48 = .ok (.iload_n 2, 1) := by decide +kernel
theorem dX11_look_49 : decode cX11_look 49 = .ok (.invokevirtual 265, 3) := by decide +kernel
theorem dX11_look_52 : decode cX11_look 52 = .ok (.if_icmp .le 5, 3) := by decide +kernel
theorem dX11_look_55 : decode cX11_look 55 = .ok (.iload_n 3, 1) := by decide +kernel
theorem dX11_look_56 : decode cX11_look 56 = .ok (.istore_n 2, 1) := by decide +kernel
theorem dX11_look_57 : decode cX11_look 57 = .ok (.iinc 3 1, 3) := by decide +kernel
theorem dX11_look_60 : decode cX11_look 60 = .ok (.goto (-35), 3) := by decide +kernel
theorem dX11_look_63 : decode cX11_look 63 = .ok (.iload_n 2, 1) := by decide +kernel
theorem dX11_look_64 : decode cX11_look 64 = .ok (.ireturn, 1) := by decide +kernel
set_option maxRecDepth 20000 in
theorem ggX11_hills_X4_take : GoodIn wsX11_hills wsX4_take := goodIn_r _ [9, 10, 11, 12, 13, 14, 52, 53, 54, 55, 56] rfl (by decide +kernel)
set_option maxRecDepth 20000 in
theorem gX11_hills_X4_take : GoodIn wsX11_hills (wsV RX11 268 RX4 yX4_take wsX4_take) := goodIn_app (goodIn_r _ [5, 6, 7, 8] rfl (by decide +kernel)) ggX11_hills_X4_take
set_option maxRecDepth 20000 in
theorem ggX11_hills_X4_fewest : GoodIn wsX11_hills wsX4_fewest := goodIn_r _ [18, 11, 19, 20, 21, 22, 23, 24, 25, 26, 27, 28, 8, 29, 12, 30, 31, 32, 33, 13, 54, 55, 56] rfl (by decide +kernel)
set_option maxRecDepth 20000 in
theorem gX11_hills_X4_fewest : GoodIn wsX11_hills (wsV RX11 272 RX4 yX4_fewest wsX4_fewest) := goodIn_app (goodIn_r _ [15, 16, 17, 8] rfl (by decide +kernel)) ggX11_hills_X4_fewest
set_option maxRecDepth 20000 in
theorem ggX11_hills_J6_bitCount_0f7a4 : GoodIn wsX11_hills wsJ6_bitCount_0f7a4 := goodIn_r _ [22, 23, 24, 25] rfl (by decide +kernel)
set_option maxRecDepth 20000 in
theorem gX11_hills_J6_bitCount_0f7a4 : GoodIn wsX11_hills (va_wsS RX11 278 yJ6_bitCount_0f7a4 wsJ6_bitCount_0f7a4) := goodIn_app (goodIn_r _ [34, 20, 21] rfl (by decide +kernel)) ggX11_hills_J6_bitCount_0f7a4
theorem dX11_hills_0 : decode cX11_hills 0 = .ok (.aload_n 0, 1) := by decide +kernel
theorem dX11_hills_1 : decode cX11_hills 1 = .ok (.getfield 77, 3) := by decide +kernel
theorem dX11_hills_4 : decode cX11_hills 4 = .ok (.aload_n 0, 1) := by decide +kernel
theorem dX11_hills_5 : decode cX11_hills 5 = .ok (.getfield 10, 3) := by decide +kernel
theorem dX11_hills_8 : decode cX11_hills 8 = .ok (.iload_n 1, 1) := by decide +kernel
theorem dX11_hills_9 : decode cX11_hills 9 = .ok (.invokevirtual 268, 3) := by decide +kernel
theorem dX11_hills_12 : decode cX11_hills 12 = .ok (.istore_n 2, 1) := by decide +kernel
theorem dX11_hills_13 : decode cX11_hills 13 = .ok (.aload_n 0, 1) := by decide +kernel
theorem dX11_hills_14 : decode cX11_hills 14 = .ok (.getfield 10, 3) := by decide +kernel
theorem dX11_hills_17 : decode cX11_hills 17 = .ok (.iconst 0, 1) := by decide +kernel
theorem dX11_hills_18 : decode cX11_hills 18 = .ok (.putfield 92, 3) := by decide +kernel
theorem dX11_hills_21 : decode cX11_hills 21 = .ok (.iload_n 2, 1) := by decide +kernel
theorem dX11_hills_22 : decode cX11_hills 22 = .ok (.ifCond .ne 6, 3) := by decide +kernel
theorem dX11_hills_25 : decode cX11_hills 25 = .ok (.bipush (-2), 2) := by decide +kernel
theorem dX11_hills_27 : decode cX11_hills 27 = .ok (.ireturn, 1) := by decide +kernel
theorem dX11_hills_28 : decode cX11_hills 28 = .ok (.aload_n 0, 1) := by decide +kernel
theorem dX11_hills_29 : decode cX11_hills 29 = .ok (.getfield 77, 3) := by decide +kernel
theorem dX11_hills_32 : decode cX11_hills 32 = .ok (.invokevirtual 272, 3) := by decide +kernel
theorem dX11_hills_35 : decode cX11_hills 35 = .ok (.istore_n 3, 1) := by decide +kernel
theorem dX11_hills_36 : decode cX11_hills 36 = .ok (.iload_n 3, 1) := by decide +kernel
theorem dX11_hills_37 : decode cX11_hills 37 = .ok (.ifCond .ne 5, 3) := by decide +kernel
theorem dX11_hills_40 : decode cX11_hills 40 = .ok (.iconst (-1), 1) := by decide +kernel
theorem dX11_hills_41 : decode cX11_hills 41 = .ok (.ireturn, 1) := by decide +kernel
theorem dX11_hills_42 : decode cX11_hills 42 = .ok (.aload_n 0, 1) := by decide +kernel
theorem dX11_hills_43 : decode cX11_hills 43 = .ok (.iload_n 3, 1) := by decide +kernel
theorem dX11_hills_44 : decode cX11_hills 44 = .ok (.putfield 275, 3) := by decide +kernel
theorem dX11_hills_47 : decode cX11_hills 47 = .ok (.iload_n 3, 1) := by decide +kernel
theorem dX11_hills_48 : decode cX11_hills 48 = .ok (.invokestatic 278, 3) := by decide +kernel
theorem dX11_hills_51 : decode cX11_hills 51 = .ok (.ireturn, 1) := by decide +kernel
theorem dX11_hillSet_0 : decode cX11_hillSet 0 = .ok (.aload_n 0, 1) := by decide +kernel
theorem dX11_hillSet_1 : decode cX11_hillSet 1 = .ok (.getfield 275, 3) := by decide +kernel
theorem dX11_hillSet_4 : decode cX11_hillSet 4 = .ok (.ireturn, 1) := by decide +kernel
theorem dX11_count_0 : decode cX11_count 0 = .ok (.iload_n 1, 1) := by decide +kernel
theorem dX11_count_1 : decode cX11_count 1 = .ok (.tableswitch 96 0 6 #[43, 48, 56, 64, 72, 80, 88], 43) := by decide +kernel
theorem dX11_count_44 : decode cX11_count 44 = .ok (.aload_n 0, 1) := by decide +kernel
theorem dX11_count_45 : decode cX11_count 45 = .ok (.getfield 98, 3) := by decide +kernel
theorem dX11_count_48 : decode cX11_count 48 = .ok (.ireturn, 1) := by decide +kernel
theorem dX11_count_49 : decode cX11_count 49 = .ok (.aload_n 0, 1) := by decide +kernel
theorem dX11_count_50 : decode cX11_count 50 = .ok (.getfield 19, 3) := by decide +kernel
theorem dX11_count_53 : decode cX11_count 53 = .ok (.getfield 107, 3) := by decide +kernel
theorem dX11_count_56 : decode cX11_count 56 = .ok (.ireturn, 1) := by decide +kernel
theorem dX11_count_57 : decode cX11_count 57 = .ok (.aload_n 0, 1) := by decide +kernel
theorem dX11_count_58 : decode cX11_count 58 = .ok (.getfield 19, 3) := by decide +kernel
theorem dX11_count_61 : decode cX11_count 61 = .ok (.getfield 101, 3) := by decide +kernel
theorem dX11_count_64 : decode cX11_count 64 = .ok (.ireturn, 1) := by decide +kernel
theorem dX11_count_65 : decode cX11_count 65 = .ok (.aload_n 0, 1) := by decide +kernel
theorem dX11_count_66 : decode cX11_count 66 = .ok (.getfield 47, 3) := by decide +kernel
theorem dX11_count_69 : decode cX11_count 69 = .ok (.getfield 198, 3) := by decide +kernel
theorem dX11_count_72 : decode cX11_count 72 = .ok (.ireturn, 1) := by decide +kernel
theorem dX11_count_73 : decode cX11_count 73 = .ok (.aload_n 0, 1) := by decide +kernel
theorem dX11_count_74 : decode cX11_count 74 = .ok (.getfield 70, 3) := by decide +kernel
theorem dX11_count_77 : decode cX11_count 77 = .ok (.getfield 104, 3) := by decide +kernel
theorem dX11_count_80 : decode cX11_count 80 = .ok (.ireturn, 1) := by decide +kernel
theorem dX11_count_81 : decode cX11_count 81 = .ok (.aload_n 0, 1) := by decide +kernel
theorem dX11_count_82 : decode cX11_count 82 = .ok (.getfield 19, 3) := by decide +kernel
theorem dX11_count_85 : decode cX11_count 85 = .ok (.getfield 283, 3) := by decide +kernel
theorem dX11_count_88 : decode cX11_count 88 = .ok (.ireturn, 1) := by decide +kernel
theorem dX11_count_89 : decode cX11_count 89 = .ok (.aload_n 0, 1) := by decide +kernel
theorem dX11_count_90 : decode cX11_count 90 = .ok (.getfield 10, 3) := by decide +kernel
theorem dX11_count_93 : decode cX11_count 93 = .ok (.getfield 92, 3) := by decide +kernel
theorem dX11_count_96 : decode cX11_count 96 = .ok (.ireturn, 1) := by decide +kernel
theorem dX11_count_97 : decode cX11_count 97 = .ok (.iconst (-1), 1) := by decide +kernel
theorem dX11_count_98 : decode cX11_count 98 = .ok (.ireturn, 1) := by decide +kernel
theorem dX11_isLetter_0 : decode cX11_isLetter 0 = .ok (.iload_n 0, 1) := by decide +kernel
theorem dX11_isLetter_1 : decode cX11_isLetter 1 = .ok (.bipush 97, 2) := by decide +kernel
theorem dX11_isLetter_3 : decode cX11_isLetter 3 = .ok (.if_icmp .lt 13, 3) := by decide +kernel
theorem dX11_isLetter_6 : decode cX11_isLetter 6 = .ok (.iload_n 0, 1) := by decide +kernel
theorem dX11_isLetter_7 : decode cX11_isLetter 7 = .ok (.bipush 122, 2) := by decide +kernel
theorem dX11_isLetter_9 : decode cX11_isLetter 9 = .ok (.if_icmp .gt 7, 3) := by decide +kernel
theorem dX11_isLetter_12 : decode cX11_isLetter 12 = .ok (.iconst 1, 1) := by decide +kernel
theorem dX11_isLetter_13 : decode cX11_isLetter 13 = .ok (.goto 4, 3) := by decide +kernel
theorem dX11_isLetter_16 : decode cX11_isLetter 16 = .ok (.iconst 0, 1) := by decide +kernel
theorem dX11_isLetter_17 : decode cX11_isLetter 17 = .ok (.ireturn, 1) := by decide +kernel
theorem dX11_isDigit_0 : decode cX11_isDigit 0 = .ok (.iload_n 0, 1) := by decide +kernel
theorem dX11_isDigit_1 : decode cX11_isDigit 1 = .ok (.bipush 48, 2) := by decide +kernel
theorem dX11_isDigit_3 : decode cX11_isDigit 3 = .ok (.if_icmp .lt 13, 3) := by decide +kernel
theorem dX11_isDigit_6 : decode cX11_isDigit 6 = .ok (.iload_n 0, 1) := by decide +kernel
theorem dX11_isDigit_7 : decode cX11_isDigit 7 = .ok (.bipush 57, 2) := by decide +kernel
theorem dX11_isDigit_9 : decode cX11_isDigit 9 = .ok (.if_icmp .gt 7, 3) := by decide +kernel
theorem dX11_isDigit_12 : decode cX11_isDigit 12 = .ok (.iconst 1, 1) := by decide +kernel
theorem dX11_isDigit_13 : decode cX11_isDigit 13 = .ok (.goto 4, 3) := by decide +kernel
theorem dX11_isDigit_16 : decode cX11_isDigit 16 = .ok (.iconst 0, 1) := by decide +kernel
theorem dX11_isDigit_17 : decode cX11_isDigit 17 = .ok (.ireturn, 1) := by decide +kernel
