set_option maxRecDepth 20000 in
theorem ggX0_init_X5_init : GoodIn wsX0_init wsX5_init := goodIn_r _ [18, 19, 2, 3, 10, 20, 21, 22, 23, 24, 36, 37, 38, 39, 40, 41, 42, 43] rfl (by decide +kernel)
set_option maxRecDepth 20000 in
theorem gX0_init_X5_init : GoodIn wsX0_init (wsX5_init) := ggX0_init_X5_init
theorem dX0_init_0 : decode cX0_init 0 = .ok (.aload_n 0, 1) := by decide +kernel
theorem dX0_init_1 : decode cX0_init 1 = .ok (.invokespecial 3, 3) := by decide +kernel
theorem dX0_init_4 : decode cX0_init 4 = .ok (.aload_n 0, 1) := by decide +kernel
theorem dX0_init_5 : decode cX0_init 5 = .ok (.bipush 61, 2) := by decide +kernel
theorem dX0_init_7 : decode cX0_init 7 = .ok (.anewarray 9, 3) := by decide +kernel
theorem dX0_init_10 : decode cX0_init 10 = .ok (.putfield 11, 3) := by decide +kernel
theorem dX0_init_13 : decode cX0_init 13 = .ok (.aload_n 0, 1) := by decide +kernel
theorem dX0_init_14 : decode cX0_init 14 = .ok (.bipush 11, 2) := by decide +kernel
theorem dX0_init_16 : decode cX0_init 16 = .ok (.anewarray 9, 3) := by decide +kernel
theorem dX0_init_19 : decode cX0_init 19 = .ok (.putfield 17, 3) := by decide +kernel
theorem dX0_init_22 : decode cX0_init 22 = .ok (.aload_n 0, 1) := by decide +kernel
theorem dX0_init_23 : decode cX0_init 23 = .ok (.new 9, 3) := by decide +kernel
theorem dX0_init_26 : decode cX0_init 26 = .ok (.dup, 1) := by decide +kernel
theorem dX0_init_27 : decode cX0_init 27 = .ok (.bipush 8, 2) := by decide +kernel
theorem dX0_init_29 : decode cX0_init 29 = .ok (.iconst 0, 1) := by decide +kernel
theorem dX0_init_30 : decode cX0_init 30 = .ok (.invokespecial 20, 3) := by decide +kernel
theorem dX0_init_33 : decode cX0_init 33 = .ok (.putfield 23, 3) := by decide +kernel
theorem dX0_init_36 : decode cX0_init 36 = .ok (.aload_n 0, 1) := by decide +kernel
theorem dX0_init_37 : decode cX0_init 37 = .ok (.bipush 70, 2) := by decide +kernel
theorem dX0_init_39 : decode cX0_init 39 = .ok (.newarray .int, 2) := by decide +kernel
theorem dX0_init_41 : decode cX0_init 41 = .ok (.putfield 27, 3) := by decide +kernel
theorem dX0_init_44 : decode cX0_init 44 = .ok (.aload_n 0, 1) := by decide +kernel
theorem dX0_init_45 : decode cX0_init 45 = .ok (.bipush 70, 2) := by decide +kernel
theorem dX0_init_47 : decode cX0_init 47 = .ok (.newarray .int, 2) := by decide +kernel
theorem dX0_init_49 : decode cX0_init 49 = .ok (.putfield 31, 3) := by decide +kernel
theorem dX0_init_52 : decode cX0_init 52 = .ok (.aload_n 0, 1) := by decide +kernel
theorem dX0_init_53 : decode cX0_init 53 = .ok (.iconst 2, 1) := by decide +kernel
theorem dX0_init_54 : decode cX0_init 54 = .ok (.newarray .int, 2) := by decide +kernel
theorem dX0_init_56 : decode cX0_init 56 = .ok (.putfield 34, 3) := by decide +kernel
theorem dX0_init_59 : decode cX0_init 59 = .ok (.aload_n 0, 1) := by decide +kernel
theorem dX0_init_60 : decode cX0_init 60 = .ok (.iconst 2, 1) := by decide +kernel
theorem dX0_init_61 : decode cX0_init 61 = .ok (.newarray .int, 2) := by decide +kernel
theorem dX0_init_63 : decode cX0_init 63 = .ok (.putfield 37, 3) := by decide +kernel
theorem dX0_init_66 : decode cX0_init 66 = .ok (.aload_n 0, 1) := by decide +kernel
theorem dX0_init_67 : decode cX0_init 67 = .ok (.iconst (-1), 1) := by decide +kernel
theorem dX0_init_68 : decode cX0_init 68 = .ok (.putfield 40, 3) := by decide +kernel
theorem dX0_init_71 : decode cX0_init 71 = .ok (.iconst 0, 1) := by decide +kernel
theorem dX0_init_72 : decode cX0_init 72 = .ok (.istore_n 1, 1) := by decide +kernel
theorem dX0_init_73 : decode cX0_init 73 = .ok (.iload_n 1, 1) := by decide +kernel
theorem dX0_init_74 : decode cX0_init 74 = .ok (.aload_n 0, 1) := by decide +kernel
theorem dX0_init_75 : decode cX0_init 75 = .ok (.getfield 11, 3) := by decide +kernel
theorem dX0_init_78 : decode cX0_init 78 = .ok (.arraylength, 1) := by decide +kernel
theorem dX0_init_79 : decode cX0_init 79 = .ok (.if_icmp .ge 25, 3) := by decide +kernel
theorem dX0_init_82 : decode cX0_init 82 = .ok (.aload_n 0, 1) := by decide +kernel
theorem dX0_init_83 : decode cX0_init 83 = .ok (.getfield 11, 3) := by decide +kernel
theorem dX0_init_86 : decode cX0_init 86 = .ok (.iload_n 1, 1) := by decide +kernel
theorem dX0_init_87 : decode cX0_init 87 = .ok (.new 9, 3) := by decide +kernel
theorem dX0_init_90 : decode cX0_init 90 = .ok (.dup, 1) := by decide +kernel
theorem dX0_init_91 : decode cX0_init 91 = .ok (.bipush 8, 2) := by decide +kernel
theorem dX0_init_93 : decode cX0_init 93 = .ok (.iconst 0, 1) := by decide +kernel
theorem dX0_init_94 : decode cX0_init 94 = .ok (.invokespecial 20, 3) := by decide +kernel
theorem dX0_init_97 : decode cX0_init 97 = .ok (.aastore, 1) := by decide +kernel
theorem dX0_init_98 : decode cX0_init 98 = .ok (.iinc 1 1, 3) := by decide +kernel
theorem dX0_init_101 : decode cX0_init 101 = .ok (.goto (-28), 3) := by decide +kernel
theorem dX0_init_104 : decode cX0_init 104 = .ok (.iconst 0, 1) := by decide +kernel
theorem dX0_init_105 : decode cX0_init 105 = .ok (.istore_n 1, 1) := by decide +kernel
theorem dX0_init_106 : decode cX0_init 106 = .ok (.iload_n 1, 1) := by decide +kernel
theorem dX0_init_107 : decode cX0_init 107 = .ok (.aload_n 0, 1) := by decide +kernel
theorem dX0_init_108 : decode cX0_init 108 = .ok (.getfield 17, 3) := by decide +kernel
theorem dX0_init_111 : decode cX0_init 111 = .ok (.arraylength, 1) := by decide +kernel
theorem dX0_init_112 : decode cX0_init 112 = .ok (.if_icmp .ge 25, 3) := by decide +kernel
theorem dX0_init_115 : decode cX0_init 115 = .ok (.aload_n 0, 1) := by decide +kernel
theorem dX0_init_116 : decode cX0_init 116 = .ok (.getfield 17, 3) := by decide +kernel
theorem dX0_init_119 : decode cX0_init 119 = .ok (.iload_n 1, 1) := by decide +kernel
theorem dX0_init_120 : decode cX0_init 120 = .ok (.new 9, 3) := by decide +kernel
theorem dX0_init_123 : decode cX0_init 123 = .ok (.dup, 1) := by decide +kernel
theorem dX0_init_124 : decode cX0_init 124 = .ok (.bipush 8, 2) := by decide +kernel
theorem dX0_init_126 : decode cX0_init 126 = .ok (.iconst 0, 1) := by decide +kernel
theorem dX0_init_127 : decode cX0_init 127 = .ok (.invokespecial 20, 3) := by decide +kernel
theorem dX0_init_130 : decode cX0_init 130 = .ok (.aastore, 1) := by decide +kernel
theorem dX0_init_131 : decode cX0_init 131 = .ok (.iinc 1 1, 3) := by decide +kernel
theorem dX0_init_134 : decode cX0_init 134 = .ok (.goto (-28), 3) := by decide +kernel
theorem dX0_init_137 : decode cX0_init 137 = .ok (.return_, 1) := by decide +kernel
set_option maxRecDepth 20000 in
theorem ggX0_search_X0_listSingles : GoodIn wsX0_search wsX0_listSingles := goodIn_r _ [14, 15, 6, 16, 17, 155, 156, 157, 158, 159, 160, 161, 162, 163, 164, 165] rfl (by decide +kernel)
set_option maxRecDepth 20000 in
theorem gX0_search_X0_listSingles : GoodIn wsX0_search (wsV RX0 61 RX0 yX0_listSingles wsX0_listSingles) := goodIn_app (goodIn_r _ [10, 11, 12, 13] rfl (by decide +kernel)) ggX0_search_X0_listSingles
set_option maxRecDepth 20000 in
theorem ggX0_search_X0_playCalm : GoodIn wsX0_search wsX0_playCalm := goodIn_r _ [21, 8, 7, 5, 22, 23, 24, 25, 26, 27, 28, 2, 3, 4, 29, 30, 31, 32, 33, 34, 35, 36, 37, 38, 39, 40, 41, 42, 43, 44, 45, 46, 47, 48, 49, 50, 51, 52, 53, 54, 55, 56, 57, 58, 59, 60, 61, 62, 63, 64, 65, 66, 67, 68, 69, 70, 71, 72, 73, 74, 75, 76, 77, 78, 79, 80, 81, 82, 83, 84, 85, 86, 87, 88, 89, 90, 91, 92, 93, 94, 95, 96, 97, 98, 99, 100, 101, 102, 103, 104, 105, 106, 107, 108, 109, 110, 111, 112, 113, 114, 115, 155, 156, 157, 158, 159, 160, 161, 162, 163, 164, 165, 166, 167, 168, 169, 170, 171, 172, 173, 174, 175, 176, 177, 178, 179, 180, 181, 182, 183, 184, 185, 186, 187, 188, 189, 190, 191, 192, 193] rfl (by decide +kernel)
set_option maxRecDepth 20000 in
theorem gX0_search_X0_playCalm : GoodIn wsX0_search (wsV RX0 65 RX0 yX0_playCalm wsX0_playCalm) := goodIn_app (goodIn_r _ [18, 19, 20, 13] rfl (by decide +kernel)) ggX0_search_X0_playCalm
set_option maxRecDepth 20000 in
theorem ggX0_search_X1_outcome : GoodIn wsX0_search wsX1_outcome := goodIn_r _ [119, 120, 54, 72, 174, 175, 176, 177, 178, 179, 180, 181, 166, 167, 168, 169, 170, 171, 172, 173] rfl (by decide +kernel)
set_option maxRecDepth 20000 in
theorem gX0_search_X1_outcome : GoodIn wsX0_search (wsV RX0 69 RX1 yX1_outcome wsX1_outcome) := goodIn_app (goodIn_r _ [116, 117, 118, 50] rfl (by decide +kernel)) ggX0_search_X1_outcome
set_option maxRecDepth 20000 in
theorem ggX0_search_X0_oneDoes : GoodIn wsX0_search wsX0_oneDoes := goodIn_r _ [124, 15, 16, 125, 8, 17, 9, 39, 40, 41, 25, 42, 29, 27, 28, 2, 3, 4, 43, 44, 45, 46, 30, 31, 32, 33, 34, 47, 48, 49, 50, 51, 52, 53, 54, 55, 56, 57, 58, 59, 60, 61, 62, 63, 64, 65, 66, 67, 68, 69, 70, 71, 72, 73, 74, 75, 76, 77, 78, 79, 80, 81, 82, 83, 84, 85, 86, 87, 88, 89, 90, 91, 92, 93, 94, 95, 96, 97, 98, 99, 100, 101, 102, 103, 104, 105, 106, 107, 108, 109, 110, 111, 112, 113, 114, 115, 126, 127, 128, 13, 129, 5, 130, 131, 132, 133, 134, 120, 135, 116, 117, 118, 119, 136, 137, 138, 139, 140, 141, 155, 156, 157, 158, 159, 160, 161, 162, 163, 164, 165, 174, 175, 176, 177, 178, 179, 180, 181, 166, 167, 168, 169, 170, 171, 172, 173, 182, 183, 184, 185, 186, 187, 188, 189, 190, 191, 192, 193] rfl (by decide +kernel)
set_option maxRecDepth 20000 in
theorem gX0_search_X0_oneDoes : GoodIn wsX0_search (wsV RX0 73 RX0 yX0_oneDoes wsX0_oneDoes) := goodIn_app (goodIn_r _ [121, 122, 123, 13] rfl (by decide +kernel)) ggX0_search_X0_oneDoes
set_option maxRecDepth 20000 in
theorem ggX0_search_X0_twoDo : GoodIn wsX0_search wsX0_twoDo := goodIn_r _ [145, 15, 16, 9, 146, 147, 148, 13, 149, 6, 150, 8, 17, 39, 40, 41, 25, 42, 29, 27, 28, 2, 3, 4, 43, 44, 45, 46, 30, 31, 32, 33, 34, 47, 48, 49, 50, 51, 52, 53, 54, 55, 56, 57, 58, 59, 60, 61, 62, 63, 64, 65, 66, 67, 68, 69, 70, 71, 72, 73, 74, 75, 76, 77, 78, 79, 80, 81, 82, 83, 84, 85, 86, 87, 88, 89, 90, 91, 92, 93, 94, 95, 96, 97, 98, 99, 100, 101, 102, 103, 104, 105, 106, 107, 108, 109, 110, 111, 112, 113, 114, 115, 151, 152, 153, 154, 125, 131, 132, 133, 134, 120, 135, 126, 127, 128, 129, 5, 130, 116, 117, 118, 119, 136, 137, 138, 139, 140, 141, 155, 156, 157, 158, 159, 160, 161, 162, 163, 164, 165, 174, 175, 176, 177, 178, 179, 180, 181, 166, 167, 168, 169, 170, 171, 172, 173, 182, 183, 184, 185, 186, 187, 188, 189, 190, 191, 192, 193] rfl (by decide +kernel)
set_option maxRecDepth 20000 in
theorem gX0_search_X0_twoDo : GoodIn wsX0_search (wsV RX0 77 RX0 yX0_twoDo wsX0_twoDo) := goodIn_app (goodIn_r _ [142, 143, 144, 13] rfl (by decide +kernel)) ggX0_search_X0_twoDo
theorem dX0_search_0 : decode cX0_search 0 = .ok (.aload_n 0, 1) := by decide +kernel
theorem dX0_search_1 : decode cX0_search 1 = .ok (.iload_n 2, 1) := by decide +kernel
theorem dX0_search_2 : decode cX0_search 2 = .ok (.bipush 60, 2) := by decide +kernel
theorem dX0_search_4 : decode cX0_search 4 = .ok (.invokestatic 44, 3) := by decide +kernel
theorem dX0_search_7 : decode cX0_search 7 = .ok (.putfield 50, 3) := by decide +kernel
theorem dX0_search_10 : decode cX0_search 10 = .ok (.aload_n 0, 1) := by decide +kernel
theorem dX0_search_11 : decode cX0_search 11 = .ok (.iload_n 3, 1) := by decide +kernel
theorem dX0_search_12 : decode cX0_search 12 = .ok (.bipush 10, 2) := by decide +kernel
theorem dX0_search_14 : decode cX0_search 14 = .ok (.invokestatic 44, 3) := by decide +kernel
theorem dX0_search_17 : decode cX0_search 17 = .ok (.aload_n 0, 1) := by decide +kernel
theorem dX0_search_18 : decode cX0_search 18 = .ok (.getfield 50, 3) := by decide +kernel
theorem dX0_search_21 : decode cX0_search 21 = .ok (.invokestatic 44, 3) := by decide +kernel
theorem dX0_search_24 : decode cX0_search 24 = .ok (.putfield 53, 3) := by decide +kernel
theorem dX0_search_27 : decode cX0_search 27 = .ok (.aload_n 0, 1) := by decide +kernel
theorem dX0_search_28 : decode cX0_search 28 = .ok (.aload_n 1, 1) := by decide +kernel
theorem dX0_search_29 : decode cX0_search 29 = .ok (.getfield 56, 3) := by decide +kernel
theorem dX0_search_32 : decode cX0_search 32 = .ok (.iconst 1, 1) := by decide +kernel
theorem dX0_search_33 : decode cX0_search 33 = .ok (.isub, 1) := by decide +kernel
theorem dX0_search_34 : decode cX0_search 34 = .ok (.invokevirtual 61, 3) := by decide +kernel
theorem dX0_search_37 : decode cX0_search 37 = .ok (.aload_n 0, 1) := by decide +kernel
theorem dX0_search_38 : decode cX0_search 38 = .ok (.aload_n 1, 1) := by decide +kernel
theorem dX0_search_39 : decode cX0_search 39 = .ok (.invokevirtual 65, 3) := by decide +kernel
theorem dX0_search_42 : decode cX0_search 42 = .ok (.aload_n 1, 1) := by decide +kernel
theorem dX0_search_43 : decode cX0_search 43 = .ok (.aload_n 0, 1) := by decide +kernel
theorem dX0_search_44 : decode cX0_search 44 = .ok (.getfield 11, 3) := by decide +kernel
theorem dX0_search_47 : decode cX0_search 47 = .ok (.aload_n 0, 1) := by decide +kernel
theorem dX0_search_48 : decode cX0_search 48 = .ok (.getfield 50, 3) := by decide +kernel
theorem dX0_search_51 : decode cX0_search 51 = .ok (.aaload, 1) := by decide +kernel
theorem dX0_search_52 : decode cX0_search 52 = .ok (.invokevirtual 69, 3) := by decide +kernel
theorem dX0_search_55 : decode cX0_search 55 = .ok (.ifCond .eq 10, 3) := by decide +kernel
theorem dX0_search_58 : decode cX0_search 58 = .ok (.aload_n 0, 1) := by decide +kernel
theorem dX0_search_59 : decode cX0_search 59 = .ok (.iconst 0, 1) := by decide +kernel
theorem dX0_search_60 : decode cX0_search 60 = .ok (.putfield 40, 3) := by decide +kernel
theorem dX0_search_63 : decode cX0_search 63 = .ok (.iconst 0, 1) := by decide +kernel
theorem dX0_search_64 : decode cX0_search 64 = .ok (.ireturn, 1) := by decide +kernel
theorem dX0_search_65 : decode cX0_search 65 = .ok (.aload_n 0, 1) := by decide +kernel
theorem dX0_search_66 : decode cX0_search 66 = .ok (.aload_n 1, 1) := by decide +kernel
theorem dX0_search_67 : decode cX0_search 67 = .ok (.invokevirtual 73, 3) := by decide +kernel
theorem dX0_search_70 : decode cX0_search 70 = .ok (.ifCond .eq 5, 3) := by decide +kernel
theorem dX0_search_73 : decode cX0_search 73 = .ok (.iconst 1, 1) := by decide +kernel
theorem dX0_search_74 : decode cX0_search 74 = .ok (.ireturn, 1) := by decide +kernel
theorem dX0_search_75 : decode cX0_search 75 = .ok (.aload_n 0, 1) := by decide +kernel
theorem dX0_search_76 : decode cX0_search 76 = .ok (.aload_n 1, 1) := by decide +kernel
theorem dX0_search_77 : decode cX0_search 77 = .ok (.invokevirtual 77, 3) := by decide +kernel
theorem dX0_search_80 : decode cX0_search 80 = .ok (.ifCond .eq 7, 3) := by decide +kernel
theorem dX0_search_83 : decode cX0_search 83 = .ok (.iconst 2, 1) := by decide +kernel
theorem dX0_search_84 : decode cX0_search 84 = .ok (.goto 4, 3) := by decide +kernel
theorem dX0_search_87 : decode cX0_search 87 = .ok (.iconst (-1), 1) := by decide +kernel
theorem dX0_search_88 : decode cX0_search 88 = .ok (.ireturn, 1) := by decide +kernel
theorem dX0_listSingles_0 : decode cX0_listSingles 0 = .ok (.aload_n 0, 1) := by decide +kernel
theorem dX0_listSingles_1 : decode cX0_listSingles 1 = .ok (.iconst 0, 1) := by decide +kernel
theorem dX0_listSingles_2 : decode cX0_listSingles 2 = .ok (.putfield 80, 3) := by decide +kernel
theorem dX0_listSingles_5 : decode cX0_listSingles 5 = .ok (.iconst 1, 1) := by decide +kernel
theorem dX0_listSingles_6 : decode cX0_listSingles 6 = .ok (.istore_n 2, 1) := by decide +kernel
theorem dX0_listSingles_7 : decode cX0_listSingles 7 = .ok (.iload_n 2, 1) := by decide +kernel
theorem dX0_listSingles_8 : decode cX0_listSingles 8 = .ok (.aload_n 0, 1) := by decide +kernel
theorem dX0_listSingles_9 : decode cX0_listSingles 9 = .ok (.getfield 53, 3) := by decide +kernel
theorem dX0_listSingles_12 : decode cX0_listSingles 12 = .ok (.if_icmp .gt 64, 3) := by decide +kernel
theorem dX0_listSingles_15 : decode cX0_listSingles 15 = .ok (.iconst 0, 1) := by decide +kernel
theorem dX0_listSingles_16 : decode cX0_listSingles 16 = .ok (.istore_n 3, 1) := by decide +kernel
theorem dX0_listSingles_17 : decode cX0_listSingles 17 = .ok (.iload_n 3, 1) := by decide +kernel
theorem dX0_listSingles_18 : decode cX0_listSingles 18 = .ok (.iload_n 1, 1) := by decide +kernel
theorem dX0_listSingles_19 : decode cX0_listSingles 19 = .ok (.if_icmp .ge 51, 3) := by decide +kernel
theorem dX0_listSingles_22 : decode cX0_listSingles 22 = .ok (.aload_n 0, 1) := by decide +kernel
theorem dX0_listSingles_23 : decode cX0_listSingles 23 = .ok (.getfield 80, 3) := by decide +kernel
theorem dX0_listSingles_26 : decode cX0_listSingles 26 = .ok (.aload_n 0, 1) := by decide +kernel
theorem dX0_listSingles_27 : decode cX0_listSingles 27 = .ok (.getfield 27, 3) := by decide +kernel
theorem dX0_listSingles_30 : decode cX0_listSingles 30 = .ok (.arraylength, 1) := by decide +kernel
theorem dX0_listSingles_31 : decode cX0_listSingles 31 = .ok (.if_icmp .ge 39, 3) := by decide +kernel
theorem dX0_listSingles_34 : decode cX0_listSingles 34 = .ok (.aload_n 0, 1) := by decide +kernel
theorem dX0_listSingles_35 : decode cX0_listSingles 35 = .ok (.getfield 27, 3) := by decide +kernel
theorem dX0_listSingles_38 : decode cX0_listSingles 38 = .ok (.aload_n 0, 1) := by decide +kernel
theorem dX0_listSingles_39 : decode cX0_listSingles 39 = .ok (.getfield 80, 3) := by decide +kernel
theorem dX0_listSingles_42 : decode cX0_listSingles 42 = .ok (.iload_n 2, 1) := by decide +kernel
theorem dX0_listSingles_43 : decode cX0_listSingles 43 = .ok (.iastore, 1) := by decide +kernel
theorem dX0_listSingles_44 : decode cX0_listSingles 44 = .ok (.aload_n 0, 1) := by decide +kernel
theorem dX0_listSingles_45 : decode cX0_listSingles 45 = .ok (.getfield 31, 3) := by decide +kernel
theorem dX0_listSingles_48 : decode cX0_listSingles 48 = .ok (.aload_n 0, 1) := by decide +kernel
theorem dX0_listSingles_49 : decode cX0_listSingles 49 = .ok (.getfield 80, 3) := by decide +kernel
theorem dX0_listSingles_52 : decode cX0_listSingles 52 = .ok (.iload_n 3, 1) := by decide +kernel
theorem dX0_listSingles_53 : decode cX0_listSingles 53 = .ok (.iastore, 1) := by decide +kernel
theorem dX0_listSingles_54 : decode cX0_listSingles 54 = .ok (.aload_n 0, 1) := by decide +kernel
theorem dX0_listSingles_55 : decode cX0_listSingles 55 = .ok (.dup, 1) := by decide +kernel
theorem dX0_listSingles_56 : decode cX0_listSingles 56 = .ok (.getfield 80, 3) := by decide +kernel
theorem dX0_listSingles_59 : decode cX0_listSingles 59 = .ok (.iconst 1, 1) := by decide +kernel
theorem dX0_listSingles_60 : decode cX0_listSingles 60 = .ok (.iadd, 1) := by decide +kernel
theorem dX0_listSingles_61 : decode cX0_listSingles 61 = .ok (.putfield 80, 3) := by decide +kernel
theorem dX0_listSingles_64 : decode cX0_listSingles 64 = .ok (.iinc 3 1, 3) := by decide +kernel
theorem dX0_listSingles_67 : decode cX0_listSingles 67 = .ok (.goto (-50), 3) := by decide +kernel
theorem dX0_listSingles_70 : decode cX0_listSingles 70 = .ok (.iinc 2 1, 3) := by decide +kernel
theorem dX0_listSingles_73 : decode cX0_listSingles 73 = .ok (.goto (-66), 3) := by decide +kernel
theorem dX0_listSingles_76 : decode cX0_listSingles 76 = .ok (.return_, 1) := by decide +kernel
set_option maxRecDepth 20000 in
theorem ggX0_playCalm_X5_begin : GoodIn wsX0_playCalm wsX5_begin := goodIn_r _ [8, 9, 10, 11, 12, 13, 14, 15, 16, 17, 18, 19, 20, 21, 22, 23, 120, 121, 122, 123, 124, 125, 126, 127] rfl (by decide +kernel)
set_option maxRecDepth 20000 in
theorem gX0_playCalm_X5_begin : GoodIn wsX0_playCalm (wsV RX0 83 RX5 yX5_begin wsX5_begin) := goodIn_app (goodIn_r _ [4, 5, 6, 7] rfl (by decide +kernel)) ggX0_playCalm_X5_begin
set_option maxRecDepth 20000 in
theorem ggX0_playCalm_X5_takeOver : GoodIn wsX0_playCalm wsX5_takeOver := goodIn_r _ [27, 14, 9, 10, 11, 12, 13, 28, 29, 30, 31, 15, 16, 17, 18, 19, 120, 121, 122, 123, 124, 125, 126, 127] rfl (by decide +kernel)
set_option maxRecDepth 20000 in
theorem gX0_playCalm_X5_takeOver : GoodIn wsX0_playCalm (wsV RX0 86 RX5 yX5_takeOver wsX5_takeOver) := goodIn_app (goodIn_r _ [24, 25, 26, 7] rfl (by decide +kernel)) ggX0_playCalm_X5_takeOver
set_option maxRecDepth 20000 in
theorem ggX0_playCalm_X1_move : GoodIn wsX0_playCalm wsX1_move := goodIn_r _ [36, 37, 38, 39, 40, 41, 42, 43, 29, 30, 31, 44, 45, 46, 47, 11, 12, 13, 48, 49, 50, 35, 51, 52, 53, 54, 55, 56, 57, 58, 59, 60, 61, 62, 63, 64, 65, 66, 67, 68, 69, 70, 71, 72, 73, 74, 75, 76, 77, 78, 79, 80, 81, 82, 83, 84, 85, 86, 87, 88, 89, 90, 91, 92, 93, 94, 7, 95, 17, 96, 19, 97, 98, 99, 100, 112, 113, 114, 115, 116, 117, 118, 119, 120, 121, 122, 123, 124, 125, 126, 127, 128, 129, 130, 131, 132, 133, 134, 135, 136, 137, 138, 139] rfl (by decide +kernel)
set_option maxRecDepth 20000 in
theorem gX0_playCalm_X1_move : GoodIn wsX0_playCalm (wsV RX0 90 RX1 yX1_move wsX1_move) := goodIn_app (goodIn_r _ [32, 33, 34, 35] rfl (by decide +kernel)) ggX0_playCalm_X1_move
theorem dX0_playCalm_0 : decode cX0_playCalm 0 = .ok (.aload_n 0, 1) := by decide +kernel
theorem dX0_playCalm_1 : decode cX0_playCalm 1 = .ok (.getfield 11, 3) := by decide +kernel
theorem dX0_playCalm_4 : decode cX0_playCalm 4 = .ok (.iconst 0, 1) := by decide +kernel
theorem dX0_playCalm_5 : decode cX0_playCalm 5 = .ok (.aaload, 1) := by decide +kernel
theorem dX0_playCalm_6 : decode cX0_playCalm 6 = .ok (.aload_n 1, 1) := by decide +kernel
theorem dX0_playCalm_7 : decode cX0_playCalm 7 = .ok (.getfield 56, 3) := by decide +kernel
theorem dX0_playCalm_10 : decode cX0_playCalm 10 = .ok (.invokevirtual 83, 3) := by decide +kernel
theorem dX0_playCalm_13 : decode cX0_playCalm 13 = .ok (.iconst 1, 1) := by decide +kernel
theorem dX0_playCalm_14 : decode cX0_playCalm 14 = .ok (.istore_n 2, 1) := by decide +kernel
theorem dX0_playCalm_15 : decode cX0_playCalm 15 = .ok (.iload_n 2, 1) := by decide +kernel
theorem dX0_playCalm_16 : decode cX0_playCalm 16 = .ok (.aload_n 0, 1) := by decide +kernel
theorem dX0_playCalm_17 : decode cX0_playCalm 17 = .ok (.getfield 50, 3) := by decide +kernel
theorem dX0_playCalm_20 : decode cX0_playCalm 20 = .ok (.if_icmp .gt 39, 3) := by decide +kernel
theorem dX0_playCalm_23 : decode cX0_playCalm 23 = .ok (.aload_n 0, 1) := by decide +kernel
theorem dX0_playCalm_24 : decode cX0_playCalm 24 = .ok (.getfield 11, 3) := by decide +kernel
theorem dX0_playCalm_27 : decode cX0_playCalm 27 = .ok (.iload_n 2, 1) := by decide +kernel
theorem dX0_playCalm_28 : decode cX0_playCalm 28 = .ok (.aaload, 1) := by decide +kernel
theorem dX0_playCalm_29 : decode cX0_playCalm 29 = .ok (.aload_n 0, 1) := by decide +kernel
theorem dX0_playCalm_30 : decode cX0_playCalm 30 = .ok (.getfield 11, 3) := by decide +kernel
theorem dX0_playCalm_33 : decode cX0_playCalm 33 = .ok (.iload_n 2, 1) := by decide +kernel
theorem dX0_playCalm_34 : decode cX0_playCalm 34 = .ok (.iconst 1, 1) := by decide +kernel
theorem dX0_playCalm_35 : decode cX0_playCalm 35 = .ok (.isub, 1) := by decide +kernel
theorem dX0_playCalm_36 : decode cX0_playCalm 36 = .ok (.aaload, 1) := by decide +kernel
theorem dX0_playCalm_37 : decode cX0_playCalm 37 = .ok (.invokevirtual 86, 3) := by decide +kernel
theorem dX0_playCalm_40 : decode cX0_playCalm 40 = .ok (.aload_n 1, 1) := by decide +kernel
theorem dX0_playCalm_41 : decode cX0_playCalm 41 = .ok (.aload_n 0, 1) := by decide +kernel
theorem dX0_playCalm_42 : decode cX0_playCalm 42 = .ok (.getfield 11, 3) := by decide +kernel
theorem dX0_playCalm_45 : decode cX0_playCalm 45 = .ok (.iload_n 2, 1) := by decide +kernel
theorem dX0_playCalm_46 : decode cX0_playCalm 46 = .ok (.aaload, 1) := by decide +kernel
theorem dX0_playCalm_47 : decode cX0_playCalm 47 = .ok (.iload_n 2, 1) := by decide +kernel
theorem dX0_playCalm_48 : decode cX0_playCalm 48 = .ok (.iconst 0, 1) := by decide +kernel
theorem dX0_playCalm_49 : decode cX0_playCalm 49 = .ok (.invokevirtual 90, 3) := by decide +kernel
theorem dX0_playCalm_52 : decode cX0_playCalm 52 = .ok (.pop, 1) := by decide +kernel
theorem dX0_playCalm_53 : decode cX0_playCalm 53 = .ok (.iinc 2 1, 3) := by decide +kernel
theorem dX0_playCalm_56 : decode cX0_playCalm 56 = .ok (.goto (-41), 3) := by decide +kernel
theorem dX0_playCalm_59 : decode cX0_playCalm 59 = .ok (.return_, 1) := by decide +kernel
set_option maxRecDepth 20000 in
theorem ggX0_oneDoes_X5_takeOver : GoodIn wsX0_oneDoes wsX5_takeOver := goodIn_r _ [11, 12, 13, 14, 15, 16, 17, 18, 19, 20, 21, 22, 23, 24, 25, 26, 130, 131, 132, 133, 134, 135, 136, 137] rfl (by decide +kernel)
set_option maxRecDepth 20000 in
theorem gX0_oneDoes_X5_takeOver : GoodIn wsX0_oneDoes (wsV RX0 86 RX5 yX5_takeOver wsX5_takeOver) := goodIn_app (goodIn_r _ [7, 8, 9, 10] rfl (by decide +kernel)) ggX0_oneDoes_X5_takeOver
set_option maxRecDepth 20000 in
theorem ggX0_oneDoes_X1_move : GoodIn wsX0_oneDoes wsX1_move := goodIn_r _ [31, 32, 33, 34, 35, 36, 37, 38, 19, 20, 21, 39, 40, 41, 42, 15, 16, 17, 43, 44, 45, 30, 46, 47, 48, 49, 50, 51, 52, 53, 54, 55, 56, 57, 58, 59, 60, 61, 62, 63, 64, 65, 66, 67, 68, 69, 70, 71, 72, 73, 74, 75, 76, 77, 78, 79, 80, 81, 82, 83, 84, 85, 86, 87, 88, 89, 10, 90, 24, 91, 26, 92, 93, 94, 95, 138, 139, 140, 141, 142, 143, 144, 145, 130, 131, 132, 133, 134, 135, 136, 137, 146, 147, 148, 149, 150, 151, 152, 153, 154, 155, 156, 157] rfl (by decide +kernel)
set_option maxRecDepth 20000 in
theorem gX0_oneDoes_X1_move : GoodIn wsX0_oneDoes (wsV RX0 90 RX1 yX1_move wsX1_move) := goodIn_app (goodIn_r _ [27, 28, 29, 30] rfl (by decide +kernel)) ggX0_oneDoes_X1_move
set_option maxRecDepth 20000 in
theorem ggX0_oneDoes_X0_breaks : GoodIn wsX0_oneDoes wsX0_breaks := goodIn_r _ [100, 101, 3, 102, 4, 103, 104, 105, 30, 106, 33, 34, 107, 37, 42, 15, 16, 17, 35, 41, 39, 108, 47, 54, 55, 56, 27, 28, 29, 31, 32, 36, 38, 19, 20, 21, 40, 43, 44, 45, 46, 48, 49, 50, 51, 52, 53, 57, 58, 59, 60, 61, 62, 63, 64, 65, 66, 67, 68, 69, 70, 71, 72, 73, 74, 75, 76, 77, 78, 79, 80, 81, 82, 83, 84, 85, 86, 87, 88, 89, 10, 90, 24, 91, 26, 92, 93, 94, 95, 109, 110, 111, 112, 119, 120, 121, 122, 123, 124, 125, 126, 127, 128, 129, 130, 131, 132, 133, 134, 135, 136, 137, 138, 139, 140, 141, 142, 143, 144, 145, 146, 147, 148, 149, 150, 151, 152, 153, 154, 155, 156, 157] rfl (by decide +kernel)
set_option maxRecDepth 20000 in
theorem gX0_oneDoes_X0_breaks : GoodIn wsX0_oneDoes (wsV RX0 94 RX0 yX0_breaks wsX0_breaks) := goodIn_app (goodIn_r _ [96, 97, 98, 99] rfl (by decide +kernel)) ggX0_oneDoes_X0_breaks
set_option maxRecDepth 20000 in
theorem ggX0_oneDoes_X0_tell : GoodIn wsX0_oneDoes wsX0_tell := goodIn_r _ [116, 117, 2, 118, 5, 119, 120, 121, 122, 123, 124, 125, 126, 127, 128, 129] rfl (by decide +kernel)
set_option maxRecDepth 20000 in
theorem gX0_oneDoes_X0_tell : GoodIn wsX0_oneDoes (wsV RX0 98 RX0 yX0_tell wsX0_tell) := goodIn_app (goodIn_r _ [113, 114, 115, 99] rfl (by decide +kernel)) ggX0_oneDoes_X0_tell
theorem dX0_oneDoes_0 : decode cX0_oneDoes 0 = .ok (.iconst 0, 1) := by decide +kernel
theorem dX0_oneDoes_1 : decode cX0_oneDoes 1 = .ok (.istore_n 2, 1) := by decide +kernel
theorem dX0_oneDoes_2 : decode cX0_oneDoes 2 = .ok (.iload_n 2, 1) := by decide +kernel
theorem dX0_oneDoes_3 : decode cX0_oneDoes 3 = .ok (.aload_n 0, 1) := by decide +kernel
theorem dX0_oneDoes_4 : decode cX0_oneDoes 4 = .ok (.getfield 80, 3) := by decide +kernel
theorem dX0_oneDoes_7 : decode cX0_oneDoes 7 = .ok (.if_icmp .ge 71, 3) := by decide +kernel
theorem dX0_oneDoes_10 : decode cX0_oneDoes 10 = .ok (.aload_n 0, 1) := by decide +kernel
theorem dX0_oneDoes_11 : decode cX0_oneDoes 11 = .ok (.getfield 27, 3) := by decide +kernel
theorem dX0_oneDoes_14 : decode cX0_oneDoes 14 = .ok (.iload_n 2, 1) := by decide +kernel
theorem dX0_oneDoes_15 : decode cX0_oneDoes 15 = .ok (.iaload, 1) := by decide +kernel
theorem dX0_oneDoes_16 : decode cX0_oneDoes 16 = .ok (.istore_n 3, 1) := by decide +kernel
theorem dX0_oneDoes_17 : decode cX0_oneDoes 17 = .ok (.aload_n 0, 1) := by decide +kernel
theorem dX0_oneDoes_18 : decode cX0_oneDoes 18 = .ok (.getfield 23, 3) := by decide +kernel
theorem dX0_oneDoes_21 : decode cX0_oneDoes 21 = .ok (.aload_n 0, 1) := by decide +kernel
theorem dX0_oneDoes_22 : decode cX0_oneDoes 22 = .ok (.getfield 11, 3) := by decide +kernel
theorem dX0_oneDoes_25 : decode cX0_oneDoes 25 = .ok (.iload_n 3, 1) := by decide +kernel
theorem dX0_oneDoes_26 : decode cX0_oneDoes 26 = .ok (.iconst 1, 1) := by decide +kernel
theorem dX0_oneDoes_27 : decode cX0_oneDoes 27 = .ok (.isub, 1) := by decide +kernel
theorem dX0_oneDoes_28 : decode cX0_oneDoes 28 = .ok (.aaload, 1) := by decide +kernel
theorem dX0_oneDoes_29 : decode cX0_oneDoes 29 = .ok (.invokevirtual 86, 3) := by decide +kernel
theorem dX0_oneDoes_32 : decode cX0_oneDoes 32 = .ok (.aload_n 1, 1) := by decide +kernel
theorem dX0_oneDoes_33 : decode cX0_oneDoes 33 = .ok (.aload_n 0, 1) := by decide +kernel
theorem dX0_oneDoes_34 : decode cX0_oneDoes 34 = .ok (.getfield 23, 3) := by decide +kernel
theorem dX0_oneDoes_37 : decode cX0_oneDoes 37 = .ok (.iload_n 3, 1) := by decide +kernel
theorem dX0_oneDoes_38 : decode cX0_oneDoes 38 = .ok (.iconst 1, 1) := by decide +kernel
theorem dX0_oneDoes_39 : decode cX0_oneDoes 39 = .ok (.aload_n 0, 1) := by decide +kernel
theorem dX0_oneDoes_40 : decode cX0_oneDoes 40 = .ok (.getfield 31, 3) := by decide +kernel
theorem dX0_oneDoes_43 : decode cX0_oneDoes 43 = .ok (.iload_n 2, 1) := by decide +kernel
theorem dX0_oneDoes_44 : decode cX0_oneDoes 44 = .ok (.iaload, 1) := by decide +kernel
theorem dX0_oneDoes_45 : decode cX0_oneDoes 45 = .ok (.ishl, 1) := by decide +kernel
theorem dX0_oneDoes_46 : decode cX0_oneDoes 46 = .ok (.invokevirtual 90, 3) := by decide +kernel
theorem dX0_oneDoes_49 : decode cX0_oneDoes 49 = .ok (.pop, 1) := by decide +kernel
theorem dX0_oneDoes_50 : decode cX0_oneDoes 50 = .ok (.aload_n 0, 1) := by decide +kernel
theorem dX0_oneDoes_51 : decode cX0_oneDoes 51 = .ok (.aload_n 1, 1) := by decide +kernel
theorem dX0_oneDoes_52 : decode cX0_oneDoes 52 = .ok (.iload_n 3, 1) := by decide +kernel
theorem dX0_oneDoes_53 : decode cX0_oneDoes 53 = .ok (.invokevirtual 94, 3) := by decide +kernel
theorem dX0_oneDoes_56 : decode cX0_oneDoes 56 = .ok (.ifCond .eq 16, 3) := by decide +kernel
theorem dX0_oneDoes_59 : decode cX0_oneDoes 59 = .ok (.aload_n 0, 1) := by decide +kernel
theorem dX0_oneDoes_60 : decode cX0_oneDoes 60 = .ok (.iconst 0, 1) := by decide +kernel
theorem dX0_oneDoes_61 : decode cX0_oneDoes 61 = .ok (.iload_n 2, 1) := by decide +kernel
theorem dX0_oneDoes_62 : decode cX0_oneDoes 62 = .ok (.invokevirtual 98, 3) := by decide +kernel
theorem dX0_oneDoes_65 : decode cX0_oneDoes 65 = .ok (.aload_n 0, 1) := by decide +kernel
theorem dX0_oneDoes_66 : decode cX0_oneDoes 66 = .ok (.iconst 1, 1) := by decide +kernel
theorem dX0_oneDoes_67 : decode cX0_oneDoes 67 = .ok (.putfield 40, 3) := by decide +kernel
theorem dX0_oneDoes_70 : decode cX0_oneDoes 70 = .ok (.iconst 1, 1) := by decide +kernel
theorem dX0_oneDoes_71 : decode cX0_oneDoes 71 = .ok (.ireturn, 1) := by decide +kernel
theorem dX0_oneDoes_72 : decode cX0_oneDoes 72 = .ok (.iinc 2 1, 3) := by decide +kernel
theorem dX0_oneDoes_75 : decode cX0_oneDoes 75 = .ok (.goto (-73), 3) := by decide +kernel
theorem dX0_oneDoes_78 : decode cX0_oneDoes 78 = .ok (.iconst 0, 1) := by decide +kernel
theorem dX0_oneDoes_79 : decode cX0_oneDoes 79 = .ok (.ireturn, 1) := by decide +kernel
set_option maxRecDepth 20000 in
theorem ggX0_twoDo_X0_playOnce : GoodIn wsX0_twoDo wsX0_playOnce := goodIn_r _ [8, 2, 9, 10, 11, 12, 13, 14, 15, 16, 17, 18, 19, 20, 21, 22, 23, 24, 25, 26, 27, 28, 29, 30, 31, 32, 33, 34, 35, 36, 37, 38, 39, 40, 41, 42, 43, 44, 45, 46, 47, 48, 49, 50, 51, 52, 53, 54, 55, 56, 57, 58, 59, 60, 61, 62, 63, 64, 65, 66, 67, 68, 69, 70, 71, 72, 73, 74, 75, 76, 77, 78, 79, 80, 81, 82, 83, 84, 85, 86, 87, 88, 89, 90, 91, 92, 93, 94, 95, 96, 97, 98, 99, 100, 101, 129, 130, 131, 132, 133, 134, 135, 136, 137, 138, 139, 140, 141, 142, 143, 144, 145, 146, 147, 148, 149, 150, 151, 152, 153, 154, 155, 156, 157, 158, 159, 160, 161, 162, 163, 164, 165, 166, 167] rfl (by decide +kernel)
set_option maxRecDepth 20000 in
theorem gX0_twoDo_X0_playOnce : GoodIn wsX0_twoDo (wsV RX0 101 RX0 yX0_playOnce wsX0_playOnce) := goodIn_app (goodIn_r _ [4, 5, 6, 7] rfl (by decide +kernel)) ggX0_twoDo_X0_playOnce
set_option maxRecDepth 20000 in
theorem ggX0_twoDo_X0_bothMatter : GoodIn wsX0_twoDo wsX0_bothMatter := goodIn_r _ [105, 2, 12, 106, 11, 10, 13, 14, 15, 16, 17, 18, 19, 20, 21, 22, 23, 24, 25, 26, 27, 28, 29, 30, 31, 32, 107, 108, 109, 36, 110, 39, 40, 111, 43, 48, 41, 47, 45, 112, 53, 60, 61, 62, 33, 34, 35, 37, 38, 42, 44, 46, 49, 50, 51, 52, 54, 55, 56, 57, 58, 59, 63, 64, 65, 66, 67, 68, 69, 70, 71, 72, 73, 74, 75, 76, 77, 78, 79, 80, 81, 82, 83, 84, 85, 86, 87, 88, 89, 90, 91, 92, 93, 94, 95, 96, 97, 98, 99, 100, 101, 129, 130, 131, 132, 133, 134, 135, 136, 137, 138, 139, 140, 141, 142, 143, 144, 145, 146, 147, 148, 149, 150, 151, 152, 153, 154, 155, 156, 157, 158, 159, 160, 161, 162, 163, 164, 165, 166, 167] rfl (by decide +kernel)
set_option maxRecDepth 20000 in
theorem gX0_twoDo_X0_bothMatter : GoodIn wsX0_twoDo (wsV RX0 105 RX0 yX0_bothMatter wsX0_bothMatter) := goodIn_app (goodIn_r _ [102, 103, 104, 7] rfl (by decide +kernel)) ggX0_twoDo_X0_bothMatter
set_option maxRecDepth 20000 in
theorem ggX0_twoDo_X0_breaks : GoodIn wsX0_twoDo wsX0_breaks := goodIn_r _ [116, 117, 106, 118, 11, 107, 108, 109, 36, 110, 39, 40, 111, 43, 48, 21, 22, 23, 41, 47, 45, 112, 53, 60, 61, 62, 33, 34, 35, 37, 38, 42, 44, 25, 26, 27, 46, 49, 50, 51, 52, 54, 55, 56, 57, 58, 59, 63, 64, 65, 66, 67, 68, 69, 70, 71, 72, 73, 74, 75, 76, 77, 78, 79, 80, 81, 82, 83, 84, 85, 86, 87, 88, 89, 90, 91, 92, 93, 94, 95, 16, 96, 30, 97, 32, 98, 99, 100, 101, 119, 120, 121, 122, 129, 130, 131, 132, 133, 134, 135, 136, 137, 138, 139, 140, 141, 142, 143, 144, 145, 146, 147, 148, 149, 150, 151, 152, 153, 154, 155, 156, 157, 158, 159, 160, 161, 162, 163, 164, 165, 166, 167] rfl (by decide +kernel)
set_option maxRecDepth 20000 in
theorem gX0_twoDo_X0_breaks : GoodIn wsX0_twoDo (wsV RX0 94 RX0 yX0_breaks wsX0_breaks) := goodIn_app (goodIn_r _ [113, 114, 115, 7] rfl (by decide +kernel)) ggX0_twoDo_X0_breaks
set_option maxRecDepth 20000 in
theorem ggX0_twoDo_X0_tell : GoodIn wsX0_twoDo wsX0_tell := goodIn_r _ [126, 127, 2, 128, 12, 129, 130, 131, 132, 133, 134, 135, 136, 137, 138, 139] rfl (by decide +kernel)
set_option maxRecDepth 20000 in
theorem gX0_twoDo_X0_tell : GoodIn wsX0_twoDo (wsV RX0 98 RX0 yX0_tell wsX0_tell) := goodIn_app (goodIn_r _ [123, 124, 125, 7] rfl (by decide +kernel)) ggX0_twoDo_X0_tell
theorem dX0_twoDo_0 : decode cX0_twoDo 0 = .ok (.iconst 0, 1) := by decide +kernel
theorem dX0_twoDo_1 : decode cX0_twoDo 1 = .ok (.istore_n 2, 1) := by decide +kernel
theorem dX0_twoDo_2 : decode cX0_twoDo 2 = .ok (.iload_n 2, 1) := by decide +kernel
theorem dX0_twoDo_3 : decode cX0_twoDo 3 = .ok (.aload_n 0, 1) := by decide +kernel
theorem dX0_twoDo_4 : decode cX0_twoDo 4 = .ok (.getfield 80, 3) := by decide +kernel
theorem dX0_twoDo_7 : decode cX0_twoDo 7 = .ok (.if_icmp .ge 76, 3) := by decide +kernel
theorem dX0_twoDo_10 : decode cX0_twoDo 10 = .ok (.aload_n 0, 1) := by decide +kernel
theorem dX0_twoDo_11 : decode cX0_twoDo 11 = .ok (.aload_n 1, 1) := by decide +kernel
theorem dX0_twoDo_12 : decode cX0_twoDo 12 = .ok (.iload_n 2, 1) := by decide +kernel
theorem dX0_twoDo_13 : decode cX0_twoDo 13 = .ok (.invokevirtual 101, 3) := by decide +kernel
theorem dX0_twoDo_16 : decode cX0_twoDo 16 = .ok (.iload_n 2, 1) := by decide +kernel
theorem dX0_twoDo_17 : decode cX0_twoDo 17 = .ok (.iconst 1, 1) := by decide +kernel
theorem dX0_twoDo_18 : decode cX0_twoDo 18 = .ok (.iadd, 1) := by decide +kernel
theorem dX0_twoDo_19 : decode cX0_twoDo 19 = .ok (.istore_n 3, 1) := by decide +kernel
theorem dX0_twoDo_20 : decode cX0_twoDo 20 = .ok (.iload_n 3, 1) := by decide +kernel
theorem dX0_twoDo_21 : decode cX0_twoDo 21 = .ok (.aload_n 0, 1) := by decide +kernel
theorem dX0_twoDo_22 : decode cX0_twoDo 22 = .ok (.getfield 80, 3) := by decide +kernel
theorem dX0_twoDo_25 : decode cX0_twoDo 25 = .ok (.if_icmp .ge 52, 3) := by decide +kernel
theorem dX0_twoDo_28 : decode cX0_twoDo 28 = .ok (.aload_n 0, 1) := by decide +kernel
theorem dX0_twoDo_29 : decode cX0_twoDo 29 = .ok (.aload_n 1, 1) := by decide +kernel
theorem dX0_twoDo_30 : decode cX0_twoDo 30 = .ok (.iload_n 2, 1) := by decide +kernel
theorem dX0_twoDo_31 : decode cX0_twoDo 31 = .ok (.iload_n 3, 1) := by decide +kernel
theorem dX0_twoDo_32 : decode cX0_twoDo 32 = .ok (.invokevirtual 105, 3) := by decide +kernel
theorem dX0_twoDo_35 : decode cX0_twoDo 35 = .ok (.ifCond .eq 36, 3) := by decide +kernel
theorem dX0_twoDo_38 : decode cX0_twoDo 38 = .ok (.aload_n 0, 1) := by decide +kernel
theorem dX0_twoDo_39 : decode cX0_twoDo 39 = .ok (.aload_n 1, 1) := by decide +kernel
theorem dX0_twoDo_40 : decode cX0_twoDo 40 = .ok (.aload_n 0, 1) := by decide +kernel
theorem dX0_twoDo_41 : decode cX0_twoDo 41 = .ok (.getfield 27, 3) := by decide +kernel
theorem dX0_twoDo_44 : decode cX0_twoDo 44 = .ok (.iload_n 3, 1) := by decide +kernel
theorem dX0_twoDo_45 : decode cX0_twoDo 45 = .ok (.iaload, 1) := by decide +kernel
theorem dX0_twoDo_46 : decode cX0_twoDo 46 = .ok (.invokevirtual 94, 3) := by decide +kernel
theorem dX0_twoDo_49 : decode cX0_twoDo 49 = .ok (.ifCond .eq 22, 3) := by decide +kernel
theorem dX0_twoDo_52 : decode cX0_twoDo 52 = .ok (.aload_n 0, 1) := by decide +kernel
theorem dX0_twoDo_53 : decode cX0_twoDo 53 = .ok (.iconst 0, 1) := by decide +kernel
theorem dX0_twoDo_54 : decode cX0_twoDo 54 = .ok (.iload_n 2, 1) := by decide +kernel
theorem dX0_twoDo_55 : decode cX0_twoDo 55 = .ok (.invokevirtual 98, 3) := by decide +kernel
theorem dX0_twoDo_58 : decode cX0_twoDo 58 = .ok (.aload_n 0, 1) := by decide +kernel
theorem dX0_twoDo_59 : decode cX0_twoDo 59 = .ok (.iconst 1, 1) := by decide +kernel
theorem dX0_twoDo_60 : decode cX0_twoDo 60 = .ok (.iload_n 3, 1) := by decide +kernel
theorem dX0_twoDo_61 : decode cX0_twoDo 61 = .ok (.invokevirtual 98, 3) := by decide +kernel
theorem dX0_twoDo_64 : decode cX0_twoDo 64 = .ok (.aload_n 0, 1) := by decide +kernel
theorem dX0_twoDo_65 : decode cX0_twoDo 65 = .ok (.iconst 2, 1) := by decide +kernel
theorem dX0_twoDo_66 : decode cX0_twoDo 66 = .ok (.putfield 40, 3) := by decide +kernel
theorem dX0_twoDo_69 : decode cX0_twoDo 69 = .ok (.iconst 1, 1) := by decide +kernel
theorem dX0_twoDo_70 : decode cX0_twoDo 70 = .ok (.ireturn, 1) := by decide +kernel
theorem dX0_twoDo_71 : decode cX0_twoDo 71 = .ok (.iinc 3 1, 3) := by decide +kernel
theorem dX0_twoDo_74 : decode cX0_twoDo 74 = .ok (.goto (-54), 3) := by decide +kernel
theorem dX0_twoDo_77 : decode cX0_twoDo 77 = .ok (.iinc 2 1, 3) := by decide +kernel
theorem dX0_twoDo_80 : decode cX0_twoDo 80 = .ok (.goto (-78), 3) := by decide +kernel
theorem dX0_twoDo_83 : decode cX0_twoDo 83 = .ok (.iconst 0, 1) := by decide +kernel
theorem dX0_twoDo_84 : decode cX0_twoDo 84 = .ok (.ireturn, 1) := by decide +kernel
set_option maxRecDepth 20000 in
theorem ggX0_playOnce_X5_takeOver : GoodIn wsX0_playOnce wsX5_takeOver := goodIn_r _ [10, 11, 12, 13, 14, 15, 16, 17, 18, 19, 20, 21, 22, 23, 24, 25, 106, 107, 108, 109, 110, 111, 112, 113] rfl (by decide +kernel)
set_option maxRecDepth 20000 in
theorem gX0_playOnce_X5_takeOver : GoodIn wsX0_playOnce (wsV RX0 86 RX5 yX5_takeOver wsX5_takeOver) := goodIn_app (goodIn_r _ [6, 7, 8, 9] rfl (by decide +kernel)) ggX0_playOnce_X5_takeOver
set_option maxRecDepth 20000 in
theorem ggX0_playOnce_X1_move : GoodIn wsX0_playOnce wsX1_move := goodIn_r _ [30, 31, 32, 33, 34, 35, 36, 37, 18, 19, 20, 38, 39, 40, 41, 14, 15, 16, 42, 43, 44, 29, 45, 46, 47, 48, 49, 50, 51, 52, 53, 54, 55, 56, 57, 58, 59, 60, 61, 62, 63, 64, 65, 66, 67, 68, 69, 70, 71, 72, 73, 74, 75, 76, 77, 78, 79, 80, 81, 82, 83, 84, 85, 86, 87, 88, 9, 89, 23, 90, 25, 91, 92, 93, 94, 114, 115, 116, 117, 118, 119, 120, 121, 106, 107, 108, 109, 110, 111, 112, 113, 122, 123, 124, 125, 126, 127, 128, 129, 130, 131, 132, 133] rfl (by decide +kernel)
set_option maxRecDepth 20000 in
theorem gX0_playOnce_X1_move : GoodIn wsX0_playOnce (wsV RX0 90 RX1 yX1_move wsX1_move) := goodIn_app (goodIn_r _ [26, 27, 28, 29] rfl (by decide +kernel)) ggX0_playOnce_X1_move
theorem dX0_playOnce_0 : decode cX0_playOnce 0 = .ok (.aload_n 0, 1) := by decide +kernel
theorem dX0_playOnce_1 : decode cX0_playOnce 1 = .ok (.getfield 27, 3) := by decide +kernel
theorem dX0_playOnce_4 : decode cX0_playOnce 4 = .ok (.iload_n 2, 1) := by decide +kernel
theorem dX0_playOnce_5 : decode cX0_playOnce 5 = .ok (.iaload, 1) := by decide +kernel
theorem dX0_playOnce_6 : decode cX0_playOnce 6 = .ok (.istore_n 3, 1) := by decide +kernel
theorem dX0_playOnce_7 : decode cX0_playOnce 7 = .ok (.iload_n 3, 1) := by decide +kernel
theorem dX0_playOnce_8 : decode cX0_playOnce 8 = .ok (.istore 4, 2) := by decide +kernel
theorem dX0_playOnce_10 : decode cX0_playOnce 10 = .ok (.iload 4, 2) := by decide +kernel
theorem dX0_playOnce_12 : decode cX0_playOnce 12 = .ok (.aload_n 0, 1) := by decide +kernel
theorem dX0_playOnce_13 : decode cX0_playOnce 13 = .ok (.getfield 53, 3) := by decide +kernel
theorem dX0_playOnce_16 : decode cX0_playOnce 16 = .ok (.if_icmp .gt 78, 3) := by decide +kernel
theorem dX0_playOnce_19 : decode cX0_playOnce 19 = .ok (.aload_n 0, 1) := by decide +kernel
theorem dX0_playOnce_20 : decode cX0_playOnce 20 = .ok (.getfield 17, 3) := by decide +kernel
theorem dX0_playOnce_23 : decode cX0_playOnce 23 = .ok (.iload 4, 2) := by decide +kernel
theorem dX0_playOnce_25 : decode cX0_playOnce 25 = .ok (.aaload, 1) := by decide +kernel
theorem dX0_playOnce_26 : decode cX0_playOnce 26 = .ok (.iload 4, 2) := by decide +kernel
theorem dX0_playOnce_28 : decode cX0_playOnce 28 = .ok (.iload_n 3, 1) := by decide +kernel
theorem dX0_playOnce_29 : decode cX0_playOnce 29 = .ok (.if_icmp .ne 15, 3) := by decide +kernel
theorem dX0_playOnce_32 : decode cX0_playOnce 32 = .ok (.aload_n 0, 1) := by decide +kernel
theorem dX0_playOnce_33 : decode cX0_playOnce 33 = .ok (.getfield 11, 3) := by decide +kernel
theorem dX0_playOnce_36 : decode cX0_playOnce 36 = .ok (.iload 4, 2) := by decide +kernel
theorem dX0_playOnce_38 : decode cX0_playOnce 38 = .ok (.iconst 1, 1) := by decide +kernel
theorem dX0_playOnce_39 : decode cX0_playOnce 39 = .ok (.isub, 1) := by decide +kernel
theorem dX0_playOnce_40 : decode cX0_playOnce 40 = .ok (.aaload, 1) := by decide +kernel
theorem dX0_playOnce_41 : decode cX0_playOnce 41 = .ok (.goto 12, 3) := by decide +kernel
theorem dX0_playOnce_44 : decode cX0_playOnce 44 = .ok (.aload_n 0, 1) := by decide +kernel
theorem dX0_playOnce_45 : decode cX0_playOnce 45 = .ok (.getfield 17, 3) := by decide +kernel
theorem dX0_playOnce_48 : decode cX0_playOnce 48 = .ok (.iload 4, 2) := by decide +kernel
theorem dX0_playOnce_50 : decode cX0_playOnce 50 = .ok (.iconst 1, 1) := by decide +kernel
theorem dX0_playOnce_51 : decode cX0_playOnce 51 = .ok (.isub, 1) := by decide +kernel
theorem dX0_playOnce_52 : decode cX0_playOnce 52 = .ok (.aaload, 1) := by decide +kernel
theorem dX0_playOnce_53 : decode cX0_playOnce 53 = .ok (.invokevirtual 86, 3) := by decide +kernel
theorem dX0_playOnce_56 : decode cX0_playOnce 56 = .ok (.aload_n 1, 1) := by decide +kernel
theorem dX0_playOnce_57 : decode cX0_playOnce 57 = .ok (.aload_n 0, 1) := by decide +kernel
theorem dX0_playOnce_58 : decode cX0_playOnce 58 = .ok (.getfield 17, 3) := by decide +kernel
theorem dX0_playOnce_61 : decode cX0_playOnce 61 = .ok (.iload 4, 2) := by decide +kernel
theorem dX0_playOnce_63 : decode cX0_playOnce 63 = .ok (.aaload, 1) := by decide +kernel
theorem dX0_playOnce_64 : decode cX0_playOnce 64 = .ok (.iload 4, 2) := by decide +kernel
theorem dX0_playOnce_66 : decode cX0_playOnce 66 = .ok (.iload 4, 2) := by decide +kernel
theorem dX0_playOnce_68 : decode cX0_playOnce 68 = .ok (.iload_n 3, 1) := by decide +kernel
theorem dX0_playOnce_69 : decode cX0_playOnce 69 = .ok (.if_icmp .ne 14, 3) := by decide +kernel
theorem dX0_playOnce_72 : decode cX0_playOnce 72 = .ok (.iconst 1, 1) := by decide +kernel
theorem dX0_playOnce_73 : decode cX0_playOnce 73 = .ok (.aload_n 0, 1) := by decide +kernel
theorem dX0_playOnce_74 : decode cX0_playOnce 74 = .ok (.getfield 31, 3) := by decide +kernel
theorem dX0_playOnce_77 : decode cX0_playOnce 77 = .ok (.iload_n 2, 1) := by decide +kernel
theorem dX0_playOnce_78 : decode cX0_playOnce 78 = .ok (.iaload, 1) := by decide +kernel
theorem dX0_playOnce_79 : decode cX0_playOnce 79 = .ok (.ishl, 1) := by decide +kernel
theorem dX0_playOnce_80 : decode cX0_playOnce 80 = .ok (.goto 4, 3) := by decide +kernel
theorem dX0_playOnce_83 : decode cX0_playOnce 83 = .ok (.iconst 0, 1) := by decide +kernel
theorem dX0_playOnce_84 : decode cX0_playOnce 84 = .ok (.invokevirtual 90, 3) := by decide +kernel
theorem dX0_playOnce_87 : decode cX0_playOnce 87 = .ok (.pop, 1) := by decide +kernel
theorem dX0_playOnce_88 : decode cX0_playOnce 88 = .ok (.iinc 4 1, 3) := by decide +kernel
theorem dX0_playOnce_91 : decode cX0_playOnce 91 = .ok (.goto (-81), 3) := by decide +kernel
theorem dX0_playOnce_94 : decode cX0_playOnce 94 = .ok (.return_, 1) := by decide +kernel
set_option maxRecDepth 20000 in
theorem ggX0_bothMatter_X5_takeOver : GoodIn wsX0_bothMatter wsX5_takeOver := goodIn_r _ [10, 11, 12, 13, 14, 15, 16, 17, 18, 19, 20, 21, 22, 23, 24, 25, 112, 113, 114, 115, 116, 117, 118, 119] rfl (by decide +kernel)
set_option maxRecDepth 20000 in
theorem gX0_bothMatter_X5_takeOver : GoodIn wsX0_bothMatter (wsV RX0 86 RX5 yX5_takeOver wsX5_takeOver) := goodIn_app (goodIn_r _ [6, 7, 8, 9] rfl (by decide +kernel)) ggX0_bothMatter_X5_takeOver
set_option maxRecDepth 20000 in
theorem ggX0_bothMatter_X1_alike : GoodIn wsX0_bothMatter wsX1_alike := goodIn_r _ [30, 31, 32, 33, 34, 35, 14, 15, 16, 36, 37, 38, 39, 40, 41, 42, 29, 43, 112, 113, 114, 115, 116, 117, 118, 119, 120, 121, 122, 123, 124, 125, 126, 127, 128, 129, 130, 131, 132, 133, 134, 135, 136, 137, 138, 139] rfl (by decide +kernel)
set_option maxRecDepth 20000 in
theorem gX0_bothMatter_X1_alike : GoodIn wsX0_bothMatter (wsV RX0 109 RX1 yX1_alike wsX1_alike) := goodIn_app (goodIn_r _ [26, 27, 28, 29] rfl (by decide +kernel)) ggX0_bothMatter_X1_alike
set_option maxRecDepth 20000 in
theorem ggX0_bothMatter_X1_move : GoodIn wsX0_bothMatter wsX1_move := goodIn_r _ [47, 48, 31, 32, 36, 49, 34, 50, 18, 19, 20, 38, 51, 37, 35, 14, 15, 16, 52, 53, 54, 29, 55, 40, 56, 57, 58, 59, 60, 61, 41, 42, 43, 62, 63, 64, 65, 66, 67, 68, 69, 70, 71, 72, 73, 74, 75, 76, 77, 78, 79, 80, 81, 82, 83, 84, 85, 86, 87, 88, 89, 90, 91, 92, 93, 94, 9, 95, 23, 96, 25, 97, 98, 99, 100, 120, 121, 122, 123, 124, 125, 126, 127, 112, 113, 114, 115, 116, 117, 118, 119, 128, 129, 130, 131, 132, 133, 134, 135, 136, 137, 138, 139] rfl (by decide +kernel)
set_option maxRecDepth 20000 in
theorem gX0_bothMatter_X1_move : GoodIn wsX0_bothMatter (wsV RX0 90 RX1 yX1_move wsX1_move) := goodIn_app (goodIn_r _ [44, 45, 46, 29] rfl (by decide +kernel)) ggX0_bothMatter_X1_move
theorem dX0_bothMatter_0 : decode cX0_bothMatter 0 = .ok (.aload_n 0, 1) := by decide +kernel
theorem dX0_bothMatter_1 : decode cX0_bothMatter 1 = .ok (.getfield 27, 3) := by decide +kernel
theorem dX0_bothMatter_4 : decode cX0_bothMatter 4 = .ok (.iload_n 3, 1) := by decide +kernel
theorem dX0_bothMatter_5 : decode cX0_bothMatter 5 = .ok (.iaload, 1) := by decide +kernel
theorem dX0_bothMatter_6 : decode cX0_bothMatter 6 = .ok (.istore 4, 2) := by decide +kernel
theorem dX0_bothMatter_8 : decode cX0_bothMatter 8 = .ok (.iconst 1, 1) := by decide +kernel
theorem dX0_bothMatter_9 : decode cX0_bothMatter 9 = .ok (.aload_n 0, 1) := by decide +kernel
theorem dX0_bothMatter_10 : decode cX0_bothMatter 10 = .ok (.getfield 31, 3) := by decide +kernel
theorem dX0_bothMatter_13 : decode cX0_bothMatter 13 = .ok (.iload_n 3, 1) := by decide +kernel
theorem dX0_bothMatter_14 : decode cX0_bothMatter 14 = .ok (.iaload, 1) := by decide +kernel
theorem dX0_bothMatter_15 : decode cX0_bothMatter 15 = .ok (.ishl, 1) := by decide +kernel
theorem dX0_bothMatter_16 : decode cX0_bothMatter 16 = .ok (.istore 5, 2) := by decide +kernel
theorem dX0_bothMatter_18 : decode cX0_bothMatter 18 = .ok (.iload 4, 2) := by decide +kernel
theorem dX0_bothMatter_20 : decode cX0_bothMatter 20 = .ok (.aload_n 0, 1) := by decide +kernel
theorem dX0_bothMatter_21 : decode cX0_bothMatter 21 = .ok (.getfield 27, 3) := by decide +kernel
theorem dX0_bothMatter_24 : decode cX0_bothMatter 24 = .ok (.iload_n 2, 1) := by decide +kernel
theorem dX0_bothMatter_25 : decode cX0_bothMatter 25 = .ok (.iaload, 1) := by decide +kernel
theorem dX0_bothMatter_26 : decode cX0_bothMatter 26 = .ok (.if_icmp .ne 35, 3) := by decide +kernel
theorem dX0_bothMatter_29 : decode cX0_bothMatter 29 = .ok (.aload_n 0, 1) := by decide +kernel
theorem dX0_bothMatter_30 : decode cX0_bothMatter 30 = .ok (.getfield 23, 3) := by decide +kernel
theorem dX0_bothMatter_33 : decode cX0_bothMatter 33 = .ok (.aload_n 0, 1) := by decide +kernel
theorem dX0_bothMatter_34 : decode cX0_bothMatter 34 = .ok (.getfield 11, 3) := by decide +kernel
theorem dX0_bothMatter_37 : decode cX0_bothMatter 37 = .ok (.iload 4, 2) := by decide +kernel
theorem dX0_bothMatter_39 : decode cX0_bothMatter 39 = .ok (.iconst 1, 1) := by decide +kernel
theorem dX0_bothMatter_40 : decode cX0_bothMatter 40 = .ok (.isub, 1) := by decide +kernel
theorem dX0_bothMatter_41 : decode cX0_bothMatter 41 = .ok (.aaload, 1) := by decide +kernel
theorem dX0_bothMatter_42 : decode cX0_bothMatter 42 = .ok (.invokevirtual 86, 3) := by decide +kernel
theorem dX0_bothMatter_45 : decode cX0_bothMatter 45 = .ok (.iload 5, 2) := by decide +kernel
theorem dX0_bothMatter_47 : decode cX0_bothMatter 47 = .ok (.iconst 1, 1) := by decide +kernel
theorem dX0_bothMatter_48 : decode cX0_bothMatter 48 = .ok (.aload_n 0, 1) := by decide +kernel
theorem dX0_bothMatter_49 : decode cX0_bothMatter 49 = .ok (.getfield 31, 3) := by decide +kernel
theorem dX0_bothMatter_52 : decode cX0_bothMatter 52 = .ok (.iload_n 2, 1) := by decide +kernel
theorem dX0_bothMatter_53 : decode cX0_bothMatter 53 = .ok (.iaload, 1) := by decide +kernel
theorem dX0_bothMatter_54 : decode cX0_bothMatter 54 = .ok (.ishl, 1) := by decide +kernel
theorem dX0_bothMatter_55 : decode cX0_bothMatter 55 = .ok (.ior, 1) := by decide +kernel
theorem dX0_bothMatter_56 : decode cX0_bothMatter 56 = .ok (.istore 5, 2) := by decide +kernel
theorem dX0_bothMatter_58 : decode cX0_bothMatter 58 = .ok (.goto 46, 3) := by decide +kernel
theorem dX0_bothMatter_61 : decode cX0_bothMatter 61 = .ok (.aload_n 1, 1) := by decide +kernel
theorem dX0_bothMatter_62 : decode cX0_bothMatter 62 = .ok (.aload_n 0, 1) := by decide +kernel
theorem dX0_bothMatter_63 : decode cX0_bothMatter 63 = .ok (.getfield 17, 3) := by decide +kernel
theorem dX0_bothMatter_66 : decode cX0_bothMatter 66 = .ok (.iload 4, 2) := by decide +kernel
theorem dX0_bothMatter_68 : decode cX0_bothMatter 68 = .ok (.iconst 1, 1) := by decide +kernel
theorem dX0_bothMatter_69 : decode cX0_bothMatter 69 = .ok (.isub, 1) := by decide +kernel
theorem dX0_bothMatter_70 : decode cX0_bothMatter 70 = .ok (.aaload, 1) := by decide +kernel
theorem dX0_bothMatter_71 : decode cX0_bothMatter 71 = .ok (.aload_n 0, 1) := by decide +kernel
theorem dX0_bothMatter_72 : decode cX0_bothMatter 72 = .ok (.getfield 11, 3) := by decide +kernel
theorem dX0_bothMatter_75 : decode cX0_bothMatter 75 = .ok (.iload 4, 2) := by decide +kernel
theorem dX0_bothMatter_77 : decode cX0_bothMatter 77 = .ok (.iconst 1, 1) := by decide +kernel
theorem dX0_bothMatter_78 : decode cX0_bothMatter 78 = .ok (.isub, 1) := by decide +kernel
theorem dX0_bothMatter_79 : decode cX0_bothMatter 79 = .ok (.aaload, 1) := by decide +kernel
theorem dX0_bothMatter_80 : decode cX0_bothMatter 80 = .ok (.invokevirtual 109, 3) := by decide +kernel
theorem dX0_bothMatter_83 : decode cX0_bothMatter 83 = .ok (.ifCond .eq 5, 3) := by decide +kernel
theorem dX0_bothMatter_86 : decode cX0_bothMatter 86 = .ok (.iconst 0, 1) := by decide +kernel
theorem dX0_bothMatter_87 : decode cX0_bothMatter 87 = .ok (.ireturn, 1) := by decide +kernel
theorem dX0_bothMatter_88 : decode cX0_bothMatter 88 = .ok (.aload_n 0, 1) := by decide +kernel
theorem dX0_bothMatter_89 : decode cX0_bothMatter 89 = .ok (.getfield 23, 3) := by decide +kernel
theorem dX0_bothMatter_92 : decode cX0_bothMatter 92 = .ok (.aload_n 0, 1) := by decide +kernel
theorem dX0_bothMatter_93 : decode cX0_bothMatter 93 = .ok (.getfield 17, 3) := by decide +kernel
theorem dX0_bothMatter_96 : decode cX0_bothMatter 96 = .ok (.iload 4, 2) := by decide +kernel
theorem dX0_bothMatter_98 : decode cX0_bothMatter 98 = .ok (.iconst 1, 1) := by decide +kernel
theorem dX0_bothMatter_99 : decode cX0_bothMatter 99 = .ok (.isub, 1) := by decide +kernel
theorem dX0_bothMatter_100 : decode cX0_bothMatter 100 = .ok (.aaload, 1) := by decide +kernel
theorem dX0_bothMatter_101 : decode cX0_bothMatter 101 = .ok (.invokevirtual 86, 3) := by decide +kernel
theorem dX0_bothMatter_104 : decode cX0_bothMatter 104 = .ok (.aload_n 1, 1) := by decide +kernel
theorem dX0_bothMatter_105 : decode cX0_bothMatter 105 = .ok (.aload_n 0, 1) := by decide +kernel
theorem dX0_bothMatter_106 : decode cX0_bothMatter 106 = .ok (.getfield 23, 3) := by decide +kernel
theorem dX0_bothMatter_109 : decode cX0_bothMatter 109 = .ok (.iload 4, 2) := by decide +kernel
theorem dX0_bothMatter_111 : decode cX0_bothMatter 111 = .ok (.iload 5, 2) := by decide +kernel
theorem dX0_bothMatter_113 : decode cX0_bothMatter 113 = .ok (.invokevirtual 90, 3) := by decide +kernel
theorem dX0_bothMatter_116 : decode cX0_bothMatter 116 = .ok (.pop, 1) := by decide +kernel
theorem dX0_bothMatter_117 : decode cX0_bothMatter 117 = .ok (.aload_n 1, 1) := by decide +kernel
theorem dX0_bothMatter_118 : decode cX0_bothMatter 118 = .ok (.aload_n 0, 1) := by decide +kernel
theorem dX0_bothMatter_119 : decode cX0_bothMatter 119 = .ok (.getfield 23, 3) := by decide +kernel
theorem dX0_bothMatter_122 : decode cX0_bothMatter 122 = .ok (.aload_n 0, 1) := by decide +kernel
theorem dX0_bothMatter_123 : decode cX0_bothMatter 123 = .ok (.getfield 17, 3) := by decide +kernel
theorem dX0_bothMatter_126 : decode cX0_bothMatter 126 = .ok (.iload 4, 2) := by decide +kernel
theorem dX0_bothMatter_128 : decode cX0_bothMatter 128 = .ok (.aaload, 1) := by decide +kernel
theorem dX0_bothMatter_129 : decode cX0_bothMatter 129 = .ok (.invokevirtual 109, 3) := by decide +kernel
theorem dX0_bothMatter_132 : decode cX0_bothMatter 132 = .ok (.ifCond .ne 7, 3) := by decide +kernel
theorem dX0_bothMatter_135 : decode cX0_bothMatter 135 = .ok (.iconst 1, 1) := by decide +kernel
theorem dX0_bothMatter_136 : decode cX0_bothMatter 136 = .ok (.goto 4, 3) := by decide +kernel
theorem dX0_bothMatter_139 : decode cX0_bothMatter 139 = .ok (.iconst 0, 1) := by decide +kernel
theorem dX0_bothMatter_140 : decode cX0_bothMatter 140 = .ok (.ireturn, 1) := by decide +kernel
set_option maxRecDepth 20000 in
theorem ggX0_breaks_X1_alike : GoodIn wsX0_breaks wsX1_alike := goodIn_r _ [9, 10, 11, 12, 13, 14, 15, 16, 17, 18, 19, 20, 21, 22, 23, 24, 8, 25, 104, 105, 106, 107, 108, 109, 110, 111, 112, 113, 114, 115, 116, 117, 118, 119, 120, 121, 122, 123, 124, 125, 126, 127, 128, 129, 130, 131] rfl (by decide +kernel)
set_option maxRecDepth 20000 in
theorem gX0_breaks_X1_alike : GoodIn wsX0_breaks (wsV RX0 109 RX1 yX1_alike wsX1_alike) := goodIn_app (goodIn_r _ [5, 6, 7, 8] rfl (by decide +kernel)) ggX0_breaks_X1_alike
set_option maxRecDepth 20000 in
theorem ggX0_breaks_X1_move : GoodIn wsX0_breaks wsX1_move := goodIn_r _ [29, 30, 10, 11, 18, 31, 13, 32, 33, 34, 35, 20, 36, 19, 14, 15, 16, 17, 37, 38, 39, 8, 40, 22, 41, 42, 43, 44, 45, 46, 23, 24, 25, 47, 48, 49, 50, 51, 52, 53, 54, 55, 56, 57, 58, 59, 60, 61, 62, 63, 64, 65, 66, 67, 68, 69, 70, 71, 72, 73, 74, 75, 76, 77, 78, 79, 80, 81, 82, 83, 84, 85, 86, 87, 88, 112, 113, 114, 115, 116, 117, 118, 119, 104, 105, 106, 107, 108, 109, 110, 111, 120, 121, 122, 123, 124, 125, 126, 127, 128, 129, 130, 131] rfl (by decide +kernel)
set_option maxRecDepth 20000 in
theorem gX0_breaks_X1_move : GoodIn wsX0_breaks (wsV RX0 90 RX1 yX1_move wsX1_move) := goodIn_app (goodIn_r _ [26, 27, 28, 8] rfl (by decide +kernel)) ggX0_breaks_X1_move
set_option maxRecDepth 20000 in
theorem ggX0_breaks_X1_outcome : GoodIn wsX0_breaks wsX1_outcome := goodIn_r _ [92, 12, 11, 45, 104, 105, 106, 107, 108, 109, 110, 111, 112, 113, 114, 115, 116, 117, 118, 119] rfl (by decide +kernel)
set_option maxRecDepth 20000 in
theorem gX0_breaks_X1_outcome : GoodIn wsX0_breaks (wsV RX0 69 RX1 yX1_outcome wsX1_outcome) := goodIn_app (goodIn_r _ [89, 90, 91, 8] rfl (by decide +kernel)) ggX0_breaks_X1_outcome
theorem dX0_breaks_0 : decode cX0_breaks 0 = .ok (.iload_n 2, 1) := by decide +kernel
theorem dX0_breaks_1 : decode cX0_breaks 1 = .ok (.istore_n 3, 1) := by decide +kernel
theorem dX0_breaks_2 : decode cX0_breaks 2 = .ok (.iload_n 3, 1) := by decide +kernel
theorem dX0_breaks_3 : decode cX0_breaks 3 = .ok (.aload_n 0, 1) := by decide +kernel
theorem dX0_breaks_4 : decode cX0_breaks 4 = .ok (.getfield 50, 3) := by decide +kernel
theorem dX0_breaks_7 : decode cX0_breaks 7 = .ok (.if_icmp .ge 54, 3) := by decide +kernel
theorem dX0_breaks_10 : decode cX0_breaks 10 = .ok (.aload_n 0, 1) := by decide +kernel
theorem dX0_breaks_11 : decode cX0_breaks 11 = .ok (.getfield 23, 3) := by decide +kernel
theorem dX0_breaks_14 : decode cX0_breaks 14 = .ok (.getfield 113, 3) := by decide +kernel
theorem dX0_breaks_17 : decode cX0_breaks 17 = .ok (.iconst (-1), 1) := by decide +kernel
theorem dX0_breaks_18 : decode cX0_breaks 18 = .ok (.if_icmp .eq 5, 3) := by decide +kernel
theorem dX0_breaks_21 : decode cX0_breaks 21 = .ok (.iconst 1, 1) := by decide +kernel
theorem dX0_breaks_22 : decode cX0_breaks 22 = .ok (.ireturn, 1) := by decide +kernel
theorem dX0_breaks_23 : decode cX0_breaks 23 = .ok (.aload_n 1, 1) := by decide +kernel
theorem dX0_breaks_24 : decode cX0_breaks 24 = .ok (.aload_n 0, 1) := by decide +kernel
theorem dX0_breaks_25 : decode cX0_breaks 25 = .ok (.getfield 23, 3) := by decide +kernel
theorem dX0_breaks_28 : decode cX0_breaks 28 = .ok (.aload_n 0, 1) := by decide +kernel
theorem dX0_breaks_29 : decode cX0_breaks 29 = .ok (.getfield 11, 3) := by decide +kernel
theorem dX0_breaks_32 : decode cX0_breaks 32 = .ok (.iload_n 3, 1) := by decide +kernel
theorem dX0_breaks_33 : decode cX0_breaks 33 = .ok (.aaload, 1) := by decide +kernel
theorem dX0_breaks_34 : decode cX0_breaks 34 = .ok (.invokevirtual 109, 3) := by decide +kernel
theorem dX0_breaks_37 : decode cX0_breaks 37 = .ok (.ifCond .eq 5, 3) := by decide +kernel
theorem dX0_breaks_40 : decode cX0_breaks 40 = .ok (.iconst 0, 1) := by decide +kernel
theorem dX0_breaks_41 : decode cX0_breaks 41 = .ok (.ireturn, 1) := by decide +kernel
theorem dX0_breaks_42 : decode cX0_breaks 42 = .ok (.aload_n 1, 1) := by decide +kernel
theorem dX0_breaks_43 : decode cX0_breaks 43 = .ok (.aload_n 0, 1) := by decide +kernel
theorem dX0_breaks_44 : decode cX0_breaks 44 = .ok (.getfield 23, 3) := by decide +kernel
theorem dX0_breaks_47 : decode cX0_breaks 47 = .ok (.iload_n 3, 1) := by decide +kernel
theorem dX0_breaks_48 : decode cX0_breaks 48 = .ok (.iconst 1, 1) := by decide +kernel
theorem dX0_breaks_49 : decode cX0_breaks 49 = .ok (.iadd, 1) := by decide +kernel
theorem dX0_breaks_50 : decode cX0_breaks 50 = .ok (.iconst 0, 1) := by decide +kernel
theorem dX0_breaks_51 : decode cX0_breaks 51 = .ok (.invokevirtual 90, 3) := by decide +kernel
theorem dX0_breaks_54 : decode cX0_breaks 54 = .ok (.pop, 1) := by decide +kernel
theorem dX0_breaks_55 : decode cX0_breaks 55 = .ok (.iinc 3 1, 3) := by decide +kernel
theorem dX0_breaks_58 : decode cX0_breaks 58 = .ok (.goto (-56), 3) := by decide +kernel
theorem dX0_breaks_61 : decode cX0_breaks 61 = .ok (.aload_n 1, 1) := by decide +kernel
theorem dX0_breaks_62 : decode cX0_breaks 62 = .ok (.aload_n 0, 1) := by decide +kernel
theorem dX0_breaks_63 : decode cX0_breaks 63 = .ok (.getfield 23, 3) := by decide +kernel
theorem dX0_breaks_66 : decode cX0_breaks 66 = .ok (.invokevirtual 69, 3) := by decide +kernel
theorem dX0_breaks_69 : decode cX0_breaks 69 = .ok (.ifCond .eq 7, 3) := by decide +kernel
theorem dX0_breaks_72 : decode cX0_breaks 72 = .ok (.iconst 1, 1) := by decide +kernel
theorem dX0_breaks_73 : decode cX0_breaks 73 = .ok (.goto 4, 3) := by decide +kernel
theorem dX0_breaks_76 : decode cX0_breaks 76 = .ok (.iconst 0, 1) := by decide +kernel
theorem dX0_breaks_77 : decode cX0_breaks 77 = .ok (.ireturn, 1) := by decide +kernel
theorem dX0_tell_0 : decode cX0_tell 0 = .ok (.aload_n 0, 1) := by decide +kernel
theorem dX0_tell_1 : decode cX0_tell 1 = .ok (.getfield 34, 3) := by decide +kernel
theorem dX0_tell_4 : decode cX0_tell 4 = .ok (.iload_n 1, 1) := by decide +kernel
theorem dX0_tell_5 : decode cX0_tell 5 = .ok (.aload_n 0, 1) := by decide +kernel
theorem dX0_tell_6 : decode cX0_tell 6 = .ok (.getfield 27, 3) := by decide +kernel
theorem dX0_tell_9 : decode cX0_tell 9 = .ok (.iload_n 2, 1) := by decide +kernel
theorem dX0_tell_10 : decode cX0_tell 10 = .ok (.iaload, 1) := by decide +kernel
theorem dX0_tell_11 : decode cX0_tell 11 = .ok (.iastore, 1) := by decide +kernel
theorem dX0_tell_12 : decode cX0_tell 12 = .ok (.aload_n 0, 1) := by decide +kernel
theorem dX0_tell_13 : decode cX0_tell 13 = .ok (.getfield 37, 3) := by decide +kernel
theorem dX0_tell_16 : decode cX0_tell 16 = .ok (.iload_n 1, 1) := by decide +kernel
theorem dX0_tell_17 : decode cX0_tell 17 = .ok (.aload_n 0, 1) := by decide +kernel
theorem dX0_tell_18 : decode cX0_tell 18 = .ok (.getfield 31, 3) := by decide +kernel
theorem dX0_tell_21 : decode cX0_tell 21 = .ok (.iload_n 2, 1) := by decide +kernel
theorem dX0_tell_22 : decode cX0_tell 22 = .ok (.iaload, 1) := by decide +kernel
theorem dX0_tell_23 : decode cX0_tell 23 = .ok (.iastore, 1) := by decide +kernel
theorem dX0_tell_24 : decode cX0_tell 24 = .ok (.return_, 1) := by decide +kernel
set_option maxRecDepth 20000 in
theorem ggX1_init_X8_init : GoodIn wsX1_init wsX8_init := goodIn_r _ [15, 16, 2, 3, 6, 17, 18, 19, 20, 21, 22, 23, 24, 33, 34, 35, 36, 37, 38, 39, 40, 41, 42, 43, 44] rfl (by decide +kernel)
set_option maxRecDepth 20000 in
theorem gX1_init_X8_init_n30 : GoodIn wsX1_init (wsX8_init) := ggX1_init_X8_init
theorem dX1_init_0 : decode cX1_init 0 = .ok (.aload_n 0, 1) := by decide +kernel
theorem dX1_init_1 : decode cX1_init 1 = .ok (.invokespecial 3, 3) := by decide +kernel
theorem dX1_init_4 : decode cX1_init 4 = .ok (.aload_n 0, 1) := by decide +kernel
theorem dX1_init_5 : decode cX1_init 5 = .ok (.iconst 3, 1) := by decide +kernel
theorem dX1_init_6 : decode cX1_init 6 = .ok (.anewarray 9, 3) := by decide +kernel
theorem dX1_init_9 : decode cX1_init 9 = .ok (.putfield 11, 3) := by decide +kernel
theorem dX1_init_12 : decode cX1_init 12 = .ok (.aload_n 0, 1) := by decide +kernel
theorem dX1_init_13 : decode cX1_init 13 = .ok (.bipush 60, 2) := by decide +kernel
theorem dX1_init_15 : decode cX1_init 15 = .ok (.newarray .int, 2) := by decide +kernel
theorem dX1_init_17 : decode cX1_init 17 = .ok (.putfield 17, 3) := by decide +kernel
theorem dX1_init_20 : decode cX1_init 20 = .ok (.aload_n 0, 1) := by decide +kernel
theorem dX1_init_21 : decode cX1_init 21 = .ok (.sipush 501, 3) := by decide +kernel
theorem dX1_init_24 : decode cX1_init 24 = .ok (.newarray .int, 2) := by decide +kernel
theorem dX1_init_26 : decode cX1_init 26 = .ok (.putfield 21, 3) := by decide +kernel
theorem dX1_init_29 : decode cX1_init 29 = .ok (.aload_n 0, 1) := by decide +kernel
theorem dX1_init_30 : decode cX1_init 30 = .ok (.bipush 16, 2) := by decide +kernel
theorem dX1_init_32 : decode cX1_init 32 = .ok (.newarray .int, 2) := by decide +kernel
theorem dX1_init_34 : decode cX1_init 34 = .ok (.putfield 24, 3) := by decide +kernel
theorem dX1_init_37 : decode cX1_init 37 = .ok (.aload_n 0, 1) := by decide +kernel
theorem dX1_init_38 : decode cX1_init 38 = .ok (.bipush 110, 2) := by decide +kernel
theorem dX1_init_40 : decode cX1_init 40 = .ok (.newarray .int, 2) := by decide +kernel
theorem dX1_init_42 : decode cX1_init 42 = .ok (.putfield 27, 3) := by decide +kernel
theorem dX1_init_45 : decode cX1_init 45 = .ok (.iconst 0, 1) := by decide +kernel
theorem dX1_init_46 : decode cX1_init 46 = .ok (.istore_n 1, 1) := by decide +kernel
theorem dX1_init_47 : decode cX1_init 47 = .ok (.iload_n 1, 1) := by decide +kernel
theorem dX1_init_48 : decode cX1_init 48 = .ok (.iconst 3, 1) := by decide +kernel
theorem dX1_init_49 : decode cX1_init 49 = .ok (.if_icmp .ge 22, 3) := by decide +kernel
theorem dX1_init_52 : decode cX1_init 52 = .ok (.aload_n 0, 1) := by decide +kernel
theorem dX1_init_53 : decode cX1_init 53 = .ok (.getfield 11, 3) := by decide +kernel
theorem dX1_init_56 : decode cX1_init 56 = .ok (.iload_n 1, 1) := by decide +kernel
theorem dX1_init_57 : decode cX1_init 57 = .ok (.new 9, 3) := by decide +kernel
theorem dX1_init_60 : decode cX1_init 60 = .ok (.dup, 1) := by decide +kernel
theorem dX1_init_61 : decode cX1_init 61 = .ok (.invokespecial 30, 3) := by decide +kernel
theorem dX1_init_64 : decode cX1_init 64 = .ok (.aastore, 1) := by decide +kernel
theorem dX1_init_65 : decode cX1_init 65 = .ok (.iinc 1 1, 3) := by decide +kernel
theorem dX1_init_68 : decode cX1_init 68 = .ok (.goto (-21), 3) := by decide +kernel
theorem dX1_init_71 : decode cX1_init 71 = .ok (.iconst 0, 1) := by decide +kernel
theorem dX1_init_72 : decode cX1_init 72 = .ok (.istore_n 1, 1) := by decide +kernel
theorem dX1_init_73 : decode cX1_init 73 = .ok (.iload_n 1, 1) := by decide +kernel
theorem dX1_init_74 : decode cX1_init 74 = .ok (.bipush 100, 2) := by decide +kernel
theorem dX1_init_76 : decode cX1_init 76 = .ok (.if_icmp .ge 16, 3) := by decide +kernel
theorem dX1_init_79 : decode cX1_init 79 = .ok (.aload_n 0, 1) := by decide +kernel
theorem dX1_init_80 : decode cX1_init 80 = .ok (.getfield 27, 3) := by decide +kernel
theorem dX1_init_83 : decode cX1_init 83 = .ok (.iload_n 1, 1) := by decide +kernel
theorem dX1_init_84 : decode cX1_init 84 = .ok (.iload_n 1, 1) := by decide +kernel
theorem dX1_init_85 : decode cX1_init 85 = .ok (.iastore, 1) := by decide +kernel
theorem dX1_init_86 : decode cX1_init 86 = .ok (.iinc 1 1, 3) := by decide +kernel
theorem dX1_init_89 : decode cX1_init 89 = .ok (.goto (-16), 3) := by decide +kernel
theorem dX1_init_92 : decode cX1_init 92 = .ok (.aload_n 0, 1) := by decide +kernel
theorem dX1_init_93 : decode cX1_init 93 = .ok (.getfield 27, 3) := by decide +kernel
theorem dX1_init_96 : decode cX1_init 96 = .ok (.bipush 105, 2) := by decide +kernel
theorem dX1_init_98 : decode cX1_init 98 = .ok (.iconst (-1), 1) := by decide +kernel
theorem dX1_init_99 : decode cX1_init 99 = .ok (.iastore, 1) := by decide +kernel
theorem dX1_init_100 : decode cX1_init 100 = .ok (.aload_n 0, 1) := by decide +kernel
theorem dX1_init_101 : decode cX1_init 101 = .ok (.bipush 8, 2) := by decide +kernel
theorem dX1_init_103 : decode cX1_init 103 = .ok (.putfield 31, 3) := by decide +kernel
theorem dX1_init_106 : decode cX1_init 106 = .ok (.return_, 1) := by decide +kernel
theorem dX1_takeMessage_0 : decode cX1_takeMessage 0 = .ok (.aload_n 1, 1) := by decide +kernel
theorem dX1_takeMessage_1 : decode cX1_takeMessage 1 = .ok (.getfield 35, 3) := by decide +kernel
theorem dX1_takeMessage_4 : decode cX1_takeMessage 4 = .ok (.bipush 60, 2) := by decide +kernel
theorem dX1_takeMessage_6 : decode cX1_takeMessage 6 = .ok (.if_icmp .le 5, 3) := by decide +kernel
theorem dX1_takeMessage_9 : decode cX1_takeMessage 9 = .ok (.iconst 0, 1) := by decide +kernel
theorem dX1_takeMessage_10 : decode cX1_takeMessage 10 = .ok (.ireturn, 1) := by decide +kernel
theorem dX1_takeMessage_11 : decode cX1_takeMessage 11 = .ok (.iconst 0, 1) := by decide +kernel
theorem dX1_takeMessage_12 : decode cX1_takeMessage 12 = .ok (.istore_n 2, 1) := by decide +kernel
theorem dX1_takeMessage_13 : decode cX1_takeMessage 13 = .ok (.iload_n 2, 1) := by decide +kernel
theorem dX1_takeMessage_14 : decode cX1_takeMessage 14 = .ok (.aload_n 1, 1) := by decide +kernel
theorem dX1_takeMessage_15 : decode cX1_takeMessage 15 = .ok (.getfield 35, 3) := by decide +kernel
theorem dX1_takeMessage_18 : decode cX1_takeMessage 18 = .ok (.if_icmp .ge 32, 3) := by decide +kernel
theorem dX1_takeMessage_21 : decode cX1_takeMessage 21 = .ok (.aload_n 1, 1) := by decide +kernel
theorem dX1_takeMessage_22 : decode cX1_takeMessage 22 = .ok (.getfield 40, 3) := by decide +kernel
theorem dX1_takeMessage_25 : decode cX1_takeMessage 25 = .ok (.iload_n 2, 1) := by decide +kernel
theorem dX1_takeMessage_26 : decode cX1_takeMessage 26 = .ok (.iaload, 1) := by decide +kernel
theorem dX1_takeMessage_27 : decode cX1_takeMessage 27 = .ok (.iconst 1, 1) := by decide +kernel
theorem dX1_takeMessage_28 : decode cX1_takeMessage 28 = .ok (.if_icmp .lt 14, 3) := by decide +kernel
theorem dX1_takeMessage_31 : decode cX1_takeMessage 31 = .ok (.aload_n 1, 1) := by decide +kernel
theorem dX1_takeMessage_32 : decode cX1_takeMessage 32 = .ok (.getfield 40, 3) := by decide +kernel
theorem dX1_takeMessage_35 : decode cX1_takeMessage 35 = .ok (.iload_n 2, 1) := by decide +kernel
theorem dX1_takeMessage_36 : decode cX1_takeMessage 36 = .ok (.iaload, 1) := by decide +kernel
theorem dX1_takeMessage_37 : decode cX1_takeMessage 37 = .ok (.bipush 64, 2) := by decide +kernel
theorem dX1_takeMessage_39 : decode cX1_takeMessage 39 = .ok (.if_icmp .lt 5, 3) := by decide +kernel
theorem dX1_takeMessage_42 : decode cX1_takeMessage 42 = .ok (.iconst 0, 1) := by decide +kernel
theorem dX1_takeMessage_43 : decode cX1_takeMessage 43 = .ok (.ireturn, 1) := by decide +kernel
theorem dX1_takeMessage_44 : decode cX1_takeMessage 44 = .ok (.iinc 2 1, 3) := by decide +kernel
theorem dX1_takeMessage_47 : decode cX1_takeMessage 47 = .ok (.goto (-34), 3) := by decide +kernel
theorem dX1_takeMessage_50 : decode cX1_takeMessage 50 = .ok (.aload_n 1, 1) := by decide +kernel
theorem dX1_takeMessage_51 : decode cX1_takeMessage 51 = .ok (.getfield 40, 3) := by decide +kernel
theorem dX1_takeMessage_54 : decode cX1_takeMessage 54 = .ok (.iconst 0, 1) := by decide +kernel
theorem dX1_takeMessage_55 : decode cX1_takeMessage 55 = .ok (.aload_n 0, 1) := by decide +kernel
theorem dX1_takeMessage_56 : decode cX1_takeMessage 56 = .ok (.getfield 17, 3) := by decide +kernel
theorem dX1_takeMessage_59 : decode cX1_takeMessage 59 = .ok (.iconst 0, 1) := by decide +kernel
theorem dX1_takeMessage_60 : decode cX1_takeMessage 60 = .ok (.aload_n 1, 1) := by decide +kernel
theorem dX1_takeMessage_61 : decode cX1_takeMessage 61 = .ok (.getfield 35, 3) := by decide +kernel
theorem dX1_takeMessage_64 : decode cX1_takeMessage 64 = .ok (.invokestatic 43, 3) := by decide +kernel
theorem dX1_takeMessage_67 : decode cX1_takeMessage 67 = .ok (.aload_n 0, 1) := by decide +kernel
theorem dX1_takeMessage_68 : decode cX1_takeMessage 68 = .ok (.aload_n 1, 1) := by decide +kernel
theorem dX1_takeMessage_69 : decode cX1_takeMessage 69 = .ok (.getfield 35, 3) := by decide +kernel
theorem dX1_takeMessage_72 : decode cX1_takeMessage 72 = .ok (.putfield 49, 3) := by decide +kernel
theorem dX1_takeMessage_75 : decode cX1_takeMessage 75 = .ok (.iconst 1, 1) := by decide +kernel
theorem dX1_takeMessage_76 : decode cX1_takeMessage 76 = .ok (.ireturn, 1) := by decide +kernel
theorem dX1_addFog_0 : decode cX1_addFog 0 = .ok (.iload_n 2, 1) := by decide +kernel
theorem dX1_addFog_1 : decode cX1_addFog 1 = .ok (.istore 4, 2) := by decide +kernel
theorem dX1_addFog_3 : decode cX1_addFog 3 = .ok (.iload 4, 2) := by decide +kernel
theorem dX1_addFog_5 : decode cX1_addFog 5 = .ok (.iload_n 3, 1) := by decide +kernel
theorem dX1_addFog_6 : decode cX1_addFog 6 = .ok (.if_icmp .gt 30, 3) := by decide +kernel
theorem dX1_addFog_9 : decode cX1_addFog 9 = .ok (.iload 4, 2) := by decide +kernel
theorem dX1_addFog_11 : decode cX1_addFog 11 = .ok (.sipush 500, 3) := by decide +kernel
theorem dX1_addFog_14 : decode cX1_addFog 14 = .ok (.if_icmp .gt 22, 3) := by decide +kernel
theorem dX1_addFog_17 : decode cX1_addFog 17 = .ok (.aload_n 0, 1) := by decide +kernel
theorem dX1_addFog_18 : decode cX1_addFog 18 = .ok (.getfield 21, 3) := by decide +kernel
theorem dX1_addFog_21 : decode cX1_addFog 21 = .ok (.iload 4, 2) := by decide +kernel
theorem dX1_addFog_23 : decode cX1_addFog 23 = .ok (.dup2, 1) := by decide +kernel
theorem dX1_addFog_24 : decode cX1_addFog 24 = .ok (.iaload, 1) := by decide +kernel
theorem dX1_addFog_25 : decode cX1_addFog 25 = .ok (.iconst 1, 1) := by decide +kernel
theorem dX1_addFog_26 : decode cX1_addFog 26 = .ok (.iload_n 1, 1) := by decide +kernel
theorem dX1_addFog_27 : decode cX1_addFog 27 = .ok (.ishl, 1) := by decide +kernel
theorem dX1_addFog_28 : decode cX1_addFog 28 = .ok (.ior, 1) := by decide +kernel
theorem dX1_addFog_29 : decode cX1_addFog 29 = .ok (.iastore, 1) := by decide +kernel
theorem dX1_addFog_30 : decode cX1_addFog 30 = .ok (.iinc 4 1, 3) := by decide +kernel
theorem dX1_addFog_33 : decode cX1_addFog 33 = .ok (.goto (-30), 3) := by decide +kernel
theorem dX1_addFog_36 : decode cX1_addFog 36 = .ok (.aload_n 0, 1) := by decide +kernel
theorem dX1_addFog_37 : decode cX1_addFog 37 = .ok (.dup, 1) := by decide +kernel
theorem dX1_addFog_38 : decode cX1_addFog 38 = .ok (.getfield 52, 3) := by decide +kernel
theorem dX1_addFog_41 : decode cX1_addFog 41 = .ok (.iconst 1, 1) := by decide +kernel
theorem dX1_addFog_42 : decode cX1_addFog 42 = .ok (.iadd, 1) := by decide +kernel
theorem dX1_addFog_43 : decode cX1_addFog 43 = .ok (.putfield 52, 3) := by decide +kernel
theorem dX1_addFog_46 : decode cX1_addFog 46 = .ok (.aload_n 0, 1) := by decide +kernel
theorem dX1_addFog_47 : decode cX1_addFog 47 = .ok (.getfield 52, 3) := by decide +kernel
theorem dX1_addFog_50 : decode cX1_addFog 50 = .ok (.iconst 1, 1) := by decide +kernel
theorem dX1_addFog_51 : decode cX1_addFog 51 = .ok (.isub, 1) := by decide +kernel
theorem dX1_addFog_52 : decode cX1_addFog 52 = .ok (.ireturn, 1) := by decide +kernel
theorem dX1_outcome_0 : decode cX1_outcome 0 = .ok (.aload_n 1, 1) := by decide +kernel
theorem dX1_outcome_1 : decode cX1_outcome 1 = .ok (.getfield 55, 3) := by decide +kernel
theorem dX1_outcome_4 : decode cX1_outcome 4 = .ok (.iconst (-1), 1) := by decide +kernel
theorem dX1_outcome_5 : decode cX1_outcome 5 = .ok (.if_icmp .eq 5, 3) := by decide +kernel
theorem dX1_outcome_8 : decode cX1_outcome 8 = .ok (.iconst 2, 1) := by decide +kernel
theorem dX1_outcome_9 : decode cX1_outcome 9 = .ok (.ireturn, 1) := by decide +kernel
theorem dX1_outcome_10 : decode cX1_outcome 10 = .ok (.aload_n 1, 1) := by decide +kernel
theorem dX1_outcome_11 : decode cX1_outcome 11 = .ok (.getfield 60, 3) := by decide +kernel
theorem dX1_outcome_14 : decode cX1_outcome 14 = .ok (.aload_n 0, 1) := by decide +kernel
theorem dX1_outcome_15 : decode cX1_outcome 15 = .ok (.getfield 49, 3) := by decide +kernel
theorem dX1_outcome_18 : decode cX1_outcome 18 = .ok (.if_icmp .ge 7, 3) := by decide +kernel
theorem dX1_outcome_21 : decode cX1_outcome 21 = .ok (.iconst 1, 1) := by decide +kernel
theorem dX1_outcome_22 : decode cX1_outcome 22 = .ok (.goto 4, 3) := by decide +kernel
theorem dX1_outcome_25 : decode cX1_outcome 25 = .ok (.iconst 0, 1) := by decide +kernel
theorem dX1_outcome_26 : decode cX1_outcome 26 = .ok (.ireturn, 1) := by decide +kernel
set_option maxRecDepth 20000 in
theorem ggX1_move_X1_see : GoodIn wsX1_move wsX1_see := goodIn_r _ [22, 6, 12, 5, 13, 23, 7, 8, 9, 10, 24, 25, 26, 21, 27, 2, 28, 29, 83, 84, 85, 86, 87, 88, 89, 90, 75, 76, 77, 78, 79, 80, 81, 82] rfl (by decide +kernel)
set_option maxRecDepth 20000 in
theorem gX1_move_X1_see : GoodIn wsX1_move (wsV RX1 70 RX1 yX1_see wsX1_see) := goodIn_app (goodIn_r _ [18, 19, 20, 21] rfl (by decide +kernel)) ggX1_move_X1_see
set_option maxRecDepth 20000 in
theorem ggX1_move_X1_kindOf : GoodIn wsX1_move wsX1_kindOf := goodIn_r _ [32, 6, 83, 84, 85, 86, 87, 88, 89, 90] rfl (by decide +kernel)
set_option maxRecDepth 20000 in
theorem gX1_move_X1_kindOf : GoodIn wsX1_move (va_wsS RX1 74 yX1_kindOf wsX1_kindOf) := goodIn_app (goodIn_r _ [30, 31, 21] rfl (by decide +kernel)) ggX1_move_X1_kindOf
set_option maxRecDepth 20000 in
theorem ggX1_move_X8_firstRuleThatHolds : GoodIn wsX1_move wsX8_firstRuleThatHolds := goodIn_r _ [37, 38, 39, 40, 41, 42, 43, 44, 36, 45, 91, 92, 93, 94, 95, 96, 97, 98, 99, 100, 101, 102] rfl (by decide +kernel)
set_option maxRecDepth 20000 in
theorem gX1_move_X8_firstRuleThatHolds : GoodIn wsX1_move (wsV RX1 78 RX8 yX8_firstRuleThatHolds wsX8_firstRuleThatHolds) := goodIn_app (goodIn_r _ [33, 34, 35, 36] rfl (by decide +kernel)) ggX1_move_X8_firstRuleThatHolds
set_option maxRecDepth 20000 in
theorem ggX1_move_X1_act : GoodIn wsX1_move wsX1_act := goodIn_r _ [49, 50, 51, 12, 52, 53, 6, 3, 28, 29, 2, 54, 55, 56, 36, 57, 58, 59, 60, 61, 62, 63, 64, 65, 66, 67, 68, 69, 70, 24, 25, 26, 21, 27, 91, 92, 93, 94, 95, 96, 97, 98, 99, 100, 101, 102, 75, 76, 77, 78, 79, 80, 81, 82, 83, 84, 85, 86, 87, 88, 89, 90] rfl (by decide +kernel)
set_option maxRecDepth 20000 in
theorem gX1_move_X1_act : GoodIn wsX1_move (wsV RX1 82 RX1 yX1_act wsX1_act) := goodIn_app (goodIn_r _ [46, 47, 48, 21] rfl (by decide +kernel)) ggX1_move_X1_act
set_option maxRecDepth 20000 in
theorem ggX1_move_X1_keep : GoodIn wsX1_move wsX1_keep := goodIn_r _ [74, 12, 5, 4, 23, 7, 8, 9, 10, 75, 76, 77, 78, 79, 80, 81, 82, 83, 84, 85, 86, 87, 88, 89, 90] rfl (by decide +kernel)
set_option maxRecDepth 20000 in
theorem gX1_move_X1_keep : GoodIn wsX1_move (wsV RX1 86 RX1 yX1_keep wsX1_keep) := goodIn_app (goodIn_r _ [71, 72, 73, 21] rfl (by decide +kernel)) ggX1_move_X1_keep
theorem dX1_move_0 : decode cX1_move 0 = .ok (.iload_n 2, 1) := by decide +kernel
theorem dX1_move_1 : decode cX1_move 1 = .ok (.ifCond .lt 19, 3) := by decide +kernel
theorem dX1_move_4 : decode cX1_move 4 = .ok (.iload_n 2, 1) := by decide +kernel
theorem dX1_move_5 : decode cX1_move 5 = .ok (.sipush 500, 3) := by decide +kernel
theorem dX1_move_8 : decode cX1_move 8 = .ok (.if_icmp .gt 12, 3) := by decide +kernel
theorem dX1_move_11 : decode cX1_move 11 = .ok (.aload_n 0, 1) := by decide +kernel
theorem dX1_move_12 : decode cX1_move 12 = .ok (.getfield 21, 3) := by decide +kernel
theorem dX1_move_15 : decode cX1_move 15 = .ok (.iload_n 2, 1) := by decide +kernel
theorem dX1_move_16 : decode cX1_move 16 = .ok (.iaload, 1) := by decide +kernel
theorem dX1_move_17 : decode cX1_move 17 = .ok (.goto 4, 3) := by decide +kernel
theorem dX1_move_20 : decode cX1_move 20 = .ok (.iconst 0, 1) := by decide +kernel
theorem dX1_move_21 : decode cX1_move 21 = .ok (.iload_n 3, 1) := by decide +kernel
theorem dX1_move_22 : decode cX1_move 22 = .ok (.ior, 1) := by decide +kernel
theorem dX1_move_23 : decode cX1_move 23 = .ok (.istore 4, 2) := by decide +kernel
theorem dX1_move_25 : decode cX1_move 25 = .ok (.aload_n 1, 1) := by decide +kernel
theorem dX1_move_26 : decode cX1_move 26 = .ok (.getfield 63, 3) := by decide +kernel
theorem dX1_move_29 : decode cX1_move 29 = .ok (.istore 5, 2) := by decide +kernel
theorem dX1_move_31 : decode cX1_move 31 = .ok (.aload_n 1, 1) := by decide +kernel
theorem dX1_move_32 : decode cX1_move 32 = .ok (.getfield 60, 3) := by decide +kernel
theorem dX1_move_35 : decode cX1_move 35 = .ok (.istore 6, 2) := by decide +kernel
theorem dX1_move_37 : decode cX1_move 37 = .ok (.iconst 0, 1) := by decide +kernel
theorem dX1_move_38 : decode cX1_move 38 = .ok (.istore 7, 2) := by decide +kernel
theorem dX1_move_40 : decode cX1_move 40 = .ok (.aload_n 1, 1) := by decide +kernel
theorem dX1_move_41 : decode cX1_move 41 = .ok (.getfield 66, 3) := by decide +kernel
theorem dX1_move_44 : decode cX1_move 44 = .ok (.iconst 0, 1) := by decide +kernel
theorem dX1_move_45 : decode cX1_move 45 = .ok (.aload_n 0, 1) := by decide +kernel
theorem dX1_move_46 : decode cX1_move 46 = .ok (.getfield 24, 3) := by decide +kernel
theorem dX1_move_49 : decode cX1_move 49 = .ok (.iconst 0, 1) := by decide +kernel
theorem dX1_move_50 : decode cX1_move 50 = .ok (.aload_n 1, 1) := by decide +kernel
theorem dX1_move_51 : decode cX1_move 51 = .ok (.getfield 69, 3) := by decide +kernel
theorem dX1_move_54 : decode cX1_move 54 = .ok (.invokestatic 43, 3) := by decide +kernel
theorem dX1_move_57 : decode cX1_move 57 = .ok (.iconst 0, 1) := by decide +kernel
theorem dX1_move_58 : decode cX1_move 58 = .ok (.istore 8, 2) := by decide +kernel
theorem dX1_move_60 : decode cX1_move 60 = .ok (.iload 8, 2) := by decide +kernel
theorem dX1_move_62 : decode cX1_move 62 = .ok (.aload_n 1, 1) := by decide +kernel
theorem dX1_move_63 : decode cX1_move 63 = .ok (.getfield 69, 3) := by decide +kernel
theorem dX1_move_66 : decode cX1_move 66 = .ok (.if_icmp .ge 125, 3) := by decide +kernel
theorem dX1_move_69 : decode cX1_move 69 = .ok (.aload_n 0, 1) := by decide +kernel
theorem dX1_move_70 : decode cX1_move 70 = .ok (.aload_n 1, 1) := by decide +kernel
theorem dX1_move_71 : decode cX1_move 71 = .ok (.iload 8, 2) := by decide +kernel
theorem dX1_move_73 : decode cX1_move 73 = .ok (.iload 4, 2) := by decide +kernel
theorem dX1_move_75 : decode cX1_move 75 = .ok (.invokevirtual 70, 3) := by decide +kernel
theorem dX1_move_78 : decode cX1_move 78 = .ok (.aload_n 0, 1) := by decide +kernel
theorem dX1_move_79 : decode cX1_move 79 = .ok (.getfield 11, 3) := by decide +kernel
theorem dX1_move_82 : decode cX1_move 82 = .ok (.aload_n 1, 1) := by decide +kernel
theorem dX1_move_83 : decode cX1_move 83 = .ok (.iload 8, 2) := by decide +kernel
theorem dX1_move_85 : decode cX1_move 85 = .ok (.invokestatic 74, 3) := by decide +kernel
theorem dX1_move_88 : decode cX1_move 88 = .ok (.aaload, 1) := by decide +kernel
theorem dX1_move_89 : decode cX1_move 89 = .ok (.astore 9, 2) := by decide +kernel
theorem dX1_move_91 : decode cX1_move 91 = .ok (.aload 9, 2) := by decide +kernel
theorem dX1_move_93 : decode cX1_move 93 = .ok (.aload_n 0, 1) := by decide +kernel
theorem dX1_move_94 : decode cX1_move 94 = .ok (.getfield 27, 3) := by decide +kernel
theorem dX1_move_97 : decode cX1_move 97 = .ok (.invokevirtual 78, 3) := by decide +kernel
theorem dX1_move_100 : decode cX1_move 100 = .ok (.istore 10, 2) := by decide +kernel
theorem dX1_move_102 : decode cX1_move 102 = .ok (.iload 10, 2) := by decide +kernel
theorem dX1_move_104 : decode cX1_move 104 = .ok (.iconst (-1), 1) := by decide +kernel
theorem dX1_move_105 : decode cX1_move 105 = .ok (.if_icmp .eq 26, 3) := by decide +kernel
theorem dX1_move_108 : decode cX1_move 108 = .ok (.aload_n 0, 1) := by decide +kernel
theorem dX1_move_109 : decode cX1_move 109 = .ok (.aload_n 1, 1) := by decide +kernel
theorem dX1_move_110 : decode cX1_move 110 = .ok (.iload 8, 2) := by decide +kernel
theorem dX1_move_112 : decode cX1_move 112 = .ok (.aload 9, 2) := by decide +kernel
theorem dX1_move_114 : decode cX1_move 114 = .ok (.iload 10, 2) := by decide +kernel
theorem dX1_move_116 : decode cX1_move 116 = .ok (.invokevirtual 82, 3) := by decide +kernel
theorem dX1_move_119 : decode cX1_move 119 = .ok (.iload 7, 2) := by decide +kernel
theorem dX1_move_121 : decode cX1_move 121 = .ok (.aload_n 0, 1) := by decide +kernel
theorem dX1_move_122 : decode cX1_move 122 = .ok (.aload_n 1, 1) := by decide +kernel
theorem dX1_move_123 : decode cX1_move 123 = .ok (.iload 8, 2) := by decide +kernel
theorem dX1_move_125 : decode cX1_move 125 = .ok (.invokevirtual 86, 3) := by decide +kernel
theorem dX1_move_128 : decode cX1_move 128 = .ok (.ior, 1) := by decide +kernel
theorem dX1_move_129 : decode cX1_move 129 = .ok (.istore 7, 2) := by decide +kernel
theorem dX1_move_131 : decode cX1_move 131 = .ok (.aload_n 1, 1) := by decide +kernel
theorem dX1_move_132 : decode cX1_move 132 = .ok (.getfield 66, 3) := by decide +kernel
theorem dX1_move_135 : decode cX1_move 135 = .ok (.iload 8, 2) := by decide +kernel
theorem dX1_move_137 : decode cX1_move 137 = .ok (.iaload, 1) := by decide +kernel
theorem dX1_move_138 : decode cX1_move 138 = .ok (.aload_n 0, 1) := by decide +kernel
theorem dX1_move_139 : decode cX1_move 139 = .ok (.getfield 24, 3) := by decide +kernel
theorem dX1_move_142 : decode cX1_move 142 = .ok (.iload 8, 2) := by decide +kernel
theorem dX1_move_144 : decode cX1_move 144 = .ok (.iaload, 1) := by decide +kernel
theorem dX1_move_145 : decode cX1_move 145 = .ok (.if_icmp .ne 7, 3) := by decide +kernel
theorem dX1_move_148 : decode cX1_move 148 = .ok (.iconst 1, 1) := by decide +kernel
theorem dX1_move_149 : decode cX1_move 149 = .ok (.goto 4, 3) := by decide +kernel
theorem dX1_move_152 : decode cX1_move 152 = .ok (.iconst 0, 1) := by decide +kernel
theorem dX1_move_153 : decode cX1_move 153 = .ok (.istore 11, 2) := by decide +kernel
theorem dX1_move_155 : decode cX1_move 155 = .ok (.aload_n 1, 1) := by decide +kernel
theorem dX1_move_156 : decode cX1_move 156 = .ok (.getfield 90, 3) := by decide +kernel
theorem dX1_move_159 : decode cX1_move 159 = .ok (.iload 8, 2) := by decide +kernel
theorem dX1_move_161 : decode cX1_move 161 = .ok (.iload 11, 2) := by decide +kernel
theorem dX1_move_163 : decode cX1_move 163 = .ok (.ifCond .eq 20, 3) := by decide +kernel
theorem dX1_move_166 : decode cX1_move 166 = .ok (.aload_n 1, 1) := by decide +kernel
theorem dX1_move_167 : decode cX1_move 167 = .ok (.getfield 90, 3) := by decide +kernel
theorem dX1_move_170 : decode cX1_move 170 = .ok (.iload 8, 2) := by decide +kernel
theorem dX1_move_172 : decode cX1_move 172 = .ok (.iaload, 1) := by decide +kernel
theorem dX1_move_173 : decode cX1_move 173 = .ok (.iconst 1, 1) := by decide +kernel
theorem dX1_move_174 : decode cX1_move 174 = .ok (.iadd, 1) := by decide +kernel
theorem dX1_move_175 : decode cX1_move 175 = .ok (.bipush 99, 2) := by decide +kernel
theorem dX1_move_177 : decode cX1_move 177 = .ok (.invokestatic 93, 3) := by decide +kernel
theorem dX1_move_180 : decode cX1_move 180 = .ok (.goto 4, 3) := by decide +kernel
theorem dX1_move_183 : decode cX1_move 183 = .ok (.iconst 0, 1) := by decide +kernel
theorem dX1_move_184 : decode cX1_move 184 = .ok (.iastore, 1) := by decide +kernel
theorem dX1_move_185 : decode cX1_move 185 = .ok (.iinc 8 1, 3) := by decide +kernel
theorem dX1_move_188 : decode cX1_move 188 = .ok (.goto (-128), 3) := by decide +kernel
theorem dX1_move_191 : decode cX1_move 191 = .ok (.iload 7, 2) := by decide +kernel
theorem dX1_move_193 : decode cX1_move 193 = .ok (.ifCond .ne 21, 3) := by decide +kernel
theorem dX1_move_196 : decode cX1_move 196 = .ok (.aload_n 1, 1) := by decide +kernel
theorem dX1_move_197 : decode cX1_move 197 = .ok (.getfield 63, 3) := by decide +kernel
theorem dX1_move_200 : decode cX1_move 200 = .ok (.iload 5, 2) := by decide +kernel
theorem dX1_move_202 : decode cX1_move 202 = .ok (.if_icmp .ne 12, 3) := by decide +kernel
theorem dX1_move_205 : decode cX1_move 205 = .ok (.aload_n 1, 1) := by decide +kernel
theorem dX1_move_206 : decode cX1_move 206 = .ok (.getfield 60, 3) := by decide +kernel
theorem dX1_move_209 : decode cX1_move 209 = .ok (.iload 6, 2) := by decide +kernel
theorem dX1_move_211 : decode cX1_move 211 = .ok (.if_icmp .eq 7, 3) := by decide +kernel
theorem dX1_move_214 : decode cX1_move 214 = .ok (.iconst 1, 1) := by decide +kernel
theorem dX1_move_215 : decode cX1_move 215 = .ok (.goto 4, 3) := by decide +kernel
theorem dX1_move_218 : decode cX1_move 218 = .ok (.iconst 0, 1) := by decide +kernel
theorem dX1_move_219 : decode cX1_move 219 = .ok (.ireturn, 1) := by decide +kernel
set_option maxRecDepth 20000 in
theorem ggX1_alike_X1_kindOf : GoodIn wsX1_alike wsX1_kindOf := goodIn_r _ [17, 4, 18, 19, 20, 21, 22, 23, 24, 25] rfl (by decide +kernel)
set_option maxRecDepth 20000 in
theorem gX1_alike_X1_kindOf : GoodIn wsX1_alike (va_wsS RX1 74 yX1_kindOf wsX1_kindOf) := goodIn_app (goodIn_r _ [14, 15, 16] rfl (by decide +kernel)) ggX1_alike_X1_kindOf
theorem dX1_alike_0 : decode cX1_alike 0 = .ok (.aload_n 1, 1) := by decide +kernel
theorem dX1_alike_1 : decode cX1_alike 1 = .ok (.getfield 63, 3) := by decide +kernel
theorem dX1_alike_4 : decode cX1_alike 4 = .ok (.aload_n 2, 1) := by decide +kernel
theorem dX1_alike_5 : decode cX1_alike 5 = .ok (.getfield 63, 3) := by decide +kernel
theorem dX1_alike_8 : decode cX1_alike 8 = .ok (.if_icmp .ne 25, 3) := by decide +kernel
theorem dX1_alike_11 : decode cX1_alike 11 = .ok (.aload_n 1, 1) := by decide +kernel
theorem dX1_alike_12 : decode cX1_alike 12 = .ok (.getfield 60, 3) := by decide +kernel
theorem dX1_alike_15 : decode cX1_alike 15 = .ok (.aload_n 2, 1) := by decide +kernel
theorem dX1_alike_16 : decode cX1_alike 16 = .ok (.getfield 60, 3) := by decide +kernel
theorem dX1_alike_19 : decode cX1_alike 19 = .ok (.if_icmp .ne 14, 3) := by decide +kernel
theorem dX1_alike_22 : decode cX1_alike 22 = .ok (.aload_n 1, 1) := by decide +kernel
theorem dX1_alike_23 : decode cX1_alike 23 = .ok (.getfield 55, 3) := by decide +kernel
theorem dX1_alike_26 : decode cX1_alike 26 = .ok (.aload_n 2, 1) := by decide +kernel
theorem dX1_alike_27 : decode cX1_alike 27 = .ok (.getfield 55, 3) := by decide +kernel
theorem dX1_alike_30 : decode cX1_alike 30 = .ok (.if_icmp .eq 5, 3) := by decide +kernel
theorem dX1_alike_33 : decode cX1_alike 33 = .ok (.iconst 0, 1) := by decide +kernel
theorem dX1_alike_34 : decode cX1_alike 34 = .ok (.ireturn, 1) := by decide +kernel
theorem dX1_alike_35 : decode cX1_alike 35 = .ok (.aload_n 1, 1) := by decide +kernel
theorem dX1_alike_36 : decode cX1_alike 36 = .ok (.getfield 69, 3) := by decide +kernel
theorem dX1_alike_39 : decode cX1_alike 39 = .ok (.aload_n 2, 1) := by decide +kernel
theorem dX1_alike_40 : decode cX1_alike 40 = .ok (.getfield 69, 3) := by decide +kernel
theorem dX1_alike_43 : decode cX1_alike 43 = .ok (.invokestatic 93, 3) := by decide +kernel
theorem dX1_alike_46 : decode cX1_alike 46 = .ok (.istore_n 3, 1) := by decide +kernel
theorem dX1_alike_47 : decode cX1_alike 47 = .ok (.iconst 0, 1) := by decide +kernel
theorem dX1_alike_48 : decode cX1_alike 48 = .ok (.istore 4, 2) := by decide +kernel
theorem dX1_alike_50 : decode cX1_alike 50 = .ok (.iload 4, 2) := by decide +kernel
theorem dX1_alike_52 : decode cX1_alike 52 = .ok (.iload_n 3, 1) := by decide +kernel
theorem dX1_alike_53 : decode cX1_alike 53 = .ok (.if_icmp .ge 64, 3) := by decide +kernel
theorem dX1_alike_56 : decode cX1_alike 56 = .ok (.aload_n 1, 1) := by decide +kernel
theorem dX1_alike_57 : decode cX1_alike 57 = .ok (.getfield 66, 3) := by decide +kernel
theorem dX1_alike_60 : decode cX1_alike 60 = .ok (.iload 4, 2) := by decide +kernel
theorem dX1_alike_62 : decode cX1_alike 62 = .ok (.iaload, 1) := by decide +kernel
theorem dX1_alike_63 : decode cX1_alike 63 = .ok (.aload_n 2, 1) := by decide +kernel
theorem dX1_alike_64 : decode cX1_alike 64 = .ok (.getfield 66, 3) := by decide +kernel
theorem dX1_alike_67 : decode cX1_alike 67 = .ok (.iload 4, 2) := by decide +kernel
theorem dX1_alike_69 : decode cX1_alike 69 = .ok (.iaload, 1) := by decide +kernel
theorem dX1_alike_70 : decode cX1_alike 70 = .ok (.if_icmp .eq 5, 3) := by decide +kernel
theorem dX1_alike_73 : decode cX1_alike 73 = .ok (.iconst 0, 1) := by decide +kernel
theorem dX1_alike_74 : decode cX1_alike 74 = .ok (.ireturn, 1) := by decide +kernel
theorem dX1_alike_75 : decode cX1_alike 75 = .ok (.aload_n 1, 1) := by decide +kernel
theorem dX1_alike_76 : decode cX1_alike 76 = .ok (.getfield 90, 3) := by decide +kernel
theorem dX1_alike_79 : decode cX1_alike 79 = .ok (.iload 4, 2) := by decide +kernel
theorem dX1_alike_81 : decode cX1_alike 81 = .ok (.iaload, 1) := by decide +kernel
theorem dX1_alike_82 : decode cX1_alike 82 = .ok (.aload_n 2, 1) := by decide +kernel
theorem dX1_alike_83 : decode cX1_alike 83 = .ok (.getfield 90, 3) := by decide +kernel
theorem dX1_alike_86 : decode cX1_alike 86 = .ok (.iload 4, 2) := by decide +kernel
theorem dX1_alike_88 : decode cX1_alike 88 = .ok (.iaload, 1) := by decide +kernel
theorem dX1_alike_89 : decode cX1_alike 89 = .ok (.if_icmp .eq 22, 3) := by decide +kernel
theorem dX1_alike_92 : decode cX1_alike 92 = .ok (.aload_n 0, 1) := by decide +kernel
theorem dX1_alike_93 : decode cX1_alike 93 = .ok (.getfield 11, 3) := by decide +kernel
theorem dX1_alike_96 : decode cX1_alike 96 = .ok (.aload_n 1, 1) := by decide +kernel
theorem dX1_alike_97 : decode cX1_alike 97 = .ok (.iload 4, 2) := by decide +kernel
theorem dX1_alike_99 : decode cX1_alike 99 = .ok (.invokestatic 74, 3) := by decide +kernel
theorem dX1_alike_102 : decode cX1_alike 102 = .ok (.aaload, 1) := by decide +kernel
theorem dX1_alike_103 : decode cX1_alike 103 = .ok (.getfield 99, 3) := by decide +kernel
theorem dX1_alike_106 : decode cX1_alike 106 = .ok (.ifCond .eq 5, 3) := by decide +kernel
theorem dX1_alike_109 : decode cX1_alike 109 = .ok (.iconst 0, 1) := by decide +kernel
theorem dX1_alike_110 : decode cX1_alike 110 = .ok (.ireturn, 1) := by decide +kernel
theorem dX1_alike_111 : decode cX1_alike 111 = .ok (.iinc 4 1, 3) := by decide +kernel
theorem dX1_alike_114 : decode cX1_alike 114 = .ok (.goto (-64), 3) := by decide +kernel
theorem dX1_alike_117 : decode cX1_alike 117 = .ok (.iconst 0, 1) := by decide +kernel
theorem dX1_alike_118 : decode cX1_alike 118 = .ok (.istore 4, 2) := by decide +kernel
theorem dX1_alike_120 : decode cX1_alike 120 = .ok (.iload 4, 2) := by decide +kernel
theorem dX1_alike_122 : decode cX1_alike 122 = .ok (.iload_n 3, 1) := by decide +kernel
theorem dX1_alike_123 : decode cX1_alike 123 = .ok (.iconst 4, 1) := by decide +kernel
theorem dX1_alike_124 : decode cX1_alike 124 = .ok (.imul, 1) := by decide +kernel
theorem dX1_alike_125 : decode cX1_alike 125 = .ok (.if_icmp .ge 28, 3) := by decide +kernel
theorem dX1_alike_128 : decode cX1_alike 128 = .ok (.aload_n 1, 1) := by decide +kernel
theorem dX1_alike_129 : decode cX1_alike 129 = .ok (.getfield 103, 3) := by decide +kernel
theorem dX1_alike_132 : decode cX1_alike 132 = .ok (.iload 4, 2) := by decide +kernel
theorem dX1_alike_134 : decode cX1_alike 134 = .ok (.iaload, 1) := by decide +kernel
theorem dX1_alike_135 : decode cX1_alike 135 = .ok (.aload_n 2, 1) := by decide +kernel
theorem dX1_alike_136 : decode cX1_alike 136 = .ok (.getfield 103, 3) := by decide +kernel
theorem dX1_alike_139 : decode cX1_alike 139 = .ok (.iload 4, 2) := by decide +kernel
theorem dX1_alike_141 : decode cX1_alike 141 = .ok (.iaload, 1) := by decide +kernel
theorem dX1_alike_142 : decode cX1_alike 142 = .ok (.if_icmp .eq 5, 3) := by decide +kernel
theorem dX1_alike_145 : decode cX1_alike 145 = .ok (.iconst 0, 1) := by decide +kernel
theorem dX1_alike_146 : decode cX1_alike 146 = .ok (.ireturn, 1) := by decide +kernel
theorem dX1_alike_147 : decode cX1_alike 147 = .ok (.iinc 4 1, 3) := by decide +kernel
theorem dX1_alike_150 : decode cX1_alike 150 = .ok (.goto (-30), 3) := by decide +kernel
theorem dX1_alike_153 : decode cX1_alike 153 = .ok (.iconst 1, 1) := by decide +kernel
theorem dX1_alike_154 : decode cX1_alike 154 = .ok (.ireturn, 1) := by decide +kernel
theorem dX1_kindOf_0 : decode cX1_kindOf 0 = .ok (.iload_n 1, 1) := by decide +kernel
theorem dX1_kindOf_1 : decode cX1_kindOf 1 = .ok (.ifCond .ne 5, 3) := by decide +kernel
theorem dX1_kindOf_4 : decode cX1_kindOf 4 = .ok (.iconst 0, 1) := by decide +kernel
theorem dX1_kindOf_5 : decode cX1_kindOf 5 = .ok (.ireturn, 1) := by decide +kernel
theorem dX1_kindOf_6 : decode cX1_kindOf 6 = .ok (.iload_n 1, 1) := by decide +kernel
theorem dX1_kindOf_7 : decode cX1_kindOf 7 = .ok (.aload_n 0, 1) := by decide +kernel
theorem dX1_kindOf_8 : decode cX1_kindOf 8 = .ok (.getfield 69, 3) := by decide +kernel
theorem dX1_kindOf_11 : decode cX1_kindOf 11 = .ok (.iconst 1, 1) := by decide +kernel
theorem dX1_kindOf_12 : decode cX1_kindOf 12 = .ok (.isub, 1) := by decide +kernel
theorem dX1_kindOf_13 : decode cX1_kindOf 13 = .ok (.if_icmp .ne 7, 3) := by decide +kernel
theorem dX1_kindOf_16 : decode cX1_kindOf 16 = .ok (.iconst 1, 1) := by decide +kernel
theorem dX1_kindOf_17 : decode cX1_kindOf 17 = .ok (.goto 4, 3) := by decide +kernel
theorem dX1_kindOf_20 : decode cX1_kindOf 20 = .ok (.iconst 2, 1) := by decide +kernel
theorem dX1_kindOf_21 : decode cX1_kindOf 21 = .ok (.ireturn, 1) := by decide +kernel
set_option maxRecDepth 20000 in
theorem ggX1_see_X1_wordOf : GoodIn wsX1_see wsX1_wordOf := goodIn_r _ [14, 15, 16, 17, 18, 19, 20, 21, 22, 23, 24, 25, 26, 27, 28, 29, 30, 31, 32, 33] rfl (by decide +kernel)
set_option maxRecDepth 20000 in
theorem gX1_see_X1_wordOf : GoodIn wsX1_see (wsV RX1 106 RX1 yX1_wordOf wsX1_wordOf) := goodIn_app (goodIn_r _ [10, 11, 12, 13] rfl (by decide +kernel)) ggX1_see_X1_wordOf
theorem dX1_see_0 : decode cX1_see 0 = .ok (.iload_n 2, 1) := by decide +kernel
theorem dX1_see_1 : decode cX1_see 1 = .ok (.ifCond .le 17, 3) := by decide +kernel
theorem dX1_see_4 : decode cX1_see 4 = .ok (.iload_n 3, 1) := by decide +kernel
theorem dX1_see_5 : decode cX1_see 5 = .ok (.iload_n 2, 1) := by decide +kernel
theorem dX1_see_6 : decode cX1_see 6 = .ok (.iconst 1, 1) := by decide +kernel
theorem dX1_see_7 : decode cX1_see 7 = .ok (.isub, 1) := by decide +kernel
theorem dX1_see_8 : decode cX1_see 8 = .ok (.ishr, 1) := by decide +kernel
theorem dX1_see_9 : decode cX1_see 9 = .ok (.iconst 1, 1) := by decide +kernel
theorem dX1_see_10 : decode cX1_see 10 = .ok (.iand, 1) := by decide +kernel
theorem dX1_see_11 : decode cX1_see 11 = .ok (.ifCond .ne 7, 3) := by decide +kernel
theorem dX1_see_14 : decode cX1_see 14 = .ok (.iconst 1, 1) := by decide +kernel
theorem dX1_see_15 : decode cX1_see 15 = .ok (.goto 4, 3) := by decide +kernel
theorem dX1_see_18 : decode cX1_see 18 = .ok (.iconst 0, 1) := by decide +kernel
theorem dX1_see_19 : decode cX1_see 19 = .ok (.istore 4, 2) := by decide +kernel
theorem dX1_see_21 : decode cX1_see 21 = .ok (.iload_n 2, 1) := by decide +kernel
theorem dX1_see_22 : decode cX1_see 22 = .ok (.aload_n 1, 1) := by decide +kernel
theorem dX1_see_23 : decode cX1_see 23 = .ok (.getfield 69, 3) := by decide +kernel
theorem dX1_see_26 : decode cX1_see 26 = .ok (.iconst 1, 1) := by decide +kernel
theorem dX1_see_27 : decode cX1_see 27 = .ok (.isub, 1) := by decide +kernel
theorem dX1_see_28 : decode cX1_see 28 = .ok (.if_icmp .ge 15, 3) := by decide +kernel
theorem dX1_see_31 : decode cX1_see 31 = .ok (.iload_n 3, 1) := by decide +kernel
theorem dX1_see_32 : decode cX1_see 32 = .ok (.iload_n 2, 1) := by decide +kernel
theorem dX1_see_33 : decode cX1_see 33 = .ok (.ishr, 1) := by decide +kernel
theorem dX1_see_34 : decode cX1_see 34 = .ok (.iconst 1, 1) := by decide +kernel
theorem dX1_see_35 : decode cX1_see 35 = .ok (.iand, 1) := by decide +kernel
theorem dX1_see_36 : decode cX1_see 36 = .ok (.ifCond .ne 7, 3) := by decide +kernel
theorem dX1_see_39 : decode cX1_see 39 = .ok (.iconst 1, 1) := by decide +kernel
theorem dX1_see_40 : decode cX1_see 40 = .ok (.goto 4, 3) := by decide +kernel
theorem dX1_see_43 : decode cX1_see 43 = .ok (.iconst 0, 1) := by decide +kernel
theorem dX1_see_44 : decode cX1_see 44 = .ok (.istore 5, 2) := by decide +kernel
theorem dX1_see_46 : decode cX1_see 46 = .ok (.aload_n 0, 1) := by decide +kernel
theorem dX1_see_47 : decode cX1_see 47 = .ok (.getfield 27, 3) := by decide +kernel
theorem dX1_see_50 : decode cX1_see 50 = .ok (.bipush 100, 2) := by decide +kernel
theorem dX1_see_52 : decode cX1_see 52 = .ok (.iload 4, 2) := by decide +kernel
theorem dX1_see_54 : decode cX1_see 54 = .ok (.ifCond .eq 14, 3) := by decide +kernel
theorem dX1_see_57 : decode cX1_see 57 = .ok (.aload_n 0, 1) := by decide +kernel
theorem dX1_see_58 : decode cX1_see 58 = .ok (.getfield 24, 3) := by decide +kernel
theorem dX1_see_61 : decode cX1_see 61 = .ok (.iload_n 2, 1) := by decide +kernel
theorem dX1_see_62 : decode cX1_see 62 = .ok (.iconst 1, 1) := by decide +kernel
theorem dX1_see_63 : decode cX1_see 63 = .ok (.isub, 1) := by decide +kernel
theorem dX1_see_64 : decode cX1_see 64 = .ok (.iaload, 1) := by decide +kernel
theorem dX1_see_65 : decode cX1_see 65 = .ok (.goto 4, 3) := by decide +kernel
theorem dX1_see_68 : decode cX1_see 68 = .ok (.iconst (-1), 1) := by decide +kernel
theorem dX1_see_69 : decode cX1_see 69 = .ok (.iastore, 1) := by decide +kernel
theorem dX1_see_70 : decode cX1_see 70 = .ok (.aload_n 0, 1) := by decide +kernel
theorem dX1_see_71 : decode cX1_see 71 = .ok (.getfield 27, 3) := by decide +kernel
theorem dX1_see_74 : decode cX1_see 74 = .ok (.bipush 101, 2) := by decide +kernel
theorem dX1_see_76 : decode cX1_see 76 = .ok (.iload 5, 2) := by decide +kernel
theorem dX1_see_78 : decode cX1_see 78 = .ok (.ifCond .eq 14, 3) := by decide +kernel
theorem dX1_see_81 : decode cX1_see 81 = .ok (.aload_n 0, 1) := by decide +kernel
theorem dX1_see_82 : decode cX1_see 82 = .ok (.getfield 24, 3) := by decide +kernel
theorem dX1_see_85 : decode cX1_see 85 = .ok (.iload_n 2, 1) := by decide +kernel
theorem dX1_see_86 : decode cX1_see 86 = .ok (.iconst 1, 1) := by decide +kernel
theorem dX1_see_87 : decode cX1_see 87 = .ok (.iadd, 1) := by decide +kernel
theorem dX1_see_88 : decode cX1_see 88 = .ok (.iaload, 1) := by decide +kernel
theorem dX1_see_89 : decode cX1_see 89 = .ok (.goto 4, 3) := by decide +kernel
theorem dX1_see_92 : decode cX1_see 92 = .ok (.iconst (-1), 1) := by decide +kernel
theorem dX1_see_93 : decode cX1_see 93 = .ok (.iastore, 1) := by decide +kernel
theorem dX1_see_94 : decode cX1_see 94 = .ok (.aload_n 0, 1) := by decide +kernel
theorem dX1_see_95 : decode cX1_see 95 = .ok (.getfield 27, 3) := by decide +kernel
theorem dX1_see_98 : decode cX1_see 98 = .ok (.bipush 102, 2) := by decide +kernel
theorem dX1_see_100 : decode cX1_see 100 = .ok (.aload_n 0, 1) := by decide +kernel
theorem dX1_see_101 : decode cX1_see 101 = .ok (.getfield 24, 3) := by decide +kernel
theorem dX1_see_104 : decode cX1_see 104 = .ok (.iload_n 2, 1) := by decide +kernel
theorem dX1_see_105 : decode cX1_see 105 = .ok (.iaload, 1) := by decide +kernel
theorem dX1_see_106 : decode cX1_see 106 = .ok (.iastore, 1) := by decide +kernel
theorem dX1_see_107 : decode cX1_see 107 = .ok (.aload_n 0, 1) := by decide +kernel
theorem dX1_see_108 : decode cX1_see 108 = .ok (.getfield 27, 3) := by decide +kernel
theorem dX1_see_111 : decode cX1_see 111 = .ok (.bipush 103, 2) := by decide +kernel
theorem dX1_see_113 : decode cX1_see 113 = .ok (.aload_n 1, 1) := by decide +kernel
theorem dX1_see_114 : decode cX1_see 114 = .ok (.getfield 90, 3) := by decide +kernel
theorem dX1_see_117 : decode cX1_see 117 = .ok (.iload_n 2, 1) := by decide +kernel
theorem dX1_see_118 : decode cX1_see 118 = .ok (.iaload, 1) := by decide +kernel
theorem dX1_see_119 : decode cX1_see 119 = .ok (.iastore, 1) := by decide +kernel
theorem dX1_see_120 : decode cX1_see 120 = .ok (.aload_n 0, 1) := by decide +kernel
theorem dX1_see_121 : decode cX1_see 121 = .ok (.getfield 27, 3) := by decide +kernel
theorem dX1_see_124 : decode cX1_see 124 = .ok (.bipush 104, 2) := by decide +kernel
theorem dX1_see_126 : decode cX1_see 126 = .ok (.iload_n 2, 1) := by decide +kernel
theorem dX1_see_127 : decode cX1_see 127 = .ok (.ifCond .ne 11, 3) := by decide +kernel
theorem dX1_see_130 : decode cX1_see 130 = .ok (.aload_n 0, 1) := by decide +kernel
theorem dX1_see_131 : decode cX1_see 131 = .ok (.aload_n 1, 1) := by decide +kernel
theorem dX1_see_132 : decode cX1_see 132 = .ok (.invokevirtual 106, 3) := by decide +kernel
theorem dX1_see_135 : decode cX1_see 135 = .ok (.goto 4, 3) := by decide +kernel
theorem dX1_see_138 : decode cX1_see 138 = .ok (.iconst (-1), 1) := by decide +kernel
theorem dX1_see_139 : decode cX1_see 139 = .ok (.iastore, 1) := by decide +kernel
theorem dX1_see_140 : decode cX1_see 140 = .ok (.aload_n 1, 1) := by decide +kernel
theorem dX1_see_141 : decode cX1_see 141 = .ok (.getfield 103, 3) := by decide +kernel
theorem dX1_see_144 : decode cX1_see 144 = .ok (.iload_n 2, 1) := by decide +kernel
theorem dX1_see_145 : decode cX1_see 145 = .ok (.iconst 4, 1) := by decide +kernel
theorem dX1_see_146 : decode cX1_see 146 = .ok (.imul, 1) := by decide +kernel
theorem dX1_see_147 : decode cX1_see 147 = .ok (.aload_n 0, 1) := by decide +kernel
theorem dX1_see_148 : decode cX1_see 148 = .ok (.getfield 27, 3) := by decide +kernel
theorem dX1_see_151 : decode cX1_see 151 = .ok (.bipush 106, 2) := by decide +kernel
theorem dX1_see_153 : decode cX1_see 153 = .ok (.iconst 4, 1) := by decide +kernel
theorem dX1_see_154 : decode cX1_see 154 = .ok (.invokestatic 43, 3) := by decide +kernel
theorem dX1_see_157 : decode cX1_see 157 = .ok (.return_, 1) := by decide +kernel
theorem dX1_wordOf_0 : decode cX1_wordOf 0 = .ok (.aload_n 1, 1) := by decide +kernel
theorem dX1_wordOf_1 : decode cX1_wordOf 1 = .ok (.getfield 63, 3) := by decide +kernel
theorem dX1_wordOf_4 : decode cX1_wordOf 4 = .ok (.aload_n 0, 1) := by decide +kernel
theorem dX1_wordOf_5 : decode cX1_wordOf 5 = .ok (.getfield 49, 3) := by decide +kernel
theorem dX1_wordOf_8 : decode cX1_wordOf 8 = .ok (.if_icmp .ge 15, 3) := by decide +kernel
theorem dX1_wordOf_11 : decode cX1_wordOf 11 = .ok (.aload_n 0, 1) := by decide +kernel
theorem dX1_wordOf_12 : decode cX1_wordOf 12 = .ok (.getfield 17, 3) := by decide +kernel
theorem dX1_wordOf_15 : decode cX1_wordOf 15 = .ok (.aload_n 1, 1) := by decide +kernel
theorem dX1_wordOf_16 : decode cX1_wordOf 16 = .ok (.getfield 63, 3) := by decide +kernel
theorem dX1_wordOf_19 : decode cX1_wordOf 19 = .ok (.iaload, 1) := by decide +kernel
theorem dX1_wordOf_20 : decode cX1_wordOf 20 = .ok (.goto 4, 3) := by decide +kernel
theorem dX1_wordOf_23 : decode cX1_wordOf 23 = .ok (.iconst (-1), 1) := by decide +kernel
theorem dX1_wordOf_24 : decode cX1_wordOf 24 = .ok (.ireturn, 1) := by decide +kernel
set_option maxRecDepth 20000 in
theorem ggX1_act_X8_firstAct : GoodIn wsX1_act wsX8_firstAct := goodIn_r _ [15, 16, 34, 35, 36, 37, 38, 39, 40, 41, 42, 43, 44, 45] rfl (by decide +kernel)
set_option maxRecDepth 20000 in
theorem gX1_act_X8_firstAct : GoodIn wsX1_act (wsV RX1 110 RX8 yX8_firstAct wsX8_firstAct) := goodIn_app (goodIn_r _ [11, 12, 13, 14] rfl (by decide +kernel)) ggX1_act_X8_firstAct
set_option maxRecDepth 20000 in
theorem ggX1_act_J9_floorMod_7cf53 : GoodIn wsX1_act wsJ9_floorMod_7cf53 := goodIn_r _ [20] rfl (by decide +kernel)
set_option maxRecDepth 20000 in
theorem gX1_act_J9_floorMod_7cf53 : GoodIn wsX1_act (va_wsS RX1 125 yJ9_floorMod_7cf53 wsJ9_floorMod_7cf53) := goodIn_app (goodIn_r _ [17, 18, 19] rfl (by decide +kernel)) ggX1_act_J9_floorMod_7cf53
set_option maxRecDepth 20000 in
theorem ggX1_act_X5_put : GoodIn wsX1_act wsX5_put := goodIn_r _ [25, 26, 27, 28, 54, 55, 56, 57, 58, 59, 60, 61] rfl (by decide +kernel)
set_option maxRecDepth 20000 in
theorem gX1_act_X5_put : GoodIn wsX1_act (wsV RX1 128 RX5 yX5_put wsX5_put) := goodIn_app (goodIn_r _ [21, 22, 23, 24] rfl (by decide +kernel)) ggX1_act_X5_put
set_option maxRecDepth 20000 in
theorem ggX1_act_X1_wordOf : GoodIn wsX1_act wsX1_wordOf := goodIn_r _ [33, 10, 8, 9, 54, 55, 56, 57, 58, 59, 60, 61, 46, 47, 48, 49, 50, 51, 52, 53] rfl (by decide +kernel)
set_option maxRecDepth 20000 in
theorem gX1_act_X1_wordOf : GoodIn wsX1_act (wsV RX1 106 RX1 yX1_wordOf wsX1_wordOf) := goodIn_app (goodIn_r _ [29, 30, 31, 32] rfl (by decide +kernel)) ggX1_act_X1_wordOf
theorem dX1_act_0 : decode cX1_act 0 = .ok (.aload_n 3, 1) := by decide +kernel
theorem dX1_act_1 : decode cX1_act 1 = .ok (.iload 4, 2) := by decide +kernel
theorem dX1_act_3 : decode cX1_act 3 = .ok (.invokevirtual 110, 3) := by decide +kernel
theorem dX1_act_6 : decode cX1_act 6 = .ok (.istore 5, 2) := by decide +kernel
theorem dX1_act_8 : decode cX1_act 8 = .ok (.iload 5, 2) := by decide +kernel
theorem dX1_act_10 : decode cX1_act 10 = .ok (.aload_n 3, 1) := by decide +kernel
theorem dX1_act_11 : decode cX1_act 11 = .ok (.getfield 114, 3) := by decide +kernel
theorem dX1_act_14 : decode cX1_act 14 = .ok (.iload 4, 2) := by decide +kernel
theorem dX1_act_16 : decode cX1_act 16 = .ok (.iaload, 1) := by decide +kernel
theorem dX1_act_17 : decode cX1_act 17 = .ok (.if_icmp .ge 203, 3) := by decide +kernel
theorem dX1_act_20 : decode cX1_act 20 = .ok (.aload_n 3, 1) := by decide +kernel
theorem dX1_act_21 : decode cX1_act 21 = .ok (.getfield 117, 3) := by decide +kernel
theorem dX1_act_24 : decode cX1_act 24 = .ok (.iload 5, 2) := by decide +kernel
theorem dX1_act_26 : decode cX1_act 26 = .ok (.iaload, 1) := by decide +kernel
theorem dX1_act_27 : decode cX1_act 27 = .ok (.istore 6, 2) := by decide +kernel
theorem dX1_act_29 : decode cX1_act 29 = .ok (.aload_n 0, 1) := by decide +kernel
theorem dX1_act_30 : decode cX1_act 30 = .ok (.getfield 27, 3) := by decide +kernel
theorem dX1_act_33 : decode cX1_act 33 = .ok (.aload_n 3, 1) := by decide +kernel
theorem dX1_act_34 : decode cX1_act 34 = .ok (.getfield 119, 3) := by decide +kernel
theorem dX1_act_37 : decode cX1_act 37 = .ok (.iload 5, 2) := by decide +kernel
theorem dX1_act_39 : decode cX1_act 39 = .ok (.iaload, 1) := by decide +kernel
theorem dX1_act_40 : decode cX1_act 40 = .ok (.iaload, 1) := by decide +kernel
theorem dX1_act_41 : decode cX1_act 41 = .ok (.aload_n 0, 1) := by decide +kernel
theorem dX1_act_42 : decode cX1_act 42 = .ok (.getfield 27, 3) := by decide +kernel
theorem dX1_act_45 : decode cX1_act 45 = .ok (.aload_n 3, 1) := by decide +kernel
theorem dX1_act_46 : decode cX1_act 46 = .ok (.getfield 122, 3) := by decide +kernel
theorem dX1_act_49 : decode cX1_act 49 = .ok (.iload 5, 2) := by decide +kernel
theorem dX1_act_51 : decode cX1_act 51 = .ok (.iaload, 1) := by decide +kernel
theorem dX1_act_52 : decode cX1_act 52 = .ok (.iaload, 1) := by decide +kernel
theorem dX1_act_53 : decode cX1_act 53 = .ok (.iadd, 1) := by decide +kernel
theorem dX1_act_54 : decode cX1_act 54 = .ok (.istore 7, 2) := by decide +kernel
theorem dX1_act_56 : decode cX1_act 56 = .ok (.iload 7, 2) := by decide +kernel
theorem dX1_act_58 : decode cX1_act 58 = .ok (.bipush 64, 2) := by decide +kernel
theorem dX1_act_60 : decode cX1_act 60 = .ok (.invokestatic 125, 3) := by decide +kernel
theorem dX1_act_63 : decode cX1_act 63 = .ok (.istore 8, 2) := by decide +kernel
theorem dX1_act_65 : decode cX1_act 65 = .ok (.iload 6, 2) := by decide +kernel
theorem dX1_act_67 : decode cX1_act 67 = .ok (.bipush 113, 2) := by decide +kernel
theorem dX1_act_69 : decode cX1_act 69 = .ok (.if_icmp .ne 15, 3) := by decide +kernel
theorem dX1_act_72 : decode cX1_act 72 = .ok (.aload_n 0, 1) := by decide +kernel
theorem dX1_act_73 : decode cX1_act 73 = .ok (.getfield 27, 3) := by decide +kernel
theorem dX1_act_76 : decode cX1_act 76 = .ok (.bipush 102, 2) := by decide +kernel
theorem dX1_act_78 : decode cX1_act 78 = .ok (.iload 8, 2) := by decide +kernel
theorem dX1_act_80 : decode cX1_act 80 = .ok (.iastore, 1) := by decide +kernel
theorem dX1_act_81 : decode cX1_act 81 = .ok (.goto 133, 3) := by decide +kernel
theorem dX1_act_84 : decode cX1_act 84 = .ok (.iload 6, 2) := by decide +kernel
theorem dX1_act_86 : decode cX1_act 86 = .ok (.bipush 106, 2) := by decide +kernel
theorem dX1_act_88 : decode cX1_act 88 = .ok (.if_icmp .lt 22, 3) := by decide +kernel
theorem dX1_act_91 : decode cX1_act 91 = .ok (.iload 6, 2) := by decide +kernel
theorem dX1_act_93 : decode cX1_act 93 = .ok (.bipush 109, 2) := by decide +kernel
theorem dX1_act_95 : decode cX1_act 95 = .ok (.if_icmp .gt 15, 3) := by decide +kernel
theorem dX1_act_98 : decode cX1_act 98 = .ok (.aload_n 0, 1) := by decide +kernel
theorem dX1_act_99 : decode cX1_act 99 = .ok (.getfield 27, 3) := by decide +kernel
theorem dX1_act_102 : decode cX1_act 102 = .ok (.iload 6, 2) := by decide +kernel
theorem dX1_act_104 : decode cX1_act 104 = .ok (.iload 8, 2) := by decide +kernel
theorem dX1_act_106 : decode cX1_act 106 = .ok (.iastore, 1) := by decide +kernel
theorem dX1_act_107 : decode cX1_act 107 = .ok (.goto 107, 3) := by decide +kernel
theorem dX1_act_110 : decode cX1_act 110 = .ok (.iload 6, 2) := by decide +kernel
theorem dX1_act_112 : decode cX1_act 112 = .ok (.bipush 115, 2) := by decide +kernel
theorem dX1_act_114 : decode cX1_act 114 = .ok (.if_icmp .ne 56, 3) := by decide +kernel
theorem dX1_act_117 : decode cX1_act 117 = .ok (.iload_n 2, 1) := by decide +kernel
theorem dX1_act_118 : decode cX1_act 118 = .ok (.aload_n 1, 1) := by decide +kernel
theorem dX1_act_119 : decode cX1_act 119 = .ok (.getfield 69, 3) := by decide +kernel
theorem dX1_act_122 : decode cX1_act 122 = .ok (.iconst 1, 1) := by decide +kernel
theorem dX1_act_123 : decode cX1_act 123 = .ok (.isub, 1) := by decide +kernel
theorem dX1_act_124 : decode cX1_act 124 = .ok (.if_icmp .ne 46, 3) := by decide +kernel
theorem dX1_act_127 : decode cX1_act 127 = .ok (.aload_n 1, 1) := by decide +kernel
theorem dX1_act_128 : decode cX1_act 128 = .ok (.getfield 60, 3) := by decide +kernel
theorem dX1_act_131 : decode cX1_act 131 = .ok (.aload_n 0, 1) := by decide +kernel
theorem dX1_act_132 : decode cX1_act 132 = .ok (.getfield 49, 3) := by decide +kernel
theorem dX1_act_135 : decode cX1_act 135 = .ok (.if_icmp .ge 21, 3) := by decide +kernel
theorem dX1_act_138 : decode cX1_act 138 = .ok (.aload_n 0, 1) := by decide +kernel
theorem dX1_act_139 : decode cX1_act 139 = .ok (.getfield 17, 3) := by decide +kernel
theorem dX1_act_142 : decode cX1_act 142 = .ok (.aload_n 1, 1) := by decide +kernel
theorem dX1_act_143 : decode cX1_act 143 = .ok (.getfield 60, 3) := by decide +kernel
theorem dX1_act_146 : decode cX1_act 146 = .ok (.iaload, 1) := by decide +kernel
theorem dX1_act_147 : decode cX1_act 147 = .ok (.iload 8, 2) := by decide +kernel
theorem dX1_act_149 : decode cX1_act 149 = .ok (.if_icmp .ne 7, 3) := by decide +kernel
theorem dX1_act_152 : decode cX1_act 152 = .ok (.iconst 1, 1) := by decide +kernel
theorem dX1_act_153 : decode cX1_act 153 = .ok (.goto 4, 3) := by decide +kernel
theorem dX1_act_156 : decode cX1_act 156 = .ok (.iconst 0, 1) := by decide +kernel
theorem dX1_act_157 : decode cX1_act 157 = .ok (.istore 9, 2) := by decide +kernel
theorem dX1_act_159 : decode cX1_act 159 = .ok (.aload_n 1, 1) := by decide +kernel
theorem dX1_act_160 : decode cX1_act 160 = .ok (.iload 8, 2) := by decide +kernel
theorem dX1_act_162 : decode cX1_act 162 = .ok (.iload 9, 2) := by decide +kernel
theorem dX1_act_164 : decode cX1_act 164 = .ok (.invokevirtual 128, 3) := by decide +kernel
theorem dX1_act_167 : decode cX1_act 167 = .ok (.goto 47, 3) := by decide +kernel
theorem dX1_act_170 : decode cX1_act 170 = .ok (.iload 6, 2) := by decide +kernel
theorem dX1_act_172 : decode cX1_act 172 = .ok (.bipush 116, 2) := by decide +kernel
theorem dX1_act_174 : decode cX1_act 174 = .ok (.if_icmp .ne 40, 3) := by decide +kernel
theorem dX1_act_177 : decode cX1_act 177 = .ok (.iload_n 2, 1) := by decide +kernel
theorem dX1_act_178 : decode cX1_act 178 = .ok (.ifCond .ne 36, 3) := by decide +kernel
theorem dX1_act_181 : decode cX1_act 181 = .ok (.aload_n 1, 1) := by decide +kernel
theorem dX1_act_182 : decode cX1_act 182 = .ok (.getfield 63, 3) := by decide +kernel
theorem dX1_act_185 : decode cX1_act 185 = .ok (.aload_n 0, 1) := by decide +kernel
theorem dX1_act_186 : decode cX1_act 186 = .ok (.getfield 49, 3) := by decide +kernel
theorem dX1_act_189 : decode cX1_act 189 = .ok (.if_icmp .ge 25, 3) := by decide +kernel
theorem dX1_act_192 : decode cX1_act 192 = .ok (.aload_n 1, 1) := by decide +kernel
theorem dX1_act_193 : decode cX1_act 193 = .ok (.dup, 1) := by decide +kernel
theorem dX1_act_194 : decode cX1_act 194 = .ok (.getfield 63, 3) := by decide +kernel
theorem dX1_act_197 : decode cX1_act 197 = .ok (.iconst 1, 1) := by decide +kernel
theorem dX1_act_198 : decode cX1_act 198 = .ok (.iadd, 1) := by decide +kernel
theorem dX1_act_199 : decode cX1_act 199 = .ok (.putfield 63, 3) := by decide +kernel
theorem dX1_act_202 : decode cX1_act 202 = .ok (.aload_n 0, 1) := by decide +kernel
theorem dX1_act_203 : decode cX1_act 203 = .ok (.getfield 27, 3) := by decide +kernel
theorem dX1_act_206 : decode cX1_act 206 = .ok (.bipush 104, 2) := by decide +kernel
theorem dX1_act_208 : decode cX1_act 208 = .ok (.aload_n 0, 1) := by decide +kernel
theorem dX1_act_209 : decode cX1_act 209 = .ok (.aload_n 1, 1) := by decide +kernel
theorem dX1_act_210 : decode cX1_act 210 = .ok (.invokevirtual 106, 3) := by decide +kernel
theorem dX1_act_213 : decode cX1_act 213 = .ok (.iastore, 1) := by decide +kernel
theorem dX1_act_214 : decode cX1_act 214 = .ok (.iinc 5 1, 3) := by decide +kernel
theorem dX1_act_217 : decode cX1_act 217 = .ok (.goto (-209), 3) := by decide +kernel
theorem dX1_act_220 : decode cX1_act 220 = .ok (.return_, 1) := by decide +kernel
theorem dX1_keep_0 : decode cX1_keep 0 = .ok (.aload_n 0, 1) := by decide +kernel
theorem dX1_keep_1 : decode cX1_keep 1 = .ok (.getfield 27, 3) := by decide +kernel
theorem dX1_keep_4 : decode cX1_keep 4 = .ok (.bipush 102, 2) := by decide +kernel
theorem dX1_keep_6 : decode cX1_keep 6 = .ok (.iaload, 1) := by decide +kernel
theorem dX1_keep_7 : decode cX1_keep 7 = .ok (.aload_n 0, 1) := by decide +kernel
theorem dX1_keep_8 : decode cX1_keep 8 = .ok (.getfield 24, 3) := by decide +kernel
theorem dX1_keep_11 : decode cX1_keep 11 = .ok (.iload_n 2, 1) := by decide +kernel
theorem dX1_keep_12 : decode cX1_keep 12 = .ok (.iaload, 1) := by decide +kernel
theorem dX1_keep_13 : decode cX1_keep 13 = .ok (.if_icmp .eq 7, 3) := by decide +kernel
theorem dX1_keep_16 : decode cX1_keep 16 = .ok (.iconst 1, 1) := by decide +kernel
theorem dX1_keep_17 : decode cX1_keep 17 = .ok (.goto 4, 3) := by decide +kernel
theorem dX1_keep_20 : decode cX1_keep 20 = .ok (.iconst 0, 1) := by decide +kernel
theorem dX1_keep_21 : decode cX1_keep 21 = .ok (.istore_n 3, 1) := by decide +kernel
theorem dX1_keep_22 : decode cX1_keep 22 = .ok (.aload_n 1, 1) := by decide +kernel
theorem dX1_keep_23 : decode cX1_keep 23 = .ok (.getfield 66, 3) := by decide +kernel
theorem dX1_keep_26 : decode cX1_keep 26 = .ok (.iload_n 2, 1) := by decide +kernel
theorem dX1_keep_27 : decode cX1_keep 27 = .ok (.aload_n 0, 1) := by decide +kernel
theorem dX1_keep_28 : decode cX1_keep 28 = .ok (.getfield 27, 3) := by decide +kernel
theorem dX1_keep_31 : decode cX1_keep 31 = .ok (.bipush 102, 2) := by decide +kernel
theorem dX1_keep_33 : decode cX1_keep 33 = .ok (.iaload, 1) := by decide +kernel
theorem dX1_keep_34 : decode cX1_keep 34 = .ok (.iastore, 1) := by decide +kernel
theorem dX1_keep_35 : decode cX1_keep 35 = .ok (.iconst 0, 1) := by decide +kernel
theorem dX1_keep_36 : decode cX1_keep 36 = .ok (.istore 4, 2) := by decide +kernel
theorem dX1_keep_38 : decode cX1_keep 38 = .ok (.iload 4, 2) := by decide +kernel
theorem dX1_keep_40 : decode cX1_keep 40 = .ok (.iconst 4, 1) := by decide +kernel
theorem dX1_keep_41 : decode cX1_keep 41 = .ok (.if_icmp .ge 41, 3) := by decide +kernel
theorem dX1_keep_44 : decode cX1_keep 44 = .ok (.iload_n 3, 1) := by decide +kernel
theorem dX1_keep_45 : decode cX1_keep 45 = .ok (.aload_n 0, 1) := by decide +kernel
theorem dX1_keep_46 : decode cX1_keep 46 = .ok (.getfield 27, 3) := by decide +kernel
theorem dX1_keep_49 : decode cX1_keep 49 = .ok (.bipush 106, 2) := by decide +kernel
theorem dX1_keep_51 : decode cX1_keep 51 = .ok (.iload 4, 2) := by decide +kernel
theorem dX1_keep_53 : decode cX1_keep 53 = .ok (.iadd, 1) := by decide +kernel
theorem dX1_keep_54 : decode cX1_keep 54 = .ok (.iaload, 1) := by decide +kernel
theorem dX1_keep_55 : decode cX1_keep 55 = .ok (.aload_n 1, 1) := by decide +kernel
theorem dX1_keep_56 : decode cX1_keep 56 = .ok (.getfield 103, 3) := by decide +kernel
theorem dX1_keep_59 : decode cX1_keep 59 = .ok (.iload_n 2, 1) := by decide +kernel
theorem dX1_keep_60 : decode cX1_keep 60 = .ok (.iconst 4, 1) := by decide +kernel
theorem dX1_keep_61 : decode cX1_keep 61 = .ok (.imul, 1) := by decide +kernel
theorem dX1_keep_62 : decode cX1_keep 62 = .ok (.iload 4, 2) := by decide +kernel
theorem dX1_keep_64 : decode cX1_keep 64 = .ok (.iadd, 1) := by decide +kernel
theorem dX1_keep_65 : decode cX1_keep 65 = .ok (.iaload, 1) := by decide +kernel
theorem dX1_keep_66 : decode cX1_keep 66 = .ok (.if_icmp .eq 7, 3) := by decide +kernel
theorem dX1_keep_69 : decode cX1_keep 69 = .ok (.iconst 1, 1) := by decide +kernel
theorem dX1_keep_70 : decode cX1_keep 70 = .ok (.goto 4, 3) := by decide +kernel
theorem dX1_keep_73 : decode cX1_keep 73 = .ok (.iconst 0, 1) := by decide +kernel
theorem dX1_keep_74 : decode cX1_keep 74 = .ok (.ior, 1) := by decide +kernel
theorem dX1_keep_75 : decode cX1_keep 75 = .ok (.istore_n 3, 1) := by decide +kernel
theorem dX1_keep_76 : decode cX1_keep 76 = .ok (.iinc 4 1, 3) := by decide +kernel
theorem dX1_keep_79 : decode cX1_keep 79 = .ok (.goto (-41), 3) := by decide +kernel
theorem dX1_keep_82 : decode cX1_keep 82 = .ok (.aload_n 0, 1) := by decide +kernel
theorem dX1_keep_83 : decode cX1_keep 83 = .ok (.getfield 27, 3) := by decide +kernel
theorem dX1_keep_86 : decode cX1_keep 86 = .ok (.bipush 106, 2) := by decide +kernel
theorem dX1_keep_88 : decode cX1_keep 88 = .ok (.aload_n 1, 1) := by decide +kernel
theorem dX1_keep_89 : decode cX1_keep 89 = .ok (.getfield 103, 3) := by decide +kernel
theorem dX1_keep_92 : decode cX1_keep 92 = .ok (.iload_n 2, 1) := by decide +kernel
theorem dX1_keep_93 : decode cX1_keep 93 = .ok (.iconst 4, 1) := by decide +kernel
theorem dX1_keep_94 : decode cX1_keep 94 = .ok (.imul, 1) := by decide +kernel
theorem dX1_keep_95 : decode cX1_keep 95 = .ok (.iconst 4, 1) := by decide +kernel
theorem dX1_keep_96 : decode cX1_keep 96 = .ok (.invokestatic 43, 3) := by decide +kernel
theorem dX1_keep_99 : decode cX1_keep 99 = .ok (.iload_n 3, 1) := by decide +kernel
theorem dX1_keep_100 : decode cX1_keep 100 = .ok (.ireturn, 1) := by decide +kernel
theorem dX2_init_0 : decode cX2_init 0 = .ok (.aload_n 0, 1) := by decide +kernel
theorem dX2_init_1 : decode cX2_init 1 = .ok (.invokespecial 3, 3) := by decide +kernel
theorem dX2_init_4 : decode cX2_init 4 = .ok (.aload_n 0, 1) := by decide +kernel
theorem dX2_init_5 : decode cX2_init 5 = .ok (.bipush 60, 2) := by decide +kernel
theorem dX2_init_7 : decode cX2_init 7 = .ok (.newarray .int, 2) := by decide +kernel
theorem dX2_init_9 : decode cX2_init 9 = .ok (.putfield 9, 3) := by decide +kernel
theorem dX2_init_12 : decode cX2_init 12 = .ok (.aload_n 0, 1) := by decide +kernel
theorem dX2_init_13 : decode cX2_init 13 = .ok (.bipush 60, 2) := by decide +kernel
theorem dX2_init_15 : decode cX2_init 15 = .ok (.newarray .int, 2) := by decide +kernel
theorem dX2_init_17 : decode cX2_init 17 = .ok (.putfield 15, 3) := by decide +kernel
theorem dX2_init_20 : decode cX2_init 20 = .ok (.aload_n 0, 1) := by decide +kernel
theorem dX2_init_21 : decode cX2_init 21 = .ok (.bipush 60, 2) := by decide +kernel
theorem dX2_init_23 : decode cX2_init 23 = .ok (.newarray .int, 2) := by decide +kernel
theorem dX2_init_25 : decode cX2_init 25 = .ok (.putfield 18, 3) := by decide +kernel
theorem dX2_init_28 : decode cX2_init 28 = .ok (.aload_n 0, 1) := by decide +kernel
theorem dX2_init_29 : decode cX2_init 29 = .ok (.bipush 60, 2) := by decide +kernel
theorem dX2_init_31 : decode cX2_init 31 = .ok (.newarray .int, 2) := by decide +kernel
theorem dX2_init_33 : decode cX2_init 33 = .ok (.putfield 21, 3) := by decide +kernel
theorem dX2_init_36 : decode cX2_init 36 = .ok (.aload_n 0, 1) := by decide +kernel
theorem dX2_init_37 : decode cX2_init 37 = .ok (.bipush 17, 2) := by decide +kernel
theorem dX2_init_39 : decode cX2_init 39 = .ok (.bipush 17, 2) := by decide +kernel
theorem dX2_init_41 : decode cX2_init 41 = .ok (.multianewarray 24 2, 4) := by decide +kernel
theorem dX2_init_45 : decode cX2_init 45 = .ok (.putfield 26, 3) := by decide +kernel
theorem dX2_init_48 : decode cX2_init 48 = .ok (.aload_n 0, 1) := by decide +kernel
theorem dX2_init_49 : decode cX2_init 49 = .ok (.iconst (-1), 1) := by decide +kernel
theorem dX2_init_50 : decode cX2_init 50 = .ok (.putfield 29, 3) := by decide +kernel
theorem dX2_init_53 : decode cX2_init 53 = .ok (.return_, 1) := by decide +kernel
theorem dX2_add_0 : decode cX2_add 0 = .ok (.aload_n 0, 1) := by decide +kernel
theorem dX2_add_1 : decode cX2_add 1 = .ok (.getfield 33, 3) := by decide +kernel
theorem dX2_add_4 : decode cX2_add 4 = .ok (.bipush 60, 2) := by decide +kernel
theorem dX2_add_6 : decode cX2_add 6 = .ok (.if_icmp .lt 5, 3) := by decide +kernel
theorem dX2_add_9 : decode cX2_add 9 = .ok (.iconst (-1), 1) := by decide +kernel
theorem dX2_add_10 : decode cX2_add 10 = .ok (.ireturn, 1) := by decide +kernel
theorem dX2_add_11 : decode cX2_add 11 = .ok (.aload_n 0, 1) := by decide +kernel
theorem dX2_add_12 : decode cX2_add 12 = .ok (.getfield 9, 3) := by decide +kernel
theorem dX2_add_15 : decode cX2_add 15 = .ok (.aload_n 0, 1) := by decide +kernel
theorem dX2_add_16 : decode cX2_add 16 = .ok (.getfield 33, 3) := by decide +kernel
theorem dX2_add_19 : decode cX2_add 19 = .ok (.iload_n 1, 1) := by decide +kernel
theorem dX2_add_20 : decode cX2_add 20 = .ok (.iastore, 1) := by decide +kernel
theorem dX2_add_21 : decode cX2_add 21 = .ok (.aload_n 0, 1) := by decide +kernel
theorem dX2_add_22 : decode cX2_add 22 = .ok (.getfield 15, 3) := by decide +kernel
theorem dX2_add_25 : decode cX2_add 25 = .ok (.aload_n 0, 1) := by decide +kernel
theorem dX2_add_26 : decode cX2_add 26 = .ok (.getfield 33, 3) := by decide +kernel
theorem dX2_add_29 : decode cX2_add 29 = .ok (.iload_n 2, 1) := by decide +kernel
theorem dX2_add_30 : decode cX2_add 30 = .ok (.iastore, 1) := by decide +kernel
theorem dX2_add_31 : decode cX2_add 31 = .ok (.aload_n 0, 1) := by decide +kernel
theorem dX2_add_32 : decode cX2_add 32 = .ok (.getfield 18, 3) := by decide +kernel
theorem dX2_add_35 : decode cX2_add 35 = .ok (.aload_n 0, 1) := by decide +kernel
theorem dX2_add_36 : decode cX2_add 36 = .ok (.getfield 33, 3) := by decide +kernel
theorem dX2_add_39 : decode cX2_add 39 = .ok (.iload_n 3, 1) := by decide +kernel
theorem dX2_add_40 : decode cX2_add 40 = .ok (.iastore, 1) := by decide +kernel
theorem dX2_add_41 : decode cX2_add 41 = .ok (.aload_n 0, 1) := by decide +kernel
theorem dX2_add_42 : decode cX2_add 42 = .ok (.getfield 21, 3) := by decide +kernel
theorem dX2_add_45 : decode cX2_add 45 = .ok (.aload_n 0, 1) := by decide +kernel
theorem dX2_add_46 : decode cX2_add 46 = .ok (.getfield 33, 3) := by decide +kernel
theorem dX2_add_49 : decode cX2_add 49 = .ok (.iload 4, 2) := by decide +kernel
theorem dX2_add_51 : decode cX2_add 51 = .ok (.iastore, 1) := by decide +kernel
theorem dX2_add_52 : decode cX2_add 52 = .ok (.aload_n 0, 1) := by decide +kernel
theorem dX2_add_53 : decode cX2_add 53 = .ok (.dup, 1) := by decide +kernel
theorem dX2_add_54 : decode cX2_add 54 = .ok (.getfield 33, 3) := by decide +kernel
theorem dX2_add_57 : decode cX2_add 57 = .ok (.iconst 1, 1) := by decide +kernel
theorem dX2_add_58 : decode cX2_add 58 = .ok (.iadd, 1) := by decide +kernel
theorem dX2_add_59 : decode cX2_add 59 = .ok (.putfield 33, 3) := by decide +kernel
theorem dX2_add_62 : decode cX2_add 62 = .ok (.aload_n 0, 1) := by decide +kernel
theorem dX2_add_63 : decode cX2_add 63 = .ok (.getfield 33, 3) := by decide +kernel
theorem dX2_add_66 : decode cX2_add 66 = .ok (.iconst 1, 1) := by decide +kernel
theorem dX2_add_67 : decode cX2_add 67 = .ok (.isub, 1) := by decide +kernel
theorem dX2_add_68 : decode cX2_add 68 = .ok (.ireturn, 1) := by decide +kernel
theorem dX2_least_0 : decode cX2_least 0 = .ok (.aload_n 0, 1) := by decide +kernel
theorem dX2_least_1 : decode cX2_least 1 = .ok (.getfield 26, 3) := by decide +kernel
theorem dX2_least_4 : decode cX2_least 4 = .ok (.iload_n 1, 1) := by decide +kernel
theorem dX2_least_5 : decode cX2_least 5 = .ok (.iconst 1, 1) := by decide +kernel
theorem dX2_least_6 : decode cX2_least 6 = .ok (.iadd, 1) := by decide +kernel
theorem dX2_least_7 : decode cX2_least 7 = .ok (.aaload, 1) := by decide +kernel
theorem dX2_least_8 : decode cX2_least 8 = .ok (.iload_n 1, 1) := by decide +kernel
theorem dX2_least_9 : decode cX2_least 9 = .ok (.iaload, 1) := by decide +kernel
theorem dX2_least_10 : decode cX2_least 10 = .ok (.ineg, 1) := by decide +kernel
theorem dX2_least_11 : decode cX2_least 11 = .ok (.ireturn, 1) := by decide +kernel
theorem dX2_greatest_0 : decode cX2_greatest 0 = .ok (.aload_n 0, 1) := by decide +kernel
theorem dX2_greatest_1 : decode cX2_greatest 1 = .ok (.getfield 26, 3) := by decide +kernel
theorem dX2_greatest_4 : decode cX2_greatest 4 = .ok (.iload_n 1, 1) := by decide +kernel
theorem dX2_greatest_5 : decode cX2_greatest 5 = .ok (.aaload, 1) := by decide +kernel
theorem dX2_greatest_6 : decode cX2_greatest 6 = .ok (.iload_n 1, 1) := by decide +kernel
theorem dX2_greatest_7 : decode cX2_greatest 7 = .ok (.iconst 1, 1) := by decide +kernel
theorem dX2_greatest_8 : decode cX2_greatest 8 = .ok (.iadd, 1) := by decide +kernel
theorem dX2_greatest_9 : decode cX2_greatest 9 = .ok (.iaload, 1) := by decide +kernel
theorem dX2_greatest_10 : decode cX2_greatest 10 = .ok (.ireturn, 1) := by decide +kernel
set_option maxRecDepth 20000 in
theorem ggX2_spread_X2_greatest : GoodIn wsX2_spread wsX2_greatest := goodIn_r _ [5, 6, 11, 12, 13, 14, 15, 16, 17, 18, 19] rfl (by decide +kernel)
set_option maxRecDepth 20000 in
theorem gX2_spread_X2_greatest : GoodIn wsX2_spread (wsV RX2 36 RX2 yX2_greatest wsX2_greatest) := goodIn_app (goodIn_r _ [1, 2, 3, 4] rfl (by decide +kernel)) ggX2_spread_X2_greatest
set_option maxRecDepth 20000 in
theorem ggX2_spread_X2_least : GoodIn wsX2_spread wsX2_least := goodIn_r _ [10, 6, 11, 12, 13, 14, 15, 16, 17, 18, 19] rfl (by decide +kernel)
set_option maxRecDepth 20000 in
theorem gX2_spread_X2_least : GoodIn wsX2_spread (wsV RX2 40 RX2 yX2_least wsX2_least) := goodIn_app (goodIn_r _ [7, 8, 9, 4] rfl (by decide +kernel)) ggX2_spread_X2_least
theorem dX2_spread_0 : decode cX2_spread 0 = .ok (.aload_n 0, 1) := by decide +kernel
theorem dX2_spread_1 : decode cX2_spread 1 = .ok (.iload_n 1, 1) := by decide +kernel
theorem dX2_spread_2 : decode cX2_spread 2 = .ok (.invokevirtual 36, 3) := by decide +kernel
theorem dX2_spread_5 : decode cX2_spread 5 = .ok (.aload_n 0, 1) := by decide +kernel
theorem dX2_spread_6 : decode cX2_spread 6 = .ok (.iload_n 1, 1) := by decide +kernel
theorem dX2_spread_7 : decode cX2_spread 7 = .ok (.invokevirtual 40, 3) := by decide +kernel
theorem dX2_spread_10 : decode cX2_spread 10 = .ok (.isub, 1) := by decide +kernel
theorem dX2_spread_11 : decode cX2_spread 11 = .ok (.ireturn, 1) := by decide +kernel
set_option maxRecDepth 20000 in
theorem ggX2_fit_X2_toldBy : GoodIn wsX2_fit wsX2_toldBy := goodIn_r _ [8, 9, 10, 27, 28, 29, 30, 31, 32, 33, 34, 35] rfl (by decide +kernel)
set_option maxRecDepth 20000 in
theorem gX2_fit_X2_toldBy : GoodIn wsX2_fit (wsV RX2 43 RX2 yX2_toldBy wsX2_toldBy) := goodIn_app (goodIn_r _ [4, 5, 6, 7] rfl (by decide +kernel)) ggX2_fit_X2_toldBy
set_option maxRecDepth 20000 in
theorem ggX2_fit_X2_weigh : GoodIn wsX2_fit wsX2_weigh := goodIn_r _ [14, 15, 16, 17, 18, 2, 1, 3, 19, 20, 21, 22, 23, 24, 25, 7, 26, 27, 28, 29, 30, 31, 32, 33, 34, 35] rfl (by decide +kernel)
set_option maxRecDepth 20000 in
theorem gX2_fit_X2_weigh : GoodIn wsX2_fit (wsV RX2 49 RX2 yX2_weigh wsX2_weigh) := goodIn_app (goodIn_r _ [11, 12, 13, 7] rfl (by decide +kernel)) ggX2_fit_X2_weigh
theorem dX2_fit_0 : decode cX2_fit 0 = .ok (.aload_n 0, 1) := by decide +kernel
theorem dX2_fit_1 : decode cX2_fit 1 = .ok (.iload_n 2, 1) := by decide +kernel
theorem dX2_fit_2 : decode cX2_fit 2 = .ok (.invokevirtual 43, 3) := by decide +kernel
theorem dX2_fit_5 : decode cX2_fit 5 = .ok (.istore_n 3, 1) := by decide +kernel
theorem dX2_fit_6 : decode cX2_fit 6 = .ok (.iload_n 3, 1) := by decide +kernel
theorem dX2_fit_7 : decode cX2_fit 7 = .ok (.aload_n 0, 1) := by decide +kernel
theorem dX2_fit_8 : decode cX2_fit 8 = .ok (.getfield 29, 3) := by decide +kernel
theorem dX2_fit_11 : decode cX2_fit 11 = .ok (.if_icmp .ne 13, 3) := by decide +kernel
theorem dX2_fit_14 : decode cX2_fit 14 = .ok (.aload_n 0, 1) := by decide +kernel
theorem dX2_fit_15 : decode cX2_fit 15 = .ok (.getfield 46, 3) := by decide +kernel
theorem dX2_fit_18 : decode cX2_fit 18 = .ok (.iload_n 1, 1) := by decide +kernel
theorem dX2_fit_19 : decode cX2_fit 19 = .ok (.iconst 1, 1) := by decide +kernel
theorem dX2_fit_20 : decode cX2_fit 20 = .ok (.iadd, 1) := by decide +kernel
theorem dX2_fit_21 : decode cX2_fit 21 = .ok (.if_icmp .eq 9, 3) := by decide +kernel
theorem dX2_fit_24 : decode cX2_fit 24 = .ok (.aload_n 0, 1) := by decide +kernel
theorem dX2_fit_25 : decode cX2_fit 25 = .ok (.iload_n 1, 1) := by decide +kernel
theorem dX2_fit_26 : decode cX2_fit 26 = .ok (.iload_n 3, 1) := by decide +kernel
theorem dX2_fit_27 : decode cX2_fit 27 = .ok (.invokevirtual 49, 3) := by decide +kernel
theorem dX2_fit_30 : decode cX2_fit 30 = .ok (.aload_n 0, 1) := by decide +kernel
theorem dX2_fit_31 : decode cX2_fit 31 = .ok (.getfield 53, 3) := by decide +kernel
theorem dX2_fit_34 : decode cX2_fit 34 = .ok (.ifCond .ne 7, 3) := by decide +kernel
theorem dX2_fit_37 : decode cX2_fit 37 = .ok (.iconst 1, 1) := by decide +kernel
theorem dX2_fit_38 : decode cX2_fit 38 = .ok (.goto 4, 3) := by decide +kernel
theorem dX2_fit_41 : decode cX2_fit 41 = .ok (.iconst 0, 1) := by decide +kernel
theorem dX2_fit_42 : decode cX2_fit 42 = .ok (.ireturn, 1) := by decide +kernel
theorem dX2_toldBy_0 : decode cX2_toldBy 0 = .ok (.iconst 0, 1) := by decide +kernel
theorem dX2_toldBy_1 : decode cX2_toldBy 1 = .ok (.istore_n 2, 1) := by decide +kernel
theorem dX2_toldBy_2 : decode cX2_toldBy 2 = .ok (.iload_n 2, 1) := by decide +kernel
theorem dX2_toldBy_3 : decode cX2_toldBy 3 = .ok (.aload_n 0, 1) := by decide +kernel
theorem dX2_toldBy_4 : decode cX2_toldBy 4 = .ok (.getfield 33, 3) := by decide +kernel
theorem dX2_toldBy_7 : decode cX2_toldBy 7 = .ok (.if_icmp .ge 19, 3) := by decide +kernel
theorem dX2_toldBy_10 : decode cX2_toldBy 10 = .ok (.aload_n 0, 1) := by decide +kernel
theorem dX2_toldBy_11 : decode cX2_toldBy 11 = .ok (.getfield 21, 3) := by decide +kernel
theorem dX2_toldBy_14 : decode cX2_toldBy 14 = .ok (.iload_n 2, 1) := by decide +kernel
theorem dX2_toldBy_15 : decode cX2_toldBy 15 = .ok (.iaload, 1) := by decide +kernel
theorem dX2_toldBy_16 : decode cX2_toldBy 16 = .ok (.iload_n 1, 1) := by decide +kernel
theorem dX2_toldBy_17 : decode cX2_toldBy 17 = .ok (.if_icmp .gt 9, 3) := by decide +kernel
theorem dX2_toldBy_20 : decode cX2_toldBy 20 = .ok (.iinc 2 1, 3) := by decide +kernel
theorem dX2_toldBy_23 : decode cX2_toldBy 23 = .ok (.goto (-21), 3) := by decide +kernel
theorem dX2_toldBy_26 : decode cX2_toldBy 26 = .ok (.iload_n 2, 1) := by decide +kernel
theorem dX2_toldBy_27 : decode cX2_toldBy 27 = .ok (.ireturn, 1) := by decide +kernel
set_option maxRecDepth 20000 in
theorem ggX2_weigh_X2_tighten : GoodIn wsX2_weigh wsX2_tighten := goodIn_r _ [16, 8, 5, 1, 2, 3, 4, 17, 18, 19, 20, 21, 22, 23, 24, 25] rfl (by decide +kernel)
set_option maxRecDepth 20000 in
theorem gX2_weigh_X2_tighten : GoodIn wsX2_weigh (wsV RX2 63 RX2 yX2_tighten wsX2_tighten) := goodIn_app (goodIn_r _ [12, 13, 14, 15] rfl (by decide +kernel)) ggX2_weigh_X2_tighten
theorem dX2_weigh_0 : decode cX2_weigh 0 = .ok (.aload_n 0, 1) := by decide +kernel
theorem dX2_weigh_1 : decode cX2_weigh 1 = .ok (.iload_n 1, 1) := by decide +kernel
theorem dX2_weigh_2 : decode cX2_weigh 2 = .ok (.bipush 16, 2) := by decide +kernel
theorem dX2_weigh_4 : decode cX2_weigh 4 = .ok (.invokestatic 57, 3) := by decide +kernel
theorem dX2_weigh_7 : decode cX2_weigh 7 = .ok (.iconst 1, 1) := by decide +kernel
theorem dX2_weigh_8 : decode cX2_weigh 8 = .ok (.iadd, 1) := by decide +kernel
theorem dX2_weigh_9 : decode cX2_weigh 9 = .ok (.putfield 46, 3) := by decide +kernel
theorem dX2_weigh_12 : decode cX2_weigh 12 = .ok (.aload_n 0, 1) := by decide +kernel
theorem dX2_weigh_13 : decode cX2_weigh 13 = .ok (.iload_n 2, 1) := by decide +kernel
theorem dX2_weigh_14 : decode cX2_weigh 14 = .ok (.putfield 29, 3) := by decide +kernel
theorem dX2_weigh_17 : decode cX2_weigh 17 = .ok (.aload_n 0, 1) := by decide +kernel
theorem dX2_weigh_18 : decode cX2_weigh 18 = .ok (.iconst 0, 1) := by decide +kernel
theorem dX2_weigh_19 : decode cX2_weigh 19 = .ok (.putfield 53, 3) := by decide +kernel
theorem dX2_weigh_22 : decode cX2_weigh 22 = .ok (.iconst 0, 1) := by decide +kernel
theorem dX2_weigh_23 : decode cX2_weigh 23 = .ok (.istore_n 3, 1) := by decide +kernel
theorem dX2_weigh_24 : decode cX2_weigh 24 = .ok (.iload_n 3, 1) := by decide +kernel
theorem dX2_weigh_25 : decode cX2_weigh 25 = .ok (.aload_n 0, 1) := by decide +kernel
theorem dX2_weigh_26 : decode cX2_weigh 26 = .ok (.getfield 46, 3) := by decide +kernel
theorem dX2_weigh_29 : decode cX2_weigh 29 = .ok (.if_icmp .ge 53, 3) := by decide +kernel
theorem dX2_weigh_32 : decode cX2_weigh 32 = .ok (.iconst 0, 1) := by decide +kernel
theorem dX2_weigh_33 : decode cX2_weigh 33 = .ok (.istore 4, 2) := by decide +kernel
theorem dX2_weigh_35 : decode cX2_weigh 35 = .ok (.iload 4, 2) := by decide +kernel
theorem dX2_weigh_37 : decode cX2_weigh 37 = .ok (.aload_n 0, 1) := by decide +kernel
theorem dX2_weigh_38 : decode cX2_weigh 38 = .ok (.getfield 46, 3) := by decide +kernel
theorem dX2_weigh_41 : decode cX2_weigh 41 = .ok (.if_icmp .ge 35, 3) := by decide +kernel
theorem dX2_weigh_44 : decode cX2_weigh 44 = .ok (.aload_n 0, 1) := by decide +kernel
theorem dX2_weigh_45 : decode cX2_weigh 45 = .ok (.getfield 26, 3) := by decide +kernel
theorem dX2_weigh_48 : decode cX2_weigh 48 = .ok (.iload_n 3, 1) := by decide +kernel
theorem dX2_weigh_49 : decode cX2_weigh 49 = .ok (.aaload, 1) := by decide +kernel
theorem dX2_weigh_50 : decode cX2_weigh 50 = .ok (.iload 4, 2) := by decide +kernel
theorem dX2_weigh_52 : decode cX2_weigh 52 = .ok (.iload 4, 2) := by decide +kernel
theorem dX2_weigh_54 : decode cX2_weigh 54 = .ok (.iload_n 3, 1) := by decide +kernel
theorem dX2_weigh_55 : decode cX2_weigh 55 = .ok (.isub, 1) := by decide +kernel
theorem dX2_weigh_56 : decode cX2_weigh 56 = .ok (.iload 4, 2) := by decide +kernel
theorem dX2_weigh_58 : decode cX2_weigh 58 = .ok (.iload_n 3, 1) := by decide +kernel
theorem dX2_weigh_59 : decode cX2_weigh 59 = .ok (.if_icmp .le 8, 3) := by decide +kernel
theorem dX2_weigh_62 : decode cX2_weigh 62 = .ok (.bipush 9, 2) := by decide +kernel
theorem dX2_weigh_64 : decode cX2_weigh 64 = .ok (.goto 4, 3) := by decide +kernel
theorem dX2_weigh_67 : decode cX2_weigh 67 = .ok (.iconst 1, 1) := by decide +kernel
theorem dX2_weigh_68 : decode cX2_weigh 68 = .ok (.imul, 1) := by decide +kernel
theorem dX2_weigh_69 : decode cX2_weigh 69 = .ok (.iastore, 1) := by decide +kernel
theorem dX2_weigh_70 : decode cX2_weigh 70 = .ok (.iinc 4 1, 3) := by decide +kernel
theorem dX2_weigh_73 : decode cX2_weigh 73 = .ok (.goto (-38), 3) := by decide +kernel
theorem dX2_weigh_76 : decode cX2_weigh 76 = .ok (.iinc 3 1, 3) := by decide +kernel
theorem dX2_weigh_79 : decode cX2_weigh 79 = .ok (.goto (-55), 3) := by decide +kernel
theorem dX2_weigh_82 : decode cX2_weigh 82 = .ok (.iconst 0, 1) := by decide +kernel
theorem dX2_weigh_83 : decode cX2_weigh 83 = .ok (.istore_n 3, 1) := by decide +kernel
theorem dX2_weigh_84 : decode cX2_weigh 84 = .ok (.iload_n 3, 1) := by decide +kernel
theorem dX2_weigh_85 : decode cX2_weigh 85 = .ok (.iload_n 2, 1) := by decide +kernel
theorem dX2_weigh_86 : decode cX2_weigh 86 = .ok (.if_icmp .ge 78, 3) := by decide +kernel
theorem dX2_weigh_89 : decode cX2_weigh 89 = .ok (.aload_n 0, 1) := by decide +kernel
theorem dX2_weigh_90 : decode cX2_weigh 90 = .ok (.getfield 53, 3) := by decide +kernel
theorem dX2_weigh_93 : decode cX2_weigh 93 = .ok (.ifCond .ne 71, 3) := by decide +kernel
theorem dX2_weigh_96 : decode cX2_weigh 96 = .ok (.aload_n 0, 1) := by decide +kernel
theorem dX2_weigh_97 : decode cX2_weigh 97 = .ok (.getfield 15, 3) := by decide +kernel
theorem dX2_weigh_100 : decode cX2_weigh 100 = .ok (.iload_n 3, 1) := by decide +kernel
theorem dX2_weigh_101 : decode cX2_weigh 101 = .ok (.iaload, 1) := by decide +kernel
theorem dX2_weigh_102 : decode cX2_weigh 102 = .ok (.iconst 1, 1) := by decide +kernel
theorem dX2_weigh_103 : decode cX2_weigh 103 = .ok (.iadd, 1) := by decide +kernel
theorem dX2_weigh_104 : decode cX2_weigh 104 = .ok (.istore 4, 2) := by decide +kernel
theorem dX2_weigh_106 : decode cX2_weigh 106 = .ok (.aload_n 0, 1) := by decide +kernel
theorem dX2_weigh_107 : decode cX2_weigh 107 = .ok (.aload_n 0, 1) := by decide +kernel
theorem dX2_weigh_108 : decode cX2_weigh 108 = .ok (.aload_n 0, 1) := by decide +kernel
theorem dX2_weigh_109 : decode cX2_weigh 109 = .ok (.getfield 9, 3) := by decide +kernel
theorem dX2_weigh_112 : decode cX2_weigh 112 = .ok (.iload_n 3, 1) := by decide +kernel
theorem dX2_weigh_113 : decode cX2_weigh 113 = .ok (.iaload, 1) := by decide +kernel
theorem dX2_weigh_114 : decode cX2_weigh 114 = .ok (.iload 4, 2) := by decide +kernel
theorem dX2_weigh_116 : decode cX2_weigh 116 = .ok (.aload_n 0, 1) := by decide +kernel
theorem dX2_weigh_117 : decode cX2_weigh 117 = .ok (.getfield 18, 3) := by decide +kernel
theorem dX2_weigh_120 : decode cX2_weigh 120 = .ok (.iload_n 3, 1) := by decide +kernel
theorem dX2_weigh_121 : decode cX2_weigh 121 = .ok (.iaload, 1) := by decide +kernel
theorem dX2_weigh_122 : decode cX2_weigh 122 = .ok (.invokevirtual 63, 3) := by decide +kernel
theorem dX2_weigh_125 : decode cX2_weigh 125 = .ok (.ifCond .eq 25, 3) := by decide +kernel
theorem dX2_weigh_128 : decode cX2_weigh 128 = .ok (.aload_n 0, 1) := by decide +kernel
theorem dX2_weigh_129 : decode cX2_weigh 129 = .ok (.iload 4, 2) := by decide +kernel
theorem dX2_weigh_131 : decode cX2_weigh 131 = .ok (.aload_n 0, 1) := by decide +kernel
theorem dX2_weigh_132 : decode cX2_weigh 132 = .ok (.getfield 9, 3) := by decide +kernel
theorem dX2_weigh_135 : decode cX2_weigh 135 = .ok (.iload_n 3, 1) := by decide +kernel
theorem dX2_weigh_136 : decode cX2_weigh 136 = .ok (.iaload, 1) := by decide +kernel
theorem dX2_weigh_137 : decode cX2_weigh 137 = .ok (.aload_n 0, 1) := by decide +kernel
theorem dX2_weigh_138 : decode cX2_weigh 138 = .ok (.getfield 18, 3) := by decide +kernel
theorem dX2_weigh_141 : decode cX2_weigh 141 = .ok (.iload_n 3, 1) := by decide +kernel
theorem dX2_weigh_142 : decode cX2_weigh 142 = .ok (.iaload, 1) := by decide +kernel
theorem dX2_weigh_143 : decode cX2_weigh 143 = .ok (.ineg, 1) := by decide +kernel
theorem dX2_weigh_144 : decode cX2_weigh 144 = .ok (.invokevirtual 63, 3) := by decide +kernel
theorem dX2_weigh_147 : decode cX2_weigh 147 = .ok (.ifCond .ne 7, 3) := by decide +kernel
theorem dX2_weigh_150 : decode cX2_weigh 150 = .ok (.iconst 1, 1) := by decide +kernel
theorem dX2_weigh_151 : decode cX2_weigh 151 = .ok (.goto 4, 3) := by decide +kernel
theorem dX2_weigh_154 : decode cX2_weigh 154 = .ok (.iconst 0, 1) := by decide +kernel
theorem dX2_weigh_155 : decode cX2_weigh 155 = .ok (.putfield 53, 3) := by decide +kernel
theorem dX2_weigh_158 : decode cX2_weigh 158 = .ok (.iinc 3 1, 3) := by decide +kernel
theorem dX2_weigh_161 : decode cX2_weigh 161 = .ok (.goto (-77), 3) := by decide +kernel
theorem dX2_weigh_164 : decode cX2_weigh 164 = .ok (.return_, 1) := by decide +kernel
theorem dX2_tighten_0 : decode cX2_tighten 0 = .ok (.iload_n 3, 1) := by decide +kernel
theorem dX2_tighten_1 : decode cX2_tighten 1 = .ok (.aload_n 0, 1) := by decide +kernel
theorem dX2_tighten_2 : decode cX2_tighten 2 = .ok (.getfield 26, 3) := by decide +kernel
theorem dX2_tighten_5 : decode cX2_tighten 5 = .ok (.iload_n 1, 1) := by decide +kernel
theorem dX2_tighten_6 : decode cX2_tighten 6 = .ok (.aaload, 1) := by decide +kernel
theorem dX2_tighten_7 : decode cX2_tighten 7 = .ok (.iload_n 2, 1) := by decide +kernel
theorem dX2_tighten_8 : decode cX2_tighten 8 = .ok (.iaload, 1) := by decide +kernel
theorem dX2_tighten_9 : decode cX2_tighten 9 = .ok (.if_icmp .lt 5, 3) := by decide +kernel
theorem dX2_tighten_12 : decode cX2_tighten 12 = .ok (.iconst 1, 1) := by decide +kernel
theorem dX2_tighten_13 : decode cX2_tighten 13 = .ok (.ireturn, 1) := by decide +kernel
theorem dX2_tighten_14 : decode cX2_tighten 14 = .ok (.iload_n 3, 1) := by decide +kernel
theorem dX2_tighten_15 : decode cX2_tighten 15 = .ok (.aload_n 0, 1) := by decide +kernel
theorem dX2_tighten_16 : decode cX2_tighten 16 = .ok (.getfield 26, 3) := by decide +kernel
theorem dX2_tighten_19 : decode cX2_tighten 19 = .ok (.iload_n 2, 1) := by decide +kernel
theorem dX2_tighten_20 : decode cX2_tighten 20 = .ok (.aaload, 1) := by decide +kernel
theorem dX2_tighten_21 : decode cX2_tighten 21 = .ok (.iload_n 1, 1) := by decide +kernel
theorem dX2_tighten_22 : decode cX2_tighten 22 = .ok (.iaload, 1) := by decide +kernel
theorem dX2_tighten_23 : decode cX2_tighten 23 = .ok (.iadd, 1) := by decide +kernel
theorem dX2_tighten_24 : decode cX2_tighten 24 = .ok (.ifCond .ge 5, 3) := by decide +kernel
theorem dX2_tighten_27 : decode cX2_tighten 27 = .ok (.iconst 0, 1) := by decide +kernel
theorem dX2_tighten_28 : decode cX2_tighten 28 = .ok (.ireturn, 1) := by decide +kernel
theorem dX2_tighten_29 : decode cX2_tighten 29 = .ok (.iconst 0, 1) := by decide +kernel
theorem dX2_tighten_30 : decode cX2_tighten 30 = .ok (.istore 4, 2) := by decide +kernel
theorem dX2_tighten_32 : decode cX2_tighten 32 = .ok (.iload 4, 2) := by decide +kernel
theorem dX2_tighten_34 : decode cX2_tighten 34 = .ok (.aload_n 0, 1) := by decide +kernel
theorem dX2_tighten_35 : decode cX2_tighten 35 = .ok (.getfield 46, 3) := by decide +kernel
theorem dX2_tighten_38 : decode cX2_tighten 38 = .ok (.if_icmp .ge 71, 3) := by decide +kernel
theorem dX2_tighten_41 : decode cX2_tighten 41 = .ok (.iconst 0, 1) := by decide +kernel
theorem dX2_tighten_42 : decode cX2_tighten 42 = .ok (.istore 5, 2) := by decide +kernel
theorem dX2_tighten_44 : decode cX2_tighten 44 = .ok (.iload 5, 2) := by decide +kernel
theorem dX2_tighten_46 : decode cX2_tighten 46 = .ok (.aload_n 0, 1) := by decide +kernel
theorem dX2_tighten_47 : decode cX2_tighten 47 = .ok (.getfield 46, 3) := by decide +kernel
theorem dX2_tighten_50 : decode cX2_tighten 50 = .ok (.if_icmp .ge 53, 3) := by decide +kernel
theorem dX2_tighten_53 : decode cX2_tighten 53 = .ok (.aload_n 0, 1) := by decide +kernel
theorem dX2_tighten_54 : decode cX2_tighten 54 = .ok (.getfield 26, 3) := by decide +kernel
theorem dX2_tighten_57 : decode cX2_tighten 57 = .ok (.iload 4, 2) := by decide +kernel
theorem dX2_tighten_59 : decode cX2_tighten 59 = .ok (.aaload, 1) := by decide +kernel
theorem dX2_tighten_60 : decode cX2_tighten 60 = .ok (.iload 5, 2) := by decide +kernel
theorem dX2_tighten_62 : decode cX2_tighten 62 = .ok (.aload_n 0, 1) := by decide +kernel
theorem dX2_tighten_63 : decode cX2_tighten 63 = .ok (.getfield 26, 3) := by decide +kernel
theorem dX2_tighten_66 : decode cX2_tighten 66 = .ok (.iload 4, 2) := by decide +kernel
theorem dX2_tighten_68 : decode cX2_tighten 68 = .ok (.aaload, 1) := by decide +kernel
theorem dX2_tighten_69 : decode cX2_tighten 69 = .ok (.iload 5, 2) := by decide +kernel
theorem dX2_tighten_71 : decode cX2_tighten 71 = .ok (.iaload, 1) := by decide +kernel
theorem dX2_tighten_72 : decode cX2_tighten 72 = .ok (.aload_n 0, 1) := by decide +kernel
theorem dX2_tighten_73 : decode cX2_tighten 73 = .ok (.getfield 26, 3) := by decide +kernel
theorem dX2_tighten_76 : decode cX2_tighten 76 = .ok (.iload 4, 2) := by decide +kernel
theorem dX2_tighten_78 : decode cX2_tighten 78 = .ok (.aaload, 1) := by decide +kernel
theorem dX2_tighten_79 : decode cX2_tighten 79 = .ok (.iload_n 1, 1) := by decide +kernel
theorem dX2_tighten_80 : decode cX2_tighten 80 = .ok (.iaload, 1) := by decide +kernel
theorem dX2_tighten_81 : decode cX2_tighten 81 = .ok (.iload_n 3, 1) := by decide +kernel
theorem dX2_tighten_82 : decode cX2_tighten 82 = .ok (.iadd, 1) := by decide +kernel
theorem dX2_tighten_83 : decode cX2_tighten 83 = .ok (.aload_n 0, 1) := by decide +kernel
theorem dX2_tighten_84 : decode cX2_tighten 84 = .ok (.getfield 26, 3) := by decide +kernel
theorem dX2_tighten_87 : decode cX2_tighten 87 = .ok (.iload_n 2, 1) := by decide +kernel
theorem dX2_tighten_88 : decode cX2_tighten 88 = .ok (.aaload, 1) := by decide +kernel
theorem dX2_tighten_89 : decode cX2_tighten 89 = .ok (.iload 5, 2) := by decide +kernel
theorem dX2_tighten_91 : decode cX2_tighten 91 = .ok (.iaload, 1) := by decide +kernel
theorem dX2_tighten_92 : decode cX2_tighten 92 = .ok (.iadd, 1) := by decide +kernel
theorem dX2_tighten_93 : decode cX2_tighten 93 = .ok (.invokestatic 57, 3) := by decide +kernel
theorem dX2_tighten_96 : decode cX2_tighten 96 = .ok (.iastore, 1) := by decide +kernel
theorem dX2_tighten_97 : decode cX2_tighten 97 = .ok (.iinc 5 1, 3) := by decide +kernel
theorem dX2_tighten_100 : decode cX2_tighten 100 = .ok (.goto (-56), 3) := by decide +kernel
theorem dX2_tighten_103 : decode cX2_tighten 103 = .ok (.iinc 4 1, 3) := by decide +kernel
theorem dX2_tighten_106 : decode cX2_tighten 106 = .ok (.goto (-74), 3) := by decide +kernel
theorem dX2_tighten_109 : decode cX2_tighten 109 = .ok (.iconst 1, 1) := by decide +kernel
theorem dX2_tighten_110 : decode cX2_tighten 110 = .ok (.ireturn, 1) := by decide +kernel
theorem dX3_init_0 : decode cX3_init 0 = .ok (.aload_n 0, 1) := by decide +kernel
theorem dX3_init_1 : decode cX3_init 1 = .ok (.invokespecial 3, 3) := by decide +kernel
theorem dX3_init_4 : decode cX3_init 4 = .ok (.aload_n 0, 1) := by decide +kernel
theorem dX3_init_5 : decode cX3_init 5 = .ok (.sipush 144, 3) := by decide +kernel
theorem dX3_init_8 : decode cX3_init 8 = .ok (.newarray .int, 2) := by decide +kernel
theorem dX3_init_10 : decode cX3_init 10 = .ok (.putfield 9, 3) := by decide +kernel
theorem dX3_init_13 : decode cX3_init 13 = .ok (.aload_n 0, 1) := by decide +kernel
theorem dX3_init_14 : decode cX3_init 14 = .ok (.bipush 12, 2) := by decide +kernel
theorem dX3_init_16 : decode cX3_init 16 = .ok (.newarray .int, 2) := by decide +kernel
theorem dX3_init_18 : decode cX3_init 18 = .ok (.putfield 15, 3) := by decide +kernel
theorem dX3_init_21 : decode cX3_init 21 = .ok (.aload_n 0, 1) := by decide +kernel
theorem dX3_init_22 : decode cX3_init 22 = .ok (.bipush 12, 2) := by decide +kernel
theorem dX3_init_24 : decode cX3_init 24 = .ok (.newarray .int, 2) := by decide +kernel
theorem dX3_init_26 : decode cX3_init 26 = .ok (.putfield 18, 3) := by decide +kernel
theorem dX3_init_29 : decode cX3_init 29 = .ok (.return_, 1) := by decide +kernel
theorem dX3_all_0 : decode cX3_all 0 = .ok (.iconst 1, 1) := by decide +kernel
theorem dX3_all_1 : decode cX3_all 1 = .ok (.aload_n 0, 1) := by decide +kernel
theorem dX3_all_2 : decode cX3_all 2 = .ok (.getfield 21, 3) := by decide +kernel
theorem dX3_all_5 : decode cX3_all 5 = .ok (.ishl, 1) := by decide +kernel
theorem dX3_all_6 : decode cX3_all 6 = .ok (.iconst 1, 1) := by decide +kernel
theorem dX3_all_7 : decode cX3_all 7 = .ok (.isub, 1) := by decide +kernel
theorem dX3_all_8 : decode cX3_all 8 = .ok (.ireturn, 1) := by decide +kernel
set_option maxRecDepth 20000 in
theorem ggX3_has_X3_isAt : GoodIn wsX3_has wsX3_isAt := goodIn_r _ [9, 2, 10, 11, 12, 13, 14] rfl (by decide +kernel)
set_option maxRecDepth 20000 in
theorem gX3_has_X3_isAt : GoodIn wsX3_has (wsV RX3 31 RX3 yX3_isAt wsX3_isAt) := goodIn_app (goodIn_r _ [5, 6, 7, 8] rfl (by decide +kernel)) ggX3_has_X3_isAt
theorem dX3_has_0 : decode cX3_has 0 = .ok (.iconst 0, 1) := by decide +kernel
theorem dX3_has_1 : decode cX3_has 1 = .ok (.istore_n 2, 1) := by decide +kernel
theorem dX3_has_2 : decode cX3_has 2 = .ok (.iload_n 2, 1) := by decide +kernel
theorem dX3_has_3 : decode cX3_has 3 = .ok (.aload_n 0, 1) := by decide +kernel
theorem dX3_has_4 : decode cX3_has 4 = .ok (.getfield 21, 3) := by decide +kernel
theorem dX3_has_7 : decode cX3_has 7 = .ok (.if_icmp .ge 41, 3) := by decide +kernel
theorem dX3_has_10 : decode cX3_has 10 = .ok (.aload_n 0, 1) := by decide +kernel
theorem dX3_has_11 : decode cX3_has 11 = .ok (.getfield 15, 3) := by decide +kernel
theorem dX3_has_14 : decode cX3_has 14 = .ok (.iload_n 2, 1) := by decide +kernel
theorem dX3_has_15 : decode cX3_has 15 = .ok (.iaload, 1) := by decide +kernel
theorem dX3_has_16 : decode cX3_has 16 = .ok (.aload_n 1, 1) := by decide +kernel
theorem dX3_has_17 : decode cX3_has 17 = .ok (.getfield 25, 3) := by decide +kernel
theorem dX3_has_20 : decode cX3_has 20 = .ok (.if_icmp .ne 22, 3) := by decide +kernel
theorem dX3_has_23 : decode cX3_has 23 = .ok (.aload_n 0, 1) := by decide +kernel
theorem dX3_has_24 : decode cX3_has 24 = .ok (.iload_n 2, 1) := by decide +kernel
theorem dX3_has_25 : decode cX3_has 25 = .ok (.aload_n 1, 1) := by decide +kernel
theorem dX3_has_26 : decode cX3_has 26 = .ok (.getfield 30, 3) := by decide +kernel
theorem dX3_has_29 : decode cX3_has 29 = .ok (.iconst 0, 1) := by decide +kernel
theorem dX3_has_30 : decode cX3_has 30 = .ok (.aload_n 1, 1) := by decide +kernel
theorem dX3_has_31 : decode cX3_has 31 = .ok (.getfield 25, 3) := by decide +kernel
theorem dX3_has_34 : decode cX3_has 34 = .ok (.invokevirtual 31, 3) := by decide +kernel
theorem dX3_has_37 : decode cX3_has 37 = .ok (.ifCond .eq 5, 3) := by decide +kernel
theorem dX3_has_40 : decode cX3_has 40 = .ok (.iconst 1, 1) := by decide +kernel
theorem dX3_has_41 : decode cX3_has 41 = .ok (.ireturn, 1) := by decide +kernel
theorem dX3_has_42 : decode cX3_has 42 = .ok (.iinc 2 1, 3) := by decide +kernel
theorem dX3_has_45 : decode cX3_has 45 = .ok (.goto (-43), 3) := by decide +kernel
theorem dX3_has_48 : decode cX3_has 48 = .ok (.iconst 0, 1) := by decide +kernel
theorem dX3_has_49 : decode cX3_has 49 = .ok (.ireturn, 1) := by decide +kernel
theorem dX3_add_0 : decode cX3_add 0 = .ok (.aload_n 0, 1) := by decide +kernel
theorem dX3_add_1 : decode cX3_add 1 = .ok (.getfield 21, 3) := by decide +kernel
theorem dX3_add_4 : decode cX3_add 4 = .ok (.bipush 12, 2) := by decide +kernel
theorem dX3_add_6 : decode cX3_add 6 = .ok (.if_icmp .ge 12, 3) := by decide +kernel
theorem dX3_add_9 : decode cX3_add 9 = .ok (.aload_n 1, 1) := by decide +kernel
theorem dX3_add_10 : decode cX3_add 10 = .ok (.getfield 25, 3) := by decide +kernel
theorem dX3_add_13 : decode cX3_add 13 = .ok (.bipush 12, 2) := by decide +kernel
theorem dX3_add_15 : decode cX3_add 15 = .ok (.if_icmp .le 5, 3) := by decide +kernel
theorem dX3_add_18 : decode cX3_add 18 = .ok (.iconst (-1), 1) := by decide +kernel
theorem dX3_add_19 : decode cX3_add 19 = .ok (.ireturn, 1) := by decide +kernel
theorem dX3_add_20 : decode cX3_add 20 = .ok (.aload_n 0, 1) := by decide +kernel
theorem dX3_add_21 : decode cX3_add 21 = .ok (.getfield 18, 3) := by decide +kernel
theorem dX3_add_24 : decode cX3_add 24 = .ok (.aload_n 0, 1) := by decide +kernel
theorem dX3_add_25 : decode cX3_add 25 = .ok (.getfield 21, 3) := by decide +kernel
theorem dX3_add_28 : decode cX3_add 28 = .ok (.iconst 1, 1) := by decide +kernel
theorem dX3_add_29 : decode cX3_add 29 = .ok (.iastore, 1) := by decide +kernel
theorem dX3_add_30 : decode cX3_add 30 = .ok (.iconst 0, 1) := by decide +kernel
theorem dX3_add_31 : decode cX3_add 31 = .ok (.istore_n 2, 1) := by decide +kernel
theorem dX3_add_32 : decode cX3_add 32 = .ok (.iload_n 2, 1) := by decide +kernel
theorem dX3_add_33 : decode cX3_add 33 = .ok (.aload_n 1, 1) := by decide +kernel
theorem dX3_add_34 : decode cX3_add 34 = .ok (.getfield 25, 3) := by decide +kernel
theorem dX3_add_37 : decode cX3_add 37 = .ok (.if_icmp .ge 53, 3) := by decide +kernel
theorem dX3_add_40 : decode cX3_add 40 = .ok (.aload_n 0, 1) := by decide +kernel
theorem dX3_add_41 : decode cX3_add 41 = .ok (.getfield 9, 3) := by decide +kernel
theorem dX3_add_44 : decode cX3_add 44 = .ok (.aload_n 0, 1) := by decide +kernel
theorem dX3_add_45 : decode cX3_add 45 = .ok (.getfield 21, 3) := by decide +kernel
theorem dX3_add_48 : decode cX3_add 48 = .ok (.bipush 12, 2) := by decide +kernel
theorem dX3_add_50 : decode cX3_add 50 = .ok (.imul, 1) := by decide +kernel
theorem dX3_add_51 : decode cX3_add 51 = .ok (.iload_n 2, 1) := by decide +kernel
theorem dX3_add_52 : decode cX3_add 52 = .ok (.iadd, 1) := by decide +kernel
theorem dX3_add_53 : decode cX3_add 53 = .ok (.aload_n 1, 1) := by decide +kernel
theorem dX3_add_54 : decode cX3_add 54 = .ok (.getfield 30, 3) := by decide +kernel
theorem dX3_add_57 : decode cX3_add 57 = .ok (.iload_n 2, 1) := by decide +kernel
theorem dX3_add_58 : decode cX3_add 58 = .ok (.iaload, 1) := by decide +kernel
theorem dX3_add_59 : decode cX3_add 59 = .ok (.iastore, 1) := by decide +kernel
theorem dX3_add_60 : decode cX3_add 60 = .ok (.aload_n 1, 1) := by decide +kernel
theorem dX3_add_61 : decode cX3_add 61 = .ok (.getfield 30, 3) := by decide +kernel
theorem dX3_add_64 : decode cX3_add 64 = .ok (.iload_n 2, 1) := by decide +kernel
theorem dX3_add_65 : decode cX3_add 65 = .ok (.iaload, 1) := by decide +kernel
theorem dX3_add_66 : decode cX3_add 66 = .ok (.bipush 32, 2) := by decide +kernel
theorem dX3_add_68 : decode cX3_add 68 = .ok (.if_icmp .ne 16, 3) := by decide +kernel
theorem dX3_add_71 : decode cX3_add 71 = .ok (.aload_n 0, 1) := by decide +kernel
theorem dX3_add_72 : decode cX3_add 72 = .ok (.getfield 18, 3) := by decide +kernel
theorem dX3_add_75 : decode cX3_add 75 = .ok (.aload_n 0, 1) := by decide +kernel
theorem dX3_add_76 : decode cX3_add 76 = .ok (.getfield 21, 3) := by decide +kernel
theorem dX3_add_79 : decode cX3_add 79 = .ok (.dup2, 1) := by decide +kernel
theorem dX3_add_80 : decode cX3_add 80 = .ok (.iaload, 1) := by decide +kernel
theorem dX3_add_81 : decode cX3_add 81 = .ok (.iconst 1, 1) := by decide +kernel
theorem dX3_add_82 : decode cX3_add 82 = .ok (.iadd, 1) := by decide +kernel
theorem dX3_add_83 : decode cX3_add 83 = .ok (.iastore, 1) := by decide +kernel
theorem dX3_add_84 : decode cX3_add 84 = .ok (.iinc 2 1, 3) := by decide +kernel
theorem dX3_add_87 : decode cX3_add 87 = .ok (.goto (-55), 3) := by decide +kernel
theorem dX3_add_90 : decode cX3_add 90 = .ok (.aload_n 0, 1) := by decide +kernel
theorem dX3_add_91 : decode cX3_add 91 = .ok (.getfield 15, 3) := by decide +kernel
theorem dX3_add_94 : decode cX3_add 94 = .ok (.aload_n 0, 1) := by decide +kernel
theorem dX3_add_95 : decode cX3_add 95 = .ok (.getfield 21, 3) := by decide +kernel
theorem dX3_add_98 : decode cX3_add 98 = .ok (.aload_n 1, 1) := by decide +kernel
theorem dX3_add_99 : decode cX3_add 99 = .ok (.getfield 25, 3) := by decide +kernel
theorem dX3_add_102 : decode cX3_add 102 = .ok (.iastore, 1) := by decide +kernel
theorem dX3_add_103 : decode cX3_add 103 = .ok (.aload_n 0, 1) := by decide +kernel
theorem dX3_add_104 : decode cX3_add 104 = .ok (.dup, 1) := by decide +kernel
theorem dX3_add_105 : decode cX3_add 105 = .ok (.getfield 21, 3) := by decide +kernel
theorem dX3_add_108 : decode cX3_add 108 = .ok (.iconst 1, 1) := by decide +kernel
theorem dX3_add_109 : decode cX3_add 109 = .ok (.iadd, 1) := by decide +kernel
theorem dX3_add_110 : decode cX3_add 110 = .ok (.putfield 21, 3) := by decide +kernel
theorem dX3_add_113 : decode cX3_add 113 = .ok (.aload_n 0, 1) := by decide +kernel
theorem dX3_add_114 : decode cX3_add 114 = .ok (.getfield 21, 3) := by decide +kernel
theorem dX3_add_117 : decode cX3_add 117 = .ok (.iconst 1, 1) := by decide +kernel
theorem dX3_add_118 : decode cX3_add 118 = .ok (.isub, 1) := by decide +kernel
theorem dX3_add_119 : decode cX3_add 119 = .ok (.ireturn, 1) := by decide +kernel
set_option maxRecDepth 20000 in
theorem ggX3_fittingAt_X3_isAt : GoodIn wsX3_fittingAt wsX3_isAt := goodIn_r _ [7, 2, 8, 12, 13, 14, 15] rfl (by decide +kernel)
set_option maxRecDepth 20000 in
theorem gX3_fittingAt_X3_isAt : GoodIn wsX3_fittingAt (wsV RX3 31 RX3 yX3_isAt wsX3_isAt) := goodIn_app (goodIn_r _ [3, 4, 5, 6] rfl (by decide +kernel)) ggX3_fittingAt_X3_isAt
set_option maxRecDepth 20000 in
theorem ggX3_fittingAt_X11_isLetter : GoodIn wsX3_fittingAt wsX11_isLetter := goodIn_r _ [11] rfl (by decide +kernel)
set_option maxRecDepth 20000 in
theorem gX3_fittingAt_X11_isLetter_n35 : GoodIn wsX3_fittingAt (wsX11_isLetter) := ggX3_fittingAt_X11_isLetter
theorem dX3_fittingAt_0 : decode cX3_fittingAt 0 = .ok (.iconst 0, 1) := by decide +kernel
theorem dX3_fittingAt_1 : decode cX3_fittingAt 1 = .ok (.istore 4, 2) := by decide +kernel
theorem dX3_fittingAt_3 : decode cX3_fittingAt 3 = .ok (.iconst 0, 1) := by decide +kernel
theorem dX3_fittingAt_4 : decode cX3_fittingAt 4 = .ok (.istore 5, 2) := by decide +kernel
theorem dX3_fittingAt_6 : decode cX3_fittingAt 6 = .ok (.iload 5, 2) := by decide +kernel
theorem dX3_fittingAt_8 : decode cX3_fittingAt 8 = .ok (.aload_n 0, 1) := by decide +kernel
theorem dX3_fittingAt_9 : decode cX3_fittingAt 9 = .ok (.getfield 21, 3) := by decide +kernel
theorem dX3_fittingAt_12 : decode cX3_fittingAt 12 = .ok (.if_icmp .ge 57, 3) := by decide +kernel
theorem dX3_fittingAt_15 : decode cX3_fittingAt 15 = .ok (.iload_n 2, 1) := by decide +kernel
theorem dX3_fittingAt_16 : decode cX3_fittingAt 16 = .ok (.aload_n 0, 1) := by decide +kernel
theorem dX3_fittingAt_17 : decode cX3_fittingAt 17 = .ok (.getfield 15, 3) := by decide +kernel
theorem dX3_fittingAt_20 : decode cX3_fittingAt 20 = .ok (.iload 5, 2) := by decide +kernel
theorem dX3_fittingAt_22 : decode cX3_fittingAt 22 = .ok (.iaload, 1) := by decide +kernel
theorem dX3_fittingAt_23 : decode cX3_fittingAt 23 = .ok (.iadd, 1) := by decide +kernel
theorem dX3_fittingAt_24 : decode cX3_fittingAt 24 = .ok (.istore 6, 2) := by decide +kernel
theorem dX3_fittingAt_26 : decode cX3_fittingAt 26 = .ok (.aload_n 0, 1) := by decide +kernel
theorem dX3_fittingAt_27 : decode cX3_fittingAt 27 = .ok (.iload 5, 2) := by decide +kernel
theorem dX3_fittingAt_29 : decode cX3_fittingAt 29 = .ok (.aload_n 1, 1) := by decide +kernel
theorem dX3_fittingAt_30 : decode cX3_fittingAt 30 = .ok (.iload_n 2, 1) := by decide +kernel
theorem dX3_fittingAt_31 : decode cX3_fittingAt 31 = .ok (.iload_n 3, 1) := by decide +kernel
theorem dX3_fittingAt_32 : decode cX3_fittingAt 32 = .ok (.invokevirtual 31, 3) := by decide +kernel
theorem dX3_fittingAt_35 : decode cX3_fittingAt 35 = .ok (.ifCond .eq 28, 3) := by decide +kernel
theorem dX3_fittingAt_38 : decode cX3_fittingAt 38 = .ok (.iload 6, 2) := by decide +kernel
theorem dX3_fittingAt_40 : decode cX3_fittingAt 40 = .ok (.iload_n 3, 1) := by decide +kernel
theorem dX3_fittingAt_41 : decode cX3_fittingAt 41 = .ok (.if_icmp .ge 13, 3) := by decide +kernel
theorem dX3_fittingAt_44 : decode cX3_fittingAt 44 = .ok (.aload_n 1, 1) := by decide +kernel
theorem dX3_fittingAt_45 : decode cX3_fittingAt 45 = .ok (.iload 6, 2) := by decide +kernel
theorem dX3_fittingAt_47 : decode cX3_fittingAt 47 = .ok (.iaload, 1) := by decide +kernel
theorem dX3_fittingAt_48 : decode cX3_fittingAt 48 = .ok (.invokestatic 35, 3) := by decide +kernel
theorem dX3_fittingAt_51 : decode cX3_fittingAt 51 = .ok (.ifCond .ne 12, 3) := by decide +kernel
theorem dX3_fittingAt_54 : decode cX3_fittingAt 54 = .ok (.iload 4, 2) := by decide +kernel
theorem dX3_fittingAt_56 : decode cX3_fittingAt 56 = .ok (.iconst 1, 1) := by decide +kernel
theorem dX3_fittingAt_57 : decode cX3_fittingAt 57 = .ok (.iload 5, 2) := by decide +kernel
theorem dX3_fittingAt_59 : decode cX3_fittingAt 59 = .ok (.ishl, 1) := by decide +kernel
theorem dX3_fittingAt_60 : decode cX3_fittingAt 60 = .ok (.ior, 1) := by decide +kernel
theorem dX3_fittingAt_61 : decode cX3_fittingAt 61 = .ok (.istore 4, 2) := by decide +kernel
theorem dX3_fittingAt_63 : decode cX3_fittingAt 63 = .ok (.iinc 5 1, 3) := by decide +kernel
theorem dX3_fittingAt_66 : decode cX3_fittingAt 66 = .ok (.goto (-60), 3) := by decide +kernel
theorem dX3_fittingAt_69 : decode cX3_fittingAt 69 = .ok (.iload 4, 2) := by decide +kernel
theorem dX3_fittingAt_71 : decode cX3_fittingAt 71 = .ok (.ireturn, 1) := by decide +kernel
theorem dX3_isAt_0 : decode cX3_isAt 0 = .ok (.iload_n 3, 1) := by decide +kernel
theorem dX3_isAt_1 : decode cX3_isAt 1 = .ok (.aload_n 0, 1) := by decide +kernel
theorem dX3_isAt_2 : decode cX3_isAt 2 = .ok (.getfield 15, 3) := by decide +kernel
theorem dX3_isAt_5 : decode cX3_isAt 5 = .ok (.iload_n 1, 1) := by decide +kernel
theorem dX3_isAt_6 : decode cX3_isAt 6 = .ok (.iaload, 1) := by decide +kernel
theorem dX3_isAt_7 : decode cX3_isAt 7 = .ok (.iadd, 1) := by decide +kernel
theorem dX3_isAt_8 : decode cX3_isAt 8 = .ok (.iload 4, 2) := by decide +kernel
theorem dX3_isAt_10 : decode cX3_isAt 10 = .ok (.if_icmp .le 5, 3) := by decide +kernel
theorem dX3_isAt_13 : decode cX3_isAt 13 = .ok (.iconst 0, 1) := by decide +kernel
theorem dX3_isAt_14 : decode cX3_isAt 14 = .ok (.ireturn, 1) := by decide +kernel
theorem dX3_isAt_15 : decode cX3_isAt 15 = .ok (.iconst 0, 1) := by decide +kernel
theorem dX3_isAt_16 : decode cX3_isAt 16 = .ok (.istore 5, 2) := by decide +kernel
theorem dX3_isAt_18 : decode cX3_isAt 18 = .ok (.iload 5, 2) := by decide +kernel
theorem dX3_isAt_20 : decode cX3_isAt 20 = .ok (.aload_n 0, 1) := by decide +kernel
theorem dX3_isAt_21 : decode cX3_isAt 21 = .ok (.getfield 15, 3) := by decide +kernel
theorem dX3_isAt_24 : decode cX3_isAt 24 = .ok (.iload_n 1, 1) := by decide +kernel
theorem dX3_isAt_25 : decode cX3_isAt 25 = .ok (.iaload, 1) := by decide +kernel
theorem dX3_isAt_26 : decode cX3_isAt 26 = .ok (.if_icmp .ge 32, 3) := by decide +kernel
theorem dX3_isAt_29 : decode cX3_isAt 29 = .ok (.aload_n 0, 1) := by decide +kernel
theorem dX3_isAt_30 : decode cX3_isAt 30 = .ok (.getfield 9, 3) := by decide +kernel
theorem dX3_isAt_33 : decode cX3_isAt 33 = .ok (.iload_n 1, 1) := by decide +kernel
theorem dX3_isAt_34 : decode cX3_isAt 34 = .ok (.bipush 12, 2) := by decide +kernel
theorem dX3_isAt_36 : decode cX3_isAt 36 = .ok (.imul, 1) := by decide +kernel
theorem dX3_isAt_37 : decode cX3_isAt 37 = .ok (.iload 5, 2) := by decide +kernel
theorem dX3_isAt_39 : decode cX3_isAt 39 = .ok (.iadd, 1) := by decide +kernel
theorem dX3_isAt_40 : decode cX3_isAt 40 = .ok (.iaload, 1) := by decide +kernel
theorem dX3_isAt_41 : decode cX3_isAt 41 = .ok (.aload_n 2, 1) := by decide +kernel
theorem dX3_isAt_42 : decode cX3_isAt 42 = .ok (.iload_n 3, 1) := by decide +kernel
theorem dX3_isAt_43 : decode cX3_isAt 43 = .ok (.iload 5, 2) := by decide +kernel
theorem dX3_isAt_45 : decode cX3_isAt 45 = .ok (.iadd, 1) := by decide +kernel
theorem dX3_isAt_46 : decode cX3_isAt 46 = .ok (.iaload, 1) := by decide +kernel
theorem dX3_isAt_47 : decode cX3_isAt 47 = .ok (.if_icmp .eq 5, 3) := by decide +kernel
theorem dX3_isAt_50 : decode cX3_isAt 50 = .ok (.iconst 0, 1) := by decide +kernel
theorem dX3_isAt_51 : decode cX3_isAt 51 = .ok (.ireturn, 1) := by decide +kernel
theorem dX3_isAt_52 : decode cX3_isAt 52 = .ok (.iinc 5 1, 3) := by decide +kernel
theorem dX3_isAt_55 : decode cX3_isAt 55 = .ok (.goto (-37), 3) := by decide +kernel
theorem dX3_isAt_58 : decode cX3_isAt 58 = .ok (.iconst 1, 1) := by decide +kernel
theorem dX3_isAt_59 : decode cX3_isAt 59 = .ok (.ireturn, 1) := by decide +kernel
theorem dX4_init_0 : decode cX4_init 0 = .ok (.aload_n 0, 1) := by decide +kernel
theorem dX4_init_1 : decode cX4_init 1 = .ok (.invokespecial 3, 3) := by decide +kernel
theorem dX4_init_4 : decode cX4_init 4 = .ok (.aload_n 0, 1) := by decide +kernel
theorem dX4_init_5 : decode cX4_init 5 = .ok (.bipush 112, 2) := by decide +kernel
theorem dX4_init_7 : decode cX4_init 7 = .ok (.newarray .int, 2) := by decide +kernel
theorem dX4_init_9 : decode cX4_init 9 = .ok (.putfield 9, 3) := by decide +kernel
theorem dX4_init_12 : decode cX4_init 12 = .ok (.return_, 1) := by decide +kernel
theorem dX4_take_0 : decode cX4_take 0 = .ok (.iload_n 2, 1) := by decide +kernel
theorem dX4_take_1 : decode cX4_take 1 = .ok (.iconst 3, 1) := by decide +kernel
theorem dX4_take_2 : decode cX4_take 2 = .ok (.if_icmp .lt 9, 3) := by decide +kernel
theorem dX4_take_5 : decode cX4_take 5 = .ok (.iload_n 2, 1) := by decide +kernel
theorem dX4_take_6 : decode cX4_take 6 = .ok (.bipush 14, 2) := by decide +kernel
theorem dX4_take_8 : decode cX4_take 8 = .ok (.if_icmp .le 5, 3) := by decide +kernel
theorem dX4_take_11 : decode cX4_take 11 = .ok (.iconst 0, 1) := by decide +kernel
theorem dX4_take_12 : decode cX4_take 12 = .ok (.ireturn, 1) := by decide +kernel
theorem dX4_take_13 : decode cX4_take 13 = .ok (.iconst 2, 1) := by decide +kernel
theorem dX4_take_14 : decode cX4_take 14 = .ok (.iload_n 2, 1) := by decide +kernel
theorem dX4_take_15 : decode cX4_take 15 = .ok (.imul, 1) := by decide +kernel
theorem dX4_take_16 : decode cX4_take 16 = .ok (.istore_n 3, 1) := by decide +kernel
theorem dX4_take_17 : decode cX4_take 17 = .ok (.aload_n 1, 1) := by decide +kernel
theorem dX4_take_18 : decode cX4_take 18 = .ok (.getfield 15, 3) := by decide +kernel
theorem dX4_take_21 : decode cX4_take 21 = .ok (.iload_n 3, 1) := by decide +kernel
theorem dX4_take_22 : decode cX4_take 22 = .ok (.idiv, 1) := by decide +kernel
theorem dX4_take_23 : decode cX4_take 23 = .ok (.istore 4, 2) := by decide +kernel
theorem dX4_take_25 : decode cX4_take 25 = .ok (.iload 4, 2) := by decide +kernel
theorem dX4_take_27 : decode cX4_take 27 = .ok (.iconst 1, 1) := by decide +kernel
theorem dX4_take_28 : decode cX4_take 28 = .ok (.if_icmp .lt 21, 3) := by decide +kernel
theorem dX4_take_31 : decode cX4_take 31 = .ok (.iload 4, 2) := by decide +kernel
theorem dX4_take_33 : decode cX4_take 33 = .ok (.bipush 8, 2) := by decide +kernel
theorem dX4_take_35 : decode cX4_take 35 = .ok (.if_icmp .gt 14, 3) := by decide +kernel
theorem dX4_take_38 : decode cX4_take 38 = .ok (.iload 4, 2) := by decide +kernel
theorem dX4_take_40 : decode cX4_take 40 = .ok (.iload_n 3, 1) := by decide +kernel
theorem dX4_take_41 : decode cX4_take 41 = .ok (.imul, 1) := by decide +kernel
theorem dX4_take_42 : decode cX4_take 42 = .ok (.aload_n 1, 1) := by decide +kernel
theorem dX4_take_43 : decode cX4_take 43 = .ok (.getfield 15, 3) := by decide +kernel
theorem dX4_take_46 : decode cX4_take 46 = .ok (.if_icmp .eq 5, 3) := by decide +kernel
theorem dX4_take_49 : decode cX4_take 49 = .ok (.iconst 0, 1) := by decide +kernel
theorem dX4_take_50 : decode cX4_take 50 = .ok (.ireturn, 1) := by decide +kernel
theorem dX4_take_51 : decode cX4_take 51 = .ok (.aload_n 0, 1) := by decide +kernel
theorem dX4_take_52 : decode cX4_take 52 = .ok (.iload_n 2, 1) := by decide +kernel
theorem dX4_take_53 : decode cX4_take 53 = .ok (.putfield 21, 3) := by decide +kernel
theorem dX4_take_56 : decode cX4_take 56 = .ok (.aload_n 0, 1) := by decide +kernel
theorem dX4_take_57 : decode cX4_take 57 = .ok (.iload 4, 2) := by decide +kernel
theorem dX4_take_59 : decode cX4_take 59 = .ok (.putfield 24, 3) := by decide +kernel
theorem dX4_take_62 : decode cX4_take 62 = .ok (.iconst 0, 1) := by decide +kernel
theorem dX4_take_63 : decode cX4_take 63 = .ok (.istore 5, 2) := by decide +kernel
theorem dX4_take_65 : decode cX4_take 65 = .ok (.iload 5, 2) := by decide +kernel
theorem dX4_take_67 : decode cX4_take 67 = .ok (.aload_n 0, 1) := by decide +kernel
theorem dX4_take_68 : decode cX4_take 68 = .ok (.getfield 24, 3) := by decide +kernel
theorem dX4_take_71 : decode cX4_take 71 = .ok (.iload_n 2, 1) := by decide +kernel
theorem dX4_take_72 : decode cX4_take 72 = .ok (.imul, 1) := by decide +kernel
theorem dX4_take_73 : decode cX4_take 73 = .ok (.if_icmp .ge 40, 3) := by decide +kernel
theorem dX4_take_76 : decode cX4_take 76 = .ok (.aload_n 0, 1) := by decide +kernel
theorem dX4_take_77 : decode cX4_take 77 = .ok (.getfield 9, 3) := by decide +kernel
theorem dX4_take_80 : decode cX4_take 80 = .ok (.iload 5, 2) := by decide +kernel
theorem dX4_take_82 : decode cX4_take 82 = .ok (.aload_n 1, 1) := by decide +kernel
theorem dX4_take_83 : decode cX4_take 83 = .ok (.getfield 27, 3) := by decide +kernel
theorem dX4_take_86 : decode cX4_take 86 = .ok (.iconst 2, 1) := by decide +kernel
theorem dX4_take_87 : decode cX4_take 87 = .ok (.iload 5, 2) := by decide +kernel
theorem dX4_take_89 : decode cX4_take 89 = .ok (.imul, 1) := by decide +kernel
theorem dX4_take_90 : decode cX4_take 90 = .ok (.iaload, 1) := by decide +kernel
theorem dX4_take_91 : decode cX4_take 91 = .ok (.bipush 8, 2) := by decide +kernel
theorem dX4_take_93 : decode cX4_take 93 = .ok (.ishl, 1) := by decide +kernel
theorem dX4_take_94 : decode cX4_take 94 = .ok (.aload_n 1, 1) := by decide +kernel
theorem dX4_take_95 : decode cX4_take 95 = .ok (.getfield 27, 3) := by decide +kernel
theorem dX4_take_98 : decode cX4_take 98 = .ok (.iconst 2, 1) := by decide +kernel
theorem dX4_take_99 : decode cX4_take 99 = .ok (.iload 5, 2) := by decide +kernel
theorem dX4_take_101 : decode cX4_take 101 = .ok (.imul, 1) := by decide +kernel
theorem dX4_take_102 : decode cX4_take 102 = .ok (.iconst 1, 1) := by decide +kernel
theorem dX4_take_103 : decode cX4_take 103 = .ok (.iadd, 1) := by decide +kernel
theorem dX4_take_104 : decode cX4_take 104 = .ok (.iaload, 1) := by decide +kernel
theorem dX4_take_105 : decode cX4_take 105 = .ok (.ior, 1) := by decide +kernel
theorem dX4_take_106 : decode cX4_take 106 = .ok (.iastore, 1) := by decide +kernel
theorem dX4_take_107 : decode cX4_take 107 = .ok (.iinc 5 1, 3) := by decide +kernel
theorem dX4_take_110 : decode cX4_take 110 = .ok (.goto (-45), 3) := by decide +kernel
theorem dX4_take_113 : decode cX4_take 113 = .ok (.iconst 1, 1) := by decide +kernel
theorem dX4_take_114 : decode cX4_take 114 = .ok (.ireturn, 1) := by decide +kernel
set_option maxRecDepth 20000 in
theorem ggX4_fewest_J6_bitCount_0f7a4 : GoodIn wsX4_fewest wsJ6_bitCount_0f7a4 := goodIn_r _ [5, 6, 7, 8] rfl (by decide +kernel)
set_option maxRecDepth 20000 in
theorem gX4_fewest_J6_bitCount_0f7a4 : GoodIn wsX4_fewest (va_wsS RX4 30 yJ6_bitCount_0f7a4 wsJ6_bitCount_0f7a4) := goodIn_app (goodIn_r _ [2, 3, 4] rfl (by decide +kernel)) ggX4_fewest_J6_bitCount_0f7a4
set_option maxRecDepth 20000 in
theorem ggX4_fewest_X4_doesEachDay : GoodIn wsX4_fewest wsX4_doesEachDay := goodIn_r _ [13, 14, 15, 16, 17, 12, 18, 1, 19, 20, 21, 22] rfl (by decide +kernel)
set_option maxRecDepth 20000 in
theorem gX4_fewest_X4_doesEachDay : GoodIn wsX4_fewest (wsV RX4 36 RX4 yX4_doesEachDay wsX4_doesEachDay) := goodIn_app (goodIn_r _ [9, 10, 11, 12] rfl (by decide +kernel)) ggX4_fewest_X4_doesEachDay
theorem dX4_fewest_0 : decode cX4_fewest 0 = .ok (.iconst 1, 1) := by decide +kernel
theorem dX4_fewest_1 : decode cX4_fewest 1 = .ok (.iconst 1, 1) := by decide +kernel
theorem dX4_fewest_2 : decode cX4_fewest 2 = .ok (.aload_n 0, 1) := by decide +kernel
theorem dX4_fewest_3 : decode cX4_fewest 3 = .ok (.getfield 21, 3) := by decide +kernel
theorem dX4_fewest_6 : decode cX4_fewest 6 = .ok (.iconst 1, 1) := by decide +kernel
theorem dX4_fewest_7 : decode cX4_fewest 7 = .ok (.isub, 1) := by decide +kernel
theorem dX4_fewest_8 : decode cX4_fewest 8 = .ok (.ishl, 1) := by decide +kernel
theorem dX4_fewest_9 : decode cX4_fewest 9 = .ok (.ior, 1) := by decide +kernel
theorem dX4_fewest_10 : decode cX4_fewest 10 = .ok (.istore_n 1, 1) := by decide +kernel
theorem dX4_fewest_11 : decode cX4_fewest 11 = .ok (.iconst 0, 1) := by decide +kernel
theorem dX4_fewest_12 : decode cX4_fewest 12 = .ok (.istore_n 2, 1) := by decide +kernel
theorem dX4_fewest_13 : decode cX4_fewest 13 = .ok (.aload_n 0, 1) := by decide +kernel
theorem dX4_fewest_14 : decode cX4_fewest 14 = .ok (.getfield 21, 3) := by decide +kernel
theorem dX4_fewest_17 : decode cX4_fewest 17 = .ok (.iconst 1, 1) := by decide +kernel
theorem dX4_fewest_18 : decode cX4_fewest 18 = .ok (.iadd, 1) := by decide +kernel
theorem dX4_fewest_19 : decode cX4_fewest 19 = .ok (.istore_n 3, 1) := by decide +kernel
theorem dX4_fewest_20 : decode cX4_fewest 20 = .ok (.iload_n 1, 1) := by decide +kernel
theorem dX4_fewest_21 : decode cX4_fewest 21 = .ok (.istore 4, 2) := by decide +kernel
theorem dX4_fewest_23 : decode cX4_fewest 23 = .ok (.iload 4, 2) := by decide +kernel
theorem dX4_fewest_25 : decode cX4_fewest 25 = .ok (.iconst 1, 1) := by decide +kernel
theorem dX4_fewest_26 : decode cX4_fewest 26 = .ok (.aload_n 0, 1) := by decide +kernel
theorem dX4_fewest_27 : decode cX4_fewest 27 = .ok (.getfield 21, 3) := by decide +kernel
theorem dX4_fewest_30 : decode cX4_fewest 30 = .ok (.ishl, 1) := by decide +kernel
theorem dX4_fewest_31 : decode cX4_fewest 31 = .ok (.if_icmp .ge 36, 3) := by decide +kernel
theorem dX4_fewest_34 : decode cX4_fewest 34 = .ok (.iload 4, 2) := by decide +kernel
theorem dX4_fewest_36 : decode cX4_fewest 36 = .ok (.invokestatic 30, 3) := by decide +kernel
theorem dX4_fewest_39 : decode cX4_fewest 39 = .ok (.iload_n 3, 1) := by decide +kernel
theorem dX4_fewest_40 : decode cX4_fewest 40 = .ok (.if_icmp .ge 21, 3) := by decide +kernel
theorem dX4_fewest_43 : decode cX4_fewest 43 = .ok (.aload_n 0, 1) := by decide +kernel
theorem dX4_fewest_44 : decode cX4_fewest 44 = .ok (.iload 4, 2) := by decide +kernel
theorem dX4_fewest_46 : decode cX4_fewest 46 = .ok (.invokevirtual 36, 3) := by decide +kernel
theorem dX4_fewest_49 : decode cX4_fewest 49 = .ok (.ifCond .eq 12, 3) := by decide +kernel
theorem dX4_fewest_52 : decode cX4_fewest 52 = .ok (.iload 4, 2) := by decide +kernel
theorem dX4_fewest_54 : decode cX4_fewest 54 = .ok (.istore_n 2, 1) := by decide +kernel
theorem dX4_fewest_55 : decode cX4_fewest 55 = .ok (.iload 4, 2) := by decide +kernel
theorem dX4_fewest_57 : decode cX4_fewest 57 = .ok (.invokestatic 30, 3) := by decide +kernel
theorem dX4_fewest_60 : decode cX4_fewest 60 = .ok (.istore_n 3, 1) := by decide +kernel
theorem dX4_fewest_61 : decode cX4_fewest 61 = .ok (.iinc 4 2, 3) := by decide +kernel
theorem dX4_fewest_64 : decode cX4_fewest 64 = .ok (.goto (-41), 3) := by decide +kernel
theorem dX4_fewest_67 : decode cX4_fewest 67 = .ok (.iload_n 2, 1) := by decide +kernel
theorem dX4_fewest_68 : decode cX4_fewest 68 = .ok (.ireturn, 1) := by decide +kernel
set_option maxRecDepth 20000 in
theorem ggX4_doesEachDay_X4_comesThrough : GoodIn wsX4_doesEachDay wsX4_comesThrough := goodIn_r _ [6, 7, 8, 9, 10, 11] rfl (by decide +kernel)
set_option maxRecDepth 20000 in
theorem gX4_doesEachDay_X4_comesThrough : GoodIn wsX4_doesEachDay (wsV RX4 40 RX4 yX4_comesThrough wsX4_comesThrough) := goodIn_app (goodIn_r _ [2, 3, 4, 5] rfl (by decide +kernel)) ggX4_doesEachDay_X4_comesThrough
theorem dX4_doesEachDay_0 : decode cX4_doesEachDay 0 = .ok (.iconst 0, 1) := by decide +kernel
theorem dX4_doesEachDay_1 : decode cX4_doesEachDay 1 = .ok (.istore_n 2, 1) := by decide +kernel
theorem dX4_doesEachDay_2 : decode cX4_doesEachDay 2 = .ok (.iload_n 2, 1) := by decide +kernel
theorem dX4_doesEachDay_3 : decode cX4_doesEachDay 3 = .ok (.aload_n 0, 1) := by decide +kernel
theorem dX4_doesEachDay_4 : decode cX4_doesEachDay 4 = .ok (.getfield 24, 3) := by decide +kernel
theorem dX4_doesEachDay_7 : decode cX4_doesEachDay 7 = .ok (.if_icmp .ge 20, 3) := by decide +kernel
theorem dX4_doesEachDay_10 : decode cX4_doesEachDay 10 = .ok (.aload_n 0, 1) := by decide +kernel
theorem dX4_doesEachDay_11 : decode cX4_doesEachDay 11 = .ok (.iload_n 1, 1) := by decide +kernel
theorem dX4_doesEachDay_12 : decode cX4_doesEachDay 12 = .ok (.iload_n 2, 1) := by decide +kernel
theorem dX4_doesEachDay_13 : decode cX4_doesEachDay 13 = .ok (.invokevirtual 40, 3) := by decide +kernel
theorem dX4_doesEachDay_16 : decode cX4_doesEachDay 16 = .ok (.ifCond .ne 5, 3) := by decide +kernel
theorem dX4_doesEachDay_19 : decode cX4_doesEachDay 19 = .ok (.iconst 0, 1) := by decide +kernel
theorem dX4_doesEachDay_20 : decode cX4_doesEachDay 20 = .ok (.ireturn, 1) := by decide +kernel
theorem dX4_doesEachDay_21 : decode cX4_doesEachDay 21 = .ok (.iinc 2 1, 3) := by decide +kernel
theorem dX4_doesEachDay_24 : decode cX4_doesEachDay 24 = .ok (.goto (-22), 3) := by decide +kernel
theorem dX4_doesEachDay_27 : decode cX4_doesEachDay 27 = .ok (.iconst 1, 1) := by decide +kernel
theorem dX4_doesEachDay_28 : decode cX4_doesEachDay 28 = .ok (.ireturn, 1) := by decide +kernel
theorem dX4_comesThrough_0 : decode cX4_comesThrough 0 = .ok (.iconst 1, 1) := by decide +kernel
theorem dX4_comesThrough_1 : decode cX4_comesThrough 1 = .ok (.istore_n 3, 1) := by decide +kernel
theorem dX4_comesThrough_2 : decode cX4_comesThrough 2 = .ok (.iconst 0, 1) := by decide +kernel
theorem dX4_comesThrough_3 : decode cX4_comesThrough 3 = .ok (.istore 4, 2) := by decide +kernel
theorem dX4_comesThrough_5 : decode cX4_comesThrough 5 = .ok (.iload 4, 2) := by decide +kernel
theorem dX4_comesThrough_7 : decode cX4_comesThrough 7 = .ok (.aload_n 0, 1) := by decide +kernel
theorem dX4_comesThrough_8 : decode cX4_comesThrough 8 = .ok (.getfield 21, 3) := by decide +kernel
theorem dX4_comesThrough_11 : decode cX4_comesThrough 11 = .ok (.iconst 1, 1) := by decide +kernel
theorem dX4_comesThrough_12 : decode cX4_comesThrough 12 = .ok (.isub, 1) := by decide +kernel
theorem dX4_comesThrough_13 : decode cX4_comesThrough 13 = .ok (.if_icmp .ge 37, 3) := by decide +kernel
theorem dX4_comesThrough_16 : decode cX4_comesThrough 16 = .ok (.iload_n 3, 1) := by decide +kernel
theorem dX4_comesThrough_17 : decode cX4_comesThrough 17 = .ok (.iload 4, 2) := by decide +kernel
theorem dX4_comesThrough_19 : decode cX4_comesThrough 19 = .ok (.ishr, 1) := by decide +kernel
theorem dX4_comesThrough_20 : decode cX4_comesThrough 20 = .ok (.iconst 1, 1) := by decide +kernel
theorem dX4_comesThrough_21 : decode cX4_comesThrough 21 = .ok (.iand, 1) := by decide +kernel
theorem dX4_comesThrough_22 : decode cX4_comesThrough 22 = .ok (.ifCond .eq 22, 3) := by decide +kernel
theorem dX4_comesThrough_25 : decode cX4_comesThrough 25 = .ok (.iload_n 3, 1) := by decide +kernel
theorem dX4_comesThrough_26 : decode cX4_comesThrough 26 = .ok (.aload_n 0, 1) := by decide +kernel
theorem dX4_comesThrough_27 : decode cX4_comesThrough 27 = .ok (.getfield 9, 3) := by decide +kernel
theorem dX4_comesThrough_30 : decode cX4_comesThrough 30 = .ok (.iload_n 2, 1) := by decide +kernel
theorem dX4_comesThrough_31 : decode cX4_comesThrough 31 = .ok (.aload_n 0, 1) := by decide +kernel
theorem dX4_comesThrough_32 : decode cX4_comesThrough 32 = .ok (.getfield 21, 3) := by decide +kernel
theorem dX4_comesThrough_35 : decode cX4_comesThrough 35 = .ok (.imul, 1) := by decide +kernel
theorem dX4_comesThrough_36 : decode cX4_comesThrough 36 = .ok (.iload 4, 2) := by decide +kernel
theorem dX4_comesThrough_38 : decode cX4_comesThrough 38 = .ok (.iadd, 1) := by decide +kernel
theorem dX4_comesThrough_39 : decode cX4_comesThrough 39 = .ok (.iaload, 1) := by decide +kernel
theorem dX4_comesThrough_40 : decode cX4_comesThrough 40 = .ok (.iload_n 1, 1) := by decide +kernel
theorem dX4_comesThrough_41 : decode cX4_comesThrough 41 = .ok (.iand, 1) := by decide +kernel
theorem dX4_comesThrough_42 : decode cX4_comesThrough 42 = .ok (.ior, 1) := by decide +kernel
theorem dX4_comesThrough_43 : decode cX4_comesThrough 43 = .ok (.istore_n 3, 1) := by decide +kernel
theorem dX4_comesThrough_44 : decode cX4_comesThrough 44 = .ok (.iinc 4 1, 3) := by decide +kernel
theorem dX4_comesThrough_47 : decode cX4_comesThrough 47 = .ok (.goto (-42), 3) := by decide +kernel
theorem dX4_comesThrough_50 : decode cX4_comesThrough 50 = .ok (.iload_n 3, 1) := by decide +kernel
theorem dX4_comesThrough_51 : decode cX4_comesThrough 51 = .ok (.aload_n 0, 1) := by decide +kernel
theorem dX4_comesThrough_52 : decode cX4_comesThrough 52 = .ok (.getfield 21, 3) := by decide +kernel
theorem dX4_comesThrough_55 : decode cX4_comesThrough 55 = .ok (.iconst 1, 1) := by decide +kernel
theorem dX4_comesThrough_56 : decode cX4_comesThrough 56 = .ok (.isub, 1) := by decide +kernel
theorem dX4_comesThrough_57 : decode cX4_comesThrough 57 = .ok (.ishr, 1) := by decide +kernel
theorem dX4_comesThrough_58 : decode cX4_comesThrough 58 = .ok (.iconst 1, 1) := by decide +kernel
theorem dX4_comesThrough_59 : decode cX4_comesThrough 59 = .ok (.iand, 1) := by decide +kernel
theorem dX4_comesThrough_60 : decode cX4_comesThrough 60 = .ok (.ifCond .eq 7, 3) := by decide +kernel
theorem dX4_comesThrough_63 : decode cX4_comesThrough 63 = .ok (.iconst 1, 1) := by decide +kernel
theorem dX4_comesThrough_64 : decode cX4_comesThrough 64 = .ok (.goto 4, 3) := by decide +kernel
theorem dX4_comesThrough_67 : decode cX4_comesThrough 67 = .ok (.iconst 0, 1) := by decide +kernel
theorem dX4_comesThrough_68 : decode cX4_comesThrough 68 = .ok (.ireturn, 1) := by decide +kernel
theorem dX5_init_0 : decode cX5_init 0 = .ok (.aload_n 0, 1) := by decide +kernel
theorem dX5_init_1 : decode cX5_init 1 = .ok (.invokespecial 3, 3) := by decide +kernel
theorem dX5_init_4 : decode cX5_init 4 = .ok (.aload_n 0, 1) := by decide +kernel
theorem dX5_init_5 : decode cX5_init 5 = .ok (.iload_n 1, 1) := by decide +kernel
theorem dX5_init_6 : decode cX5_init 6 = .ok (.newarray .int, 2) := by decide +kernel
theorem dX5_init_8 : decode cX5_init 8 = .ok (.putfield 9, 3) := by decide +kernel
theorem dX5_init_11 : decode cX5_init 11 = .ok (.aload_n 0, 1) := by decide +kernel
theorem dX5_init_12 : decode cX5_init 12 = .ok (.iload_n 1, 1) := by decide +kernel
theorem dX5_init_13 : decode cX5_init 13 = .ok (.newarray .int, 2) := by decide +kernel
theorem dX5_init_15 : decode cX5_init 15 = .ok (.putfield 15, 3) := by decide +kernel
theorem dX5_init_18 : decode cX5_init 18 = .ok (.aload_n 0, 1) := by decide +kernel
theorem dX5_init_19 : decode cX5_init 19 = .ok (.iload_n 1, 1) := by decide +kernel
theorem dX5_init_20 : decode cX5_init 20 = .ok (.iconst 4, 1) := by decide +kernel
theorem dX5_init_21 : decode cX5_init 21 = .ok (.imul, 1) := by decide +kernel
theorem dX5_init_22 : decode cX5_init 22 = .ok (.newarray .int, 2) := by decide +kernel
theorem dX5_init_24 : decode cX5_init 24 = .ok (.putfield 18, 3) := by decide +kernel
theorem dX5_init_27 : decode cX5_init 27 = .ok (.aload_n 0, 1) := by decide +kernel
theorem dX5_init_28 : decode cX5_init 28 = .ok (.iload_n 2, 1) := by decide +kernel
theorem dX5_init_29 : decode cX5_init 29 = .ok (.newarray .int, 2) := by decide +kernel
theorem dX5_init_31 : decode cX5_init 31 = .ok (.putfield 21, 3) := by decide +kernel
theorem dX5_init_34 : decode cX5_init 34 = .ok (.aload_n 0, 1) := by decide +kernel
theorem dX5_init_35 : decode cX5_init 35 = .ok (.iconst (-1), 1) := by decide +kernel
theorem dX5_init_36 : decode cX5_init 36 = .ok (.putfield 24, 3) := by decide +kernel
theorem dX5_init_39 : decode cX5_init 39 = .ok (.return_, 1) := by decide +kernel
set_option maxRecDepth 20000 in
theorem ggX5_begin_J7_fill_53178 : GoodIn wsX5_begin wsJ7_fill_53178 := goodIn_r _ [15] rfl (by decide +kernel)
set_option maxRecDepth 20000 in
theorem gX5_begin_J7_fill_53178 : GoodIn wsX5_begin (va_wsS RX5 37 yJ7_fill_53178 wsJ7_fill_53178) := goodIn_app (goodIn_r _ [12, 13, 14] rfl (by decide +kernel)) ggX5_begin_J7_fill_53178
theorem dX5_begin_0 : decode cX5_begin 0 = .ok (.aload_n 0, 1) := by decide +kernel
theorem dX5_begin_1 : decode cX5_begin 1 = .ok (.iload_n 1, 1) := by decide +kernel
theorem dX5_begin_2 : decode cX5_begin 2 = .ok (.aload_n 0, 1) := by decide +kernel
theorem dX5_begin_3 : decode cX5_begin 3 = .ok (.getfield 9, 3) := by decide +kernel
theorem dX5_begin_6 : decode cX5_begin 6 = .ok (.arraylength, 1) := by decide +kernel
theorem dX5_begin_7 : decode cX5_begin 7 = .ok (.invokestatic 28, 3) := by decide +kernel
theorem dX5_begin_10 : decode cX5_begin 10 = .ok (.putfield 34, 3) := by decide +kernel
theorem dX5_begin_13 : decode cX5_begin 13 = .ok (.aload_n 0, 1) := by decide +kernel
theorem dX5_begin_14 : decode cX5_begin 14 = .ok (.getfield 9, 3) := by decide +kernel
theorem dX5_begin_17 : decode cX5_begin 17 = .ok (.iconst 0, 1) := by decide +kernel
theorem dX5_begin_18 : decode cX5_begin 18 = .ok (.invokestatic 37, 3) := by decide +kernel
theorem dX5_begin_21 : decode cX5_begin 21 = .ok (.aload_n 0, 1) := by decide +kernel
theorem dX5_begin_22 : decode cX5_begin 22 = .ok (.getfield 15, 3) := by decide +kernel
theorem dX5_begin_25 : decode cX5_begin 25 = .ok (.iconst 0, 1) := by decide +kernel
theorem dX5_begin_26 : decode cX5_begin 26 = .ok (.invokestatic 37, 3) := by decide +kernel
theorem dX5_begin_29 : decode cX5_begin 29 = .ok (.aload_n 0, 1) := by decide +kernel
theorem dX5_begin_30 : decode cX5_begin 30 = .ok (.getfield 18, 3) := by decide +kernel
theorem dX5_begin_33 : decode cX5_begin 33 = .ok (.iconst 0, 1) := by decide +kernel
theorem dX5_begin_34 : decode cX5_begin 34 = .ok (.invokestatic 37, 3) := by decide +kernel
theorem dX5_begin_37 : decode cX5_begin 37 = .ok (.aload_n 0, 1) := by decide +kernel
theorem dX5_begin_38 : decode cX5_begin 38 = .ok (.iconst 0, 1) := by decide +kernel
theorem dX5_begin_39 : decode cX5_begin 39 = .ok (.putfield 43, 3) := by decide +kernel
theorem dX5_begin_42 : decode cX5_begin 42 = .ok (.aload_n 0, 1) := by decide +kernel
theorem dX5_begin_43 : decode cX5_begin 43 = .ok (.iconst 0, 1) := by decide +kernel
theorem dX5_begin_44 : decode cX5_begin 44 = .ok (.putfield 46, 3) := by decide +kernel
theorem dX5_begin_47 : decode cX5_begin 47 = .ok (.aload_n 0, 1) := by decide +kernel
theorem dX5_begin_48 : decode cX5_begin 48 = .ok (.iconst (-1), 1) := by decide +kernel
theorem dX5_begin_49 : decode cX5_begin 49 = .ok (.putfield 24, 3) := by decide +kernel
theorem dX5_begin_52 : decode cX5_begin 52 = .ok (.return_, 1) := by decide +kernel
theorem dX5_takeOver_0 : decode cX5_takeOver 0 = .ok (.aload_n 0, 1) := by decide +kernel
theorem dX5_takeOver_1 : decode cX5_takeOver 1 = .ok (.aload_n 1, 1) := by decide +kernel
theorem dX5_takeOver_2 : decode cX5_takeOver 2 = .ok (.getfield 34, 3) := by decide +kernel
theorem dX5_takeOver_5 : decode cX5_takeOver 5 = .ok (.aload_n 0, 1) := by decide +kernel
theorem dX5_takeOver_6 : decode cX5_takeOver 6 = .ok (.getfield 9, 3) := by decide +kernel
theorem dX5_takeOver_9 : decode cX5_takeOver 9 = .ok (.arraylength, 1) := by decide +kernel
theorem dX5_takeOver_10 : decode cX5_takeOver 10 = .ok (.invokestatic 28, 3) := by decide +kernel
theorem dX5_takeOver_13 : decode cX5_takeOver 13 = .ok (.putfield 34, 3) := by decide +kernel
theorem dX5_takeOver_16 : decode cX5_takeOver 16 = .ok (.aload_n 1, 1) := by decide +kernel
theorem dX5_takeOver_17 : decode cX5_takeOver 17 = .ok (.getfield 9, 3) := by decide +kernel
theorem dX5_takeOver_20 : decode cX5_takeOver 20 = .ok (.iconst 0, 1) := by decide +kernel
theorem dX5_takeOver_21 : decode cX5_takeOver 21 = .ok (.aload_n 0, 1) := by decide +kernel
theorem dX5_takeOver_22 : decode cX5_takeOver 22 = .ok (.getfield 9, 3) := by decide +kernel
theorem dX5_takeOver_25 : decode cX5_takeOver 25 = .ok (.iconst 0, 1) := by decide +kernel
theorem dX5_takeOver_26 : decode cX5_takeOver 26 = .ok (.aload_n 0, 1) := by decide +kernel
theorem dX5_takeOver_27 : decode cX5_takeOver 27 = .ok (.getfield 34, 3) := by decide +kernel
theorem dX5_takeOver_30 : decode cX5_takeOver 30 = .ok (.invokestatic 49, 3) := by decide +kernel
theorem dX5_takeOver_33 : decode cX5_takeOver 33 = .ok (.aload_n 1, 1) := by decide +kernel
theorem dX5_takeOver_34 : decode cX5_takeOver 34 = .ok (.getfield 15, 3) := by decide +kernel
theorem dX5_takeOver_37 : decode cX5_takeOver 37 = .ok (.iconst 0, 1) := by decide +kernel
theorem dX5_takeOver_38 : decode cX5_takeOver 38 = .ok (.aload_n 0, 1) := by decide +kernel
theorem dX5_takeOver_39 : decode cX5_takeOver 39 = .ok (.getfield 15, 3) := by decide +kernel
theorem dX5_takeOver_42 : decode cX5_takeOver 42 = .ok (.iconst 0, 1) := by decide +kernel
theorem dX5_takeOver_43 : decode cX5_takeOver 43 = .ok (.aload_n 0, 1) := by decide +kernel
theorem dX5_takeOver_44 : decode cX5_takeOver 44 = .ok (.getfield 34, 3) := by decide +kernel
theorem dX5_takeOver_47 : decode cX5_takeOver 47 = .ok (.invokestatic 49, 3) := by decide +kernel
theorem dX5_takeOver_50 : decode cX5_takeOver 50 = .ok (.aload_n 1, 1) := by decide +kernel
theorem dX5_takeOver_51 : decode cX5_takeOver 51 = .ok (.getfield 18, 3) := by decide +kernel
theorem dX5_takeOver_54 : decode cX5_takeOver 54 = .ok (.iconst 0, 1) := by decide +kernel
theorem dX5_takeOver_55 : decode cX5_takeOver 55 = .ok (.aload_n 0, 1) := by decide +kernel
theorem dX5_takeOver_56 : decode cX5_takeOver 56 = .ok (.getfield 18, 3) := by decide +kernel
theorem dX5_takeOver_59 : decode cX5_takeOver 59 = .ok (.iconst 0, 1) := by decide +kernel
theorem dX5_takeOver_60 : decode cX5_takeOver 60 = .ok (.aload_n 0, 1) := by decide +kernel
theorem dX5_takeOver_61 : decode cX5_takeOver 61 = .ok (.getfield 34, 3) := by decide +kernel
theorem dX5_takeOver_64 : decode cX5_takeOver 64 = .ok (.iconst 4, 1) := by decide +kernel
theorem dX5_takeOver_65 : decode cX5_takeOver 65 = .ok (.imul, 1) := by decide +kernel
theorem dX5_takeOver_66 : decode cX5_takeOver 66 = .ok (.invokestatic 49, 3) := by decide +kernel
theorem dX5_takeOver_69 : decode cX5_takeOver 69 = .ok (.aload_n 0, 1) := by decide +kernel
theorem dX5_takeOver_70 : decode cX5_takeOver 70 = .ok (.aload_n 1, 1) := by decide +kernel
theorem dX5_takeOver_71 : decode cX5_takeOver 71 = .ok (.getfield 43, 3) := by decide +kernel
theorem dX5_takeOver_74 : decode cX5_takeOver 74 = .ok (.putfield 43, 3) := by decide +kernel
theorem dX5_takeOver_77 : decode cX5_takeOver 77 = .ok (.aload_n 0, 1) := by decide +kernel
theorem dX5_takeOver_78 : decode cX5_takeOver 78 = .ok (.aload_n 1, 1) := by decide +kernel
theorem dX5_takeOver_79 : decode cX5_takeOver 79 = .ok (.getfield 46, 3) := by decide +kernel
theorem dX5_takeOver_82 : decode cX5_takeOver 82 = .ok (.putfield 46, 3) := by decide +kernel
theorem dX5_takeOver_85 : decode cX5_takeOver 85 = .ok (.aload_n 0, 1) := by decide +kernel
theorem dX5_takeOver_86 : decode cX5_takeOver 86 = .ok (.aload_n 1, 1) := by decide +kernel
theorem dX5_takeOver_87 : decode cX5_takeOver 87 = .ok (.getfield 24, 3) := by decide +kernel
theorem dX5_takeOver_90 : decode cX5_takeOver 90 = .ok (.putfield 24, 3) := by decide +kernel
theorem dX5_takeOver_93 : decode cX5_takeOver 93 = .ok (.return_, 1) := by decide +kernel
theorem dX5_put_0 : decode cX5_put 0 = .ok (.aload_n 0, 1) := by decide +kernel
theorem dX5_put_1 : decode cX5_put 1 = .ok (.getfield 43, 3) := by decide +kernel
theorem dX5_put_4 : decode cX5_put 4 = .ok (.bipush 100, 2) := by decide +kernel
theorem dX5_put_6 : decode cX5_put 6 = .ok (.if_icmp .lt 4, 3) := by decide +kernel
theorem dX5_put_9 : decode cX5_put 9 = .ok (.return_, 1) := by decide +kernel
theorem dX5_put_10 : decode cX5_put 10 = .ok (.aload_n 0, 1) := by decide +kernel
theorem dX5_put_11 : decode cX5_put 11 = .ok (.getfield 43, 3) := by decide +kernel
theorem dX5_put_14 : decode cX5_put 14 = .ok (.aload_n 0, 1) := by decide +kernel
theorem dX5_put_15 : decode cX5_put 15 = .ok (.getfield 21, 3) := by decide +kernel
theorem dX5_put_18 : decode cX5_put 18 = .ok (.arraylength, 1) := by decide +kernel
theorem dX5_put_19 : decode cX5_put 19 = .ok (.if_icmp .ge 13, 3) := by decide +kernel
theorem dX5_put_22 : decode cX5_put 22 = .ok (.aload_n 0, 1) := by decide +kernel
theorem dX5_put_23 : decode cX5_put 23 = .ok (.getfield 21, 3) := by decide +kernel
theorem dX5_put_26 : decode cX5_put 26 = .ok (.aload_n 0, 1) := by decide +kernel
theorem dX5_put_27 : decode cX5_put 27 = .ok (.getfield 43, 3) := by decide +kernel
theorem dX5_put_30 : decode cX5_put 30 = .ok (.iload_n 1, 1) := by decide +kernel
theorem dX5_put_31 : decode cX5_put 31 = .ok (.iastore, 1) := by decide +kernel
theorem dX5_put_32 : decode cX5_put 32 = .ok (.iload_n 2, 1) := by decide +kernel
theorem dX5_put_33 : decode cX5_put 33 = .ok (.ifCond .ne 19, 3) := by decide +kernel
theorem dX5_put_36 : decode cX5_put 36 = .ok (.aload_n 0, 1) := by decide +kernel
theorem dX5_put_37 : decode cX5_put 37 = .ok (.getfield 24, 3) := by decide +kernel
theorem dX5_put_40 : decode cX5_put 40 = .ok (.iconst (-1), 1) := by decide +kernel
theorem dX5_put_41 : decode cX5_put 41 = .ok (.if_icmp .ne 11, 3) := by decide +kernel
theorem dX5_put_44 : decode cX5_put 44 = .ok (.aload_n 0, 1) := by decide +kernel
theorem dX5_put_45 : decode cX5_put 45 = .ok (.aload_n 0, 1) := by decide +kernel
theorem dX5_put_46 : decode cX5_put 46 = .ok (.getfield 43, 3) := by decide +kernel
theorem dX5_put_49 : decode cX5_put 49 = .ok (.putfield 24, 3) := by decide +kernel
theorem dX5_put_52 : decode cX5_put 52 = .ok (.aload_n 0, 1) := by decide +kernel
theorem dX5_put_53 : decode cX5_put 53 = .ok (.dup, 1) := by decide +kernel
theorem dX5_put_54 : decode cX5_put 54 = .ok (.getfield 43, 3) := by decide +kernel
theorem dX5_put_57 : decode cX5_put 57 = .ok (.iconst 1, 1) := by decide +kernel
theorem dX5_put_58 : decode cX5_put 58 = .ok (.iadd, 1) := by decide +kernel
theorem dX5_put_59 : decode cX5_put 59 = .ok (.putfield 43, 3) := by decide +kernel
theorem dX5_put_62 : decode cX5_put 62 = .ok (.return_, 1) := by decide +kernel
theorem dX6_init_0 : decode cX6_init 0 = .ok (.aload_n 0, 1) := by decide +kernel
theorem dX6_init_1 : decode cX6_init 1 = .ok (.invokespecial 3, 3) := by decide +kernel
theorem dX6_init_4 : decode cX6_init 4 = .ok (.aload_n 0, 1) := by decide +kernel
theorem dX6_init_5 : decode cX6_init 5 = .ok (.iload_n 1, 1) := by decide +kernel
theorem dX6_init_6 : decode cX6_init 6 = .ok (.bipush 61, 2) := by decide +kernel
theorem dX6_init_8 : decode cX6_init 8 = .ok (.imul, 1) := by decide +kernel
theorem dX6_init_9 : decode cX6_init 9 = .ok (.newarray .int, 2) := by decide +kernel
theorem dX6_init_11 : decode cX6_init 11 = .ok (.putfield 9, 3) := by decide +kernel
theorem dX6_init_14 : decode cX6_init 14 = .ok (.aload_n 0, 1) := by decide +kernel
theorem dX6_init_15 : decode cX6_init 15 = .ok (.iload_n 1, 1) := by decide +kernel
theorem dX6_init_16 : decode cX6_init 16 = .ok (.bipush 60, 2) := by decide +kernel
theorem dX6_init_18 : decode cX6_init 18 = .ok (.imul, 1) := by decide +kernel
theorem dX6_init_19 : decode cX6_init 19 = .ok (.iconst 2, 1) := by decide +kernel
theorem dX6_init_20 : decode cX6_init 20 = .ok (.idiv, 1) := by decide +kernel
theorem dX6_init_21 : decode cX6_init 21 = .ok (.iconst 1, 1) := by decide +kernel
theorem dX6_init_22 : decode cX6_init 22 = .ok (.iadd, 1) := by decide +kernel
theorem dX6_init_23 : decode cX6_init 23 = .ok (.newarray .int, 2) := by decide +kernel
theorem dX6_init_25 : decode cX6_init 25 = .ok (.putfield 15, 3) := by decide +kernel
theorem dX6_init_28 : decode cX6_init 28 = .ok (.aload_n 0, 1) := by decide +kernel
theorem dX6_init_29 : decode cX6_init 29 = .ok (.aload_n 0, 1) := by decide +kernel
theorem dX6_init_30 : decode cX6_init 30 = .ok (.getfield 15, 3) := by decide +kernel
theorem dX6_init_33 : decode cX6_init 33 = .ok (.arraylength, 1) := by decide +kernel
theorem dX6_init_34 : decode cX6_init 34 = .ok (.newarray .int, 2) := by decide +kernel
theorem dX6_init_36 : decode cX6_init 36 = .ok (.putfield 18, 3) := by decide +kernel
theorem dX6_init_39 : decode cX6_init 39 = .ok (.aload_n 0, 1) := by decide +kernel
theorem dX6_init_40 : decode cX6_init 40 = .ok (.aload_n 0, 1) := by decide +kernel
theorem dX6_init_41 : decode cX6_init 41 = .ok (.getfield 15, 3) := by decide +kernel
theorem dX6_init_44 : decode cX6_init 44 = .ok (.arraylength, 1) := by decide +kernel
theorem dX6_init_45 : decode cX6_init 45 = .ok (.newarray .int, 2) := by decide +kernel
theorem dX6_init_47 : decode cX6_init 47 = .ok (.putfield 21, 3) := by decide +kernel
theorem dX6_init_50 : decode cX6_init 50 = .ok (.return_, 1) := by decide +kernel
theorem dX6_clear_0 : decode cX6_clear 0 = .ok (.aload_n 0, 1) := by decide +kernel
theorem dX6_clear_1 : decode cX6_clear 1 = .ok (.iconst 0, 1) := by decide +kernel
theorem dX6_clear_2 : decode cX6_clear 2 = .ok (.putfield 24, 3) := by decide +kernel
theorem dX6_clear_5 : decode cX6_clear 5 = .ok (.aload_n 0, 1) := by decide +kernel
theorem dX6_clear_6 : decode cX6_clear 6 = .ok (.iconst 0, 1) := by decide +kernel
theorem dX6_clear_7 : decode cX6_clear 7 = .ok (.putfield 28, 3) := by decide +kernel
theorem dX6_clear_10 : decode cX6_clear 10 = .ok (.aload_n 0, 1) := by decide +kernel
theorem dX6_clear_11 : decode cX6_clear 11 = .ok (.iconst 0, 1) := by decide +kernel
theorem dX6_clear_12 : decode cX6_clear 12 = .ok (.putfield 31, 3) := by decide +kernel
theorem dX6_clear_15 : decode cX6_clear 15 = .ok (.aload_n 0, 1) := by decide +kernel
theorem dX6_clear_16 : decode cX6_clear 16 = .ok (.iconst 0, 1) := by decide +kernel
theorem dX6_clear_17 : decode cX6_clear 17 = .ok (.putfield 34, 3) := by decide +kernel
theorem dX6_clear_20 : decode cX6_clear 20 = .ok (.return_, 1) := by decide +kernel
theorem dX6_add_0 : decode cX6_add 0 = .ok (.aload_n 0, 1) := by decide +kernel
theorem dX6_add_1 : decode cX6_add 1 = .ok (.getfield 24, 3) := by decide +kernel
theorem dX6_add_4 : decode cX6_add 4 = .ok (.aload_n 1, 1) := by decide +kernel
theorem dX6_add_5 : decode cX6_add 5 = .ok (.getfield 37, 3) := by decide +kernel
theorem dX6_add_8 : decode cX6_add 8 = .ok (.iadd, 1) := by decide +kernel
theorem dX6_add_9 : decode cX6_add 9 = .ok (.iconst 1, 1) := by decide +kernel
theorem dX6_add_10 : decode cX6_add 10 = .ok (.iadd, 1) := by decide +kernel
theorem dX6_add_11 : decode cX6_add 11 = .ok (.aload_n 0, 1) := by decide +kernel
theorem dX6_add_12 : decode cX6_add 12 = .ok (.getfield 9, 3) := by decide +kernel
theorem dX6_add_15 : decode cX6_add 15 = .ok (.arraylength, 1) := by decide +kernel
theorem dX6_add_16 : decode cX6_add 16 = .ok (.if_icmp .le 4, 3) := by decide +kernel
theorem dX6_add_19 : decode cX6_add 19 = .ok (.return_, 1) := by decide +kernel
theorem dX6_add_20 : decode cX6_add 20 = .ok (.aload_n 1, 1) := by decide +kernel
theorem dX6_add_21 : decode cX6_add 21 = .ok (.getfield 40, 3) := by decide +kernel
theorem dX6_add_24 : decode cX6_add 24 = .ok (.iconst 0, 1) := by decide +kernel
theorem dX6_add_25 : decode cX6_add 25 = .ok (.aload_n 0, 1) := by decide +kernel
theorem dX6_add_26 : decode cX6_add 26 = .ok (.getfield 9, 3) := by decide +kernel
theorem dX6_add_29 : decode cX6_add 29 = .ok (.aload_n 0, 1) := by decide +kernel
theorem dX6_add_30 : decode cX6_add 30 = .ok (.getfield 24, 3) := by decide +kernel
theorem dX6_add_33 : decode cX6_add 33 = .ok (.aload_n 1, 1) := by decide +kernel
theorem dX6_add_34 : decode cX6_add 34 = .ok (.getfield 37, 3) := by decide +kernel
theorem dX6_add_37 : decode cX6_add 37 = .ok (.invokestatic 42, 3) := by decide +kernel
theorem dX6_add_40 : decode cX6_add 40 = .ok (.aload_n 0, 1) := by decide +kernel
theorem dX6_add_41 : decode cX6_add 41 = .ok (.dup, 1) := by decide +kernel
theorem dX6_add_42 : decode cX6_add 42 = .ok (.getfield 24, 3) := by decide +kernel
theorem dX6_add_45 : decode cX6_add 45 = .ok (.aload_n 1, 1) := by decide +kernel
theorem dX6_add_46 : decode cX6_add 46 = .ok (.getfield 37, 3) := by decide +kernel
theorem dX6_add_49 : decode cX6_add 49 = .ok (.iadd, 1) := by decide +kernel
theorem dX6_add_50 : decode cX6_add 50 = .ok (.putfield 24, 3) := by decide +kernel
theorem dX6_add_53 : decode cX6_add 53 = .ok (.aload_n 0, 1) := by decide +kernel
theorem dX6_add_54 : decode cX6_add 54 = .ok (.getfield 9, 3) := by decide +kernel
theorem dX6_add_57 : decode cX6_add 57 = .ok (.aload_n 0, 1) := by decide +kernel
theorem dX6_add_58 : decode cX6_add 58 = .ok (.getfield 24, 3) := by decide +kernel
theorem dX6_add_61 : decode cX6_add 61 = .ok (.iconst 0, 1) := by decide +kernel
theorem dX6_add_62 : decode cX6_add 62 = .ok (.iastore, 1) := by decide +kernel
theorem dX6_add_63 : decode cX6_add 63 = .ok (.aload_n 0, 1) := by decide +kernel
theorem dX6_add_64 : decode cX6_add 64 = .ok (.dup, 1) := by decide +kernel
theorem dX6_add_65 : decode cX6_add 65 = .ok (.getfield 24, 3) := by decide +kernel
theorem dX6_add_68 : decode cX6_add 68 = .ok (.iconst 1, 1) := by decide +kernel
theorem dX6_add_69 : decode cX6_add 69 = .ok (.iadd, 1) := by decide +kernel
theorem dX6_add_70 : decode cX6_add 70 = .ok (.putfield 24, 3) := by decide +kernel
theorem dX6_add_73 : decode cX6_add 73 = .ok (.aload_n 0, 1) := by decide +kernel
theorem dX6_add_74 : decode cX6_add 74 = .ok (.dup, 1) := by decide +kernel
theorem dX6_add_75 : decode cX6_add 75 = .ok (.getfield 34, 3) := by decide +kernel
theorem dX6_add_78 : decode cX6_add 78 = .ok (.aload_n 1, 1) := by decide +kernel
theorem dX6_add_79 : decode cX6_add 79 = .ok (.getfield 37, 3) := by decide +kernel
theorem dX6_add_82 : decode cX6_add 82 = .ok (.iadd, 1) := by decide +kernel
theorem dX6_add_83 : decode cX6_add 83 = .ok (.putfield 34, 3) := by decide +kernel
theorem dX6_add_86 : decode cX6_add 86 = .ok (.aload_n 0, 1) := by decide +kernel
theorem dX6_add_87 : decode cX6_add 87 = .ok (.dup, 1) := by decide +kernel
theorem dX6_add_88 : decode cX6_add 88 = .ok (.getfield 31, 3) := by decide +kernel
theorem dX6_add_91 : decode cX6_add 91 = .ok (.iconst 1, 1) := by decide +kernel
theorem dX6_add_92 : decode cX6_add 92 = .ok (.iadd, 1) := by decide +kernel
theorem dX6_add_93 : decode cX6_add 93 = .ok (.putfield 31, 3) := by decide +kernel
theorem dX6_add_96 : decode cX6_add 96 = .ok (.return_, 1) := by decide +kernel
set_option maxRecDepth 20000 in
theorem ggX6_mark_X11_isLetter : GoodIn wsX6_mark wsX11_isLetter := goodIn_r _ [8] rfl (by decide +kernel)
set_option maxRecDepth 20000 in
theorem gX6_mark_X11_isLetter_n48 : GoodIn wsX6_mark (wsX11_isLetter) := ggX6_mark_X11_isLetter
set_option maxRecDepth 20000 in
theorem ggX6_mark_X3_fittingAt : GoodIn wsX6_mark wsX3_fittingAt := goodIn_r _ [13, 14, 15, 16, 17, 18, 12, 19, 20, 6, 7, 8, 29, 30, 31, 32] rfl (by decide +kernel)
set_option maxRecDepth 20000 in
theorem gX6_mark_X3_fittingAt : GoodIn wsX6_mark (wsV RX6 52 RX3 yX3_fittingAt wsX3_fittingAt) := goodIn_app (goodIn_r _ [9, 10, 11, 12] rfl (by decide +kernel)) ggX6_mark_X3_fittingAt
theorem dX6_mark_0 : decode cX6_mark 0 = .ok (.aload_n 0, 1) := by decide +kernel
theorem dX6_mark_1 : decode cX6_mark 1 = .ok (.iconst 0, 1) := by decide +kernel
theorem dX6_mark_2 : decode cX6_mark 2 = .ok (.putfield 28, 3) := by decide +kernel
theorem dX6_mark_5 : decode cX6_mark 5 = .ok (.iconst 0, 1) := by decide +kernel
theorem dX6_mark_6 : decode cX6_mark 6 = .ok (.istore_n 2, 1) := by decide +kernel
theorem dX6_mark_7 : decode cX6_mark 7 = .ok (.iload_n 2, 1) := by decide +kernel
theorem dX6_mark_8 : decode cX6_mark 8 = .ok (.aload_n 0, 1) := by decide +kernel
theorem dX6_mark_9 : decode cX6_mark 9 = .ok (.getfield 24, 3) := by decide +kernel
theorem dX6_mark_12 : decode cX6_mark 12 = .ok (.if_icmp .ge 95, 3) := by decide +kernel
theorem dX6_mark_15 : decode cX6_mark 15 = .ok (.aload_n 0, 1) := by decide +kernel
theorem dX6_mark_16 : decode cX6_mark 16 = .ok (.getfield 28, 3) := by decide +kernel
theorem dX6_mark_19 : decode cX6_mark 19 = .ok (.aload_n 0, 1) := by decide +kernel
theorem dX6_mark_20 : decode cX6_mark 20 = .ok (.getfield 15, 3) := by decide +kernel
theorem dX6_mark_23 : decode cX6_mark 23 = .ok (.arraylength, 1) := by decide +kernel
theorem dX6_mark_24 : decode cX6_mark 24 = .ok (.iconst 1, 1) := by decide +kernel
theorem dX6_mark_25 : decode cX6_mark 25 = .ok (.isub, 1) := by decide +kernel
theorem dX6_mark_26 : decode cX6_mark 26 = .ok (.if_icmp .ge 81, 3) := by decide +kernel
theorem dX6_mark_29 : decode cX6_mark 29 = .ok (.aload_n 0, 1) := by decide +kernel
theorem dX6_mark_30 : decode cX6_mark 30 = .ok (.getfield 9, 3) := by decide +kernel
theorem dX6_mark_33 : decode cX6_mark 33 = .ok (.iload_n 2, 1) := by decide +kernel
theorem dX6_mark_34 : decode cX6_mark 34 = .ok (.iaload, 1) := by decide +kernel
theorem dX6_mark_35 : decode cX6_mark 35 = .ok (.invokestatic 48, 3) := by decide +kernel
theorem dX6_mark_38 : decode cX6_mark 38 = .ok (.ifCond .eq 63, 3) := by decide +kernel
theorem dX6_mark_41 : decode cX6_mark 41 = .ok (.iload_n 2, 1) := by decide +kernel
theorem dX6_mark_42 : decode cX6_mark 42 = .ok (.ifCond .eq 17, 3) := by decide +kernel
theorem dX6_mark_45 : decode cX6_mark 45 = .ok (.aload_n 0, 1) := by decide +kernel
theorem dX6_mark_46 : decode cX6_mark 46 = .ok (.getfield 9, 3) := by decide +kernel
theorem dX6_mark_49 : decode cX6_mark 49 = .ok (.iload_n 2, 1) := by decide +kernel
theorem dX6_mark_50 : decode cX6_mark 50 = .ok (.iconst 1, 1) := by decide +kernel
theorem dX6_mark_51 : decode cX6_mark 51 = .ok (.isub, 1) := by decide +kernel
theorem dX6_mark_52 : decode cX6_mark 52 = .ok (.iaload, 1) := by decide +kernel
theorem dX6_mark_53 : decode cX6_mark 53 = .ok (.invokestatic 48, 3) := by decide +kernel
theorem dX6_mark_56 : decode cX6_mark 56 = .ok (.ifCond .ne 45, 3) := by decide +kernel
theorem dX6_mark_59 : decode cX6_mark 59 = .ok (.aload_n 0, 1) := by decide +kernel
theorem dX6_mark_60 : decode cX6_mark 60 = .ok (.getfield 15, 3) := by decide +kernel
theorem dX6_mark_63 : decode cX6_mark 63 = .ok (.aload_n 0, 1) := by decide +kernel
theorem dX6_mark_64 : decode cX6_mark 64 = .ok (.getfield 28, 3) := by decide +kernel
theorem dX6_mark_67 : decode cX6_mark 67 = .ok (.iload_n 2, 1) := by decide +kernel
theorem dX6_mark_68 : decode cX6_mark 68 = .ok (.iastore, 1) := by decide +kernel
theorem dX6_mark_69 : decode cX6_mark 69 = .ok (.aload_n 0, 1) := by decide +kernel
theorem dX6_mark_70 : decode cX6_mark 70 = .ok (.getfield 18, 3) := by decide +kernel
theorem dX6_mark_73 : decode cX6_mark 73 = .ok (.aload_n 0, 1) := by decide +kernel
theorem dX6_mark_74 : decode cX6_mark 74 = .ok (.getfield 28, 3) := by decide +kernel
theorem dX6_mark_77 : decode cX6_mark 77 = .ok (.aload_n 1, 1) := by decide +kernel
theorem dX6_mark_78 : decode cX6_mark 78 = .ok (.aload_n 0, 1) := by decide +kernel
theorem dX6_mark_79 : decode cX6_mark 79 = .ok (.getfield 9, 3) := by decide +kernel
theorem dX6_mark_82 : decode cX6_mark 82 = .ok (.iload_n 2, 1) := by decide +kernel
theorem dX6_mark_83 : decode cX6_mark 83 = .ok (.aload_n 0, 1) := by decide +kernel
theorem dX6_mark_84 : decode cX6_mark 84 = .ok (.getfield 24, 3) := by decide +kernel
theorem dX6_mark_87 : decode cX6_mark 87 = .ok (.invokevirtual 52, 3) := by decide +kernel
theorem dX6_mark_90 : decode cX6_mark 90 = .ok (.iastore, 1) := by decide +kernel
theorem dX6_mark_91 : decode cX6_mark 91 = .ok (.aload_n 0, 1) := by decide +kernel
theorem dX6_mark_92 : decode cX6_mark 92 = .ok (.dup, 1) := by decide +kernel
theorem dX6_mark_93 : decode cX6_mark 93 = .ok (.getfield 28, 3) := by decide +kernel
theorem dX6_mark_96 : decode cX6_mark 96 = .ok (.iconst 1, 1) := by decide +kernel
theorem dX6_mark_97 : decode cX6_mark 97 = .ok (.iadd, 1) := by decide +kernel
theorem dX6_mark_98 : decode cX6_mark 98 = .ok (.putfield 28, 3) := by decide +kernel
theorem dX6_mark_101 : decode cX6_mark 101 = .ok (.iinc 2 1, 3) := by decide +kernel
theorem dX6_mark_104 : decode cX6_mark 104 = .ok (.goto (-97), 3) := by decide +kernel
theorem dX6_mark_107 : decode cX6_mark 107 = .ok (.return_, 1) := by decide +kernel
set_option maxRecDepth 20000 in
theorem ggX6_saving_X6_savingBy : GoodIn wsX6_saving wsX6_savingBy := goodIn_r _ [13, 14, 2, 15, 16, 7, 17, 18, 1, 27, 28, 29, 30, 19, 20, 21, 22, 23, 24, 25, 26] rfl (by decide +kernel)
set_option maxRecDepth 20000 in
theorem gX6_saving_X6_savingBy : GoodIn wsX6_saving (wsV RX6 61 RX6 yX6_savingBy wsX6_savingBy) := goodIn_app (goodIn_r _ [9, 10, 11, 12] rfl (by decide +kernel)) ggX6_saving_X6_savingBy
theorem dX6_saving_0 : decode cX6_saving 0 = .ok (.aload_n 0, 1) := by decide +kernel
theorem dX6_saving_1 : decode cX6_saving 1 = .ok (.getfield 21, 3) := by decide +kernel
theorem dX6_saving_4 : decode cX6_saving 4 = .ok (.aload_n 0, 1) := by decide +kernel
theorem dX6_saving_5 : decode cX6_saving 5 = .ok (.getfield 28, 3) := by decide +kernel
theorem dX6_saving_8 : decode cX6_saving 8 = .ok (.iconst 0, 1) := by decide +kernel
theorem dX6_saving_9 : decode cX6_saving 9 = .ok (.iastore, 1) := by decide +kernel
theorem dX6_saving_10 : decode cX6_saving 10 = .ok (.aload_n 0, 1) := by decide +kernel
theorem dX6_saving_11 : decode cX6_saving 11 = .ok (.getfield 28, 3) := by decide +kernel
theorem dX6_saving_14 : decode cX6_saving 14 = .ok (.iconst 1, 1) := by decide +kernel
theorem dX6_saving_15 : decode cX6_saving 15 = .ok (.isub, 1) := by decide +kernel
theorem dX6_saving_16 : decode cX6_saving 16 = .ok (.istore_n 3, 1) := by decide +kernel
theorem dX6_saving_17 : decode cX6_saving 17 = .ok (.iload_n 3, 1) := by decide +kernel
theorem dX6_saving_18 : decode cX6_saving 18 = .ok (.ifCond .lt 92, 3) := by decide +kernel
theorem dX6_saving_21 : decode cX6_saving 21 = .ok (.aload_n 0, 1) := by decide +kernel
theorem dX6_saving_22 : decode cX6_saving 22 = .ok (.getfield 21, 3) := by decide +kernel
theorem dX6_saving_25 : decode cX6_saving 25 = .ok (.iload_n 3, 1) := by decide +kernel
theorem dX6_saving_26 : decode cX6_saving 26 = .ok (.aload_n 0, 1) := by decide +kernel
theorem dX6_saving_27 : decode cX6_saving 27 = .ok (.getfield 21, 3) := by decide +kernel
theorem dX6_saving_30 : decode cX6_saving 30 = .ok (.iload_n 3, 1) := by decide +kernel
theorem dX6_saving_31 : decode cX6_saving 31 = .ok (.iconst 1, 1) := by decide +kernel
theorem dX6_saving_32 : decode cX6_saving 32 = .ok (.iadd, 1) := by decide +kernel
theorem dX6_saving_33 : decode cX6_saving 33 = .ok (.iaload, 1) := by decide +kernel
theorem dX6_saving_34 : decode cX6_saving 34 = .ok (.iastore, 1) := by decide +kernel
theorem dX6_saving_35 : decode cX6_saving 35 = .ok (.aload_n 0, 1) := by decide +kernel
theorem dX6_saving_36 : decode cX6_saving 36 = .ok (.getfield 18, 3) := by decide +kernel
theorem dX6_saving_39 : decode cX6_saving 39 = .ok (.iload_n 3, 1) := by decide +kernel
theorem dX6_saving_40 : decode cX6_saving 40 = .ok (.iaload, 1) := by decide +kernel
theorem dX6_saving_41 : decode cX6_saving 41 = .ok (.iload_n 2, 1) := by decide +kernel
theorem dX6_saving_42 : decode cX6_saving 42 = .ok (.iand, 1) := by decide +kernel
theorem dX6_saving_43 : decode cX6_saving 43 = .ok (.istore 4, 2) := by decide +kernel
theorem dX6_saving_45 : decode cX6_saving 45 = .ok (.iconst 0, 1) := by decide +kernel
theorem dX6_saving_46 : decode cX6_saving 46 = .ok (.istore 5, 2) := by decide +kernel
theorem dX6_saving_48 : decode cX6_saving 48 = .ok (.iload 5, 2) := by decide +kernel
theorem dX6_saving_50 : decode cX6_saving 50 = .ok (.aload_n 1, 1) := by decide +kernel
theorem dX6_saving_51 : decode cX6_saving 51 = .ok (.getfield 58, 3) := by decide +kernel
theorem dX6_saving_54 : decode cX6_saving 54 = .ok (.if_icmp .ge 50, 3) := by decide +kernel
theorem dX6_saving_57 : decode cX6_saving 57 = .ok (.iload 4, 2) := by decide +kernel
theorem dX6_saving_59 : decode cX6_saving 59 = .ok (.iload 5, 2) := by decide +kernel
theorem dX6_saving_61 : decode cX6_saving 61 = .ok (.ishr, 1) := by decide +kernel
theorem dX6_saving_62 : decode cX6_saving 62 = .ok (.ifCond .eq 42, 3) := by decide +kernel
theorem dX6_saving_65 : decode cX6_saving 65 = .ok (.iload 4, 2) := by decide +kernel
theorem dX6_saving_67 : decode cX6_saving 67 = .ok (.iload 5, 2) := by decide +kernel
theorem dX6_saving_69 : decode cX6_saving 69 = .ok (.ishr, 1) := by decide +kernel
theorem dX6_saving_70 : decode cX6_saving 70 = .ok (.iconst 1, 1) := by decide +kernel
theorem dX6_saving_71 : decode cX6_saving 71 = .ok (.iand, 1) := by decide +kernel
theorem dX6_saving_72 : decode cX6_saving 72 = .ok (.ifCond .eq 26, 3) := by decide +kernel
theorem dX6_saving_75 : decode cX6_saving 75 = .ok (.aload_n 0, 1) := by decide +kernel
theorem dX6_saving_76 : decode cX6_saving 76 = .ok (.getfield 21, 3) := by decide +kernel
theorem dX6_saving_79 : decode cX6_saving 79 = .ok (.iload_n 3, 1) := by decide +kernel
theorem dX6_saving_80 : decode cX6_saving 80 = .ok (.aload_n 0, 1) := by decide +kernel
theorem dX6_saving_81 : decode cX6_saving 81 = .ok (.getfield 21, 3) := by decide +kernel
theorem dX6_saving_84 : decode cX6_saving 84 = .ok (.iload_n 3, 1) := by decide +kernel
theorem dX6_saving_85 : decode cX6_saving 85 = .ok (.iaload, 1) := by decide +kernel
theorem dX6_saving_86 : decode cX6_saving 86 = .ok (.aload_n 0, 1) := by decide +kernel
theorem dX6_saving_87 : decode cX6_saving 87 = .ok (.aload_n 1, 1) := by decide +kernel
theorem dX6_saving_88 : decode cX6_saving 88 = .ok (.iload 5, 2) := by decide +kernel
theorem dX6_saving_90 : decode cX6_saving 90 = .ok (.iload_n 3, 1) := by decide +kernel
theorem dX6_saving_91 : decode cX6_saving 91 = .ok (.invokevirtual 61, 3) := by decide +kernel
theorem dX6_saving_94 : decode cX6_saving 94 = .ok (.invokestatic 65, 3) := by decide +kernel
theorem dX6_saving_97 : decode cX6_saving 97 = .ok (.iastore, 1) := by decide +kernel
theorem dX6_saving_98 : decode cX6_saving 98 = .ok (.iinc 5 1, 3) := by decide +kernel
theorem dX6_saving_101 : decode cX6_saving 101 = .ok (.goto (-53), 3) := by decide +kernel
theorem dX6_saving_104 : decode cX6_saving 104 = .ok (.iinc 3 (-1), 3) := by decide +kernel
theorem dX6_saving_107 : decode cX6_saving 107 = .ok (.goto (-90), 3) := by decide +kernel
theorem dX6_saving_110 : decode cX6_saving 110 = .ok (.aload_n 0, 1) := by decide +kernel
theorem dX6_saving_111 : decode cX6_saving 111 = .ok (.getfield 21, 3) := by decide +kernel
theorem dX6_saving_114 : decode cX6_saving 114 = .ok (.iconst 0, 1) := by decide +kernel
theorem dX6_saving_115 : decode cX6_saving 115 = .ok (.iaload, 1) := by decide +kernel
theorem dX6_saving_116 : decode cX6_saving 116 = .ok (.ireturn, 1) := by decide +kernel
theorem dX6_savingBy_0 : decode cX6_savingBy 0 = .ok (.iload_n 3, 1) := by decide +kernel
theorem dX6_savingBy_1 : decode cX6_savingBy 1 = .ok (.aload_n 1, 1) := by decide +kernel
theorem dX6_savingBy_2 : decode cX6_savingBy 2 = .ok (.getfield 71, 3) := by decide +kernel
theorem dX6_savingBy_5 : decode cX6_savingBy 5 = .ok (.iload_n 2, 1) := by decide +kernel
theorem dX6_savingBy_6 : decode cX6_savingBy 6 = .ok (.iaload, 1) := by decide +kernel
theorem dX6_savingBy_7 : decode cX6_savingBy 7 = .ok (.iadd, 1) := by decide +kernel
theorem dX6_savingBy_8 : decode cX6_savingBy 8 = .ok (.aload_n 0, 1) := by decide +kernel
theorem dX6_savingBy_9 : decode cX6_savingBy 9 = .ok (.getfield 28, 3) := by decide +kernel
theorem dX6_savingBy_12 : decode cX6_savingBy 12 = .ok (.invokestatic 73, 3) := by decide +kernel
theorem dX6_savingBy_15 : decode cX6_savingBy 15 = .ok (.istore 4, 2) := by decide +kernel
theorem dX6_savingBy_17 : decode cX6_savingBy 17 = .ok (.aload_n 1, 1) := by decide +kernel
theorem dX6_savingBy_18 : decode cX6_savingBy 18 = .ok (.getfield 76, 3) := by decide +kernel
theorem dX6_savingBy_21 : decode cX6_savingBy 21 = .ok (.iload_n 2, 1) := by decide +kernel
theorem dX6_savingBy_22 : decode cX6_savingBy 22 = .ok (.iaload, 1) := by decide +kernel
theorem dX6_savingBy_23 : decode cX6_savingBy 23 = .ok (.iconst 2, 1) := by decide +kernel
theorem dX6_savingBy_24 : decode cX6_savingBy 24 = .ok (.isub, 1) := by decide +kernel
theorem dX6_savingBy_25 : decode cX6_savingBy 25 = .ok (.aload_n 0, 1) := by decide +kernel
theorem dX6_savingBy_26 : decode cX6_savingBy 26 = .ok (.getfield 21, 3) := by decide +kernel
theorem dX6_savingBy_29 : decode cX6_savingBy 29 = .ok (.iload 4, 2) := by decide +kernel
theorem dX6_savingBy_31 : decode cX6_savingBy 31 = .ok (.iaload, 1) := by decide +kernel
theorem dX6_savingBy_32 : decode cX6_savingBy 32 = .ok (.iadd, 1) := by decide +kernel
theorem dX6_savingBy_33 : decode cX6_savingBy 33 = .ok (.ireturn, 1) := by decide +kernel
set_option maxRecDepth 20000 in
theorem ggX6_bestSet_X6_usefulSet : GoodIn wsX6_bestSet wsX6_usefulSet := goodIn_r _ [5, 6, 7, 8, 9, 34, 35, 36, 37, 38, 39, 40, 41, 42, 43, 44, 45] rfl (by decide +kernel)
set_option maxRecDepth 20000 in
theorem gX6_bestSet_X6_usefulSet : GoodIn wsX6_bestSet (wsV RX6 79 RX6 yX6_usefulSet wsX6_usefulSet) := goodIn_app (goodIn_r _ [1, 2, 3, 4] rfl (by decide +kernel)) ggX6_bestSet_X6_usefulSet
set_option maxRecDepth 20000 in
theorem ggX6_bestSet_J6_bitCount_0f7a4 : GoodIn wsX6_bestSet wsJ6_bitCount_0f7a4 := goodIn_r _ [13, 14, 15, 16] rfl (by decide +kernel)
set_option maxRecDepth 20000 in
theorem gX6_bestSet_J6_bitCount_0f7a4 : GoodIn wsX6_bestSet (va_wsS RX6 83 yJ6_bitCount_0f7a4 wsJ6_bitCount_0f7a4) := goodIn_app (goodIn_r _ [10, 11, 12] rfl (by decide +kernel)) ggX6_bestSet_J6_bitCount_0f7a4
set_option maxRecDepth 20000 in
theorem ggX6_bestSet_X6_saving : GoodIn wsX6_bestSet wsX6_saving := goodIn_r _ [20, 21, 6, 7, 8, 22, 23, 24, 25, 26, 27, 28, 4, 29, 30, 31, 32, 33, 9, 34, 35, 36, 37, 38, 39, 40, 41, 42, 43, 44, 45] rfl (by decide +kernel)
set_option maxRecDepth 20000 in
theorem gX6_bestSet_X6_saving : GoodIn wsX6_bestSet (wsV RX6 89 RX6 yX6_saving wsX6_saving) := goodIn_app (goodIn_r _ [17, 18, 19, 4] rfl (by decide +kernel)) ggX6_bestSet_X6_saving
theorem dX6_bestSet_0 : decode cX6_bestSet 0 = .ok (.aload_n 0, 1) := by decide +kernel
theorem dX6_bestSet_1 : decode cX6_bestSet 1 = .ok (.aload_n 1, 1) := by decide +kernel
theorem dX6_bestSet_2 : decode cX6_bestSet 2 = .ok (.invokevirtual 79, 3) := by decide +kernel
theorem dX6_bestSet_5 : decode cX6_bestSet 5 = .ok (.istore_n 3, 1) := by decide +kernel
theorem dX6_bestSet_6 : decode cX6_bestSet 6 = .ok (.iconst 0, 1) := by decide +kernel
theorem dX6_bestSet_7 : decode cX6_bestSet 7 = .ok (.istore 4, 2) := by decide +kernel
theorem dX6_bestSet_9 : decode cX6_bestSet 9 = .ok (.iconst 0, 1) := by decide +kernel
theorem dX6_bestSet_10 : decode cX6_bestSet 10 = .ok (.istore 5, 2) := by decide +kernel
theorem dX6_bestSet_12 : decode cX6_bestSet 12 = .ok (.iconst 1, 1) := by decide +kernel
theorem dX6_bestSet_13 : decode cX6_bestSet 13 = .ok (.istore 6, 2) := by decide +kernel
theorem dX6_bestSet_15 : decode cX6_bestSet 15 = .ok (.iload 6, 2) := by decide +kernel
theorem dX6_bestSet_17 : decode cX6_bestSet 17 = .ok (.iload_n 3, 1) := by decide +kernel
theorem dX6_bestSet_18 : decode cX6_bestSet 18 = .ok (.if_icmp .gt 51, 3) := by decide +kernel
theorem dX6_bestSet_21 : decode cX6_bestSet 21 = .ok (.iload 6, 2) := by decide +kernel
theorem dX6_bestSet_23 : decode cX6_bestSet 23 = .ok (.iload_n 3, 1) := by decide +kernel
theorem dX6_bestSet_24 : decode cX6_bestSet 24 = .ok (.iconst (-1), 1) := by decide +kernel
theorem dX6_bestSet_25 : decode cX6_bestSet 25 = .ok (.ixor, 1) := by decide +kernel
theorem dX6_bestSet_26 : decode cX6_bestSet 26 = .ok (.iand, 1) := by decide +kernel
theorem dX6_bestSet_27 : decode cX6_bestSet 27 = .ok (.ifCond .ne 36, 3) := by decide +kernel
theorem dX6_bestSet_30 : decode cX6_bestSet 30 = .ok (.iload 6, 2) := by decide +kernel
theorem dX6_bestSet_32 : decode cX6_bestSet 32 = .ok (.invokestatic 83, 3) := by decide +kernel
theorem dX6_bestSet_35 : decode cX6_bestSet 35 = .ok (.iload_n 2, 1) := by decide +kernel
theorem dX6_bestSet_36 : decode cX6_bestSet 36 = .ok (.if_icmp .gt 27, 3) := by decide +kernel
theorem dX6_bestSet_39 : decode cX6_bestSet 39 = .ok (.aload_n 0, 1) := by decide +kernel
theorem dX6_bestSet_40 : decode cX6_bestSet 40 = .ok (.aload_n 1, 1) := by decide +kernel
theorem dX6_bestSet_41 : decode cX6_bestSet 41 = .ok (.iload 6, 2) := by decide +kernel
theorem dX6_bestSet_43 : decode cX6_bestSet 43 = .ok (.invokevirtual 89, 3) := by decide +kernel
theorem dX6_bestSet_46 : decode cX6_bestSet 46 = .ok (.istore 7, 2) := by decide +kernel
theorem dX6_bestSet_48 : decode cX6_bestSet 48 = .ok (.iload 7, 2) := by decide +kernel
theorem dX6_bestSet_50 : decode cX6_bestSet 50 = .ok (.iload 5, 2) := by decide +kernel
theorem dX6_bestSet_52 : decode cX6_bestSet 52 = .ok (.if_icmp .le 11, 3) := by decide +kernel
theorem dX6_bestSet_55 : decode cX6_bestSet 55 = .ok (.iload 7, 2) := by decide +kernel
theorem dX6_bestSet_57 : decode cX6_bestSet 57 = .ok (.istore 5, 2) := by decide +kernel
theorem dX6_bestSet_59 : decode cX6_bestSet 59 = .ok (.iload 6, 2) := by decide +kernel
theorem dX6_bestSet_61 : decode cX6_bestSet 61 = .ok (.istore 4, 2) := by decide +kernel
theorem dX6_bestSet_63 : decode cX6_bestSet 63 = .ok (.iinc 6 1, 3) := by decide +kernel
theorem dX6_bestSet_66 : decode cX6_bestSet 66 = .ok (.goto (-51), 3) := by decide +kernel
theorem dX6_bestSet_69 : decode cX6_bestSet 69 = .ok (.iload 4, 2) := by decide +kernel
theorem dX6_bestSet_71 : decode cX6_bestSet 71 = .ok (.ireturn, 1) := by decide +kernel
theorem dX6_usefulSet_0 : decode cX6_usefulSet 0 = .ok (.iconst 0, 1) := by decide +kernel
theorem dX6_usefulSet_1 : decode cX6_usefulSet 1 = .ok (.istore_n 2, 1) := by decide +kernel
theorem dX6_usefulSet_2 : decode cX6_usefulSet 2 = .ok (.iconst 0, 1) := by decide +kernel
theorem dX6_usefulSet_3 : decode cX6_usefulSet 3 = .ok (.istore_n 3, 1) := by decide +kernel
theorem dX6_usefulSet_4 : decode cX6_usefulSet 4 = .ok (.iload_n 3, 1) := by decide +kernel
theorem dX6_usefulSet_5 : decode cX6_usefulSet 5 = .ok (.aload_n 0, 1) := by decide +kernel
theorem dX6_usefulSet_6 : decode cX6_usefulSet 6 = .ok (.getfield 28, 3) := by decide +kernel
theorem dX6_usefulSet_9 : decode cX6_usefulSet 9 = .ok (.if_icmp .ge 18, 3) := by decide +kernel
theorem dX6_usefulSet_12 : decode cX6_usefulSet 12 = .ok (.iload_n 2, 1) := by decide +kernel
theorem dX6_usefulSet_13 : decode cX6_usefulSet 13 = .ok (.aload_n 0, 1) := by decide +kernel
theorem dX6_usefulSet_14 : decode cX6_usefulSet 14 = .ok (.getfield 18, 3) := by decide +kernel
theorem dX6_usefulSet_17 : decode cX6_usefulSet 17 = .ok (.iload_n 3, 1) := by decide +kernel
theorem dX6_usefulSet_18 : decode cX6_usefulSet 18 = .ok (.iaload, 1) := by decide +kernel
theorem dX6_usefulSet_19 : decode cX6_usefulSet 19 = .ok (.ior, 1) := by decide +kernel
theorem dX6_usefulSet_20 : decode cX6_usefulSet 20 = .ok (.istore_n 2, 1) := by decide +kernel
theorem dX6_usefulSet_21 : decode cX6_usefulSet 21 = .ok (.iinc 3 1, 3) := by decide +kernel
theorem dX6_usefulSet_24 : decode cX6_usefulSet 24 = .ok (.goto (-20), 3) := by decide +kernel
theorem dX6_usefulSet_27 : decode cX6_usefulSet 27 = .ok (.iconst 0, 1) := by decide +kernel
theorem dX6_usefulSet_28 : decode cX6_usefulSet 28 = .ok (.istore_n 3, 1) := by decide +kernel
theorem dX6_usefulSet_29 : decode cX6_usefulSet 29 = .ok (.iload_n 3, 1) := by decide +kernel
theorem dX6_usefulSet_30 : decode cX6_usefulSet 30 = .ok (.aload_n 1, 1) := by decide +kernel
theorem dX6_usefulSet_31 : decode cX6_usefulSet 31 = .ok (.getfield 58, 3) := by decide +kernel
theorem dX6_usefulSet_34 : decode cX6_usefulSet 34 = .ok (.if_icmp .ge 27, 3) := by decide +kernel
theorem dX6_usefulSet_37 : decode cX6_usefulSet 37 = .ok (.aload_n 1, 1) := by decide +kernel
theorem dX6_usefulSet_38 : decode cX6_usefulSet 38 = .ok (.getfield 76, 3) := by decide +kernel
theorem dX6_usefulSet_41 : decode cX6_usefulSet 41 = .ok (.iload_n 3, 1) := by decide +kernel
theorem dX6_usefulSet_42 : decode cX6_usefulSet 42 = .ok (.iaload, 1) := by decide +kernel
theorem dX6_usefulSet_43 : decode cX6_usefulSet 43 = .ok (.iconst 2, 1) := by decide +kernel
theorem dX6_usefulSet_44 : decode cX6_usefulSet 44 = .ok (.if_icmp .gt 11, 3) := by decide +kernel
theorem dX6_usefulSet_47 : decode cX6_usefulSet 47 = .ok (.iload_n 2, 1) := by decide +kernel
theorem dX6_usefulSet_48 : decode cX6_usefulSet 48 = .ok (.iconst 1, 1) := by decide +kernel
theorem dX6_usefulSet_49 : decode cX6_usefulSet 49 = .ok (.iload_n 3, 1) := by decide +kernel
theorem dX6_usefulSet_50 : decode cX6_usefulSet 50 = .ok (.ishl, 1) := by decide +kernel
theorem dX6_usefulSet_51 : decode cX6_usefulSet 51 = .ok (.iconst (-1), 1) := by decide +kernel
theorem dX6_usefulSet_52 : decode cX6_usefulSet 52 = .ok (.ixor, 1) := by decide +kernel
theorem dX6_usefulSet_53 : decode cX6_usefulSet 53 = .ok (.iand, 1) := by decide +kernel
theorem dX6_usefulSet_54 : decode cX6_usefulSet 54 = .ok (.istore_n 2, 1) := by decide +kernel
theorem dX6_usefulSet_55 : decode cX6_usefulSet 55 = .ok (.iinc 3 1, 3) := by decide +kernel
theorem dX6_usefulSet_58 : decode cX6_usefulSet 58 = .ok (.goto (-29), 3) := by decide +kernel
theorem dX6_usefulSet_61 : decode cX6_usefulSet 61 = .ok (.iload_n 2, 1) := by decide +kernel
theorem dX6_usefulSet_62 : decode cX6_usefulSet 62 = .ok (.ireturn, 1) := by decide +kernel
set_option maxRecDepth 20000 in
theorem ggX6_cut_X6_entryToTake : GoodIn wsX6_cut wsX6_entryToTake := goodIn_r _ [11, 12, 13, 14, 15, 16, 17, 10, 18, 4, 2, 19, 20, 21, 22, 6, 31, 32, 33, 34, 23, 24, 25, 26, 27, 28, 29, 30] rfl (by decide +kernel)
set_option maxRecDepth 20000 in
theorem gX6_cut_X6_entryToTake : GoodIn wsX6_cut (wsV RX6 93 RX6 yX6_entryToTake wsX6_entryToTake) := goodIn_app (goodIn_r _ [7, 8, 9, 10] rfl (by decide +kernel)) ggX6_cut_X6_entryToTake
theorem dX6_cut_0 : decode cX6_cut 0 = .ok (.iconst 0, 1) := by decide +kernel
theorem dX6_cut_1 : decode cX6_cut 1 = .ok (.istore_n 3, 1) := by decide +kernel
theorem dX6_cut_2 : decode cX6_cut 2 = .ok (.iconst 0, 1) := by decide +kernel
theorem dX6_cut_3 : decode cX6_cut 3 = .ok (.istore 4, 2) := by decide +kernel
theorem dX6_cut_5 : decode cX6_cut 5 = .ok (.iconst 0, 1) := by decide +kernel
theorem dX6_cut_6 : decode cX6_cut 6 = .ok (.istore 5, 2) := by decide +kernel
theorem dX6_cut_8 : decode cX6_cut 8 = .ok (.iload 5, 2) := by decide +kernel
theorem dX6_cut_10 : decode cX6_cut 10 = .ok (.aload_n 0, 1) := by decide +kernel
theorem dX6_cut_11 : decode cX6_cut 11 = .ok (.getfield 34, 3) := by decide +kernel
theorem dX6_cut_14 : decode cX6_cut 14 = .ok (.if_icmp .ge 116, 3) := by decide +kernel
theorem dX6_cut_17 : decode cX6_cut 17 = .ok (.iload_n 3, 1) := by decide +kernel
theorem dX6_cut_18 : decode cX6_cut 18 = .ok (.aload_n 2, 1) := by decide +kernel
theorem dX6_cut_19 : decode cX6_cut 19 = .ok (.arraylength, 1) := by decide +kernel
theorem dX6_cut_20 : decode cX6_cut 20 = .ok (.if_icmp .ge 110, 3) := by decide +kernel
theorem dX6_cut_23 : decode cX6_cut 23 = .ok (.iconst (-1), 1) := by decide +kernel
theorem dX6_cut_24 : decode cX6_cut 24 = .ok (.istore 6, 2) := by decide +kernel
theorem dX6_cut_26 : decode cX6_cut 26 = .ok (.iload 4, 2) := by decide +kernel
theorem dX6_cut_28 : decode cX6_cut 28 = .ok (.aload_n 0, 1) := by decide +kernel
theorem dX6_cut_29 : decode cX6_cut 29 = .ok (.getfield 28, 3) := by decide +kernel
theorem dX6_cut_32 : decode cX6_cut 32 = .ok (.if_icmp .ge 46, 3) := by decide +kernel
theorem dX6_cut_35 : decode cX6_cut 35 = .ok (.aload_n 0, 1) := by decide +kernel
theorem dX6_cut_36 : decode cX6_cut 36 = .ok (.getfield 15, 3) := by decide +kernel
theorem dX6_cut_39 : decode cX6_cut 39 = .ok (.iload 4, 2) := by decide +kernel
theorem dX6_cut_41 : decode cX6_cut 41 = .ok (.iaload, 1) := by decide +kernel
theorem dX6_cut_42 : decode cX6_cut 42 = .ok (.iload 5, 2) := by decide +kernel
theorem dX6_cut_44 : decode cX6_cut 44 = .ok (.if_icmp .ne 34, 3) := by decide +kernel
theorem dX6_cut_47 : decode cX6_cut 47 = .ok (.aload_n 0, 1) := by decide +kernel
theorem dX6_cut_48 : decode cX6_cut 48 = .ok (.aload_n 1, 1) := by decide +kernel
theorem dX6_cut_49 : decode cX6_cut 49 = .ok (.iload 4, 2) := by decide +kernel
theorem dX6_cut_51 : decode cX6_cut 51 = .ok (.invokevirtual 93, 3) := by decide +kernel
theorem dX6_cut_54 : decode cX6_cut 54 = .ok (.istore 6, 2) := by decide +kernel
theorem dX6_cut_56 : decode cX6_cut 56 = .ok (.iload 4, 2) := by decide +kernel
theorem dX6_cut_58 : decode cX6_cut 58 = .ok (.iload 6, 2) := by decide +kernel
theorem dX6_cut_60 : decode cX6_cut 60 = .ok (.iconst (-1), 1) := by decide +kernel
theorem dX6_cut_61 : decode cX6_cut 61 = .ok (.if_icmp .ne 7, 3) := by decide +kernel
theorem dX6_cut_64 : decode cX6_cut 64 = .ok (.iconst 1, 1) := by decide +kernel
theorem dX6_cut_65 : decode cX6_cut 65 = .ok (.goto 10, 3) := by decide +kernel
theorem dX6_cut_68 : decode cX6_cut 68 = .ok (.aload_n 1, 1) := by decide +kernel
theorem dX6_cut_69 : decode cX6_cut 69 = .ok (.getfield 71, 3) := by decide +kernel
theorem dX6_cut_72 : decode cX6_cut 72 = .ok (.iload 6, 2) := by decide +kernel
theorem dX6_cut_74 : decode cX6_cut 74 = .ok (.iaload, 1) := by decide +kernel
theorem dX6_cut_75 : decode cX6_cut 75 = .ok (.iadd, 1) := by decide +kernel
theorem dX6_cut_76 : decode cX6_cut 76 = .ok (.istore 4, 2) := by decide +kernel
theorem dX6_cut_78 : decode cX6_cut 78 = .ok (.aload_n 2, 1) := by decide +kernel
theorem dX6_cut_79 : decode cX6_cut 79 = .ok (.iload_n 3, 1) := by decide +kernel
theorem dX6_cut_80 : decode cX6_cut 80 = .ok (.iload 6, 2) := by decide +kernel
theorem dX6_cut_82 : decode cX6_cut 82 = .ok (.iconst (-1), 1) := by decide +kernel
theorem dX6_cut_83 : decode cX6_cut 83 = .ok (.if_icmp .ne 13, 3) := by decide +kernel
theorem dX6_cut_86 : decode cX6_cut 86 = .ok (.aload_n 0, 1) := by decide +kernel
theorem dX6_cut_87 : decode cX6_cut 87 = .ok (.getfield 9, 3) := by decide +kernel
theorem dX6_cut_90 : decode cX6_cut 90 = .ok (.iload 5, 2) := by decide +kernel
theorem dX6_cut_92 : decode cX6_cut 92 = .ok (.iaload, 1) := by decide +kernel
theorem dX6_cut_93 : decode cX6_cut 93 = .ok (.goto 8, 3) := by decide +kernel
theorem dX6_cut_96 : decode cX6_cut 96 = .ok (.bipush 100, 2) := by decide +kernel
theorem dX6_cut_98 : decode cX6_cut 98 = .ok (.iload 6, 2) := by decide +kernel
theorem dX6_cut_100 : decode cX6_cut 100 = .ok (.iadd, 1) := by decide +kernel
theorem dX6_cut_101 : decode cX6_cut 101 = .ok (.iastore, 1) := by decide +kernel
theorem dX6_cut_102 : decode cX6_cut 102 = .ok (.iinc 3 1, 3) := by decide +kernel
theorem dX6_cut_105 : decode cX6_cut 105 = .ok (.iload 5, 2) := by decide +kernel
theorem dX6_cut_107 : decode cX6_cut 107 = .ok (.iload 6, 2) := by decide +kernel
theorem dX6_cut_109 : decode cX6_cut 109 = .ok (.iconst (-1), 1) := by decide +kernel
theorem dX6_cut_110 : decode cX6_cut 110 = .ok (.if_icmp .ne 7, 3) := by decide +kernel
theorem dX6_cut_113 : decode cX6_cut 113 = .ok (.iconst 1, 1) := by decide +kernel
theorem dX6_cut_114 : decode cX6_cut 114 = .ok (.goto 10, 3) := by decide +kernel
theorem dX6_cut_117 : decode cX6_cut 117 = .ok (.aload_n 1, 1) := by decide +kernel
theorem dX6_cut_118 : decode cX6_cut 118 = .ok (.getfield 76, 3) := by decide +kernel
theorem dX6_cut_121 : decode cX6_cut 121 = .ok (.iload 6, 2) := by decide +kernel
theorem dX6_cut_123 : decode cX6_cut 123 = .ok (.iaload, 1) := by decide +kernel
theorem dX6_cut_124 : decode cX6_cut 124 = .ok (.iadd, 1) := by decide +kernel
theorem dX6_cut_125 : decode cX6_cut 125 = .ok (.istore 5, 2) := by decide +kernel
theorem dX6_cut_127 : decode cX6_cut 127 = .ok (.goto (-119), 3) := by decide +kernel
theorem dX6_cut_130 : decode cX6_cut 130 = .ok (.iload_n 3, 1) := by decide +kernel
theorem dX6_cut_131 : decode cX6_cut 131 = .ok (.ireturn, 1) := by decide +kernel
set_option maxRecDepth 20000 in
theorem ggX6_entryToTake_X6_savingBy : GoodIn wsX6_entryToTake wsX6_savingBy := goodIn_r _ [8, 9, 10, 11, 12, 13, 14, 15, 3, 16, 17, 18, 19, 20, 21, 22, 23, 24, 25, 26, 27] rfl (by decide +kernel)
set_option maxRecDepth 20000 in
theorem gX6_entryToTake_X6_savingBy : GoodIn wsX6_entryToTake (wsV RX6 61 RX6 yX6_savingBy wsX6_savingBy) := goodIn_app (goodIn_r _ [4, 5, 6, 7] rfl (by decide +kernel)) ggX6_entryToTake_X6_savingBy
theorem dX6_entryToTake_0 : decode cX6_entryToTake 0 = .ok (.iconst 0, 1) := by decide +kernel
theorem dX6_entryToTake_1 : decode cX6_entryToTake 1 = .ok (.istore_n 3, 1) := by decide +kernel
theorem dX6_entryToTake_2 : decode cX6_entryToTake 2 = .ok (.iload_n 3, 1) := by decide +kernel
theorem dX6_entryToTake_3 : decode cX6_entryToTake 3 = .ok (.aload_n 1, 1) := by decide +kernel
theorem dX6_entryToTake_4 : decode cX6_entryToTake 4 = .ok (.getfield 58, 3) := by decide +kernel
theorem dX6_entryToTake_7 : decode cX6_entryToTake 7 = .ok (.if_icmp .ge 40, 3) := by decide +kernel
theorem dX6_entryToTake_10 : decode cX6_entryToTake 10 = .ok (.aload_n 0, 1) := by decide +kernel
theorem dX6_entryToTake_11 : decode cX6_entryToTake 11 = .ok (.getfield 18, 3) := by decide +kernel
theorem dX6_entryToTake_14 : decode cX6_entryToTake 14 = .ok (.iload_n 2, 1) := by decide +kernel
theorem dX6_entryToTake_15 : decode cX6_entryToTake 15 = .ok (.iaload, 1) := by decide +kernel
theorem dX6_entryToTake_16 : decode cX6_entryToTake 16 = .ok (.iload_n 3, 1) := by decide +kernel
theorem dX6_entryToTake_17 : decode cX6_entryToTake 17 = .ok (.ishr, 1) := by decide +kernel
theorem dX6_entryToTake_18 : decode cX6_entryToTake 18 = .ok (.iconst 1, 1) := by decide +kernel
theorem dX6_entryToTake_19 : decode cX6_entryToTake 19 = .ok (.iand, 1) := by decide +kernel
theorem dX6_entryToTake_20 : decode cX6_entryToTake 20 = .ok (.ifCond .eq 21, 3) := by decide +kernel
theorem dX6_entryToTake_23 : decode cX6_entryToTake 23 = .ok (.aload_n 0, 1) := by decide +kernel
theorem dX6_entryToTake_24 : decode cX6_entryToTake 24 = .ok (.aload_n 1, 1) := by decide +kernel
theorem dX6_entryToTake_25 : decode cX6_entryToTake 25 = .ok (.iload_n 3, 1) := by decide +kernel
theorem dX6_entryToTake_26 : decode cX6_entryToTake 26 = .ok (.iload_n 2, 1) := by decide +kernel
theorem dX6_entryToTake_27 : decode cX6_entryToTake 27 = .ok (.invokevirtual 61, 3) := by decide +kernel
theorem dX6_entryToTake_30 : decode cX6_entryToTake 30 = .ok (.aload_n 0, 1) := by decide +kernel
theorem dX6_entryToTake_31 : decode cX6_entryToTake 31 = .ok (.getfield 21, 3) := by decide +kernel
theorem dX6_entryToTake_34 : decode cX6_entryToTake 34 = .ok (.iload_n 2, 1) := by decide +kernel
theorem dX6_entryToTake_35 : decode cX6_entryToTake 35 = .ok (.iaload, 1) := by decide +kernel
theorem dX6_entryToTake_36 : decode cX6_entryToTake 36 = .ok (.if_icmp .ne 5, 3) := by decide +kernel
theorem dX6_entryToTake_39 : decode cX6_entryToTake 39 = .ok (.iload_n 3, 1) := by decide +kernel
theorem dX6_entryToTake_40 : decode cX6_entryToTake 40 = .ok (.ireturn, 1) := by decide +kernel
theorem dX6_entryToTake_41 : decode cX6_entryToTake 41 = .ok (.iinc 3 1, 3) := by decide +kernel
theorem dX6_entryToTake_44 : decode cX6_entryToTake 44 = .ok (.goto (-42), 3) := by decide +kernel
theorem dX6_entryToTake_47 : decode cX6_entryToTake 47 = .ok (.iconst (-1), 1) := by decide +kernel
theorem dX6_entryToTake_48 : decode cX6_entryToTake 48 = .ok (.ireturn, 1) := by decide +kernel
set_option maxRecDepth 20000 in
theorem ggX7_init_X5_init : GoodIn wsX7_init wsX5_init := goodIn_r _ [13, 14, 2, 3, 8, 15, 16, 17, 18, 19, 20, 21, 22, 23, 24, 25, 26, 27] rfl (by decide +kernel)
set_option maxRecDepth 20000 in
theorem gX7_init_X5_init : GoodIn wsX7_init (wsX5_init) := ggX7_init_X5_init
theorem dX7_init_0 : decode cX7_init 0 = .ok (.aload_n 0, 1) := by decide +kernel
theorem dX7_init_1 : decode cX7_init 1 = .ok (.invokespecial 3, 3) := by decide +kernel
theorem dX7_init_4 : decode cX7_init 4 = .ok (.aload_n 0, 1) := by decide +kernel
theorem dX7_init_5 : decode cX7_init 5 = .ok (.new 9, 3) := by decide +kernel
theorem dX7_init_8 : decode cX7_init 8 = .ok (.dup, 1) := by decide +kernel
theorem dX7_init_9 : decode cX7_init 9 = .ok (.bipush 16, 2) := by decide +kernel
theorem dX7_init_11 : decode cX7_init 11 = .ok (.bipush 100, 2) := by decide +kernel
theorem dX7_init_13 : decode cX7_init 13 = .ok (.invokespecial 11, 3) := by decide +kernel
theorem dX7_init_16 : decode cX7_init 16 = .ok (.putfield 14, 3) := by decide +kernel
theorem dX7_init_19 : decode cX7_init 19 = .ok (.aload_n 0, 1) := by decide +kernel
theorem dX7_init_20 : decode cX7_init 20 = .ok (.sipush 8016, 3) := by decide +kernel
theorem dX7_init_23 : decode cX7_init 23 = .ok (.newarray .int, 2) := by decide +kernel
theorem dX7_init_25 : decode cX7_init 25 = .ok (.putfield 20, 3) := by decide +kernel
theorem dX7_init_28 : decode cX7_init 28 = .ok (.aload_n 0, 1) := by decide +kernel
theorem dX7_init_29 : decode cX7_init 29 = .ok (.iconst (-1), 1) := by decide +kernel
theorem dX7_init_30 : decode cX7_init 30 = .ok (.putfield 24, 3) := by decide +kernel
theorem dX7_init_33 : decode cX7_init 33 = .ok (.return_, 1) := by decide +kernel
theorem dX7_hasTower_0 : decode cX7_hasTower 0 = .ok (.aload_n 0, 1) := by decide +kernel
theorem dX7_hasTower_1 : decode cX7_hasTower 1 = .ok (.getfield 24, 3) := by decide +kernel
theorem dX7_hasTower_4 : decode cX7_hasTower 4 = .ok (.iconst (-1), 1) := by decide +kernel
theorem dX7_hasTower_5 : decode cX7_hasTower 5 = .ok (.if_icmp .eq 22, 3) := by decide +kernel
theorem dX7_hasTower_8 : decode cX7_hasTower 8 = .ok (.iload_n 1, 1) := by decide +kernel
theorem dX7_hasTower_9 : decode cX7_hasTower 9 = .ok (.ifCond .lt 18, 3) := by decide +kernel
theorem dX7_hasTower_12 : decode cX7_hasTower 12 = .ok (.iload_n 1, 1) := by decide +kernel
theorem dX7_hasTower_13 : decode cX7_hasTower 13 = .ok (.aload_n 0, 1) := by decide +kernel
theorem dX7_hasTower_14 : decode cX7_hasTower 14 = .ok (.getfield 14, 3) := by decide +kernel
theorem dX7_hasTower_17 : decode cX7_hasTower 17 = .ok (.getfield 28, 3) := by decide +kernel
theorem dX7_hasTower_20 : decode cX7_hasTower 20 = .ok (.if_icmp .ge 7, 3) := by decide +kernel
theorem dX7_hasTower_23 : decode cX7_hasTower 23 = .ok (.iconst 1, 1) := by decide +kernel
theorem dX7_hasTower_24 : decode cX7_hasTower 24 = .ok (.goto 4, 3) := by decide +kernel
theorem dX7_hasTower_27 : decode cX7_hasTower 27 = .ok (.iconst 0, 1) := by decide +kernel
theorem dX7_hasTower_28 : decode cX7_hasTower 28 = .ok (.ireturn, 1) := by decide +kernel
set_option maxRecDepth 20000 in
theorem ggX7_run_X5_begin : GoodIn wsX7_run wsX5_begin := goodIn_r _ [17, 18, 19, 20, 21, 22, 23, 24, 25, 26, 27, 28, 29, 30, 31, 32, 120, 121, 122, 123, 124, 125, 126, 127] rfl (by decide +kernel)
set_option maxRecDepth 20000 in
theorem gX7_run_X5_begin : GoodIn wsX7_run (wsV RX7 37 RX5 yX5_begin wsX5_begin) := goodIn_app (goodIn_r _ [13, 14, 15, 16] rfl (by decide +kernel)) ggX7_run_X5_begin
set_option maxRecDepth 20000 in
theorem ggX7_run_X1_move : GoodIn wsX7_run wsX1_move := goodIn_r _ [37, 38, 39, 40, 41, 42, 43, 44, 9, 10, 11, 45, 46, 47, 48, 20, 21, 22, 49, 50, 51, 36, 52, 53, 54, 55, 56, 57, 58, 59, 60, 61, 62, 63, 64, 65, 66, 67, 68, 69, 70, 71, 72, 73, 74, 75, 76, 77, 78, 79, 80, 81, 82, 83, 84, 85, 86, 87, 88, 89, 90, 91, 92, 93, 94, 95, 16, 96, 26, 97, 28, 98, 99, 100, 101, 112, 113, 114, 115, 116, 117, 118, 119, 120, 121, 122, 123, 124, 125, 126, 127, 128, 129, 130, 131, 132, 133, 134, 135, 136, 137, 138, 139] rfl (by decide +kernel)
set_option maxRecDepth 20000 in
theorem gX7_run_X1_move : GoodIn wsX7_run (wsV RX7 41 RX1 yX1_move wsX1_move) := goodIn_app (goodIn_r _ [33, 34, 35, 36] rfl (by decide +kernel)) ggX7_run_X1_move
set_option maxRecDepth 20000 in
theorem ggX7_run_X1_outcome : GoodIn wsX7_run wsX1_outcome := goodIn_r _ [105, 106, 40, 58, 120, 121, 122, 123, 124, 125, 126, 127, 112, 113, 114, 115, 116, 117, 118, 119] rfl (by decide +kernel)
set_option maxRecDepth 20000 in
theorem gX7_run_X1_outcome : GoodIn wsX7_run (wsV RX7 54 RX1 yX1_outcome wsX1_outcome) := goodIn_app (goodIn_r _ [102, 103, 104, 36] rfl (by decide +kernel)) ggX7_run_X1_outcome
theorem dX7_run_0 : decode cX7_run 0 = .ok (.aload_n 0, 1) := by decide +kernel
theorem dX7_run_1 : decode cX7_run 1 = .ok (.iload_n 2, 1) := by decide +kernel
theorem dX7_run_2 : decode cX7_run 2 = .ok (.putfield 24, 3) := by decide +kernel
theorem dX7_run_5 : decode cX7_run 5 = .ok (.aload_n 0, 1) := by decide +kernel
theorem dX7_run_6 : decode cX7_run 6 = .ok (.iconst 0, 1) := by decide +kernel
theorem dX7_run_7 : decode cX7_run 7 = .ok (.putfield 31, 3) := by decide +kernel
theorem dX7_run_10 : decode cX7_run 10 = .ok (.aload_n 0, 1) := by decide +kernel
theorem dX7_run_11 : decode cX7_run 11 = .ok (.getfield 14, 3) := by decide +kernel
theorem dX7_run_14 : decode cX7_run 14 = .ok (.aload_n 1, 1) := by decide +kernel
theorem dX7_run_15 : decode cX7_run 15 = .ok (.getfield 34, 3) := by decide +kernel
theorem dX7_run_18 : decode cX7_run 18 = .ok (.invokevirtual 37, 3) := by decide +kernel
theorem dX7_run_21 : decode cX7_run 21 = .ok (.iconst 0, 1) := by decide +kernel
theorem dX7_run_22 : decode cX7_run 22 = .ok (.istore_n 3, 1) := by decide +kernel
theorem dX7_run_23 : decode cX7_run 23 = .ok (.iload_n 3, 1) := by decide +kernel
theorem dX7_run_24 : decode cX7_run 24 = .ok (.iload_n 2, 1) := by decide +kernel
theorem dX7_run_25 : decode cX7_run 25 = .ok (.if_icmp .gt 64, 3) := by decide +kernel
theorem dX7_run_28 : decode cX7_run 28 = .ok (.iload_n 3, 1) := by decide +kernel
theorem dX7_run_29 : decode cX7_run 29 = .ok (.sipush 500, 3) := by decide +kernel
theorem dX7_run_32 : decode cX7_run 32 = .ok (.if_icmp .gt 57, 3) := by decide +kernel
theorem dX7_run_35 : decode cX7_run 35 = .ok (.iload_n 3, 1) := by decide +kernel
theorem dX7_run_36 : decode cX7_run 36 = .ok (.ifCond .le 21, 3) := by decide +kernel
theorem dX7_run_39 : decode cX7_run 39 = .ok (.aload_n 1, 1) := by decide +kernel
theorem dX7_run_40 : decode cX7_run 40 = .ok (.aload_n 0, 1) := by decide +kernel
theorem dX7_run_41 : decode cX7_run 41 = .ok (.getfield 14, 3) := by decide +kernel
theorem dX7_run_44 : decode cX7_run 44 = .ok (.iload_n 3, 1) := by decide +kernel
theorem dX7_run_45 : decode cX7_run 45 = .ok (.iconst 0, 1) := by decide +kernel
theorem dX7_run_46 : decode cX7_run 46 = .ok (.invokevirtual 41, 3) := by decide +kernel
theorem dX7_run_49 : decode cX7_run 49 = .ok (.ifCond .eq 8, 3) := by decide +kernel
theorem dX7_run_52 : decode cX7_run 52 = .ok (.aload_n 0, 1) := by decide +kernel
theorem dX7_run_53 : decode cX7_run 53 = .ok (.iload_n 3, 1) := by decide +kernel
theorem dX7_run_54 : decode cX7_run 54 = .ok (.putfield 31, 3) := by decide +kernel
theorem dX7_run_57 : decode cX7_run 57 = .ok (.aload_n 0, 1) := by decide +kernel
theorem dX7_run_58 : decode cX7_run 58 = .ok (.getfield 14, 3) := by decide +kernel
theorem dX7_run_61 : decode cX7_run 61 = .ok (.getfield 45, 3) := by decide +kernel
theorem dX7_run_64 : decode cX7_run 64 = .ok (.iconst 0, 1) := by decide +kernel
theorem dX7_run_65 : decode cX7_run 65 = .ok (.aload_n 0, 1) := by decide +kernel
theorem dX7_run_66 : decode cX7_run 66 = .ok (.getfield 20, 3) := by decide +kernel
theorem dX7_run_69 : decode cX7_run 69 = .ok (.iload_n 3, 1) := by decide +kernel
theorem dX7_run_70 : decode cX7_run 70 = .ok (.bipush 16, 2) := by decide +kernel
theorem dX7_run_72 : decode cX7_run 72 = .ok (.imul, 1) := by decide +kernel
theorem dX7_run_73 : decode cX7_run 73 = .ok (.aload_n 0, 1) := by decide +kernel
theorem dX7_run_74 : decode cX7_run 74 = .ok (.getfield 14, 3) := by decide +kernel
theorem dX7_run_77 : decode cX7_run 77 = .ok (.getfield 28, 3) := by decide +kernel
theorem dX7_run_80 : decode cX7_run 80 = .ok (.invokestatic 48, 3) := by decide +kernel
theorem dX7_run_83 : decode cX7_run 83 = .ok (.iinc 3 1, 3) := by decide +kernel
theorem dX7_run_86 : decode cX7_run 86 = .ok (.goto (-63), 3) := by decide +kernel
theorem dX7_run_89 : decode cX7_run 89 = .ok (.aload_n 0, 1) := by decide +kernel
theorem dX7_run_90 : decode cX7_run 90 = .ok (.aload_n 1, 1) := by decide +kernel
theorem dX7_run_91 : decode cX7_run 91 = .ok (.aload_n 0, 1) := by decide +kernel
theorem dX7_run_92 : decode cX7_run 92 = .ok (.getfield 14, 3) := by decide +kernel
theorem dX7_run_95 : decode cX7_run 95 = .ok (.invokevirtual 54, 3) := by decide +kernel
theorem dX7_run_98 : decode cX7_run 98 = .ok (.putfield 58, 3) := by decide +kernel
theorem dX7_run_101 : decode cX7_run 101 = .ok (.return_, 1) := by decide +kernel
theorem dX8_init_0 : decode cX8_init 0 = .ok (.aload_n 0, 1) := by decide +kernel
theorem dX8_init_1 : decode cX8_init 1 = .ok (.invokespecial 3, 3) := by decide +kernel
theorem dX8_init_4 : decode cX8_init 4 = .ok (.aload_n 0, 1) := by decide +kernel
theorem dX8_init_5 : decode cX8_init 5 = .ok (.bipush 20, 2) := by decide +kernel
theorem dX8_init_7 : decode cX8_init 7 = .ok (.newarray .int, 2) := by decide +kernel
theorem dX8_init_9 : decode cX8_init 9 = .ok (.putfield 9, 3) := by decide +kernel
theorem dX8_init_12 : decode cX8_init 12 = .ok (.aload_n 0, 1) := by decide +kernel
theorem dX8_init_13 : decode cX8_init 13 = .ok (.bipush 20, 2) := by decide +kernel
theorem dX8_init_15 : decode cX8_init 15 = .ok (.newarray .int, 2) := by decide +kernel
theorem dX8_init_17 : decode cX8_init 17 = .ok (.putfield 15, 3) := by decide +kernel
theorem dX8_init_20 : decode cX8_init 20 = .ok (.aload_n 0, 1) := by decide +kernel
theorem dX8_init_21 : decode cX8_init 21 = .ok (.bipush 40, 2) := by decide +kernel
theorem dX8_init_23 : decode cX8_init 23 = .ok (.newarray .int, 2) := by decide +kernel
theorem dX8_init_25 : decode cX8_init 25 = .ok (.putfield 18, 3) := by decide +kernel
theorem dX8_init_28 : decode cX8_init 28 = .ok (.aload_n 0, 1) := by decide +kernel
theorem dX8_init_29 : decode cX8_init 29 = .ok (.bipush 40, 2) := by decide +kernel
theorem dX8_init_31 : decode cX8_init 31 = .ok (.newarray .int, 2) := by decide +kernel
theorem dX8_init_33 : decode cX8_init 33 = .ok (.putfield 21, 3) := by decide +kernel
theorem dX8_init_36 : decode cX8_init 36 = .ok (.aload_n 0, 1) := by decide +kernel
theorem dX8_init_37 : decode cX8_init 37 = .ok (.bipush 40, 2) := by decide +kernel
theorem dX8_init_39 : decode cX8_init 39 = .ok (.newarray .int, 2) := by decide +kernel
theorem dX8_init_41 : decode cX8_init 41 = .ok (.putfield 24, 3) := by decide +kernel
theorem dX8_init_44 : decode cX8_init 44 = .ok (.aload_n 0, 1) := by decide +kernel
theorem dX8_init_45 : decode cX8_init 45 = .ok (.bipush 40, 2) := by decide +kernel
theorem dX8_init_47 : decode cX8_init 47 = .ok (.newarray .int, 2) := by decide +kernel
theorem dX8_init_49 : decode cX8_init 49 = .ok (.putfield 27, 3) := by decide +kernel
theorem dX8_init_52 : decode cX8_init 52 = .ok (.aload_n 0, 1) := by decide +kernel
theorem dX8_init_53 : decode cX8_init 53 = .ok (.bipush 40, 2) := by decide +kernel
theorem dX8_init_55 : decode cX8_init 55 = .ok (.newarray .int, 2) := by decide +kernel
theorem dX8_init_57 : decode cX8_init 57 = .ok (.putfield 30, 3) := by decide +kernel
theorem dX8_init_60 : decode cX8_init 60 = .ok (.aload_n 0, 1) := by decide +kernel
theorem dX8_init_61 : decode cX8_init 61 = .ok (.bipush 40, 2) := by decide +kernel
theorem dX8_init_63 : decode cX8_init 63 = .ok (.newarray .int, 2) := by decide +kernel
theorem dX8_init_65 : decode cX8_init 65 = .ok (.putfield 33, 3) := by decide +kernel
theorem dX8_init_68 : decode cX8_init 68 = .ok (.return_, 1) := by decide +kernel
theorem dX8_clear_0 : decode cX8_clear 0 = .ok (.aload_n 0, 1) := by decide +kernel
theorem dX8_clear_1 : decode cX8_clear 1 = .ok (.iconst 0, 1) := by decide +kernel
theorem dX8_clear_2 : decode cX8_clear 2 = .ok (.putfield 36, 3) := by decide +kernel
theorem dX8_clear_5 : decode cX8_clear 5 = .ok (.aload_n 0, 1) := by decide +kernel
theorem dX8_clear_6 : decode cX8_clear 6 = .ok (.iconst 0, 1) := by decide +kernel
theorem dX8_clear_7 : decode cX8_clear 7 = .ok (.putfield 40, 3) := by decide +kernel
theorem dX8_clear_10 : decode cX8_clear 10 = .ok (.aload_n 0, 1) := by decide +kernel
theorem dX8_clear_11 : decode cX8_clear 11 = .ok (.iconst 0, 1) := by decide +kernel
theorem dX8_clear_12 : decode cX8_clear 12 = .ok (.putfield 43, 3) := by decide +kernel
theorem dX8_clear_15 : decode cX8_clear 15 = .ok (.aload_n 0, 1) := by decide +kernel
theorem dX8_clear_16 : decode cX8_clear 16 = .ok (.iconst 0, 1) := by decide +kernel
theorem dX8_clear_17 : decode cX8_clear 17 = .ok (.putfield 46, 3) := by decide +kernel
theorem dX8_clear_20 : decode cX8_clear 20 = .ok (.return_, 1) := by decide +kernel
theorem dX8_addOne_0 : decode cX8_addOne 0 = .ok (.aload_n 0, 1) := by decide +kernel
theorem dX8_addOne_1 : decode cX8_addOne 1 = .ok (.getfield 40, 3) := by decide +kernel
theorem dX8_addOne_4 : decode cX8_addOne 4 = .ok (.bipush 40, 2) := by decide +kernel
theorem dX8_addOne_6 : decode cX8_addOne 6 = .ok (.if_icmp .ge 69, 3) := by decide +kernel
theorem dX8_addOne_9 : decode cX8_addOne 9 = .ok (.aload_n 0, 1) := by decide +kernel
theorem dX8_addOne_10 : decode cX8_addOne 10 = .ok (.getfield 18, 3) := by decide +kernel
theorem dX8_addOne_13 : decode cX8_addOne 13 = .ok (.aload_n 0, 1) := by decide +kernel
theorem dX8_addOne_14 : decode cX8_addOne 14 = .ok (.getfield 40, 3) := by decide +kernel
theorem dX8_addOne_17 : decode cX8_addOne 17 = .ok (.iload_n 1, 1) := by decide +kernel
theorem dX8_addOne_18 : decode cX8_addOne 18 = .ok (.iastore, 1) := by decide +kernel
theorem dX8_addOne_19 : decode cX8_addOne 19 = .ok (.aload_n 0, 1) := by decide +kernel
theorem dX8_addOne_20 : decode cX8_addOne 20 = .ok (.getfield 21, 3) := by decide +kernel
theorem dX8_addOne_23 : decode cX8_addOne 23 = .ok (.aload_n 0, 1) := by decide +kernel
theorem dX8_addOne_24 : decode cX8_addOne 24 = .ok (.getfield 40, 3) := by decide +kernel
theorem dX8_addOne_27 : decode cX8_addOne 27 = .ok (.iload_n 2, 1) := by decide +kernel
theorem dX8_addOne_28 : decode cX8_addOne 28 = .ok (.iastore, 1) := by decide +kernel
theorem dX8_addOne_29 : decode cX8_addOne 29 = .ok (.aload_n 0, 1) := by decide +kernel
theorem dX8_addOne_30 : decode cX8_addOne 30 = .ok (.getfield 24, 3) := by decide +kernel
theorem dX8_addOne_33 : decode cX8_addOne 33 = .ok (.aload_n 0, 1) := by decide +kernel
theorem dX8_addOne_34 : decode cX8_addOne 34 = .ok (.getfield 40, 3) := by decide +kernel
theorem dX8_addOne_37 : decode cX8_addOne 37 = .ok (.iload_n 3, 1) := by decide +kernel
theorem dX8_addOne_38 : decode cX8_addOne 38 = .ok (.iastore, 1) := by decide +kernel
theorem dX8_addOne_39 : decode cX8_addOne 39 = .ok (.aload_n 0, 1) := by decide +kernel
theorem dX8_addOne_40 : decode cX8_addOne 40 = .ok (.dup, 1) := by decide +kernel
theorem dX8_addOne_41 : decode cX8_addOne 41 = .ok (.getfield 40, 3) := by decide +kernel
theorem dX8_addOne_44 : decode cX8_addOne 44 = .ok (.iconst 1, 1) := by decide +kernel
theorem dX8_addOne_45 : decode cX8_addOne 45 = .ok (.iadd, 1) := by decide +kernel
theorem dX8_addOne_46 : decode cX8_addOne 46 = .ok (.putfield 40, 3) := by decide +kernel
theorem dX8_addOne_49 : decode cX8_addOne 49 = .ok (.aload_n 0, 1) := by decide +kernel
theorem dX8_addOne_50 : decode cX8_addOne 50 = .ok (.dup, 1) := by decide +kernel
theorem dX8_addOne_51 : decode cX8_addOne 51 = .ok (.getfield 46, 3) := by decide +kernel
theorem dX8_addOne_54 : decode cX8_addOne 54 = .ok (.iload_n 1, 1) := by decide +kernel
theorem dX8_addOne_55 : decode cX8_addOne 55 = .ok (.bipush 103, 2) := by decide +kernel
theorem dX8_addOne_57 : decode cX8_addOne 57 = .ok (.if_icmp .eq 9, 3) := by decide +kernel
theorem dX8_addOne_60 : decode cX8_addOne 60 = .ok (.iload_n 3, 1) := by decide +kernel
theorem dX8_addOne_61 : decode cX8_addOne 61 = .ok (.bipush 103, 2) := by decide +kernel
theorem dX8_addOne_63 : decode cX8_addOne 63 = .ok (.if_icmp .ne 7, 3) := by decide +kernel
theorem dX8_addOne_66 : decode cX8_addOne 66 = .ok (.iconst 1, 1) := by decide +kernel
theorem dX8_addOne_67 : decode cX8_addOne 67 = .ok (.goto 4, 3) := by decide +kernel
theorem dX8_addOne_70 : decode cX8_addOne 70 = .ok (.iconst 0, 1) := by decide +kernel
theorem dX8_addOne_71 : decode cX8_addOne 71 = .ok (.ior, 1) := by decide +kernel
theorem dX8_addOne_72 : decode cX8_addOne 72 = .ok (.putfield 46, 3) := by decide +kernel
theorem dX8_addOne_75 : decode cX8_addOne 75 = .ok (.return_, 1) := by decide +kernel
theorem dX8_addAct_0 : decode cX8_addAct 0 = .ok (.aload_n 0, 1) := by decide +kernel
theorem dX8_addAct_1 : decode cX8_addAct 1 = .ok (.getfield 43, 3) := by decide +kernel
theorem dX8_addAct_4 : decode cX8_addAct 4 = .ok (.bipush 40, 2) := by decide +kernel
theorem dX8_addAct_6 : decode cX8_addAct 6 = .ok (.if_icmp .ge 69, 3) := by decide +kernel
theorem dX8_addAct_9 : decode cX8_addAct 9 = .ok (.aload_n 0, 1) := by decide +kernel
theorem dX8_addAct_10 : decode cX8_addAct 10 = .ok (.getfield 27, 3) := by decide +kernel
theorem dX8_addAct_13 : decode cX8_addAct 13 = .ok (.aload_n 0, 1) := by decide +kernel
theorem dX8_addAct_14 : decode cX8_addAct 14 = .ok (.getfield 43, 3) := by decide +kernel
theorem dX8_addAct_17 : decode cX8_addAct 17 = .ok (.iload_n 1, 1) := by decide +kernel
theorem dX8_addAct_18 : decode cX8_addAct 18 = .ok (.iastore, 1) := by decide +kernel
theorem dX8_addAct_19 : decode cX8_addAct 19 = .ok (.aload_n 0, 1) := by decide +kernel
theorem dX8_addAct_20 : decode cX8_addAct 20 = .ok (.getfield 30, 3) := by decide +kernel
theorem dX8_addAct_23 : decode cX8_addAct 23 = .ok (.aload_n 0, 1) := by decide +kernel
theorem dX8_addAct_24 : decode cX8_addAct 24 = .ok (.getfield 43, 3) := by decide +kernel
theorem dX8_addAct_27 : decode cX8_addAct 27 = .ok (.iload_n 2, 1) := by decide +kernel
theorem dX8_addAct_28 : decode cX8_addAct 28 = .ok (.iastore, 1) := by decide +kernel
theorem dX8_addAct_29 : decode cX8_addAct 29 = .ok (.aload_n 0, 1) := by decide +kernel
theorem dX8_addAct_30 : decode cX8_addAct 30 = .ok (.getfield 33, 3) := by decide +kernel
theorem dX8_addAct_33 : decode cX8_addAct 33 = .ok (.aload_n 0, 1) := by decide +kernel
theorem dX8_addAct_34 : decode cX8_addAct 34 = .ok (.getfield 43, 3) := by decide +kernel
theorem dX8_addAct_37 : decode cX8_addAct 37 = .ok (.iload_n 3, 1) := by decide +kernel
theorem dX8_addAct_38 : decode cX8_addAct 38 = .ok (.iastore, 1) := by decide +kernel
theorem dX8_addAct_39 : decode cX8_addAct 39 = .ok (.aload_n 0, 1) := by decide +kernel
theorem dX8_addAct_40 : decode cX8_addAct 40 = .ok (.dup, 1) := by decide +kernel
theorem dX8_addAct_41 : decode cX8_addAct 41 = .ok (.getfield 43, 3) := by decide +kernel
theorem dX8_addAct_44 : decode cX8_addAct 44 = .ok (.iconst 1, 1) := by decide +kernel
theorem dX8_addAct_45 : decode cX8_addAct 45 = .ok (.iadd, 1) := by decide +kernel
theorem dX8_addAct_46 : decode cX8_addAct 46 = .ok (.putfield 43, 3) := by decide +kernel
theorem dX8_addAct_49 : decode cX8_addAct 49 = .ok (.aload_n 0, 1) := by decide +kernel
theorem dX8_addAct_50 : decode cX8_addAct 50 = .ok (.dup, 1) := by decide +kernel
theorem dX8_addAct_51 : decode cX8_addAct 51 = .ok (.getfield 46, 3) := by decide +kernel
theorem dX8_addAct_54 : decode cX8_addAct 54 = .ok (.iload_n 2, 1) := by decide +kernel
theorem dX8_addAct_55 : decode cX8_addAct 55 = .ok (.bipush 103, 2) := by decide +kernel
theorem dX8_addAct_57 : decode cX8_addAct 57 = .ok (.if_icmp .eq 9, 3) := by decide +kernel
theorem dX8_addAct_60 : decode cX8_addAct 60 = .ok (.iload_n 3, 1) := by decide +kernel
theorem dX8_addAct_61 : decode cX8_addAct 61 = .ok (.bipush 103, 2) := by decide +kernel
theorem dX8_addAct_63 : decode cX8_addAct 63 = .ok (.if_icmp .ne 7, 3) := by decide +kernel
theorem dX8_addAct_66 : decode cX8_addAct 66 = .ok (.iconst 1, 1) := by decide +kernel
theorem dX8_addAct_67 : decode cX8_addAct 67 = .ok (.goto 4, 3) := by decide +kernel
theorem dX8_addAct_70 : decode cX8_addAct 70 = .ok (.iconst 0, 1) := by decide +kernel
theorem dX8_addAct_71 : decode cX8_addAct 71 = .ok (.ior, 1) := by decide +kernel
theorem dX8_addAct_72 : decode cX8_addAct 72 = .ok (.putfield 46, 3) := by decide +kernel
theorem dX8_addAct_75 : decode cX8_addAct 75 = .ok (.return_, 1) := by decide +kernel
theorem dX8_closeRule_0 : decode cX8_closeRule 0 = .ok (.aload_n 0, 1) := by decide +kernel
theorem dX8_closeRule_1 : decode cX8_closeRule 1 = .ok (.getfield 36, 3) := by decide +kernel
theorem dX8_closeRule_4 : decode cX8_closeRule 4 = .ok (.bipush 20, 2) := by decide +kernel
theorem dX8_closeRule_6 : decode cX8_closeRule 6 = .ok (.if_icmp .ge 39, 3) := by decide +kernel
theorem dX8_closeRule_9 : decode cX8_closeRule 9 = .ok (.aload_n 0, 1) := by decide +kernel
theorem dX8_closeRule_10 : decode cX8_closeRule 10 = .ok (.getfield 9, 3) := by decide +kernel
theorem dX8_closeRule_13 : decode cX8_closeRule 13 = .ok (.aload_n 0, 1) := by decide +kernel
theorem dX8_closeRule_14 : decode cX8_closeRule 14 = .ok (.getfield 36, 3) := by decide +kernel
theorem dX8_closeRule_17 : decode cX8_closeRule 17 = .ok (.aload_n 0, 1) := by decide +kernel
theorem dX8_closeRule_18 : decode cX8_closeRule 18 = .ok (.getfield 40, 3) := by decide +kernel
theorem dX8_closeRule_21 : decode cX8_closeRule 21 = .ok (.iastore, 1) := by decide +kernel
theorem dX8_closeRule_22 : decode cX8_closeRule 22 = .ok (.aload_n 0, 1) := by decide +kernel
theorem dX8_closeRule_23 : decode cX8_closeRule 23 = .ok (.getfield 15, 3) := by decide +kernel
theorem dX8_closeRule_26 : decode cX8_closeRule 26 = .ok (.aload_n 0, 1) := by decide +kernel
theorem dX8_closeRule_27 : decode cX8_closeRule 27 = .ok (.getfield 36, 3) := by decide +kernel
theorem dX8_closeRule_30 : decode cX8_closeRule 30 = .ok (.aload_n 0, 1) := by decide +kernel
theorem dX8_closeRule_31 : decode cX8_closeRule 31 = .ok (.getfield 43, 3) := by decide +kernel
theorem dX8_closeRule_34 : decode cX8_closeRule 34 = .ok (.iastore, 1) := by decide +kernel
theorem dX8_closeRule_35 : decode cX8_closeRule 35 = .ok (.aload_n 0, 1) := by decide +kernel
theorem dX8_closeRule_36 : decode cX8_closeRule 36 = .ok (.dup, 1) := by decide +kernel
theorem dX8_closeRule_37 : decode cX8_closeRule 37 = .ok (.getfield 36, 3) := by decide +kernel
theorem dX8_closeRule_40 : decode cX8_closeRule 40 = .ok (.iconst 1, 1) := by decide +kernel
theorem dX8_closeRule_41 : decode cX8_closeRule 41 = .ok (.iadd, 1) := by decide +kernel
theorem dX8_closeRule_42 : decode cX8_closeRule 42 = .ok (.putfield 36, 3) := by decide +kernel
theorem dX8_closeRule_45 : decode cX8_closeRule 45 = .ok (.return_, 1) := by decide +kernel
theorem dX8_firstAct_0 : decode cX8_firstAct 0 = .ok (.iload_n 1, 1) := by decide +kernel
theorem dX8_firstAct_1 : decode cX8_firstAct 1 = .ok (.ifCond .le 14, 3) := by decide +kernel
theorem dX8_firstAct_4 : decode cX8_firstAct 4 = .ok (.aload_n 0, 1) := by decide +kernel
theorem dX8_firstAct_5 : decode cX8_firstAct 5 = .ok (.getfield 15, 3) := by decide +kernel
theorem dX8_firstAct_8 : decode cX8_firstAct 8 = .ok (.iload_n 1, 1) := by decide +kernel
theorem dX8_firstAct_9 : decode cX8_firstAct 9 = .ok (.iconst 1, 1) := by decide +kernel
theorem dX8_firstAct_10 : decode cX8_firstAct 10 = .ok (.isub, 1) := by decide +kernel
theorem dX8_firstAct_11 : decode cX8_firstAct 11 = .ok (.iaload, 1) := by decide +kernel
theorem dX8_firstAct_12 : decode cX8_firstAct 12 = .ok (.goto 4, 3) := by decide +kernel
theorem dX8_firstAct_15 : decode cX8_firstAct 15 = .ok (.iconst 0, 1) := by decide +kernel
theorem dX8_firstAct_16 : decode cX8_firstAct 16 = .ok (.ireturn, 1) := by decide +kernel
set_option maxRecDepth 20000 in
theorem ggX8_firstRuleThatHolds_X8_holds : GoodIn wsX8_firstRuleThatHolds wsX8_holds := goodIn_r _ [9] rfl (by decide +kernel)
set_option maxRecDepth 20000 in
theorem gX8_firstRuleThatHolds_X8_holds : GoodIn wsX8_firstRuleThatHolds (va_wsS RX8 50 yX8_holds wsX8_holds) := goodIn_app (goodIn_r _ [6, 7, 8] rfl (by decide +kernel)) ggX8_firstRuleThatHolds_X8_holds
theorem dX8_firstRuleThatHolds_0 : decode cX8_firstRuleThatHolds 0 = .ok (.iconst 0, 1) := by decide +kernel
theorem dX8_firstRuleThatHolds_1 : decode cX8_firstRuleThatHolds 1 = .ok (.istore_n 2, 1) := by decide +kernel
theorem dX8_firstRuleThatHolds_2 : decode cX8_firstRuleThatHolds 2 = .ok (.iconst 0, 1) := by decide +kernel
theorem dX8_firstRuleThatHolds_3 : decode cX8_firstRuleThatHolds 3 = .ok (.istore_n 3, 1) := by decide +kernel
theorem dX8_firstRuleThatHolds_4 : decode cX8_firstRuleThatHolds 4 = .ok (.iload_n 3, 1) := by decide +kernel
theorem dX8_firstRuleThatHolds_5 : decode cX8_firstRuleThatHolds 5 = .ok (.aload_n 0, 1) := by decide +kernel
theorem dX8_firstRuleThatHolds_6 : decode cX8_firstRuleThatHolds 6 = .ok (.getfield 36, 3) := by decide +kernel
theorem dX8_firstRuleThatHolds_9 : decode cX8_firstRuleThatHolds 9 = .ok (.if_icmp .ge 74, 3) := by decide +kernel
theorem dX8_firstRuleThatHolds_12 : decode cX8_firstRuleThatHolds 12 = .ok (.iconst 1, 1) := by decide +kernel
theorem dX8_firstRuleThatHolds_13 : decode cX8_firstRuleThatHolds 13 = .ok (.istore 4, 2) := by decide +kernel
theorem dX8_firstRuleThatHolds_15 : decode cX8_firstRuleThatHolds 15 = .ok (.iload_n 2, 1) := by decide +kernel
theorem dX8_firstRuleThatHolds_16 : decode cX8_firstRuleThatHolds 16 = .ok (.aload_n 0, 1) := by decide +kernel
theorem dX8_firstRuleThatHolds_17 : decode cX8_firstRuleThatHolds 17 = .ok (.getfield 9, 3) := by decide +kernel
theorem dX8_firstRuleThatHolds_20 : decode cX8_firstRuleThatHolds 20 = .ok (.iload_n 3, 1) := by decide +kernel
theorem dX8_firstRuleThatHolds_21 : decode cX8_firstRuleThatHolds 21 = .ok (.iaload, 1) := by decide +kernel
theorem dX8_firstRuleThatHolds_22 : decode cX8_firstRuleThatHolds 22 = .ok (.if_icmp .ge 41, 3) := by decide +kernel
theorem dX8_firstRuleThatHolds_25 : decode cX8_firstRuleThatHolds 25 = .ok (.iload 4, 2) := by decide +kernel
theorem dX8_firstRuleThatHolds_27 : decode cX8_firstRuleThatHolds 27 = .ok (.ifCond .eq 36, 3) := by decide +kernel
theorem dX8_firstRuleThatHolds_30 : decode cX8_firstRuleThatHolds 30 = .ok (.aload_n 1, 1) := by decide +kernel
theorem dX8_firstRuleThatHolds_31 : decode cX8_firstRuleThatHolds 31 = .ok (.aload_n 0, 1) := by decide +kernel
theorem dX8_firstRuleThatHolds_32 : decode cX8_firstRuleThatHolds 32 = .ok (.getfield 18, 3) := by decide +kernel
theorem dX8_firstRuleThatHolds_35 : decode cX8_firstRuleThatHolds 35 = .ok (.iload_n 2, 1) := by decide +kernel
theorem dX8_firstRuleThatHolds_36 : decode cX8_firstRuleThatHolds 36 = .ok (.iaload, 1) := by decide +kernel
theorem dX8_firstRuleThatHolds_37 : decode cX8_firstRuleThatHolds 37 = .ok (.iaload, 1) := by decide +kernel
theorem dX8_firstRuleThatHolds_38 : decode cX8_firstRuleThatHolds 38 = .ok (.aload_n 0, 1) := by decide +kernel
theorem dX8_firstRuleThatHolds_39 : decode cX8_firstRuleThatHolds 39 = .ok (.getfield 21, 3) := by decide +kernel
theorem dX8_firstRuleThatHolds_42 : decode cX8_firstRuleThatHolds 42 = .ok (.iload_n 2, 1) := by decide +kernel
theorem dX8_firstRuleThatHolds_43 : decode cX8_firstRuleThatHolds 43 = .ok (.iaload, 1) := by decide +kernel
theorem dX8_firstRuleThatHolds_44 : decode cX8_firstRuleThatHolds 44 = .ok (.aload_n 1, 1) := by decide +kernel
theorem dX8_firstRuleThatHolds_45 : decode cX8_firstRuleThatHolds 45 = .ok (.aload_n 0, 1) := by decide +kernel
theorem dX8_firstRuleThatHolds_46 : decode cX8_firstRuleThatHolds 46 = .ok (.getfield 24, 3) := by decide +kernel
theorem dX8_firstRuleThatHolds_49 : decode cX8_firstRuleThatHolds 49 = .ok (.iload_n 2, 1) := by decide +kernel
theorem dX8_firstRuleThatHolds_50 : decode cX8_firstRuleThatHolds 50 = .ok (.iaload, 1) := by decide +kernel
theorem dX8_firstRuleThatHolds_51 : decode cX8_firstRuleThatHolds 51 = .ok (.iaload, 1) := by decide +kernel
theorem dX8_firstRuleThatHolds_52 : decode cX8_firstRuleThatHolds 52 = .ok (.invokestatic 50, 3) := by decide +kernel
theorem dX8_firstRuleThatHolds_55 : decode cX8_firstRuleThatHolds 55 = .ok (.istore 4, 2) := by decide +kernel
theorem dX8_firstRuleThatHolds_57 : decode cX8_firstRuleThatHolds 57 = .ok (.iinc 2 1, 3) := by decide +kernel
theorem dX8_firstRuleThatHolds_60 : decode cX8_firstRuleThatHolds 60 = .ok (.goto (-45), 3) := by decide +kernel
theorem dX8_firstRuleThatHolds_63 : decode cX8_firstRuleThatHolds 63 = .ok (.iload 4, 2) := by decide +kernel
theorem dX8_firstRuleThatHolds_65 : decode cX8_firstRuleThatHolds 65 = .ok (.ifCond .eq 5, 3) := by decide +kernel
theorem dX8_firstRuleThatHolds_68 : decode cX8_firstRuleThatHolds 68 = .ok (.iload_n 3, 1) := by decide +kernel
theorem dX8_firstRuleThatHolds_69 : decode cX8_firstRuleThatHolds 69 = .ok (.ireturn, 1) := by decide +kernel
theorem dX8_firstRuleThatHolds_70 : decode cX8_firstRuleThatHolds 70 = .ok (.aload_n 0, 1) := by decide +kernel
theorem dX8_firstRuleThatHolds_71 : decode cX8_firstRuleThatHolds 71 = .ok (.getfield 9, 3) := by decide +kernel
theorem dX8_firstRuleThatHolds_74 : decode cX8_firstRuleThatHolds 74 = .ok (.iload_n 3, 1) := by decide +kernel
theorem dX8_firstRuleThatHolds_75 : decode cX8_firstRuleThatHolds 75 = .ok (.iaload, 1) := by decide +kernel
theorem dX8_firstRuleThatHolds_76 : decode cX8_firstRuleThatHolds 76 = .ok (.istore_n 2, 1) := by decide +kernel
theorem dX8_firstRuleThatHolds_77 : decode cX8_firstRuleThatHolds 77 = .ok (.iinc 3 1, 3) := by decide +kernel
theorem dX8_firstRuleThatHolds_80 : decode cX8_firstRuleThatHolds 80 = .ok (.goto (-76), 3) := by decide +kernel
theorem dX8_firstRuleThatHolds_83 : decode cX8_firstRuleThatHolds 83 = .ok (.iconst (-1), 1) := by decide +kernel
theorem dX8_firstRuleThatHolds_84 : decode cX8_firstRuleThatHolds 84 = .ok (.ireturn, 1) := by decide +kernel
theorem dX8_holds_0 : decode cX8_holds 0 = .ok (.iload_n 1, 1) := by decide +kernel
theorem dX8_holds_1 : decode cX8_holds 1 = .ok (.tableswitch 60 120 122 #[27, 38, 49], 27) := by decide +kernel
theorem dX8_holds_28 : decode cX8_holds 28 = .ok (.iload_n 0, 1) := by decide +kernel
theorem dX8_holds_29 : decode cX8_holds 29 = .ok (.iload_n 2, 1) := by decide +kernel
theorem dX8_holds_30 : decode cX8_holds 30 = .ok (.if_icmp .ge 7, 3) := by decide +kernel
theorem dX8_holds_33 : decode cX8_holds 33 = .ok (.iconst 1, 1) := by decide +kernel
theorem dX8_holds_34 : decode cX8_holds 34 = .ok (.goto 4, 3) := by decide +kernel
theorem dX8_holds_37 : decode cX8_holds 37 = .ok (.iconst 0, 1) := by decide +kernel
theorem dX8_holds_38 : decode cX8_holds 38 = .ok (.ireturn, 1) := by decide +kernel
theorem dX8_holds_39 : decode cX8_holds 39 = .ok (.iload_n 0, 1) := by decide +kernel
theorem dX8_holds_40 : decode cX8_holds 40 = .ok (.iload_n 2, 1) := by decide +kernel
theorem dX8_holds_41 : decode cX8_holds 41 = .ok (.if_icmp .ne 7, 3) := by decide +kernel
theorem dX8_holds_44 : decode cX8_holds 44 = .ok (.iconst 1, 1) := by decide +kernel
theorem dX8_holds_45 : decode cX8_holds 45 = .ok (.goto 4, 3) := by decide +kernel
theorem dX8_holds_48 : decode cX8_holds 48 = .ok (.iconst 0, 1) := by decide +kernel
theorem dX8_holds_49 : decode cX8_holds 49 = .ok (.ireturn, 1) := by decide +kernel
theorem dX8_holds_50 : decode cX8_holds 50 = .ok (.iload_n 0, 1) := by decide +kernel
theorem dX8_holds_51 : decode cX8_holds 51 = .ok (.iload_n 2, 1) := by decide +kernel
theorem dX8_holds_52 : decode cX8_holds 52 = .ok (.if_icmp .le 7, 3) := by decide +kernel
theorem dX8_holds_55 : decode cX8_holds 55 = .ok (.iconst 1, 1) := by decide +kernel
theorem dX8_holds_56 : decode cX8_holds 56 = .ok (.goto 4, 3) := by decide +kernel
theorem dX8_holds_59 : decode cX8_holds 59 = .ok (.iconst 0, 1) := by decide +kernel
theorem dX8_holds_60 : decode cX8_holds 60 = .ok (.ireturn, 1) := by decide +kernel
theorem dX8_holds_61 : decode cX8_holds 61 = .ok (.iload_n 0, 1) := by decide +kernel
theorem dX8_holds_62 : decode cX8_holds 62 = .ok (.iload_n 2, 1) := by decide +kernel
theorem dX8_holds_63 : decode cX8_holds 63 = .ok (.if_icmp .eq 7, 3) := by decide +kernel
theorem dX8_holds_66 : decode cX8_holds 66 = .ok (.iconst 1, 1) := by decide +kernel
theorem dX8_holds_67 : decode cX8_holds 67 = .ok (.goto 4, 3) := by decide +kernel
theorem dX8_holds_70 : decode cX8_holds 70 = .ok (.iconst 0, 1) := by decide +kernel
theorem dX8_holds_71 : decode cX8_holds 71 = .ok (.ireturn, 1) := by decide +kernel
set_option maxRecDepth 20000 in
theorem ggX9_init_X8_init : GoodIn wsX9_init wsX8_init := goodIn_r _ [11, 12, 2, 3, 4, 13, 14, 15, 16, 17, 18, 19, 20, 29, 30, 31, 32, 33, 34, 35, 36, 37, 38, 39, 40] rfl (by decide +kernel)
set_option maxRecDepth 20000 in
theorem gX9_init_X8_init_n17 : GoodIn wsX9_init (wsX8_init) := ggX9_init_X8_init
theorem dX9_init_0 : decode cX9_init 0 = .ok (.aload_n 0, 1) := by decide +kernel
theorem dX9_init_1 : decode cX9_init 1 = .ok (.invokespecial 3, 3) := by decide +kernel
theorem dX9_init_4 : decode cX9_init 4 = .ok (.aload_n 0, 1) := by decide +kernel
theorem dX9_init_5 : decode cX9_init 5 = .ok (.iconst 0, 1) := by decide +kernel
theorem dX9_init_6 : decode cX9_init 6 = .ok (.newarray .int, 2) := by decide +kernel
theorem dX9_init_8 : decode cX9_init 8 = .ok (.putfield 9, 3) := by decide +kernel
theorem dX9_init_11 : decode cX9_init 11 = .ok (.aload_n 0, 1) := by decide +kernel
theorem dX9_init_12 : decode cX9_init 12 = .ok (.new 15, 3) := by decide +kernel
theorem dX9_init_15 : decode cX9_init 15 = .ok (.dup, 1) := by decide +kernel
theorem dX9_init_16 : decode cX9_init 16 = .ok (.invokespecial 17, 3) := by decide +kernel
theorem dX9_init_19 : decode cX9_init 19 = .ok (.putfield 18, 3) := by decide +kernel
theorem dX9_init_22 : decode cX9_init 22 = .ok (.return_, 1) := by decide +kernel
set_option maxRecDepth 20000 in
theorem ggX9_read_X8_clear : GoodIn wsX9_read wsX8_clear := goodIn_r _ [14, 15, 16, 17, 18, 213, 214, 215, 216, 217, 218, 219, 220, 221, 222, 223, 224] rfl (by decide +kernel)
set_option maxRecDepth 20000 in
theorem gX9_read_X8_clear : GoodIn wsX9_read (wsV RX9 30 RX8 yX8_clear wsX8_clear) := goodIn_app (goodIn_r _ [10, 11, 12, 13] rfl (by decide +kernel)) ggX9_read_X8_clear
set_option maxRecDepth 20000 in
theorem ggX9_read_X9_step : GoodIn wsX9_read wsX9_step := goodIn_r _ [23, 4, 24, 25, 26, 27, 6, 28, 2, 9, 29, 30, 31, 32, 33, 34, 35, 36, 22, 37, 38, 39, 40, 41, 42, 43, 44, 45, 46, 47, 48, 49, 50, 51, 52, 53, 54, 55, 56, 57, 58, 59, 60, 61, 62, 63, 64, 65, 66, 67, 68, 69, 70, 71, 72, 73, 74, 75, 76, 77, 78, 79, 80, 81, 82, 83, 84, 85, 86, 87, 88, 89, 90, 91, 92, 93, 94, 95, 96, 97, 98, 99, 100, 101, 102, 103, 104, 105, 106, 107, 108, 109, 110, 111, 112, 113, 114, 115, 116, 117, 118, 119, 120, 121, 122, 123, 124, 125, 126, 127, 128, 129, 130, 131, 132, 133, 134, 135, 136, 137, 138, 139, 140, 141, 142, 143, 144, 145, 146, 147, 148, 149, 150, 151, 152, 205, 206, 207, 208, 209, 210, 211, 212] rfl (by decide +kernel)
set_option maxRecDepth 20000 in
theorem gX9_read_X9_step : GoodIn wsX9_read (wsV RX9 42 RX9 yX9_step wsX9_step) := goodIn_app (goodIn_r _ [19, 20, 21, 22] rfl (by decide +kernel)) ggX9_read_X9_step
set_option maxRecDepth 20000 in
theorem ggX9_read_X9_endIsRight : GoodIn wsX9_read wsX9_endIsRight := goodIn_r _ [156, 4, 157, 158, 159, 22, 160, 7, 28, 8, 205, 206, 207, 208, 209, 210, 211, 212] rfl (by decide +kernel)
set_option maxRecDepth 20000 in
theorem gX9_read_X9_endIsRight : GoodIn wsX9_read (wsV RX9 48 RX9 yX9_endIsRight wsX9_endIsRight) := goodIn_app (goodIn_r _ [153, 154, 155, 22] rfl (by decide +kernel)) ggX9_read_X9_endIsRight
set_option maxRecDepth 20000 in
theorem ggX9_read_X9_readOnes : GoodIn wsX9_read wsX9_readOnes := goodIn_r _ [164, 9, 157, 158, 159, 22, 160, 7, 28, 8, 19, 20, 21, 23, 4, 24, 25, 26, 27, 6, 2, 29, 30, 31, 32, 33, 34, 35, 36, 37, 38, 39, 40, 41, 42, 43, 44, 45, 46, 47, 48, 49, 50, 51, 52, 53, 54, 55, 56, 57, 58, 59, 60, 61, 62, 63, 64, 65, 66, 67, 68, 69, 70, 71, 72, 73, 74, 75, 76, 77, 78, 79, 80, 81, 82, 83, 84, 85, 86, 87, 88, 89, 90, 91, 92, 93, 94, 95, 96, 97, 98, 99, 100, 101, 102, 103, 104, 105, 106, 107, 108, 109, 110, 111, 112, 113, 114, 115, 116, 117, 118, 119, 120, 121, 122, 123, 124, 125, 126, 127, 128, 129, 130, 131, 132, 133, 134, 135, 136, 137, 138, 139, 140, 141, 142, 143, 144, 145, 146, 147, 148, 149, 150, 151, 152, 165, 166, 167, 168, 5, 169, 170, 171, 172, 173, 174, 175, 176, 13, 177, 16, 178, 179, 180, 18, 205, 206, 207, 208, 209, 210, 211, 212, 213, 214, 215, 216, 217, 218, 219, 220, 221, 222, 223, 224] rfl (by decide +kernel)
set_option maxRecDepth 20000 in
theorem gX9_read_X9_readOnes : GoodIn wsX9_read (wsV RX9 52 RX9 yX9_readOnes wsX9_readOnes) := goodIn_app (goodIn_r _ [161, 162, 163, 22] rfl (by decide +kernel)) ggX9_read_X9_readOnes
set_option maxRecDepth 20000 in
theorem ggX9_read_X9_readActs : GoodIn wsX9_read wsX9_readActs := goodIn_r _ [184, 9, 19, 20, 21, 22, 23, 4, 24, 25, 26, 27, 6, 28, 2, 29, 30, 31, 32, 33, 34, 35, 36, 37, 38, 39, 40, 41, 42, 43, 44, 45, 46, 47, 48, 49, 50, 51, 52, 53, 54, 55, 56, 57, 58, 59, 60, 61, 62, 63, 64, 65, 66, 67, 68, 69, 70, 71, 72, 73, 74, 75, 76, 77, 78, 79, 80, 81, 82, 83, 84, 85, 86, 87, 88, 89, 90, 91, 92, 93, 94, 95, 96, 97, 98, 99, 100, 101, 102, 103, 104, 105, 106, 107, 108, 109, 110, 111, 112, 113, 114, 115, 116, 117, 118, 119, 120, 121, 122, 123, 124, 125, 126, 127, 128, 129, 130, 131, 132, 133, 134, 135, 136, 137, 138, 139, 140, 141, 142, 143, 144, 145, 146, 147, 148, 149, 150, 151, 152, 185, 186, 187, 188, 5, 189, 157, 158, 159, 160, 7, 8, 190, 191, 192, 13, 193, 17, 194, 195, 196, 18, 170, 171, 172, 173, 205, 206, 207, 208, 209, 210, 211, 212, 213, 214, 215, 216, 217, 218, 219, 220, 221, 222, 223, 224] rfl (by decide +kernel)
set_option maxRecDepth 20000 in
theorem gX9_read_X9_readActs : GoodIn wsX9_read (wsV RX9 55 RX9 yX9_readActs wsX9_readActs) := goodIn_app (goodIn_r _ [181, 182, 183, 22] rfl (by decide +kernel)) ggX9_read_X9_readActs
set_option maxRecDepth 20000 in
theorem ggX9_read_X8_closeRule : GoodIn wsX9_read wsX8_closeRule := goodIn_r _ [200, 15, 201, 16, 202, 17, 213, 214, 215, 216, 217, 218, 219, 220, 221, 222, 223, 224] rfl (by decide +kernel)
set_option maxRecDepth 20000 in
theorem gX9_read_X8_closeRule : GoodIn wsX9_read (wsV RX9 58 RX8 yX8_closeRule wsX8_closeRule) := goodIn_app (goodIn_r _ [197, 198, 199, 13] rfl (by decide +kernel)) ggX9_read_X8_closeRule
set_option maxRecDepth 20000 in
theorem ggX9_read_X9_refuse : GoodIn wsX9_read wsX9_refuse := goodIn_r _ [160, 7, 28, 8, 205, 206, 207, 208, 209, 210, 211, 212] rfl (by decide +kernel)
set_option maxRecDepth 20000 in
theorem gX9_read_X9_refuse : GoodIn wsX9_read (wsV RX9 61 RX9 yX9_refuse wsX9_refuse) := goodIn_app (goodIn_r _ [157, 158, 159, 22] rfl (by decide +kernel)) ggX9_read_X9_refuse
theorem dX9_read_0 : decode cX9_read 0 = .ok (.aload_n 0, 1) := by decide +kernel
theorem dX9_read_1 : decode cX9_read 1 = .ok (.aload_n 1, 1) := by decide +kernel
theorem dX9_read_2 : decode cX9_read 2 = .ok (.getfield 22, 3) := by decide +kernel
theorem dX9_read_5 : decode cX9_read 5 = .ok (.putfield 9, 3) := by decide +kernel
theorem dX9_read_8 : decode cX9_read 8 = .ok (.aload_n 0, 1) := by decide +kernel
theorem dX9_read_9 : decode cX9_read 9 = .ok (.aload_n 1, 1) := by decide +kernel
theorem dX9_read_10 : decode cX9_read 10 = .ok (.getfield 25, 3) := by decide +kernel
theorem dX9_read_13 : decode cX9_read 13 = .ok (.putfield 29, 3) := by decide +kernel
theorem dX9_read_16 : decode cX9_read 16 = .ok (.aload_n 0, 1) := by decide +kernel
theorem dX9_read_17 : decode cX9_read 17 = .ok (.aload_n 2, 1) := by decide +kernel
theorem dX9_read_18 : decode cX9_read 18 = .ok (.putfield 18, 3) := by decide +kernel
theorem dX9_read_21 : decode cX9_read 21 = .ok (.aload_n 0, 1) := by decide +kernel
theorem dX9_read_22 : decode cX9_read 22 = .ok (.getfield 18, 3) := by decide +kernel
theorem dX9_read_25 : decode cX9_read 25 = .ok (.invokevirtual 30, 3) := by decide +kernel
theorem dX9_read_28 : decode cX9_read 28 = .ok (.aload_n 0, 1) := by decide +kernel
theorem dX9_read_29 : decode cX9_read 29 = .ok (.iconst 0, 1) := by decide +kernel
theorem dX9_read_30 : decode cX9_read 30 = .ok (.putfield 33, 3) := by decide +kernel
theorem dX9_read_33 : decode cX9_read 33 = .ok (.aload_n 0, 1) := by decide +kernel
theorem dX9_read_34 : decode cX9_read 34 = .ok (.iconst 0, 1) := by decide +kernel
theorem dX9_read_35 : decode cX9_read 35 = .ok (.putfield 36, 3) := by decide +kernel
theorem dX9_read_38 : decode cX9_read 38 = .ok (.aload_n 0, 1) := by decide +kernel
theorem dX9_read_39 : decode cX9_read 39 = .ok (.iconst 0, 1) := by decide +kernel
theorem dX9_read_40 : decode cX9_read 40 = .ok (.putfield 39, 3) := by decide +kernel
theorem dX9_read_43 : decode cX9_read 43 = .ok (.aload_n 0, 1) := by decide +kernel
theorem dX9_read_44 : decode cX9_read 44 = .ok (.invokevirtual 42, 3) := by decide +kernel
theorem dX9_read_47 : decode cX9_read 47 = .ok (.iconst 0, 1) := by decide +kernel
theorem dX9_read_48 : decode cX9_read 48 = .ok (.istore_n 3, 1) := by decide +kernel
theorem dX9_read_49 : decode cX9_read 49 = .ok (.iload_n 3, 1) := by decide +kernel
theorem dX9_read_50 : decode cX9_read 50 = .ok (.bipush 20, 2) := by decide +kernel
theorem dX9_read_52 : decode cX9_read 52 = .ok (.if_icmp .ge 46, 3) := by decide +kernel
theorem dX9_read_55 : decode cX9_read 55 = .ok (.aload_n 0, 1) := by decide +kernel
theorem dX9_read_56 : decode cX9_read 56 = .ok (.getfield 45, 3) := by decide +kernel
theorem dX9_read_59 : decode cX9_read 59 = .ok (.bipush (-2), 2) := by decide +kernel
theorem dX9_read_61 : decode cX9_read 61 = .ok (.if_icmp .ne 8, 3) := by decide +kernel
theorem dX9_read_64 : decode cX9_read 64 = .ok (.aload_n 0, 1) := by decide +kernel
theorem dX9_read_65 : decode cX9_read 65 = .ok (.invokevirtual 48, 3) := by decide +kernel
theorem dX9_read_68 : decode cX9_read 68 = .ok (.ireturn, 1) := by decide +kernel
theorem dX9_read_69 : decode cX9_read 69 = .ok (.aload_n 0, 1) := by decide +kernel
theorem dX9_read_70 : decode cX9_read 70 = .ok (.invokevirtual 52, 3) := by decide +kernel
theorem dX9_read_73 : decode cX9_read 73 = .ok (.ifCond .eq 10, 3) := by decide +kernel
theorem dX9_read_76 : decode cX9_read 76 = .ok (.aload_n 0, 1) := by decide +kernel
theorem dX9_read_77 : decode cX9_read 77 = .ok (.invokevirtual 55, 3) := by decide +kernel
theorem dX9_read_80 : decode cX9_read 80 = .ok (.ifCond .ne 5, 3) := by decide +kernel
theorem dX9_read_83 : decode cX9_read 83 = .ok (.iconst 0, 1) := by decide +kernel
theorem dX9_read_84 : decode cX9_read 84 = .ok (.ireturn, 1) := by decide +kernel
theorem dX9_read_85 : decode cX9_read 85 = .ok (.aload_n 0, 1) := by decide +kernel
theorem dX9_read_86 : decode cX9_read 86 = .ok (.getfield 18, 3) := by decide +kernel
theorem dX9_read_89 : decode cX9_read 89 = .ok (.invokevirtual 58, 3) := by decide +kernel
theorem dX9_read_92 : decode cX9_read 92 = .ok (.iinc 3 1, 3) := by decide +kernel
theorem dX9_read_95 : decode cX9_read 95 = .ok (.goto (-46), 3) := by decide +kernel
theorem dX9_read_98 : decode cX9_read 98 = .ok (.aload_n 0, 1) := by decide +kernel
theorem dX9_read_99 : decode cX9_read 99 = .ok (.getfield 45, 3) := by decide +kernel
theorem dX9_read_102 : decode cX9_read 102 = .ok (.bipush (-2), 2) := by decide +kernel
theorem dX9_read_104 : decode cX9_read 104 = .ok (.if_icmp .ne 8, 3) := by decide +kernel
theorem dX9_read_107 : decode cX9_read 107 = .ok (.aload_n 0, 1) := by decide +kernel
theorem dX9_read_108 : decode cX9_read 108 = .ok (.invokevirtual 48, 3) := by decide +kernel
theorem dX9_read_111 : decode cX9_read 111 = .ok (.ireturn, 1) := by decide +kernel
theorem dX9_read_112 : decode cX9_read 112 = .ok (.aload_n 0, 1) := by decide +kernel
theorem dX9_read_113 : decode cX9_read 113 = .ok (.aload_n 0, 1) := by decide +kernel
theorem dX9_read_114 : decode cX9_read 114 = .ok (.getfield 45, 3) := by decide +kernel
theorem dX9_read_117 : decode cX9_read 117 = .ok (.bipush 110, 2) := by decide +kernel
theorem dX9_read_119 : decode cX9_read 119 = .ok (.if_icmp .ne 7, 3) := by decide +kernel
theorem dX9_read_122 : decode cX9_read 122 = .ok (.iconst 2, 1) := by decide +kernel
theorem dX9_read_123 : decode cX9_read 123 = .ok (.goto 4, 3) := by decide +kernel
theorem dX9_read_126 : decode cX9_read 126 = .ok (.iconst 1, 1) := by decide +kernel
theorem dX9_read_127 : decode cX9_read 127 = .ok (.invokevirtual 61, 3) := by decide +kernel
theorem dX9_read_130 : decode cX9_read 130 = .ok (.ireturn, 1) := by decide +kernel
set_option maxRecDepth 20000 in
theorem ggX9_endIsRight_X9_refuse : GoodIn wsX9_endIsRight wsX9_refuse := goodIn_r _ [6, 7, 8, 9, 10, 11, 12, 13, 14, 15, 16, 17] rfl (by decide +kernel)
set_option maxRecDepth 20000 in
theorem gX9_endIsRight_X9_refuse : GoodIn wsX9_endIsRight (wsV RX9 61 RX9 yX9_refuse wsX9_refuse) := goodIn_app (goodIn_r _ [2, 3, 4, 5] rfl (by decide +kernel)) ggX9_endIsRight_X9_refuse
theorem dX9_endIsRight_0 : decode cX9_endIsRight 0 = .ok (.aload_n 0, 1) := by decide +kernel
theorem dX9_endIsRight_1 : decode cX9_endIsRight 1 = .ok (.getfield 29, 3) := by decide +kernel
theorem dX9_endIsRight_4 : decode cX9_endIsRight 4 = .ok (.sipush 400, 3) := by decide +kernel
theorem dX9_endIsRight_7 : decode cX9_endIsRight 7 = .ok (.if_icmp .le 11, 3) := by decide +kernel
theorem dX9_endIsRight_10 : decode cX9_endIsRight 10 = .ok (.aload_n 0, 1) := by decide +kernel
theorem dX9_endIsRight_11 : decode cX9_endIsRight 11 = .ok (.iconst 1, 1) := by decide +kernel
theorem dX9_endIsRight_12 : decode cX9_endIsRight 12 = .ok (.invokevirtual 61, 3) := by decide +kernel
theorem dX9_endIsRight_15 : decode cX9_endIsRight 15 = .ok (.ifCond .eq 7, 3) := by decide +kernel
theorem dX9_endIsRight_18 : decode cX9_endIsRight 18 = .ok (.iconst 1, 1) := by decide +kernel
theorem dX9_endIsRight_19 : decode cX9_endIsRight 19 = .ok (.goto 4, 3) := by decide +kernel
theorem dX9_endIsRight_22 : decode cX9_endIsRight 22 = .ok (.iconst 0, 1) := by decide +kernel
theorem dX9_endIsRight_23 : decode cX9_endIsRight 23 = .ok (.ireturn, 1) := by decide +kernel
theorem dX9_refuse_0 : decode cX9_refuse 0 = .ok (.aload_n 0, 1) := by decide +kernel
theorem dX9_refuse_1 : decode cX9_refuse 1 = .ok (.iload_n 1, 1) := by decide +kernel
theorem dX9_refuse_2 : decode cX9_refuse 2 = .ok (.putfield 36, 3) := by decide +kernel
theorem dX9_refuse_5 : decode cX9_refuse 5 = .ok (.aload_n 0, 1) := by decide +kernel
theorem dX9_refuse_6 : decode cX9_refuse 6 = .ok (.aload_n 0, 1) := by decide +kernel
theorem dX9_refuse_7 : decode cX9_refuse 7 = .ok (.getfield 65, 3) := by decide +kernel
theorem dX9_refuse_10 : decode cX9_refuse 10 = .ok (.putfield 39, 3) := by decide +kernel
theorem dX9_refuse_13 : decode cX9_refuse 13 = .ok (.iconst 0, 1) := by decide +kernel
theorem dX9_refuse_14 : decode cX9_refuse 14 = .ok (.ireturn, 1) := by decide +kernel
set_option maxRecDepth 20000 in
theorem ggX9_readOnes_X9_refuse : GoodIn wsX9_readOnes wsX9_refuse := goodIn_r _ [6, 7, 8, 9, 165, 166, 167, 168, 169, 170, 171, 172] rfl (by decide +kernel)
set_option maxRecDepth 20000 in
theorem gX9_readOnes_X9_refuse : GoodIn wsX9_readOnes (wsV RX9 61 RX9 yX9_refuse wsX9_refuse) := goodIn_app (goodIn_r _ [2, 3, 4, 5] rfl (by decide +kernel)) ggX9_readOnes_X9_refuse
set_option maxRecDepth 20000 in
theorem ggX9_readOnes_X9_step : GoodIn wsX9_readOnes wsX9_step := goodIn_r _ [13, 14, 15, 16, 17, 18, 19, 8, 20, 1, 21, 22, 23, 24, 25, 26, 27, 28, 5, 29, 30, 31, 32, 33, 34, 35, 36, 37, 38, 39, 40, 41, 42, 43, 44, 45, 46, 47, 48, 49, 50, 51, 52, 53, 54, 55, 56, 57, 58, 59, 60, 61, 62, 63, 64, 65, 66, 67, 68, 69, 70, 71, 72, 73, 74, 75, 76, 77, 78, 79, 80, 81, 82, 83, 84, 85, 86, 87, 88, 89, 90, 91, 92, 93, 94, 95, 96, 97, 98, 99, 100, 101, 102, 103, 104, 105, 106, 107, 108, 109, 110, 111, 112, 113, 114, 115, 116, 117, 118, 119, 120, 121, 122, 123, 124, 125, 126, 127, 128, 129, 130, 131, 132, 133, 134, 135, 136, 137, 138, 139, 140, 141, 142, 143, 144, 165, 166, 167, 168, 169, 170, 171, 172] rfl (by decide +kernel)
set_option maxRecDepth 20000 in
theorem gX9_readOnes_X9_step : GoodIn wsX9_readOnes (wsV RX9 42 RX9 yX9_step wsX9_step) := goodIn_app (goodIn_r _ [10, 11, 12, 5] rfl (by decide +kernel)) ggX9_readOnes_X9_step
set_option maxRecDepth 20000 in
theorem ggX9_readOnes_X9_readOne : GoodIn wsX9_readOnes wsX9_readOne := goodIn_r _ [148, 149, 150, 1, 151, 152, 153, 5, 154, 2, 3, 4, 6, 7, 8, 9, 10, 11, 12, 13, 14, 15, 16, 17, 18, 19, 20, 21, 22, 23, 24, 25, 26, 27, 28, 29, 30, 31, 32, 33, 34, 35, 36, 37, 38, 39, 40, 41, 42, 43, 44, 45, 46, 47, 48, 49, 50, 51, 52, 53, 54, 55, 56, 57, 58, 59, 60, 61, 62, 63, 64, 65, 66, 67, 68, 69, 70, 71, 72, 73, 74, 75, 76, 77, 78, 79, 80, 81, 82, 83, 84, 85, 86, 87, 88, 89, 90, 91, 92, 93, 94, 95, 96, 97, 98, 99, 100, 101, 102, 103, 104, 105, 106, 107, 108, 109, 110, 111, 112, 113, 114, 115, 116, 117, 118, 119, 120, 121, 122, 123, 124, 125, 126, 127, 128, 129, 130, 131, 132, 133, 134, 135, 136, 137, 138, 139, 140, 141, 142, 143, 144, 155, 156, 157, 158, 159, 160, 161, 162, 163, 164, 165, 166, 167, 168, 169, 170, 171, 172, 173, 174, 175, 176, 177, 178, 179, 180, 181, 182, 183, 184] rfl (by decide +kernel)
set_option maxRecDepth 20000 in
theorem gX9_readOnes_X9_readOne : GoodIn wsX9_readOnes (wsV RX9 68 RX9 yX9_readOne wsX9_readOne) := goodIn_app (goodIn_r _ [145, 146, 147, 5] rfl (by decide +kernel)) ggX9_readOnes_X9_readOne
theorem dX9_readOnes_0 : decode cX9_readOnes 0 = .ok (.aload_n 0, 1) := by decide +kernel
theorem dX9_readOnes_1 : decode cX9_readOnes 1 = .ok (.getfield 45, 3) := by decide +kernel
theorem dX9_readOnes_4 : decode cX9_readOnes 4 = .ok (.bipush 110, 2) := by decide +kernel
theorem dX9_readOnes_6 : decode cX9_readOnes 6 = .ok (.if_icmp .eq 9, 3) := by decide +kernel
theorem dX9_readOnes_9 : decode cX9_readOnes 9 = .ok (.aload_n 0, 1) := by decide +kernel
theorem dX9_readOnes_10 : decode cX9_readOnes 10 = .ok (.iconst 1, 1) := by decide +kernel
theorem dX9_readOnes_11 : decode cX9_readOnes 11 = .ok (.invokevirtual 61, 3) := by decide +kernel
theorem dX9_readOnes_14 : decode cX9_readOnes 14 = .ok (.ireturn, 1) := by decide +kernel
theorem dX9_readOnes_15 : decode cX9_readOnes 15 = .ok (.iconst 1, 1) := by decide +kernel
theorem dX9_readOnes_16 : decode cX9_readOnes 16 = .ok (.istore_n 1, 1) := by decide +kernel
theorem dX9_readOnes_17 : decode cX9_readOnes 17 = .ok (.iconst 0, 1) := by decide +kernel
theorem dX9_readOnes_18 : decode cX9_readOnes 18 = .ok (.istore_n 2, 1) := by decide +kernel
theorem dX9_readOnes_19 : decode cX9_readOnes 19 = .ok (.iload_n 2, 1) := by decide +kernel
theorem dX9_readOnes_20 : decode cX9_readOnes 20 = .ok (.bipush 40, 2) := by decide +kernel
theorem dX9_readOnes_22 : decode cX9_readOnes 22 = .ok (.if_icmp .gt 41, 3) := by decide +kernel
theorem dX9_readOnes_25 : decode cX9_readOnes 25 = .ok (.iload_n 1, 1) := by decide +kernel
theorem dX9_readOnes_26 : decode cX9_readOnes 26 = .ok (.ifCond .eq 37, 3) := by decide +kernel
theorem dX9_readOnes_29 : decode cX9_readOnes 29 = .ok (.aload_n 0, 1) := by decide +kernel
theorem dX9_readOnes_30 : decode cX9_readOnes 30 = .ok (.invokevirtual 42, 3) := by decide +kernel
theorem dX9_readOnes_33 : decode cX9_readOnes 33 = .ok (.aload_n 0, 1) := by decide +kernel
theorem dX9_readOnes_34 : decode cX9_readOnes 34 = .ok (.invokevirtual 68, 3) := by decide +kernel
theorem dX9_readOnes_37 : decode cX9_readOnes 37 = .ok (.ifCond .ne 5, 3) := by decide +kernel
theorem dX9_readOnes_40 : decode cX9_readOnes 40 = .ok (.iconst 0, 1) := by decide +kernel
theorem dX9_readOnes_41 : decode cX9_readOnes 41 = .ok (.ireturn, 1) := by decide +kernel
theorem dX9_readOnes_42 : decode cX9_readOnes 42 = .ok (.aload_n 0, 1) := by decide +kernel
theorem dX9_readOnes_43 : decode cX9_readOnes 43 = .ok (.getfield 45, 3) := by decide +kernel
theorem dX9_readOnes_46 : decode cX9_readOnes 46 = .ok (.bipush 111, 2) := by decide +kernel
theorem dX9_readOnes_48 : decode cX9_readOnes 48 = .ok (.if_icmp .ne 7, 3) := by decide +kernel
theorem dX9_readOnes_51 : decode cX9_readOnes 51 = .ok (.iconst 1, 1) := by decide +kernel
theorem dX9_readOnes_52 : decode cX9_readOnes 52 = .ok (.goto 4, 3) := by decide +kernel
theorem dX9_readOnes_55 : decode cX9_readOnes 55 = .ok (.iconst 0, 1) := by decide +kernel
theorem dX9_readOnes_56 : decode cX9_readOnes 56 = .ok (.istore_n 1, 1) := by decide +kernel
theorem dX9_readOnes_57 : decode cX9_readOnes 57 = .ok (.iinc 2 1, 3) := by decide +kernel
theorem dX9_readOnes_60 : decode cX9_readOnes 60 = .ok (.goto (-41), 3) := by decide +kernel
theorem dX9_readOnes_63 : decode cX9_readOnes 63 = .ok (.aload_n 0, 1) := by decide +kernel
theorem dX9_readOnes_64 : decode cX9_readOnes 64 = .ok (.getfield 45, 3) := by decide +kernel
theorem dX9_readOnes_67 : decode cX9_readOnes 67 = .ok (.bipush 112, 2) := by decide +kernel
theorem dX9_readOnes_69 : decode cX9_readOnes 69 = .ok (.if_icmp .eq 11, 3) := by decide +kernel
theorem dX9_readOnes_72 : decode cX9_readOnes 72 = .ok (.aload_n 0, 1) := by decide +kernel
theorem dX9_readOnes_73 : decode cX9_readOnes 73 = .ok (.iconst 1, 1) := by decide +kernel
theorem dX9_readOnes_74 : decode cX9_readOnes 74 = .ok (.invokevirtual 61, 3) := by decide +kernel
theorem dX9_readOnes_77 : decode cX9_readOnes 77 = .ok (.ifCond .eq 7, 3) := by decide +kernel
theorem dX9_readOnes_80 : decode cX9_readOnes 80 = .ok (.iconst 1, 1) := by decide +kernel
theorem dX9_readOnes_81 : decode cX9_readOnes 81 = .ok (.goto 4, 3) := by decide +kernel
theorem dX9_readOnes_84 : decode cX9_readOnes 84 = .ok (.iconst 0, 1) := by decide +kernel
theorem dX9_readOnes_85 : decode cX9_readOnes 85 = .ok (.ireturn, 1) := by decide +kernel
set_option maxRecDepth 20000 in
theorem ggX9_readOne_X9_isValue : GoodIn wsX9_readOne wsX9_isValue := goodIn_r _ [8, 3, 161, 162, 163, 164, 165, 166, 167, 168] rfl (by decide +kernel)
set_option maxRecDepth 20000 in
theorem gX9_readOne_X9_isValue : GoodIn wsX9_readOne (wsV RX9 71 RX9 yX9_isValue wsX9_isValue) := goodIn_app (goodIn_r _ [4, 5, 6, 7] rfl (by decide +kernel)) ggX9_readOne_X9_isValue
set_option maxRecDepth 20000 in
theorem ggX9_readOne_X9_refuse : GoodIn wsX9_readOne wsX9_refuse := goodIn_r _ [12, 13, 14, 15, 161, 162, 163, 164, 165, 166, 167, 168] rfl (by decide +kernel)
set_option maxRecDepth 20000 in
theorem gX9_readOne_X9_refuse : GoodIn wsX9_readOne (wsV RX9 61 RX9 yX9_refuse wsX9_refuse) := goodIn_app (goodIn_r _ [9, 10, 11, 7] rfl (by decide +kernel)) ggX9_readOne_X9_refuse
set_option maxRecDepth 20000 in
theorem ggX9_readOne_X9_step : GoodIn wsX9_readOne wsX9_step := goodIn_r _ [19, 20, 21, 22, 23, 24, 25, 14, 26, 3, 27, 28, 29, 30, 31, 32, 33, 34, 7, 35, 36, 37, 38, 39, 40, 41, 42, 43, 44, 45, 46, 47, 48, 49, 50, 51, 52, 53, 54, 55, 56, 57, 58, 59, 60, 61, 62, 63, 64, 65, 66, 67, 68, 69, 70, 71, 72, 73, 74, 75, 76, 77, 78, 79, 80, 81, 82, 83, 84, 85, 86, 87, 88, 89, 90, 91, 92, 93, 94, 95, 96, 97, 98, 99, 100, 101, 102, 103, 104, 105, 106, 107, 108, 109, 110, 111, 112, 113, 114, 115, 116, 117, 118, 119, 120, 121, 122, 123, 124, 125, 126, 127, 128, 129, 130, 131, 132, 133, 134, 135, 136, 137, 138, 139, 140, 141, 142, 143, 144, 145, 146, 147, 148, 149, 150, 161, 162, 163, 164, 165, 166, 167, 168] rfl (by decide +kernel)
set_option maxRecDepth 20000 in
theorem gX9_readOne_X9_step : GoodIn wsX9_readOne (wsV RX9 42 RX9 yX9_step wsX9_step) := goodIn_app (goodIn_r _ [16, 17, 18, 7] rfl (by decide +kernel)) ggX9_readOne_X9_step
set_option maxRecDepth 20000 in
theorem ggX9_readOne_X8_addOne : GoodIn wsX9_readOne wsX8_addOne := goodIn_r _ [155, 156, 157, 158, 159, 160, 169, 170, 171, 172, 173, 174, 175, 176, 177, 178, 179, 180] rfl (by decide +kernel)
set_option maxRecDepth 20000 in
theorem gX9_readOne_X8_addOne : GoodIn wsX9_readOne (wsV RX9 77 RX8 yX8_addOne wsX8_addOne) := goodIn_app (goodIn_r _ [151, 152, 153, 154] rfl (by decide +kernel)) ggX9_readOne_X8_addOne
theorem dX9_readOne_0 : decode cX9_readOne 0 = .ok (.aload_n 0, 1) := by decide +kernel
theorem dX9_readOne_1 : decode cX9_readOne 1 = .ok (.invokevirtual 71, 3) := by decide +kernel
theorem dX9_readOne_4 : decode cX9_readOne 4 = .ok (.ifCond .ne 9, 3) := by decide +kernel
theorem dX9_readOne_7 : decode cX9_readOne 7 = .ok (.aload_n 0, 1) := by decide +kernel
theorem dX9_readOne_8 : decode cX9_readOne 8 = .ok (.iconst 1, 1) := by decide +kernel
theorem dX9_readOne_9 : decode cX9_readOne 9 = .ok (.invokevirtual 61, 3) := by decide +kernel
theorem dX9_readOne_12 : decode cX9_readOne 12 = .ok (.ireturn, 1) := by decide +kernel
theorem dX9_readOne_13 : decode cX9_readOne 13 = .ok (.aload_n 0, 1) := by decide +kernel
theorem dX9_readOne_14 : decode cX9_readOne 14 = .ok (.getfield 18, 3) := by decide +kernel
theorem dX9_readOne_17 : decode cX9_readOne 17 = .ok (.getfield 74, 3) := by decide +kernel
theorem dX9_readOne_20 : decode cX9_readOne 20 = .ok (.bipush 40, 2) := by decide +kernel
theorem dX9_readOne_22 : decode cX9_readOne 22 = .ok (.if_icmp .lt 9, 3) := by decide +kernel
theorem dX9_readOne_25 : decode cX9_readOne 25 = .ok (.aload_n 0, 1) := by decide +kernel
theorem dX9_readOne_26 : decode cX9_readOne 26 = .ok (.iconst 2, 1) := by decide +kernel
theorem dX9_readOne_27 : decode cX9_readOne 27 = .ok (.invokevirtual 61, 3) := by decide +kernel
theorem dX9_readOne_30 : decode cX9_readOne 30 = .ok (.ireturn, 1) := by decide +kernel
theorem dX9_readOne_31 : decode cX9_readOne 31 = .ok (.aload_n 0, 1) := by decide +kernel
theorem dX9_readOne_32 : decode cX9_readOne 32 = .ok (.getfield 45, 3) := by decide +kernel
theorem dX9_readOne_35 : decode cX9_readOne 35 = .ok (.istore_n 1, 1) := by decide +kernel
theorem dX9_readOne_36 : decode cX9_readOne 36 = .ok (.aload_n 0, 1) := by decide +kernel
theorem dX9_readOne_37 : decode cX9_readOne 37 = .ok (.invokevirtual 42, 3) := by decide +kernel
theorem dX9_readOne_40 : decode cX9_readOne 40 = .ok (.aload_n 0, 1) := by decide +kernel
theorem dX9_readOne_41 : decode cX9_readOne 41 = .ok (.getfield 45, 3) := by decide +kernel
theorem dX9_readOne_44 : decode cX9_readOne 44 = .ok (.istore_n 2, 1) := by decide +kernel
theorem dX9_readOne_45 : decode cX9_readOne 45 = .ok (.iload_n 2, 1) := by decide +kernel
theorem dX9_readOne_46 : decode cX9_readOne 46 = .ok (.bipush 120, 2) := by decide +kernel
theorem dX9_readOne_48 : decode cX9_readOne 48 = .ok (.if_icmp .lt 9, 3) := by decide +kernel
theorem dX9_readOne_51 : decode cX9_readOne 51 = .ok (.iload_n 2, 1) := by decide +kernel
theorem dX9_readOne_52 : decode cX9_readOne 52 = .ok (.bipush 123, 2) := by decide +kernel
theorem dX9_readOne_54 : decode cX9_readOne 54 = .ok (.if_icmp .le 9, 3) := by decide +kernel
theorem dX9_readOne_57 : decode cX9_readOne 57 = .ok (.aload_n 0, 1) := by decide +kernel
theorem dX9_readOne_58 : decode cX9_readOne 58 = .ok (.iconst 1, 1) := by decide +kernel
theorem dX9_readOne_59 : decode cX9_readOne 59 = .ok (.invokevirtual 61, 3) := by decide +kernel
theorem dX9_readOne_62 : decode cX9_readOne 62 = .ok (.ireturn, 1) := by decide +kernel
theorem dX9_readOne_63 : decode cX9_readOne 63 = .ok (.aload_n 0, 1) := by decide +kernel
theorem dX9_readOne_64 : decode cX9_readOne 64 = .ok (.invokevirtual 42, 3) := by decide +kernel
theorem dX9_readOne_67 : decode cX9_readOne 67 = .ok (.aload_n 0, 1) := by decide +kernel
theorem dX9_readOne_68 : decode cX9_readOne 68 = .ok (.invokevirtual 71, 3) := by decide +kernel
theorem dX9_readOne_71 : decode cX9_readOne 71 = .ok (.ifCond .ne 9, 3) := by decide +kernel
theorem dX9_readOne_74 : decode cX9_readOne 74 = .ok (.aload_n 0, 1) := by decide +kernel
theorem dX9_readOne_75 : decode cX9_readOne 75 = .ok (.iconst 1, 1) := by decide +kernel
theorem dX9_readOne_76 : decode cX9_readOne 76 = .ok (.invokevirtual 61, 3) := by decide +kernel
theorem dX9_readOne_79 : decode cX9_readOne 79 = .ok (.ireturn, 1) := by decide +kernel
theorem dX9_readOne_80 : decode cX9_readOne 80 = .ok (.aload_n 0, 1) := by decide +kernel
theorem dX9_readOne_81 : decode cX9_readOne 81 = .ok (.getfield 18, 3) := by decide +kernel
theorem dX9_readOne_84 : decode cX9_readOne 84 = .ok (.iload_n 1, 1) := by decide +kernel
theorem dX9_readOne_85 : decode cX9_readOne 85 = .ok (.iload_n 2, 1) := by decide +kernel
theorem dX9_readOne_86 : decode cX9_readOne 86 = .ok (.aload_n 0, 1) := by decide +kernel
theorem dX9_readOne_87 : decode cX9_readOne 87 = .ok (.getfield 45, 3) := by decide +kernel
theorem dX9_readOne_90 : decode cX9_readOne 90 = .ok (.invokevirtual 77, 3) := by decide +kernel
theorem dX9_readOne_93 : decode cX9_readOne 93 = .ok (.aload_n 0, 1) := by decide +kernel
theorem dX9_readOne_94 : decode cX9_readOne 94 = .ok (.invokevirtual 42, 3) := by decide +kernel
theorem dX9_readOne_97 : decode cX9_readOne 97 = .ok (.iconst 1, 1) := by decide +kernel
theorem dX9_readOne_98 : decode cX9_readOne 98 = .ok (.ireturn, 1) := by decide +kernel
set_option maxRecDepth 20000 in
theorem ggX9_readActs_X9_step : GoodIn wsX9_readActs wsX9_step := goodIn_r _ [6, 7, 8, 9, 10, 11, 12, 13, 14, 1, 15, 16, 17, 18, 19, 20, 21, 22, 5, 23, 24, 25, 26, 27, 28, 29, 30, 31, 32, 33, 34, 35, 36, 37, 38, 39, 40, 41, 42, 43, 44, 45, 46, 47, 48, 49, 50, 51, 52, 53, 54, 55, 56, 57, 58, 59, 60, 61, 62, 63, 64, 65, 66, 67, 68, 69, 70, 71, 72, 73, 74, 75, 76, 77, 78, 79, 80, 81, 82, 83, 84, 85, 86, 87, 88, 89, 90, 91, 92, 93, 94, 95, 96, 97, 98, 99, 100, 101, 102, 103, 104, 105, 106, 107, 108, 109, 110, 111, 112, 113, 114, 115, 116, 117, 118, 119, 120, 121, 122, 123, 124, 125, 126, 127, 128, 129, 130, 131, 132, 133, 134, 135, 136, 137, 138, 165, 166, 167, 168, 169, 170, 171, 172] rfl (by decide +kernel)
set_option maxRecDepth 20000 in
theorem gX9_readActs_X9_step : GoodIn wsX9_readActs (wsV RX9 42 RX9 yX9_step wsX9_step) := goodIn_app (goodIn_r _ [2, 3, 4, 5] rfl (by decide +kernel)) ggX9_readActs_X9_step
set_option maxRecDepth 20000 in
theorem ggX9_readActs_X9_readAct : GoodIn wsX9_readActs wsX9_readAct := goodIn_r _ [142, 1, 143, 144, 145, 146, 147, 5, 148, 149, 13, 150, 2, 3, 4, 6, 7, 8, 9, 10, 11, 12, 14, 15, 16, 17, 18, 19, 20, 21, 22, 23, 24, 25, 26, 27, 28, 29, 30, 31, 32, 33, 34, 35, 36, 37, 38, 39, 40, 41, 42, 43, 44, 45, 46, 47, 48, 49, 50, 51, 52, 53, 54, 55, 56, 57, 58, 59, 60, 61, 62, 63, 64, 65, 66, 67, 68, 69, 70, 71, 72, 73, 74, 75, 76, 77, 78, 79, 80, 81, 82, 83, 84, 85, 86, 87, 88, 89, 90, 91, 92, 93, 94, 95, 96, 97, 98, 99, 100, 101, 102, 103, 104, 105, 106, 107, 108, 109, 110, 111, 112, 113, 114, 115, 116, 117, 118, 119, 120, 121, 122, 123, 124, 125, 126, 127, 128, 129, 130, 131, 132, 133, 134, 135, 136, 137, 138, 151, 152, 153, 154, 155, 156, 157, 158, 159, 160, 161, 162, 163, 164, 165, 166, 167, 168, 169, 170, 171, 172, 173, 174, 175, 176, 177, 178, 179, 180, 181, 182, 183, 184] rfl (by decide +kernel)
set_option maxRecDepth 20000 in
theorem gX9_readActs_X9_readAct : GoodIn wsX9_readActs (wsV RX9 81 RX9 yX9_readAct wsX9_readAct) := goodIn_app (goodIn_r _ [139, 140, 141, 5] rfl (by decide +kernel)) ggX9_readActs_X9_readAct
set_option maxRecDepth 20000 in
theorem ggX9_readActs_X9_refuse : GoodIn wsX9_readActs wsX9_refuse := goodIn_r _ [148, 149, 13, 150, 165, 166, 167, 168, 169, 170, 171, 172] rfl (by decide +kernel)
set_option maxRecDepth 20000 in
theorem gX9_readActs_X9_refuse : GoodIn wsX9_readActs (wsV RX9 61 RX9 yX9_refuse wsX9_refuse) := goodIn_app (goodIn_r _ [145, 146, 147, 5] rfl (by decide +kernel)) ggX9_readActs_X9_refuse
theorem dX9_readActs_0 : decode cX9_readActs 0 = .ok (.iconst 1, 1) := by decide +kernel
theorem dX9_readActs_1 : decode cX9_readActs 1 = .ok (.istore_n 1, 1) := by decide +kernel
theorem dX9_readActs_2 : decode cX9_readActs 2 = .ok (.iconst 0, 1) := by decide +kernel
theorem dX9_readActs_3 : decode cX9_readActs 3 = .ok (.istore_n 2, 1) := by decide +kernel
theorem dX9_readActs_4 : decode cX9_readActs 4 = .ok (.iload_n 2, 1) := by decide +kernel
theorem dX9_readActs_5 : decode cX9_readActs 5 = .ok (.bipush 40, 2) := by decide +kernel
theorem dX9_readActs_7 : decode cX9_readActs 7 = .ok (.if_icmp .gt 41, 3) := by decide +kernel
theorem dX9_readActs_10 : decode cX9_readActs 10 = .ok (.iload_n 1, 1) := by decide +kernel
theorem dX9_readActs_11 : decode cX9_readActs 11 = .ok (.ifCond .eq 37, 3) := by decide +kernel
theorem dX9_readActs_14 : decode cX9_readActs 14 = .ok (.aload_n 0, 1) := by decide +kernel
theorem dX9_readActs_15 : decode cX9_readActs 15 = .ok (.invokevirtual 42, 3) := by decide +kernel
theorem dX9_readActs_18 : decode cX9_readActs 18 = .ok (.aload_n 0, 1) := by decide +kernel
theorem dX9_readActs_19 : decode cX9_readActs 19 = .ok (.invokevirtual 81, 3) := by decide +kernel
theorem dX9_readActs_22 : decode cX9_readActs 22 = .ok (.ifCond .ne 5, 3) := by decide +kernel
theorem dX9_readActs_25 : decode cX9_readActs 25 = .ok (.iconst 0, 1) := by decide +kernel
theorem dX9_readActs_26 : decode cX9_readActs 26 = .ok (.ireturn, 1) := by decide +kernel
theorem dX9_readActs_27 : decode cX9_readActs 27 = .ok (.aload_n 0, 1) := by decide +kernel
theorem dX9_readActs_28 : decode cX9_readActs 28 = .ok (.getfield 45, 3) := by decide +kernel
theorem dX9_readActs_31 : decode cX9_readActs 31 = .ok (.bipush 118, 2) := by decide +kernel
theorem dX9_readActs_33 : decode cX9_readActs 33 = .ok (.if_icmp .ne 7, 3) := by decide +kernel
theorem dX9_readActs_36 : decode cX9_readActs 36 = .ok (.iconst 1, 1) := by decide +kernel
theorem dX9_readActs_37 : decode cX9_readActs 37 = .ok (.goto 4, 3) := by decide +kernel
theorem dX9_readActs_40 : decode cX9_readActs 40 = .ok (.iconst 0, 1) := by decide +kernel
theorem dX9_readActs_41 : decode cX9_readActs 41 = .ok (.istore_n 1, 1) := by decide +kernel
theorem dX9_readActs_42 : decode cX9_readActs 42 = .ok (.iinc 2 1, 3) := by decide +kernel
theorem dX9_readActs_45 : decode cX9_readActs 45 = .ok (.goto (-41), 3) := by decide +kernel
theorem dX9_readActs_48 : decode cX9_readActs 48 = .ok (.aload_n 0, 1) := by decide +kernel
theorem dX9_readActs_49 : decode cX9_readActs 49 = .ok (.getfield 45, 3) := by decide +kernel
theorem dX9_readActs_52 : decode cX9_readActs 52 = .ok (.bipush 117, 2) := by decide +kernel
theorem dX9_readActs_54 : decode cX9_readActs 54 = .ok (.if_icmp .eq 9, 3) := by decide +kernel
theorem dX9_readActs_57 : decode cX9_readActs 57 = .ok (.aload_n 0, 1) := by decide +kernel
theorem dX9_readActs_58 : decode cX9_readActs 58 = .ok (.iconst 1, 1) := by decide +kernel
theorem dX9_readActs_59 : decode cX9_readActs 59 = .ok (.invokevirtual 61, 3) := by decide +kernel
theorem dX9_readActs_62 : decode cX9_readActs 62 = .ok (.ireturn, 1) := by decide +kernel
theorem dX9_readActs_63 : decode cX9_readActs 63 = .ok (.aload_n 0, 1) := by decide +kernel
theorem dX9_readActs_64 : decode cX9_readActs 64 = .ok (.invokevirtual 42, 3) := by decide +kernel
theorem dX9_readActs_67 : decode cX9_readActs 67 = .ok (.iconst 1, 1) := by decide +kernel
theorem dX9_readActs_68 : decode cX9_readActs 68 = .ok (.ireturn, 1) := by decide +kernel
set_option maxRecDepth 20000 in
theorem ggX9_readAct_X9_refuse : GoodIn wsX9_readAct wsX9_refuse := goodIn_r _ [8, 9, 10, 11, 161, 162, 163, 164, 165, 166, 167, 168] rfl (by decide +kernel)
set_option maxRecDepth 20000 in
theorem gX9_readAct_X9_refuse : GoodIn wsX9_readAct (wsV RX9 61 RX9 yX9_refuse wsX9_refuse) := goodIn_app (goodIn_r _ [4, 5, 6, 7] rfl (by decide +kernel)) ggX9_readAct_X9_refuse
set_option maxRecDepth 20000 in
theorem ggX9_readAct_X9_step : GoodIn wsX9_readAct wsX9_step := goodIn_r _ [15, 16, 17, 18, 19, 20, 21, 10, 22, 1, 23, 24, 25, 26, 27, 28, 29, 30, 7, 31, 32, 33, 34, 35, 36, 37, 38, 39, 40, 41, 42, 43, 44, 45, 46, 47, 48, 49, 50, 51, 52, 53, 54, 55, 56, 57, 58, 59, 60, 61, 62, 63, 64, 65, 66, 67, 68, 69, 70, 71, 72, 73, 74, 75, 76, 77, 78, 79, 80, 81, 82, 83, 84, 85, 86, 87, 88, 89, 90, 91, 92, 93, 94, 95, 96, 97, 98, 99, 100, 101, 102, 103, 104, 105, 106, 107, 108, 109, 110, 111, 112, 113, 114, 115, 116, 117, 118, 119, 120, 121, 122, 123, 124, 125, 126, 127, 128, 129, 130, 131, 132, 133, 134, 135, 136, 137, 138, 139, 140, 141, 142, 143, 144, 145, 146, 161, 162, 163, 164, 165, 166, 167, 168] rfl (by decide +kernel)
set_option maxRecDepth 20000 in
theorem gX9_readAct_X9_step : GoodIn wsX9_readAct (wsV RX9 42 RX9 yX9_step wsX9_step) := goodIn_app (goodIn_r _ [12, 13, 14, 7] rfl (by decide +kernel)) ggX9_readAct_X9_step
set_option maxRecDepth 20000 in
theorem ggX9_readAct_X8_addAct : GoodIn wsX9_readAct wsX8_addAct := goodIn_r _ [151, 152, 153, 154, 155, 156, 169, 170, 171, 172, 173, 174, 175, 176, 177, 178, 179, 180] rfl (by decide +kernel)
set_option maxRecDepth 20000 in
theorem gX9_readAct_X8_addAct : GoodIn wsX9_readAct (wsV RX9 87 RX8 yX8_addAct wsX8_addAct) := goodIn_app (goodIn_r _ [147, 148, 149, 150] rfl (by decide +kernel)) ggX9_readAct_X8_addAct
set_option maxRecDepth 20000 in
theorem ggX9_readAct_X9_isValue : GoodIn wsX9_readAct wsX9_isValue := goodIn_r _ [160, 1, 161, 162, 163, 164, 165, 166, 167, 168] rfl (by decide +kernel)
set_option maxRecDepth 20000 in
theorem gX9_readAct_X9_isValue : GoodIn wsX9_readAct (wsV RX9 71 RX9 yX9_isValue wsX9_isValue) := goodIn_app (goodIn_r _ [157, 158, 159, 7] rfl (by decide +kernel)) ggX9_readAct_X9_isValue
theorem dX9_readAct_0 : decode cX9_readAct 0 = .ok (.aload_n 0, 1) := by decide +kernel
theorem dX9_readAct_1 : decode cX9_readAct 1 = .ok (.getfield 45, 3) := by decide +kernel
theorem dX9_readAct_4 : decode cX9_readAct 4 = .ok (.istore_n 1, 1) := by decide +kernel
theorem dX9_readAct_5 : decode cX9_readAct 5 = .ok (.iload_n 1, 1) := by decide +kernel
theorem dX9_readAct_6 : decode cX9_readAct 6 = .ok (.bipush 106, 2) := by decide +kernel
theorem dX9_readAct_8 : decode cX9_readAct 8 = .ok (.if_icmp .lt 13, 3) := by decide +kernel
theorem dX9_readAct_11 : decode cX9_readAct 11 = .ok (.iload_n 1, 1) := by decide +kernel
theorem dX9_readAct_12 : decode cX9_readAct 12 = .ok (.bipush 109, 2) := by decide +kernel
theorem dX9_readAct_14 : decode cX9_readAct 14 = .ok (.if_icmp .gt 7, 3) := by decide +kernel
theorem dX9_readAct_17 : decode cX9_readAct 17 = .ok (.iconst 1, 1) := by decide +kernel
theorem dX9_readAct_18 : decode cX9_readAct 18 = .ok (.goto 4, 3) := by decide +kernel
theorem dX9_readAct_21 : decode cX9_readAct 21 = .ok (.iconst 0, 1) := by decide +kernel
theorem dX9_readAct_22 : decode cX9_readAct 22 = .ok (.istore_n 2, 1) := by decide +kernel
theorem dX9_readAct_23 : decode cX9_readAct 23 = .ok (.iload_n 2, 1) := by decide +kernel
theorem dX9_readAct_24 : decode cX9_readAct 24 = .ok (.ifCond .ne 27, 3) := by decide +kernel
theorem dX9_readAct_27 : decode cX9_readAct 27 = .ok (.iload_n 1, 1) := by decide +kernel
theorem dX9_readAct_28 : decode cX9_readAct 28 = .ok (.bipush 113, 2) := by decide +kernel
theorem dX9_readAct_30 : decode cX9_readAct 30 = .ok (.if_icmp .eq 21, 3) := by decide +kernel
theorem dX9_readAct_33 : decode cX9_readAct 33 = .ok (.iload_n 1, 1) := by decide +kernel
theorem dX9_readAct_34 : decode cX9_readAct 34 = .ok (.bipush 115, 2) := by decide +kernel
theorem dX9_readAct_36 : decode cX9_readAct 36 = .ok (.if_icmp .eq 15, 3) := by decide +kernel
theorem dX9_readAct_39 : decode cX9_readAct 39 = .ok (.iload_n 1, 1) := by decide +kernel
theorem dX9_readAct_40 : decode cX9_readAct 40 = .ok (.bipush 116, 2) := by decide +kernel
theorem dX9_readAct_42 : decode cX9_readAct 42 = .ok (.if_icmp .eq 9, 3) := by decide +kernel
theorem dX9_readAct_45 : decode cX9_readAct 45 = .ok (.aload_n 0, 1) := by decide +kernel
theorem dX9_readAct_46 : decode cX9_readAct 46 = .ok (.iconst 1, 1) := by decide +kernel
theorem dX9_readAct_47 : decode cX9_readAct 47 = .ok (.invokevirtual 61, 3) := by decide +kernel
theorem dX9_readAct_50 : decode cX9_readAct 50 = .ok (.ireturn, 1) := by decide +kernel
theorem dX9_readAct_51 : decode cX9_readAct 51 = .ok (.aload_n 0, 1) := by decide +kernel
theorem dX9_readAct_52 : decode cX9_readAct 52 = .ok (.getfield 18, 3) := by decide +kernel
theorem dX9_readAct_55 : decode cX9_readAct 55 = .ok (.getfield 84, 3) := by decide +kernel
theorem dX9_readAct_58 : decode cX9_readAct 58 = .ok (.bipush 40, 2) := by decide +kernel
theorem dX9_readAct_60 : decode cX9_readAct 60 = .ok (.if_icmp .lt 9, 3) := by decide +kernel
theorem dX9_readAct_63 : decode cX9_readAct 63 = .ok (.aload_n 0, 1) := by decide +kernel
theorem dX9_readAct_64 : decode cX9_readAct 64 = .ok (.iconst 2, 1) := by decide +kernel
theorem dX9_readAct_65 : decode cX9_readAct 65 = .ok (.invokevirtual 61, 3) := by decide +kernel
theorem dX9_readAct_68 : decode cX9_readAct 68 = .ok (.ireturn, 1) := by decide +kernel
theorem dX9_readAct_69 : decode cX9_readAct 69 = .ok (.aload_n 0, 1) := by decide +kernel
theorem dX9_readAct_70 : decode cX9_readAct 70 = .ok (.invokevirtual 42, 3) := by decide +kernel
theorem dX9_readAct_73 : decode cX9_readAct 73 = .ok (.iload_n 1, 1) := by decide +kernel
theorem dX9_readAct_74 : decode cX9_readAct 74 = .ok (.bipush 116, 2) := by decide +kernel
theorem dX9_readAct_76 : decode cX9_readAct 76 = .ok (.if_icmp .ne 15, 3) := by decide +kernel
theorem dX9_readAct_79 : decode cX9_readAct 79 = .ok (.aload_n 0, 1) := by decide +kernel
theorem dX9_readAct_80 : decode cX9_readAct 80 = .ok (.getfield 18, 3) := by decide +kernel
theorem dX9_readAct_83 : decode cX9_readAct 83 = .ok (.iload_n 1, 1) := by decide +kernel
theorem dX9_readAct_84 : decode cX9_readAct 84 = .ok (.iconst 0, 1) := by decide +kernel
theorem dX9_readAct_85 : decode cX9_readAct 85 = .ok (.iconst 0, 1) := by decide +kernel
theorem dX9_readAct_86 : decode cX9_readAct 86 = .ok (.invokevirtual 87, 3) := by decide +kernel
theorem dX9_readAct_89 : decode cX9_readAct 89 = .ok (.iconst 1, 1) := by decide +kernel
theorem dX9_readAct_90 : decode cX9_readAct 90 = .ok (.ireturn, 1) := by decide +kernel
theorem dX9_readAct_91 : decode cX9_readAct 91 = .ok (.iload_n 2, 1) := by decide +kernel
theorem dX9_readAct_92 : decode cX9_readAct 92 = .ok (.ifCond .eq 22, 3) := by decide +kernel
theorem dX9_readAct_95 : decode cX9_readAct 95 = .ok (.aload_n 0, 1) := by decide +kernel
theorem dX9_readAct_96 : decode cX9_readAct 96 = .ok (.getfield 45, 3) := by decide +kernel
theorem dX9_readAct_99 : decode cX9_readAct 99 = .ok (.bipush 114, 2) := by decide +kernel
theorem dX9_readAct_101 : decode cX9_readAct 101 = .ok (.if_icmp .eq 9, 3) := by decide +kernel
theorem dX9_readAct_104 : decode cX9_readAct 104 = .ok (.aload_n 0, 1) := by decide +kernel
theorem dX9_readAct_105 : decode cX9_readAct 105 = .ok (.iconst 1, 1) := by decide +kernel
theorem dX9_readAct_106 : decode cX9_readAct 106 = .ok (.invokevirtual 61, 3) := by decide +kernel
theorem dX9_readAct_109 : decode cX9_readAct 109 = .ok (.ireturn, 1) := by decide +kernel
theorem dX9_readAct_110 : decode cX9_readAct 110 = .ok (.aload_n 0, 1) := by decide +kernel
theorem dX9_readAct_111 : decode cX9_readAct 111 = .ok (.invokevirtual 42, 3) := by decide +kernel
theorem dX9_readAct_114 : decode cX9_readAct 114 = .ok (.aload_n 0, 1) := by decide +kernel
theorem dX9_readAct_115 : decode cX9_readAct 115 = .ok (.invokevirtual 71, 3) := by decide +kernel
theorem dX9_readAct_118 : decode cX9_readAct 118 = .ok (.ifCond .ne 9, 3) := by decide +kernel
theorem dX9_readAct_121 : decode cX9_readAct 121 = .ok (.aload_n 0, 1) := by decide +kernel
theorem dX9_readAct_122 : decode cX9_readAct 122 = .ok (.iconst 1, 1) := by decide +kernel
theorem dX9_readAct_123 : decode cX9_readAct 123 = .ok (.invokevirtual 61, 3) := by decide +kernel
theorem dX9_readAct_126 : decode cX9_readAct 126 = .ok (.ireturn, 1) := by decide +kernel
theorem dX9_readAct_127 : decode cX9_readAct 127 = .ok (.aload_n 0, 1) := by decide +kernel
theorem dX9_readAct_128 : decode cX9_readAct 128 = .ok (.getfield 45, 3) := by decide +kernel
theorem dX9_readAct_131 : decode cX9_readAct 131 = .ok (.istore_n 3, 1) := by decide +kernel
theorem dX9_readAct_132 : decode cX9_readAct 132 = .ok (.iconst 0, 1) := by decide +kernel
theorem dX9_readAct_133 : decode cX9_readAct 133 = .ok (.istore 4, 2) := by decide +kernel
theorem dX9_readAct_135 : decode cX9_readAct 135 = .ok (.aload_n 0, 1) := by decide +kernel
theorem dX9_readAct_136 : decode cX9_readAct 136 = .ok (.invokevirtual 42, 3) := by decide +kernel
theorem dX9_readAct_139 : decode cX9_readAct 139 = .ok (.aload_n 0, 1) := by decide +kernel
theorem dX9_readAct_140 : decode cX9_readAct 140 = .ok (.getfield 45, 3) := by decide +kernel
theorem dX9_readAct_143 : decode cX9_readAct 143 = .ok (.bipush 119, 2) := by decide +kernel
theorem dX9_readAct_145 : decode cX9_readAct 145 = .ok (.if_icmp .ne 30, 3) := by decide +kernel
theorem dX9_readAct_148 : decode cX9_readAct 148 = .ok (.aload_n 0, 1) := by decide +kernel
theorem dX9_readAct_149 : decode cX9_readAct 149 = .ok (.invokevirtual 42, 3) := by decide +kernel
theorem dX9_readAct_152 : decode cX9_readAct 152 = .ok (.aload_n 0, 1) := by decide +kernel
theorem dX9_readAct_153 : decode cX9_readAct 153 = .ok (.invokevirtual 71, 3) := by decide +kernel
theorem dX9_readAct_156 : decode cX9_readAct 156 = .ok (.ifCond .ne 9, 3) := by decide +kernel
theorem dX9_readAct_159 : decode cX9_readAct 159 = .ok (.aload_n 0, 1) := by decide +kernel
theorem dX9_readAct_160 : decode cX9_readAct 160 = .ok (.iconst 1, 1) := by decide +kernel
theorem dX9_readAct_161 : decode cX9_readAct 161 = .ok (.invokevirtual 61, 3) := by decide +kernel
theorem dX9_readAct_164 : decode cX9_readAct 164 = .ok (.ireturn, 1) := by decide +kernel
theorem dX9_readAct_165 : decode cX9_readAct 165 = .ok (.aload_n 0, 1) := by decide +kernel
theorem dX9_readAct_166 : decode cX9_readAct 166 = .ok (.getfield 45, 3) := by decide +kernel
theorem dX9_readAct_169 : decode cX9_readAct 169 = .ok (.istore 4, 2) := by decide +kernel
theorem dX9_readAct_171 : decode cX9_readAct 171 = .ok (.aload_n 0, 1) := by decide +kernel
theorem dX9_readAct_172 : decode cX9_readAct 172 = .ok (.invokevirtual 42, 3) := by decide +kernel
theorem dX9_readAct_175 : decode cX9_readAct 175 = .ok (.aload_n 0, 1) := by decide +kernel
theorem dX9_readAct_176 : decode cX9_readAct 176 = .ok (.getfield 18, 3) := by decide +kernel
theorem dX9_readAct_179 : decode cX9_readAct 179 = .ok (.iload_n 1, 1) := by decide +kernel
theorem dX9_readAct_180 : decode cX9_readAct 180 = .ok (.iload_n 3, 1) := by decide +kernel
theorem dX9_readAct_181 : decode cX9_readAct 181 = .ok (.iload 4, 2) := by decide +kernel
theorem dX9_readAct_183 : decode cX9_readAct 183 = .ok (.invokevirtual 87, 3) := by decide +kernel
theorem dX9_readAct_186 : decode cX9_readAct 186 = .ok (.iconst 1, 1) := by decide +kernel
theorem dX9_readAct_187 : decode cX9_readAct 187 = .ok (.ireturn, 1) := by decide +kernel
theorem dX9_isValue_0 : decode cX9_isValue 0 = .ok (.aload_n 0, 1) := by decide +kernel
theorem dX9_isValue_1 : decode cX9_isValue 1 = .ok (.getfield 45, 3) := by decide +kernel
theorem dX9_isValue_4 : decode cX9_isValue 4 = .ok (.ifCond .lt 16, 3) := by decide +kernel
theorem dX9_isValue_7 : decode cX9_isValue 7 = .ok (.aload_n 0, 1) := by decide +kernel
theorem dX9_isValue_8 : decode cX9_isValue 8 = .ok (.getfield 45, 3) := by decide +kernel
theorem dX9_isValue_11 : decode cX9_isValue 11 = .ok (.bipush 110, 2) := by decide +kernel
theorem dX9_isValue_13 : decode cX9_isValue 13 = .ok (.if_icmp .ge 7, 3) := by decide +kernel
theorem dX9_isValue_16 : decode cX9_isValue 16 = .ok (.iconst 1, 1) := by decide +kernel
theorem dX9_isValue_17 : decode cX9_isValue 17 = .ok (.goto 4, 3) := by decide +kernel
theorem dX9_isValue_20 : decode cX9_isValue 20 = .ok (.iconst 0, 1) := by decide +kernel
theorem dX9_isValue_21 : decode cX9_isValue 21 = .ok (.ireturn, 1) := by decide +kernel
set_option maxRecDepth 20000 in
theorem ggX9_step_X11_isLetter : GoodIn wsX9_step wsX11_isLetter := goodIn_r _ [12] rfl (by decide +kernel)
set_option maxRecDepth 20000 in
theorem gX9_step_X11_isLetter_n96 : GoodIn wsX9_step (wsX11_isLetter) := ggX9_step_X11_isLetter
set_option maxRecDepth 20000 in
theorem ggX9_step_X11_isDigit : GoodIn wsX9_step wsX11_isDigit := goodIn_r _ [14] rfl (by decide +kernel)
set_option maxRecDepth 20000 in
theorem gX9_step_X11_isDigit_n99 : GoodIn wsX9_step (wsX11_isDigit) := ggX9_step_X11_isDigit
set_option maxRecDepth 20000 in
theorem ggX9_step_X9_numberCode : GoodIn wsX9_step wsX9_numberCode := goodIn_r _ [19, 6, 7, 8, 13, 11, 14, 135, 136, 137, 138, 139, 140, 141, 142] rfl (by decide +kernel)
set_option maxRecDepth 20000 in
theorem gX9_step_X9_numberCode : GoodIn wsX9_step (wsV RX9 102 RX9 yX9_numberCode wsX9_numberCode) := goodIn_app (goodIn_r _ [15, 16, 17, 18] rfl (by decide +kernel)) ggX9_step_X9_numberCode
set_option maxRecDepth 20000 in
theorem ggX9_step_X9_wordCode : GoodIn wsX9_step wsX9_wordCode := goodIn_r _ [23, 6, 7, 24, 25, 26, 27, 28, 29, 30, 31, 32, 33, 34, 35, 36, 37, 38, 18, 39, 8, 40, 41, 42, 43, 44, 45, 46, 47, 48, 49, 50, 51, 52, 53, 54, 55, 56, 57, 58, 59, 60, 61, 62, 63, 64, 65, 66, 67, 68, 69, 70, 71, 72, 73, 74, 75, 76, 135, 136, 137, 138, 139, 140, 141, 142] rfl (by decide +kernel)
set_option maxRecDepth 20000 in
theorem gX9_step_X9_wordCode : GoodIn wsX9_step (wsV RX9 106 RX9 yX9_wordCode wsX9_wordCode) := goodIn_app (goodIn_r _ [20, 21, 22, 18] rfl (by decide +kernel)) ggX9_step_X9_wordCode
set_option maxRecDepth 20000 in
theorem ggX9_step_J0_indexOf_0f7a4 : GoodIn wsX9_step wsJ0_indexOf_0f7a4 := goodIn_r _ [80, 81, 82, 83, 27, 84, 29, 44, 45, 46, 47, 34, 35, 85, 25, 26, 28, 30, 31, 32, 33, 86, 87, 50, 88, 89, 90, 4, 91, 92, 3, 5, 93, 94, 95, 96, 97, 98, 99, 100, 62, 101, 102, 103, 104, 105, 106, 107, 108, 109, 110, 67, 68, 69, 111, 112, 113, 55, 114, 115, 58, 116, 117, 118, 119, 71, 72, 73, 74, 75, 76, 120, 121, 122, 123, 124, 125, 126, 127, 128, 129, 130, 131, 132, 133, 134] rfl (by decide +kernel)
set_option maxRecDepth 20000 in
theorem gX9_step_J0_indexOf_0f7a4 : GoodIn wsX9_step (wsV RX9 111 RJ0 yJ0_indexOf_0f7a4 wsJ0_indexOf_0f7a4) := goodIn_app (goodIn_r _ [77, 78, 79, 27] rfl (by decide +kernel)) ggX9_step_J0_indexOf_0f7a4
theorem dX9_step_0 : decode cX9_step 0 = .ok (.aload_n 0, 1) := by decide +kernel
theorem dX9_step_1 : decode cX9_step 1 = .ok (.getfield 29, 3) := by decide +kernel
theorem dX9_step_4 : decode cX9_step 4 = .ok (.sipush 400, 3) := by decide +kernel
theorem dX9_step_7 : decode cX9_step 7 = .ok (.invokestatic 90, 3) := by decide +kernel
theorem dX9_step_10 : decode cX9_step 10 = .ok (.istore_n 1, 1) := by decide +kernel
theorem dX9_step_11 : decode cX9_step 11 = .ok (.aload_n 0, 1) := by decide +kernel
theorem dX9_step_12 : decode cX9_step 12 = .ok (.aload_n 0, 1) := by decide +kernel
theorem dX9_step_13 : decode cX9_step 13 = .ok (.getfield 33, 3) := by decide +kernel
theorem dX9_step_16 : decode cX9_step 16 = .ok (.putfield 65, 3) := by decide +kernel
theorem dX9_step_19 : decode cX9_step 19 = .ok (.aload_n 0, 1) := by decide +kernel
theorem dX9_step_20 : decode cX9_step 20 = .ok (.getfield 65, 3) := by decide +kernel
theorem dX9_step_23 : decode cX9_step 23 = .ok (.iload_n 1, 1) := by decide +kernel
theorem dX9_step_24 : decode cX9_step 24 = .ok (.if_icmp .ge 44, 3) := by decide +kernel
theorem dX9_step_27 : decode cX9_step 27 = .ok (.aload_n 0, 1) := by decide +kernel
theorem dX9_step_28 : decode cX9_step 28 = .ok (.getfield 9, 3) := by decide +kernel
theorem dX9_step_31 : decode cX9_step 31 = .ok (.aload_n 0, 1) := by decide +kernel
theorem dX9_step_32 : decode cX9_step 32 = .ok (.getfield 65, 3) := by decide +kernel
theorem dX9_step_35 : decode cX9_step 35 = .ok (.iaload, 1) := by decide +kernel
theorem dX9_step_36 : decode cX9_step 36 = .ok (.bipush 32, 2) := by decide +kernel
theorem dX9_step_38 : decode cX9_step 38 = .ok (.if_icmp .eq 17, 3) := by decide +kernel
theorem dX9_step_41 : decode cX9_step 41 = .ok (.aload_n 0, 1) := by decide +kernel
theorem dX9_step_42 : decode cX9_step 42 = .ok (.getfield 9, 3) := by decide +kernel
theorem dX9_step_45 : decode cX9_step 45 = .ok (.aload_n 0, 1) := by decide +kernel
theorem dX9_step_46 : decode cX9_step 46 = .ok (.getfield 65, 3) := by decide +kernel
theorem dX9_step_49 : decode cX9_step 49 = .ok (.iaload, 1) := by decide +kernel
theorem dX9_step_50 : decode cX9_step 50 = .ok (.bipush 10, 2) := by decide +kernel
theorem dX9_step_52 : decode cX9_step 52 = .ok (.if_icmp .ne 16, 3) := by decide +kernel
theorem dX9_step_55 : decode cX9_step 55 = .ok (.aload_n 0, 1) := by decide +kernel
theorem dX9_step_56 : decode cX9_step 56 = .ok (.dup, 1) := by decide +kernel
theorem dX9_step_57 : decode cX9_step 57 = .ok (.getfield 65, 3) := by decide +kernel
theorem dX9_step_60 : decode cX9_step 60 = .ok (.iconst 1, 1) := by decide +kernel
theorem dX9_step_61 : decode cX9_step 61 = .ok (.iadd, 1) := by decide +kernel
theorem dX9_step_62 : decode cX9_step 62 = .ok (.putfield 65, 3) := by decide +kernel
theorem dX9_step_65 : decode cX9_step 65 = .ok (.goto (-46), 3) := by decide +kernel
theorem dX9_step_68 : decode cX9_step 68 = .ok (.aload_n 0, 1) := by decide +kernel
theorem dX9_step_69 : decode cX9_step 69 = .ok (.getfield 65, 3) := by decide +kernel
theorem dX9_step_72 : decode cX9_step 72 = .ok (.iload_n 1, 1) := by decide +kernel
theorem dX9_step_73 : decode cX9_step 73 = .ok (.if_icmp .lt 15, 3) := by decide +kernel
theorem dX9_step_76 : decode cX9_step 76 = .ok (.aload_n 0, 1) := by decide +kernel
theorem dX9_step_77 : decode cX9_step 77 = .ok (.iload_n 1, 1) := by decide +kernel
theorem dX9_step_78 : decode cX9_step 78 = .ok (.putfield 65, 3) := by decide +kernel
theorem dX9_step_81 : decode cX9_step 81 = .ok (.aload_n 0, 1) := by decide +kernel
theorem dX9_step_82 : decode cX9_step 82 = .ok (.bipush (-2), 2) := by decide +kernel
theorem dX9_step_84 : decode cX9_step 84 = .ok (.putfield 45, 3) := by decide +kernel
theorem dX9_step_87 : decode cX9_step 87 = .ok (.return_, 1) := by decide +kernel
theorem dX9_step_88 : decode cX9_step 88 = .ok (.aload_n 0, 1) := by decide +kernel
theorem dX9_step_89 : decode cX9_step 89 = .ok (.aload_n 0, 1) := by decide +kernel
theorem dX9_step_90 : decode cX9_step 90 = .ok (.getfield 65, 3) := by decide +kernel
theorem dX9_step_93 : decode cX9_step 93 = .ok (.putfield 33, 3) := by decide +kernel
theorem dX9_step_96 : decode cX9_step 96 = .ok (.aload_n 0, 1) := by decide +kernel
theorem dX9_step_97 : decode cX9_step 97 = .ok (.getfield 33, 3) := by decide +kernel
theorem dX9_step_100 : decode cX9_step 100 = .ok (.aload_n 0, 1) := by decide +kernel
theorem dX9_step_101 : decode cX9_step 101 = .ok (.getfield 29, 3) := by decide +kernel
theorem dX9_step_104 : decode cX9_step 104 = .ok (.if_icmp .ge 46, 3) := by decide +kernel
theorem dX9_step_107 : decode cX9_step 107 = .ok (.aload_n 0, 1) := by decide +kernel
theorem dX9_step_108 : decode cX9_step 108 = .ok (.getfield 9, 3) := by decide +kernel
theorem dX9_step_111 : decode cX9_step 111 = .ok (.aload_n 0, 1) := by decide +kernel
theorem dX9_step_112 : decode cX9_step 112 = .ok (.getfield 33, 3) := by decide +kernel
theorem dX9_step_115 : decode cX9_step 115 = .ok (.iaload, 1) := by decide +kernel
theorem dX9_step_116 : decode cX9_step 116 = .ok (.invokestatic 96, 3) := by decide +kernel
theorem dX9_step_119 : decode cX9_step 119 = .ok (.ifCond .ne 18, 3) := by decide +kernel
theorem dX9_step_122 : decode cX9_step 122 = .ok (.aload_n 0, 1) := by decide +kernel
theorem dX9_step_123 : decode cX9_step 123 = .ok (.getfield 9, 3) := by decide +kernel
theorem dX9_step_126 : decode cX9_step 126 = .ok (.aload_n 0, 1) := by decide +kernel
theorem dX9_step_127 : decode cX9_step 127 = .ok (.getfield 33, 3) := by decide +kernel
theorem dX9_step_130 : decode cX9_step 130 = .ok (.iaload, 1) := by decide +kernel
theorem dX9_step_131 : decode cX9_step 131 = .ok (.invokestatic 99, 3) := by decide +kernel
theorem dX9_step_134 : decode cX9_step 134 = .ok (.ifCond .eq 16, 3) := by decide +kernel
theorem dX9_step_137 : decode cX9_step 137 = .ok (.aload_n 0, 1) := by decide +kernel
theorem dX9_step_138 : decode cX9_step 138 = .ok (.dup, 1) := by decide +kernel
theorem dX9_step_139 : decode cX9_step 139 = .ok (.getfield 33, 3) := by decide +kernel
theorem dX9_step_142 : decode cX9_step 142 = .ok (.iconst 1, 1) := by decide +kernel
theorem dX9_step_143 : decode cX9_step 143 = .ok (.iadd, 1) := by decide +kernel
theorem dX9_step_144 : decode cX9_step 144 = .ok (.putfield 33, 3) := by decide +kernel
theorem dX9_step_147 : decode cX9_step 147 = .ok (.goto (-51), 3) := by decide +kernel
theorem dX9_step_150 : decode cX9_step 150 = .ok (.aload_n 0, 1) := by decide +kernel
theorem dX9_step_151 : decode cX9_step 151 = .ok (.getfield 33, 3) := by decide +kernel
theorem dX9_step_154 : decode cX9_step 154 = .ok (.aload_n 0, 1) := by decide +kernel
theorem dX9_step_155 : decode cX9_step 155 = .ok (.getfield 65, 3) := by decide +kernel
theorem dX9_step_158 : decode cX9_step 158 = .ok (.if_icmp .le 34, 3) := by decide +kernel
theorem dX9_step_161 : decode cX9_step 161 = .ok (.aload_n 0, 1) := by decide +kernel
theorem dX9_step_162 : decode cX9_step 162 = .ok (.aload_n 0, 1) := by decide +kernel
theorem dX9_step_163 : decode cX9_step 163 = .ok (.getfield 9, 3) := by decide +kernel
theorem dX9_step_166 : decode cX9_step 166 = .ok (.aload_n 0, 1) := by decide +kernel
theorem dX9_step_167 : decode cX9_step 167 = .ok (.getfield 65, 3) := by decide +kernel
theorem dX9_step_170 : decode cX9_step 170 = .ok (.iaload, 1) := by decide +kernel
theorem dX9_step_171 : decode cX9_step 171 = .ok (.invokestatic 99, 3) := by decide +kernel
theorem dX9_step_174 : decode cX9_step 174 = .ok (.ifCond .eq 10, 3) := by decide +kernel
theorem dX9_step_177 : decode cX9_step 177 = .ok (.aload_n 0, 1) := by decide +kernel
theorem dX9_step_178 : decode cX9_step 178 = .ok (.invokevirtual 102, 3) := by decide +kernel
theorem dX9_step_181 : decode cX9_step 181 = .ok (.goto 7, 3) := by decide +kernel
theorem dX9_step_184 : decode cX9_step 184 = .ok (.aload_n 0, 1) := by decide +kernel
theorem dX9_step_185 : decode cX9_step 185 = .ok (.invokevirtual 106, 3) := by decide +kernel
theorem dX9_step_188 : decode cX9_step 188 = .ok (.putfield 45, 3) := by decide +kernel
theorem dX9_step_191 : decode cX9_step 191 = .ok (.return_, 1) := by decide +kernel
theorem dX9_step_192 : decode cX9_step 192 = .ok (.ldc 109, 2) := by decide +kernel
theorem dX9_step_194 : decode cX9_step 194 = .ok (.aload_n 0, 1) := by decide +kernel
theorem dX9_step_195 : decode cX9_step 195 = .ok (.getfield 9, 3) := by decide +kernel
theorem dX9_step_198 : decode cX9_step 198 = .ok (.aload_n 0, 1) := by decide +kernel
theorem dX9_step_199 : decode cX9_step 199 = .ok (.getfield 65, 3) := by decide +kernel
theorem dX9_step_202 : decode cX9_step 202 = .ok (.iaload, 1) := by decide +kernel
theorem dX9_step_203 : decode cX9_step 203 = .ok (.i2c, 1) := by decide +kernel
theorem dX9_step_204 : decode cX9_step 204 = .ok (.invokevirtual 111, 3) := by decide +kernel
theorem dX9_step_207 : decode cX9_step 207 = .ok (.istore_n 2, 1) := by decide +kernel
theorem dX9_step_208 : decode cX9_step 208 = .ok (.aload_n 0, 1) := by decide +kernel
theorem dX9_step_209 : decode cX9_step 209 = .ok (.iload_n 2, 1) := by decide +kernel
theorem dX9_step_210 : decode cX9_step 210 = .ok (.ifCond .ge 7, 3) := by decide +kernel
theorem dX9_step_213 : decode cX9_step 213 = .ok (.iconst (-1), 1) := by decide +kernel
theorem dX9_step_214 : decode cX9_step 214 = .ok (.goto 7, 3) := by decide +kernel
theorem dX9_step_217 : decode cX9_step 217 = .ok (.bipush 117, 2) := by decide +kernel
theorem dX9_step_219 : decode cX9_step 219 = .ok (.iload_n 2, 1) := by decide +kernel
theorem dX9_step_220 : decode cX9_step 220 = .ok (.iadd, 1) := by decide +kernel
theorem dX9_step_221 : decode cX9_step 221 = .ok (.putfield 45, 3) := by decide +kernel
theorem dX9_step_224 : decode cX9_step 224 = .ok (.aload_n 0, 1) := by decide +kernel
theorem dX9_step_225 : decode cX9_step 225 = .ok (.aload_n 0, 1) := by decide +kernel
theorem dX9_step_226 : decode cX9_step 226 = .ok (.getfield 65, 3) := by decide +kernel
theorem dX9_step_229 : decode cX9_step 229 = .ok (.iconst 1, 1) := by decide +kernel
theorem dX9_step_230 : decode cX9_step 230 = .ok (.iadd, 1) := by decide +kernel
theorem dX9_step_231 : decode cX9_step 231 = .ok (.putfield 33, 3) := by decide +kernel
theorem dX9_step_234 : decode cX9_step 234 = .ok (.return_, 1) := by decide +kernel
set_option maxRecDepth 20000 in
theorem ggX9_numberCode_X11_isDigit : GoodIn wsX9_numberCode wsX11_isDigit := goodIn_r _ [6] rfl (by decide +kernel)
set_option maxRecDepth 20000 in
theorem gX9_numberCode_X11_isDigit_n99 : GoodIn wsX9_numberCode (wsX11_isDigit) := ggX9_numberCode_X11_isDigit
theorem dX9_numberCode_0 : decode cX9_numberCode 0 = .ok (.aload_n 0, 1) := by decide +kernel
theorem dX9_numberCode_1 : decode cX9_numberCode 1 = .ok (.getfield 33, 3) := by decide +kernel
theorem dX9_numberCode_4 : decode cX9_numberCode 4 = .ok (.aload_n 0, 1) := by decide +kernel
theorem dX9_numberCode_5 : decode cX9_numberCode 5 = .ok (.getfield 65, 3) := by decide +kernel
theorem dX9_numberCode_8 : decode cX9_numberCode 8 = .ok (.isub, 1) := by decide +kernel
theorem dX9_numberCode_9 : decode cX9_numberCode 9 = .ok (.iconst 2, 1) := by decide +kernel
theorem dX9_numberCode_10 : decode cX9_numberCode 10 = .ok (.if_icmp .le 5, 3) := by decide +kernel
theorem dX9_numberCode_13 : decode cX9_numberCode 13 = .ok (.iconst (-1), 1) := by decide +kernel
theorem dX9_numberCode_14 : decode cX9_numberCode 14 = .ok (.ireturn, 1) := by decide +kernel
theorem dX9_numberCode_15 : decode cX9_numberCode 15 = .ok (.iconst 0, 1) := by decide +kernel
theorem dX9_numberCode_16 : decode cX9_numberCode 16 = .ok (.istore_n 1, 1) := by decide +kernel
theorem dX9_numberCode_17 : decode cX9_numberCode 17 = .ok (.aload_n 0, 1) := by decide +kernel
theorem dX9_numberCode_18 : decode cX9_numberCode 18 = .ok (.getfield 65, 3) := by decide +kernel
theorem dX9_numberCode_21 : decode cX9_numberCode 21 = .ok (.istore_n 2, 1) := by decide +kernel
theorem dX9_numberCode_22 : decode cX9_numberCode 22 = .ok (.iload_n 2, 1) := by decide +kernel
theorem dX9_numberCode_23 : decode cX9_numberCode 23 = .ok (.aload_n 0, 1) := by decide +kernel
theorem dX9_numberCode_24 : decode cX9_numberCode 24 = .ok (.getfield 33, 3) := by decide +kernel
theorem dX9_numberCode_27 : decode cX9_numberCode 27 = .ok (.if_icmp .ge 38, 3) := by decide +kernel
theorem dX9_numberCode_30 : decode cX9_numberCode 30 = .ok (.aload_n 0, 1) := by decide +kernel
theorem dX9_numberCode_31 : decode cX9_numberCode 31 = .ok (.getfield 9, 3) := by decide +kernel
theorem dX9_numberCode_34 : decode cX9_numberCode 34 = .ok (.iload_n 2, 1) := by decide +kernel
theorem dX9_numberCode_35 : decode cX9_numberCode 35 = .ok (.iaload, 1) := by decide +kernel
theorem dX9_numberCode_36 : decode cX9_numberCode 36 = .ok (.invokestatic 99, 3) := by decide +kernel
theorem dX9_numberCode_39 : decode cX9_numberCode 39 = .ok (.ifCond .ne 5, 3) := by decide +kernel
theorem dX9_numberCode_42 : decode cX9_numberCode 42 = .ok (.iconst (-1), 1) := by decide +kernel
theorem dX9_numberCode_43 : decode cX9_numberCode 43 = .ok (.ireturn, 1) := by decide +kernel
theorem dX9_numberCode_44 : decode cX9_numberCode 44 = .ok (.iload_n 1, 1) := by decide +kernel
theorem dX9_numberCode_45 : decode cX9_numberCode 45 = .ok (.bipush 10, 2) := by decide +kernel
theorem dX9_numberCode_47 : decode cX9_numberCode 47 = .ok (.imul, 1) := by decide +kernel
theorem dX9_numberCode_48 : decode cX9_numberCode 48 = .ok (.aload_n 0, 1) := by decide +kernel
theorem dX9_numberCode_49 : decode cX9_numberCode 49 = .ok (.getfield 9, 3) := by decide +kernel
theorem dX9_numberCode_52 : decode cX9_numberCode 52 = .ok (.iload_n 2, 1) := by decide +kernel
theorem dX9_numberCode_53 : decode cX9_numberCode 53 = .ok (.iaload, 1) := by decide +kernel
theorem dX9_numberCode_54 : decode cX9_numberCode 54 = .ok (.iadd, 1) := by decide +kernel
theorem dX9_numberCode_55 : decode cX9_numberCode 55 = .ok (.bipush 48, 2) := by decide +kernel
theorem dX9_numberCode_57 : decode cX9_numberCode 57 = .ok (.isub, 1) := by decide +kernel
theorem dX9_numberCode_58 : decode cX9_numberCode 58 = .ok (.istore_n 1, 1) := by decide +kernel
theorem dX9_numberCode_59 : decode cX9_numberCode 59 = .ok (.iinc 2 1, 3) := by decide +kernel
theorem dX9_numberCode_62 : decode cX9_numberCode 62 = .ok (.goto (-40), 3) := by decide +kernel
theorem dX9_numberCode_65 : decode cX9_numberCode 65 = .ok (.iload_n 1, 1) := by decide +kernel
theorem dX9_numberCode_66 : decode cX9_numberCode 66 = .ok (.ireturn, 1) := by decide +kernel
set_option maxRecDepth 20000 in
theorem ggX9_wordCode_J0_length_8abf5 : GoodIn wsX9_wordCode wsJ0_length_8abf5 := goodIn_r _ [7, 8, 9, 10, 11, 6, 12, 13, 14] rfl (by decide +kernel)
set_option maxRecDepth 20000 in
theorem gX9_wordCode_J0_length_8abf5 : GoodIn wsX9_wordCode (wsV RX9 119 RJ0 yJ0_length_8abf5 wsJ0_length_8abf5) := goodIn_app (goodIn_r _ [3, 4, 5, 6] rfl (by decide +kernel)) ggX9_wordCode_J0_length_8abf5
set_option maxRecDepth 20000 in
theorem ggX9_wordCode_X9_isWordAt : GoodIn wsX9_wordCode wsX9_isWordAt := goodIn_r _ [19, 2, 1, 20, 21, 22, 23, 6, 24, 8, 25, 26, 27, 28, 13, 14, 29, 30, 31, 32, 33, 34, 35, 36, 37, 38, 39, 40, 41, 42, 43, 44, 45, 46, 47, 48, 49, 50, 51, 52, 53, 54, 55, 56, 57, 58, 59, 60, 61, 62, 63, 64, 65] rfl (by decide +kernel)
set_option maxRecDepth 20000 in
theorem gX9_wordCode_X9_isWordAt : GoodIn wsX9_wordCode (wsV RX9 122 RX9 yX9_isWordAt wsX9_isWordAt) := goodIn_app (goodIn_r _ [15, 16, 17, 18] rfl (by decide +kernel)) ggX9_wordCode_X9_isWordAt
theorem dX9_wordCode_0 : decode cX9_wordCode 0 = .ok (.aload_n 0, 1) := by decide +kernel
theorem dX9_wordCode_1 : decode cX9_wordCode 1 = .ok (.getfield 33, 3) := by decide +kernel
theorem dX9_wordCode_4 : decode cX9_wordCode 4 = .ok (.aload_n 0, 1) := by decide +kernel
theorem dX9_wordCode_5 : decode cX9_wordCode 5 = .ok (.getfield 65, 3) := by decide +kernel
theorem dX9_wordCode_8 : decode cX9_wordCode 8 = .ok (.isub, 1) := by decide +kernel
theorem dX9_wordCode_9 : decode cX9_wordCode 9 = .ok (.iconst 5, 1) := by decide +kernel
theorem dX9_wordCode_10 : decode cX9_wordCode 10 = .ok (.if_icmp .le 5, 3) := by decide +kernel
theorem dX9_wordCode_13 : decode cX9_wordCode 13 = .ok (.iconst (-1), 1) := by decide +kernel
theorem dX9_wordCode_14 : decode cX9_wordCode 14 = .ok (.ireturn, 1) := by decide +kernel
theorem dX9_wordCode_15 : decode cX9_wordCode 15 = .ok (.bipush 100, 2) := by decide +kernel
theorem dX9_wordCode_17 : decode cX9_wordCode 17 = .ok (.istore_n 1, 1) := by decide +kernel
theorem dX9_wordCode_18 : decode cX9_wordCode 18 = .ok (.iconst 0, 1) := by decide +kernel
theorem dX9_wordCode_19 : decode cX9_wordCode 19 = .ok (.istore_n 2, 1) := by decide +kernel
theorem dX9_wordCode_20 : decode cX9_wordCode 20 = .ok (.iload_n 2, 1) := by decide +kernel
theorem dX9_wordCode_21 : decode cX9_wordCode 21 = .ok (.bipush 6, 2) := by decide +kernel
theorem dX9_wordCode_23 : decode cX9_wordCode 23 = .ok (.iadd, 1) := by decide +kernel
theorem dX9_wordCode_24 : decode cX9_wordCode 24 = .ok (.ldc 117, 2) := by decide +kernel
theorem dX9_wordCode_26 : decode cX9_wordCode 26 = .ok (.invokevirtual 119, 3) := by decide +kernel
theorem dX9_wordCode_29 : decode cX9_wordCode 29 = .ok (.if_icmp .gt 22, 3) := by decide +kernel
theorem dX9_wordCode_32 : decode cX9_wordCode 32 = .ok (.aload_n 0, 1) := by decide +kernel
theorem dX9_wordCode_33 : decode cX9_wordCode 33 = .ok (.iload_n 2, 1) := by decide +kernel
theorem dX9_wordCode_34 : decode cX9_wordCode 34 = .ok (.invokevirtual 122, 3) := by decide +kernel
theorem dX9_wordCode_37 : decode cX9_wordCode 37 = .ok (.ifCond .eq 5, 3) := by decide +kernel
theorem dX9_wordCode_40 : decode cX9_wordCode 40 = .ok (.iload_n 1, 1) := by decide +kernel
theorem dX9_wordCode_41 : decode cX9_wordCode 41 = .ok (.ireturn, 1) := by decide +kernel
theorem dX9_wordCode_42 : decode cX9_wordCode 42 = .ok (.iinc 1 1, 3) := by decide +kernel
theorem dX9_wordCode_45 : decode cX9_wordCode 45 = .ok (.iinc 2 6, 3) := by decide +kernel
theorem dX9_wordCode_48 : decode cX9_wordCode 48 = .ok (.goto (-28), 3) := by decide +kernel
theorem dX9_wordCode_51 : decode cX9_wordCode 51 = .ok (.iconst (-1), 1) := by decide +kernel
theorem dX9_wordCode_52 : decode cX9_wordCode 52 = .ok (.ireturn, 1) := by decide +kernel
set_option maxRecDepth 20000 in
theorem ggX9_isWordAt_J0_charAt_5068e : GoodIn wsX9_isWordAt wsJ0_charAt_5068e := goodIn_r _ [8, 9, 10, 11, 12, 7, 13, 14, 15, 16, 17, 18, 19, 20, 21, 22, 23, 24, 25, 26, 27, 28, 29, 30, 31, 32, 33, 34, 35, 36, 37, 38, 39, 40, 41, 42, 43, 44] rfl (by decide +kernel)
set_option maxRecDepth 20000 in
theorem gX9_isWordAt_J0_charAt_5068e : GoodIn wsX9_isWordAt (wsV RX9 125 RJ0 yJ0_charAt_5068e wsJ0_charAt_5068e) := goodIn_app (goodIn_r _ [4, 5, 6, 7] rfl (by decide +kernel)) ggX9_isWordAt_J0_charAt_5068e
theorem dX9_isWordAt_0 : decode cX9_isWordAt 0 = .ok (.iconst 0, 1) := by decide +kernel
theorem dX9_isWordAt_1 : decode cX9_isWordAt 1 = .ok (.istore_n 2, 1) := by decide +kernel
theorem dX9_isWordAt_2 : decode cX9_isWordAt 2 = .ok (.iload_n 2, 1) := by decide +kernel
theorem dX9_isWordAt_3 : decode cX9_isWordAt 3 = .ok (.iconst 5, 1) := by decide +kernel
theorem dX9_isWordAt_4 : decode cX9_isWordAt 4 = .ok (.if_icmp .ge 53, 3) := by decide +kernel
theorem dX9_isWordAt_7 : decode cX9_isWordAt 7 = .ok (.aload_n 0, 1) := by decide +kernel
theorem dX9_isWordAt_8 : decode cX9_isWordAt 8 = .ok (.getfield 65, 3) := by decide +kernel
theorem dX9_isWordAt_11 : decode cX9_isWordAt 11 = .ok (.iload_n 2, 1) := by decide +kernel
theorem dX9_isWordAt_12 : decode cX9_isWordAt 12 = .ok (.iadd, 1) := by decide +kernel
theorem dX9_isWordAt_13 : decode cX9_isWordAt 13 = .ok (.aload_n 0, 1) := by decide +kernel
theorem dX9_isWordAt_14 : decode cX9_isWordAt 14 = .ok (.getfield 33, 3) := by decide +kernel
theorem dX9_isWordAt_17 : decode cX9_isWordAt 17 = .ok (.if_icmp .ge 17, 3) := by decide +kernel
theorem dX9_isWordAt_20 : decode cX9_isWordAt 20 = .ok (.aload_n 0, 1) := by decide +kernel
theorem dX9_isWordAt_21 : decode cX9_isWordAt 21 = .ok (.getfield 9, 3) := by decide +kernel
theorem dX9_isWordAt_24 : decode cX9_isWordAt 24 = .ok (.aload_n 0, 1) := by decide +kernel
theorem dX9_isWordAt_25 : decode cX9_isWordAt 25 = .ok (.getfield 65, 3) := by decide +kernel
theorem dX9_isWordAt_28 : decode cX9_isWordAt 28 = .ok (.iload_n 2, 1) := by decide +kernel
theorem dX9_isWordAt_29 : decode cX9_isWordAt 29 = .ok (.iadd, 1) := by decide +kernel
theorem dX9_isWordAt_30 : decode cX9_isWordAt 30 = .ok (.iaload, 1) := by decide +kernel
theorem dX9_isWordAt_31 : decode cX9_isWordAt 31 = .ok (.goto 5, 3) := by decide +kernel
theorem dX9_isWordAt_34 : decode cX9_isWordAt 34 = .ok (.bipush 32, 2) := by decide +kernel
theorem dX9_isWordAt_36 : decode cX9_isWordAt 36 = .ok (.istore_n 3, 1) := by decide +kernel
theorem dX9_isWordAt_37 : decode cX9_isWordAt 37 = .ok (.ldc 117, 2) := by decide +kernel
theorem dX9_isWordAt_39 : decode cX9_isWordAt 39 = .ok (.iload_n 1, 1) := by decide +kernel
theorem dX9_isWordAt_40 : decode cX9_isWordAt 40 = .ok (.iload_n 2, 1) := by decide +kernel
theorem dX9_isWordAt_41 : decode cX9_isWordAt 41 = .ok (.iadd, 1) := by decide +kernel
theorem dX9_isWordAt_42 : decode cX9_isWordAt 42 = .ok (.invokevirtual 125, 3) := by decide +kernel
theorem dX9_isWordAt_45 : decode cX9_isWordAt 45 = .ok (.iload_n 3, 1) := by decide +kernel
theorem dX9_isWordAt_46 : decode cX9_isWordAt 46 = .ok (.if_icmp .eq 5, 3) := by decide +kernel
theorem dX9_isWordAt_49 : decode cX9_isWordAt 49 = .ok (.iconst 0, 1) := by decide +kernel
theorem dX9_isWordAt_50 : decode cX9_isWordAt 50 = .ok (.ireturn, 1) := by decide +kernel
theorem dX9_isWordAt_51 : decode cX9_isWordAt 51 = .ok (.iinc 2 1, 3) := by decide +kernel
theorem dX9_isWordAt_54 : decode cX9_isWordAt 54 = .ok (.goto (-52), 3) := by decide +kernel
theorem dX9_isWordAt_57 : decode cX9_isWordAt 57 = .ok (.iconst 1, 1) := by decide +kernel
theorem dX9_isWordAt_58 : decode cX9_isWordAt 58 = .ok (.ireturn, 1) := by decide +kernel
theorem dX10_init_0 : decode cX10_init 0 = .ok (.aload_n 0, 1) := by decide +kernel
theorem dX10_init_1 : decode cX10_init 1 = .ok (.invokespecial 3, 3) := by decide +kernel
theorem dX10_init_4 : decode cX10_init 4 = .ok (.aload_n 0, 1) := by decide +kernel
theorem dX10_init_5 : decode cX10_init 5 = .ok (.sipush 440, 3) := by decide +kernel
theorem dX10_init_8 : decode cX10_init 8 = .ok (.newarray .int, 2) := by decide +kernel
theorem dX10_init_10 : decode cX10_init 10 = .ok (.putfield 9, 3) := by decide +kernel
theorem dX10_init_13 : decode cX10_init 13 = .ok (.return_, 1) := by decide +kernel
theorem dX10_append_0 : decode cX10_append 0 = .ok (.bipush 24, 2) := by decide +kernel
theorem dX10_append_2 : decode cX10_append 2 = .ok (.istore_n 2, 1) := by decide +kernel
theorem dX10_append_3 : decode cX10_append 3 = .ok (.iload_n 2, 1) := by decide +kernel
theorem dX10_append_4 : decode cX10_append 4 = .ok (.ifCond .lt 45, 3) := by decide +kernel
theorem dX10_append_7 : decode cX10_append 7 = .ok (.aload_n 0, 1) := by decide +kernel
theorem dX10_append_8 : decode cX10_append 8 = .ok (.getfield 15, 3) := by decide +kernel
theorem dX10_append_11 : decode cX10_append 11 = .ok (.sipush 440, 3) := by decide +kernel
theorem dX10_append_14 : decode cX10_append 14 = .ok (.if_icmp .ge 35, 3) := by decide +kernel
theorem dX10_append_17 : decode cX10_append 17 = .ok (.aload_n 0, 1) := by decide +kernel
theorem dX10_append_18 : decode cX10_append 18 = .ok (.getfield 9, 3) := by decide +kernel
theorem dX10_append_21 : decode cX10_append 21 = .ok (.aload_n 0, 1) := by decide +kernel
theorem dX10_append_22 : decode cX10_append 22 = .ok (.getfield 15, 3) := by decide +kernel
theorem dX10_append_25 : decode cX10_append 25 = .ok (.iload_n 1, 1) := by decide +kernel
theorem dX10_append_26 : decode cX10_append 26 = .ok (.iload_n 2, 1) := by decide +kernel
theorem dX10_append_27 : decode cX10_append 27 = .ok (.iushr, 1) := by decide +kernel
theorem dX10_append_28 : decode cX10_append 28 = .ok (.sipush 255, 3) := by decide +kernel
theorem dX10_append_31 : decode cX10_append 31 = .ok (.iand, 1) := by decide +kernel
theorem dX10_append_32 : decode cX10_append 32 = .ok (.iastore, 1) := by decide +kernel
theorem dX10_append_33 : decode cX10_append 33 = .ok (.aload_n 0, 1) := by decide +kernel
theorem dX10_append_34 : decode cX10_append 34 = .ok (.dup, 1) := by decide +kernel
theorem dX10_append_35 : decode cX10_append 35 = .ok (.getfield 15, 3) := by decide +kernel
theorem dX10_append_38 : decode cX10_append 38 = .ok (.iconst 1, 1) := by decide +kernel
theorem dX10_append_39 : decode cX10_append 39 = .ok (.iadd, 1) := by decide +kernel
theorem dX10_append_40 : decode cX10_append 40 = .ok (.putfield 15, 3) := by decide +kernel
theorem dX10_append_43 : decode cX10_append 43 = .ok (.iinc 2 (-8), 3) := by decide +kernel
theorem dX10_append_46 : decode cX10_append 46 = .ok (.goto (-43), 3) := by decide +kernel
theorem dX10_append_49 : decode cX10_append 49 = .ok (.return_, 1) := by decide +kernel
set_option maxRecDepth 20000 in
theorem ggX10_isText_X11_isLetter : GoodIn wsX10_isText wsX11_isLetter := goodIn_r _ [5] rfl (by decide +kernel)
set_option maxRecDepth 20000 in
theorem gX10_isText_X11_isLetter_n19 : GoodIn wsX10_isText (wsX11_isLetter) := ggX10_isText_X11_isLetter
theorem dX10_isText_0 : decode cX10_isText 0 = .ok (.aload_n 0, 1) := by decide +kernel
theorem dX10_isText_1 : decode cX10_isText 1 = .ok (.getfield 15, 3) := by decide +kernel
theorem dX10_isText_4 : decode cX10_isText 4 = .ok (.iconst 1, 1) := by decide +kernel
theorem dX10_isText_5 : decode cX10_isText 5 = .ok (.if_icmp .lt 11, 3) := by decide +kernel
theorem dX10_isText_8 : decode cX10_isText 8 = .ok (.aload_n 0, 1) := by decide +kernel
theorem dX10_isText_9 : decode cX10_isText 9 = .ok (.getfield 15, 3) := by decide +kernel
theorem dX10_isText_12 : decode cX10_isText 12 = .ok (.iload_n 1, 1) := by decide +kernel
theorem dX10_isText_13 : decode cX10_isText 13 = .ok (.if_icmp .le 5, 3) := by decide +kernel
theorem dX10_isText_16 : decode cX10_isText 16 = .ok (.iconst 0, 1) := by decide +kernel
theorem dX10_isText_17 : decode cX10_isText 17 = .ok (.ireturn, 1) := by decide +kernel
theorem dX10_isText_18 : decode cX10_isText 18 = .ok (.iconst 0, 1) := by decide +kernel
theorem dX10_isText_19 : decode cX10_isText 19 = .ok (.istore_n 2, 1) := by decide +kernel
theorem dX10_isText_20 : decode cX10_isText 20 = .ok (.iconst 0, 1) := by decide +kernel
theorem dX10_isText_21 : decode cX10_isText 21 = .ok (.istore_n 3, 1) := by decide +kernel
theorem dX10_isText_22 : decode cX10_isText 22 = .ok (.iload_n 3, 1) := by decide +kernel
theorem dX10_isText_23 : decode cX10_isText 23 = .ok (.aload_n 0, 1) := by decide +kernel
theorem dX10_isText_24 : decode cX10_isText 24 = .ok (.getfield 15, 3) := by decide +kernel
theorem dX10_isText_27 : decode cX10_isText 27 = .ok (.if_icmp .ge 45, 3) := by decide +kernel
theorem dX10_isText_30 : decode cX10_isText 30 = .ok (.aload_n 0, 1) := by decide +kernel
theorem dX10_isText_31 : decode cX10_isText 31 = .ok (.getfield 9, 3) := by decide +kernel
theorem dX10_isText_34 : decode cX10_isText 34 = .ok (.iload_n 3, 1) := by decide +kernel
theorem dX10_isText_35 : decode cX10_isText 35 = .ok (.iaload, 1) := by decide +kernel
theorem dX10_isText_36 : decode cX10_isText 36 = .ok (.invokestatic 19, 3) := by decide +kernel
theorem dX10_isText_39 : decode cX10_isText 39 = .ok (.istore 4, 2) := by decide +kernel
theorem dX10_isText_41 : decode cX10_isText 41 = .ok (.iload 4, 2) := by decide +kernel
theorem dX10_isText_43 : decode cX10_isText 43 = .ok (.ifCond .ne 20, 3) := by decide +kernel
theorem dX10_isText_46 : decode cX10_isText 46 = .ok (.iload_n 2, 1) := by decide +kernel
theorem dX10_isText_47 : decode cX10_isText 47 = .ok (.ifCond .eq 14, 3) := by decide +kernel
theorem dX10_isText_50 : decode cX10_isText 50 = .ok (.aload_n 0, 1) := by decide +kernel
theorem dX10_isText_51 : decode cX10_isText 51 = .ok (.getfield 9, 3) := by decide +kernel
theorem dX10_isText_54 : decode cX10_isText 54 = .ok (.iload_n 3, 1) := by decide +kernel
theorem dX10_isText_55 : decode cX10_isText 55 = .ok (.iaload, 1) := by decide +kernel
theorem dX10_isText_56 : decode cX10_isText 56 = .ok (.bipush 32, 2) := by decide +kernel
theorem dX10_isText_58 : decode cX10_isText 58 = .ok (.if_icmp .eq 5, 3) := by decide +kernel
theorem dX10_isText_61 : decode cX10_isText 61 = .ok (.iconst 0, 1) := by decide +kernel
theorem dX10_isText_62 : decode cX10_isText 62 = .ok (.ireturn, 1) := by decide +kernel
theorem dX10_isText_63 : decode cX10_isText 63 = .ok (.iload 4, 2) := by decide +kernel
theorem dX10_isText_65 : decode cX10_isText 65 = .ok (.istore_n 2, 1) := by decide +kernel
theorem dX10_isText_66 : decode cX10_isText 66 = .ok (.iinc 3 1, 3) := by decide +kernel
theorem dX10_isText_69 : decode cX10_isText 69 = .ok (.goto (-47), 3) := by decide +kernel
theorem dX10_isText_72 : decode cX10_isText 72 = .ok (.iload_n 2, 1) := by decide +kernel
theorem dX10_isText_73 : decode cX10_isText 73 = .ok (.ireturn, 1) := by decide +kernel
