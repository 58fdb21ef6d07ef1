theorem dX12_step_38 : decode cX12_step 38 = .ok (.getfield 13, 3) := by decide +kernel
theorem dX12_step_41 : decode cX12_step 41 = .ok (.imul, 1) := by decide +kernel
theorem dX12_step_42 : decode cX12_step 42 = .ok (.if_icmp .ge 21, 3) := by decide +kernel
theorem dX12_step_45 : decode cX12_step 45 = .ok (.aload_n 0, 1) := by decide +kernel
theorem dX12_step_46 : decode cX12_step 46 = .ok (.getfield 71, 3) := by decide +kernel
theorem dX12_step_49 : decode cX12_step 49 = .ok (.iload_n 2, 1) := by decide +kernel
theorem dX12_step_50 : decode cX12_step 50 = .ok (.aload_n 0, 1) := by decide +kernel
theorem dX12_step_51 : decode cX12_step 51 = .ok (.getfield 62, 3) := by decide +kernel
theorem dX12_step_54 : decode cX12_step 54 = .ok (.iload_n 2, 1) := by decide +kernel
theorem dX12_step_55 : decode cX12_step 55 = .ok (.iaload, 1) := by decide +kernel
theorem dX12_step_56 : decode cX12_step 56 = .ok (.iastore, 1) := by decide +kernel
theorem dX12_step_57 : decode cX12_step 57 = .ok (.iinc 2 1, 3) := by decide +kernel
theorem dX12_step_60 : decode cX12_step 60 = .ok (.goto (-25), 3) := by decide +kernel
theorem dX12_step_63 : decode cX12_step 63 = .ok (.iconst 0, 1) := by decide +kernel
theorem dX12_step_64 : decode cX12_step 64 = .ok (.istore_n 2, 1) := by decide +kernel
theorem dX12_step_65 : decode cX12_step 65 = .ok (.iload_n 2, 1) := by decide +kernel
theorem dX12_step_66 : decode cX12_step 66 = .ok (.aload_n 0, 1) := by decide +kernel
theorem dX12_step_67 : decode cX12_step 67 = .ok (.getfield 13, 3) := by decide +kernel
theorem dX12_step_70 : decode cX12_step 70 = .ok (.if_icmp .ge 38, 3) := by decide +kernel
theorem dX12_step_73 : decode cX12_step 73 = .ok (.aload_n 0, 1) := by decide +kernel
theorem dX12_step_74 : decode cX12_step 74 = .ok (.iload_n 2, 1) := by decide +kernel
theorem dX12_step_75 : decode cX12_step 75 = .ok (.iload_n 1, 1) := by decide +kernel
theorem dX12_step_76 : decode cX12_step 76 = .ok (.iload_n 2, 1) := by decide +kernel
theorem dX12_step_77 : decode cX12_step 77 = .ok (.ifCond .ne 7, 3) := by decide +kernel
theorem dX12_step_80 : decode cX12_step 80 = .ok (.iconst 0, 1) := by decide +kernel
theorem dX12_step_81 : decode cX12_step 81 = .ok (.goto 18, 3) := by decide +kernel
theorem dX12_step_84 : decode cX12_step 84 = .ok (.iload_n 2, 1) := by decide +kernel
theorem dX12_step_85 : decode cX12_step 85 = .ok (.aload_n 0, 1) := by decide +kernel
theorem dX12_step_86 : decode cX12_step 86 = .ok (.getfield 13, 3) := by decide +kernel
theorem dX12_step_89 : decode cX12_step 89 = .ok (.iconst 1, 1) := by decide +kernel
theorem dX12_step_90 : decode cX12_step 90 = .ok (.isub, 1) := by decide +kernel
theorem dX12_step_91 : decode cX12_step 91 = .ok (.if_icmp .ne 7, 3) := by decide +kernel
theorem dX12_step_94 : decode cX12_step 94 = .ok (.iconst 1, 1) := by decide +kernel
theorem dX12_step_95 : decode cX12_step 95 = .ok (.goto 4, 3) := by decide +kernel
theorem dX12_step_98 : decode cX12_step 98 = .ok (.iconst 2, 1) := by decide +kernel
theorem dX12_step_99 : decode cX12_step 99 = .ok (.invokevirtual 310, 3) := by decide +kernel
theorem dX12_step_102 : decode cX12_step 102 = .ok (.iinc 2 1, 3) := by decide +kernel
theorem dX12_step_105 : decode cX12_step 105 = .ok (.goto (-40), 3) := by decide +kernel
theorem dX12_step_108 : decode cX12_step 108 = .ok (.iconst 0, 1) := by decide +kernel
theorem dX12_step_109 : decode cX12_step 109 = .ok (.istore_n 2, 1) := by decide +kernel
theorem dX12_step_110 : decode cX12_step 110 = .ok (.iload_n 2, 1) := by decide +kernel
theorem dX12_step_111 : decode cX12_step 111 = .ok (.aload_n 0, 1) := by decide +kernel
theorem dX12_step_112 : decode cX12_step 112 = .ok (.getfield 13, 3) := by decide +kernel
theorem dX12_step_115 : decode cX12_step 115 = .ok (.if_icmp .ge 78, 3) := by decide +kernel
theorem dX12_step_118 : decode cX12_step 118 = .ok (.aload_n 0, 1) := by decide +kernel
theorem dX12_step_119 : decode cX12_step 119 = .ok (.getfield 56, 3) := by decide +kernel
theorem dX12_step_122 : decode cX12_step 122 = .ok (.iload_n 2, 1) := by decide +kernel
theorem dX12_step_123 : decode cX12_step 123 = .ok (.iaload, 1) := by decide +kernel
theorem dX12_step_124 : decode cX12_step 124 = .ok (.aload_n 0, 1) := by decide +kernel
theorem dX12_step_125 : decode cX12_step 125 = .ok (.getfield 59, 3) := by decide +kernel
theorem dX12_step_128 : decode cX12_step 128 = .ok (.iload_n 2, 1) := by decide +kernel
theorem dX12_step_129 : decode cX12_step 129 = .ok (.iaload, 1) := by decide +kernel
theorem dX12_step_130 : decode cX12_step 130 = .ok (.if_icmp .eq 8, 3) := by decide +kernel
theorem dX12_step_133 : decode cX12_step 133 = .ok (.aload_n 0, 1) := by decide +kernel
theorem dX12_step_134 : decode cX12_step 134 = .ok (.iconst 1, 1) := by decide +kernel
theorem dX12_step_135 : decode cX12_step 135 = .ok (.putfield 292, 3) := by decide +kernel
theorem dX12_step_138 : decode cX12_step 138 = .ok (.aload_n 0, 1) := by decide +kernel
theorem dX12_step_139 : decode cX12_step 139 = .ok (.getfield 65, 3) := by decide +kernel
theorem dX12_step_142 : decode cX12_step 142 = .ok (.iload_n 2, 1) := by decide +kernel
theorem dX12_step_143 : decode cX12_step 143 = .ok (.aload_n 0, 1) := by decide +kernel
theorem dX12_step_144 : decode cX12_step 144 = .ok (.getfield 56, 3) := by decide +kernel
theorem dX12_step_147 : decode cX12_step 147 = .ok (.iload_n 2, 1) := by decide +kernel
theorem dX12_step_148 : decode cX12_step 148 = .ok (.iaload, 1) := by decide +kernel
theorem dX12_step_149 : decode cX12_step 149 = .ok (.aload_n 0, 1) := by decide +kernel
theorem dX12_step_150 : decode cX12_step 150 = .ok (.getfield 59, 3) := by decide +kernel
theorem dX12_step_153 : decode cX12_step 153 = .ok (.iload_n 2, 1) := by decide +kernel
theorem dX12_step_154 : decode cX12_step 154 = .ok (.iaload, 1) := by decide +kernel
theorem dX12_step_155 : decode cX12_step 155 = .ok (.if_icmp .eq 7, 3) := by decide +kernel
theorem dX12_step_158 : decode cX12_step 158 = .ok (.iconst 0, 1) := by decide +kernel
theorem dX12_step_159 : decode cX12_step 159 = .ok (.goto 27, 3) := by decide +kernel
theorem dX12_step_162 : decode cX12_step 162 = .ok (.aload_n 0, 1) := by decide +kernel
theorem dX12_step_163 : decode cX12_step 163 = .ok (.getfield 65, 3) := by decide +kernel
theorem dX12_step_166 : decode cX12_step 166 = .ok (.iload_n 2, 1) := by decide +kernel
theorem dX12_step_167 : decode cX12_step 167 = .ok (.iaload, 1) := by decide +kernel
theorem dX12_step_168 : decode cX12_step 168 = .ok (.bipush 99, 2) := by decide +kernel
theorem dX12_step_170 : decode cX12_step 170 = .ok (.if_icmp .ge 14, 3) := by decide +kernel
theorem dX12_step_173 : decode cX12_step 173 = .ok (.aload_n 0, 1) := by decide +kernel
theorem dX12_step_174 : decode cX12_step 174 = .ok (.getfield 65, 3) := by decide +kernel
theorem dX12_step_177 : decode cX12_step 177 = .ok (.iload_n 2, 1) := by decide +kernel
theorem dX12_step_178 : decode cX12_step 178 = .ok (.iaload, 1) := by decide +kernel
theorem dX12_step_179 : decode cX12_step 179 = .ok (.iconst 1, 1) := by decide +kernel
theorem dX12_step_180 : decode cX12_step 180 = .ok (.iadd, 1) := by decide +kernel
theorem dX12_step_181 : decode cX12_step 181 = .ok (.goto 5, 3) := by decide +kernel
theorem dX12_step_184 : decode cX12_step 184 = .ok (.bipush 99, 2) := by decide +kernel
theorem dX12_step_186 : decode cX12_step 186 = .ok (.iastore, 1) := by decide +kernel
theorem dX12_step_187 : decode cX12_step 187 = .ok (.iinc 2 1, 3) := by decide +kernel
theorem dX12_step_190 : decode cX12_step 190 = .ok (.goto (-80), 3) := by decide +kernel
theorem dX12_step_193 : decode cX12_step 193 = .ok (.iconst 0, 1) := by decide +kernel
theorem dX12_step_194 : decode cX12_step 194 = .ok (.istore_n 2, 1) := by decide +kernel
theorem dX12_step_195 : decode cX12_step 195 = .ok (.iload_n 2, 1) := by decide +kernel
theorem dX12_step_196 : decode cX12_step 196 = .ok (.iconst 4, 1) := by decide +kernel
theorem dX12_step_197 : decode cX12_step 197 = .ok (.aload_n 0, 1) := by decide +kernel
theorem dX12_step_198 : decode cX12_step 198 = .ok (.getfield 13, 3) := by decide +kernel
theorem dX12_step_201 : decode cX12_step 201 = .ok (.imul, 1) := by decide +kernel
theorem dX12_step_202 : decode cX12_step 202 = .ok (.if_icmp .ge 29, 3) := by decide +kernel
theorem dX12_step_205 : decode cX12_step 205 = .ok (.aload_n 0, 1) := by decide +kernel
theorem dX12_step_206 : decode cX12_step 206 = .ok (.getfield 62, 3) := by decide +kernel
theorem dX12_step_209 : decode cX12_step 209 = .ok (.iload_n 2, 1) := by decide +kernel
theorem dX12_step_210 : decode cX12_step 210 = .ok (.iaload, 1) := by decide +kernel
theorem dX12_step_211 : decode cX12_step 211 = .ok (.aload_n 0, 1) := by decide +kernel
theorem dX12_step_212 : decode cX12_step 212 = .ok (.getfield 71, 3) := by decide +kernel
theorem dX12_step_215 : decode cX12_step 215 = .ok (.iload_n 2, 1) := by decide +kernel
theorem dX12_step_216 : decode cX12_step 216 = .ok (.iaload, 1) := by decide +kernel
theorem dX12_step_217 : decode cX12_step 217 = .ok (.if_icmp .eq 8, 3) := by decide +kernel
theorem dX12_step_220 : decode cX12_step 220 = .ok (.aload_n 0, 1) := by decide +kernel
theorem dX12_step_221 : decode cX12_step 221 = .ok (.iconst 1, 1) := by decide +kernel
theorem dX12_step_222 : decode cX12_step 222 = .ok (.putfield 292, 3) := by decide +kernel
theorem dX12_step_225 : decode cX12_step 225 = .ok (.iinc 2 1, 3) := by decide +kernel
theorem dX12_step_228 : decode cX12_step 228 = .ok (.goto (-33), 3) := by decide +kernel
theorem dX12_step_231 : decode cX12_step 231 = .ok (.aload_n 0, 1) := by decide +kernel
theorem dX12_step_232 : decode cX12_step 232 = .ok (.getfield 292, 3) := by decide +kernel
theorem dX12_step_235 : decode cX12_step 235 = .ok (.ifCond .eq 8, 3) := by decide +kernel
theorem dX12_step_238 : decode cX12_step 238 = .ok (.aload_n 0, 1) := by decide +kernel
theorem dX12_step_239 : decode cX12_step 239 = .ok (.iload_n 1, 1) := by decide +kernel
theorem dX12_step_240 : decode cX12_step 240 = .ok (.putfield 314, 3) := by decide +kernel
theorem dX12_step_243 : decode cX12_step 243 = .ok (.return_, 1) := by decide +kernel
theorem dX12_begin_0 : decode cX12_begin 0 = .ok (.iconst 0, 1) := by decide +kernel
theorem dX12_begin_1 : decode cX12_begin 1 = .ok (.istore_n 1, 1) := by decide +kernel
theorem dX12_begin_2 : decode cX12_begin 2 = .ok (.iload_n 1, 1) := by decide +kernel
theorem dX12_begin_3 : decode cX12_begin 3 = .ok (.aload_n 0, 1) := by decide +kernel
theorem dX12_begin_4 : decode cX12_begin 4 = .ok (.getfield 13, 3) := by decide +kernel
theorem dX12_begin_7 : decode cX12_begin 7 = .ok (.if_icmp .ge 23, 3) := by decide +kernel
theorem dX12_begin_10 : decode cX12_begin 10 = .ok (.aload_n 0, 1) := by decide +kernel
theorem dX12_begin_11 : decode cX12_begin 11 = .ok (.getfield 56, 3) := by decide +kernel
theorem dX12_begin_14 : decode cX12_begin 14 = .ok (.iload_n 1, 1) := by decide +kernel
theorem dX12_begin_15 : decode cX12_begin 15 = .ok (.iconst 0, 1) := by decide +kernel
theorem dX12_begin_16 : decode cX12_begin 16 = .ok (.iastore, 1) := by decide +kernel
theorem dX12_begin_17 : decode cX12_begin 17 = .ok (.aload_n 0, 1) := by decide +kernel
theorem dX12_begin_18 : decode cX12_begin 18 = .ok (.getfield 65, 3) := by decide +kernel
theorem dX12_begin_21 : decode cX12_begin 21 = .ok (.iload_n 1, 1) := by decide +kernel
theorem dX12_begin_22 : decode cX12_begin 22 = .ok (.iconst 0, 1) := by decide +kernel
theorem dX12_begin_23 : decode cX12_begin 23 = .ok (.iastore, 1) := by decide +kernel
theorem dX12_begin_24 : decode cX12_begin 24 = .ok (.iinc 1 1, 3) := by decide +kernel
theorem dX12_begin_27 : decode cX12_begin 27 = .ok (.goto (-25), 3) := by decide +kernel
theorem dX12_begin_30 : decode cX12_begin 30 = .ok (.iconst 0, 1) := by decide +kernel
theorem dX12_begin_31 : decode cX12_begin 31 = .ok (.istore_n 1, 1) := by decide +kernel
theorem dX12_begin_32 : decode cX12_begin 32 = .ok (.iload_n 1, 1) := by decide +kernel
theorem dX12_begin_33 : decode cX12_begin 33 = .ok (.bipush 64, 2) := by decide +kernel
theorem dX12_begin_35 : decode cX12_begin 35 = .ok (.if_icmp .ge 16, 3) := by decide +kernel
theorem dX12_begin_38 : decode cX12_begin 38 = .ok (.aload_n 0, 1) := by decide +kernel
theorem dX12_begin_39 : decode cX12_begin 39 = .ok (.getfield 62, 3) := by decide +kernel
theorem dX12_begin_42 : decode cX12_begin 42 = .ok (.iload_n 1, 1) := by decide +kernel
theorem dX12_begin_43 : decode cX12_begin 43 = .ok (.iconst 0, 1) := by decide +kernel
theorem dX12_begin_44 : decode cX12_begin 44 = .ok (.iastore, 1) := by decide +kernel
theorem dX12_begin_45 : decode cX12_begin 45 = .ok (.iinc 1 1, 3) := by decide +kernel
theorem dX12_begin_48 : decode cX12_begin 48 = .ok (.goto (-16), 3) := by decide +kernel
theorem dX12_begin_51 : decode cX12_begin 51 = .ok (.aload_n 0, 1) := by decide +kernel
theorem dX12_begin_52 : decode cX12_begin 52 = .ok (.iconst 0, 1) := by decide +kernel
theorem dX12_begin_53 : decode cX12_begin 53 = .ok (.putfield 296, 3) := by decide +kernel
theorem dX12_begin_56 : decode cX12_begin 56 = .ok (.aload_n 0, 1) := by decide +kernel
theorem dX12_begin_57 : decode cX12_begin 57 = .ok (.iconst 0, 1) := by decide +kernel
theorem dX12_begin_58 : decode cX12_begin 58 = .ok (.putfield 285, 3) := by decide +kernel
theorem dX12_begin_61 : decode cX12_begin 61 = .ok (.aload_n 0, 1) := by decide +kernel
theorem dX12_begin_62 : decode cX12_begin 62 = .ok (.iconst 0, 1) := by decide +kernel
theorem dX12_begin_63 : decode cX12_begin 63 = .ok (.putfield 314, 3) := by decide +kernel
theorem dX12_begin_66 : decode cX12_begin 66 = .ok (.return_, 1) := by decide +kernel
theorem dX12_judged_0 : decode cX12_judged 0 = .ok (.iconst 0, 1) := by decide +kernel
theorem dX12_judged_1 : decode cX12_judged 1 = .ok (.istore_n 1, 1) := by decide +kernel
theorem dX12_judged_2 : decode cX12_judged 2 = .ok (.iload_n 1, 1) := by decide +kernel
theorem dX12_judged_3 : decode cX12_judged 3 = .ok (.aload_n 0, 1) := by decide +kernel
theorem dX12_judged_4 : decode cX12_judged 4 = .ok (.getfield 296, 3) := by decide +kernel
theorem dX12_judged_7 : decode cX12_judged 7 = .ok (.if_icmp .ge 32, 3) := by decide +kernel
theorem dX12_judged_10 : decode cX12_judged 10 = .ok (.iload_n 1, 1) := by decide +kernel
theorem dX12_judged_11 : decode cX12_judged 11 = .ok (.aload_n 0, 1) := by decide +kernel
theorem dX12_judged_12 : decode cX12_judged 12 = .ok (.getfield 264, 3) := by decide +kernel
theorem dX12_judged_15 : decode cX12_judged 15 = .ok (.if_icmp .ge 24, 3) := by decide +kernel
theorem dX12_judged_18 : decode cX12_judged 18 = .ok (.aload_n 0, 1) := by decide +kernel
theorem dX12_judged_19 : decode cX12_judged 19 = .ok (.getfield 68, 3) := by decide +kernel
theorem dX12_judged_22 : decode cX12_judged 22 = .ok (.iload_n 1, 1) := by decide +kernel
theorem dX12_judged_23 : decode cX12_judged 23 = .ok (.iaload, 1) := by decide +kernel
theorem dX12_judged_24 : decode cX12_judged 24 = .ok (.aload_n 0, 1) := by decide +kernel
theorem dX12_judged_25 : decode cX12_judged 25 = .ok (.getfield 44, 3) := by decide +kernel
theorem dX12_judged_28 : decode cX12_judged 28 = .ok (.iload_n 1, 1) := by decide +kernel
theorem dX12_judged_29 : decode cX12_judged 29 = .ok (.iaload, 1) := by decide +kernel
theorem dX12_judged_30 : decode cX12_judged 30 = .ok (.if_icmp .ne 9, 3) := by decide +kernel
theorem dX12_judged_33 : decode cX12_judged 33 = .ok (.iinc 1 1, 3) := by decide +kernel
theorem dX12_judged_36 : decode cX12_judged 36 = .ok (.goto (-34), 3) := by decide +kernel
theorem dX12_judged_39 : decode cX12_judged 39 = .ok (.aload_n 0, 1) := by decide +kernel
theorem dX12_judged_40 : decode cX12_judged 40 = .ok (.iload_n 1, 1) := by decide +kernel
theorem dX12_judged_41 : decode cX12_judged 41 = .ok (.putfield 317, 3) := by decide +kernel
theorem dX12_judged_44 : decode cX12_judged 44 = .ok (.iload_n 1, 1) := by decide +kernel
theorem dX12_judged_45 : decode cX12_judged 45 = .ok (.aload_n 0, 1) := by decide +kernel
theorem dX12_judged_46 : decode cX12_judged 46 = .ok (.getfield 296, 3) := by decide +kernel
theorem dX12_judged_49 : decode cX12_judged 49 = .ok (.if_icmp .ge 5, 3) := by decide +kernel
theorem dX12_judged_52 : decode cX12_judged 52 = .ok (.iconst 2, 1) := by decide +kernel
theorem dX12_judged_53 : decode cX12_judged 53 = .ok (.ireturn, 1) := by decide +kernel
theorem dX12_judged_54 : decode cX12_judged 54 = .ok (.aload_n 0, 1) := by decide +kernel
theorem dX12_judged_55 : decode cX12_judged 55 = .ok (.getfield 296, 3) := by decide +kernel
theorem dX12_judged_58 : decode cX12_judged 58 = .ok (.aload_n 0, 1) := by decide +kernel
theorem dX12_judged_59 : decode cX12_judged 59 = .ok (.getfield 264, 3) := by decide +kernel
theorem dX12_judged_62 : decode cX12_judged 62 = .ok (.if_icmp .ne 7, 3) := by decide +kernel
theorem dX12_judged_65 : decode cX12_judged 65 = .ok (.iconst 0, 1) := by decide +kernel
theorem dX12_judged_66 : decode cX12_judged 66 = .ok (.goto 4, 3) := by decide +kernel
theorem dX12_judged_69 : decode cX12_judged 69 = .ok (.iconst 1, 1) := by decide +kernel
theorem dX12_judged_70 : decode cX12_judged 70 = .ok (.ireturn, 1) := by decide +kernel
set_option maxRecDepth 20000 in
theorem ggX12_play_X12_isIn : GoodIn wsX12_play wsX12_isIn := goodIn_r _ [27] rfl (by decide +kernel)
set_option maxRecDepth 20000 in
theorem gX12_play_X12_isIn : GoodIn wsX12_play (va_wsS RX12 148 yX12_isIn wsX12_isIn) := goodIn_app (goodIn_r _ [24, 25, 26] rfl (by decide +kernel)) ggX12_play_X12_isIn
set_option maxRecDepth 20000 in
theorem ggX12_play_X12_begin : GoodIn wsX12_play wsX12_begin := goodIn_r _ [31, 4, 6, 12, 10, 13, 22, 20, 82, 83, 84, 85, 86, 87, 88, 89, 90, 91, 92, 93, 94, 95, 96, 97, 98, 99, 100, 101, 102, 103, 104, 105, 106, 107, 108, 109, 110, 111, 112, 113, 114, 115, 116, 117, 118, 119, 120, 121, 122, 123, 124, 125, 126, 127, 128, 129, 130, 131, 132, 133, 134, 135, 136, 137, 138, 139, 140, 141, 142, 143, 144, 145, 146, 147, 148, 149, 150, 151, 152, 153, 154, 155, 156, 157, 158, 159, 160, 161, 162, 163, 164] rfl (by decide +kernel)
set_option maxRecDepth 20000 in
theorem gX12_play_X12_begin : GoodIn wsX12_play (wsV RX12 320 RX12 yX12_begin wsX12_begin) := goodIn_app (goodIn_r _ [28, 29, 30, 26] rfl (by decide +kernel)) ggX12_play_X12_begin
set_option maxRecDepth 20000 in
theorem ggX12_play_X12_step : GoodIn wsX12_play wsX12_step := goodIn_r _ [35, 36, 4, 37, 6, 38, 10, 12, 20, 39, 40, 41, 26, 42, 43, 44, 45, 46, 47, 48, 49, 50, 51, 2, 52, 3, 53, 54, 55, 56, 57, 24, 25, 27, 58, 59, 60, 61, 62, 63, 64, 65, 66, 67, 68, 22, 69, 70, 71, 72, 73, 74, 75, 76, 77, 13, 15, 82, 83, 84, 85, 86, 87, 88, 89, 90, 91, 92, 93, 94, 95, 96, 97, 98, 99, 100, 101, 102, 103, 104, 105, 106, 107, 108, 109, 110, 111, 112, 113, 114, 115, 116, 117, 118, 119, 120, 121, 122, 123, 124, 125, 126, 127, 128, 129, 130, 131, 132, 133, 134, 135, 136, 137, 138, 139, 140, 141, 142, 143, 144, 145, 146, 147, 148, 149, 150, 151, 152, 153, 154, 155, 156, 157, 158, 159, 160, 161, 162, 163, 164] rfl (by decide +kernel)
set_option maxRecDepth 20000 in
theorem gX12_play_X12_step : GoodIn wsX12_play (wsV RX12 323 RX12 yX12_step wsX12_step) := goodIn_app (goodIn_r _ [32, 33, 34, 26] rfl (by decide +kernel)) ggX12_play_X12_step
set_option maxRecDepth 20000 in
theorem ggX12_play_X12_judged : GoodIn wsX12_play wsX12_judged := goodIn_r _ [81, 13, 69, 15, 70, 18, 82, 83, 84, 85, 86, 87, 88, 89, 90, 91, 92, 93, 94, 95, 96, 97, 98, 99, 100, 101, 102, 103, 104, 105, 106, 107, 108, 109, 110, 111, 112, 113, 114, 115, 116, 117, 118, 119, 120, 121, 122, 123, 124, 125, 126, 127, 128, 129, 130, 131, 132, 133, 134, 135, 136, 137, 138, 139, 140, 141, 142, 143, 144, 145, 146, 147, 148, 149, 150, 151, 152, 153, 154, 155, 156, 157, 158, 159, 160, 161, 162, 163, 164] rfl (by decide +kernel)
set_option maxRecDepth 20000 in
theorem gX12_play_X12_judged : GoodIn wsX12_play (wsV RX12 332 RX12 yX12_judged wsX12_judged) := goodIn_app (goodIn_r _ [78, 79, 80, 26] rfl (by decide +kernel)) ggX12_play_X12_judged
theorem dX12_play_0 : decode cX12_play 0 = .ok (.aload_n 0, 1) := by decide +kernel
theorem dX12_play_1 : decode cX12_play 1 = .ok (.iconst 0, 1) := by decide +kernel
theorem dX12_play_2 : decode cX12_play 2 = .ok (.putfield 138, 3) := by decide +kernel
theorem dX12_play_5 : decode cX12_play 5 = .ok (.iload_n 1, 1) := by decide +kernel
theorem dX12_play_6 : decode cX12_play 6 = .ok (.iconst 0, 1) := by decide +kernel
theorem dX12_play_7 : decode cX12_play 7 = .ok (.sipush 500, 3) := by decide +kernel
theorem dX12_play_10 : decode cX12_play 10 = .ok (.invokestatic 148, 3) := by decide +kernel
theorem dX12_play_13 : decode cX12_play 13 = .ok (.ifCond .ne 5, 3) := by decide +kernel
theorem dX12_play_16 : decode cX12_play 16 = .ok (.iconst (-1), 1) := by decide +kernel
theorem dX12_play_17 : decode cX12_play 17 = .ok (.ireturn, 1) := by decide +kernel
theorem dX12_play_18 : decode cX12_play 18 = .ok (.aload_n 0, 1) := by decide +kernel
theorem dX12_play_19 : decode cX12_play 19 = .ok (.iconst 0, 1) := by decide +kernel
theorem dX12_play_20 : decode cX12_play 20 = .ok (.putfield 267, 3) := by decide +kernel
theorem dX12_play_23 : decode cX12_play 23 = .ok (.aload_n 0, 1) := by decide +kernel
theorem dX12_play_24 : decode cX12_play 24 = .ok (.iconst 0, 1) := by decide +kernel
theorem dX12_play_25 : decode cX12_play 25 = .ok (.putfield 273, 3) := by decide +kernel
theorem dX12_play_28 : decode cX12_play 28 = .ok (.aload_n 0, 1) := by decide +kernel
theorem dX12_play_29 : decode cX12_play 29 = .ok (.invokevirtual 320, 3) := by decide +kernel
theorem dX12_play_32 : decode cX12_play 32 = .ok (.iconst 0, 1) := by decide +kernel
theorem dX12_play_33 : decode cX12_play 33 = .ok (.istore_n 2, 1) := by decide +kernel
theorem dX12_play_34 : decode cX12_play 34 = .ok (.iload_n 2, 1) := by decide +kernel
theorem dX12_play_35 : decode cX12_play 35 = .ok (.iload_n 1, 1) := by decide +kernel
theorem dX12_play_36 : decode cX12_play 36 = .ok (.if_icmp .gt 52, 3) := by decide +kernel
theorem dX12_play_39 : decode cX12_play 39 = .ok (.iload_n 2, 1) := by decide +kernel
theorem dX12_play_40 : decode cX12_play 40 = .ok (.ifCond .le 8, 3) := by decide +kernel
theorem dX12_play_43 : decode cX12_play 43 = .ok (.aload_n 0, 1) := by decide +kernel
theorem dX12_play_44 : decode cX12_play 44 = .ok (.iload_n 2, 1) := by decide +kernel
theorem dX12_play_45 : decode cX12_play 45 = .ok (.invokevirtual 323, 3) := by decide +kernel
theorem dX12_play_48 : decode cX12_play 48 = .ok (.iconst 0, 1) := by decide +kernel
theorem dX12_play_49 : decode cX12_play 49 = .ok (.istore_n 3, 1) := by decide +kernel
theorem dX12_play_50 : decode cX12_play 50 = .ok (.iload_n 3, 1) := by decide +kernel
theorem dX12_play_51 : decode cX12_play 51 = .ok (.aload_n 0, 1) := by decide +kernel
theorem dX12_play_52 : decode cX12_play 52 = .ok (.getfield 13, 3) := by decide +kernel
theorem dX12_play_55 : decode cX12_play 55 = .ok (.if_icmp .ge 27, 3) := by decide +kernel
theorem dX12_play_58 : decode cX12_play 58 = .ok (.aload_n 0, 1) := by decide +kernel
theorem dX12_play_59 : decode cX12_play 59 = .ok (.getfield 74, 3) := by decide +kernel
theorem dX12_play_62 : decode cX12_play 62 = .ok (.bipush 16, 2) := by decide +kernel
theorem dX12_play_64 : decode cX12_play 64 = .ok (.iload_n 2, 1) := by decide +kernel
theorem dX12_play_65 : decode cX12_play 65 = .ok (.imul, 1) := by decide +kernel
theorem dX12_play_66 : decode cX12_play 66 = .ok (.iload_n 3, 1) := by decide +kernel
theorem dX12_play_67 : decode cX12_play 67 = .ok (.iadd, 1) := by decide +kernel
theorem dX12_play_68 : decode cX12_play 68 = .ok (.aload_n 0, 1) := by decide +kernel
theorem dX12_play_69 : decode cX12_play 69 = .ok (.getfield 56, 3) := by decide +kernel
theorem dX12_play_72 : decode cX12_play 72 = .ok (.iload_n 3, 1) := by decide +kernel
theorem dX12_play_73 : decode cX12_play 73 = .ok (.iaload, 1) := by decide +kernel
theorem dX12_play_74 : decode cX12_play 74 = .ok (.i2b, 1) := by decide +kernel
theorem dX12_play_75 : decode cX12_play 75 = .ok (.bastore, 1) := by decide +kernel
theorem dX12_play_76 : decode cX12_play 76 = .ok (.iinc 3 1, 3) := by decide +kernel
theorem dX12_play_79 : decode cX12_play 79 = .ok (.goto (-29), 3) := by decide +kernel
theorem dX12_play_82 : decode cX12_play 82 = .ok (.iinc 2 1, 3) := by decide +kernel
theorem dX12_play_85 : decode cX12_play 85 = .ok (.goto (-51), 3) := by decide +kernel
theorem dX12_play_88 : decode cX12_play 88 = .ok (.aload_n 0, 1) := by decide +kernel
theorem dX12_play_89 : decode cX12_play 89 = .ok (.iload_n 1, 1) := by decide +kernel
theorem dX12_play_90 : decode cX12_play 90 = .ok (.putfield 87, 3) := by decide +kernel
theorem dX12_play_93 : decode cX12_play 93 = .ok (.aload_n 0, 1) := by decide +kernel
theorem dX12_play_94 : decode cX12_play 94 = .ok (.aload_n 0, 1) := by decide +kernel
theorem dX12_play_95 : decode cX12_play 95 = .ok (.getfield 13, 3) := by decide +kernel
theorem dX12_play_98 : decode cX12_play 98 = .ok (.putfield 326, 3) := by decide +kernel
theorem dX12_play_101 : decode cX12_play 101 = .ok (.iconst 0, 1) := by decide +kernel
theorem dX12_play_102 : decode cX12_play 102 = .ok (.istore_n 2, 1) := by decide +kernel
theorem dX12_play_103 : decode cX12_play 103 = .ok (.iload_n 2, 1) := by decide +kernel
theorem dX12_play_104 : decode cX12_play 104 = .ok (.bipush 64, 2) := by decide +kernel
theorem dX12_play_106 : decode cX12_play 106 = .ok (.if_icmp .ge 21, 3) := by decide +kernel
theorem dX12_play_109 : decode cX12_play 109 = .ok (.aload_n 0, 1) := by decide +kernel
theorem dX12_play_110 : decode cX12_play 110 = .ok (.getfield 78, 3) := by decide +kernel
theorem dX12_play_113 : decode cX12_play 113 = .ok (.iload_n 2, 1) := by decide +kernel
theorem dX12_play_114 : decode cX12_play 114 = .ok (.aload_n 0, 1) := by decide +kernel
theorem dX12_play_115 : decode cX12_play 115 = .ok (.getfield 62, 3) := by decide +kernel
theorem dX12_play_118 : decode cX12_play 118 = .ok (.iload_n 2, 1) := by decide +kernel
theorem dX12_play_119 : decode cX12_play 119 = .ok (.iaload, 1) := by decide +kernel
theorem dX12_play_120 : decode cX12_play 120 = .ok (.iastore, 1) := by decide +kernel
theorem dX12_play_121 : decode cX12_play 121 = .ok (.iinc 2 1, 3) := by decide +kernel
theorem dX12_play_124 : decode cX12_play 124 = .ok (.goto (-21), 3) := by decide +kernel
theorem dX12_play_127 : decode cX12_play 127 = .ok (.iconst 0, 1) := by decide +kernel
theorem dX12_play_128 : decode cX12_play 128 = .ok (.istore_n 2, 1) := by decide +kernel
theorem dX12_play_129 : decode cX12_play 129 = .ok (.iload_n 2, 1) := by decide +kernel
theorem dX12_play_130 : decode cX12_play 130 = .ok (.aload_n 0, 1) := by decide +kernel
theorem dX12_play_131 : decode cX12_play 131 = .ok (.getfield 13, 3) := by decide +kernel
theorem dX12_play_134 : decode cX12_play 134 = .ok (.if_icmp .ge 21, 3) := by decide +kernel
theorem dX12_play_137 : decode cX12_play 137 = .ok (.aload_n 0, 1) := by decide +kernel
theorem dX12_play_138 : decode cX12_play 138 = .ok (.getfield 81, 3) := by decide +kernel
theorem dX12_play_141 : decode cX12_play 141 = .ok (.iload_n 2, 1) := by decide +kernel
theorem dX12_play_142 : decode cX12_play 142 = .ok (.aload_n 0, 1) := by decide +kernel
theorem dX12_play_143 : decode cX12_play 143 = .ok (.getfield 65, 3) := by decide +kernel
theorem dX12_play_146 : decode cX12_play 146 = .ok (.iload_n 2, 1) := by decide +kernel
theorem dX12_play_147 : decode cX12_play 147 = .ok (.iaload, 1) := by decide +kernel
theorem dX12_play_148 : decode cX12_play 148 = .ok (.iastore, 1) := by decide +kernel
theorem dX12_play_149 : decode cX12_play 149 = .ok (.iinc 2 1, 3) := by decide +kernel
theorem dX12_play_152 : decode cX12_play 152 = .ok (.goto (-23), 3) := by decide +kernel
theorem dX12_play_155 : decode cX12_play 155 = .ok (.iconst 0, 1) := by decide +kernel
theorem dX12_play_156 : decode cX12_play 156 = .ok (.istore_n 2, 1) := by decide +kernel
theorem dX12_play_157 : decode cX12_play 157 = .ok (.iload_n 2, 1) := by decide +kernel
theorem dX12_play_158 : decode cX12_play 158 = .ok (.aload_n 0, 1) := by decide +kernel
theorem dX12_play_159 : decode cX12_play 159 = .ok (.getfield 296, 3) := by decide +kernel
theorem dX12_play_162 : decode cX12_play 162 = .ok (.if_icmp .ge 21, 3) := by decide +kernel
theorem dX12_play_165 : decode cX12_play 165 = .ok (.aload_n 0, 1) := by decide +kernel
theorem dX12_play_166 : decode cX12_play 166 = .ok (.getfield 84, 3) := by decide +kernel
theorem dX12_play_169 : decode cX12_play 169 = .ok (.iload_n 2, 1) := by decide +kernel
theorem dX12_play_170 : decode cX12_play 170 = .ok (.aload_n 0, 1) := by decide +kernel
theorem dX12_play_171 : decode cX12_play 171 = .ok (.getfield 68, 3) := by decide +kernel
theorem dX12_play_174 : decode cX12_play 174 = .ok (.iload_n 2, 1) := by decide +kernel
theorem dX12_play_175 : decode cX12_play 175 = .ok (.iaload, 1) := by decide +kernel
theorem dX12_play_176 : decode cX12_play 176 = .ok (.iastore, 1) := by decide +kernel
theorem dX12_play_177 : decode cX12_play 177 = .ok (.iinc 2 1, 3) := by decide +kernel
theorem dX12_play_180 : decode cX12_play 180 = .ok (.goto (-23), 3) := by decide +kernel
theorem dX12_play_183 : decode cX12_play 183 = .ok (.aload_n 0, 1) := by decide +kernel
theorem dX12_play_184 : decode cX12_play 184 = .ok (.aload_n 0, 1) := by decide +kernel
theorem dX12_play_185 : decode cX12_play 185 = .ok (.getfield 296, 3) := by decide +kernel
theorem dX12_play_188 : decode cX12_play 188 = .ok (.putfield 329, 3) := by decide +kernel
theorem dX12_play_191 : decode cX12_play 191 = .ok (.aload_n 0, 1) := by decide +kernel
theorem dX12_play_192 : decode cX12_play 192 = .ok (.aload_n 0, 1) := by decide +kernel
theorem dX12_play_193 : decode cX12_play 193 = .ok (.invokevirtual 332, 3) := by decide +kernel
theorem dX12_play_196 : decode cX12_play 196 = .ok (.putfield 335, 3) := by decide +kernel
theorem dX12_play_199 : decode cX12_play 199 = .ok (.aload_n 0, 1) := by decide +kernel
theorem dX12_play_200 : decode cX12_play 200 = .ok (.aload_n 0, 1) := by decide +kernel
theorem dX12_play_201 : decode cX12_play 201 = .ok (.getfield 335, 3) := by decide +kernel
theorem dX12_play_204 : decode cX12_play 204 = .ok (.iconst 2, 1) := by decide +kernel
theorem dX12_play_205 : decode cX12_play 205 = .ok (.if_icmp .ne 10, 3) := by decide +kernel
theorem dX12_play_208 : decode cX12_play 208 = .ok (.aload_n 0, 1) := by decide +kernel
theorem dX12_play_209 : decode cX12_play 209 = .ok (.getfield 317, 3) := by decide +kernel
theorem dX12_play_212 : decode cX12_play 212 = .ok (.goto 4, 3) := by decide +kernel
theorem dX12_play_215 : decode cX12_play 215 = .ok (.iconst (-1), 1) := by decide +kernel
theorem dX12_play_216 : decode cX12_play 216 = .ok (.putfield 338, 3) := by decide +kernel
theorem dX12_play_219 : decode cX12_play 219 = .ok (.aload_n 0, 1) := by decide +kernel
theorem dX12_play_220 : decode cX12_play 220 = .ok (.aload_n 0, 1) := by decide +kernel
theorem dX12_play_221 : decode cX12_play 221 = .ok (.getfield 314, 3) := by decide +kernel
theorem dX12_play_224 : decode cX12_play 224 = .ok (.putfield 341, 3) := by decide +kernel
theorem dX12_play_227 : decode cX12_play 227 = .ok (.aload_n 0, 1) := by decide +kernel
theorem dX12_play_228 : decode cX12_play 228 = .ok (.aload_n 0, 1) := by decide +kernel
theorem dX12_play_229 : decode cX12_play 229 = .ok (.getfield 285, 3) := by decide +kernel
theorem dX12_play_232 : decode cX12_play 232 = .ok (.putfield 344, 3) := by decide +kernel
theorem dX12_play_235 : decode cX12_play 235 = .ok (.aload_n 0, 1) := by decide +kernel
theorem dX12_play_236 : decode cX12_play 236 = .ok (.getfield 296, 3) := by decide +kernel
theorem dX12_play_239 : decode cX12_play 239 = .ok (.ireturn, 1) := by decide +kernel
theorem dX12_isPlayed_0 : decode cX12_isPlayed 0 = .ok (.aload_n 0, 1) := by decide +kernel
theorem dX12_isPlayed_1 : decode cX12_isPlayed 1 = .ok (.getfield 87, 3) := by decide +kernel
theorem dX12_isPlayed_4 : decode cX12_isPlayed 4 = .ok (.iconst (-1), 1) := by decide +kernel
theorem dX12_isPlayed_5 : decode cX12_isPlayed 5 = .ok (.if_icmp .eq 19, 3) := by decide +kernel
theorem dX12_isPlayed_8 : decode cX12_isPlayed 8 = .ok (.iload_n 1, 1) := by decide +kernel
theorem dX12_isPlayed_9 : decode cX12_isPlayed 9 = .ok (.ifCond .lt 15, 3) := by decide +kernel
theorem dX12_isPlayed_12 : decode cX12_isPlayed 12 = .ok (.iload_n 1, 1) := by decide +kernel
theorem dX12_isPlayed_13 : decode cX12_isPlayed 13 = .ok (.aload_n 0, 1) := by decide +kernel
theorem dX12_isPlayed_14 : decode cX12_isPlayed 14 = .ok (.getfield 326, 3) := by decide +kernel
theorem dX12_isPlayed_17 : decode cX12_isPlayed 17 = .ok (.if_icmp .ge 7, 3) := by decide +kernel
theorem dX12_isPlayed_20 : decode cX12_isPlayed 20 = .ok (.iconst 1, 1) := by decide +kernel
theorem dX12_isPlayed_21 : decode cX12_isPlayed 21 = .ok (.goto 4, 3) := by decide +kernel
theorem dX12_isPlayed_24 : decode cX12_isPlayed 24 = .ok (.iconst 0, 1) := by decide +kernel
theorem dX12_isPlayed_25 : decode cX12_isPlayed 25 = .ok (.ireturn, 1) := by decide +kernel
set_option maxRecDepth 20000 in
theorem ggX12_shown_X12_isPlayed : GoodIn wsX12_shown wsX12_isPlayed := goodIn_r _ [8, 2, 9, 13, 14, 15, 16, 17, 18, 19, 20, 21, 22, 23, 24, 25, 26, 27, 28, 29, 30, 31, 32, 33, 34, 35, 36, 37, 38, 39, 40, 41, 42, 43, 44, 45, 46, 47, 48, 49, 50, 51, 52, 53, 54, 55, 56, 57, 58, 59, 60, 61, 62, 63, 64, 65, 66, 67, 68, 69, 70, 71, 72, 73, 74, 75, 76, 77, 78, 79, 80, 81, 82, 83, 84, 85, 86, 87, 88, 89, 90, 91, 92, 93, 94, 95] rfl (by decide +kernel)
set_option maxRecDepth 20000 in
theorem gX12_shown_X12_isPlayed : GoodIn wsX12_shown (wsV RX12 347 RX12 yX12_isPlayed wsX12_isPlayed) := goodIn_app (goodIn_r _ [4, 5, 6, 7] rfl (by decide +kernel)) ggX12_shown_X12_isPlayed
set_option maxRecDepth 20000 in
theorem ggX12_shown_X12_isIn : GoodIn wsX12_shown wsX12_isIn := goodIn_r _ [12] rfl (by decide +kernel)
set_option maxRecDepth 20000 in
theorem gX12_shown_X12_isIn : GoodIn wsX12_shown (va_wsS RX12 148 yX12_isIn wsX12_isIn) := goodIn_app (goodIn_r _ [10, 11, 7] rfl (by decide +kernel)) ggX12_shown_X12_isIn
theorem dX12_shown_0 : decode cX12_shown 0 = .ok (.aload_n 0, 1) := by decide +kernel
theorem dX12_shown_1 : decode cX12_shown 1 = .ok (.iconst 0, 1) := by decide +kernel
theorem dX12_shown_2 : decode cX12_shown 2 = .ok (.putfield 138, 3) := by decide +kernel
theorem dX12_shown_5 : decode cX12_shown 5 = .ok (.aload_n 0, 1) := by decide +kernel
theorem dX12_shown_6 : decode cX12_shown 6 = .ok (.iload_n 1, 1) := by decide +kernel
theorem dX12_shown_7 : decode cX12_shown 7 = .ok (.invokevirtual 347, 3) := by decide +kernel
theorem dX12_shown_10 : decode cX12_shown 10 = .ok (.ifCond .eq 29, 3) := by decide +kernel
theorem dX12_shown_13 : decode cX12_shown 13 = .ok (.iload_n 2, 1) := by decide +kernel
theorem dX12_shown_14 : decode cX12_shown 14 = .ok (.iconst 0, 1) := by decide +kernel
theorem dX12_shown_15 : decode cX12_shown 15 = .ok (.aload_n 0, 1) := by decide +kernel
theorem dX12_shown_16 : decode cX12_shown 16 = .ok (.getfield 87, 3) := by decide +kernel
theorem dX12_shown_19 : decode cX12_shown 19 = .ok (.invokestatic 148, 3) := by decide +kernel
theorem dX12_shown_22 : decode cX12_shown 22 = .ok (.ifCond .eq 17, 3) := by decide +kernel
theorem dX12_shown_25 : decode cX12_shown 25 = .ok (.aload_n 0, 1) := by decide +kernel
theorem dX12_shown_26 : decode cX12_shown 26 = .ok (.getfield 74, 3) := by decide +kernel
theorem dX12_shown_29 : decode cX12_shown 29 = .ok (.bipush 16, 2) := by decide +kernel
theorem dX12_shown_31 : decode cX12_shown 31 = .ok (.iload_n 2, 1) := by decide +kernel
theorem dX12_shown_32 : decode cX12_shown 32 = .ok (.imul, 1) := by decide +kernel
theorem dX12_shown_33 : decode cX12_shown 33 = .ok (.iload_n 1, 1) := by decide +kernel
theorem dX12_shown_34 : decode cX12_shown 34 = .ok (.iadd, 1) := by decide +kernel
theorem dX12_shown_35 : decode cX12_shown 35 = .ok (.baload, 1) := by decide +kernel
theorem dX12_shown_36 : decode cX12_shown 36 = .ok (.goto 4, 3) := by decide +kernel
theorem dX12_shown_39 : decode cX12_shown 39 = .ok (.iconst (-1), 1) := by decide +kernel
theorem dX12_shown_40 : decode cX12_shown 40 = .ok (.ireturn, 1) := by decide +kernel
set_option maxRecDepth 20000 in
theorem ggX12_cell_X12_isPlayed : GoodIn wsX12_cell wsX12_isPlayed := goodIn_r _ [8, 9, 10, 14, 15, 16, 17, 18, 19, 20, 21, 22, 23, 24, 25, 26, 27, 28, 29, 30, 31, 32, 33, 34, 35, 36, 37, 38, 39, 40, 41, 42, 43, 44, 45, 46, 47, 48, 49, 50, 51, 52, 53, 54, 55, 56, 57, 58, 59, 60, 61, 62, 63, 64, 65, 66, 67, 68, 69, 70, 71, 72, 73, 74, 75, 76, 77, 78, 79, 80, 81, 82, 83, 84, 85, 86, 87, 88, 89, 90, 91, 92, 93, 94, 95, 96] rfl (by decide +kernel)
set_option maxRecDepth 20000 in
theorem gX12_cell_X12_isPlayed : GoodIn wsX12_cell (wsV RX12 347 RX12 yX12_isPlayed wsX12_isPlayed) := goodIn_app (goodIn_r _ [4, 5, 6, 7] rfl (by decide +kernel)) ggX12_cell_X12_isPlayed
set_option maxRecDepth 20000 in
theorem ggX12_cell_X12_isIn : GoodIn wsX12_cell wsX12_isIn := goodIn_r _ [13] rfl (by decide +kernel)
set_option maxRecDepth 20000 in
theorem gX12_cell_X12_isIn : GoodIn wsX12_cell (va_wsS RX12 148 yX12_isIn wsX12_isIn) := goodIn_app (goodIn_r _ [11, 12, 7] rfl (by decide +kernel)) ggX12_cell_X12_isIn
theorem dX12_cell_0 : decode cX12_cell 0 = .ok (.aload_n 0, 1) := by decide +kernel
theorem dX12_cell_1 : decode cX12_cell 1 = .ok (.iconst 0, 1) := by decide +kernel
theorem dX12_cell_2 : decode cX12_cell 2 = .ok (.putfield 138, 3) := by decide +kernel
theorem dX12_cell_5 : decode cX12_cell 5 = .ok (.aload_n 0, 1) := by decide +kernel
theorem dX12_cell_6 : decode cX12_cell 6 = .ok (.iload_n 1, 1) := by decide +kernel
theorem dX12_cell_7 : decode cX12_cell 7 = .ok (.invokevirtual 347, 3) := by decide +kernel
theorem dX12_cell_10 : decode cX12_cell 10 = .ok (.ifCond .eq 12, 3) := by decide +kernel
theorem dX12_cell_13 : decode cX12_cell 13 = .ok (.iload_n 2, 1) := by decide +kernel
theorem dX12_cell_14 : decode cX12_cell 14 = .ok (.iconst 0, 1) := by decide +kernel
theorem dX12_cell_15 : decode cX12_cell 15 = .ok (.iconst 4, 1) := by decide +kernel
theorem dX12_cell_16 : decode cX12_cell 16 = .ok (.invokestatic 148, 3) := by decide +kernel
theorem dX12_cell_19 : decode cX12_cell 19 = .ok (.ifCond .ne 5, 3) := by decide +kernel
theorem dX12_cell_22 : decode cX12_cell 22 = .ok (.iconst (-1), 1) := by decide +kernel
theorem dX12_cell_23 : decode cX12_cell 23 = .ok (.ireturn, 1) := by decide +kernel
theorem dX12_cell_24 : decode cX12_cell 24 = .ok (.iload_n 2, 1) := by decide +kernel
theorem dX12_cell_25 : decode cX12_cell 25 = .ok (.iconst 4, 1) := by decide +kernel
theorem dX12_cell_26 : decode cX12_cell 26 = .ok (.if_icmp .ne 12, 3) := by decide +kernel
theorem dX12_cell_29 : decode cX12_cell 29 = .ok (.aload_n 0, 1) := by decide +kernel
theorem dX12_cell_30 : decode cX12_cell 30 = .ok (.getfield 81, 3) := by decide +kernel
theorem dX12_cell_33 : decode cX12_cell 33 = .ok (.iload_n 1, 1) := by decide +kernel
theorem dX12_cell_34 : decode cX12_cell 34 = .ok (.iaload, 1) := by decide +kernel
theorem dX12_cell_35 : decode cX12_cell 35 = .ok (.goto 13, 3) := by decide +kernel
theorem dX12_cell_38 : decode cX12_cell 38 = .ok (.aload_n 0, 1) := by decide +kernel
theorem dX12_cell_39 : decode cX12_cell 39 = .ok (.getfield 78, 3) := by decide +kernel
theorem dX12_cell_42 : decode cX12_cell 42 = .ok (.iconst 4, 1) := by decide +kernel
theorem dX12_cell_43 : decode cX12_cell 43 = .ok (.iload_n 1, 1) := by decide +kernel
theorem dX12_cell_44 : decode cX12_cell 44 = .ok (.imul, 1) := by decide +kernel
theorem dX12_cell_45 : decode cX12_cell 45 = .ok (.iload_n 2, 1) := by decide +kernel
theorem dX12_cell_46 : decode cX12_cell 46 = .ok (.iadd, 1) := by decide +kernel
theorem dX12_cell_47 : decode cX12_cell 47 = .ok (.iaload, 1) := by decide +kernel
theorem dX12_cell_48 : decode cX12_cell 48 = .ok (.ireturn, 1) := by decide +kernel
theorem dX12_written_0 : decode cX12_written 0 = .ok (.aload_n 0, 1) := by decide +kernel
theorem dX12_written_1 : decode cX12_written 1 = .ok (.iconst 0, 1) := by decide +kernel
theorem dX12_written_2 : decode cX12_written 2 = .ok (.putfield 138, 3) := by decide +kernel
theorem dX12_written_5 : decode cX12_written 5 = .ok (.aload_n 0, 1) := by decide +kernel
theorem dX12_written_6 : decode cX12_written 6 = .ok (.getfield 87, 3) := by decide +kernel
theorem dX12_written_9 : decode cX12_written 9 = .ok (.iconst (-1), 1) := by decide +kernel
theorem dX12_written_10 : decode cX12_written 10 = .ok (.if_icmp .eq 24, 3) := by decide +kernel
theorem dX12_written_13 : decode cX12_written 13 = .ok (.iload_n 1, 1) := by decide +kernel
theorem dX12_written_14 : decode cX12_written 14 = .ok (.ifCond .lt 20, 3) := by decide +kernel
theorem dX12_written_17 : decode cX12_written 17 = .ok (.iload_n 1, 1) := by decide +kernel
theorem dX12_written_18 : decode cX12_written 18 = .ok (.aload_n 0, 1) := by decide +kernel
theorem dX12_written_19 : decode cX12_written 19 = .ok (.getfield 329, 3) := by decide +kernel
theorem dX12_written_22 : decode cX12_written 22 = .ok (.if_icmp .ge 12, 3) := by decide +kernel
theorem dX12_written_25 : decode cX12_written 25 = .ok (.aload_n 0, 1) := by decide +kernel
theorem dX12_written_26 : decode cX12_written 26 = .ok (.getfield 84, 3) := by decide +kernel
theorem dX12_written_29 : decode cX12_written 29 = .ok (.iload_n 1, 1) := by decide +kernel
theorem dX12_written_30 : decode cX12_written 30 = .ok (.iaload, 1) := by decide +kernel
theorem dX12_written_31 : decode cX12_written 31 = .ok (.goto 4, 3) := by decide +kernel
theorem dX12_written_34 : decode cX12_written 34 = .ok (.iconst (-1), 1) := by decide +kernel
theorem dX12_written_35 : decode cX12_written 35 = .ok (.ireturn, 1) := by decide +kernel
theorem dX12_played_0 : decode cX12_played 0 = .ok (.aload_n 0, 1) := by decide +kernel
theorem dX12_played_1 : decode cX12_played 1 = .ok (.iconst 0, 1) := by decide +kernel
theorem dX12_played_2 : decode cX12_played 2 = .ok (.putfield 138, 3) := by decide +kernel
theorem dX12_played_5 : decode cX12_played 5 = .ok (.aload_n 0, 1) := by decide +kernel
theorem dX12_played_6 : decode cX12_played 6 = .ok (.getfield 87, 3) := by decide +kernel
theorem dX12_played_9 : decode cX12_played 9 = .ok (.iconst (-1), 1) := by decide +kernel
theorem dX12_played_10 : decode cX12_played 10 = .ok (.if_icmp .ne 5, 3) := by decide +kernel
theorem dX12_played_13 : decode cX12_played 13 = .ok (.iconst (-1), 1) := by decide +kernel
theorem dX12_played_14 : decode cX12_played 14 = .ok (.ireturn, 1) := by decide +kernel
theorem dX12_played_15 : decode cX12_played 15 = .ok (.iload_n 1, 1) := by decide +kernel
theorem dX12_played_16 : decode cX12_played 16 = .ok (.tableswitch 52 0 3 #[32, 37, 42, 47], 32) := by decide +kernel
theorem dX12_played_48 : decode cX12_played 48 = .ok (.aload_n 0, 1) := by decide +kernel
theorem dX12_played_49 : decode cX12_played 49 = .ok (.getfield 335, 3) := by decide +kernel
theorem dX12_played_52 : decode cX12_played 52 = .ok (.ireturn, 1) := by decide +kernel
theorem dX12_played_53 : decode cX12_played 53 = .ok (.aload_n 0, 1) := by decide +kernel
theorem dX12_played_54 : decode cX12_played 54 = .ok (.getfield 338, 3) := by decide +kernel
theorem dX12_played_57 : decode cX12_played 57 = .ok (.ireturn, 1) := by decide +kernel
theorem dX12_played_58 : decode cX12_played 58 = .ok (.aload_n 0, 1) := by decide +kernel
theorem dX12_played_59 : decode cX12_played 59 = .ok (.getfield 341, 3) := by decide +kernel
theorem dX12_played_62 : decode cX12_played 62 = .ok (.ireturn, 1) := by decide +kernel
theorem dX12_played_63 : decode cX12_played 63 = .ok (.aload_n 0, 1) := by decide +kernel
theorem dX12_played_64 : decode cX12_played 64 = .ok (.getfield 344, 3) := by decide +kernel
theorem dX12_played_67 : decode cX12_played 67 = .ok (.ireturn, 1) := by decide +kernel
theorem dX12_played_68 : decode cX12_played 68 = .ok (.iconst (-1), 1) := by decide +kernel
theorem dX12_played_69 : decode cX12_played 69 = .ok (.ireturn, 1) := by decide +kernel
set_option maxRecDepth 20000 in
theorem ggX12_isWhole_X12_begin : GoodIn wsX12_isWhole wsX12_begin := goodIn_r _ [5, 6, 7, 8, 9, 10, 11, 12, 70, 71, 72, 73, 74, 75, 76, 77, 78, 79, 80, 81, 82, 83, 84, 85, 86, 87, 88, 89, 90, 91, 92, 93, 94, 95, 96, 97, 98, 99, 100, 101, 102, 103, 104, 105, 106, 107, 108, 109, 110, 111, 112, 113, 114, 115, 116, 117, 118, 119, 120, 121, 122, 123, 124, 125, 126, 127, 128, 129, 130, 131, 132, 133, 134, 135, 136, 137, 138, 139, 140, 141, 142, 143, 144, 145, 146, 147, 148, 149, 150, 151, 152] rfl (by decide +kernel)
set_option maxRecDepth 20000 in
theorem gX12_isWhole_X12_begin : GoodIn wsX12_isWhole (wsV RX12 320 RX12 yX12_begin wsX12_begin) := goodIn_app (goodIn_r _ [1, 2, 3, 4] rfl (by decide +kernel)) ggX12_isWhole_X12_begin
set_option maxRecDepth 20000 in
theorem ggX12_isWhole_X12_step : GoodIn wsX12_isWhole wsX12_step := goodIn_r _ [16, 17, 6, 18, 7, 19, 9, 8, 12, 20, 21, 22, 4, 23, 24, 25, 26, 27, 28, 29, 30, 31, 32, 33, 34, 35, 36, 37, 38, 39, 40, 41, 42, 43, 44, 45, 46, 47, 48, 49, 50, 51, 52, 53, 54, 11, 55, 56, 57, 58, 59, 60, 61, 62, 63, 10, 64, 70, 71, 72, 73, 74, 75, 76, 77, 78, 79, 80, 81, 82, 83, 84, 85, 86, 87, 88, 89, 90, 91, 92, 93, 94, 95, 96, 97, 98, 99, 100, 101, 102, 103, 104, 105, 106, 107, 108, 109, 110, 111, 112, 113, 114, 115, 116, 117, 118, 119, 120, 121, 122, 123, 124, 125, 126, 127, 128, 129, 130, 131, 132, 133, 134, 135, 136, 137, 138, 139, 140, 141, 142, 143, 144, 145, 146, 147, 148, 149, 150, 151, 152] rfl (by decide +kernel)
set_option maxRecDepth 20000 in
theorem gX12_isWhole_X12_step : GoodIn wsX12_isWhole (wsV RX12 323 RX12 yX12_step wsX12_step) := goodIn_app (goodIn_r _ [13, 14, 15, 4] rfl (by decide +kernel)) ggX12_isWhole_X12_step
set_option maxRecDepth 20000 in
theorem ggX12_isWhole_X12_judged : GoodIn wsX12_isWhole wsX12_judged := goodIn_r _ [68, 10, 55, 64, 56, 69, 70, 71, 72, 73, 74, 75, 76, 77, 78, 79, 80, 81, 82, 83, 84, 85, 86, 87, 88, 89, 90, 91, 92, 93, 94, 95, 96, 97, 98, 99, 100, 101, 102, 103, 104, 105, 106, 107, 108, 109, 110, 111, 112, 113, 114, 115, 116, 117, 118, 119, 120, 121, 122, 123, 124, 125, 126, 127, 128, 129, 130, 131, 132, 133, 134, 135, 136, 137, 138, 139, 140, 141, 142, 143, 144, 145, 146, 147, 148, 149, 150, 151, 152] rfl (by decide +kernel)
set_option maxRecDepth 20000 in
theorem gX12_isWhole_X12_judged : GoodIn wsX12_isWhole (wsV RX12 332 RX12 yX12_judged wsX12_judged) := goodIn_app (goodIn_r _ [65, 66, 67, 4] rfl (by decide +kernel)) ggX12_isWhole_X12_judged
theorem dX12_isWhole_0 : decode cX12_isWhole 0 = .ok (.aload_n 0, 1) := by decide +kernel
theorem dX12_isWhole_1 : decode cX12_isWhole 1 = .ok (.invokevirtual 320, 3) := by decide +kernel
theorem dX12_isWhole_4 : decode cX12_isWhole 4 = .ok (.iconst 1, 1) := by decide +kernel
theorem dX12_isWhole_5 : decode cX12_isWhole 5 = .ok (.istore_n 2, 1) := by decide +kernel
theorem dX12_isWhole_6 : decode cX12_isWhole 6 = .ok (.iload_n 2, 1) := by decide +kernel
theorem dX12_isWhole_7 : decode cX12_isWhole 7 = .ok (.iload_n 1, 1) := by decide +kernel
theorem dX12_isWhole_8 : decode cX12_isWhole 8 = .ok (.if_icmp .gt 14, 3) := by decide +kernel
theorem dX12_isWhole_11 : decode cX12_isWhole 11 = .ok (.aload_n 0, 1) := by decide +kernel
theorem dX12_isWhole_12 : decode cX12_isWhole 12 = .ok (.iload_n 2, 1) := by decide +kernel
theorem dX12_isWhole_13 : decode cX12_isWhole 13 = .ok (.invokevirtual 323, 3) := by decide +kernel
theorem dX12_isWhole_16 : decode cX12_isWhole 16 = .ok (.iinc 2 1, 3) := by decide +kernel
theorem dX12_isWhole_19 : decode cX12_isWhole 19 = .ok (.goto (-13), 3) := by decide +kernel
theorem dX12_isWhole_22 : decode cX12_isWhole 22 = .ok (.aload_n 0, 1) := by decide +kernel
theorem dX12_isWhole_23 : decode cX12_isWhole 23 = .ok (.invokevirtual 332, 3) := by decide +kernel
theorem dX12_isWhole_26 : decode cX12_isWhole 26 = .ok (.ifCond .ne 7, 3) := by decide +kernel
theorem dX12_isWhole_29 : decode cX12_isWhole 29 = .ok (.iconst 1, 1) := by decide +kernel
theorem dX12_isWhole_30 : decode cX12_isWhole 30 = .ok (.goto 4, 3) := by decide +kernel
theorem dX12_isWhole_33 : decode cX12_isWhole 33 = .ok (.iconst 0, 1) := by decide +kernel
theorem dX12_isWhole_34 : decode cX12_isWhole 34 = .ok (.ireturn, 1) := by decide +kernel
set_option maxRecDepth 20000 in
theorem ggX12_breaks_X12_isWhole : GoodIn wsX12_breaks wsX12_isWhole := goodIn_r _ [13, 14, 15, 16, 12, 17, 1, 18, 19, 20, 21, 22, 23, 24, 25, 26, 27, 28, 29, 30, 31, 32, 33, 34, 35, 36, 37, 38, 39, 40, 41, 42, 43, 2, 3, 4, 5, 44, 45, 46, 47, 48, 49, 50, 51, 52, 53, 54, 55, 56, 57, 58, 59, 60, 61, 62, 63, 64, 65, 66, 67, 68, 69, 70, 71, 72, 73, 74, 75, 76, 77, 78, 79, 80, 81, 82, 83, 84, 85, 86, 87, 88, 89, 90, 91, 92, 93, 94, 95, 96, 97, 98, 99, 100, 101, 102, 103, 104, 105, 106, 107, 108, 109, 110, 111, 112, 113, 114, 115, 116, 117, 118, 119, 120, 121, 122, 123, 124, 125, 126, 127, 128, 129, 130, 131, 132, 133, 134, 135, 136, 137, 138, 139, 140, 141, 142, 143, 144, 145, 146, 147, 148, 149, 150, 151, 152, 153, 154, 155, 156, 157, 158, 159] rfl (by decide +kernel)
set_option maxRecDepth 20000 in
theorem gX12_breaks_X12_isWhole : GoodIn wsX12_breaks (wsV RX12 350 RX12 yX12_isWhole wsX12_isWhole) := goodIn_app (goodIn_r _ [9, 10, 11, 12] rfl (by decide +kernel)) ggX12_breaks_X12_isWhole
theorem dX12_breaks_0 : decode cX12_breaks 0 = .ok (.aload_n 0, 1) := by decide +kernel
theorem dX12_breaks_1 : decode cX12_breaks 1 = .ok (.iload_n 1, 1) := by decide +kernel
theorem dX12_breaks_2 : decode cX12_breaks 2 = .ok (.ifCond .ge 7, 3) := by decide +kernel
theorem dX12_breaks_5 : decode cX12_breaks 5 = .ok (.iconst 0, 1) := by decide +kernel
theorem dX12_breaks_6 : decode cX12_breaks 6 = .ok (.goto 13, 3) := by decide +kernel
theorem dX12_breaks_9 : decode cX12_breaks 9 = .ok (.iconst 1, 1) := by decide +kernel
theorem dX12_breaks_10 : decode cX12_breaks 10 = .ok (.iload_n 1, 1) := by decide +kernel
theorem dX12_breaks_11 : decode cX12_breaks 11 = .ok (.aload_n 0, 1) := by decide +kernel
theorem dX12_breaks_12 : decode cX12_breaks 12 = .ok (.getfield 13, 3) := by decide +kernel
theorem dX12_breaks_15 : decode cX12_breaks 15 = .ok (.iconst 1, 1) := by decide +kernel
theorem dX12_breaks_16 : decode cX12_breaks 16 = .ok (.isub, 1) := by decide +kernel
theorem dX12_breaks_17 : decode cX12_breaks 17 = .ok (.idiv, 1) := by decide +kernel
theorem dX12_breaks_18 : decode cX12_breaks 18 = .ok (.iadd, 1) := by decide +kernel
theorem dX12_breaks_19 : decode cX12_breaks 19 = .ok (.putfield 267, 3) := by decide +kernel
theorem dX12_breaks_22 : decode cX12_breaks 22 = .ok (.aload_n 0, 1) := by decide +kernel
theorem dX12_breaks_23 : decode cX12_breaks 23 = .ok (.iload_n 1, 1) := by decide +kernel
theorem dX12_breaks_24 : decode cX12_breaks 24 = .ok (.ifCond .ge 7, 3) := by decide +kernel
theorem dX12_breaks_27 : decode cX12_breaks 27 = .ok (.iconst 0, 1) := by decide +kernel
theorem dX12_breaks_28 : decode cX12_breaks 28 = .ok (.goto 11, 3) := by decide +kernel
theorem dX12_breaks_31 : decode cX12_breaks 31 = .ok (.iload_n 1, 1) := by decide +kernel
theorem dX12_breaks_32 : decode cX12_breaks 32 = .ok (.aload_n 0, 1) := by decide +kernel
theorem dX12_breaks_33 : decode cX12_breaks 33 = .ok (.getfield 13, 3) := by decide +kernel
theorem dX12_breaks_36 : decode cX12_breaks 36 = .ok (.iconst 1, 1) := by decide +kernel
theorem dX12_breaks_37 : decode cX12_breaks 37 = .ok (.isub, 1) := by decide +kernel
theorem dX12_breaks_38 : decode cX12_breaks 38 = .ok (.irem, 1) := by decide +kernel
theorem dX12_breaks_39 : decode cX12_breaks 39 = .ok (.putfield 270, 3) := by decide +kernel
theorem dX12_breaks_42 : decode cX12_breaks 42 = .ok (.aload_n 0, 1) := by decide +kernel
theorem dX12_breaks_43 : decode cX12_breaks 43 = .ok (.iload_n 2, 1) := by decide +kernel
theorem dX12_breaks_44 : decode cX12_breaks 44 = .ok (.ifCond .ge 7, 3) := by decide +kernel
theorem dX12_breaks_47 : decode cX12_breaks 47 = .ok (.iconst 0, 1) := by decide +kernel
theorem dX12_breaks_48 : decode cX12_breaks 48 = .ok (.goto 13, 3) := by decide +kernel
theorem dX12_breaks_51 : decode cX12_breaks 51 = .ok (.iconst 1, 1) := by decide +kernel
theorem dX12_breaks_52 : decode cX12_breaks 52 = .ok (.iload_n 2, 1) := by decide +kernel
theorem dX12_breaks_53 : decode cX12_breaks 53 = .ok (.aload_n 0, 1) := by decide +kernel
theorem dX12_breaks_54 : decode cX12_breaks 54 = .ok (.getfield 13, 3) := by decide +kernel
theorem dX12_breaks_57 : decode cX12_breaks 57 = .ok (.iconst 1, 1) := by decide +kernel
theorem dX12_breaks_58 : decode cX12_breaks 58 = .ok (.isub, 1) := by decide +kernel
theorem dX12_breaks_59 : decode cX12_breaks 59 = .ok (.idiv, 1) := by decide +kernel
theorem dX12_breaks_60 : decode cX12_breaks 60 = .ok (.iadd, 1) := by decide +kernel
theorem dX12_breaks_61 : decode cX12_breaks 61 = .ok (.putfield 273, 3) := by decide +kernel
theorem dX12_breaks_64 : decode cX12_breaks 64 = .ok (.aload_n 0, 1) := by decide +kernel
theorem dX12_breaks_65 : decode cX12_breaks 65 = .ok (.iload_n 2, 1) := by decide +kernel
theorem dX12_breaks_66 : decode cX12_breaks 66 = .ok (.ifCond .ge 7, 3) := by decide +kernel
theorem dX12_breaks_69 : decode cX12_breaks 69 = .ok (.iconst 0, 1) := by decide +kernel
theorem dX12_breaks_70 : decode cX12_breaks 70 = .ok (.goto 11, 3) := by decide +kernel
theorem dX12_breaks_73 : decode cX12_breaks 73 = .ok (.iload_n 2, 1) := by decide +kernel
theorem dX12_breaks_74 : decode cX12_breaks 74 = .ok (.aload_n 0, 1) := by decide +kernel
theorem dX12_breaks_75 : decode cX12_breaks 75 = .ok (.getfield 13, 3) := by decide +kernel
theorem dX12_breaks_78 : decode cX12_breaks 78 = .ok (.iconst 1, 1) := by decide +kernel
theorem dX12_breaks_79 : decode cX12_breaks 79 = .ok (.isub, 1) := by decide +kernel
theorem dX12_breaks_80 : decode cX12_breaks 80 = .ok (.irem, 1) := by decide +kernel
theorem dX12_breaks_81 : decode cX12_breaks 81 = .ok (.putfield 276, 3) := by decide +kernel
theorem dX12_breaks_84 : decode cX12_breaks 84 = .ok (.aload_n 0, 1) := by decide +kernel
theorem dX12_breaks_85 : decode cX12_breaks 85 = .ok (.iload_n 3, 1) := by decide +kernel
theorem dX12_breaks_86 : decode cX12_breaks 86 = .ok (.invokevirtual 350, 3) := by decide +kernel
theorem dX12_breaks_89 : decode cX12_breaks 89 = .ok (.istore 4, 2) := by decide +kernel
theorem dX12_breaks_91 : decode cX12_breaks 91 = .ok (.iload 4, 2) := by decide +kernel
theorem dX12_breaks_93 : decode cX12_breaks 93 = .ok (.ifCond .eq 5, 3) := by decide +kernel
theorem dX12_breaks_96 : decode cX12_breaks 96 = .ok (.iconst 0, 1) := by decide +kernel
theorem dX12_breaks_97 : decode cX12_breaks 97 = .ok (.ireturn, 1) := by decide +kernel
theorem dX12_breaks_98 : decode cX12_breaks 98 = .ok (.aload_n 0, 1) := by decide +kernel
theorem dX12_breaks_99 : decode cX12_breaks 99 = .ok (.getfield 90, 3) := by decide +kernel
theorem dX12_breaks_102 : decode cX12_breaks 102 = .ok (.iconst 0, 1) := by decide +kernel
theorem dX12_breaks_103 : decode cX12_breaks 103 = .ok (.aload_n 0, 1) := by decide +kernel
theorem dX12_breaks_104 : decode cX12_breaks 104 = .ok (.getfield 267, 3) := by decide +kernel
theorem dX12_breaks_107 : decode cX12_breaks 107 = .ok (.iastore, 1) := by decide +kernel
theorem dX12_breaks_108 : decode cX12_breaks 108 = .ok (.aload_n 0, 1) := by decide +kernel
theorem dX12_breaks_109 : decode cX12_breaks 109 = .ok (.getfield 93, 3) := by decide +kernel
theorem dX12_breaks_112 : decode cX12_breaks 112 = .ok (.iconst 0, 1) := by decide +kernel
theorem dX12_breaks_113 : decode cX12_breaks 113 = .ok (.aload_n 0, 1) := by decide +kernel
theorem dX12_breaks_114 : decode cX12_breaks 114 = .ok (.getfield 270, 3) := by decide +kernel
theorem dX12_breaks_117 : decode cX12_breaks 117 = .ok (.iastore, 1) := by decide +kernel
theorem dX12_breaks_118 : decode cX12_breaks 118 = .ok (.aload_n 0, 1) := by decide +kernel
theorem dX12_breaks_119 : decode cX12_breaks 119 = .ok (.getfield 90, 3) := by decide +kernel
theorem dX12_breaks_122 : decode cX12_breaks 122 = .ok (.iconst 1, 1) := by decide +kernel
theorem dX12_breaks_123 : decode cX12_breaks 123 = .ok (.aload_n 0, 1) := by decide +kernel
theorem dX12_breaks_124 : decode cX12_breaks 124 = .ok (.getfield 273, 3) := by decide +kernel
theorem dX12_breaks_127 : decode cX12_breaks 127 = .ok (.iastore, 1) := by decide +kernel
theorem dX12_breaks_128 : decode cX12_breaks 128 = .ok (.aload_n 0, 1) := by decide +kernel
theorem dX12_breaks_129 : decode cX12_breaks 129 = .ok (.getfield 93, 3) := by decide +kernel
theorem dX12_breaks_132 : decode cX12_breaks 132 = .ok (.iconst 1, 1) := by decide +kernel
theorem dX12_breaks_133 : decode cX12_breaks 133 = .ok (.aload_n 0, 1) := by decide +kernel
theorem dX12_breaks_134 : decode cX12_breaks 134 = .ok (.getfield 276, 3) := by decide +kernel
theorem dX12_breaks_137 : decode cX12_breaks 137 = .ok (.iastore, 1) := by decide +kernel
theorem dX12_breaks_138 : decode cX12_breaks 138 = .ok (.aload_n 0, 1) := by decide +kernel
theorem dX12_breaks_139 : decode cX12_breaks 139 = .ok (.iload_n 1, 1) := by decide +kernel
theorem dX12_breaks_140 : decode cX12_breaks 140 = .ok (.ifCond .ge 7, 3) := by decide +kernel
theorem dX12_breaks_143 : decode cX12_breaks 143 = .ok (.iconst 0, 1) := by decide +kernel
theorem dX12_breaks_144 : decode cX12_breaks 144 = .ok (.goto 12, 3) := by decide +kernel
theorem dX12_breaks_147 : decode cX12_breaks 147 = .ok (.iload_n 2, 1) := by decide +kernel
theorem dX12_breaks_148 : decode cX12_breaks 148 = .ok (.ifCond .ge 7, 3) := by decide +kernel
theorem dX12_breaks_151 : decode cX12_breaks 151 = .ok (.iconst 1, 1) := by decide +kernel
theorem dX12_breaks_152 : decode cX12_breaks 152 = .ok (.goto 4, 3) := by decide +kernel
theorem dX12_breaks_155 : decode cX12_breaks 155 = .ok (.iconst 2, 1) := by decide +kernel
theorem dX12_breaks_156 : decode cX12_breaks 156 = .ok (.putfield 353, 3) := by decide +kernel
theorem dX12_breaks_159 : decode cX12_breaks 159 = .ok (.iconst 1, 1) := by decide +kernel
theorem dX12_breaks_160 : decode cX12_breaks 160 = .ok (.ireturn, 1) := by decide +kernel
set_option maxRecDepth 20000 in
theorem ggX12_broken_X12_isIn : GoodIn wsX12_broken wsX12_isIn := goodIn_r _ [6] rfl (by decide +kernel)
set_option maxRecDepth 20000 in
theorem gX12_broken_X12_isIn : GoodIn wsX12_broken (va_wsS RX12 148 yX12_isIn wsX12_isIn) := goodIn_app (goodIn_r _ [3, 4, 5] rfl (by decide +kernel)) ggX12_broken_X12_isIn
set_option maxRecDepth 20000 in
theorem ggX12_broken_X12_breaks : GoodIn wsX12_broken wsX12_breaks := goodIn_r _ [10, 2, 11, 12, 13, 14, 15, 16, 17, 18, 19, 20, 5, 21, 22, 23, 24, 25, 26, 27, 28, 29, 30, 31, 32, 33, 34, 35, 36, 37, 38, 39, 40, 41, 42, 43, 44, 45, 46, 47, 48, 49, 50, 51, 52, 53, 54, 55, 3, 4, 6, 56, 57, 58, 59, 60, 61, 62, 63, 64, 65, 66, 67, 68, 69, 70, 71, 72, 73, 74, 75, 76, 77, 78, 79, 80, 81, 82, 83, 84, 85, 86, 87, 88, 89, 90, 91, 92, 93, 94, 95, 96, 97, 98, 99, 100, 101, 102, 103, 104, 105, 106, 107, 108, 109, 110, 111, 112, 113, 114, 115, 116, 117, 118, 119, 120, 121, 122, 123, 124, 125, 126, 127, 128, 129, 130, 131, 132, 133, 134, 135, 136, 137, 138, 139, 140, 141, 142, 143, 144, 145, 146, 147, 148, 149, 150, 151, 152, 153, 154, 155, 156, 157, 158, 159, 160, 161, 162, 163, 164] rfl (by decide +kernel)
set_option maxRecDepth 20000 in
theorem gX12_broken_X12_breaks : GoodIn wsX12_broken (wsV RX12 356 RX12 yX12_breaks wsX12_breaks) := goodIn_app (goodIn_r _ [7, 8, 9, 5] rfl (by decide +kernel)) ggX12_broken_X12_breaks
theorem dX12_broken_0 : decode cX12_broken 0 = .ok (.aload_n 0, 1) := by decide +kernel
theorem dX12_broken_1 : decode cX12_broken 1 = .ok (.iconst 0, 1) := by decide +kernel
theorem dX12_broken_2 : decode cX12_broken 2 = .ok (.putfield 138, 3) := by decide +kernel
theorem dX12_broken_5 : decode cX12_broken 5 = .ok (.iload_n 1, 1) := by decide +kernel
theorem dX12_broken_6 : decode cX12_broken 6 = .ok (.iconst 0, 1) := by decide +kernel
theorem dX12_broken_7 : decode cX12_broken 7 = .ok (.bipush 60, 2) := by decide +kernel
theorem dX12_broken_9 : decode cX12_broken 9 = .ok (.invokestatic 148, 3) := by decide +kernel
theorem dX12_broken_12 : decode cX12_broken 12 = .ok (.ifCond .eq 22, 3) := by decide +kernel
theorem dX12_broken_15 : decode cX12_broken 15 = .ok (.iload_n 2, 1) := by decide +kernel
theorem dX12_broken_16 : decode cX12_broken 16 = .ok (.iconst 0, 1) := by decide +kernel
theorem dX12_broken_17 : decode cX12_broken 17 = .ok (.bipush 10, 2) := by decide +kernel
theorem dX12_broken_19 : decode cX12_broken 19 = .ok (.invokestatic 148, 3) := by decide +kernel
theorem dX12_broken_22 : decode cX12_broken 22 = .ok (.ifCond .eq 12, 3) := by decide +kernel
theorem dX12_broken_25 : decode cX12_broken 25 = .ok (.aload_n 0, 1) := by decide +kernel
theorem dX12_broken_26 : decode cX12_broken 26 = .ok (.getfield 13, 3) := by decide +kernel
theorem dX12_broken_29 : decode cX12_broken 29 = .ok (.bipush 8, 2) := by decide +kernel
theorem dX12_broken_31 : decode cX12_broken 31 = .ok (.if_icmp .le 6, 3) := by decide +kernel
theorem dX12_broken_34 : decode cX12_broken 34 = .ok (.bipush (-2), 2) := by decide +kernel
theorem dX12_broken_36 : decode cX12_broken 36 = .ok (.ireturn, 1) := by decide +kernel
theorem dX12_broken_37 : decode cX12_broken 37 = .ok (.iload_n 2, 1) := by decide +kernel
theorem dX12_broken_38 : decode cX12_broken 38 = .ok (.aload_n 0, 1) := by decide +kernel
theorem dX12_broken_39 : decode cX12_broken 39 = .ok (.getfield 13, 3) := by decide +kernel
theorem dX12_broken_42 : decode cX12_broken 42 = .ok (.iconst 1, 1) := by decide +kernel
theorem dX12_broken_43 : decode cX12_broken 43 = .ok (.isub, 1) := by decide +kernel
theorem dX12_broken_44 : decode cX12_broken 44 = .ok (.imul, 1) := by decide +kernel
theorem dX12_broken_45 : decode cX12_broken 45 = .ok (.istore_n 3, 1) := by decide +kernel
theorem dX12_broken_46 : decode cX12_broken 46 = .ok (.aload_n 0, 1) := by decide +kernel
theorem dX12_broken_47 : decode cX12_broken 47 = .ok (.iconst (-1), 1) := by decide +kernel
theorem dX12_broken_48 : decode cX12_broken 48 = .ok (.iconst (-1), 1) := by decide +kernel
theorem dX12_broken_49 : decode cX12_broken 49 = .ok (.iload_n 1, 1) := by decide +kernel
theorem dX12_broken_50 : decode cX12_broken 50 = .ok (.invokevirtual 356, 3) := by decide +kernel
theorem dX12_broken_53 : decode cX12_broken 53 = .ok (.ifCond .eq 5, 3) := by decide +kernel
theorem dX12_broken_56 : decode cX12_broken 56 = .ok (.iconst 0, 1) := by decide +kernel
theorem dX12_broken_57 : decode cX12_broken 57 = .ok (.ireturn, 1) := by decide +kernel
theorem dX12_broken_58 : decode cX12_broken 58 = .ok (.iconst 0, 1) := by decide +kernel
theorem dX12_broken_59 : decode cX12_broken 59 = .ok (.istore 4, 2) := by decide +kernel
theorem dX12_broken_61 : decode cX12_broken 61 = .ok (.iload 4, 2) := by decide +kernel
theorem dX12_broken_63 : decode cX12_broken 63 = .ok (.iload_n 3, 1) := by decide +kernel
theorem dX12_broken_64 : decode cX12_broken 64 = .ok (.if_icmp .ge 22, 3) := by decide +kernel
theorem dX12_broken_67 : decode cX12_broken 67 = .ok (.aload_n 0, 1) := by decide +kernel
theorem dX12_broken_68 : decode cX12_broken 68 = .ok (.iload 4, 2) := by decide +kernel
theorem dX12_broken_70 : decode cX12_broken 70 = .ok (.iconst (-1), 1) := by decide +kernel
theorem dX12_broken_71 : decode cX12_broken 71 = .ok (.iload_n 1, 1) := by decide +kernel
theorem dX12_broken_72 : decode cX12_broken 72 = .ok (.invokevirtual 356, 3) := by decide +kernel
theorem dX12_broken_75 : decode cX12_broken 75 = .ok (.ifCond .eq 5, 3) := by decide +kernel
theorem dX12_broken_78 : decode cX12_broken 78 = .ok (.iconst 1, 1) := by decide +kernel
theorem dX12_broken_79 : decode cX12_broken 79 = .ok (.ireturn, 1) := by decide +kernel
theorem dX12_broken_80 : decode cX12_broken 80 = .ok (.iinc 4 1, 3) := by decide +kernel
theorem dX12_broken_83 : decode cX12_broken 83 = .ok (.goto (-22), 3) := by decide +kernel
theorem dX12_broken_86 : decode cX12_broken 86 = .ok (.iconst 0, 1) := by decide +kernel
theorem dX12_broken_87 : decode cX12_broken 87 = .ok (.istore 4, 2) := by decide +kernel
theorem dX12_broken_89 : decode cX12_broken 89 = .ok (.iload 4, 2) := by decide +kernel
theorem dX12_broken_91 : decode cX12_broken 91 = .ok (.iload_n 3, 1) := by decide +kernel
theorem dX12_broken_92 : decode cX12_broken 92 = .ok (.if_icmp .ge 41, 3) := by decide +kernel
theorem dX12_broken_95 : decode cX12_broken 95 = .ok (.iload 4, 2) := by decide +kernel
theorem dX12_broken_97 : decode cX12_broken 97 = .ok (.iconst 1, 1) := by decide +kernel
theorem dX12_broken_98 : decode cX12_broken 98 = .ok (.iadd, 1) := by decide +kernel
theorem dX12_broken_99 : decode cX12_broken 99 = .ok (.istore 5, 2) := by decide +kernel
theorem dX12_broken_101 : decode cX12_broken 101 = .ok (.iload 5, 2) := by decide +kernel
theorem dX12_broken_103 : decode cX12_broken 103 = .ok (.iload_n 3, 1) := by decide +kernel
theorem dX12_broken_104 : decode cX12_broken 104 = .ok (.if_icmp .ge 23, 3) := by decide +kernel
theorem dX12_broken_107 : decode cX12_broken 107 = .ok (.aload_n 0, 1) := by decide +kernel
theorem dX12_broken_108 : decode cX12_broken 108 = .ok (.iload 4, 2) := by decide +kernel
theorem dX12_broken_110 : decode cX12_broken 110 = .ok (.iload 5, 2) := by decide +kernel
theorem dX12_broken_112 : decode cX12_broken 112 = .ok (.iload_n 1, 1) := by decide +kernel
theorem dX12_broken_113 : decode cX12_broken 113 = .ok (.invokevirtual 356, 3) := by decide +kernel
theorem dX12_broken_116 : decode cX12_broken 116 = .ok (.ifCond .eq 5, 3) := by decide +kernel
theorem dX12_broken_119 : decode cX12_broken 119 = .ok (.iconst 2, 1) := by decide +kernel
theorem dX12_broken_120 : decode cX12_broken 120 = .ok (.ireturn, 1) := by decide +kernel
theorem dX12_broken_121 : decode cX12_broken 121 = .ok (.iinc 5 1, 3) := by decide +kernel
theorem dX12_broken_124 : decode cX12_broken 124 = .ok (.goto (-23), 3) := by decide +kernel
theorem dX12_broken_127 : decode cX12_broken 127 = .ok (.iinc 4 1, 3) := by decide +kernel
theorem dX12_broken_130 : decode cX12_broken 130 = .ok (.goto (-41), 3) := by decide +kernel
theorem dX12_broken_133 : decode cX12_broken 133 = .ok (.iconst (-1), 1) := by decide +kernel
theorem dX12_broken_134 : decode cX12_broken 134 = .ok (.ireturn, 1) := by decide +kernel
theorem dX12_fogAt_0 : decode cX12_fogAt 0 = .ok (.aload_n 0, 1) := by decide +kernel
theorem dX12_fogAt_1 : decode cX12_fogAt 1 = .ok (.iconst 0, 1) := by decide +kernel
theorem dX12_fogAt_2 : decode cX12_fogAt 2 = .ok (.putfield 138, 3) := by decide +kernel
theorem dX12_fogAt_5 : decode cX12_fogAt 5 = .ok (.iload_n 1, 1) := by decide +kernel
theorem dX12_fogAt_6 : decode cX12_fogAt 6 = .ok (.ifCond .lt 11, 3) := by decide +kernel
theorem dX12_fogAt_9 : decode cX12_fogAt 9 = .ok (.iload_n 1, 1) := by decide +kernel
theorem dX12_fogAt_10 : decode cX12_fogAt 10 = .ok (.aload_n 0, 1) := by decide +kernel
theorem dX12_fogAt_11 : decode cX12_fogAt 11 = .ok (.getfield 353, 3) := by decide +kernel
theorem dX12_fogAt_14 : decode cX12_fogAt 14 = .ok (.if_icmp .lt 5, 3) := by decide +kernel
theorem dX12_fogAt_17 : decode cX12_fogAt 17 = .ok (.iconst (-1), 1) := by decide +kernel
theorem dX12_fogAt_18 : decode cX12_fogAt 18 = .ok (.ireturn, 1) := by decide +kernel
theorem dX12_fogAt_19 : decode cX12_fogAt 19 = .ok (.iload_n 2, 1) := by decide +kernel
theorem dX12_fogAt_20 : decode cX12_fogAt 20 = .ok (.ifCond .ne 12, 3) := by decide +kernel
theorem dX12_fogAt_23 : decode cX12_fogAt 23 = .ok (.aload_n 0, 1) := by decide +kernel
theorem dX12_fogAt_24 : decode cX12_fogAt 24 = .ok (.getfield 90, 3) := by decide +kernel
theorem dX12_fogAt_27 : decode cX12_fogAt 27 = .ok (.iload_n 1, 1) := by decide +kernel
theorem dX12_fogAt_28 : decode cX12_fogAt 28 = .ok (.iaload, 1) := by decide +kernel
theorem dX12_fogAt_29 : decode cX12_fogAt 29 = .ok (.goto 18, 3) := by decide +kernel
theorem dX12_fogAt_32 : decode cX12_fogAt 32 = .ok (.iload_n 2, 1) := by decide +kernel
theorem dX12_fogAt_33 : decode cX12_fogAt 33 = .ok (.iconst 1, 1) := by decide +kernel
theorem dX12_fogAt_34 : decode cX12_fogAt 34 = .ok (.if_icmp .ne 12, 3) := by decide +kernel
theorem dX12_fogAt_37 : decode cX12_fogAt 37 = .ok (.aload_n 0, 1) := by decide +kernel
theorem dX12_fogAt_38 : decode cX12_fogAt 38 = .ok (.getfield 93, 3) := by decide +kernel
theorem dX12_fogAt_41 : decode cX12_fogAt 41 = .ok (.iload_n 1, 1) := by decide +kernel
theorem dX12_fogAt_42 : decode cX12_fogAt 42 = .ok (.iaload, 1) := by decide +kernel
theorem dX12_fogAt_43 : decode cX12_fogAt 43 = .ok (.goto 4, 3) := by decide +kernel
theorem dX12_fogAt_46 : decode cX12_fogAt 46 = .ok (.iconst (-1), 1) := by decide +kernel
theorem dX12_fogAt_47 : decode cX12_fogAt 47 = .ok (.ireturn, 1) := by decide +kernel
set_option maxRecDepth 20000 in
theorem ggX12_isTold_X12_isIn : GoodIn wsX12_isTold wsX12_isIn := goodIn_r _ [5] rfl (by decide +kernel)
set_option maxRecDepth 20000 in
theorem gX12_isTold_X12_isIn : GoodIn wsX12_isTold (va_wsS RX12 148 yX12_isIn wsX12_isIn) := goodIn_app (goodIn_r _ [2, 3, 4] rfl (by decide +kernel)) ggX12_isTold_X12_isIn
set_option maxRecDepth 20000 in
theorem ggX12_isTold_X12_isLetter : GoodIn wsX12_isTold wsX12_isLetter := goodIn_r _ [8] rfl (by decide +kernel)
set_option maxRecDepth 20000 in
theorem gX12_isTold_X12_isLetter : GoodIn wsX12_isTold (va_wsS RX12 173 yX12_isLetter wsX12_isLetter) := goodIn_app (goodIn_r _ [6, 7, 4] rfl (by decide +kernel)) ggX12_isTold_X12_isLetter
theorem dX12_isTold_0 : decode cX12_isTold 0 = .ok (.iload_n 1, 1) := by decide +kernel
theorem dX12_isTold_1 : decode cX12_isTold 1 = .ok (.iconst 1, 1) := by decide +kernel
theorem dX12_isTold_2 : decode cX12_isTold 2 = .ok (.iload_n 2, 1) := by decide +kernel
theorem dX12_isTold_3 : decode cX12_isTold 3 = .ok (.invokestatic 148, 3) := by decide +kernel
theorem dX12_isTold_6 : decode cX12_isTold 6 = .ok (.ifCond .eq 27, 3) := by decide +kernel
theorem dX12_isTold_9 : decode cX12_isTold 9 = .ok (.aload_n 0, 1) := by decide +kernel
theorem dX12_isTold_10 : decode cX12_isTold 10 = .ok (.getfield 7, 3) := by decide +kernel
theorem dX12_isTold_13 : decode cX12_isTold 13 = .ok (.iconst 0, 1) := by decide +kernel
theorem dX12_isTold_14 : decode cX12_isTold 14 = .ok (.iaload, 1) := by decide +kernel
theorem dX12_isTold_15 : decode cX12_isTold 15 = .ok (.bipush 32, 2) := by decide +kernel
theorem dX12_isTold_17 : decode cX12_isTold 17 = .ok (.if_icmp .eq 16, 3) := by decide +kernel
theorem dX12_isTold_20 : decode cX12_isTold 20 = .ok (.aload_n 0, 1) := by decide +kernel
theorem dX12_isTold_21 : decode cX12_isTold 21 = .ok (.getfield 7, 3) := by decide +kernel
theorem dX12_isTold_24 : decode cX12_isTold 24 = .ok (.iload_n 1, 1) := by decide +kernel
theorem dX12_isTold_25 : decode cX12_isTold 25 = .ok (.iconst 1, 1) := by decide +kernel
theorem dX12_isTold_26 : decode cX12_isTold 26 = .ok (.isub, 1) := by decide +kernel
theorem dX12_isTold_27 : decode cX12_isTold 27 = .ok (.iaload, 1) := by decide +kernel
theorem dX12_isTold_28 : decode cX12_isTold 28 = .ok (.bipush 32, 2) := by decide +kernel
theorem dX12_isTold_30 : decode cX12_isTold 30 = .ok (.if_icmp .ne 5, 3) := by decide +kernel
theorem dX12_isTold_33 : decode cX12_isTold 33 = .ok (.iconst 0, 1) := by decide +kernel
theorem dX12_isTold_34 : decode cX12_isTold 34 = .ok (.ireturn, 1) := by decide +kernel
theorem dX12_isTold_35 : decode cX12_isTold 35 = .ok (.iconst 0, 1) := by decide +kernel
theorem dX12_isTold_36 : decode cX12_isTold 36 = .ok (.istore_n 3, 1) := by decide +kernel
theorem dX12_isTold_37 : decode cX12_isTold 37 = .ok (.iload_n 3, 1) := by decide +kernel
theorem dX12_isTold_38 : decode cX12_isTold 38 = .ok (.iload_n 1, 1) := by decide +kernel
theorem dX12_isTold_39 : decode cX12_isTold 39 = .ok (.if_icmp .ge 47, 3) := by decide +kernel
theorem dX12_isTold_42 : decode cX12_isTold 42 = .ok (.aload_n 0, 1) := by decide +kernel
theorem dX12_isTold_43 : decode cX12_isTold 43 = .ok (.getfield 7, 3) := by decide +kernel
theorem dX12_isTold_46 : decode cX12_isTold 46 = .ok (.iload_n 3, 1) := by decide +kernel
theorem dX12_isTold_47 : decode cX12_isTold 47 = .ok (.iaload, 1) := by decide +kernel
theorem dX12_isTold_48 : decode cX12_isTold 48 = .ok (.invokestatic 173, 3) := by decide +kernel
theorem dX12_isTold_51 : decode cX12_isTold 51 = .ok (.ifCond .ne 29, 3) := by decide +kernel
theorem dX12_isTold_54 : decode cX12_isTold 54 = .ok (.aload_n 0, 1) := by decide +kernel
theorem dX12_isTold_55 : decode cX12_isTold 55 = .ok (.getfield 7, 3) := by decide +kernel
theorem dX12_isTold_58 : decode cX12_isTold 58 = .ok (.iload_n 3, 1) := by decide +kernel
theorem dX12_isTold_59 : decode cX12_isTold 59 = .ok (.iaload, 1) := by decide +kernel
theorem dX12_isTold_60 : decode cX12_isTold 60 = .ok (.bipush 32, 2) := by decide +kernel
theorem dX12_isTold_62 : decode cX12_isTold 62 = .ok (.if_icmp .ne 16, 3) := by decide +kernel
theorem dX12_isTold_65 : decode cX12_isTold 65 = .ok (.aload_n 0, 1) := by decide +kernel
theorem dX12_isTold_66 : decode cX12_isTold 66 = .ok (.getfield 7, 3) := by decide +kernel
theorem dX12_isTold_69 : decode cX12_isTold 69 = .ok (.iload_n 3, 1) := by decide +kernel
theorem dX12_isTold_70 : decode cX12_isTold 70 = .ok (.iconst 1, 1) := by decide +kernel
theorem dX12_isTold_71 : decode cX12_isTold 71 = .ok (.isub, 1) := by decide +kernel
theorem dX12_isTold_72 : decode cX12_isTold 72 = .ok (.iaload, 1) := by decide +kernel
theorem dX12_isTold_73 : decode cX12_isTold 73 = .ok (.bipush 32, 2) := by decide +kernel
theorem dX12_isTold_75 : decode cX12_isTold 75 = .ok (.if_icmp .ne 5, 3) := by decide +kernel
theorem dX12_isTold_78 : decode cX12_isTold 78 = .ok (.iconst 0, 1) := by decide +kernel
theorem dX12_isTold_79 : decode cX12_isTold 79 = .ok (.ireturn, 1) := by decide +kernel
theorem dX12_isTold_80 : decode cX12_isTold 80 = .ok (.iinc 3 1, 3) := by decide +kernel
theorem dX12_isTold_83 : decode cX12_isTold 83 = .ok (.goto (-46), 3) := by decide +kernel
theorem dX12_isTold_86 : decode cX12_isTold 86 = .ok (.iconst 1, 1) := by decide +kernel
theorem dX12_isTold_87 : decode cX12_isTold 87 = .ok (.ireturn, 1) := by decide +kernel
set_option maxRecDepth 20000 in
theorem ggX12_entry_X12_take : GoodIn wsX12_entry wsX12_take := goodIn_r _ [10, 11, 22, 23, 24, 25, 26, 27, 28, 29, 30, 31, 32, 33, 34, 35, 36, 37, 38, 39, 40, 41, 42, 43, 44, 45, 46, 47, 48, 49, 50, 51, 52, 53, 54, 55, 56, 57, 58, 59, 60, 61, 62, 63, 64, 65, 66, 67, 68, 69, 70, 71, 72, 73, 74, 75, 76, 77, 78, 79, 80, 81, 82, 83, 84, 85, 86, 87, 88, 89, 90, 91, 92, 93, 94, 95, 96, 97, 98, 99, 100, 101, 102, 103, 104] rfl (by decide +kernel)
set_option maxRecDepth 20000 in
theorem gX12_entry_X12_take : GoodIn wsX12_entry (wsV RX12 257 RX12 yX12_take wsX12_take) := goodIn_app (goodIn_r _ [6, 7, 8, 9] rfl (by decide +kernel)) ggX12_entry_X12_take
set_option maxRecDepth 20000 in
theorem ggX12_entry_X12_isTold : GoodIn wsX12_entry wsX12_isTold := goodIn_r _ [15, 5, 16, 17, 9, 18, 19, 20, 21, 22, 23, 24, 25, 26, 27, 28, 29, 30, 31, 32, 33, 34, 35, 36, 37, 38, 39, 40, 41, 42, 43, 44, 45, 46, 47, 48, 49, 50, 51, 52, 53, 54, 55, 56, 57, 58, 59, 60, 61, 62, 63, 64, 65, 66, 67, 68, 69, 70, 71, 72, 73, 74, 75, 76, 77, 78, 79, 80, 81, 82, 83, 84, 85, 86, 87, 88, 89, 90, 91, 92, 93, 94, 95, 96, 97, 98, 99, 100, 101, 102, 103, 104] rfl (by decide +kernel)
set_option maxRecDepth 20000 in
theorem gX12_entry_X12_isTold : GoodIn wsX12_entry (wsV RX12 362 RX12 yX12_isTold wsX12_isTold) := goodIn_app (goodIn_r _ [12, 13, 14, 9] rfl (by decide +kernel)) ggX12_entry_X12_isTold
theorem dX12_entry_0 : decode cX12_entry 0 = .ok (.aload_n 0, 1) := by decide +kernel
theorem dX12_entry_1 : decode cX12_entry 1 = .ok (.iconst 0, 1) := by decide +kernel
theorem dX12_entry_2 : decode cX12_entry 2 = .ok (.putfield 138, 3) := by decide +kernel
theorem dX12_entry_5 : decode cX12_entry 5 = .ok (.aload_n 0, 1) := by decide +kernel
theorem dX12_entry_6 : decode cX12_entry 6 = .ok (.invokevirtual 257, 3) := by decide +kernel
theorem dX12_entry_9 : decode cX12_entry 9 = .ok (.istore_n 1, 1) := by decide +kernel
theorem dX12_entry_10 : decode cX12_entry 10 = .ok (.aload_n 0, 1) := by decide +kernel
theorem dX12_entry_11 : decode cX12_entry 11 = .ok (.getfield 359, 3) := by decide +kernel
theorem dX12_entry_14 : decode cX12_entry 14 = .ok (.bipush 12, 2) := by decide +kernel
theorem dX12_entry_16 : decode cX12_entry 16 = .ok (.if_icmp .eq 13, 3) := by decide +kernel
theorem dX12_entry_19 : decode cX12_entry 19 = .ok (.aload_n 0, 1) := by decide +kernel
theorem dX12_entry_20 : decode cX12_entry 20 = .ok (.iload_n 1, 1) := by decide +kernel
theorem dX12_entry_21 : decode cX12_entry 21 = .ok (.bipush 12, 2) := by decide +kernel
theorem dX12_entry_23 : decode cX12_entry 23 = .ok (.invokevirtual 362, 3) := by decide +kernel
theorem dX12_entry_26 : decode cX12_entry 26 = .ok (.ifCond .ne 5, 3) := by decide +kernel
theorem dX12_entry_29 : decode cX12_entry 29 = .ok (.iconst (-1), 1) := by decide +kernel
theorem dX12_entry_30 : decode cX12_entry 30 = .ok (.ireturn, 1) := by decide +kernel
theorem dX12_entry_31 : decode cX12_entry 31 = .ok (.iconst 0, 1) := by decide +kernel
theorem dX12_entry_32 : decode cX12_entry 32 = .ok (.istore_n 2, 1) := by decide +kernel
theorem dX12_entry_33 : decode cX12_entry 33 = .ok (.iload_n 2, 1) := by decide +kernel
theorem dX12_entry_34 : decode cX12_entry 34 = .ok (.aload_n 0, 1) := by decide +kernel
theorem dX12_entry_35 : decode cX12_entry 35 = .ok (.getfield 359, 3) := by decide +kernel
theorem dX12_entry_38 : decode cX12_entry 38 = .ok (.if_icmp .ge 78, 3) := by decide +kernel
theorem dX12_entry_41 : decode cX12_entry 41 = .ok (.aload_n 0, 1) := by decide +kernel
theorem dX12_entry_42 : decode cX12_entry 42 = .ok (.getfield 99, 3) := by decide +kernel
theorem dX12_entry_45 : decode cX12_entry 45 = .ok (.iload_n 2, 1) := by decide +kernel
theorem dX12_entry_46 : decode cX12_entry 46 = .ok (.iaload, 1) := by decide +kernel
theorem dX12_entry_47 : decode cX12_entry 47 = .ok (.iload_n 1, 1) := by decide +kernel
theorem dX12_entry_48 : decode cX12_entry 48 = .ok (.if_icmp .ne 7, 3) := by decide +kernel
theorem dX12_entry_51 : decode cX12_entry 51 = .ok (.iconst 1, 1) := by decide +kernel
theorem dX12_entry_52 : decode cX12_entry 52 = .ok (.goto 4, 3) := by decide +kernel
theorem dX12_entry_55 : decode cX12_entry 55 = .ok (.iconst 0, 1) := by decide +kernel
theorem dX12_entry_56 : decode cX12_entry 56 = .ok (.istore_n 3, 1) := by decide +kernel
theorem dX12_entry_57 : decode cX12_entry 57 = .ok (.iconst 0, 1) := by decide +kernel
theorem dX12_entry_58 : decode cX12_entry 58 = .ok (.istore 4, 2) := by decide +kernel
theorem dX12_entry_60 : decode cX12_entry 60 = .ok (.iload 4, 2) := by decide +kernel
theorem dX12_entry_62 : decode cX12_entry 62 = .ok (.iload_n 1, 1) := by decide +kernel
theorem dX12_entry_63 : decode cX12_entry 63 = .ok (.if_icmp .ge 41, 3) := by decide +kernel
theorem dX12_entry_66 : decode cX12_entry 66 = .ok (.iload_n 3, 1) := by decide +kernel
theorem dX12_entry_67 : decode cX12_entry 67 = .ok (.ifCond .eq 37, 3) := by decide +kernel
theorem dX12_entry_70 : decode cX12_entry 70 = .ok (.aload_n 0, 1) := by decide +kernel
theorem dX12_entry_71 : decode cX12_entry 71 = .ok (.getfield 96, 3) := by decide +kernel
theorem dX12_entry_74 : decode cX12_entry 74 = .ok (.bipush 12, 2) := by decide +kernel
theorem dX12_entry_76 : decode cX12_entry 76 = .ok (.iload_n 2, 1) := by decide +kernel
theorem dX12_entry_77 : decode cX12_entry 77 = .ok (.imul, 1) := by decide +kernel
theorem dX12_entry_78 : decode cX12_entry 78 = .ok (.iload 4, 2) := by decide +kernel
theorem dX12_entry_80 : decode cX12_entry 80 = .ok (.iadd, 1) := by decide +kernel
theorem dX12_entry_81 : decode cX12_entry 81 = .ok (.iaload, 1) := by decide +kernel
theorem dX12_entry_82 : decode cX12_entry 82 = .ok (.aload_n 0, 1) := by decide +kernel
theorem dX12_entry_83 : decode cX12_entry 83 = .ok (.getfield 7, 3) := by decide +kernel
theorem dX12_entry_86 : decode cX12_entry 86 = .ok (.iload 4, 2) := by decide +kernel
theorem dX12_entry_88 : decode cX12_entry 88 = .ok (.iaload, 1) := by decide +kernel
theorem dX12_entry_89 : decode cX12_entry 89 = .ok (.if_icmp .ne 7, 3) := by decide +kernel
theorem dX12_entry_92 : decode cX12_entry 92 = .ok (.iconst 1, 1) := by decide +kernel
theorem dX12_entry_93 : decode cX12_entry 93 = .ok (.goto 4, 3) := by decide +kernel
theorem dX12_entry_96 : decode cX12_entry 96 = .ok (.iconst 0, 1) := by decide +kernel
theorem dX12_entry_97 : decode cX12_entry 97 = .ok (.istore_n 3, 1) := by decide +kernel
theorem dX12_entry_98 : decode cX12_entry 98 = .ok (.iinc 4 1, 3) := by decide +kernel
theorem dX12_entry_101 : decode cX12_entry 101 = .ok (.goto (-41), 3) := by decide +kernel
theorem dX12_entry_104 : decode cX12_entry 104 = .ok (.iload_n 3, 1) := by decide +kernel
theorem dX12_entry_105 : decode cX12_entry 105 = .ok (.ifCond .eq 5, 3) := by decide +kernel
theorem dX12_entry_108 : decode cX12_entry 108 = .ok (.iconst (-1), 1) := by decide +kernel
theorem dX12_entry_109 : decode cX12_entry 109 = .ok (.ireturn, 1) := by decide +kernel
theorem dX12_entry_110 : decode cX12_entry 110 = .ok (.iinc 2 1, 3) := by decide +kernel
theorem dX12_entry_113 : decode cX12_entry 113 = .ok (.goto (-80), 3) := by decide +kernel
theorem dX12_entry_116 : decode cX12_entry 116 = .ok (.iconst 0, 1) := by decide +kernel
theorem dX12_entry_117 : decode cX12_entry 117 = .ok (.istore_n 2, 1) := by decide +kernel
theorem dX12_entry_118 : decode cX12_entry 118 = .ok (.iload_n 2, 1) := by decide +kernel
theorem dX12_entry_119 : decode cX12_entry 119 = .ok (.iload_n 1, 1) := by decide +kernel
theorem dX12_entry_120 : decode cX12_entry 120 = .ok (.if_icmp .ge 29, 3) := by decide +kernel
theorem dX12_entry_123 : decode cX12_entry 123 = .ok (.aload_n 0, 1) := by decide +kernel
theorem dX12_entry_124 : decode cX12_entry 124 = .ok (.getfield 96, 3) := by decide +kernel
theorem dX12_entry_127 : decode cX12_entry 127 = .ok (.bipush 12, 2) := by decide +kernel
theorem dX12_entry_129 : decode cX12_entry 129 = .ok (.aload_n 0, 1) := by decide +kernel
theorem dX12_entry_130 : decode cX12_entry 130 = .ok (.getfield 359, 3) := by decide +kernel
theorem dX12_entry_133 : decode cX12_entry 133 = .ok (.imul, 1) := by decide +kernel
theorem dX12_entry_134 : decode cX12_entry 134 = .ok (.iload_n 2, 1) := by decide +kernel
theorem dX12_entry_135 : decode cX12_entry 135 = .ok (.iadd, 1) := by decide +kernel
theorem dX12_entry_136 : decode cX12_entry 136 = .ok (.aload_n 0, 1) := by decide +kernel
theorem dX12_entry_137 : decode cX12_entry 137 = .ok (.getfield 7, 3) := by decide +kernel
theorem dX12_entry_140 : decode cX12_entry 140 = .ok (.iload_n 2, 1) := by decide +kernel
theorem dX12_entry_141 : decode cX12_entry 141 = .ok (.iaload, 1) := by decide +kernel
theorem dX12_entry_142 : decode cX12_entry 142 = .ok (.iastore, 1) := by decide +kernel
theorem dX12_entry_143 : decode cX12_entry 143 = .ok (.iinc 2 1, 3) := by decide +kernel
theorem dX12_entry_146 : decode cX12_entry 146 = .ok (.goto (-28), 3) := by decide +kernel
theorem dX12_entry_149 : decode cX12_entry 149 = .ok (.aload_n 0, 1) := by decide +kernel
theorem dX12_entry_150 : decode cX12_entry 150 = .ok (.getfield 99, 3) := by decide +kernel
theorem dX12_entry_153 : decode cX12_entry 153 = .ok (.aload_n 0, 1) := by decide +kernel
theorem dX12_entry_154 : decode cX12_entry 154 = .ok (.getfield 359, 3) := by decide +kernel
theorem dX12_entry_157 : decode cX12_entry 157 = .ok (.iload_n 1, 1) := by decide +kernel
theorem dX12_entry_158 : decode cX12_entry 158 = .ok (.iastore, 1) := by decide +kernel
theorem dX12_entry_159 : decode cX12_entry 159 = .ok (.aload_n 0, 1) := by decide +kernel
theorem dX12_entry_160 : decode cX12_entry 160 = .ok (.dup, 1) := by decide +kernel
theorem dX12_entry_161 : decode cX12_entry 161 = .ok (.getfield 359, 3) := by decide +kernel
theorem dX12_entry_164 : decode cX12_entry 164 = .ok (.iconst 1, 1) := by decide +kernel
theorem dX12_entry_165 : decode cX12_entry 165 = .ok (.iadd, 1) := by decide +kernel
theorem dX12_entry_166 : decode cX12_entry 166 = .ok (.putfield 359, 3) := by decide +kernel
theorem dX12_entry_169 : decode cX12_entry 169 = .ok (.aload_n 0, 1) := by decide +kernel
theorem dX12_entry_170 : decode cX12_entry 170 = .ok (.getfield 359, 3) := by decide +kernel
theorem dX12_entry_173 : decode cX12_entry 173 = .ok (.iconst 1, 1) := by decide +kernel
theorem dX12_entry_174 : decode cX12_entry 174 = .ok (.isub, 1) := by decide +kernel
theorem dX12_entry_175 : decode cX12_entry 175 = .ok (.ireturn, 1) := by decide +kernel
theorem dX12_begins_0 : decode cX12_begins 0 = .ok (.aload_n 0, 1) := by decide +kernel
theorem dX12_begins_1 : decode cX12_begins 1 = .ok (.getfield 99, 3) := by decide +kernel
theorem dX12_begins_4 : decode cX12_begins 4 = .ok (.iload_n 1, 1) := by decide +kernel
theorem dX12_begins_5 : decode cX12_begins 5 = .ok (.iaload, 1) := by decide +kernel
theorem dX12_begins_6 : decode cX12_begins 6 = .ok (.istore_n 3, 1) := by decide +kernel
theorem dX12_begins_7 : decode cX12_begins 7 = .ok (.iload_n 2, 1) := by decide +kernel
theorem dX12_begins_8 : decode cX12_begins 8 = .ok (.iload_n 3, 1) := by decide +kernel
theorem dX12_begins_9 : decode cX12_begins 9 = .ok (.iadd, 1) := by decide +kernel
theorem dX12_begins_10 : decode cX12_begins 10 = .ok (.aload_n 0, 1) := by decide +kernel
theorem dX12_begins_11 : decode cX12_begins 11 = .ok (.getfield 365, 3) := by decide +kernel
theorem dX12_begins_14 : decode cX12_begins 14 = .ok (.if_icmp .gt 43, 3) := by decide +kernel
theorem dX12_begins_17 : decode cX12_begins 17 = .ok (.iload_n 2, 1) := by decide +kernel
theorem dX12_begins_18 : decode cX12_begins 18 = .ok (.ifCond .le 16, 3) := by decide +kernel
theorem dX12_begins_21 : decode cX12_begins 21 = .ok (.aload_n 0, 1) := by decide +kernel
theorem dX12_begins_22 : decode cX12_begins 22 = .ok (.getfield 108, 3) := by decide +kernel
theorem dX12_begins_25 : decode cX12_begins 25 = .ok (.iload_n 2, 1) := by decide +kernel
theorem dX12_begins_26 : decode cX12_begins 26 = .ok (.iconst 1, 1) := by decide +kernel
theorem dX12_begins_27 : decode cX12_begins 27 = .ok (.isub, 1) := by decide +kernel
theorem dX12_begins_28 : decode cX12_begins 28 = .ok (.iaload, 1) := by decide +kernel
theorem dX12_begins_29 : decode cX12_begins 29 = .ok (.bipush 32, 2) := by decide +kernel
theorem dX12_begins_31 : decode cX12_begins 31 = .ok (.if_icmp .ne 26, 3) := by decide +kernel
theorem dX12_begins_34 : decode cX12_begins 34 = .ok (.iload_n 2, 1) := by decide +kernel
theorem dX12_begins_35 : decode cX12_begins 35 = .ok (.iload_n 3, 1) := by decide +kernel
theorem dX12_begins_36 : decode cX12_begins 36 = .ok (.iadd, 1) := by decide +kernel
theorem dX12_begins_37 : decode cX12_begins 37 = .ok (.aload_n 0, 1) := by decide +kernel
theorem dX12_begins_38 : decode cX12_begins 38 = .ok (.getfield 365, 3) := by decide +kernel
theorem dX12_begins_41 : decode cX12_begins 41 = .ok (.if_icmp .ge 18, 3) := by decide +kernel
theorem dX12_begins_44 : decode cX12_begins 44 = .ok (.aload_n 0, 1) := by decide +kernel
theorem dX12_begins_45 : decode cX12_begins 45 = .ok (.getfield 108, 3) := by decide +kernel
theorem dX12_begins_48 : decode cX12_begins 48 = .ok (.iload_n 2, 1) := by decide +kernel
theorem dX12_begins_49 : decode cX12_begins 49 = .ok (.iload_n 3, 1) := by decide +kernel
theorem dX12_begins_50 : decode cX12_begins 50 = .ok (.iadd, 1) := by decide +kernel
theorem dX12_begins_51 : decode cX12_begins 51 = .ok (.iaload, 1) := by decide +kernel
theorem dX12_begins_52 : decode cX12_begins 52 = .ok (.bipush 32, 2) := by decide +kernel
theorem dX12_begins_54 : decode cX12_begins 54 = .ok (.if_icmp .eq 5, 3) := by decide +kernel
theorem dX12_begins_57 : decode cX12_begins 57 = .ok (.iconst 0, 1) := by decide +kernel
theorem dX12_begins_58 : decode cX12_begins 58 = .ok (.ireturn, 1) := by decide +kernel
theorem dX12_begins_59 : decode cX12_begins 59 = .ok (.iconst 0, 1) := by decide +kernel
theorem dX12_begins_60 : decode cX12_begins 60 = .ok (.istore 4, 2) := by decide +kernel
theorem dX12_begins_62 : decode cX12_begins 62 = .ok (.iload 4, 2) := by decide +kernel
theorem dX12_begins_64 : decode cX12_begins 64 = .ok (.iload_n 3, 1) := by decide +kernel
theorem dX12_begins_65 : decode cX12_begins 65 = .ok (.if_icmp .ge 35, 3) := by decide +kernel
theorem dX12_begins_68 : decode cX12_begins 68 = .ok (.aload_n 0, 1) := by decide +kernel
theorem dX12_begins_69 : decode cX12_begins 69 = .ok (.getfield 108, 3) := by decide +kernel
theorem dX12_begins_72 : decode cX12_begins 72 = .ok (.iload_n 2, 1) := by decide +kernel
theorem dX12_begins_73 : decode cX12_begins 73 = .ok (.iload 4, 2) := by decide +kernel
theorem dX12_begins_75 : decode cX12_begins 75 = .ok (.iadd, 1) := by decide +kernel
theorem dX12_begins_76 : decode cX12_begins 76 = .ok (.iaload, 1) := by decide +kernel
theorem dX12_begins_77 : decode cX12_begins 77 = .ok (.aload_n 0, 1) := by decide +kernel
theorem dX12_begins_78 : decode cX12_begins 78 = .ok (.getfield 96, 3) := by decide +kernel
theorem dX12_begins_81 : decode cX12_begins 81 = .ok (.bipush 12, 2) := by decide +kernel
theorem dX12_begins_83 : decode cX12_begins 83 = .ok (.iload_n 1, 1) := by decide +kernel
theorem dX12_begins_84 : decode cX12_begins 84 = .ok (.imul, 1) := by decide +kernel
theorem dX12_begins_85 : decode cX12_begins 85 = .ok (.iload 4, 2) := by decide +kernel
theorem dX12_begins_87 : decode cX12_begins 87 = .ok (.iadd, 1) := by decide +kernel
theorem dX12_begins_88 : decode cX12_begins 88 = .ok (.iaload, 1) := by decide +kernel
theorem dX12_begins_89 : decode cX12_begins 89 = .ok (.if_icmp .eq 5, 3) := by decide +kernel
theorem dX12_begins_92 : decode cX12_begins 92 = .ok (.iconst 0, 1) := by decide +kernel
theorem dX12_begins_93 : decode cX12_begins 93 = .ok (.ireturn, 1) := by decide +kernel
theorem dX12_begins_94 : decode cX12_begins 94 = .ok (.iinc 4 1, 3) := by decide +kernel
theorem dX12_begins_97 : decode cX12_begins 97 = .ok (.goto (-35), 3) := by decide +kernel
theorem dX12_begins_100 : decode cX12_begins 100 = .ok (.iconst 1, 1) := by decide +kernel
theorem dX12_begins_101 : decode cX12_begins 101 = .ok (.ireturn, 1) := by decide +kernel
set_option maxRecDepth 20000 in
theorem ggX12_fewestBy_X12_begins : GoodIn wsX12_fewestBy wsX12_begins := goodIn_r _ [9, 4, 2, 10, 11, 12, 13, 14, 15, 16, 17, 18, 19, 20, 21, 22, 23, 24, 25, 26, 27, 28, 29, 30, 31, 32, 33, 34, 35, 36, 37, 38, 39, 40, 41, 42, 43, 44, 45, 46, 47, 48, 49, 50, 51, 52, 53, 54, 55, 56, 57, 58, 59, 60, 61, 62, 63, 64, 65, 66, 67, 68, 69, 70, 71, 72, 73, 74, 75, 76, 77, 78, 79, 80, 81, 82, 83, 84, 85, 86, 87, 88, 89, 90, 91, 92, 93, 94] rfl (by decide +kernel)
set_option maxRecDepth 20000 in
theorem gX12_fewestBy_X12_begins : GoodIn wsX12_fewestBy (wsV RX12 368 RX12 yX12_begins wsX12_begins) := goodIn_app (goodIn_r _ [5, 6, 7, 8] rfl (by decide +kernel)) ggX12_fewestBy_X12_begins
theorem dX12_fewestBy_0 : decode cX12_fewestBy 0 = .ok (.aload_n 0, 1) := by decide +kernel
theorem dX12_fewestBy_1 : decode cX12_fewestBy 1 = .ok (.getfield 111, 3) := by decide +kernel
theorem dX12_fewestBy_4 : decode cX12_fewestBy 4 = .ok (.aload_n 0, 1) := by decide +kernel
theorem dX12_fewestBy_5 : decode cX12_fewestBy 5 = .ok (.getfield 365, 3) := by decide +kernel
theorem dX12_fewestBy_8 : decode cX12_fewestBy 8 = .ok (.iconst 0, 1) := by decide +kernel
theorem dX12_fewestBy_9 : decode cX12_fewestBy 9 = .ok (.iastore, 1) := by decide +kernel
theorem dX12_fewestBy_10 : decode cX12_fewestBy 10 = .ok (.aload_n 0, 1) := by decide +kernel
theorem dX12_fewestBy_11 : decode cX12_fewestBy 11 = .ok (.getfield 365, 3) := by decide +kernel
theorem dX12_fewestBy_14 : decode cX12_fewestBy 14 = .ok (.iconst 1, 1) := by decide +kernel
theorem dX12_fewestBy_15 : decode cX12_fewestBy 15 = .ok (.isub, 1) := by decide +kernel
theorem dX12_fewestBy_16 : decode cX12_fewestBy 16 = .ok (.istore_n 2, 1) := by decide +kernel
theorem dX12_fewestBy_17 : decode cX12_fewestBy 17 = .ok (.iload_n 2, 1) := by decide +kernel
theorem dX12_fewestBy_18 : decode cX12_fewestBy 18 = .ok (.ifCond .lt 104, 3) := by decide +kernel
theorem dX12_fewestBy_21 : decode cX12_fewestBy 21 = .ok (.aload_n 0, 1) := by decide +kernel
theorem dX12_fewestBy_22 : decode cX12_fewestBy 22 = .ok (.getfield 111, 3) := by decide +kernel
theorem dX12_fewestBy_25 : decode cX12_fewestBy 25 = .ok (.iload_n 2, 1) := by decide +kernel
theorem dX12_fewestBy_26 : decode cX12_fewestBy 26 = .ok (.aload_n 0, 1) := by decide +kernel
theorem dX12_fewestBy_27 : decode cX12_fewestBy 27 = .ok (.getfield 111, 3) := by decide +kernel
theorem dX12_fewestBy_30 : decode cX12_fewestBy 30 = .ok (.iload_n 2, 1) := by decide +kernel
theorem dX12_fewestBy_31 : decode cX12_fewestBy 31 = .ok (.iconst 1, 1) := by decide +kernel
theorem dX12_fewestBy_32 : decode cX12_fewestBy 32 = .ok (.iadd, 1) := by decide +kernel
theorem dX12_fewestBy_33 : decode cX12_fewestBy 33 = .ok (.iaload, 1) := by decide +kernel
theorem dX12_fewestBy_34 : decode cX12_fewestBy 34 = .ok (.iconst 1, 1) := by decide +kernel
theorem dX12_fewestBy_35 : decode cX12_fewestBy 35 = .ok (.iadd, 1) := by decide +kernel
theorem dX12_fewestBy_36 : decode cX12_fewestBy 36 = .ok (.iastore, 1) := by decide +kernel
theorem dX12_fewestBy_37 : decode cX12_fewestBy 37 = .ok (.iconst 0, 1) := by decide +kernel
theorem dX12_fewestBy_38 : decode cX12_fewestBy 38 = .ok (.istore_n 3, 1) := by decide +kernel
theorem dX12_fewestBy_39 : decode cX12_fewestBy 39 = .ok (.iload_n 3, 1) := by decide +kernel
theorem dX12_fewestBy_40 : decode cX12_fewestBy 40 = .ok (.aload_n 0, 1) := by decide +kernel
theorem dX12_fewestBy_41 : decode cX12_fewestBy 41 = .ok (.getfield 359, 3) := by decide +kernel
theorem dX12_fewestBy_44 : decode cX12_fewestBy 44 = .ok (.if_icmp .ge 72, 3) := by decide +kernel
theorem dX12_fewestBy_47 : decode cX12_fewestBy 47 = .ok (.iload_n 1, 1) := by decide +kernel
theorem dX12_fewestBy_48 : decode cX12_fewestBy 48 = .ok (.iload_n 3, 1) := by decide +kernel
theorem dX12_fewestBy_49 : decode cX12_fewestBy 49 = .ok (.ishr, 1) := by decide +kernel
theorem dX12_fewestBy_50 : decode cX12_fewestBy 50 = .ok (.iconst 1, 1) := by decide +kernel
theorem dX12_fewestBy_51 : decode cX12_fewestBy 51 = .ok (.iand, 1) := by decide +kernel
theorem dX12_fewestBy_52 : decode cX12_fewestBy 52 = .ok (.iconst 1, 1) := by decide +kernel
theorem dX12_fewestBy_53 : decode cX12_fewestBy 53 = .ok (.if_icmp .ne 57, 3) := by decide +kernel
theorem dX12_fewestBy_56 : decode cX12_fewestBy 56 = .ok (.aload_n 0, 1) := by decide +kernel
theorem dX12_fewestBy_57 : decode cX12_fewestBy 57 = .ok (.iload_n 3, 1) := by decide +kernel
theorem dX12_fewestBy_58 : decode cX12_fewestBy 58 = .ok (.iload_n 2, 1) := by decide +kernel
theorem dX12_fewestBy_59 : decode cX12_fewestBy 59 = .ok (.invokevirtual 368, 3) := by decide +kernel
theorem dX12_fewestBy_62 : decode cX12_fewestBy 62 = .ok (.ifCond .eq 48, 3) := by decide +kernel
theorem dX12_fewestBy_65 : decode cX12_fewestBy 65 = .ok (.aload_n 0, 1) := by decide +kernel
theorem dX12_fewestBy_66 : decode cX12_fewestBy 66 = .ok (.getfield 111, 3) := by decide +kernel
theorem dX12_fewestBy_69 : decode cX12_fewestBy 69 = .ok (.iload_n 2, 1) := by decide +kernel
theorem dX12_fewestBy_70 : decode cX12_fewestBy 70 = .ok (.aload_n 0, 1) := by decide +kernel
theorem dX12_fewestBy_71 : decode cX12_fewestBy 71 = .ok (.getfield 99, 3) := by decide +kernel
theorem dX12_fewestBy_74 : decode cX12_fewestBy 74 = .ok (.iload_n 3, 1) := by decide +kernel
theorem dX12_fewestBy_75 : decode cX12_fewestBy 75 = .ok (.iaload, 1) := by decide +kernel
theorem dX12_fewestBy_76 : decode cX12_fewestBy 76 = .ok (.iadd, 1) := by decide +kernel
theorem dX12_fewestBy_77 : decode cX12_fewestBy 77 = .ok (.iaload, 1) := by decide +kernel
theorem dX12_fewestBy_78 : decode cX12_fewestBy 78 = .ok (.iconst 2, 1) := by decide +kernel
theorem dX12_fewestBy_79 : decode cX12_fewestBy 79 = .ok (.iadd, 1) := by decide +kernel
theorem dX12_fewestBy_80 : decode cX12_fewestBy 80 = .ok (.aload_n 0, 1) := by decide +kernel
theorem dX12_fewestBy_81 : decode cX12_fewestBy 81 = .ok (.getfield 111, 3) := by decide +kernel
theorem dX12_fewestBy_84 : decode cX12_fewestBy 84 = .ok (.iload_n 2, 1) := by decide +kernel
theorem dX12_fewestBy_85 : decode cX12_fewestBy 85 = .ok (.iaload, 1) := by decide +kernel
theorem dX12_fewestBy_86 : decode cX12_fewestBy 86 = .ok (.if_icmp .ge 24, 3) := by decide +kernel
theorem dX12_fewestBy_89 : decode cX12_fewestBy 89 = .ok (.aload_n 0, 1) := by decide +kernel
theorem dX12_fewestBy_90 : decode cX12_fewestBy 90 = .ok (.getfield 111, 3) := by decide +kernel
theorem dX12_fewestBy_93 : decode cX12_fewestBy 93 = .ok (.iload_n 2, 1) := by decide +kernel
theorem dX12_fewestBy_94 : decode cX12_fewestBy 94 = .ok (.aload_n 0, 1) := by decide +kernel
theorem dX12_fewestBy_95 : decode cX12_fewestBy 95 = .ok (.getfield 111, 3) := by decide +kernel
theorem dX12_fewestBy_98 : decode cX12_fewestBy 98 = .ok (.iload_n 2, 1) := by decide +kernel
theorem dX12_fewestBy_99 : decode cX12_fewestBy 99 = .ok (.aload_n 0, 1) := by decide +kernel
theorem dX12_fewestBy_100 : decode cX12_fewestBy 100 = .ok (.getfield 99, 3) := by decide +kernel
theorem dX12_fewestBy_103 : decode cX12_fewestBy 103 = .ok (.iload_n 3, 1) := by decide +kernel
theorem dX12_fewestBy_104 : decode cX12_fewestBy 104 = .ok (.iaload, 1) := by decide +kernel
theorem dX12_fewestBy_105 : decode cX12_fewestBy 105 = .ok (.iadd, 1) := by decide +kernel
theorem dX12_fewestBy_106 : decode cX12_fewestBy 106 = .ok (.iaload, 1) := by decide +kernel
theorem dX12_fewestBy_107 : decode cX12_fewestBy 107 = .ok (.iconst 2, 1) := by decide +kernel
theorem dX12_fewestBy_108 : decode cX12_fewestBy 108 = .ok (.iadd, 1) := by decide +kernel
theorem dX12_fewestBy_109 : decode cX12_fewestBy 109 = .ok (.iastore, 1) := by decide +kernel
theorem dX12_fewestBy_110 : decode cX12_fewestBy 110 = .ok (.iinc 3 1, 3) := by decide +kernel
theorem dX12_fewestBy_113 : decode cX12_fewestBy 113 = .ok (.goto (-74), 3) := by decide +kernel
theorem dX12_fewestBy_116 : decode cX12_fewestBy 116 = .ok (.iinc 2 (-1), 3) := by decide +kernel
theorem dX12_fewestBy_119 : decode cX12_fewestBy 119 = .ok (.goto (-102), 3) := by decide +kernel
theorem dX12_fewestBy_122 : decode cX12_fewestBy 122 = .ok (.aload_n 0, 1) := by decide +kernel
theorem dX12_fewestBy_123 : decode cX12_fewestBy 123 = .ok (.getfield 111, 3) := by decide +kernel
theorem dX12_fewestBy_126 : decode cX12_fewestBy 126 = .ok (.iconst 0, 1) := by decide +kernel
theorem dX12_fewestBy_127 : decode cX12_fewestBy 127 = .ok (.iaload, 1) := by decide +kernel
theorem dX12_fewestBy_128 : decode cX12_fewestBy 128 = .ok (.ireturn, 1) := by decide +kernel
set_option maxRecDepth 20000 in
theorem ggX12_code_X12_take : GoodIn wsX12_code wsX12_take := goodIn_r _ [14, 15, 35, 36, 37, 38, 39, 40, 41, 42, 43, 44, 45, 46, 47, 48, 49, 50, 51, 52, 53, 54, 55, 56, 57, 58, 59, 60, 61, 62, 63, 64, 65, 66, 67, 68, 69, 70, 71, 72, 73, 74, 75, 76, 77, 78, 79, 80, 81, 82, 83, 84, 85, 86, 87, 88, 89, 90, 91, 92, 93, 94, 95, 96, 97, 98, 99, 100, 101, 102, 103, 104, 105, 106, 107, 108, 109, 110, 111, 112, 113, 114, 115, 116, 117] rfl (by decide +kernel)
set_option maxRecDepth 20000 in
theorem gX12_code_X12_take : GoodIn wsX12_code (wsV RX12 257 RX12 yX12_take wsX12_take) := goodIn_app (goodIn_r _ [10, 11, 12, 13] rfl (by decide +kernel)) ggX12_code_X12_take
set_option maxRecDepth 20000 in
theorem ggX12_code_X12_isTold : GoodIn wsX12_code wsX12_isTold := goodIn_r _ [19, 3, 20, 21, 13, 22, 23, 24, 25, 35, 36, 37, 38, 39, 40, 41, 42, 43, 44, 45, 46, 47, 48, 49, 50, 51, 52, 53, 54, 55, 56, 57, 58, 59, 60, 61, 62, 63, 64, 65, 66, 67, 68, 69, 70, 71, 72, 73, 74, 75, 76, 77, 78, 79, 80, 81, 82, 83, 84, 85, 86, 87, 88, 89, 90, 91, 92, 93, 94, 95, 96, 97, 98, 99, 100, 101, 102, 103, 104, 105, 106, 107, 108, 109, 110, 111, 112, 113, 114, 115, 116, 117] rfl (by decide +kernel)
set_option maxRecDepth 20000 in
theorem gX12_code_X12_isTold : GoodIn wsX12_code (wsV RX12 362 RX12 yX12_isTold wsX12_isTold) := goodIn_app (goodIn_r _ [16, 17, 18, 13] rfl (by decide +kernel)) ggX12_code_X12_isTold
set_option maxRecDepth 20000 in
theorem ggX12_code_X12_fewestBy : GoodIn wsX12_code wsX12_fewestBy := goodIn_r _ [29, 7, 4, 6, 8, 30, 31, 32, 13, 33, 2, 34, 35, 36, 37, 38, 39, 40, 41, 42, 43, 44, 45, 46, 47, 48, 49, 50, 51, 52, 53, 54, 55, 56, 57, 58, 59, 60, 61, 62, 63, 64, 65, 66, 67, 68, 69, 70, 71, 72, 73, 74, 75, 76, 77, 78, 79, 80, 81, 82, 83, 84, 85, 86, 87, 88, 89, 90, 91, 92, 93, 94, 95, 96, 97, 98, 99, 100, 101, 102, 103, 104, 105, 106, 107, 108, 109, 110, 111, 112, 113, 114, 115, 116, 117] rfl (by decide +kernel)
set_option maxRecDepth 20000 in
theorem gX12_code_X12_fewestBy : GoodIn wsX12_code (wsV RX12 371 RX12 yX12_fewestBy wsX12_fewestBy) := goodIn_app (goodIn_r _ [26, 27, 28, 13] rfl (by decide +kernel)) ggX12_code_X12_fewestBy
set_option maxRecDepth 20000 in
theorem ggX12_code_X12_begins : GoodIn wsX12_code wsX12_begins := goodIn_r _ [33, 8, 4, 2, 34, 35, 36, 37, 38, 39, 40, 41, 42, 43, 44, 45, 46, 47, 48, 49, 50, 51, 52, 53, 54, 55, 56, 57, 58, 59, 60, 61, 62, 63, 64, 65, 66, 67, 68, 69, 70, 71, 72, 73, 74, 75, 76, 77, 78, 79, 80, 81, 82, 83, 84, 85, 86, 87, 88, 89, 90, 91, 92, 93, 94, 95, 96, 97, 98, 99, 100, 101, 102, 103, 104, 105, 106, 107, 108, 109, 110, 111, 112, 113, 114, 115, 116, 117] rfl (by decide +kernel)
set_option maxRecDepth 20000 in
theorem gX12_code_X12_begins : GoodIn wsX12_code (wsV RX12 368 RX12 yX12_begins wsX12_begins) := goodIn_app (goodIn_r _ [30, 31, 32, 13] rfl (by decide +kernel)) ggX12_code_X12_begins
theorem dX12_code_0 : decode cX12_code 0 = .ok (.aload_n 0, 1) := by decide +kernel
theorem dX12_code_1 : decode cX12_code 1 = .ok (.iconst 0, 1) := by decide +kernel
theorem dX12_code_2 : decode cX12_code 2 = .ok (.putfield 138, 3) := by decide +kernel
theorem dX12_code_5 : decode cX12_code 5 = .ok (.aload_n 0, 1) := by decide +kernel
theorem dX12_code_6 : decode cX12_code 6 = .ok (.invokevirtual 257, 3) := by decide +kernel
theorem dX12_code_9 : decode cX12_code 9 = .ok (.istore_n 1, 1) := by decide +kernel
theorem dX12_code_10 : decode cX12_code 10 = .ok (.aload_n 0, 1) := by decide +kernel
theorem dX12_code_11 : decode cX12_code 11 = .ok (.iload_n 1, 1) := by decide +kernel
theorem dX12_code_12 : decode cX12_code 12 = .ok (.bipush 60, 2) := by decide +kernel
theorem dX12_code_14 : decode cX12_code 14 = .ok (.invokevirtual 362, 3) := by decide +kernel
theorem dX12_code_17 : decode cX12_code 17 = .ok (.ifCond .ne 5, 3) := by decide +kernel
theorem dX12_code_20 : decode cX12_code 20 = .ok (.iconst (-1), 1) := by decide +kernel
theorem dX12_code_21 : decode cX12_code 21 = .ok (.ireturn, 1) := by decide +kernel
theorem dX12_code_22 : decode cX12_code 22 = .ok (.iconst 0, 1) := by decide +kernel
theorem dX12_code_23 : decode cX12_code 23 = .ok (.istore_n 2, 1) := by decide +kernel
theorem dX12_code_24 : decode cX12_code 24 = .ok (.iload_n 2, 1) := by decide +kernel
theorem dX12_code_25 : decode cX12_code 25 = .ok (.iload_n 1, 1) := by decide +kernel
theorem dX12_code_26 : decode cX12_code 26 = .ok (.if_icmp .ge 21, 3) := by decide +kernel
theorem dX12_code_29 : decode cX12_code 29 = .ok (.aload_n 0, 1) := by decide +kernel
theorem dX12_code_30 : decode cX12_code 30 = .ok (.getfield 108, 3) := by decide +kernel
theorem dX12_code_33 : decode cX12_code 33 = .ok (.iload_n 2, 1) := by decide +kernel
theorem dX12_code_34 : decode cX12_code 34 = .ok (.aload_n 0, 1) := by decide +kernel
theorem dX12_code_35 : decode cX12_code 35 = .ok (.getfield 7, 3) := by decide +kernel
theorem dX12_code_38 : decode cX12_code 38 = .ok (.iload_n 2, 1) := by decide +kernel
theorem dX12_code_39 : decode cX12_code 39 = .ok (.iaload, 1) := by decide +kernel
theorem dX12_code_40 : decode cX12_code 40 = .ok (.iastore, 1) := by decide +kernel
theorem dX12_code_41 : decode cX12_code 41 = .ok (.iinc 2 1, 3) := by decide +kernel
theorem dX12_code_44 : decode cX12_code 44 = .ok (.goto (-20), 3) := by decide +kernel
theorem dX12_code_47 : decode cX12_code 47 = .ok (.aload_n 0, 1) := by decide +kernel
theorem dX12_code_48 : decode cX12_code 48 = .ok (.iload_n 1, 1) := by decide +kernel
theorem dX12_code_49 : decode cX12_code 49 = .ok (.putfield 365, 3) := by decide +kernel
theorem dX12_code_52 : decode cX12_code 52 = .ok (.aload_n 0, 1) := by decide +kernel
theorem dX12_code_53 : decode cX12_code 53 = .ok (.sipush 4095, 3) := by decide +kernel
theorem dX12_code_56 : decode cX12_code 56 = .ok (.invokevirtual 371, 3) := by decide +kernel
theorem dX12_code_59 : decode cX12_code 59 = .ok (.istore_n 2, 1) := by decide +kernel
theorem dX12_code_60 : decode cX12_code 60 = .ok (.aload_n 0, 1) := by decide +kernel
theorem dX12_code_61 : decode cX12_code 61 = .ok (.iconst 0, 1) := by decide +kernel
theorem dX12_code_62 : decode cX12_code 62 = .ok (.putfield 374, 3) := by decide +kernel
theorem dX12_code_65 : decode cX12_code 65 = .ok (.iconst 0, 1) := by decide +kernel
theorem dX12_code_66 : decode cX12_code 66 = .ok (.istore_n 3, 1) := by decide +kernel
theorem dX12_code_67 : decode cX12_code 67 = .ok (.iload_n 3, 1) := by decide +kernel
theorem dX12_code_68 : decode cX12_code 68 = .ok (.iload_n 1, 1) := by decide +kernel
theorem dX12_code_69 : decode cX12_code 69 = .ok (.if_icmp .ge 124, 3) := by decide +kernel
theorem dX12_code_72 : decode cX12_code 72 = .ok (.iconst 0, 1) := by decide +kernel
theorem dX12_code_73 : decode cX12_code 73 = .ok (.istore 4, 2) := by decide +kernel
theorem dX12_code_75 : decode cX12_code 75 = .ok (.iload 4, 2) := by decide +kernel
theorem dX12_code_77 : decode cX12_code 77 = .ok (.aload_n 0, 1) := by decide +kernel
theorem dX12_code_78 : decode cX12_code 78 = .ok (.getfield 359, 3) := by decide +kernel
theorem dX12_code_81 : decode cX12_code 81 = .ok (.if_icmp .ge 44, 3) := by decide +kernel
theorem dX12_code_84 : decode cX12_code 84 = .ok (.aload_n 0, 1) := by decide +kernel
theorem dX12_code_85 : decode cX12_code 85 = .ok (.iload 4, 2) := by decide +kernel
theorem dX12_code_87 : decode cX12_code 87 = .ok (.iload_n 3, 1) := by decide +kernel
theorem dX12_code_88 : decode cX12_code 88 = .ok (.invokevirtual 368, 3) := by decide +kernel
theorem dX12_code_91 : decode cX12_code 91 = .ok (.ifCond .eq 28, 3) := by decide +kernel
theorem dX12_code_94 : decode cX12_code 94 = .ok (.aload_n 0, 1) := by decide +kernel
theorem dX12_code_95 : decode cX12_code 95 = .ok (.getfield 111, 3) := by decide +kernel
theorem dX12_code_98 : decode cX12_code 98 = .ok (.iload_n 3, 1) := by decide +kernel
theorem dX12_code_99 : decode cX12_code 99 = .ok (.aload_n 0, 1) := by decide +kernel
theorem dX12_code_100 : decode cX12_code 100 = .ok (.getfield 99, 3) := by decide +kernel
theorem dX12_code_103 : decode cX12_code 103 = .ok (.iload 4, 2) := by decide +kernel
theorem dX12_code_105 : decode cX12_code 105 = .ok (.iaload, 1) := by decide +kernel
theorem dX12_code_106 : decode cX12_code 106 = .ok (.iadd, 1) := by decide +kernel
theorem dX12_code_107 : decode cX12_code 107 = .ok (.iaload, 1) := by decide +kernel
theorem dX12_code_108 : decode cX12_code 108 = .ok (.iconst 2, 1) := by decide +kernel
theorem dX12_code_109 : decode cX12_code 109 = .ok (.iadd, 1) := by decide +kernel
theorem dX12_code_110 : decode cX12_code 110 = .ok (.aload_n 0, 1) := by decide +kernel
theorem dX12_code_111 : decode cX12_code 111 = .ok (.getfield 111, 3) := by decide +kernel
theorem dX12_code_114 : decode cX12_code 114 = .ok (.iload_n 3, 1) := by decide +kernel
theorem dX12_code_115 : decode cX12_code 115 = .ok (.iaload, 1) := by decide +kernel
theorem dX12_code_116 : decode cX12_code 116 = .ok (.if_icmp .eq 9, 3) := by decide +kernel
theorem dX12_code_119 : decode cX12_code 119 = .ok (.iinc 4 1, 3) := by decide +kernel
theorem dX12_code_122 : decode cX12_code 122 = .ok (.goto (-47), 3) := by decide +kernel
theorem dX12_code_125 : decode cX12_code 125 = .ok (.aload_n 0, 1) := by decide +kernel
theorem dX12_code_126 : decode cX12_code 126 = .ok (.getfield 114, 3) := by decide +kernel
theorem dX12_code_129 : decode cX12_code 129 = .ok (.aload_n 0, 1) := by decide +kernel
theorem dX12_code_130 : decode cX12_code 130 = .ok (.getfield 374, 3) := by decide +kernel
theorem dX12_code_133 : decode cX12_code 133 = .ok (.iload 4, 2) := by decide +kernel
theorem dX12_code_135 : decode cX12_code 135 = .ok (.aload_n 0, 1) := by decide +kernel
theorem dX12_code_136 : decode cX12_code 136 = .ok (.getfield 359, 3) := by decide +kernel
theorem dX12_code_139 : decode cX12_code 139 = .ok (.if_icmp .ge 11, 3) := by decide +kernel
theorem dX12_code_142 : decode cX12_code 142 = .ok (.bipush 100, 2) := by decide +kernel
theorem dX12_code_144 : decode cX12_code 144 = .ok (.iload 4, 2) := by decide +kernel
theorem dX12_code_146 : decode cX12_code 146 = .ok (.iadd, 1) := by decide +kernel
theorem dX12_code_147 : decode cX12_code 147 = .ok (.goto 9, 3) := by decide +kernel
theorem dX12_code_150 : decode cX12_code 150 = .ok (.aload_n 0, 1) := by decide +kernel
theorem dX12_code_151 : decode cX12_code 151 = .ok (.getfield 108, 3) := by decide +kernel
theorem dX12_code_154 : decode cX12_code 154 = .ok (.iload_n 3, 1) := by decide +kernel
theorem dX12_code_155 : decode cX12_code 155 = .ok (.iaload, 1) := by decide +kernel
theorem dX12_code_156 : decode cX12_code 156 = .ok (.iastore, 1) := by decide +kernel
theorem dX12_code_157 : decode cX12_code 157 = .ok (.aload_n 0, 1) := by decide +kernel
theorem dX12_code_158 : decode cX12_code 158 = .ok (.dup, 1) := by decide +kernel
theorem dX12_code_159 : decode cX12_code 159 = .ok (.getfield 374, 3) := by decide +kernel
theorem dX12_code_162 : decode cX12_code 162 = .ok (.iconst 1, 1) := by decide +kernel
theorem dX12_code_163 : decode cX12_code 163 = .ok (.iadd, 1) := by decide +kernel
theorem dX12_code_164 : decode cX12_code 164 = .ok (.putfield 374, 3) := by decide +kernel
theorem dX12_code_167 : decode cX12_code 167 = .ok (.iload_n 3, 1) := by decide +kernel
theorem dX12_code_168 : decode cX12_code 168 = .ok (.iload 4, 2) := by decide +kernel
theorem dX12_code_170 : decode cX12_code 170 = .ok (.aload_n 0, 1) := by decide +kernel
theorem dX12_code_171 : decode cX12_code 171 = .ok (.getfield 359, 3) := by decide +kernel
theorem dX12_code_174 : decode cX12_code 174 = .ok (.if_icmp .ge 13, 3) := by decide +kernel
theorem dX12_code_177 : decode cX12_code 177 = .ok (.aload_n 0, 1) := by decide +kernel
theorem dX12_code_178 : decode cX12_code 178 = .ok (.getfield 99, 3) := by decide +kernel
theorem dX12_code_181 : decode cX12_code 181 = .ok (.iload 4, 2) := by decide +kernel
theorem dX12_code_183 : decode cX12_code 183 = .ok (.iaload, 1) := by decide +kernel
theorem dX12_code_184 : decode cX12_code 184 = .ok (.goto 4, 3) := by decide +kernel
theorem dX12_code_187 : decode cX12_code 187 = .ok (.iconst 1, 1) := by decide +kernel
theorem dX12_code_188 : decode cX12_code 188 = .ok (.iadd, 1) := by decide +kernel
theorem dX12_code_189 : decode cX12_code 189 = .ok (.istore_n 3, 1) := by decide +kernel
theorem dX12_code_190 : decode cX12_code 190 = .ok (.goto (-123), 3) := by decide +kernel
theorem dX12_code_193 : decode cX12_code 193 = .ok (.iload_n 2, 1) := by decide +kernel
theorem dX12_code_194 : decode cX12_code 194 = .ok (.ireturn, 1) := by decide +kernel
theorem dX12_piece_0 : decode cX12_piece 0 = .ok (.aload_n 0, 1) := by decide +kernel
theorem dX12_piece_1 : decode cX12_piece 1 = .ok (.iconst 0, 1) := by decide +kernel
theorem dX12_piece_2 : decode cX12_piece 2 = .ok (.putfield 138, 3) := by decide +kernel
theorem dX12_piece_5 : decode cX12_piece 5 = .ok (.iload_n 1, 1) := by decide +kernel
theorem dX12_piece_6 : decode cX12_piece 6 = .ok (.ifCond .lt 20, 3) := by decide +kernel
theorem dX12_piece_9 : decode cX12_piece 9 = .ok (.iload_n 1, 1) := by decide +kernel
theorem dX12_piece_10 : decode cX12_piece 10 = .ok (.aload_n 0, 1) := by decide +kernel
theorem dX12_piece_11 : decode cX12_piece 11 = .ok (.getfield 374, 3) := by decide +kernel
theorem dX12_piece_14 : decode cX12_piece 14 = .ok (.if_icmp .ge 12, 3) := by decide +kernel
theorem dX12_piece_17 : decode cX12_piece 17 = .ok (.aload_n 0, 1) := by decide +kernel
theorem dX12_piece_18 : decode cX12_piece 18 = .ok (.getfield 114, 3) := by decide +kernel
theorem dX12_piece_21 : decode cX12_piece 21 = .ok (.iload_n 1, 1) := by decide +kernel
theorem dX12_piece_22 : decode cX12_piece 22 = .ok (.iaload, 1) := by decide +kernel
theorem dX12_piece_23 : decode cX12_piece 23 = .ok (.goto 4, 3) := by decide +kernel
theorem dX12_piece_26 : decode cX12_piece 26 = .ok (.iconst (-1), 1) := by decide +kernel
theorem dX12_piece_27 : decode cX12_piece 27 = .ok (.ireturn, 1) := by decide +kernel
set_option maxRecDepth 20000 in
theorem ggX12_year_X12_take : GoodIn wsX12_year wsX12_take := goodIn_r _ [10, 11, 22, 23, 24, 25, 26, 27, 28, 29, 30, 31, 32, 33, 34, 35, 36, 37, 38, 39, 40, 41, 42, 43, 44, 45, 46, 47, 48, 49, 50, 51, 52, 53, 54, 55, 56, 57, 58, 59, 60, 61, 62, 63, 64, 65, 66, 67, 68, 69, 70, 71, 72, 73, 74, 75, 76, 77, 78, 79, 80, 81, 82, 83, 84, 85, 86, 87, 88, 89, 90, 91, 92, 93, 94, 95, 96, 97, 98, 99, 100, 101, 102, 103, 104] rfl (by decide +kernel)
set_option maxRecDepth 20000 in
theorem gX12_year_X12_take : GoodIn wsX12_year (wsV RX12 257 RX12 yX12_take wsX12_take) := goodIn_app (goodIn_r _ [6, 7, 8, 9] rfl (by decide +kernel)) ggX12_year_X12_take
set_option maxRecDepth 20000 in
theorem ggX12_year_X12_isTold : GoodIn wsX12_year wsX12_isTold := goodIn_r _ [15, 4, 16, 17, 9, 18, 19, 20, 21, 22, 23, 24, 25, 26, 27, 28, 29, 30, 31, 32, 33, 34, 35, 36, 37, 38, 39, 40, 41, 42, 43, 44, 45, 46, 47, 48, 49, 50, 51, 52, 53, 54, 55, 56, 57, 58, 59, 60, 61, 62, 63, 64, 65, 66, 67, 68, 69, 70, 71, 72, 73, 74, 75, 76, 77, 78, 79, 80, 81, 82, 83, 84, 85, 86, 87, 88, 89, 90, 91, 92, 93, 94, 95, 96, 97, 98, 99, 100, 101, 102, 103, 104] rfl (by decide +kernel)
set_option maxRecDepth 20000 in
theorem gX12_year_X12_isTold : GoodIn wsX12_year (wsV RX12 362 RX12 yX12_isTold wsX12_isTold) := goodIn_app (goodIn_r _ [12, 13, 14, 9] rfl (by decide +kernel)) ggX12_year_X12_isTold
theorem dX12_year_0 : decode cX12_year 0 = .ok (.aload_n 0, 1) := by decide +kernel
theorem dX12_year_1 : decode cX12_year 1 = .ok (.iconst 0, 1) := by decide +kernel
theorem dX12_year_2 : decode cX12_year 2 = .ok (.putfield 138, 3) := by decide +kernel
theorem dX12_year_5 : decode cX12_year 5 = .ok (.aload_n 0, 1) := by decide +kernel
theorem dX12_year_6 : decode cX12_year 6 = .ok (.invokevirtual 257, 3) := by decide +kernel
theorem dX12_year_9 : decode cX12_year 9 = .ok (.istore_n 1, 1) := by decide +kernel
theorem dX12_year_10 : decode cX12_year 10 = .ok (.aload_n 0, 1) := by decide +kernel
theorem dX12_year_11 : decode cX12_year 11 = .ok (.getfield 377, 3) := by decide +kernel
theorem dX12_year_14 : decode cX12_year 14 = .ok (.bipush 8, 2) := by decide +kernel
theorem dX12_year_16 : decode cX12_year 16 = .ok (.if_icmp .eq 13, 3) := by decide +kernel
theorem dX12_year_19 : decode cX12_year 19 = .ok (.aload_n 0, 1) := by decide +kernel
theorem dX12_year_20 : decode cX12_year 20 = .ok (.iload_n 1, 1) := by decide +kernel
theorem dX12_year_21 : decode cX12_year 21 = .ok (.bipush 60, 2) := by decide +kernel
theorem dX12_year_23 : decode cX12_year 23 = .ok (.invokevirtual 362, 3) := by decide +kernel
theorem dX12_year_26 : decode cX12_year 26 = .ok (.ifCond .ne 5, 3) := by decide +kernel
theorem dX12_year_29 : decode cX12_year 29 = .ok (.iconst (-1), 1) := by decide +kernel
theorem dX12_year_30 : decode cX12_year 30 = .ok (.ireturn, 1) := by decide +kernel
theorem dX12_year_31 : decode cX12_year 31 = .ok (.iconst 0, 1) := by decide +kernel
theorem dX12_year_32 : decode cX12_year 32 = .ok (.istore_n 2, 1) := by decide +kernel
theorem dX12_year_33 : decode cX12_year 33 = .ok (.iload_n 2, 1) := by decide +kernel
theorem dX12_year_34 : decode cX12_year 34 = .ok (.iload_n 1, 1) := by decide +kernel
theorem dX12_year_35 : decode cX12_year 35 = .ok (.if_icmp .ge 29, 3) := by decide +kernel
theorem dX12_year_38 : decode cX12_year 38 = .ok (.aload_n 0, 1) := by decide +kernel
theorem dX12_year_39 : decode cX12_year 39 = .ok (.getfield 102, 3) := by decide +kernel
theorem dX12_year_42 : decode cX12_year 42 = .ok (.bipush 60, 2) := by decide +kernel
theorem dX12_year_44 : decode cX12_year 44 = .ok (.aload_n 0, 1) := by decide +kernel
theorem dX12_year_45 : decode cX12_year 45 = .ok (.getfield 377, 3) := by decide +kernel
theorem dX12_year_48 : decode cX12_year 48 = .ok (.imul, 1) := by decide +kernel
theorem dX12_year_49 : decode cX12_year 49 = .ok (.iload_n 2, 1) := by decide +kernel
theorem dX12_year_50 : decode cX12_year 50 = .ok (.iadd, 1) := by decide +kernel
theorem dX12_year_51 : decode cX12_year 51 = .ok (.aload_n 0, 1) := by decide +kernel
theorem dX12_year_52 : decode cX12_year 52 = .ok (.getfield 7, 3) := by decide +kernel
theorem dX12_year_55 : decode cX12_year 55 = .ok (.iload_n 2, 1) := by decide +kernel
theorem dX12_year_56 : decode cX12_year 56 = .ok (.iaload, 1) := by decide +kernel
theorem dX12_year_57 : decode cX12_year 57 = .ok (.iastore, 1) := by decide +kernel
theorem dX12_year_58 : decode cX12_year 58 = .ok (.iinc 2 1, 3) := by decide +kernel
theorem dX12_year_61 : decode cX12_year 61 = .ok (.goto (-28), 3) := by decide +kernel
theorem dX12_year_64 : decode cX12_year 64 = .ok (.aload_n 0, 1) := by decide +kernel
theorem dX12_year_65 : decode cX12_year 65 = .ok (.getfield 105, 3) := by decide +kernel
theorem dX12_year_68 : decode cX12_year 68 = .ok (.aload_n 0, 1) := by decide +kernel
theorem dX12_year_69 : decode cX12_year 69 = .ok (.getfield 377, 3) := by decide +kernel
theorem dX12_year_72 : decode cX12_year 72 = .ok (.iload_n 1, 1) := by decide +kernel
theorem dX12_year_73 : decode cX12_year 73 = .ok (.iastore, 1) := by decide +kernel
theorem dX12_year_74 : decode cX12_year 74 = .ok (.aload_n 0, 1) := by decide +kernel
theorem dX12_year_75 : decode cX12_year 75 = .ok (.dup, 1) := by decide +kernel
theorem dX12_year_76 : decode cX12_year 76 = .ok (.getfield 377, 3) := by decide +kernel
theorem dX12_year_79 : decode cX12_year 79 = .ok (.iconst 1, 1) := by decide +kernel
theorem dX12_year_80 : decode cX12_year 80 = .ok (.iadd, 1) := by decide +kernel
theorem dX12_year_81 : decode cX12_year 81 = .ok (.putfield 377, 3) := by decide +kernel
theorem dX12_year_84 : decode cX12_year 84 = .ok (.aload_n 0, 1) := by decide +kernel
theorem dX12_year_85 : decode cX12_year 85 = .ok (.getfield 377, 3) := by decide +kernel
theorem dX12_year_88 : decode cX12_year 88 = .ok (.ireturn, 1) := by decide +kernel
set_option maxRecDepth 20000 in
theorem ggX12_small_X12_isIn : GoodIn wsX12_small wsX12_isIn := goodIn_r _ [13] rfl (by decide +kernel)
set_option maxRecDepth 20000 in
theorem gX12_small_X12_isIn : GoodIn wsX12_small (va_wsS RX12 148 yX12_isIn wsX12_isIn) := goodIn_app (goodIn_r _ [10, 11, 12] rfl (by decide +kernel)) ggX12_small_X12_isIn
set_option maxRecDepth 20000 in
theorem ggX12_small_X12_fewestBy : GoodIn wsX12_small wsX12_fewestBy := goodIn_r _ [17, 18, 6, 3, 19, 20, 21, 22, 12, 23, 7, 24, 25, 26, 27, 28, 29, 30, 31, 32, 33, 34, 35, 36, 37, 38, 39, 40, 41, 42, 43, 44, 45, 46, 47, 48, 49, 50, 51, 52, 53, 54, 55, 56, 57, 58, 59, 60, 61, 62, 63, 64, 65, 66, 67, 68, 69, 70, 71, 72, 73, 74, 75, 76, 77, 78, 79, 80, 81, 82, 83, 84, 85, 86, 87, 88, 89, 90, 91, 92, 93, 94, 95, 96, 97, 98, 99, 100, 101, 102, 103, 104, 105, 106, 107] rfl (by decide +kernel)
set_option maxRecDepth 20000 in
theorem gX12_small_X12_fewestBy : GoodIn wsX12_small (wsV RX12 371 RX12 yX12_fewestBy wsX12_fewestBy) := goodIn_app (goodIn_r _ [14, 15, 16, 12] rfl (by decide +kernel)) ggX12_small_X12_fewestBy
theorem dX12_small_0 : decode cX12_small 0 = .ok (.aload_n 0, 1) := by decide +kernel
theorem dX12_small_1 : decode cX12_small 1 = .ok (.iconst 0, 1) := by decide +kernel
theorem dX12_small_2 : decode cX12_small 2 = .ok (.putfield 138, 3) := by decide +kernel
theorem dX12_small_5 : decode cX12_small 5 = .ok (.iload_n 1, 1) := by decide +kernel
theorem dX12_small_6 : decode cX12_small 6 = .ok (.iconst 0, 1) := by decide +kernel
theorem dX12_small_7 : decode cX12_small 7 = .ok (.bipush 12, 2) := by decide +kernel
theorem dX12_small_9 : decode cX12_small 9 = .ok (.invokestatic 148, 3) := by decide +kernel
theorem dX12_small_12 : decode cX12_small 12 = .ok (.ifCond .ne 5, 3) := by decide +kernel
theorem dX12_small_15 : decode cX12_small 15 = .ok (.iconst (-1), 1) := by decide +kernel
theorem dX12_small_16 : decode cX12_small 16 = .ok (.ireturn, 1) := by decide +kernel
theorem dX12_small_17 : decode cX12_small 17 = .ok (.ldc_w 380, 3) := by decide +kernel
theorem dX12_small_20 : decode cX12_small 20 = .ok (.istore_n 2, 1) := by decide +kernel
theorem dX12_small_21 : decode cX12_small 21 = .ok (.iconst 0, 1) := by decide +kernel
theorem dX12_small_22 : decode cX12_small 22 = .ok (.istore_n 3, 1) := by decide +kernel
theorem dX12_small_23 : decode cX12_small 23 = .ok (.iload_n 3, 1) := by decide +kernel
theorem dX12_small_24 : decode cX12_small 24 = .ok (.iconst 1, 1) := by decide +kernel
theorem dX12_small_25 : decode cX12_small 25 = .ok (.aload_n 0, 1) := by decide +kernel
theorem dX12_small_26 : decode cX12_small 26 = .ok (.getfield 359, 3) := by decide +kernel
theorem dX12_small_29 : decode cX12_small 29 = .ok (.ishl, 1) := by decide +kernel
theorem dX12_small_30 : decode cX12_small 30 = .ok (.if_icmp .ge 153, 3) := by decide +kernel
theorem dX12_small_33 : decode cX12_small 33 = .ok (.iconst 0, 1) := by decide +kernel
theorem dX12_small_34 : decode cX12_small 34 = .ok (.istore 4, 2) := by decide +kernel
theorem dX12_small_36 : decode cX12_small 36 = .ok (.iconst 0, 1) := by decide +kernel
theorem dX12_small_37 : decode cX12_small 37 = .ok (.istore 5, 2) := by decide +kernel
theorem dX12_small_39 : decode cX12_small 39 = .ok (.iload 5, 2) := by decide +kernel
theorem dX12_small_41 : decode cX12_small 41 = .ok (.aload_n 0, 1) := by decide +kernel
theorem dX12_small_42 : decode cX12_small 42 = .ok (.getfield 359, 3) := by decide +kernel
theorem dX12_small_45 : decode cX12_small 45 = .ok (.if_icmp .ge 20, 3) := by decide +kernel
theorem dX12_small_48 : decode cX12_small 48 = .ok (.iload 4, 2) := by decide +kernel
theorem dX12_small_50 : decode cX12_small 50 = .ok (.iload_n 3, 1) := by decide +kernel
theorem dX12_small_51 : decode cX12_small 51 = .ok (.iload 5, 2) := by decide +kernel
theorem dX12_small_53 : decode cX12_small 53 = .ok (.ishr, 1) := by decide +kernel
theorem dX12_small_54 : decode cX12_small 54 = .ok (.iconst 1, 1) := by decide +kernel
theorem dX12_small_55 : decode cX12_small 55 = .ok (.iand, 1) := by decide +kernel
theorem dX12_small_56 : decode cX12_small 56 = .ok (.iadd, 1) := by decide +kernel
theorem dX12_small_57 : decode cX12_small 57 = .ok (.istore 4, 2) := by decide +kernel
theorem dX12_small_59 : decode cX12_small 59 = .ok (.iinc 5 1, 3) := by decide +kernel
theorem dX12_small_62 : decode cX12_small 62 = .ok (.goto (-23), 3) := by decide +kernel
theorem dX12_small_65 : decode cX12_small 65 = .ok (.iload 4, 2) := by decide +kernel
theorem dX12_small_67 : decode cX12_small 67 = .ok (.iload_n 1, 1) := by decide +kernel
theorem dX12_small_68 : decode cX12_small 68 = .ok (.if_icmp .le 6, 3) := by decide +kernel
theorem dX12_small_71 : decode cX12_small 71 = .ok (.goto 106, 3) := by decide +kernel
theorem dX12_small_74 : decode cX12_small 74 = .ok (.iconst 0, 1) := by decide +kernel
theorem dX12_small_75 : decode cX12_small 75 = .ok (.istore 5, 2) := by decide +kernel
theorem dX12_small_77 : decode cX12_small 77 = .ok (.iconst 0, 1) := by decide +kernel
theorem dX12_small_78 : decode cX12_small 78 = .ok (.istore 6, 2) := by decide +kernel
theorem dX12_small_80 : decode cX12_small 80 = .ok (.iload 6, 2) := by decide +kernel
theorem dX12_small_82 : decode cX12_small 82 = .ok (.aload_n 0, 1) := by decide +kernel
theorem dX12_small_83 : decode cX12_small 83 = .ok (.getfield 377, 3) := by decide +kernel
theorem dX12_small_86 : decode cX12_small 86 = .ok (.if_icmp .ge 74, 3) := by decide +kernel
theorem dX12_small_89 : decode cX12_small 89 = .ok (.iload 5, 2) := by decide +kernel
theorem dX12_small_91 : decode cX12_small 91 = .ok (.iload_n 2, 1) := by decide +kernel
theorem dX12_small_92 : decode cX12_small 92 = .ok (.if_icmp .ge 68, 3) := by decide +kernel
theorem dX12_small_95 : decode cX12_small 95 = .ok (.aload_n 0, 1) := by decide +kernel
theorem dX12_small_96 : decode cX12_small 96 = .ok (.aload_n 0, 1) := by decide +kernel
theorem dX12_small_97 : decode cX12_small 97 = .ok (.getfield 105, 3) := by decide +kernel
theorem dX12_small_100 : decode cX12_small 100 = .ok (.iload 6, 2) := by decide +kernel
theorem dX12_small_102 : decode cX12_small 102 = .ok (.iaload, 1) := by decide +kernel
theorem dX12_small_103 : decode cX12_small 103 = .ok (.putfield 365, 3) := by decide +kernel
theorem dX12_small_106 : decode cX12_small 106 = .ok (.iconst 0, 1) := by decide +kernel
theorem dX12_small_107 : decode cX12_small 107 = .ok (.istore 7, 2) := by decide +kernel
theorem dX12_small_109 : decode cX12_small 109 = .ok (.iload 7, 2) := by decide +kernel
theorem dX12_small_111 : decode cX12_small 111 = .ok (.aload_n 0, 1) := by decide +kernel
theorem dX12_small_112 : decode cX12_small 112 = .ok (.getfield 365, 3) := by decide +kernel
theorem dX12_small_115 : decode cX12_small 115 = .ok (.if_icmp .ge 29, 3) := by decide +kernel
theorem dX12_small_118 : decode cX12_small 118 = .ok (.aload_n 0, 1) := by decide +kernel
theorem dX12_small_119 : decode cX12_small 119 = .ok (.getfield 108, 3) := by decide +kernel
theorem dX12_small_122 : decode cX12_small 122 = .ok (.iload 7, 2) := by decide +kernel
theorem dX12_small_124 : decode cX12_small 124 = .ok (.aload_n 0, 1) := by decide +kernel
theorem dX12_small_125 : decode cX12_small 125 = .ok (.getfield 102, 3) := by decide +kernel
theorem dX12_small_128 : decode cX12_small 128 = .ok (.bipush 60, 2) := by decide +kernel
theorem dX12_small_130 : decode cX12_small 130 = .ok (.iload 6, 2) := by decide +kernel
theorem dX12_small_132 : decode cX12_small 132 = .ok (.imul, 1) := by decide +kernel
theorem dX12_small_133 : decode cX12_small 133 = .ok (.iload 7, 2) := by decide +kernel
theorem dX12_small_135 : decode cX12_small 135 = .ok (.iadd, 1) := by decide +kernel
theorem dX12_small_136 : decode cX12_small 136 = .ok (.iaload, 1) := by decide +kernel
theorem dX12_small_137 : decode cX12_small 137 = .ok (.iastore, 1) := by decide +kernel
theorem dX12_small_138 : decode cX12_small 138 = .ok (.iinc 7 1, 3) := by decide +kernel
theorem dX12_small_141 : decode cX12_small 141 = .ok (.goto (-32), 3) := by decide +kernel
theorem dX12_small_144 : decode cX12_small 144 = .ok (.iload 5, 2) := by decide +kernel
theorem dX12_small_146 : decode cX12_small 146 = .ok (.aload_n 0, 1) := by decide +kernel
theorem dX12_small_147 : decode cX12_small 147 = .ok (.iload_n 3, 1) := by decide +kernel
theorem dX12_small_148 : decode cX12_small 148 = .ok (.invokevirtual 371, 3) := by decide +kernel
theorem dX12_small_151 : decode cX12_small 151 = .ok (.iadd, 1) := by decide +kernel
theorem dX12_small_152 : decode cX12_small 152 = .ok (.istore 5, 2) := by decide +kernel
theorem dX12_small_154 : decode cX12_small 154 = .ok (.iinc 6 1, 3) := by decide +kernel
theorem dX12_small_157 : decode cX12_small 157 = .ok (.goto (-77), 3) := by decide +kernel
theorem dX12_small_160 : decode cX12_small 160 = .ok (.iload 5, 2) := by decide +kernel
theorem dX12_small_162 : decode cX12_small 162 = .ok (.iload_n 2, 1) := by decide +kernel
theorem dX12_small_163 : decode cX12_small 163 = .ok (.if_icmp .lt 6, 3) := by decide +kernel
theorem dX12_small_166 : decode cX12_small 166 = .ok (.goto 11, 3) := by decide +kernel
theorem dX12_small_169 : decode cX12_small 169 = .ok (.iload 5, 2) := by decide +kernel
theorem dX12_small_171 : decode cX12_small 171 = .ok (.istore_n 2, 1) := by decide +kernel
theorem dX12_small_172 : decode cX12_small 172 = .ok (.aload_n 0, 1) := by decide +kernel
theorem dX12_small_173 : decode cX12_small 173 = .ok (.iload_n 3, 1) := by decide +kernel
theorem dX12_small_174 : decode cX12_small 174 = .ok (.putfield 117, 3) := by decide +kernel
theorem dX12_small_177 : decode cX12_small 177 = .ok (.iinc 3 1, 3) := by decide +kernel
theorem dX12_small_180 : decode cX12_small 180 = .ok (.goto (-157), 3) := by decide +kernel
theorem dX12_small_183 : decode cX12_small 183 = .ok (.iload_n 2, 1) := by decide +kernel
theorem dX12_small_184 : decode cX12_small 184 = .ok (.ireturn, 1) := by decide +kernel
theorem dX12_smallSet_0 : decode cX12_smallSet 0 = .ok (.aload_n 0, 1) := by decide +kernel
theorem dX12_smallSet_1 : decode cX12_smallSet 1 = .ok (.iconst 0, 1) := by decide +kernel
theorem dX12_smallSet_2 : decode cX12_smallSet 2 = .ok (.putfield 138, 3) := by decide +kernel
theorem dX12_smallSet_5 : decode cX12_smallSet 5 = .ok (.aload_n 0, 1) := by decide +kernel
theorem dX12_smallSet_6 : decode cX12_smallSet 6 = .ok (.getfield 117, 3) := by decide +kernel
theorem dX12_smallSet_9 : decode cX12_smallSet 9 = .ok (.ireturn, 1) := by decide +kernel
set_option maxRecDepth 20000 in
theorem ggX12_right_X12_isIn : GoodIn wsX12_right wsX12_isIn := goodIn_r _ [6] rfl (by decide +kernel)
set_option maxRecDepth 20000 in
theorem gX12_right_X12_isIn : GoodIn wsX12_right (va_wsS RX12 148 yX12_isIn wsX12_isIn) := goodIn_app (goodIn_r _ [3, 4, 5] rfl (by decide +kernel)) ggX12_right_X12_isIn
theorem dX12_right_0 : decode cX12_right 0 = .ok (.aload_n 0, 1) := by decide +kernel
theorem dX12_right_1 : decode cX12_right 1 = .ok (.iload_n 1, 1) := by decide +kernel
theorem dX12_right_2 : decode cX12_right 2 = .ok (.iconst 1, 1) := by decide +kernel
theorem dX12_right_3 : decode cX12_right 3 = .ok (.bipush 60, 2) := by decide +kernel
theorem dX12_right_5 : decode cX12_right 5 = .ok (.invokestatic 148, 3) := by decide +kernel
theorem dX12_right_8 : decode cX12_right 8 = .ok (.ifCond .eq 28, 3) := by decide +kernel
theorem dX12_right_11 : decode cX12_right 11 = .ok (.iload_n 2, 1) := by decide +kernel
theorem dX12_right_12 : decode cX12_right 12 = .ok (.iconst 1, 1) := by decide +kernel
theorem dX12_right_13 : decode cX12_right 13 = .ok (.bipush 16, 2) := by decide +kernel
theorem dX12_right_15 : decode cX12_right 15 = .ok (.invokestatic 148, 3) := by decide +kernel
theorem dX12_right_18 : decode cX12_right 18 = .ok (.ifCond .eq 18, 3) := by decide +kernel
theorem dX12_right_21 : decode cX12_right 21 = .ok (.iload_n 3, 1) := by decide +kernel
theorem dX12_right_22 : decode cX12_right 22 = .ok (.iconst 2, 1) := by decide +kernel
theorem dX12_right_23 : decode cX12_right 23 = .ok (.sipush 2000, 3) := by decide +kernel
theorem dX12_right_26 : decode cX12_right 26 = .ok (.invokestatic 148, 3) := by decide +kernel
theorem dX12_right_29 : decode cX12_right 29 = .ok (.ifCond .eq 7, 3) := by decide +kernel
theorem dX12_right_32 : decode cX12_right 32 = .ok (.iconst 0, 1) := by decide +kernel
theorem dX12_right_33 : decode cX12_right 33 = .ok (.goto 4, 3) := by decide +kernel
theorem dX12_right_36 : decode cX12_right 36 = .ok (.iconst 1, 1) := by decide +kernel
theorem dX12_right_37 : decode cX12_right 37 = .ok (.putfield 138, 3) := by decide +kernel
theorem dX12_right_40 : decode cX12_right 40 = .ok (.aload_n 0, 1) := by decide +kernel
theorem dX12_right_41 : decode cX12_right 41 = .ok (.getfield 138, 3) := by decide +kernel
theorem dX12_right_44 : decode cX12_right 44 = .ok (.ifCond .le 5, 3) := by decide +kernel
theorem dX12_right_47 : decode cX12_right 47 = .ok (.lconst 0, 1) := by decide +kernel
theorem dX12_right_48 : decode cX12_right 48 = .ok (.lreturn, 1) := by decide +kernel
theorem dX12_right_49 : decode cX12_right 49 = .ok (.ldc2_w 381, 3) := by decide +kernel
theorem dX12_right_52 : decode cX12_right 52 = .ok (.lstore 4, 2) := by decide +kernel
theorem dX12_right_54 : decode cX12_right 54 = .ok (.iconst 0, 1) := by decide +kernel
theorem dX12_right_55 : decode cX12_right 55 = .ok (.istore 6, 2) := by decide +kernel
theorem dX12_right_57 : decode cX12_right 57 = .ok (.iload 6, 2) := by decide +kernel
theorem dX12_right_59 : decode cX12_right 59 = .ok (.iload_n 1, 1) := by decide +kernel
theorem dX12_right_60 : decode cX12_right 60 = .ok (.iload_n 2, 1) := by decide +kernel
theorem dX12_right_61 : decode cX12_right 61 = .ok (.imul, 1) := by decide +kernel
theorem dX12_right_62 : decode cX12_right 62 = .ok (.if_icmp .ge 21, 3) := by decide +kernel
theorem dX12_right_65 : decode cX12_right 65 = .ok (.lload 4, 2) := by decide +kernel
theorem dX12_right_67 : decode cX12_right 67 = .ok (.iload_n 3, 1) := by decide +kernel
theorem dX12_right_68 : decode cX12_right 68 = .ok (.iconst 1, 1) := by decide +kernel
theorem dX12_right_69 : decode cX12_right 69 = .ok (.isub, 1) := by decide +kernel
theorem dX12_right_70 : decode cX12_right 70 = .ok (.i2l, 1) := by decide +kernel
theorem dX12_right_71 : decode cX12_right 71 = .ok (.lmul, 1) := by decide +kernel
theorem dX12_right_72 : decode cX12_right 72 = .ok (.iload_n 3, 1) := by decide +kernel
theorem dX12_right_73 : decode cX12_right 73 = .ok (.i2l, 1) := by decide +kernel
theorem dX12_right_74 : decode cX12_right 74 = .ok (.ldiv, 1) := by decide +kernel
theorem dX12_right_75 : decode cX12_right 75 = .ok (.lstore 4, 2) := by decide +kernel
theorem dX12_right_77 : decode cX12_right 77 = .ok (.iinc 6 1, 3) := by decide +kernel
theorem dX12_right_80 : decode cX12_right 80 = .ok (.goto (-23), 3) := by decide +kernel
theorem dX12_right_83 : decode cX12_right 83 = .ok (.lload 4, 2) := by decide +kernel
theorem dX12_right_85 : decode cX12_right 85 = .ok (.lreturn, 1) := by decide +kernel
set_option maxRecDepth 20000 in
theorem ggX12_note_X12_isIn : GoodIn wsX12_note wsX12_isIn := goodIn_r _ [12] rfl (by decide +kernel)
set_option maxRecDepth 20000 in
theorem gX12_note_X12_isIn : GoodIn wsX12_note (va_wsS RX12 148 yX12_isIn wsX12_isIn) := goodIn_app (goodIn_r _ [9, 10, 11] rfl (by decide +kernel)) ggX12_note_X12_isIn
theorem dX12_note_0 : decode cX12_note 0 = .ok (.aload_n 0, 1) := by decide +kernel
theorem dX12_note_1 : decode cX12_note 1 = .ok (.iconst 0, 1) := by decide +kernel
theorem dX12_note_2 : decode cX12_note 2 = .ok (.putfield 138, 3) := by decide +kernel
theorem dX12_note_5 : decode cX12_note 5 = .ok (.aload_n 0, 1) := by decide +kernel
theorem dX12_note_6 : decode cX12_note 6 = .ok (.getfield 158, 3) := by decide +kernel
theorem dX12_note_9 : decode cX12_note 9 = .ok (.bipush 60, 2) := by decide +kernel
theorem dX12_note_11 : decode cX12_note 11 = .ok (.if_icmp .eq 42, 3) := by decide +kernel
theorem dX12_note_14 : decode cX12_note 14 = .ok (.iload_n 1, 1) := by decide +kernel
theorem dX12_note_15 : decode cX12_note 15 = .ok (.iconst 0, 1) := by decide +kernel
theorem dX12_note_16 : decode cX12_note 16 = .ok (.aload_n 0, 1) := by decide +kernel
theorem dX12_note_17 : decode cX12_note 17 = .ok (.getfield 13, 3) := by decide +kernel
theorem dX12_note_20 : decode cX12_note 20 = .ok (.iconst 1, 1) := by decide +kernel
theorem dX12_note_21 : decode cX12_note 21 = .ok (.isub, 1) := by decide +kernel
theorem dX12_note_22 : decode cX12_note 22 = .ok (.invokestatic 148, 3) := by decide +kernel
theorem dX12_note_25 : decode cX12_note 25 = .ok (.ifCond .eq 28, 3) := by decide +kernel
theorem dX12_note_28 : decode cX12_note 28 = .ok (.iload_n 2, 1) := by decide +kernel
theorem dX12_note_29 : decode cX12_note 29 = .ok (.iload_n 1, 1) := by decide +kernel
theorem dX12_note_30 : decode cX12_note 30 = .ok (.aload_n 0, 1) := by decide +kernel
theorem dX12_note_31 : decode cX12_note 31 = .ok (.getfield 13, 3) := by decide +kernel
theorem dX12_note_34 : decode cX12_note 34 = .ok (.iconst 1, 1) := by decide +kernel
theorem dX12_note_35 : decode cX12_note 35 = .ok (.isub, 1) := by decide +kernel
theorem dX12_note_36 : decode cX12_note 36 = .ok (.invokestatic 148, 3) := by decide +kernel
theorem dX12_note_39 : decode cX12_note 39 = .ok (.ifCond .eq 14, 3) := by decide +kernel
theorem dX12_note_42 : decode cX12_note 42 = .ok (.iload_n 3, 1) := by decide +kernel
theorem dX12_note_43 : decode cX12_note 43 = .ok (.iconst 1, 1) := by decide +kernel
theorem dX12_note_44 : decode cX12_note 44 = .ok (.sipush 200, 3) := by decide +kernel
theorem dX12_note_47 : decode cX12_note 47 = .ok (.invokestatic 148, 3) := by decide +kernel
theorem dX12_note_50 : decode cX12_note 50 = .ok (.ifCond .ne 5, 3) := by decide +kernel
theorem dX12_note_53 : decode cX12_note 53 = .ok (.iconst (-1), 1) := by decide +kernel
theorem dX12_note_54 : decode cX12_note 54 = .ok (.ireturn, 1) := by decide +kernel
theorem dX12_note_55 : decode cX12_note 55 = .ok (.aload_n 0, 1) := by decide +kernel
theorem dX12_note_56 : decode cX12_note 56 = .ok (.getfield 120, 3) := by decide +kernel
theorem dX12_note_59 : decode cX12_note 59 = .ok (.aload_n 0, 1) := by decide +kernel
theorem dX12_note_60 : decode cX12_note 60 = .ok (.getfield 158, 3) := by decide +kernel
theorem dX12_note_63 : decode cX12_note 63 = .ok (.iload_n 1, 1) := by decide +kernel
theorem dX12_note_64 : decode cX12_note 64 = .ok (.iastore, 1) := by decide +kernel
theorem dX12_note_65 : decode cX12_note 65 = .ok (.aload_n 0, 1) := by decide +kernel
theorem dX12_note_66 : decode cX12_note 66 = .ok (.getfield 123, 3) := by decide +kernel
theorem dX12_note_69 : decode cX12_note 69 = .ok (.aload_n 0, 1) := by decide +kernel
theorem dX12_note_70 : decode cX12_note 70 = .ok (.getfield 158, 3) := by decide +kernel
theorem dX12_note_73 : decode cX12_note 73 = .ok (.iload_n 2, 1) := by decide +kernel
theorem dX12_note_74 : decode cX12_note 74 = .ok (.iastore, 1) := by decide +kernel
theorem dX12_note_75 : decode cX12_note 75 = .ok (.aload_n 0, 1) := by decide +kernel
theorem dX12_note_76 : decode cX12_note 76 = .ok (.getfield 126, 3) := by decide +kernel
theorem dX12_note_79 : decode cX12_note 79 = .ok (.aload_n 0, 1) := by decide +kernel
theorem dX12_note_80 : decode cX12_note 80 = .ok (.getfield 158, 3) := by decide +kernel
theorem dX12_note_83 : decode cX12_note 83 = .ok (.iload_n 3, 1) := by decide +kernel
theorem dX12_note_84 : decode cX12_note 84 = .ok (.iastore, 1) := by decide +kernel
theorem dX12_note_85 : decode cX12_note 85 = .ok (.aload_n 0, 1) := by decide +kernel
theorem dX12_note_86 : decode cX12_note 86 = .ok (.getfield 129, 3) := by decide +kernel
theorem dX12_note_89 : decode cX12_note 89 = .ok (.aload_n 0, 1) := by decide +kernel
theorem dX12_note_90 : decode cX12_note 90 = .ok (.getfield 158, 3) := by decide +kernel
theorem dX12_note_93 : decode cX12_note 93 = .ok (.aload_n 0, 1) := by decide +kernel
theorem dX12_note_94 : decode cX12_note 94 = .ok (.getfield 152, 3) := by decide +kernel
theorem dX12_note_97 : decode cX12_note 97 = .ok (.iastore, 1) := by decide +kernel
theorem dX12_note_98 : decode cX12_note 98 = .ok (.aload_n 0, 1) := by decide +kernel
theorem dX12_note_99 : decode cX12_note 99 = .ok (.dup, 1) := by decide +kernel
theorem dX12_note_100 : decode cX12_note 100 = .ok (.getfield 158, 3) := by decide +kernel
theorem dX12_note_103 : decode cX12_note 103 = .ok (.iconst 1, 1) := by decide +kernel
theorem dX12_note_104 : decode cX12_note 104 = .ok (.iadd, 1) := by decide +kernel
theorem dX12_note_105 : decode cX12_note 105 = .ok (.putfield 158, 3) := by decide +kernel
theorem dX12_note_108 : decode cX12_note 108 = .ok (.aload_n 0, 1) := by decide +kernel
theorem dX12_note_109 : decode cX12_note 109 = .ok (.getfield 158, 3) := by decide +kernel
theorem dX12_note_112 : decode cX12_note 112 = .ok (.iconst 1, 1) := by decide +kernel
theorem dX12_note_113 : decode cX12_note 113 = .ok (.isub, 1) := by decide +kernel
theorem dX12_note_114 : decode cX12_note 114 = .ok (.ireturn, 1) := by decide +kernel
theorem dX12_bound_0 : decode cX12_bound 0 = .ok (.iload_n 3, 1) := by decide +kernel
theorem dX12_bound_1 : decode cX12_bound 1 = .ok (.aload_n 0, 1) := by decide +kernel
theorem dX12_bound_2 : decode cX12_bound 2 = .ok (.getfield 132, 3) := by decide +kernel
theorem dX12_bound_5 : decode cX12_bound 5 = .ok (.bipush 17, 2) := by decide +kernel
theorem dX12_bound_7 : decode cX12_bound 7 = .ok (.iload_n 1, 1) := by decide +kernel
theorem dX12_bound_8 : decode cX12_bound 8 = .ok (.imul, 1) := by decide +kernel
theorem dX12_bound_9 : decode cX12_bound 9 = .ok (.iload_n 2, 1) := by decide +kernel
theorem dX12_bound_10 : decode cX12_bound 10 = .ok (.iadd, 1) := by decide +kernel
theorem dX12_bound_11 : decode cX12_bound 11 = .ok (.iaload, 1) := by decide +kernel
theorem dX12_bound_12 : decode cX12_bound 12 = .ok (.if_icmp .ge 15, 3) := by decide +kernel
theorem dX12_bound_15 : decode cX12_bound 15 = .ok (.aload_n 0, 1) := by decide +kernel
theorem dX12_bound_16 : decode cX12_bound 16 = .ok (.getfield 132, 3) := by decide +kernel
theorem dX12_bound_19 : decode cX12_bound 19 = .ok (.bipush 17, 2) := by decide +kernel
theorem dX12_bound_21 : decode cX12_bound 21 = .ok (.iload_n 1, 1) := by decide +kernel
theorem dX12_bound_22 : decode cX12_bound 22 = .ok (.imul, 1) := by decide +kernel
theorem dX12_bound_23 : decode cX12_bound 23 = .ok (.iload_n 2, 1) := by decide +kernel
theorem dX12_bound_24 : decode cX12_bound 24 = .ok (.iadd, 1) := by decide +kernel
theorem dX12_bound_25 : decode cX12_bound 25 = .ok (.iload_n 3, 1) := by decide +kernel
theorem dX12_bound_26 : decode cX12_bound 26 = .ok (.iastore, 1) := by decide +kernel
theorem dX12_bound_27 : decode cX12_bound 27 = .ok (.return_, 1) := by decide +kernel
set_option maxRecDepth 20000 in
theorem ggX12_reckon_X12_bound : GoodIn wsX12_reckon wsX12_bound := goodIn_r _ [13, 1, 14, 15, 16, 17, 18, 19, 20, 21, 22, 23, 24, 25, 26, 27, 28, 29, 30, 31, 32, 33, 34, 35, 36, 37, 38, 39, 40, 41, 42, 43, 44, 45, 46, 47, 48, 49, 50, 51, 52, 53, 54, 55, 56, 57, 58, 59, 60, 61, 62, 63, 64, 65, 66, 67, 68, 69, 70, 71, 72, 73, 74, 75, 76, 77, 78, 79, 80, 81, 82, 83, 84, 85, 86, 87, 88, 89, 90, 91, 92, 93, 94, 95, 96] rfl (by decide +kernel)
set_option maxRecDepth 20000 in
theorem gX12_reckon_X12_bound : GoodIn wsX12_reckon (wsV RX12 383 RX12 yX12_bound wsX12_bound) := goodIn_app (goodIn_r _ [9, 10, 11, 12] rfl (by decide +kernel)) ggX12_reckon_X12_bound
theorem dX12_reckon_0 : decode cX12_reckon 0 = .ok (.iconst 0, 1) := by decide +kernel
theorem dX12_reckon_1 : decode cX12_reckon 1 = .ok (.istore_n 2, 1) := by decide +kernel
theorem dX12_reckon_2 : decode cX12_reckon 2 = .ok (.iload_n 2, 1) := by decide +kernel
theorem dX12_reckon_3 : decode cX12_reckon 3 = .ok (.sipush 289, 3) := by decide +kernel
theorem dX12_reckon_6 : decode cX12_reckon 6 = .ok (.if_icmp .ge 29, 3) := by decide +kernel
theorem dX12_reckon_9 : decode cX12_reckon 9 = .ok (.aload_n 0, 1) := by decide +kernel
theorem dX12_reckon_10 : decode cX12_reckon 10 = .ok (.getfield 132, 3) := by decide +kernel
theorem dX12_reckon_13 : decode cX12_reckon 13 = .ok (.iload_n 2, 1) := by decide +kernel
theorem dX12_reckon_14 : decode cX12_reckon 14 = .ok (.iload_n 2, 1) := by decide +kernel
theorem dX12_reckon_15 : decode cX12_reckon 15 = .ok (.bipush 18, 2) := by decide +kernel
theorem dX12_reckon_17 : decode cX12_reckon 17 = .ok (.irem, 1) := by decide +kernel
theorem dX12_reckon_18 : decode cX12_reckon 18 = .ok (.ifCond .ne 7, 3) := by decide +kernel
theorem dX12_reckon_21 : decode cX12_reckon 21 = .ok (.iconst 0, 1) := by decide +kernel
theorem dX12_reckon_22 : decode cX12_reckon 22 = .ok (.goto 6, 3) := by decide +kernel
theorem dX12_reckon_25 : decode cX12_reckon 25 = .ok (.ldc_w 380, 3) := by decide +kernel
theorem dX12_reckon_28 : decode cX12_reckon 28 = .ok (.iastore, 1) := by decide +kernel
theorem dX12_reckon_29 : decode cX12_reckon 29 = .ok (.iinc 2 1, 3) := by decide +kernel
theorem dX12_reckon_32 : decode cX12_reckon 32 = .ok (.goto (-30), 3) := by decide +kernel
theorem dX12_reckon_35 : decode cX12_reckon 35 = .ok (.iconst 0, 1) := by decide +kernel
theorem dX12_reckon_36 : decode cX12_reckon 36 = .ok (.istore_n 2, 1) := by decide +kernel
theorem dX12_reckon_37 : decode cX12_reckon 37 = .ok (.iload_n 2, 1) := by decide +kernel
theorem dX12_reckon_38 : decode cX12_reckon 38 = .ok (.aload_n 0, 1) := by decide +kernel
theorem dX12_reckon_39 : decode cX12_reckon 39 = .ok (.getfield 13, 3) := by decide +kernel
theorem dX12_reckon_42 : decode cX12_reckon 42 = .ok (.if_icmp .ge 28, 3) := by decide +kernel
theorem dX12_reckon_45 : decode cX12_reckon 45 = .ok (.aload_n 0, 1) := by decide +kernel
theorem dX12_reckon_46 : decode cX12_reckon 46 = .ok (.iload_n 2, 1) := by decide +kernel
theorem dX12_reckon_47 : decode cX12_reckon 47 = .ok (.iload_n 2, 1) := by decide +kernel
theorem dX12_reckon_48 : decode cX12_reckon 48 = .ok (.iconst 1, 1) := by decide +kernel
theorem dX12_reckon_49 : decode cX12_reckon 49 = .ok (.iadd, 1) := by decide +kernel
theorem dX12_reckon_50 : decode cX12_reckon 50 = .ok (.bipush 9, 2) := by decide +kernel
theorem dX12_reckon_52 : decode cX12_reckon 52 = .ok (.invokevirtual 383, 3) := by decide +kernel
theorem dX12_reckon_55 : decode cX12_reckon 55 = .ok (.aload_n 0, 1) := by decide +kernel
theorem dX12_reckon_56 : decode cX12_reckon 56 = .ok (.iload_n 2, 1) := by decide +kernel
theorem dX12_reckon_57 : decode cX12_reckon 57 = .ok (.iconst 1, 1) := by decide +kernel
theorem dX12_reckon_58 : decode cX12_reckon 58 = .ok (.iadd, 1) := by decide +kernel
theorem dX12_reckon_59 : decode cX12_reckon 59 = .ok (.iload_n 2, 1) := by decide +kernel
theorem dX12_reckon_60 : decode cX12_reckon 60 = .ok (.iconst (-1), 1) := by decide +kernel
theorem dX12_reckon_61 : decode cX12_reckon 61 = .ok (.invokevirtual 383, 3) := by decide +kernel
theorem dX12_reckon_64 : decode cX12_reckon 64 = .ok (.iinc 2 1, 3) := by decide +kernel
theorem dX12_reckon_67 : decode cX12_reckon 67 = .ok (.goto (-30), 3) := by decide +kernel
theorem dX12_reckon_70 : decode cX12_reckon 70 = .ok (.iconst 0, 1) := by decide +kernel
theorem dX12_reckon_71 : decode cX12_reckon 71 = .ok (.istore_n 2, 1) := by decide +kernel
theorem dX12_reckon_72 : decode cX12_reckon 72 = .ok (.iload_n 2, 1) := by decide +kernel
theorem dX12_reckon_73 : decode cX12_reckon 73 = .ok (.aload_n 0, 1) := by decide +kernel
theorem dX12_reckon_74 : decode cX12_reckon 74 = .ok (.getfield 158, 3) := by decide +kernel
theorem dX12_reckon_77 : decode cX12_reckon 77 = .ok (.if_icmp .ge 71, 3) := by decide +kernel
theorem dX12_reckon_80 : decode cX12_reckon 80 = .ok (.aload_n 0, 1) := by decide +kernel
theorem dX12_reckon_81 : decode cX12_reckon 81 = .ok (.getfield 129, 3) := by decide +kernel
theorem dX12_reckon_84 : decode cX12_reckon 84 = .ok (.iload_n 2, 1) := by decide +kernel
theorem dX12_reckon_85 : decode cX12_reckon 85 = .ok (.iaload, 1) := by decide +kernel
theorem dX12_reckon_86 : decode cX12_reckon 86 = .ok (.iload_n 1, 1) := by decide +kernel
theorem dX12_reckon_87 : decode cX12_reckon 87 = .ok (.if_icmp .le 6, 3) := by decide +kernel
theorem dX12_reckon_90 : decode cX12_reckon 90 = .ok (.goto 52, 3) := by decide +kernel
theorem dX12_reckon_93 : decode cX12_reckon 93 = .ok (.aload_n 0, 1) := by decide +kernel
theorem dX12_reckon_94 : decode cX12_reckon 94 = .ok (.aload_n 0, 1) := by decide +kernel
theorem dX12_reckon_95 : decode cX12_reckon 95 = .ok (.getfield 120, 3) := by decide +kernel
theorem dX12_reckon_98 : decode cX12_reckon 98 = .ok (.iload_n 2, 1) := by decide +kernel
theorem dX12_reckon_99 : decode cX12_reckon 99 = .ok (.iaload, 1) := by decide +kernel
theorem dX12_reckon_100 : decode cX12_reckon 100 = .ok (.aload_n 0, 1) := by decide +kernel
theorem dX12_reckon_101 : decode cX12_reckon 101 = .ok (.getfield 123, 3) := by decide +kernel
theorem dX12_reckon_104 : decode cX12_reckon 104 = .ok (.iload_n 2, 1) := by decide +kernel
theorem dX12_reckon_105 : decode cX12_reckon 105 = .ok (.iaload, 1) := by decide +kernel
theorem dX12_reckon_106 : decode cX12_reckon 106 = .ok (.iconst 1, 1) := by decide +kernel
theorem dX12_reckon_107 : decode cX12_reckon 107 = .ok (.iadd, 1) := by decide +kernel
theorem dX12_reckon_108 : decode cX12_reckon 108 = .ok (.aload_n 0, 1) := by decide +kernel
theorem dX12_reckon_109 : decode cX12_reckon 109 = .ok (.getfield 126, 3) := by decide +kernel
theorem dX12_reckon_112 : decode cX12_reckon 112 = .ok (.iload_n 2, 1) := by decide +kernel
theorem dX12_reckon_113 : decode cX12_reckon 113 = .ok (.iaload, 1) := by decide +kernel
theorem dX12_reckon_114 : decode cX12_reckon 114 = .ok (.invokevirtual 383, 3) := by decide +kernel
theorem dX12_reckon_117 : decode cX12_reckon 117 = .ok (.aload_n 0, 1) := by decide +kernel
theorem dX12_reckon_118 : decode cX12_reckon 118 = .ok (.aload_n 0, 1) := by decide +kernel
theorem dX12_reckon_119 : decode cX12_reckon 119 = .ok (.getfield 123, 3) := by decide +kernel
theorem dX12_reckon_122 : decode cX12_reckon 122 = .ok (.iload_n 2, 1) := by decide +kernel
theorem dX12_reckon_123 : decode cX12_reckon 123 = .ok (.iaload, 1) := by decide +kernel
theorem dX12_reckon_124 : decode cX12_reckon 124 = .ok (.iconst 1, 1) := by decide +kernel
theorem dX12_reckon_125 : decode cX12_reckon 125 = .ok (.iadd, 1) := by decide +kernel
theorem dX12_reckon_126 : decode cX12_reckon 126 = .ok (.aload_n 0, 1) := by decide +kernel
theorem dX12_reckon_127 : decode cX12_reckon 127 = .ok (.getfield 120, 3) := by decide +kernel
theorem dX12_reckon_130 : decode cX12_reckon 130 = .ok (.iload_n 2, 1) := by decide +kernel
theorem dX12_reckon_131 : decode cX12_reckon 131 = .ok (.iaload, 1) := by decide +kernel
theorem dX12_reckon_132 : decode cX12_reckon 132 = .ok (.aload_n 0, 1) := by decide +kernel
theorem dX12_reckon_133 : decode cX12_reckon 133 = .ok (.getfield 126, 3) := by decide +kernel
theorem dX12_reckon_136 : decode cX12_reckon 136 = .ok (.iload_n 2, 1) := by decide +kernel
theorem dX12_reckon_137 : decode cX12_reckon 137 = .ok (.iaload, 1) := by decide +kernel
theorem dX12_reckon_138 : decode cX12_reckon 138 = .ok (.ineg, 1) := by decide +kernel
theorem dX12_reckon_139 : decode cX12_reckon 139 = .ok (.invokevirtual 383, 3) := by decide +kernel
theorem dX12_reckon_142 : decode cX12_reckon 142 = .ok (.iinc 2 1, 3) := by decide +kernel
theorem dX12_reckon_145 : decode cX12_reckon 145 = .ok (.goto (-73), 3) := by decide +kernel
theorem dX12_reckon_148 : decode cX12_reckon 148 = .ok (.iconst 0, 1) := by decide +kernel
theorem dX12_reckon_149 : decode cX12_reckon 149 = .ok (.istore_n 2, 1) := by decide +kernel
theorem dX12_reckon_150 : decode cX12_reckon 150 = .ok (.iload_n 2, 1) := by decide +kernel
theorem dX12_reckon_151 : decode cX12_reckon 151 = .ok (.aload_n 0, 1) := by decide +kernel
theorem dX12_reckon_152 : decode cX12_reckon 152 = .ok (.getfield 13, 3) := by decide +kernel
theorem dX12_reckon_155 : decode cX12_reckon 155 = .ok (.if_icmp .gt 142, 3) := by decide +kernel
theorem dX12_reckon_158 : decode cX12_reckon 158 = .ok (.iconst 0, 1) := by decide +kernel
theorem dX12_reckon_159 : decode cX12_reckon 159 = .ok (.istore_n 3, 1) := by decide +kernel
theorem dX12_reckon_160 : decode cX12_reckon 160 = .ok (.iload_n 3, 1) := by decide +kernel
theorem dX12_reckon_161 : decode cX12_reckon 161 = .ok (.aload_n 0, 1) := by decide +kernel
theorem dX12_reckon_162 : decode cX12_reckon 162 = .ok (.getfield 13, 3) := by decide +kernel
theorem dX12_reckon_165 : decode cX12_reckon 165 = .ok (.if_icmp .gt 96, 3) := by decide +kernel
theorem dX12_reckon_168 : decode cX12_reckon 168 = .ok (.iconst 0, 1) := by decide +kernel
theorem dX12_reckon_169 : decode cX12_reckon 169 = .ok (.istore 4, 2) := by decide +kernel
theorem dX12_reckon_171 : decode cX12_reckon 171 = .ok (.iload 4, 2) := by decide +kernel
theorem dX12_reckon_173 : decode cX12_reckon 173 = .ok (.aload_n 0, 1) := by decide +kernel
theorem dX12_reckon_174 : decode cX12_reckon 174 = .ok (.getfield 13, 3) := by decide +kernel
theorem dX12_reckon_177 : decode cX12_reckon 177 = .ok (.if_icmp .gt 78, 3) := by decide +kernel
theorem dX12_reckon_180 : decode cX12_reckon 180 = .ok (.aload_n 0, 1) := by decide +kernel
theorem dX12_reckon_181 : decode cX12_reckon 181 = .ok (.getfield 132, 3) := by decide +kernel
theorem dX12_reckon_184 : decode cX12_reckon 184 = .ok (.bipush 17, 2) := by decide +kernel
theorem dX12_reckon_186 : decode cX12_reckon 186 = .ok (.iload_n 3, 1) := by decide +kernel
theorem dX12_reckon_187 : decode cX12_reckon 187 = .ok (.imul, 1) := by decide +kernel
theorem dX12_reckon_188 : decode cX12_reckon 188 = .ok (.iload_n 2, 1) := by decide +kernel
theorem dX12_reckon_189 : decode cX12_reckon 189 = .ok (.iadd, 1) := by decide +kernel
theorem dX12_reckon_190 : decode cX12_reckon 190 = .ok (.iaload, 1) := by decide +kernel
theorem dX12_reckon_191 : decode cX12_reckon 191 = .ok (.ldc_w 380, 3) := by decide +kernel
theorem dX12_reckon_194 : decode cX12_reckon 194 = .ok (.if_icmp .ge 55, 3) := by decide +kernel
theorem dX12_reckon_197 : decode cX12_reckon 197 = .ok (.aload_n 0, 1) := by decide +kernel
theorem dX12_reckon_198 : decode cX12_reckon 198 = .ok (.getfield 132, 3) := by decide +kernel
theorem dX12_reckon_201 : decode cX12_reckon 201 = .ok (.bipush 17, 2) := by decide +kernel
theorem dX12_reckon_203 : decode cX12_reckon 203 = .ok (.iload_n 2, 1) := by decide +kernel
theorem dX12_reckon_204 : decode cX12_reckon 204 = .ok (.imul, 1) := by decide +kernel
theorem dX12_reckon_205 : decode cX12_reckon 205 = .ok (.iload 4, 2) := by decide +kernel
theorem dX12_reckon_207 : decode cX12_reckon 207 = .ok (.iadd, 1) := by decide +kernel
theorem dX12_reckon_208 : decode cX12_reckon 208 = .ok (.iaload, 1) := by decide +kernel
theorem dX12_reckon_209 : decode cX12_reckon 209 = .ok (.ldc_w 380, 3) := by decide +kernel
theorem dX12_reckon_212 : decode cX12_reckon 212 = .ok (.if_icmp .lt 6, 3) := by decide +kernel
theorem dX12_reckon_215 : decode cX12_reckon 215 = .ok (.goto 34, 3) := by decide +kernel
theorem dX12_reckon_218 : decode cX12_reckon 218 = .ok (.aload_n 0, 1) := by decide +kernel
theorem dX12_reckon_219 : decode cX12_reckon 219 = .ok (.iload_n 3, 1) := by decide +kernel
theorem dX12_reckon_220 : decode cX12_reckon 220 = .ok (.iload 4, 2) := by decide +kernel
theorem dX12_reckon_222 : decode cX12_reckon 222 = .ok (.aload_n 0, 1) := by decide +kernel
theorem dX12_reckon_223 : decode cX12_reckon 223 = .ok (.getfield 132, 3) := by decide +kernel
theorem dX12_reckon_226 : decode cX12_reckon 226 = .ok (.bipush 17, 2) := by decide +kernel
theorem dX12_reckon_228 : decode cX12_reckon 228 = .ok (.iload_n 3, 1) := by decide +kernel
theorem dX12_reckon_229 : decode cX12_reckon 229 = .ok (.imul, 1) := by decide +kernel
theorem dX12_reckon_230 : decode cX12_reckon 230 = .ok (.iload_n 2, 1) := by decide +kernel
theorem dX12_reckon_231 : decode cX12_reckon 231 = .ok (.iadd, 1) := by decide +kernel
theorem dX12_reckon_232 : decode cX12_reckon 232 = .ok (.iaload, 1) := by decide +kernel
theorem dX12_reckon_233 : decode cX12_reckon 233 = .ok (.aload_n 0, 1) := by decide +kernel
theorem dX12_reckon_234 : decode cX12_reckon 234 = .ok (.getfield 132, 3) := by decide +kernel
theorem dX12_reckon_237 : decode cX12_reckon 237 = .ok (.bipush 17, 2) := by decide +kernel
theorem dX12_reckon_239 : decode cX12_reckon 239 = .ok (.iload_n 2, 1) := by decide +kernel
theorem dX12_reckon_240 : decode cX12_reckon 240 = .ok (.imul, 1) := by decide +kernel
theorem dX12_reckon_241 : decode cX12_reckon 241 = .ok (.iload 4, 2) := by decide +kernel
theorem dX12_reckon_243 : decode cX12_reckon 243 = .ok (.iadd, 1) := by decide +kernel
theorem dX12_reckon_244 : decode cX12_reckon 244 = .ok (.iaload, 1) := by decide +kernel
theorem dX12_reckon_245 : decode cX12_reckon 245 = .ok (.iadd, 1) := by decide +kernel
theorem dX12_reckon_246 : decode cX12_reckon 246 = .ok (.invokevirtual 383, 3) := by decide +kernel
theorem dX12_reckon_249 : decode cX12_reckon 249 = .ok (.iinc 4 1, 3) := by decide +kernel
theorem dX12_reckon_252 : decode cX12_reckon 252 = .ok (.goto (-81), 3) := by decide +kernel
theorem dX12_reckon_255 : decode cX12_reckon 255 = .ok (.iinc 3 1, 3) := by decide +kernel
theorem dX12_reckon_258 : decode cX12_reckon 258 = .ok (.goto (-98), 3) := by decide +kernel
theorem dX12_reckon_261 : decode cX12_reckon 261 = .ok (.iconst 0, 1) := by decide +kernel
theorem dX12_reckon_262 : decode cX12_reckon 262 = .ok (.istore_n 3, 1) := by decide +kernel
theorem dX12_reckon_263 : decode cX12_reckon 263 = .ok (.iload_n 3, 1) := by decide +kernel
theorem dX12_reckon_264 : decode cX12_reckon 264 = .ok (.aload_n 0, 1) := by decide +kernel
theorem dX12_reckon_265 : decode cX12_reckon 265 = .ok (.getfield 13, 3) := by decide +kernel
theorem dX12_reckon_268 : decode cX12_reckon 268 = .ok (.if_icmp .gt 23, 3) := by decide +kernel
theorem dX12_reckon_271 : decode cX12_reckon 271 = .ok (.aload_n 0, 1) := by decide +kernel
theorem dX12_reckon_272 : decode cX12_reckon 272 = .ok (.getfield 132, 3) := by decide +kernel
theorem dX12_reckon_275 : decode cX12_reckon 275 = .ok (.bipush 18, 2) := by decide +kernel
theorem dX12_reckon_277 : decode cX12_reckon 277 = .ok (.iload_n 3, 1) := by decide +kernel
theorem dX12_reckon_278 : decode cX12_reckon 278 = .ok (.imul, 1) := by decide +kernel
theorem dX12_reckon_279 : decode cX12_reckon 279 = .ok (.iaload, 1) := by decide +kernel
theorem dX12_reckon_280 : decode cX12_reckon 280 = .ok (.ifCond .ge 5, 3) := by decide +kernel
theorem dX12_reckon_283 : decode cX12_reckon 283 = .ok (.iconst 0, 1) := by decide +kernel
theorem dX12_reckon_284 : decode cX12_reckon 284 = .ok (.ireturn, 1) := by decide +kernel
theorem dX12_reckon_285 : decode cX12_reckon 285 = .ok (.iinc 3 1, 3) := by decide +kernel
theorem dX12_reckon_288 : decode cX12_reckon 288 = .ok (.goto (-25), 3) := by decide +kernel
theorem dX12_reckon_291 : decode cX12_reckon 291 = .ok (.iinc 2 1, 3) := by decide +kernel
theorem dX12_reckon_294 : decode cX12_reckon 294 = .ok (.goto (-144), 3) := by decide +kernel
theorem dX12_reckon_297 : decode cX12_reckon 297 = .ok (.iconst 1, 1) := by decide +kernel
theorem dX12_reckon_298 : decode cX12_reckon 298 = .ok (.ireturn, 1) := by decide +kernel
set_option maxRecDepth 20000 in
theorem ggX12_delay_X12_isIn : GoodIn wsX12_delay wsX12_isIn := goodIn_r _ [7] rfl (by decide +kernel)
set_option maxRecDepth 20000 in
theorem gX12_delay_X12_isIn : GoodIn wsX12_delay (va_wsS RX12 148 yX12_isIn wsX12_isIn) := goodIn_app (goodIn_r _ [4, 5, 6] rfl (by decide +kernel)) ggX12_delay_X12_isIn
set_option maxRecDepth 20000 in
theorem ggX12_delay_X12_reckon : GoodIn wsX12_delay wsX12_reckon := goodIn_r _ [11, 3, 12, 2, 13, 14, 15, 16, 17, 18, 19, 20, 6, 21, 22, 23, 24, 25, 26, 27, 28, 29, 30, 31, 32, 33, 34, 35, 36, 37, 38, 39, 40, 41, 42, 43, 44, 45, 46, 47, 48, 49, 50, 51, 52, 53, 54, 55, 56, 57, 58, 59, 60, 61, 62, 63, 64, 65, 66, 67, 68, 69, 70, 71, 72, 73, 74, 75, 76, 77, 78, 79, 80, 81, 82, 83, 84, 85, 86, 87, 88, 89, 90, 91, 92, 93, 94, 95, 96, 97, 98, 99, 100, 101, 102, 103, 104] rfl (by decide +kernel)
set_option maxRecDepth 20000 in
theorem gX12_delay_X12_reckon : GoodIn wsX12_delay (wsV RX12 386 RX12 yX12_reckon wsX12_reckon) := goodIn_app (goodIn_r _ [8, 9, 10, 6] rfl (by decide +kernel)) ggX12_delay_X12_reckon
theorem dX12_delay_0 : decode cX12_delay 0 = .ok (.aload_n 0, 1) := by decide +kernel
theorem dX12_delay_1 : decode cX12_delay 1 = .ok (.iconst 0, 1) := by decide +kernel
theorem dX12_delay_2 : decode cX12_delay 2 = .ok (.putfield 138, 3) := by decide +kernel
theorem dX12_delay_5 : decode cX12_delay 5 = .ok (.iload_n 1, 1) := by decide +kernel
theorem dX12_delay_6 : decode cX12_delay 6 = .ok (.iconst 0, 1) := by decide +kernel
theorem dX12_delay_7 : decode cX12_delay 7 = .ok (.aload_n 0, 1) := by decide +kernel
theorem dX12_delay_8 : decode cX12_delay 8 = .ok (.getfield 13, 3) := by decide +kernel
theorem dX12_delay_11 : decode cX12_delay 11 = .ok (.iconst 1, 1) := by decide +kernel
theorem dX12_delay_12 : decode cX12_delay 12 = .ok (.isub, 1) := by decide +kernel
theorem dX12_delay_13 : decode cX12_delay 13 = .ok (.invokestatic 148, 3) := by decide +kernel
theorem dX12_delay_16 : decode cX12_delay 16 = .ok (.ifCond .eq 12, 3) := by decide +kernel
theorem dX12_delay_19 : decode cX12_delay 19 = .ok (.iload_n 3, 1) := by decide +kernel
theorem dX12_delay_20 : decode cX12_delay 20 = .ok (.iconst 0, 1) := by decide +kernel
theorem dX12_delay_21 : decode cX12_delay 21 = .ok (.iconst 1, 1) := by decide +kernel
theorem dX12_delay_22 : decode cX12_delay 22 = .ok (.invokestatic 148, 3) := by decide +kernel
theorem dX12_delay_25 : decode cX12_delay 25 = .ok (.ifCond .ne 5, 3) := by decide +kernel
theorem dX12_delay_28 : decode cX12_delay 28 = .ok (.iconst (-1), 1) := by decide +kernel
theorem dX12_delay_29 : decode cX12_delay 29 = .ok (.ireturn, 1) := by decide +kernel
theorem dX12_delay_30 : decode cX12_delay 30 = .ok (.aload_n 0, 1) := by decide +kernel
theorem dX12_delay_31 : decode cX12_delay 31 = .ok (.iload_n 2, 1) := by decide +kernel
theorem dX12_delay_32 : decode cX12_delay 32 = .ok (.invokevirtual 386, 3) := by decide +kernel
theorem dX12_delay_35 : decode cX12_delay 35 = .ok (.ifCond .ne 6, 3) := by decide +kernel
theorem dX12_delay_38 : decode cX12_delay 38 = .ok (.bipush (-2), 2) := by decide +kernel
theorem dX12_delay_40 : decode cX12_delay 40 = .ok (.ireturn, 1) := by decide +kernel
theorem dX12_delay_41 : decode cX12_delay 41 = .ok (.iload_n 3, 1) := by decide +kernel
theorem dX12_delay_42 : decode cX12_delay 42 = .ok (.ifCond .ne 20, 3) := by decide +kernel
theorem dX12_delay_45 : decode cX12_delay 45 = .ok (.aload_n 0, 1) := by decide +kernel
theorem dX12_delay_46 : decode cX12_delay 46 = .ok (.getfield 132, 3) := by decide +kernel
theorem dX12_delay_49 : decode cX12_delay 49 = .ok (.bipush 17, 2) := by decide +kernel
theorem dX12_delay_51 : decode cX12_delay 51 = .ok (.iload_n 1, 1) := by decide +kernel
theorem dX12_delay_52 : decode cX12_delay 52 = .ok (.iconst 1, 1) := by decide +kernel
theorem dX12_delay_53 : decode cX12_delay 53 = .ok (.iadd, 1) := by decide +kernel
theorem dX12_delay_54 : decode cX12_delay 54 = .ok (.imul, 1) := by decide +kernel
theorem dX12_delay_55 : decode cX12_delay 55 = .ok (.iload_n 1, 1) := by decide +kernel
theorem dX12_delay_56 : decode cX12_delay 56 = .ok (.iadd, 1) := by decide +kernel
theorem dX12_delay_57 : decode cX12_delay 57 = .ok (.iaload, 1) := by decide +kernel
theorem dX12_delay_58 : decode cX12_delay 58 = .ok (.ineg, 1) := by decide +kernel
theorem dX12_delay_59 : decode cX12_delay 59 = .ok (.goto 16, 3) := by decide +kernel
theorem dX12_delay_62 : decode cX12_delay 62 = .ok (.aload_n 0, 1) := by decide +kernel
theorem dX12_delay_63 : decode cX12_delay 63 = .ok (.getfield 132, 3) := by decide +kernel
theorem dX12_delay_66 : decode cX12_delay 66 = .ok (.bipush 17, 2) := by decide +kernel
theorem dX12_delay_68 : decode cX12_delay 68 = .ok (.iload_n 1, 1) := by decide +kernel
theorem dX12_delay_69 : decode cX12_delay 69 = .ok (.imul, 1) := by decide +kernel
theorem dX12_delay_70 : decode cX12_delay 70 = .ok (.iload_n 1, 1) := by decide +kernel
theorem dX12_delay_71 : decode cX12_delay 71 = .ok (.iadd, 1) := by decide +kernel
theorem dX12_delay_72 : decode cX12_delay 72 = .ok (.iconst 1, 1) := by decide +kernel
theorem dX12_delay_73 : decode cX12_delay 73 = .ok (.iadd, 1) := by decide +kernel
theorem dX12_delay_74 : decode cX12_delay 74 = .ok (.iaload, 1) := by decide +kernel
theorem dX12_delay_75 : decode cX12_delay 75 = .ok (.ireturn, 1) := by decide +kernel
set_option maxRecDepth 20000 in
theorem ggX12_look_X12_reckon : GoodIn wsX12_look wsX12_reckon := goodIn_r _ [8, 3, 9, 2, 10, 11, 12, 13, 14, 15, 16, 17, 7, 18, 19, 20, 21, 22, 23, 24, 25, 26, 27, 28, 29, 30, 31, 32, 33, 34, 35, 36, 37, 38, 39, 40, 41, 42, 43, 44, 45, 46, 47, 48, 49, 50, 51, 52, 53, 54, 55, 56, 57, 58, 59, 60, 61, 62, 63, 64, 65, 66, 67, 68, 69, 70, 71, 72, 73, 74, 75, 76, 77, 78, 79, 80, 81, 82, 83, 84, 85, 86, 87, 88, 89, 90, 91, 92, 93, 94, 95, 96, 97, 98, 99, 100, 101] rfl (by decide +kernel)
set_option maxRecDepth 20000 in
theorem gX12_look_X12_reckon : GoodIn wsX12_look (wsV RX12 386 RX12 yX12_reckon wsX12_reckon) := goodIn_app (goodIn_r _ [4, 5, 6, 7] rfl (by decide +kernel)) ggX12_look_X12_reckon
theorem dX12_look_0 : decode cX12_look 0 = .ok (.aload_n 0, 1) := by decide +kernel
theorem dX12_look_1 : decode cX12_look 1 = .ok (.iconst 0, 1) := by decide +kernel
theorem dX12_look_2 : decode cX12_look 2 = .ok (.putfield 138, 3) := by decide +kernel
theorem dX12_look_5 : decode cX12_look 5 = .ok (.aload_n 0, 1) := by decide +kernel
theorem dX12_look_6 : decode cX12_look 6 = .ok (.iload_n 1, 1) := by decide +kernel
theorem dX12_look_7 : decode cX12_look 7 = .ok (.invokevirtual 386, 3) := by decide +kernel
theorem dX12_look_10 : decode cX12_look 10 = .ok (.ifCond .ne 6, 3) := by decide +kernel
theorem dX12_look_13 : decode cX12_look 13 = .ok (.bipush (-2), 2) := by decide +kernel
theorem dX12_look_15 : decode cX12_look 15 = .ok (.ireturn, 1) := by decide +kernel
theorem dX12_look_16 : decode cX12_look 16 = .ok (.iconst 0, 1) := by decide +kernel
theorem dX12_look_17 : decode cX12_look 17 = .ok (.istore_n 2, 1) := by decide +kernel
theorem dX12_look_18 : decode cX12_look 18 = .ok (.iconst (-1), 1) := by decide +kernel
theorem dX12_look_19 : decode cX12_look 19 = .ok (.istore_n 3, 1) := by decide +kernel
theorem dX12_look_20 : decode cX12_look 20 = .ok (.iconst 0, 1) := by decide +kernel
theorem dX12_look_21 : decode cX12_look 21 = .ok (.istore 4, 2) := by decide +kernel
theorem dX12_look_23 : decode cX12_look 23 = .ok (.iload 4, 2) := by decide +kernel
theorem dX12_look_25 : decode cX12_look 25 = .ok (.aload_n 0, 1) := by decide +kernel
theorem dX12_look_26 : decode cX12_look 26 = .ok (.getfield 13, 3) := by decide +kernel
theorem dX12_look_29 : decode cX12_look 29 = .ok (.if_icmp .ge 57, 3) := by decide +kernel
theorem dX12_look_32 : decode cX12_look 32 = .ok (.aload_n 0, 1) := by decide +kernel
theorem dX12_look_33 : decode cX12_look 33 = .ok (.getfield 132, 3) := by decide +kernel
theorem dX12_look_36 : decode cX12_look 36 = .ok (.bipush 17, 2) := by decide +kernel
theorem dX12_look_38 : decode cX12_look 38 = .ok (.iload 4, 2) := by decide +kernel
theorem dX12_look_40 : decode cX12_look 40 = .ok (.imul, 1) := by decide +kernel
theorem dX12_look_41 : decode cX12_look 41 = .ok (.iload 4, 2) := by decide +kernel
theorem dX12_look_43 : decode cX12_look 43 = .ok (.iadd, 1) := by decide +kernel
theorem dX12_look_44 : decode cX12_look 44 = .ok (.iconst 1, 1) := by decide +kernel
theorem dX12_look_45 : decode cX12_look 45 = .ok (.iadd, 1) := by decide +kernel
theorem dX12_look_46 : decode cX12_look 46 = .ok (.iaload, 1) := by decide +kernel
theorem dX12_look_47 : decode cX12_look 47 = .ok (.aload_n 0, 1) := by decide +kernel
theorem dX12_look_48 : decode cX12_look 48 = .ok (.getfield 132, 3) := by decide +kernel
theorem dX12_look_51 : decode cX12_look 51 = .ok (.bipush 17, 2) := by decide +kernel
theorem dX12_look_53 : decode cX12_look 53 = .ok (.iload 4, 2) := by decide +kernel
theorem dX12_look_55 : decode cX12_look 55 = .ok (.iconst 1, 1) := by decide +kernel
theorem dX12_look_56 : decode cX12_look 56 = .ok (.iadd, 1) := by decide +kernel
theorem dX12_look_57 : decode cX12_look 57 = .ok (.imul, 1) := by decide +kernel
theorem dX12_look_58 : decode cX12_look 58 = .ok (.iload 4, 2) := by decide +kernel
theorem dX12_look_60 : decode cX12_look 60 = .ok (.iadd, 1) := by decide +kernel
theorem dX12_look_61 : decode cX12_look 61 = .ok (.iaload, 1) := by decide +kernel
theorem dX12_look_62 : decode cX12_look 62 = .ok (.iadd, 1) := by decide +kernel
theorem dX12_look_63 : decode cX12_look 63 = .ok (.istore 5, 2) := by decide +kernel
theorem dX12_look_65 : decode cX12_look 65 = .ok (.iload 5, 2) := by decide +kernel
theorem dX12_look_67 : decode cX12_look 67 = .ok (.iload_n 3, 1) := by decide +kernel
theorem dX12_look_68 : decode cX12_look 68 = .ok (.if_icmp .gt 6, 3) := by decide +kernel
theorem dX12_look_71 : decode cX12_look 71 = .ok (.goto 9, 3) := by decide +kernel
theorem dX12_look_74 : decode cX12_look 74 = .ok (.iload 5, 2) := by decide +kernel
theorem dX12_look_76 : decode cX12_look 76 = .ok (.istore_n 3, 1) := by decide +kernel
theorem dX12_look_77 : decode cX12_look 77 = .ok (.iload 4, 2) := by decide +kernel
theorem dX12_look_79 : decode cX12_look 79 = .ok (.istore_n 2, 1) := by decide +kernel
theorem dX12_look_80 : decode cX12_look 80 = .ok (.iinc 4 1, 3) := by decide +kernel
theorem dX12_look_83 : decode cX12_look 83 = .ok (.goto (-60), 3) := by decide +kernel
theorem dX12_look_86 : decode cX12_look 86 = .ok (.iload_n 2, 1) := by decide +kernel
theorem dX12_look_87 : decode cX12_look 87 = .ok (.ireturn, 1) := by decide +kernel
theorem dX12_comes_0 : decode cX12_comes 0 = .ok (.iconst 1, 1) := by decide +kernel
theorem dX12_comes_1 : decode cX12_comes 1 = .ok (.istore 4, 2) := by decide +kernel
theorem dX12_comes_3 : decode cX12_comes 3 = .ok (.iconst 0, 1) := by decide +kernel
theorem dX12_comes_4 : decode cX12_comes 4 = .ok (.istore 5, 2) := by decide +kernel
theorem dX12_comes_6 : decode cX12_comes 6 = .ok (.iload 5, 2) := by decide +kernel
theorem dX12_comes_8 : decode cX12_comes 8 = .ok (.iload_n 1, 1) := by decide +kernel
theorem dX12_comes_9 : decode cX12_comes 9 = .ok (.if_icmp .ge 39, 3) := by decide +kernel
theorem dX12_comes_12 : decode cX12_comes 12 = .ok (.iload 4, 2) := by decide +kernel
theorem dX12_comes_14 : decode cX12_comes 14 = .ok (.iload 5, 2) := by decide +kernel
theorem dX12_comes_16 : decode cX12_comes 16 = .ok (.ishr, 1) := by decide +kernel
theorem dX12_comes_17 : decode cX12_comes 17 = .ok (.iconst 1, 1) := by decide +kernel
theorem dX12_comes_18 : decode cX12_comes 18 = .ok (.iand, 1) := by decide +kernel
theorem dX12_comes_19 : decode cX12_comes 19 = .ok (.iconst 1, 1) := by decide +kernel
theorem dX12_comes_20 : decode cX12_comes 20 = .ok (.if_icmp .ne 22, 3) := by decide +kernel
theorem dX12_comes_23 : decode cX12_comes 23 = .ok (.iload 4, 2) := by decide +kernel
theorem dX12_comes_25 : decode cX12_comes 25 = .ok (.aload_n 0, 1) := by decide +kernel
theorem dX12_comes_26 : decode cX12_comes 26 = .ok (.getfield 135, 3) := by decide +kernel
theorem dX12_comes_29 : decode cX12_comes 29 = .ok (.bipush 14, 2) := by decide +kernel
theorem dX12_comes_31 : decode cX12_comes 31 = .ok (.iload_n 2, 1) := by decide +kernel
theorem dX12_comes_32 : decode cX12_comes 32 = .ok (.imul, 1) := by decide +kernel
theorem dX12_comes_33 : decode cX12_comes 33 = .ok (.iload 5, 2) := by decide +kernel
theorem dX12_comes_35 : decode cX12_comes 35 = .ok (.iadd, 1) := by decide +kernel
theorem dX12_comes_36 : decode cX12_comes 36 = .ok (.iaload, 1) := by decide +kernel
theorem dX12_comes_37 : decode cX12_comes 37 = .ok (.iload_n 3, 1) := by decide +kernel
theorem dX12_comes_38 : decode cX12_comes 38 = .ok (.iand, 1) := by decide +kernel
theorem dX12_comes_39 : decode cX12_comes 39 = .ok (.ior, 1) := by decide +kernel
theorem dX12_comes_40 : decode cX12_comes 40 = .ok (.istore 4, 2) := by decide +kernel
theorem dX12_comes_42 : decode cX12_comes 42 = .ok (.iinc 5 1, 3) := by decide +kernel
theorem dX12_comes_45 : decode cX12_comes 45 = .ok (.goto (-39), 3) := by decide +kernel
theorem dX12_comes_48 : decode cX12_comes 48 = .ok (.iload 4, 2) := by decide +kernel
theorem dX12_comes_50 : decode cX12_comes 50 = .ok (.iload_n 1, 1) := by decide +kernel
theorem dX12_comes_51 : decode cX12_comes 51 = .ok (.iconst 1, 1) := by decide +kernel
theorem dX12_comes_52 : decode cX12_comes 52 = .ok (.isub, 1) := by decide +kernel
theorem dX12_comes_53 : decode cX12_comes 53 = .ok (.ishr, 1) := by decide +kernel
theorem dX12_comes_54 : decode cX12_comes 54 = .ok (.iconst 1, 1) := by decide +kernel
theorem dX12_comes_55 : decode cX12_comes 55 = .ok (.iand, 1) := by decide +kernel
theorem dX12_comes_56 : decode cX12_comes 56 = .ok (.iconst 1, 1) := by decide +kernel
theorem dX12_comes_57 : decode cX12_comes 57 = .ok (.if_icmp .ne 7, 3) := by decide +kernel
theorem dX12_comes_60 : decode cX12_comes 60 = .ok (.iconst 1, 1) := by decide +kernel
theorem dX12_comes_61 : decode cX12_comes 61 = .ok (.goto 4, 3) := by decide +kernel
theorem dX12_comes_64 : decode cX12_comes 64 = .ok (.iconst 0, 1) := by decide +kernel
theorem dX12_comes_65 : decode cX12_comes 65 = .ok (.ireturn, 1) := by decide +kernel
set_option maxRecDepth 20000 in
theorem ggX12_hills_X12_take : GoodIn wsX12_hills wsX12_take := goodIn_r _ [9, 10, 18, 19, 20, 21, 22, 23, 24, 25, 26, 27, 28, 29, 30, 31, 32, 33, 34, 35, 36, 37, 38, 39, 40, 41, 42, 43, 44, 45, 46, 47, 48, 49, 50, 51, 52, 53, 54, 55, 56, 57, 58, 59, 60, 61, 62, 63, 64, 65, 66, 67, 68, 69, 70, 71, 72, 73, 74, 75, 76, 77, 78, 79, 80, 81, 82, 83, 84, 85, 86, 87, 88, 89, 90, 91, 92, 93, 94, 95, 96, 97, 98, 99, 100] rfl (by decide +kernel)
set_option maxRecDepth 20000 in
theorem gX12_hills_X12_take : GoodIn wsX12_hills (wsV RX12 257 RX12 yX12_take wsX12_take) := goodIn_app (goodIn_r _ [5, 6, 7, 8] rfl (by decide +kernel)) ggX12_hills_X12_take
set_option maxRecDepth 20000 in
theorem ggX12_hills_X12_isIn : GoodIn wsX12_hills wsX12_isIn := goodIn_r _ [13] rfl (by decide +kernel)
set_option maxRecDepth 20000 in
theorem gX12_hills_X12_isIn : GoodIn wsX12_hills (va_wsS RX12 148 yX12_isIn wsX12_isIn) := goodIn_app (goodIn_r _ [11, 12, 8] rfl (by decide +kernel)) ggX12_hills_X12_isIn
set_option maxRecDepth 20000 in
theorem ggX12_hills_X12_comes : GoodIn wsX12_hills wsX12_comes := goodIn_r _ [17, 2, 18, 19, 20, 21, 22, 23, 24, 25, 26, 27, 28, 29, 30, 31, 32, 33, 34, 35, 36, 37, 38, 39, 40, 41, 42, 43, 44, 45, 46, 47, 48, 49, 50, 51, 52, 53, 54, 55, 56, 57, 58, 59, 60, 61, 62, 63, 64, 65, 66, 67, 68, 69, 70, 71, 72, 73, 74, 75, 76, 77, 78, 79, 80, 81, 82, 83, 84, 85, 86, 87, 88, 89, 90, 91, 92, 93, 94, 95, 96, 97, 98, 99, 100] rfl (by decide +kernel)
set_option maxRecDepth 20000 in
theorem gX12_hills_X12_comes : GoodIn wsX12_hills (wsV RX12 389 RX12 yX12_comes wsX12_comes) := goodIn_app (goodIn_r _ [14, 15, 16, 8] rfl (by decide +kernel)) ggX12_hills_X12_comes
theorem dX12_hills_0 : decode cX12_hills 0 = .ok (.aload_n 0, 1) := by decide +kernel
theorem dX12_hills_1 : decode cX12_hills 1 = .ok (.iconst 0, 1) := by decide +kernel
theorem dX12_hills_2 : decode cX12_hills 2 = .ok (.putfield 138, 3) := by decide +kernel
theorem dX12_hills_5 : decode cX12_hills 5 = .ok (.aload_n 0, 1) := by decide +kernel
theorem dX12_hills_6 : decode cX12_hills 6 = .ok (.invokevirtual 257, 3) := by decide +kernel
theorem dX12_hills_9 : decode cX12_hills 9 = .ok (.istore_n 2, 1) := by decide +kernel
theorem dX12_hills_10 : decode cX12_hills 10 = .ok (.iload_n 1, 1) := by decide +kernel
theorem dX12_hills_11 : decode cX12_hills 11 = .ok (.iconst 3, 1) := by decide +kernel
theorem dX12_hills_12 : decode cX12_hills 12 = .ok (.bipush 14, 2) := by decide +kernel
theorem dX12_hills_14 : decode cX12_hills 14 = .ok (.invokestatic 148, 3) := by decide +kernel
theorem dX12_hills_17 : decode cX12_hills 17 = .ok (.ifCond .eq 25, 3) := by decide +kernel
theorem dX12_hills_20 : decode cX12_hills 20 = .ok (.iload_n 2, 1) := by decide +kernel
theorem dX12_hills_21 : decode cX12_hills 21 = .ok (.iconst 2, 1) := by decide +kernel
theorem dX12_hills_22 : decode cX12_hills 22 = .ok (.iload_n 1, 1) := by decide +kernel
theorem dX12_hills_23 : decode cX12_hills 23 = .ok (.imul, 1) := by decide +kernel
theorem dX12_hills_24 : decode cX12_hills 24 = .ok (.irem, 1) := by decide +kernel
theorem dX12_hills_25 : decode cX12_hills 25 = .ok (.ifCond .ne 17, 3) := by decide +kernel
theorem dX12_hills_28 : decode cX12_hills 28 = .ok (.iload_n 2, 1) := by decide +kernel
theorem dX12_hills_29 : decode cX12_hills 29 = .ok (.iconst 2, 1) := by decide +kernel
theorem dX12_hills_30 : decode cX12_hills 30 = .ok (.iload_n 1, 1) := by decide +kernel
theorem dX12_hills_31 : decode cX12_hills 31 = .ok (.imul, 1) := by decide +kernel
theorem dX12_hills_32 : decode cX12_hills 32 = .ok (.idiv, 1) := by decide +kernel
theorem dX12_hills_33 : decode cX12_hills 33 = .ok (.iconst 1, 1) := by decide +kernel
theorem dX12_hills_34 : decode cX12_hills 34 = .ok (.bipush 8, 2) := by decide +kernel
theorem dX12_hills_36 : decode cX12_hills 36 = .ok (.invokestatic 148, 3) := by decide +kernel
theorem dX12_hills_39 : decode cX12_hills 39 = .ok (.ifCond .ne 6, 3) := by decide +kernel
theorem dX12_hills_42 : decode cX12_hills 42 = .ok (.bipush (-2), 2) := by decide +kernel
theorem dX12_hills_44 : decode cX12_hills 44 = .ok (.ireturn, 1) := by decide +kernel
theorem dX12_hills_45 : decode cX12_hills 45 = .ok (.iload_n 2, 1) := by decide +kernel
theorem dX12_hills_46 : decode cX12_hills 46 = .ok (.iconst 2, 1) := by decide +kernel
theorem dX12_hills_47 : decode cX12_hills 47 = .ok (.iload_n 1, 1) := by decide +kernel
theorem dX12_hills_48 : decode cX12_hills 48 = .ok (.imul, 1) := by decide +kernel
theorem dX12_hills_49 : decode cX12_hills 49 = .ok (.idiv, 1) := by decide +kernel
theorem dX12_hills_50 : decode cX12_hills 50 = .ok (.istore_n 3, 1) := by decide +kernel
theorem dX12_hills_51 : decode cX12_hills 51 = .ok (.iconst 0, 1) := by decide +kernel
theorem dX12_hills_52 : decode cX12_hills 52 = .ok (.istore 4, 2) := by decide +kernel
theorem dX12_hills_54 : decode cX12_hills 54 = .ok (.iload 4, 2) := by decide +kernel
theorem dX12_hills_56 : decode cX12_hills 56 = .ok (.iload_n 3, 1) := by decide +kernel
theorem dX12_hills_57 : decode cX12_hills 57 = .ok (.if_icmp .ge 78, 3) := by decide +kernel
theorem dX12_hills_60 : decode cX12_hills 60 = .ok (.iconst 0, 1) := by decide +kernel
theorem dX12_hills_61 : decode cX12_hills 61 = .ok (.istore 5, 2) := by decide +kernel
theorem dX12_hills_63 : decode cX12_hills 63 = .ok (.iload 5, 2) := by decide +kernel
theorem dX12_hills_65 : decode cX12_hills 65 = .ok (.iload_n 1, 1) := by decide +kernel
theorem dX12_hills_66 : decode cX12_hills 66 = .ok (.if_icmp .ge 63, 3) := by decide +kernel
theorem dX12_hills_69 : decode cX12_hills 69 = .ok (.iconst 2, 1) := by decide +kernel
theorem dX12_hills_70 : decode cX12_hills 70 = .ok (.iload_n 1, 1) := by decide +kernel
theorem dX12_hills_71 : decode cX12_hills 71 = .ok (.iload 4, 2) := by decide +kernel
theorem dX12_hills_73 : decode cX12_hills 73 = .ok (.imul, 1) := by decide +kernel
theorem dX12_hills_74 : decode cX12_hills 74 = .ok (.iload 5, 2) := by decide +kernel
theorem dX12_hills_76 : decode cX12_hills 76 = .ok (.iadd, 1) := by decide +kernel
theorem dX12_hills_77 : decode cX12_hills 77 = .ok (.imul, 1) := by decide +kernel
theorem dX12_hills_78 : decode cX12_hills 78 = .ok (.istore 6, 2) := by decide +kernel
theorem dX12_hills_80 : decode cX12_hills 80 = .ok (.aload_n 0, 1) := by decide +kernel
theorem dX12_hills_81 : decode cX12_hills 81 = .ok (.getfield 135, 3) := by decide +kernel
theorem dX12_hills_84 : decode cX12_hills 84 = .ok (.bipush 14, 2) := by decide +kernel
theorem dX12_hills_86 : decode cX12_hills 86 = .ok (.iload 4, 2) := by decide +kernel
theorem dX12_hills_88 : decode cX12_hills 88 = .ok (.imul, 1) := by decide +kernel
theorem dX12_hills_89 : decode cX12_hills 89 = .ok (.iload 5, 2) := by decide +kernel
theorem dX12_hills_91 : decode cX12_hills 91 = .ok (.iadd, 1) := by decide +kernel
theorem dX12_hills_92 : decode cX12_hills 92 = .ok (.sipush 256, 3) := by decide +kernel
theorem dX12_hills_95 : decode cX12_hills 95 = .ok (.aload_n 0, 1) := by decide +kernel
theorem dX12_hills_96 : decode cX12_hills 96 = .ok (.getfield 7, 3) := by decide +kernel
theorem dX12_hills_99 : decode cX12_hills 99 = .ok (.iload 6, 2) := by decide +kernel
theorem dX12_hills_101 : decode cX12_hills 101 = .ok (.iaload, 1) := by decide +kernel
theorem dX12_hills_102 : decode cX12_hills 102 = .ok (.imul, 1) := by decide +kernel
theorem dX12_hills_103 : decode cX12_hills 103 = .ok (.aload_n 0, 1) := by decide +kernel
theorem dX12_hills_104 : decode cX12_hills 104 = .ok (.getfield 7, 3) := by decide +kernel
theorem dX12_hills_107 : decode cX12_hills 107 = .ok (.iload 6, 2) := by decide +kernel
theorem dX12_hills_109 : decode cX12_hills 109 = .ok (.iconst 1, 1) := by decide +kernel
theorem dX12_hills_110 : decode cX12_hills 110 = .ok (.iadd, 1) := by decide +kernel
theorem dX12_hills_111 : decode cX12_hills 111 = .ok (.iaload, 1) := by decide +kernel
theorem dX12_hills_112 : decode cX12_hills 112 = .ok (.iadd, 1) := by decide +kernel
theorem dX12_hills_113 : decode cX12_hills 113 = .ok (.iconst 1, 1) := by decide +kernel
theorem dX12_hills_114 : decode cX12_hills 114 = .ok (.iload_n 1, 1) := by decide +kernel
theorem dX12_hills_115 : decode cX12_hills 115 = .ok (.ishl, 1) := by decide +kernel
theorem dX12_hills_116 : decode cX12_hills 116 = .ok (.iconst 2, 1) := by decide +kernel
theorem dX12_hills_117 : decode cX12_hills 117 = .ok (.iload 5, 2) := by decide +kernel
theorem dX12_hills_119 : decode cX12_hills 119 = .ok (.ishl, 1) := by decide +kernel
theorem dX12_hills_120 : decode cX12_hills 120 = .ok (.isub, 1) := by decide +kernel
theorem dX12_hills_121 : decode cX12_hills 121 = .ok (.iand, 1) := by decide +kernel
theorem dX12_hills_122 : decode cX12_hills 122 = .ok (.iastore, 1) := by decide +kernel
theorem dX12_hills_123 : decode cX12_hills 123 = .ok (.iinc 5 1, 3) := by decide +kernel
theorem dX12_hills_126 : decode cX12_hills 126 = .ok (.goto (-63), 3) := by decide +kernel
theorem dX12_hills_129 : decode cX12_hills 129 = .ok (.iinc 4 1, 3) := by decide +kernel
theorem dX12_hills_132 : decode cX12_hills 132 = .ok (.goto (-78), 3) := by decide +kernel
theorem dX12_hills_135 : decode cX12_hills 135 = .ok (.iconst (-1), 1) := by decide +kernel
theorem dX12_hills_136 : decode cX12_hills 136 = .ok (.istore 4, 2) := by decide +kernel
theorem dX12_hills_138 : decode cX12_hills 138 = .ok (.iconst 0, 1) := by decide +kernel
theorem dX12_hills_139 : decode cX12_hills 139 = .ok (.istore 5, 2) := by decide +kernel
theorem dX12_hills_141 : decode cX12_hills 141 = .ok (.iconst 0, 1) := by decide +kernel
theorem dX12_hills_142 : decode cX12_hills 142 = .ok (.istore 6, 2) := by decide +kernel
theorem dX12_hills_144 : decode cX12_hills 144 = .ok (.iload 6, 2) := by decide +kernel
theorem dX12_hills_146 : decode cX12_hills 146 = .ok (.iconst 1, 1) := by decide +kernel
theorem dX12_hills_147 : decode cX12_hills 147 = .ok (.iload_n 1, 1) := by decide +kernel
theorem dX12_hills_148 : decode cX12_hills 148 = .ok (.iconst 2, 1) := by decide +kernel
theorem dX12_hills_149 : decode cX12_hills 149 = .ok (.isub, 1) := by decide +kernel
theorem dX12_hills_150 : decode cX12_hills 150 = .ok (.ishl, 1) := by decide +kernel
theorem dX12_hills_151 : decode cX12_hills 151 = .ok (.if_icmp .ge 120, 3) := by decide +kernel
theorem dX12_hills_154 : decode cX12_hills 154 = .ok (.iconst 1, 1) := by decide +kernel
theorem dX12_hills_155 : decode cX12_hills 155 = .ok (.iload 6, 2) := by decide +kernel
theorem dX12_hills_157 : decode cX12_hills 157 = .ok (.iconst 1, 1) := by decide +kernel
theorem dX12_hills_158 : decode cX12_hills 158 = .ok (.ishl, 1) := by decide +kernel
theorem dX12_hills_159 : decode cX12_hills 159 = .ok (.ior, 1) := by decide +kernel
theorem dX12_hills_160 : decode cX12_hills 160 = .ok (.iconst 1, 1) := by decide +kernel
theorem dX12_hills_161 : decode cX12_hills 161 = .ok (.iload_n 1, 1) := by decide +kernel
theorem dX12_hills_162 : decode cX12_hills 162 = .ok (.iconst 1, 1) := by decide +kernel
theorem dX12_hills_163 : decode cX12_hills 163 = .ok (.isub, 1) := by decide +kernel
theorem dX12_hills_164 : decode cX12_hills 164 = .ok (.ishl, 1) := by decide +kernel
theorem dX12_hills_165 : decode cX12_hills 165 = .ok (.ior, 1) := by decide +kernel
theorem dX12_hills_166 : decode cX12_hills 166 = .ok (.istore 7, 2) := by decide +kernel
theorem dX12_hills_168 : decode cX12_hills 168 = .ok (.iconst 0, 1) := by decide +kernel
theorem dX12_hills_169 : decode cX12_hills 169 = .ok (.istore 8, 2) := by decide +kernel
theorem dX12_hills_171 : decode cX12_hills 171 = .ok (.iconst 0, 1) := by decide +kernel
theorem dX12_hills_172 : decode cX12_hills 172 = .ok (.istore 9, 2) := by decide +kernel
theorem dX12_hills_174 : decode cX12_hills 174 = .ok (.iload 9, 2) := by decide +kernel
theorem dX12_hills_176 : decode cX12_hills 176 = .ok (.iload_n 1, 1) := by decide +kernel
theorem dX12_hills_177 : decode cX12_hills 177 = .ok (.if_icmp .ge 21, 3) := by decide +kernel
theorem dX12_hills_180 : decode cX12_hills 180 = .ok (.iload 8, 2) := by decide +kernel
theorem dX12_hills_182 : decode cX12_hills 182 = .ok (.iload 7, 2) := by decide +kernel
theorem dX12_hills_184 : decode cX12_hills 184 = .ok (.iload 9, 2) := by decide +kernel
theorem dX12_hills_186 : decode cX12_hills 186 = .ok (.ishr, 1) := by decide +kernel
theorem dX12_hills_187 : decode cX12_hills 187 = .ok (.iconst 1, 1) := by decide +kernel
theorem dX12_hills_188 : decode cX12_hills 188 = .ok (.iand, 1) := by decide +kernel
theorem dX12_hills_189 : decode cX12_hills 189 = .ok (.iadd, 1) := by decide +kernel
theorem dX12_hills_190 : decode cX12_hills 190 = .ok (.istore 8, 2) := by decide +kernel
theorem dX12_hills_192 : decode cX12_hills 192 = .ok (.iinc 9 1, 3) := by decide +kernel
theorem dX12_hills_195 : decode cX12_hills 195 = .ok (.goto (-21), 3) := by decide +kernel
theorem dX12_hills_198 : decode cX12_hills 198 = .ok (.iload 4, 2) := by decide +kernel
theorem dX12_hills_200 : decode cX12_hills 200 = .ok (.iconst (-1), 1) := by decide +kernel
theorem dX12_hills_201 : decode cX12_hills 201 = .ok (.if_icmp .eq 10, 3) := by decide +kernel
theorem dX12_hills_204 : decode cX12_hills 204 = .ok (.iload 8, 2) := by decide +kernel
theorem dX12_hills_206 : decode cX12_hills 206 = .ok (.iload 4, 2) := by decide +kernel
theorem dX12_hills_208 : decode cX12_hills 208 = .ok (.if_icmp .ge 7, 3) := by decide +kernel
theorem dX12_hills_211 : decode cX12_hills 211 = .ok (.iconst 1, 1) := by decide +kernel
theorem dX12_hills_212 : decode cX12_hills 212 = .ok (.goto 4, 3) := by decide +kernel
theorem dX12_hills_215 : decode cX12_hills 215 = .ok (.iconst 0, 1) := by decide +kernel
theorem dX12_hills_216 : decode cX12_hills 216 = .ok (.istore 9, 2) := by decide +kernel
theorem dX12_hills_218 : decode cX12_hills 218 = .ok (.iconst 0, 1) := by decide +kernel
theorem dX12_hills_219 : decode cX12_hills 219 = .ok (.istore 10, 2) := by decide +kernel
theorem dX12_hills_221 : decode cX12_hills 221 = .ok (.iload 10, 2) := by decide +kernel
theorem dX12_hills_223 : decode cX12_hills 223 = .ok (.iload_n 3, 1) := by decide +kernel
theorem dX12_hills_224 : decode cX12_hills 224 = .ok (.if_icmp .ge 25, 3) := by decide +kernel
theorem dX12_hills_227 : decode cX12_hills 227 = .ok (.iload 9, 2) := by decide +kernel
theorem dX12_hills_229 : decode cX12_hills 229 = .ok (.ifCond .eq 20, 3) := by decide +kernel
theorem dX12_hills_232 : decode cX12_hills 232 = .ok (.aload_n 0, 1) := by decide +kernel
theorem dX12_hills_233 : decode cX12_hills 233 = .ok (.iload_n 1, 1) := by decide +kernel
theorem dX12_hills_234 : decode cX12_hills 234 = .ok (.iload 10, 2) := by decide +kernel
theorem dX12_hills_236 : decode cX12_hills 236 = .ok (.iload 7, 2) := by decide +kernel
theorem dX12_hills_238 : decode cX12_hills 238 = .ok (.invokevirtual 389, 3) := by decide +kernel
theorem dX12_hills_241 : decode cX12_hills 241 = .ok (.istore 9, 2) := by decide +kernel
theorem dX12_hills_243 : decode cX12_hills 243 = .ok (.iinc 10 1, 3) := by decide +kernel
theorem dX12_hills_246 : decode cX12_hills 246 = .ok (.goto (-25), 3) := by decide +kernel
theorem dX12_hills_249 : decode cX12_hills 249 = .ok (.iload 9, 2) := by decide +kernel
theorem dX12_hills_251 : decode cX12_hills 251 = .ok (.ifCond .ne 6, 3) := by decide +kernel
theorem dX12_hills_254 : decode cX12_hills 254 = .ok (.goto 11, 3) := by decide +kernel
theorem dX12_hills_257 : decode cX12_hills 257 = .ok (.iload 8, 2) := by decide +kernel
theorem dX12_hills_259 : decode cX12_hills 259 = .ok (.istore 4, 2) := by decide +kernel
theorem dX12_hills_261 : decode cX12_hills 261 = .ok (.iload 7, 2) := by decide +kernel
theorem dX12_hills_263 : decode cX12_hills 263 = .ok (.istore 5, 2) := by decide +kernel
theorem dX12_hills_265 : decode cX12_hills 265 = .ok (.iinc 6 1, 3) := by decide +kernel
theorem dX12_hills_268 : decode cX12_hills 268 = .ok (.goto (-124), 3) := by decide +kernel
theorem dX12_hills_271 : decode cX12_hills 271 = .ok (.iload 4, 2) := by decide +kernel
theorem dX12_hills_273 : decode cX12_hills 273 = .ok (.iconst (-1), 1) := by decide +kernel
theorem dX12_hills_274 : decode cX12_hills 274 = .ok (.if_icmp .eq 9, 3) := by decide +kernel
theorem dX12_hills_277 : decode cX12_hills 277 = .ok (.aload_n 0, 1) := by decide +kernel
theorem dX12_hills_278 : decode cX12_hills 278 = .ok (.iload 5, 2) := by decide +kernel
theorem dX12_hills_280 : decode cX12_hills 280 = .ok (.putfield 392, 3) := by decide +kernel
theorem dX12_hills_283 : decode cX12_hills 283 = .ok (.iload 4, 2) := by decide +kernel
theorem dX12_hills_285 : decode cX12_hills 285 = .ok (.ireturn, 1) := by decide +kernel
theorem dX12_hillSet_0 : decode cX12_hillSet 0 = .ok (.aload_n 0, 1) := by decide +kernel
theorem dX12_hillSet_1 : decode cX12_hillSet 1 = .ok (.iconst 0, 1) := by decide +kernel
theorem dX12_hillSet_2 : decode cX12_hillSet 2 = .ok (.putfield 138, 3) := by decide +kernel
theorem dX12_hillSet_5 : decode cX12_hillSet 5 = .ok (.aload_n 0, 1) := by decide +kernel
theorem dX12_hillSet_6 : decode cX12_hillSet 6 = .ok (.getfield 392, 3) := by decide +kernel
theorem dX12_hillSet_9 : decode cX12_hillSet 9 = .ok (.ireturn, 1) := by decide +kernel
theorem dX12_count_0 : decode cX12_count 0 = .ok (.aload_n 0, 1) := by decide +kernel
theorem dX12_count_1 : decode cX12_count 1 = .ok (.iconst 0, 1) := by decide +kernel
theorem dX12_count_2 : decode cX12_count 2 = .ok (.putfield 138, 3) := by decide +kernel
theorem dX12_count_5 : decode cX12_count 5 = .ok (.iload_n 1, 1) := by decide +kernel
theorem dX12_count_6 : decode cX12_count 6 = .ok (.tableswitch 77 0 6 #[42, 47, 52, 57, 62, 67, 72], 42) := by decide +kernel
theorem dX12_count_48 : decode cX12_count 48 = .ok (.aload_n 0, 1) := by decide +kernel
theorem dX12_count_49 : decode cX12_count 49 = .ok (.getfield 152, 3) := by decide +kernel
theorem dX12_count_52 : decode cX12_count 52 = .ok (.ireturn, 1) := by decide +kernel
theorem dX12_count_53 : decode cX12_count 53 = .ok (.aload_n 0, 1) := by decide +kernel
theorem dX12_count_54 : decode cX12_count 54 = .ok (.getfield 13, 3) := by decide +kernel
theorem dX12_count_57 : decode cX12_count 57 = .ok (.ireturn, 1) := by decide +kernel
theorem dX12_count_58 : decode cX12_count 58 = .ok (.aload_n 0, 1) := by decide +kernel
theorem dX12_count_59 : decode cX12_count 59 = .ok (.getfield 155, 3) := by decide +kernel
theorem dX12_count_62 : decode cX12_count 62 = .ok (.ireturn, 1) := by decide +kernel
theorem dX12_count_63 : decode cX12_count 63 = .ok (.aload_n 0, 1) := by decide +kernel
theorem dX12_count_64 : decode cX12_count 64 = .ok (.getfield 359, 3) := by decide +kernel
theorem dX12_count_67 : decode cX12_count 67 = .ok (.ireturn, 1) := by decide +kernel
theorem dX12_count_68 : decode cX12_count 68 = .ok (.aload_n 0, 1) := by decide +kernel
theorem dX12_count_69 : decode cX12_count 69 = .ok (.getfield 158, 3) := by decide +kernel
theorem dX12_count_72 : decode cX12_count 72 = .ok (.ireturn, 1) := by decide +kernel
theorem dX12_count_73 : decode cX12_count 73 = .ok (.aload_n 0, 1) := by decide +kernel
theorem dX12_count_74 : decode cX12_count 74 = .ok (.getfield 264, 3) := by decide +kernel
theorem dX12_count_77 : decode cX12_count 77 = .ok (.ireturn, 1) := by decide +kernel
theorem dX12_count_78 : decode cX12_count 78 = .ok (.aload_n 0, 1) := by decide +kernel
theorem dX12_count_79 : decode cX12_count 79 = .ok (.getfield 141, 3) := by decide +kernel
theorem dX12_count_82 : decode cX12_count 82 = .ok (.ireturn, 1) := by decide +kernel
theorem dX12_count_83 : decode cX12_count 83 = .ok (.iconst (-1), 1) := by decide +kernel
theorem dX12_count_84 : decode cX12_count 84 = .ok (.ireturn, 1) := by decide +kernel
