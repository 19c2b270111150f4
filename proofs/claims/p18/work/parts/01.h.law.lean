theorem dL_below_0 : decode cL_below 0 = .ok (.iload_n 0, 1) := by decide +kernel
theorem dL_below_1 : decode cL_below 1 = .ok (.ldc 7, 2) := by decide +kernel
theorem dL_below_3 : decode cL_below 3 = .ok (.iand, 1) := by decide +kernel
theorem dL_below_4 : decode cL_below 4 = .ok (.iload_n 1, 1) := by decide +kernel
theorem dL_below_5 : decode cL_below 5 = .ok (.irem, 1) := by decide +kernel
theorem dL_below_6 : decode cL_below 6 = .ok (.ireturn, 1) := by decide +kernel
theorem dL_cell_0 : decode cL_cell 0 = .ok (.iload_n 1, 1) := by decide +kernel
theorem dL_cell_1 : decode cL_cell 1 = .ok (.aload_n 0, 1) := by decide +kernel
theorem dL_cell_2 : decode cL_cell 2 = .ok (.arraylength, 1) := by decide +kernel
theorem dL_cell_3 : decode cL_cell 3 = .ok (.if_icmp .ge 9, 3) := by decide +kernel
theorem dL_cell_6 : decode cL_cell 6 = .ok (.aload_n 0, 1) := by decide +kernel
theorem dL_cell_7 : decode cL_cell 7 = .ok (.iload_n 1, 1) := by decide +kernel
theorem dL_cell_8 : decode cL_cell 8 = .ok (.iaload, 1) := by decide +kernel
theorem dL_cell_9 : decode cL_cell 9 = .ok (.goto 9, 3) := by decide +kernel
theorem dL_cell_12 : decode cL_cell 12 = .ok (.ldc 8, 2) := by decide +kernel
theorem dL_cell_14 : decode cL_cell 14 = .ok (.iload_n 1, 1) := by decide +kernel
theorem dL_cell_15 : decode cL_cell 15 = .ok (.iconst 3, 1) := by decide +kernel
theorem dL_cell_16 : decode cL_cell 16 = .ok (.iadd, 1) := by decide +kernel
theorem dL_cell_17 : decode cL_cell 17 = .ok (.imul, 1) := by decide +kernel
theorem dL_cell_18 : decode cL_cell 18 = .ok (.ireturn, 1) := by decide +kernel
set_option maxRecDepth 20000 in
theorem ggL_act_X3_n : GoodIn wsL_act wsX3_n := goodIn_r _ [7, 8, 173, 174, 175, 176, 177, 178, 179, 180] rfl (by decide +kernel)
set_option maxRecDepth 20000 in
theorem gL_act_X3_n : GoodIn wsL_act (wsV RL 9 RX3 yX3_n wsX3_n) := goodIn_app (goodIn_of _ (by decide +kernel)) ggL_act_X3_n
set_option maxRecDepth 20000 in
theorem ggL_act_L_below : GoodIn wsL_act wsL_below := goodIn_r _ [12, 13] rfl (by decide +kernel)
set_option maxRecDepth 20000 in
theorem gL_act_L_below : GoodIn wsL_act (va_wsS RL 15 yL_below wsL_below) := goodIn_app (goodIn_of _ (by decide +kernel)) ggL_act_L_below
set_option maxRecDepth 20000 in
theorem ggL_act_X3_come : GoodIn wsL_act wsX3_come := goodIn_r _ [17, 18, 19, 8, 20, 4, 5, 6, 7, 173, 174, 175, 176, 177, 178, 179, 180] rfl (by decide +kernel)
set_option maxRecDepth 20000 in
theorem gL_act_X3_come : GoodIn wsL_act (wsV RL 21 RX3 yX3_come wsX3_come) := goodIn_app (goodIn_of _ (by decide +kernel)) ggL_act_X3_come
set_option maxRecDepth 20000 in
theorem ggL_act_X2_come : GoodIn wsL_act wsX2_come := goodIn_ca (goodIn_r _ [25, 26, 27, 28, 29, 30, 31, 32, 33, 34, 35, 36, 37, 38, 39, 40, 41, 42, 43, 44, 45, 46, 47, 48, 49, 50, 24, 51, 52, 53, 54, 55, 56, 57, 58, 59, 60, 61, 62, 63, 64, 65, 66, 67, 68, 69, 70, 71, 72, 73, 74, 75, 76, 77, 78, 79, 80, 81, 82, 83, 84, 85, 86, 87, 88, 89, 90, 91, 92, 93, 94, 95, 96, 97, 98, 99, 100, 101, 102, 103, 104, 105, 106, 107, 108, 109, 110, 111, 112, 113, 114, 115, 116, 117, 118, 119, 120, 121, 122, 181, 182, 183, 184, 185, 186, 187, 188, 189, 190, 191, 192, 193, 194] rfl (by decide +kernel)) (goodIn_sub (fun _ h => List.mem_cons_of_mem _ (List.mem_append_left _ (List.mem_append_left _ (List.mem_append_right _ h)))) (by decide +kernel))
set_option maxRecDepth 20000 in
theorem gL_act_X2_come : GoodIn wsL_act (wsV RL 24 RX2 yX2_come wsX2_come) := goodIn_app (goodIn_of _ (by decide +kernel)) ggL_act_X2_come
set_option maxRecDepth 20000 in
theorem ggL_act_X2_leave : GoodIn wsL_act wsX2_leave := goodIn_ca (goodIn_r _ [126, 127, 128, 28, 52, 98, 45, 46, 32, 47, 34, 103, 104, 105, 56, 106, 60, 129, 130, 131, 132, 44, 133, 74, 75, 76, 43, 39, 40, 41, 42, 48, 49, 50, 24, 51, 53, 54, 55, 57, 58, 59, 61, 30, 31, 33, 62, 63, 64, 65, 66, 67, 68, 69, 70, 71, 72, 73, 77, 78, 79, 80, 81, 82, 83, 84, 85, 29, 86, 87, 88, 89, 90, 91, 92, 93, 94, 95, 96, 97, 99, 100, 101, 102, 107, 108, 109, 110, 111, 112, 113, 114, 115, 116, 117, 118, 119, 120, 121, 122, 181, 182, 183, 184, 185, 186, 187, 188, 189, 190, 191, 192, 193, 194] rfl (by decide +kernel)) (goodIn_sub (fun _ h => List.mem_cons_of_mem _ (List.mem_append_left _ (List.mem_append_right _ h))) (by decide +kernel))
set_option maxRecDepth 20000 in
theorem gL_act_X2_leave : GoodIn wsL_act (wsV RL 28 RX2 yX2_leave wsX2_leave) := goodIn_app (goodIn_of _ (by decide +kernel)) ggL_act_X2_leave
set_option maxRecDepth 20000 in
theorem ggL_act_X3_leave : GoodIn wsL_act wsX3_leave := goodIn_r _ [137, 138, 18, 19, 8, 139, 140, 141, 6, 142, 143, 144, 145, 146, 147, 148, 20, 4, 5, 7, 149, 150, 151, 152, 153, 154, 155, 156, 157, 158, 159, 160, 161, 173, 174, 175, 176, 177, 178, 179, 180] rfl (by decide +kernel)
set_option maxRecDepth 20000 in
theorem gL_act_X3_leave : GoodIn wsL_act (wsV RL 32 RX3 yX3_leave wsX3_leave) := goodIn_app (goodIn_of _ (by decide +kernel)) ggL_act_X3_leave
set_option maxRecDepth 20000 in
theorem ggL_act_X2_rent : GoodIn wsL_act wsX2_rent := goodIn_ca (goodIn_r _ [165, 166, 167, 112, 108, 109, 110, 24, 111, 28, 52, 113, 114, 29, 30, 31, 32, 33, 34, 115, 116, 117, 56, 118, 58, 119, 120, 121, 122, 85, 181, 182, 183, 184, 185, 186, 187, 188, 189, 190, 191, 192, 193, 194] rfl (by decide +kernel)) (goodIn_sub (fun _ h => List.mem_cons_of_mem _ (List.mem_append_right _ h)) (by decide +kernel))
set_option maxRecDepth 20000 in
theorem gL_act_X2_rent : GoodIn wsL_act (wsV RL 37 RX2 yX2_rent wsX2_rent) := goodIn_app (goodIn_of _ (by decide +kernel)) ggL_act_X2_rent
set_option maxRecDepth 20000 in
theorem ggL_act_X2_bid : GoodIn wsL_act wsX2_bid := goodIn_ca (goodIn_ca (goodIn_r _ [171, 127, 128, 166, 167, 28, 98, 45, 46, 32, 47, 34, 107, 74, 75, 76, 43, 44, 172, 40, 41, 42, 48, 49, 50, 24, 51, 52, 53, 54, 55, 56, 57, 58, 59, 60, 61, 30, 31, 33, 62, 63, 64, 65, 66, 67, 68, 69, 70, 71, 72, 73, 77, 78, 79, 80, 81, 82, 83, 84, 85, 29, 86, 87, 88, 89, 90, 91, 92, 93, 94, 95, 96, 97, 99, 100, 101, 102, 103, 104, 105, 106, 108, 109, 110, 111, 112, 113, 114, 115, 116, 117, 118, 119, 120, 121, 122, 181, 182, 183, 184, 185, 186, 187, 188, 189, 190, 191, 192, 193, 194] rfl (by decide +kernel)) (goodIn_sub (fun _ h => List.mem_cons_of_mem _ (List.mem_append_left _ (List.mem_append_right _ h))) (by decide +kernel))) (goodIn_sub (fun _ h => List.mem_cons_of_mem _ (List.mem_append_right _ h)) (by decide +kernel))
set_option maxRecDepth 20000 in
theorem gL_act_X2_bid : GoodIn wsL_act (wsV RL 43 RX2 yX2_bid wsX2_bid) := goodIn_app (goodIn_of _ (by decide +kernel)) ggL_act_X2_bid
theorem dL_act_0 : decode cL_act 0 = .ok (.aload_n 1, 1) := by decide +kernel
theorem dL_act_1 : decode cL_act 1 = .ok (.invokevirtual 9, 3) := by decide +kernel
theorem dL_act_4 : decode cL_act 4 = .ok (.istore_n 3, 1) := by decide +kernel
theorem dL_act_5 : decode cL_act 5 = .ok (.iload_n 3, 1) := by decide +kernel
theorem dL_act_6 : decode cL_act 6 = .ok (.ifCond .ne 7, 3) := by decide +kernel
theorem dL_act_9 : decode cL_act 9 = .ok (.iconst 0, 1) := by decide +kernel
theorem dL_act_10 : decode cL_act 10 = .ok (.goto 12, 3) := by decide +kernel
theorem dL_act_13 : decode cL_act 13 = .ok (.iload_n 2, 1) := by decide +kernel
theorem dL_act_14 : decode cL_act 14 = .ok (.bipush 9, 2) := by decide +kernel
theorem dL_act_16 : decode cL_act 16 = .ok (.ishr, 1) := by decide +kernel
theorem dL_act_17 : decode cL_act 17 = .ok (.bipush 16, 2) := by decide +kernel
theorem dL_act_19 : decode cL_act 19 = .ok (.invokestatic 15, 3) := by decide +kernel
theorem dL_act_22 : decode cL_act 22 = .ok (.tableswitch 154 0 3 #[30, 55, 100, 100], 30) := by decide +kernel
theorem dL_act_52 : decode cL_act 52 = .ok (.iload_n 3, 1) := by decide +kernel
theorem dL_act_53 : decode cL_act 53 = .ok (.iconst 5, 1) := by decide +kernel
theorem dL_act_54 : decode cL_act 54 = .ok (.if_icmp .ne 5, 3) := by decide +kernel
theorem dL_act_57 : decode cL_act 57 = .ok (.iconst 1, 1) := by decide +kernel
theorem dL_act_58 : decode cL_act 58 = .ok (.ireturn, 1) := by decide +kernel
theorem dL_act_59 : decode cL_act 59 = .ok (.aload_n 1, 1) := by decide +kernel
theorem dL_act_60 : decode cL_act 60 = .ok (.invokevirtual 21, 3) := by decide +kernel
theorem dL_act_63 : decode cL_act 63 = .ok (.aload_n 0, 1) := by decide +kernel
theorem dL_act_64 : decode cL_act 64 = .ok (.invokevirtual 24, 3) := by decide +kernel
theorem dL_act_67 : decode cL_act 67 = .ok (.iload_n 3, 1) := by decide +kernel
theorem dL_act_68 : decode cL_act 68 = .ok (.if_icmp .ne 7, 3) := by decide +kernel
theorem dL_act_71 : decode cL_act 71 = .ok (.iconst 1, 1) := by decide +kernel
theorem dL_act_72 : decode cL_act 72 = .ok (.goto 4, 3) := by decide +kernel
theorem dL_act_75 : decode cL_act 75 = .ok (.iconst 0, 1) := by decide +kernel
theorem dL_act_76 : decode cL_act 76 = .ok (.ireturn, 1) := by decide +kernel
theorem dL_act_77 : decode cL_act 77 = .ok (.iload_n 3, 1) := by decide +kernel
theorem dL_act_78 : decode cL_act 78 = .ok (.iconst 1, 1) := by decide +kernel
theorem dL_act_79 : decode cL_act 79 = .ok (.if_icmp .eq 13, 3) := by decide +kernel
theorem dL_act_82 : decode cL_act 82 = .ok (.iload_n 2, 1) := by decide +kernel
theorem dL_act_83 : decode cL_act 83 = .ok (.iconst 3, 1) := by decide +kernel
theorem dL_act_84 : decode cL_act 84 = .ok (.ishr, 1) := by decide +kernel
theorem dL_act_85 : decode cL_act 85 = .ok (.iconst 2, 1) := by decide +kernel
theorem dL_act_86 : decode cL_act 86 = .ok (.invokestatic 15, 3) := by decide +kernel
theorem dL_act_89 : decode cL_act 89 = .ok (.ifCond .ne 5, 3) := by decide +kernel
theorem dL_act_92 : decode cL_act 92 = .ok (.iconst 1, 1) := by decide +kernel
theorem dL_act_93 : decode cL_act 93 = .ok (.ireturn, 1) := by decide +kernel
theorem dL_act_94 : decode cL_act 94 = .ok (.iload_n 2, 1) := by decide +kernel
theorem dL_act_95 : decode cL_act 95 = .ok (.iload_n 3, 1) := by decide +kernel
theorem dL_act_96 : decode cL_act 96 = .ok (.invokestatic 15, 3) := by decide +kernel
theorem dL_act_99 : decode cL_act 99 = .ok (.istore 4, 2) := by decide +kernel
theorem dL_act_101 : decode cL_act 101 = .ok (.aload_n 0, 1) := by decide +kernel
theorem dL_act_102 : decode cL_act 102 = .ok (.iload 4, 2) := by decide +kernel
theorem dL_act_104 : decode cL_act 104 = .ok (.invokevirtual 28, 3) := by decide +kernel
theorem dL_act_107 : decode cL_act 107 = .ok (.aload_n 1, 1) := by decide +kernel
theorem dL_act_108 : decode cL_act 108 = .ok (.iload 4, 2) := by decide +kernel
theorem dL_act_110 : decode cL_act 110 = .ok (.invokevirtual 32, 3) := by decide +kernel
theorem dL_act_113 : decode cL_act 113 = .ok (.if_icmp .ne 7, 3) := by decide +kernel
theorem dL_act_116 : decode cL_act 116 = .ok (.iconst 1, 1) := by decide +kernel
theorem dL_act_117 : decode cL_act 117 = .ok (.goto 4, 3) := by decide +kernel
theorem dL_act_120 : decode cL_act 120 = .ok (.iconst 0, 1) := by decide +kernel
theorem dL_act_121 : decode cL_act 121 = .ok (.ireturn, 1) := by decide +kernel
theorem dL_act_122 : decode cL_act 122 = .ok (.aload_n 1, 1) := by decide +kernel
theorem dL_act_123 : decode cL_act 123 = .ok (.getfield 33, 3) := by decide +kernel
theorem dL_act_126 : decode cL_act 126 = .ok (.istore 5, 2) := by decide +kernel
theorem dL_act_128 : decode cL_act 128 = .ok (.aload_n 1, 1) := by decide +kernel
theorem dL_act_129 : decode cL_act 129 = .ok (.iload_n 2, 1) := by decide +kernel
theorem dL_act_130 : decode cL_act 130 = .ok (.iconst 3, 1) := by decide +kernel
theorem dL_act_131 : decode cL_act 131 = .ok (.imul, 1) := by decide +kernel
theorem dL_act_132 : decode cL_act 132 = .ok (.iload_n 2, 1) := by decide +kernel
theorem dL_act_133 : decode cL_act 133 = .ok (.iconst 5, 1) := by decide +kernel
theorem dL_act_134 : decode cL_act 134 = .ok (.ishr, 1) := by decide +kernel
theorem dL_act_135 : decode cL_act 135 = .ok (.iconst 2, 1) := by decide +kernel
theorem dL_act_136 : decode cL_act 136 = .ok (.invokestatic 15, 3) := by decide +kernel
theorem dL_act_139 : decode cL_act 139 = .ok (.ifCond .ne 9, 3) := by decide +kernel
theorem dL_act_142 : decode cL_act 142 = .ok (.sipush 6000, 3) := by decide +kernel
theorem dL_act_145 : decode cL_act 145 = .ok (.goto 6, 3) := by decide +kernel
theorem dL_act_148 : decode cL_act 148 = .ok (.sipush 900, 3) := by decide +kernel
theorem dL_act_151 : decode cL_act 151 = .ok (.invokestatic 15, 3) := by decide +kernel
theorem dL_act_154 : decode cL_act 154 = .ok (.putfield 33, 3) := by decide +kernel
theorem dL_act_157 : decode cL_act 157 = .ok (.aload_n 0, 1) := by decide +kernel
theorem dL_act_158 : decode cL_act 158 = .ok (.aload_n 1, 1) := by decide +kernel
theorem dL_act_159 : decode cL_act 159 = .ok (.getfield 33, 3) := by decide +kernel
theorem dL_act_162 : decode cL_act 162 = .ok (.invokevirtual 37, 3) := by decide +kernel
theorem dL_act_165 : decode cL_act 165 = .ok (.iload 5, 2) := by decide +kernel
theorem dL_act_167 : decode cL_act 167 = .ok (.if_icmp .ne 7, 3) := by decide +kernel
theorem dL_act_170 : decode cL_act 170 = .ok (.iconst 1, 1) := by decide +kernel
theorem dL_act_171 : decode cL_act 171 = .ok (.goto 4, 3) := by decide +kernel
theorem dL_act_174 : decode cL_act 174 = .ok (.iconst 0, 1) := by decide +kernel
theorem dL_act_175 : decode cL_act 175 = .ok (.ireturn, 1) := by decide +kernel
theorem dL_act_176 : decode cL_act 176 = .ok (.iload_n 2, 1) := by decide +kernel
theorem dL_act_177 : decode cL_act 177 = .ok (.iload_n 3, 1) := by decide +kernel
theorem dL_act_178 : decode cL_act 178 = .ok (.invokestatic 15, 3) := by decide +kernel
theorem dL_act_181 : decode cL_act 181 = .ok (.istore 6, 2) := by decide +kernel
theorem dL_act_183 : decode cL_act 183 = .ok (.iload_n 2, 1) := by decide +kernel
theorem dL_act_184 : decode cL_act 184 = .ok (.iconst 2, 1) := by decide +kernel
theorem dL_act_185 : decode cL_act 185 = .ok (.ishr, 1) := by decide +kernel
theorem dL_act_186 : decode cL_act 186 = .ok (.iload_n 3, 1) := by decide +kernel
theorem dL_act_187 : decode cL_act 187 = .ok (.invokestatic 15, 3) := by decide +kernel
theorem dL_act_190 : decode cL_act 190 = .ok (.istore 7, 2) := by decide +kernel
theorem dL_act_192 : decode cL_act 192 = .ok (.aload_n 1, 1) := by decide +kernel
theorem dL_act_193 : decode cL_act 193 = .ok (.getfield 39, 3) := by decide +kernel
theorem dL_act_196 : decode cL_act 196 = .ok (.iload 6, 2) := by decide +kernel
theorem dL_act_198 : decode cL_act 198 = .ok (.aaload, 1) := by decide +kernel
theorem dL_act_199 : decode cL_act 199 = .ok (.iload 7, 2) := by decide +kernel
theorem dL_act_201 : decode cL_act 201 = .ok (.iaload, 1) := by decide +kernel
theorem dL_act_202 : decode cL_act 202 = .ok (.istore 8, 2) := by decide +kernel
theorem dL_act_204 : decode cL_act 204 = .ok (.aload_n 1, 1) := by decide +kernel
theorem dL_act_205 : decode cL_act 205 = .ok (.getfield 39, 3) := by decide +kernel
theorem dL_act_208 : decode cL_act 208 = .ok (.iload 6, 2) := by decide +kernel
theorem dL_act_210 : decode cL_act 210 = .ok (.aaload, 1) := by decide +kernel
theorem dL_act_211 : decode cL_act 211 = .ok (.iload 7, 2) := by decide +kernel
theorem dL_act_213 : decode cL_act 213 = .ok (.iload_n 2, 1) := by decide +kernel
theorem dL_act_214 : decode cL_act 214 = .ok (.bipush 7, 2) := by decide +kernel
theorem dL_act_216 : decode cL_act 216 = .ok (.ishr, 1) := by decide +kernel
theorem dL_act_217 : decode cL_act 217 = .ok (.iconst 3, 1) := by decide +kernel
theorem dL_act_218 : decode cL_act 218 = .ok (.invokestatic 15, 3) := by decide +kernel
theorem dL_act_221 : decode cL_act 221 = .ok (.ifCond .ne 16, 3) := by decide +kernel
theorem dL_act_224 : decode cL_act 224 = .ok (.iconst 5, 1) := by decide +kernel
theorem dL_act_225 : decode cL_act 225 = .ok (.iload_n 2, 1) := by decide +kernel
theorem dL_act_226 : decode cL_act 226 = .ok (.iconst 3, 1) := by decide +kernel
theorem dL_act_227 : decode cL_act 227 = .ok (.ishr, 1) := by decide +kernel
theorem dL_act_228 : decode cL_act 228 = .ok (.bipush 8, 2) := by decide +kernel
theorem dL_act_230 : decode cL_act 230 = .ok (.invokestatic 15, 3) := by decide +kernel
theorem dL_act_233 : decode cL_act 233 = .ok (.imul, 1) := by decide +kernel
theorem dL_act_234 : decode cL_act 234 = .ok (.goto 13, 3) := by decide +kernel
theorem dL_act_237 : decode cL_act 237 = .ok (.iload_n 2, 1) := by decide +kernel
theorem dL_act_238 : decode cL_act 238 = .ok (.bipush 7, 2) := by decide +kernel
theorem dL_act_240 : decode cL_act 240 = .ok (.imul, 1) := by decide +kernel
theorem dL_act_241 : decode cL_act 241 = .ok (.sipush 1000, 3) := by decide +kernel
theorem dL_act_244 : decode cL_act 244 = .ok (.invokestatic 15, 3) := by decide +kernel
theorem dL_act_247 : decode cL_act 247 = .ok (.iastore, 1) := by decide +kernel
theorem dL_act_248 : decode cL_act 248 = .ok (.aload_n 0, 1) := by decide +kernel
theorem dL_act_249 : decode cL_act 249 = .ok (.iload 6, 2) := by decide +kernel
theorem dL_act_251 : decode cL_act 251 = .ok (.iload 7, 2) := by decide +kernel
theorem dL_act_253 : decode cL_act 253 = .ok (.aload_n 1, 1) := by decide +kernel
theorem dL_act_254 : decode cL_act 254 = .ok (.getfield 39, 3) := by decide +kernel
theorem dL_act_257 : decode cL_act 257 = .ok (.iload 6, 2) := by decide +kernel
theorem dL_act_259 : decode cL_act 259 = .ok (.aaload, 1) := by decide +kernel
theorem dL_act_260 : decode cL_act 260 = .ok (.iload 7, 2) := by decide +kernel
theorem dL_act_262 : decode cL_act 262 = .ok (.iaload, 1) := by decide +kernel
theorem dL_act_263 : decode cL_act 263 = .ok (.invokevirtual 43, 3) := by decide +kernel
theorem dL_act_266 : decode cL_act 266 = .ok (.iload 8, 2) := by decide +kernel
theorem dL_act_268 : decode cL_act 268 = .ok (.if_icmp .ne 7, 3) := by decide +kernel
theorem dL_act_271 : decode cL_act 271 = .ok (.iconst 1, 1) := by decide +kernel
theorem dL_act_272 : decode cL_act 272 = .ok (.goto 4, 3) := by decide +kernel
theorem dL_act_275 : decode cL_act 275 = .ok (.iconst 0, 1) := by decide +kernel
theorem dL_act_276 : decode cL_act 276 = .ok (.ireturn, 1) := by decide +kernel
set_option maxRecDepth 20000 in
theorem ggL_build_X3_init : GoodIn wsL_build wsX3_init := goodIn_r _ [5, 6, 7, 8, 9, 10, 187, 188, 189, 190, 191, 192, 193, 194] rfl (by decide +kernel)
set_option maxRecDepth 20000 in
theorem gL_build_X3_init_n47 : GoodIn wsL_build (wsX3_init) := ggL_build_X3_init
set_option maxRecDepth 20000 in
theorem ggL_build_L_cell : GoodIn wsL_build wsL_cell := goodIn_r _ [14, 15] rfl (by decide +kernel)
set_option maxRecDepth 20000 in
theorem gL_build_L_cell : GoodIn wsL_build (va_wsS RL 48 yL_cell wsL_cell) := goodIn_app (goodIn_of _ (by decide +kernel)) ggL_build_L_cell
set_option maxRecDepth 20000 in
theorem ggL_build_L_below : GoodIn wsL_build wsL_below := goodIn_r _ [18, 19] rfl (by decide +kernel)
set_option maxRecDepth 20000 in
theorem gL_build_L_below : GoodIn wsL_build (va_wsS RL 15 yL_below wsL_below) := goodIn_app (goodIn_of _ (by decide +kernel)) ggL_build_L_below
set_option maxRecDepth 20000 in
theorem ggL_build_X3_come : GoodIn wsL_build wsX3_come := goodIn_r _ [23, 24, 25, 10, 26, 27, 28, 3, 29, 187, 188, 189, 190, 191, 192, 193, 194] rfl (by decide +kernel)
set_option maxRecDepth 20000 in
theorem gL_build_X3_come : GoodIn wsL_build (wsV RL 21 RX3 yX3_come wsX3_come) := goodIn_app (goodIn_of _ (by decide +kernel)) ggL_build_X3_come
set_option maxRecDepth 20000 in
theorem ggL_build_X2_come : GoodIn wsL_build wsX2_come := goodIn_ca (goodIn_r _ [34, 35, 36, 37, 38, 39, 40, 41, 42, 43, 44, 45, 46, 47, 48, 49, 50, 51, 52, 53, 54, 55, 56, 57, 58, 59, 33, 60, 61, 62, 63, 64, 65, 66, 67, 68, 69, 70, 71, 72, 73, 74, 75, 76, 77, 78, 79, 80, 81, 82, 83, 84, 85, 86, 87, 88, 89, 90, 91, 92, 93, 94, 95, 96, 97, 98, 99, 100, 101, 102, 103, 104, 105, 106, 107, 108, 109, 110, 111, 112, 113, 114, 115, 116, 117, 118, 119, 120, 121, 122, 123, 124, 125, 126, 127, 128, 129, 130, 131, 195, 196, 197, 198, 199, 200, 201, 202, 203, 204, 205, 206, 207, 208] rfl (by decide +kernel)) (goodIn_sub (fun _ h => List.mem_cons_of_mem _ (List.mem_append_left _ (List.mem_append_left _ (List.mem_append_right _ h)))) (by decide +kernel))
set_option maxRecDepth 20000 in
theorem gL_build_X2_come : GoodIn wsL_build (wsV RL 24 RX2 yX2_come wsX2_come) := goodIn_app (goodIn_of _ (by decide +kernel)) ggL_build_X2_come
set_option maxRecDepth 20000 in
theorem ggL_build_L_act : GoodIn wsL_build wsL_act := goodIn_ca (goodIn_ca (goodIn_ca (goodIn_r _ [134, 135, 136, 137, 27, 28, 3, 29, 10, 16, 17, 13, 18, 19, 20, 21, 22, 23, 24, 25, 26, 30, 31, 32, 33, 34, 35, 36, 37, 38, 39, 40, 41, 42, 43, 44, 45, 46, 47, 48, 49, 50, 51, 52, 53, 54, 55, 56, 57, 58, 59, 60, 61, 62, 63, 64, 65, 66, 67, 68, 69, 70, 71, 72, 73, 74, 75, 76, 77, 78, 79, 80, 81, 82, 83, 84, 85, 86, 87, 88, 89, 90, 91, 92, 93, 94, 95, 96, 97, 98, 99, 100, 101, 102, 103, 104, 105, 106, 107, 108, 109, 110, 111, 112, 113, 114, 115, 116, 117, 118, 119, 120, 121, 122, 123, 124, 125, 126, 127, 128, 129, 130, 131, 138, 139, 140, 141, 142, 143, 144, 145, 146, 147, 148, 149, 150, 151, 152, 153, 154, 155, 156, 157, 158, 159, 160, 161, 162, 163, 164, 165, 166, 167, 168, 169, 170, 171, 172, 173, 174, 175, 9, 176, 177, 178, 179, 180, 181, 182, 183, 184, 185, 186, 187, 188, 189, 190, 191, 192, 193, 194, 195, 196, 197, 198, 199, 200, 201, 202, 203, 204, 205, 206, 207, 208] rfl (by decide +kernel)) (goodIn_sub (fun _ h => List.mem_cons_of_mem _ (List.mem_append_left _ (List.mem_append_left _ (List.mem_append_right _ h)))) (by decide +kernel))) (goodIn_sub (fun _ h => List.mem_cons_of_mem _ (List.mem_append_left _ (List.mem_append_right _ h))) (by decide +kernel))) (goodIn_sub (fun _ h => List.mem_cons_of_mem _ (List.mem_append_right _ h)) (by decide +kernel))
set_option maxRecDepth 20000 in
theorem gL_build_L_act : GoodIn wsL_build (va_wsS RL 52 yL_act wsL_act) := goodIn_app (goodIn_of _ (by decide +kernel)) ggL_build_L_act
theorem dL_build_0 : decode cL_build 0 = .ok (.new 10, 3) := by decide +kernel
theorem dL_build_3 : decode cL_build 3 = .ok (.dup, 1) := by decide +kernel
theorem dL_build_4 : decode cL_build 4 = .ok (.invokespecial 47, 3) := by decide +kernel
theorem dL_build_7 : decode cL_build 7 = .ok (.astore_n 2, 1) := by decide +kernel
theorem dL_build_8 : decode cL_build 8 = .ok (.iconst 1, 1) := by decide +kernel
theorem dL_build_9 : decode cL_build 9 = .ok (.aload_n 1, 1) := by decide +kernel
theorem dL_build_10 : decode cL_build 10 = .ok (.iconst 0, 1) := by decide +kernel
theorem dL_build_11 : decode cL_build 11 = .ok (.invokestatic 48, 3) := by decide +kernel
theorem dL_build_14 : decode cL_build 14 = .ok (.iconst 5, 1) := by decide +kernel
theorem dL_build_15 : decode cL_build 15 = .ok (.invokestatic 15, 3) := by decide +kernel
theorem dL_build_18 : decode cL_build 18 = .ok (.iadd, 1) := by decide +kernel
theorem dL_build_19 : decode cL_build 19 = .ok (.istore_n 3, 1) := by decide +kernel
theorem dL_build_20 : decode cL_build 20 = .ok (.iconst 0, 1) := by decide +kernel
theorem dL_build_21 : decode cL_build 21 = .ok (.istore 4, 2) := by decide +kernel
theorem dL_build_23 : decode cL_build 23 = .ok (.iload 4, 2) := by decide +kernel
theorem dL_build_25 : decode cL_build 25 = .ok (.iload_n 3, 1) := by decide +kernel
theorem dL_build_26 : decode cL_build 26 = .ok (.if_icmp .ge 24, 3) := by decide +kernel
theorem dL_build_29 : decode cL_build 29 = .ok (.aload_n 2, 1) := by decide +kernel
theorem dL_build_30 : decode cL_build 30 = .ok (.invokevirtual 21, 3) := by decide +kernel
theorem dL_build_33 : decode cL_build 33 = .ok (.aload_n 0, 1) := by decide +kernel
theorem dL_build_34 : decode cL_build 34 = .ok (.invokevirtual 24, 3) := by decide +kernel
theorem dL_build_37 : decode cL_build 37 = .ok (.iload 4, 2) := by decide +kernel
theorem dL_build_39 : decode cL_build 39 = .ok (.if_icmp .eq 5, 3) := by decide +kernel
theorem dL_build_42 : decode cL_build 42 = .ok (.aconst_null, 1) := by decide +kernel
theorem dL_build_43 : decode cL_build 43 = .ok (.areturn, 1) := by decide +kernel
theorem dL_build_44 : decode cL_build 44 = .ok (.iinc 4 1, 3) := by decide +kernel
theorem dL_build_47 : decode cL_build 47 = .ok (.goto (-24), 3) := by decide +kernel
theorem dL_build_50 : decode cL_build 50 = .ok (.iconst 0, 1) := by decide +kernel
theorem dL_build_51 : decode cL_build 51 = .ok (.istore 4, 2) := by decide +kernel
theorem dL_build_53 : decode cL_build 53 = .ok (.iload 4, 2) := by decide +kernel
theorem dL_build_55 : decode cL_build 55 = .ok (.bipush 34, 2) := by decide +kernel
theorem dL_build_57 : decode cL_build 57 = .ok (.if_icmp .ge 43, 3) := by decide +kernel
theorem dL_build_60 : decode cL_build 60 = .ok (.aload_n 0, 1) := by decide +kernel
theorem dL_build_61 : decode cL_build 61 = .ok (.aload_n 2, 1) := by decide +kernel
theorem dL_build_62 : decode cL_build 62 = .ok (.aload_n 1, 1) := by decide +kernel
theorem dL_build_63 : decode cL_build 63 = .ok (.iload 4, 2) := by decide +kernel
theorem dL_build_65 : decode cL_build 65 = .ok (.bipush 16, 2) := by decide +kernel
theorem dL_build_67 : decode cL_build 67 = .ok (.irem, 1) := by decide +kernel
theorem dL_build_68 : decode cL_build 68 = .ok (.invokestatic 48, 3) := by decide +kernel
theorem dL_build_71 : decode cL_build 71 = .ok (.iload 4, 2) := by decide +kernel
theorem dL_build_73 : decode cL_build 73 = .ok (.bipush 16, 2) := by decide +kernel
theorem dL_build_75 : decode cL_build 75 = .ok (.idiv, 1) := by decide +kernel
theorem dL_build_76 : decode cL_build 76 = .ok (.iconst 3, 1) := by decide +kernel
theorem dL_build_77 : decode cL_build 77 = .ok (.imul, 1) := by decide +kernel
theorem dL_build_78 : decode cL_build 78 = .ok (.ishr, 1) := by decide +kernel
theorem dL_build_79 : decode cL_build 79 = .ok (.sipush 251, 3) := by decide +kernel
theorem dL_build_82 : decode cL_build 82 = .ok (.iload 4, 2) := by decide +kernel
theorem dL_build_84 : decode cL_build 84 = .ok (.imul, 1) := by decide +kernel
theorem dL_build_85 : decode cL_build 85 = .ok (.iadd, 1) := by decide +kernel
theorem dL_build_86 : decode cL_build 86 = .ok (.invokestatic 52, 3) := by decide +kernel
theorem dL_build_89 : decode cL_build 89 = .ok (.ifCond .ne 5, 3) := by decide +kernel
theorem dL_build_92 : decode cL_build 92 = .ok (.aconst_null, 1) := by decide +kernel
theorem dL_build_93 : decode cL_build 93 = .ok (.areturn, 1) := by decide +kernel
theorem dL_build_94 : decode cL_build 94 = .ok (.iinc 4 1, 3) := by decide +kernel
theorem dL_build_97 : decode cL_build 97 = .ok (.goto (-44), 3) := by decide +kernel
theorem dL_build_100 : decode cL_build 100 = .ok (.aload_n 2, 1) := by decide +kernel
theorem dL_build_101 : decode cL_build 101 = .ok (.areturn, 1) := by decide +kernel
set_option maxRecDepth 20000 in
theorem ggL_law_X2_init : GoodIn wsL_law wsX2_init := goodIn_r _ [5, 6, 7, 8, 9, 10, 11, 12, 13, 14, 15, 16, 17, 18, 19, 20, 21, 22, 23, 24, 25, 26, 27, 28, 29, 30, 31, 32, 33, 34, 35, 36, 329, 330, 320, 321, 322, 323, 324, 325, 326, 327, 328, 331, 332, 333] rfl (by decide +kernel)
set_option maxRecDepth 20000 in
theorem gL_law_X2_init : GoodIn wsL_law (wsX2_init) := ggL_law_X2_init
set_option maxRecDepth 20000 in
theorem ggL_law_L_build : GoodIn wsL_law wsL_build := goodIn_ca (goodIn_ca (goodIn_ca (goodIn_r _ [40, 41, 42, 43, 44, 45, 46, 7, 8, 47, 48, 49, 50, 39, 51, 52, 53, 54, 55, 56, 57, 58, 59, 60, 61, 19, 62, 63, 64, 65, 66, 67, 68, 2, 69, 70, 71, 12, 72, 73, 74, 11, 75, 29, 76, 77, 78, 79, 80, 81, 82, 83, 28, 84, 85, 86, 87, 88, 89, 90, 91, 16, 92, 93, 94, 15, 95, 34, 35, 36, 96, 97, 98, 99, 100, 101, 102, 103, 104, 105, 106, 107, 108, 109, 110, 111, 112, 113, 114, 115, 116, 117, 118, 119, 20, 120, 121, 122, 123, 124, 125, 126, 127, 128, 129, 130, 131, 132, 133, 134, 135, 136, 137, 138, 139, 140, 141, 142, 143, 144, 145, 22, 23, 24, 146, 147, 148, 149, 150, 151, 152, 153, 154, 155, 156, 157, 158, 159, 160, 161, 162, 163, 164, 165, 166, 167, 168, 169, 170, 171, 172, 173, 174, 175, 176, 177, 178, 179, 180, 181, 182, 183, 184, 185, 186, 187, 188, 189, 190, 191, 192, 193, 194, 195, 196, 197, 198, 199, 200, 201, 202, 203, 204, 205, 206, 207, 208, 334, 335, 336, 337, 338, 339, 340, 341, 320, 321, 322, 323, 324, 325, 326, 327, 328, 329, 330, 331, 332, 333] rfl (by decide +kernel)) (goodIn_sub (fun _ h => List.mem_append_left _ (List.mem_append_left _ (List.mem_append_right _ h))) (by decide +kernel))) (goodIn_sub (fun _ h => List.mem_append_left _ (List.mem_append_right _ h)) (by decide +kernel))) (goodIn_sub (fun _ h => List.mem_append_right _ h) (by decide +kernel))
set_option maxRecDepth 20000 in
theorem gL_law_L_build : GoodIn wsL_law (va_wsS RL 57 yL_build wsL_build) := goodIn_app (goodIn_of _ (by decide +kernel)) ggL_law_L_build
set_option maxRecDepth 20000 in
theorem ggL_law_L_cell : GoodIn wsL_law wsL_cell := goodIn_r _ [51, 52] rfl (by decide +kernel)
set_option maxRecDepth 20000 in
theorem gL_law_L_cell : GoodIn wsL_law (va_wsS RL 48 yL_cell wsL_cell) := goodIn_app (goodIn_of _ (by decide +kernel)) ggL_law_L_cell
set_option maxRecDepth 20000 in
theorem ggL_law_L_act : GoodIn wsL_law wsL_act := goodIn_ca (goodIn_ca (goodIn_ca (goodIn_r _ [156, 157, 158, 159, 63, 64, 43, 65, 48, 53, 54, 39, 55, 56, 57, 58, 59, 60, 61, 19, 62, 66, 67, 68, 2, 69, 70, 71, 12, 72, 73, 74, 11, 75, 29, 76, 77, 78, 79, 80, 81, 82, 83, 28, 84, 85, 86, 87, 88, 89, 90, 91, 16, 92, 93, 94, 15, 95, 34, 35, 36, 96, 97, 98, 99, 100, 101, 102, 103, 104, 105, 106, 107, 108, 109, 110, 111, 112, 113, 114, 115, 116, 117, 118, 119, 20, 120, 121, 122, 123, 124, 125, 126, 127, 128, 129, 130, 131, 132, 133, 134, 135, 136, 137, 138, 139, 140, 141, 142, 143, 144, 145, 22, 23, 24, 146, 147, 148, 149, 150, 151, 152, 153, 160, 161, 162, 163, 164, 165, 166, 167, 168, 169, 170, 171, 172, 173, 174, 175, 176, 177, 178, 179, 180, 181, 182, 183, 184, 185, 186, 187, 188, 189, 190, 191, 192, 193, 194, 195, 196, 197, 47, 198, 199, 200, 201, 202, 203, 204, 205, 206, 207, 208, 334, 335, 336, 337, 338, 339, 340, 341, 320, 321, 322, 323, 324, 325, 326, 327, 328, 329, 330, 331, 332, 333] rfl (by decide +kernel)) (goodIn_sub (fun _ h => List.mem_append_left _ (List.mem_append_left _ (List.mem_append_right _ h))) (by decide +kernel))) (goodIn_sub (fun _ h => List.mem_append_left _ (List.mem_append_right _ h)) (by decide +kernel))) (goodIn_sub (fun _ h => List.mem_append_right _ h) (by decide +kernel))
set_option maxRecDepth 20000 in
theorem gL_law_L_act : GoodIn wsL_law (va_wsS RL 52 yL_act wsL_act) := goodIn_app (goodIn_of _ (by decide +kernel)) ggL_law_L_act
set_option maxRecDepth 20000 in
theorem ggL_law_X2_count : GoodIn wsL_law wsX2_count := goodIn_ca (goodIn_r _ [212, 164, 165, 213, 214, 215, 2, 216, 12, 22, 16, 23, 24, 72, 73, 74, 11, 75, 29, 146, 147, 148, 15, 149, 34, 150, 151, 152, 153, 20, 217, 218, 219, 220, 35, 221, 222, 223, 224, 225, 226, 227, 228, 133, 134, 135, 136, 137, 138, 139, 140, 36, 141, 109, 110, 111, 28, 84, 85, 86, 87, 229, 230, 231, 232, 128, 129, 130, 131, 132, 320, 321, 322, 323, 324, 325, 326, 327, 328, 329, 330, 331, 332, 333] rfl (by decide +kernel)) (goodIn_sub (fun _ h => List.mem_append_left _ (List.mem_append_right _ h)) (by decide +kernel))
set_option maxRecDepth 20000 in
theorem gL_law_X2_count : GoodIn wsL_law (wsV RL 61 RX2 yX2_count wsX2_count) := goodIn_app (goodIn_of _ (by decide +kernel)) ggL_law_X2_count
set_option maxRecDepth 20000 in
theorem ggL_law_X2_told : GoodIn wsL_law wsX2_told := goodIn_ca (goodIn_r _ [236, 164, 165, 12, 132, 85, 86, 11, 87, 29, 237, 238, 239, 2, 240, 16, 137, 138, 139, 15, 140, 36, 133, 134, 135, 136, 141, 109, 110, 111, 28, 84, 229, 230, 231, 232, 23, 128, 129, 130, 131, 20, 225, 226, 227, 228, 241, 242, 243, 244, 72, 73, 74, 75, 245, 246, 247, 248, 320, 321, 322, 323, 324, 325, 326, 327, 328, 329, 330, 331, 332, 333] rfl (by decide +kernel)) (goodIn_sub (fun _ h => List.mem_append_left _ (List.mem_append_right _ h)) (by decide +kernel))
set_option maxRecDepth 20000 in
theorem gL_law_X2_told : GoodIn wsL_law (wsV RL 64 RX2 yX2_told wsX2_told) := goodIn_app (goodIn_of _ (by decide +kernel)) ggL_law_X2_told
set_option maxRecDepth 20000 in
theorem ggL_law_X2_offer : GoodIn wsL_law wsX2_offer := goodIn_ca (goodIn_r _ [252, 164, 165, 12, 132, 85, 86, 11, 87, 29, 141, 109, 110, 111, 28, 84, 320, 321, 322, 323, 324, 325, 326, 327, 328, 329, 330] rfl (by decide +kernel)) (goodIn_sub (fun _ h => List.mem_append_left _ (List.mem_append_right _ h)) (by decide +kernel))
set_option maxRecDepth 20000 in
theorem gL_law_X2_offer : GoodIn wsL_law (wsV RL 67 RX2 yX2_offer wsX2_offer) := goodIn_app (goodIn_of _ (by decide +kernel)) ggL_law_X2_offer
set_option maxRecDepth 20000 in
theorem ggL_law_X2_gap : GoodIn wsL_law wsX2_gap := goodIn_ca (goodIn_r _ [256, 164, 165, 12, 16, 132, 85, 86, 11, 87, 29, 229, 230, 231, 2, 232, 23, 128, 129, 130, 131, 20, 137, 138, 139, 15, 140, 36, 141, 109, 110, 111, 28, 84, 225, 226, 227, 228, 133, 134, 135, 136, 320, 321, 322, 323, 324, 325, 326, 327, 328, 329, 330, 331, 332, 333] rfl (by decide +kernel)) (goodIn_sub (fun _ h => List.mem_append_left _ (List.mem_append_right _ h)) (by decide +kernel))
set_option maxRecDepth 20000 in
theorem gL_law_X2_gap : GoodIn wsL_law (wsV RL 70 RX2 yX2_gap wsX2_gap) := goodIn_app (goodIn_of _ (by decide +kernel)) ggL_law_X2_gap
set_option maxRecDepth 20000 in
theorem ggL_law_X2_envies : GoodIn wsL_law wsX2_envies := goodIn_ca (goodIn_r _ [260, 164, 165, 12, 132, 85, 86, 11, 87, 29, 245, 246, 247, 2, 248, 16, 137, 138, 139, 15, 140, 36, 141, 109, 110, 111, 28, 84, 133, 134, 135, 136, 320, 321, 322, 323, 324, 325, 326, 327, 328, 329, 330, 331, 332, 333] rfl (by decide +kernel)) (goodIn_sub (fun _ h => List.mem_append_left _ (List.mem_append_right _ h)) (by decide +kernel))
set_option maxRecDepth 20000 in
theorem gL_law_X2_envies : GoodIn wsL_law (wsV RL 73 RX2 yX2_envies wsX2_envies) := goodIn_app (goodIn_of _ (by decide +kernel)) ggL_law_X2_envies
set_option maxRecDepth 20000 in
theorem ggL_law_X2_mean : GoodIn wsL_law wsX2_mean := goodIn_r _ [264, 12, 72, 73, 74, 11, 75, 29, 221, 222, 223, 2, 224, 225, 226, 227, 228, 133, 134, 135, 136, 16, 137, 138, 139, 15, 140, 36, 141, 109, 110, 111, 28, 84, 85, 86, 87, 229, 230, 231, 232, 23, 128, 129, 130, 131, 20, 132, 320, 321, 322, 323, 324, 325, 326, 327, 328, 329, 330, 331, 332, 333] rfl (by decide +kernel)
set_option maxRecDepth 20000 in
theorem gL_law_X2_mean : GoodIn wsL_law (wsV RL 77 RX2 yX2_mean wsX2_mean) := goodIn_app (goodIn_of _ (by decide +kernel)) ggL_law_X2_mean
set_option maxRecDepth 20000 in
theorem ggL_law_L_below : GoodIn wsL_law wsL_below := goodIn_r _ [55, 56] rfl (by decide +kernel)
set_option maxRecDepth 20000 in
theorem gL_law_L_below : GoodIn wsL_law (va_wsS RL 15 yL_below wsL_below) := goodIn_app (goodIn_of _ (by decide +kernel)) ggL_law_L_below
set_option maxRecDepth 20000 in
theorem ggL_law_X2_would : GoodIn wsL_law wsX2_would := goodIn_ca (goodIn_ca (goodIn_r _ [268, 164, 165, 202, 203, 12, 17, 132, 85, 86, 11, 87, 29, 269, 270, 271, 272, 28, 273, 274, 275, 276, 277, 278, 279, 2, 280, 18, 208, 81, 82, 83, 84, 92, 93, 94, 15, 95, 34, 35, 36, 96, 73, 74, 75, 97, 98, 99, 100, 101, 102, 103, 104, 105, 106, 107, 108, 109, 110, 111, 112, 113, 114, 115, 137, 138, 139, 140, 320, 321, 322, 323, 324, 325, 326, 327, 328, 329, 330, 331, 332, 333] rfl (by decide +kernel)) (goodIn_sub (fun _ h => List.mem_append_left _ (List.mem_append_right _ h)) (by decide +kernel))) (goodIn_sub (fun _ h => List.mem_append_right _ h) (by decide +kernel))
set_option maxRecDepth 20000 in
theorem gL_law_X2_would : GoodIn wsL_law (wsV RL 81 RX2 yX2_would wsX2_would) := goodIn_app (goodIn_of _ (by decide +kernel)) ggL_law_X2_would
set_option maxRecDepth 20000 in
theorem ggL_law_X2_bid : GoodIn wsL_law wsX2_bid := goodIn_ca (goodIn_ca (goodIn_r _ [207, 164, 165, 202, 203, 12, 132, 85, 86, 11, 87, 29, 141, 109, 110, 111, 28, 84, 208, 81, 82, 83, 88, 89, 90, 2, 91, 16, 92, 93, 94, 15, 95, 34, 35, 36, 96, 73, 74, 75, 97, 98, 99, 100, 101, 102, 103, 104, 105, 106, 107, 108, 112, 113, 114, 115, 116, 117, 118, 119, 20, 72, 120, 121, 122, 123, 124, 125, 126, 127, 128, 129, 130, 131, 133, 134, 135, 136, 137, 138, 139, 140, 142, 143, 144, 145, 22, 23, 24, 146, 147, 148, 149, 150, 151, 152, 153, 320, 321, 322, 323, 324, 325, 326, 327, 328, 329, 330, 331, 332, 333] rfl (by decide +kernel)) (goodIn_sub (fun _ h => List.mem_append_left _ (List.mem_append_right _ h)) (by decide +kernel))) (goodIn_sub (fun _ h => List.mem_append_right _ h) (by decide +kernel))
set_option maxRecDepth 20000 in
theorem gL_law_X2_bid : GoodIn wsL_law (wsV RL 43 RX2 yX2_bid wsX2_bid) := goodIn_app (goodIn_of _ (by decide +kernel)) ggL_law_X2_bid
set_option maxRecDepth 20000 in
theorem ggL_law_X3_isSame : GoodIn wsL_law wsX3_isSame := goodIn_ca (goodIn_r _ [284, 48, 175, 19, 285, 286, 287, 180, 288, 181, 289, 290, 291, 43, 292, 61, 293, 125, 126, 127, 176, 177, 178, 179, 182, 183, 184, 185, 62, 63, 64, 65, 186, 187, 188, 189, 190, 191, 192, 193, 194, 195, 196, 197, 47, 294, 295, 296, 297, 298, 258, 259, 2, 260, 164, 165, 12, 132, 85, 86, 11, 87, 29, 245, 246, 247, 248, 16, 137, 138, 139, 15, 140, 36, 141, 109, 110, 111, 28, 84, 133, 134, 135, 136, 299, 250, 251, 252, 300, 254, 255, 256, 229, 230, 231, 232, 23, 128, 129, 130, 131, 20, 225, 226, 227, 228, 301, 302, 303, 304, 305, 234, 235, 236, 237, 238, 239, 240, 241, 242, 243, 244, 72, 73, 74, 75, 306, 210, 211, 212, 213, 214, 215, 216, 22, 24, 146, 147, 148, 149, 34, 150, 151, 152, 153, 217, 218, 219, 220, 35, 221, 222, 223, 224, 307, 308, 309, 310, 21, 124, 311, 312, 313, 314, 315, 316, 317, 318, 319, 262, 263, 264, 334, 335, 336, 337, 338, 339, 340, 341, 320, 321, 322, 323, 324, 325, 326, 327, 328, 329, 330, 331, 332, 333] rfl (by decide +kernel)) (goodIn_sub (fun _ h => List.mem_append_left _ (List.mem_append_right _ h)) (by decide +kernel))
set_option maxRecDepth 20000 in
theorem gL_law_X3_isSame : GoodIn wsL_law (wsV RL 84 RX3 yX3_isSame wsX3_isSame) := goodIn_app (goodIn_of _ (by decide +kernel)) ggL_law_X3_isSame
theorem dL_law_0 : decode cL_law 0 = .ok (.new 25, 3) := by decide +kernel
theorem dL_law_3 : decode cL_law 3 = .ok (.dup, 1) := by decide +kernel
theorem dL_law_4 : decode cL_law 4 = .ok (.invokespecial 56, 3) := by decide +kernel
theorem dL_law_7 : decode cL_law 7 = .ok (.astore_n 1, 1) := by decide +kernel
theorem dL_law_8 : decode cL_law 8 = .ok (.aload_n 1, 1) := by decide +kernel
theorem dL_law_9 : decode cL_law 9 = .ok (.aload_n 0, 1) := by decide +kernel
theorem dL_law_10 : decode cL_law 10 = .ok (.invokestatic 57, 3) := by decide +kernel
theorem dL_law_13 : decode cL_law 13 = .ok (.astore_n 2, 1) := by decide +kernel
theorem dL_law_14 : decode cL_law 14 = .ok (.aload_n 2, 1) := by decide +kernel
theorem dL_law_15 : decode cL_law 15 = .ok (.ifnonnull 5, 3) := by decide +kernel
theorem dL_law_18 : decode cL_law 18 = .ok (.iconst 0, 1) := by decide +kernel
theorem dL_law_19 : decode cL_law 19 = .ok (.ireturn, 1) := by decide +kernel
theorem dL_law_20 : decode cL_law 20 = .ok (.iconst 0, 1) := by decide +kernel
theorem dL_law_21 : decode cL_law 21 = .ok (.istore_n 3, 1) := by decide +kernel
theorem dL_law_22 : decode cL_law 22 = .ok (.iload_n 3, 1) := by decide +kernel
theorem dL_law_23 : decode cL_law 23 = .ok (.bipush 8, 2) := by decide +kernel
theorem dL_law_25 : decode cL_law 25 = .ok (.if_icmp .ge 709, 3) := by decide +kernel
theorem dL_law_28 : decode cL_law 28 = .ok (.aload_n 0, 1) := by decide +kernel
theorem dL_law_29 : decode cL_law 29 = .ok (.iload_n 3, 1) := by decide +kernel
theorem dL_law_30 : decode cL_law 30 = .ok (.invokestatic 48, 3) := by decide +kernel
theorem dL_law_33 : decode cL_law 33 = .ok (.sipush 251, 3) := by decide +kernel
theorem dL_law_36 : decode cL_law 36 = .ok (.iload_n 3, 1) := by decide +kernel
theorem dL_law_37 : decode cL_law 37 = .ok (.imul, 1) := by decide +kernel
theorem dL_law_38 : decode cL_law 38 = .ok (.iadd, 1) := by decide +kernel
theorem dL_law_39 : decode cL_law 39 = .ok (.istore 4, 2) := by decide +kernel
theorem dL_law_41 : decode cL_law 41 = .ok (.iconst 0, 1) := by decide +kernel
theorem dL_law_42 : decode cL_law 42 = .ok (.istore 5, 2) := by decide +kernel
theorem dL_law_44 : decode cL_law 44 = .ok (.iload 5, 2) := by decide +kernel
theorem dL_law_46 : decode cL_law 46 = .ok (.iconst 2, 1) := by decide +kernel
theorem dL_law_47 : decode cL_law 47 = .ok (.if_icmp .ge 33, 3) := by decide +kernel
theorem dL_law_50 : decode cL_law 50 = .ok (.aload_n 1, 1) := by decide +kernel
theorem dL_law_51 : decode cL_law 51 = .ok (.aload_n 2, 1) := by decide +kernel
theorem dL_law_52 : decode cL_law 52 = .ok (.iload 4, 2) := by decide +kernel
theorem dL_law_54 : decode cL_law 54 = .ok (.iconst 2, 1) := by decide +kernel
theorem dL_law_55 : decode cL_law 55 = .ok (.iload 5, 2) := by decide +kernel
theorem dL_law_57 : decode cL_law 57 = .ok (.imul, 1) := by decide +kernel
theorem dL_law_58 : decode cL_law 58 = .ok (.ishr, 1) := by decide +kernel
theorem dL_law_59 : decode cL_law 59 = .ok (.sipush 167, 3) := by decide +kernel
theorem dL_law_62 : decode cL_law 62 = .ok (.iload 5, 2) := by decide +kernel
theorem dL_law_64 : decode cL_law 64 = .ok (.imul, 1) := by decide +kernel
theorem dL_law_65 : decode cL_law 65 = .ok (.iadd, 1) := by decide +kernel
theorem dL_law_66 : decode cL_law 66 = .ok (.invokestatic 52, 3) := by decide +kernel
theorem dL_law_69 : decode cL_law 69 = .ok (.ifCond .ne 5, 3) := by decide +kernel
theorem dL_law_72 : decode cL_law 72 = .ok (.iconst 0, 1) := by decide +kernel
theorem dL_law_73 : decode cL_law 73 = .ok (.ireturn, 1) := by decide +kernel
theorem dL_law_74 : decode cL_law 74 = .ok (.iinc 5 1, 3) := by decide +kernel
theorem dL_law_77 : decode cL_law 77 = .ok (.goto (-33), 3) := by decide +kernel
theorem dL_law_80 : decode cL_law 80 = .ok (.aload_n 1, 1) := by decide +kernel
theorem dL_law_81 : decode cL_law 81 = .ok (.iconst 0, 1) := by decide +kernel
theorem dL_law_82 : decode cL_law 82 = .ok (.invokevirtual 61, 3) := by decide +kernel
theorem dL_law_85 : decode cL_law 85 = .ok (.istore 5, 2) := by decide +kernel
theorem dL_law_87 : decode cL_law 87 = .ok (.aload_n 1, 1) := by decide +kernel
theorem dL_law_88 : decode cL_law 88 = .ok (.iconst 1, 1) := by decide +kernel
theorem dL_law_89 : decode cL_law 89 = .ok (.invokevirtual 61, 3) := by decide +kernel
theorem dL_law_92 : decode cL_law 92 = .ok (.istore 6, 2) := by decide +kernel
theorem dL_law_94 : decode cL_law 94 = .ok (.iconst 0, 1) := by decide +kernel
theorem dL_law_95 : decode cL_law 95 = .ok (.istore 7, 2) := by decide +kernel
theorem dL_law_97 : decode cL_law 97 = .ok (.iconst 0, 1) := by decide +kernel
theorem dL_law_98 : decode cL_law 98 = .ok (.istore 8, 2) := by decide +kernel
theorem dL_law_100 : decode cL_law 100 = .ok (.iconst 0, 1) := by decide +kernel
theorem dL_law_101 : decode cL_law 101 = .ok (.istore 9, 2) := by decide +kernel
theorem dL_law_103 : decode cL_law 103 = .ok (.iconst 0, 1) := by decide +kernel
theorem dL_law_104 : decode cL_law 104 = .ok (.istore 10, 2) := by decide +kernel
theorem dL_law_106 : decode cL_law 106 = .ok (.iconst 0, 1) := by decide +kernel
theorem dL_law_107 : decode cL_law 107 = .ok (.istore 11, 2) := by decide +kernel
theorem dL_law_109 : decode cL_law 109 = .ok (.iconst 0, 1) := by decide +kernel
theorem dL_law_110 : decode cL_law 110 = .ok (.istore 12, 2) := by decide +kernel
theorem dL_law_112 : decode cL_law 112 = .ok (.iload 12, 2) := by decide +kernel
theorem dL_law_114 : decode cL_law 114 = .ok (.iload 5, 2) := by decide +kernel
theorem dL_law_116 : decode cL_law 116 = .ok (.if_icmp .ge 363, 3) := by decide +kernel
theorem dL_law_119 : decode cL_law 119 = .ok (.aload_n 1, 1) := by decide +kernel
theorem dL_law_120 : decode cL_law 120 = .ok (.iload 12, 2) := by decide +kernel
theorem dL_law_122 : decode cL_law 122 = .ok (.iconst 0, 1) := by decide +kernel
theorem dL_law_123 : decode cL_law 123 = .ok (.invokevirtual 64, 3) := by decide +kernel
theorem dL_law_126 : decode cL_law 126 = .ok (.istore 13, 2) := by decide +kernel
theorem dL_law_128 : decode cL_law 128 = .ok (.aload_n 1, 1) := by decide +kernel
theorem dL_law_129 : decode cL_law 129 = .ok (.iload 12, 2) := by decide +kernel
theorem dL_law_131 : decode cL_law 131 = .ok (.iconst 2, 1) := by decide +kernel
theorem dL_law_132 : decode cL_law 132 = .ok (.invokevirtual 64, 3) := by decide +kernel
theorem dL_law_135 : decode cL_law 135 = .ok (.istore 14, 2) := by decide +kernel
theorem dL_law_137 : decode cL_law 137 = .ok (.iload 10, 2) := by decide +kernel
theorem dL_law_139 : decode cL_law 139 = .ok (.iconst 1, 1) := by decide +kernel
theorem dL_law_140 : decode cL_law 140 = .ok (.iload 13, 2) := by decide +kernel
theorem dL_law_142 : decode cL_law 142 = .ok (.ishl, 1) := by decide +kernel
theorem dL_law_143 : decode cL_law 143 = .ok (.ior, 1) := by decide +kernel
theorem dL_law_144 : decode cL_law 144 = .ok (.istore 10, 2) := by decide +kernel
theorem dL_law_146 : decode cL_law 146 = .ok (.iload 9, 2) := by decide +kernel
theorem dL_law_148 : decode cL_law 148 = .ok (.aload_n 1, 1) := by decide +kernel
theorem dL_law_149 : decode cL_law 149 = .ok (.iload 12, 2) := by decide +kernel
theorem dL_law_151 : decode cL_law 151 = .ok (.iconst 1, 1) := by decide +kernel
theorem dL_law_152 : decode cL_law 152 = .ok (.invokevirtual 64, 3) := by decide +kernel
theorem dL_law_155 : decode cL_law 155 = .ok (.iadd, 1) := by decide +kernel
theorem dL_law_156 : decode cL_law 156 = .ok (.istore 9, 2) := by decide +kernel
theorem dL_law_158 : decode cL_law 158 = .ok (.iload 7, 2) := by decide +kernel
theorem dL_law_160 : decode cL_law 160 = .ok (.iload 14, 2) := by decide +kernel
theorem dL_law_162 : decode cL_law 162 = .ok (.iadd, 1) := by decide +kernel
theorem dL_law_163 : decode cL_law 163 = .ok (.istore 7, 2) := by decide +kernel
theorem dL_law_165 : decode cL_law 165 = .ok (.iload 11, 2) := by decide +kernel
theorem dL_law_167 : decode cL_law 167 = .ok (.aload_n 1, 1) := by decide +kernel
theorem dL_law_168 : decode cL_law 168 = .ok (.iload 12, 2) := by decide +kernel
theorem dL_law_170 : decode cL_law 170 = .ok (.iconst 4, 1) := by decide +kernel
theorem dL_law_171 : decode cL_law 171 = .ok (.invokevirtual 64, 3) := by decide +kernel
theorem dL_law_174 : decode cL_law 174 = .ok (.iadd, 1) := by decide +kernel
theorem dL_law_175 : decode cL_law 175 = .ok (.istore 11, 2) := by decide +kernel
theorem dL_law_177 : decode cL_law 177 = .ok (.iload 8, 2) := by decide +kernel
theorem dL_law_179 : decode cL_law 179 = .ok (.aload_n 1, 1) := by decide +kernel
theorem dL_law_180 : decode cL_law 180 = .ok (.iload 12, 2) := by decide +kernel
theorem dL_law_182 : decode cL_law 182 = .ok (.iconst 3, 1) := by decide +kernel
theorem dL_law_183 : decode cL_law 183 = .ok (.invokevirtual 64, 3) := by decide +kernel
theorem dL_law_186 : decode cL_law 186 = .ok (.iadd, 1) := by decide +kernel
theorem dL_law_187 : decode cL_law 187 = .ok (.istore 8, 2) := by decide +kernel
theorem dL_law_189 : decode cL_law 189 = .ok (.aload_n 1, 1) := by decide +kernel
theorem dL_law_190 : decode cL_law 190 = .ok (.iload 12, 2) := by decide +kernel
theorem dL_law_192 : decode cL_law 192 = .ok (.iconst 1, 1) := by decide +kernel
theorem dL_law_193 : decode cL_law 193 = .ok (.invokevirtual 64, 3) := by decide +kernel
theorem dL_law_196 : decode cL_law 196 = .ok (.aload_n 1, 1) := by decide +kernel
theorem dL_law_197 : decode cL_law 197 = .ok (.iload 12, 2) := by decide +kernel
theorem dL_law_199 : decode cL_law 199 = .ok (.iload 13, 2) := by decide +kernel
theorem dL_law_201 : decode cL_law 201 = .ok (.invokevirtual 67, 3) := by decide +kernel
theorem dL_law_204 : decode cL_law 204 = .ok (.if_icmp .ne 71, 3) := by decide +kernel
theorem dL_law_207 : decode cL_law 207 = .ok (.aload_n 1, 1) := by decide +kernel
theorem dL_law_208 : decode cL_law 208 = .ok (.iload 12, 2) := by decide +kernel
theorem dL_law_210 : decode cL_law 210 = .ok (.iconst 3, 1) := by decide +kernel
theorem dL_law_211 : decode cL_law 211 = .ok (.invokevirtual 64, 3) := by decide +kernel
theorem dL_law_214 : decode cL_law 214 = .ok (.aload_n 1, 1) := by decide +kernel
theorem dL_law_215 : decode cL_law 215 = .ok (.iload 12, 2) := by decide +kernel
theorem dL_law_217 : decode cL_law 217 = .ok (.iconst 1, 1) := by decide +kernel
theorem dL_law_218 : decode cL_law 218 = .ok (.invokevirtual 64, 3) := by decide +kernel
theorem dL_law_221 : decode cL_law 221 = .ok (.iload 14, 2) := by decide +kernel
theorem dL_law_223 : decode cL_law 223 = .ok (.isub, 1) := by decide +kernel
theorem dL_law_224 : decode cL_law 224 = .ok (.if_icmp .ne 51, 3) := by decide +kernel
theorem dL_law_227 : decode cL_law 227 = .ok (.iload 14, 2) := by decide +kernel
theorem dL_law_229 : decode cL_law 229 = .ok (.aload_n 1, 1) := by decide +kernel
theorem dL_law_230 : decode cL_law 230 = .ok (.iload 12, 2) := by decide +kernel
theorem dL_law_232 : decode cL_law 232 = .ok (.iconst 4, 1) := by decide +kernel
theorem dL_law_233 : decode cL_law 233 = .ok (.invokevirtual 64, 3) := by decide +kernel
theorem dL_law_236 : decode cL_law 236 = .ok (.if_icmp .lt 39, 3) := by decide +kernel
theorem dL_law_239 : decode cL_law 239 = .ok (.aload_n 1, 1) := by decide +kernel
theorem dL_law_240 : decode cL_law 240 = .ok (.iload 12, 2) := by decide +kernel
theorem dL_law_242 : decode cL_law 242 = .ok (.iconst 4, 1) := by decide +kernel
theorem dL_law_243 : decode cL_law 243 = .ok (.invokevirtual 64, 3) := by decide +kernel
theorem dL_law_246 : decode cL_law 246 = .ok (.ifCond .lt 29, 3) := by decide +kernel
theorem dL_law_249 : decode cL_law 249 = .ok (.iload 14, 2) := by decide +kernel
theorem dL_law_251 : decode cL_law 251 = .ok (.aload_n 1, 1) := by decide +kernel
theorem dL_law_252 : decode cL_law 252 = .ok (.iload 12, 2) := by decide +kernel
theorem dL_law_254 : decode cL_law 254 = .ok (.iconst 4, 1) := by decide +kernel
theorem dL_law_255 : decode cL_law 255 = .ok (.invokevirtual 64, 3) := by decide +kernel
theorem dL_law_258 : decode cL_law 258 = .ok (.isub, 1) := by decide +kernel
theorem dL_law_259 : decode cL_law 259 = .ok (.aload_n 1, 1) := by decide +kernel
theorem dL_law_260 : decode cL_law 260 = .ok (.iconst 0, 1) := by decide +kernel
theorem dL_law_261 : decode cL_law 261 = .ok (.iconst 2, 1) := by decide +kernel
theorem dL_law_262 : decode cL_law 262 = .ok (.invokevirtual 64, 3) := by decide +kernel
theorem dL_law_265 : decode cL_law 265 = .ok (.aload_n 1, 1) := by decide +kernel
theorem dL_law_266 : decode cL_law 266 = .ok (.iconst 0, 1) := by decide +kernel
theorem dL_law_267 : decode cL_law 267 = .ok (.iconst 4, 1) := by decide +kernel
theorem dL_law_268 : decode cL_law 268 = .ok (.invokevirtual 64, 3) := by decide +kernel
theorem dL_law_271 : decode cL_law 271 = .ok (.isub, 1) := by decide +kernel
theorem dL_law_272 : decode cL_law 272 = .ok (.if_icmp .eq 5, 3) := by decide +kernel
theorem dL_law_275 : decode cL_law 275 = .ok (.iconst 0, 1) := by decide +kernel
theorem dL_law_276 : decode cL_law 276 = .ok (.ireturn, 1) := by decide +kernel
theorem dL_law_277 : decode cL_law 277 = .ok (.iconst 0, 1) := by decide +kernel
theorem dL_law_278 : decode cL_law 278 = .ok (.istore 15, 2) := by decide +kernel
theorem dL_law_280 : decode cL_law 280 = .ok (.iconst 0, 1) := by decide +kernel
theorem dL_law_281 : decode cL_law 281 = .ok (.istore 16, 2) := by decide +kernel
theorem dL_law_283 : decode cL_law 283 = .ok (.iload 16, 2) := by decide +kernel
theorem dL_law_285 : decode cL_law 285 = .ok (.iload 5, 2) := by decide +kernel
theorem dL_law_287 : decode cL_law 287 = .ok (.if_icmp .ge 172, 3) := by decide +kernel
theorem dL_law_290 : decode cL_law 290 = .ok (.aload_n 1, 1) := by decide +kernel
theorem dL_law_291 : decode cL_law 291 = .ok (.iload 16, 2) := by decide +kernel
theorem dL_law_293 : decode cL_law 293 = .ok (.iconst 0, 1) := by decide +kernel
theorem dL_law_294 : decode cL_law 294 = .ok (.invokevirtual 64, 3) := by decide +kernel
theorem dL_law_297 : decode cL_law 297 = .ok (.istore 17, 2) := by decide +kernel
theorem dL_law_299 : decode cL_law 299 = .ok (.aload_n 1, 1) := by decide +kernel
theorem dL_law_300 : decode cL_law 300 = .ok (.iload 12, 2) := by decide +kernel
theorem dL_law_302 : decode cL_law 302 = .ok (.iload 13, 2) := by decide +kernel
theorem dL_law_304 : decode cL_law 304 = .ok (.invokevirtual 67, 3) := by decide +kernel
theorem dL_law_307 : decode cL_law 307 = .ok (.aload_n 1, 1) := by decide +kernel
theorem dL_law_308 : decode cL_law 308 = .ok (.iload 12, 2) := by decide +kernel
theorem dL_law_310 : decode cL_law 310 = .ok (.iconst 3, 1) := by decide +kernel
theorem dL_law_311 : decode cL_law 311 = .ok (.invokevirtual 64, 3) := by decide +kernel
theorem dL_law_314 : decode cL_law 314 = .ok (.isub, 1) := by decide +kernel
theorem dL_law_315 : decode cL_law 315 = .ok (.istore 18, 2) := by decide +kernel
theorem dL_law_317 : decode cL_law 317 = .ok (.aload_n 1, 1) := by decide +kernel
theorem dL_law_318 : decode cL_law 318 = .ok (.iload 12, 2) := by decide +kernel
theorem dL_law_320 : decode cL_law 320 = .ok (.iload 17, 2) := by decide +kernel
theorem dL_law_322 : decode cL_law 322 = .ok (.invokevirtual 67, 3) := by decide +kernel
theorem dL_law_325 : decode cL_law 325 = .ok (.aload_n 1, 1) := by decide +kernel
theorem dL_law_326 : decode cL_law 326 = .ok (.iload 16, 2) := by decide +kernel
theorem dL_law_328 : decode cL_law 328 = .ok (.iconst 3, 1) := by decide +kernel
theorem dL_law_329 : decode cL_law 329 = .ok (.invokevirtual 64, 3) := by decide +kernel
theorem dL_law_332 : decode cL_law 332 = .ok (.isub, 1) := by decide +kernel
theorem dL_law_333 : decode cL_law 333 = .ok (.istore 19, 2) := by decide +kernel
theorem dL_law_335 : decode cL_law 335 = .ok (.aload_n 1, 1) := by decide +kernel
theorem dL_law_336 : decode cL_law 336 = .ok (.iload 12, 2) := by decide +kernel
theorem dL_law_338 : decode cL_law 338 = .ok (.iload 16, 2) := by decide +kernel
theorem dL_law_340 : decode cL_law 340 = .ok (.invokevirtual 70, 3) := by decide +kernel
theorem dL_law_343 : decode cL_law 343 = .ok (.iload 18, 2) := by decide +kernel
theorem dL_law_345 : decode cL_law 345 = .ok (.iload 19, 2) := by decide +kernel
theorem dL_law_347 : decode cL_law 347 = .ok (.isub, 1) := by decide +kernel
theorem dL_law_348 : decode cL_law 348 = .ok (.if_icmp .ne 45, 3) := by decide +kernel
theorem dL_law_351 : decode cL_law 351 = .ok (.iload 18, 2) := by decide +kernel
theorem dL_law_353 : decode cL_law 353 = .ok (.iload 19, 2) := by decide +kernel
theorem dL_law_355 : decode cL_law 355 = .ok (.if_icmp .lt 38, 3) := by decide +kernel
theorem dL_law_358 : decode cL_law 358 = .ok (.aload_n 1, 1) := by decide +kernel
theorem dL_law_359 : decode cL_law 359 = .ok (.iload 12, 2) := by decide +kernel
theorem dL_law_361 : decode cL_law 361 = .ok (.iload 16, 2) := by decide +kernel
theorem dL_law_363 : decode cL_law 363 = .ok (.invokevirtual 73, 3) := by decide +kernel
theorem dL_law_366 : decode cL_law 366 = .ok (.aload_n 1, 1) := by decide +kernel
theorem dL_law_367 : decode cL_law 367 = .ok (.iload 12, 2) := by decide +kernel
theorem dL_law_369 : decode cL_law 369 = .ok (.iload 17, 2) := by decide +kernel
theorem dL_law_371 : decode cL_law 371 = .ok (.invokevirtual 67, 3) := by decide +kernel
theorem dL_law_374 : decode cL_law 374 = .ok (.aload_n 1, 1) := by decide +kernel
theorem dL_law_375 : decode cL_law 375 = .ok (.iload 12, 2) := by decide +kernel
theorem dL_law_377 : decode cL_law 377 = .ok (.iload 13, 2) := by decide +kernel
theorem dL_law_379 : decode cL_law 379 = .ok (.invokevirtual 67, 3) := by decide +kernel
theorem dL_law_382 : decode cL_law 382 = .ok (.if_icmp .le 7, 3) := by decide +kernel
theorem dL_law_385 : decode cL_law 385 = .ok (.iconst 1, 1) := by decide +kernel
theorem dL_law_386 : decode cL_law 386 = .ok (.goto 4, 3) := by decide +kernel
theorem dL_law_389 : decode cL_law 389 = .ok (.iconst 0, 1) := by decide +kernel
theorem dL_law_390 : decode cL_law 390 = .ok (.if_icmp .eq 5, 3) := by decide +kernel
theorem dL_law_393 : decode cL_law 393 = .ok (.iconst 0, 1) := by decide +kernel
theorem dL_law_394 : decode cL_law 394 = .ok (.ireturn, 1) := by decide +kernel
theorem dL_law_395 : decode cL_law 395 = .ok (.iload 15, 2) := by decide +kernel
theorem dL_law_397 : decode cL_law 397 = .ok (.aload_n 1, 1) := by decide +kernel
theorem dL_law_398 : decode cL_law 398 = .ok (.iload 12, 2) := by decide +kernel
theorem dL_law_400 : decode cL_law 400 = .ok (.iload 16, 2) := by decide +kernel
theorem dL_law_402 : decode cL_law 402 = .ok (.invokevirtual 73, 3) := by decide +kernel
theorem dL_law_405 : decode cL_law 405 = .ok (.ifCond .eq 7, 3) := by decide +kernel
theorem dL_law_408 : decode cL_law 408 = .ok (.iconst 1, 1) := by decide +kernel
theorem dL_law_409 : decode cL_law 409 = .ok (.goto 4, 3) := by decide +kernel
theorem dL_law_412 : decode cL_law 412 = .ok (.iconst 0, 1) := by decide +kernel
theorem dL_law_413 : decode cL_law 413 = .ok (.iadd, 1) := by decide +kernel
theorem dL_law_414 : decode cL_law 414 = .ok (.istore 15, 2) := by decide +kernel
theorem dL_law_416 : decode cL_law 416 = .ok (.aload_n 1, 1) := by decide +kernel
theorem dL_law_417 : decode cL_law 417 = .ok (.iload 12, 2) := by decide +kernel
theorem dL_law_419 : decode cL_law 419 = .ok (.iload 17, 2) := by decide +kernel
theorem dL_law_421 : decode cL_law 421 = .ok (.invokevirtual 67, 3) := by decide +kernel
theorem dL_law_424 : decode cL_law 424 = .ok (.aload_n 1, 1) := by decide +kernel
theorem dL_law_425 : decode cL_law 425 = .ok (.iload 16, 2) := by decide +kernel
theorem dL_law_427 : decode cL_law 427 = .ok (.iload 13, 2) := by decide +kernel
theorem dL_law_429 : decode cL_law 429 = .ok (.invokevirtual 67, 3) := by decide +kernel
theorem dL_law_432 : decode cL_law 432 = .ok (.iadd, 1) := by decide +kernel
theorem dL_law_433 : decode cL_law 433 = .ok (.aload_n 1, 1) := by decide +kernel
theorem dL_law_434 : decode cL_law 434 = .ok (.iload 12, 2) := by decide +kernel
theorem dL_law_436 : decode cL_law 436 = .ok (.iconst 1, 1) := by decide +kernel
theorem dL_law_437 : decode cL_law 437 = .ok (.invokevirtual 64, 3) := by decide +kernel
theorem dL_law_440 : decode cL_law 440 = .ok (.aload_n 1, 1) := by decide +kernel
theorem dL_law_441 : decode cL_law 441 = .ok (.iload 16, 2) := by decide +kernel
theorem dL_law_443 : decode cL_law 443 = .ok (.iconst 1, 1) := by decide +kernel
theorem dL_law_444 : decode cL_law 444 = .ok (.invokevirtual 64, 3) := by decide +kernel
theorem dL_law_447 : decode cL_law 447 = .ok (.iadd, 1) := by decide +kernel
theorem dL_law_448 : decode cL_law 448 = .ok (.if_icmp .le 5, 3) := by decide +kernel
theorem dL_law_451 : decode cL_law 451 = .ok (.iconst 0, 1) := by decide +kernel
theorem dL_law_452 : decode cL_law 452 = .ok (.ireturn, 1) := by decide +kernel
theorem dL_law_453 : decode cL_law 453 = .ok (.iinc 16 1, 3) := by decide +kernel
theorem dL_law_456 : decode cL_law 456 = .ok (.goto (-173), 3) := by decide +kernel
theorem dL_law_459 : decode cL_law 459 = .ok (.iload 15, 2) := by decide +kernel
theorem dL_law_461 : decode cL_law 461 = .ok (.aload_n 1, 1) := by decide +kernel
theorem dL_law_462 : decode cL_law 462 = .ok (.iload 12, 2) := by decide +kernel
theorem dL_law_464 : decode cL_law 464 = .ok (.iconst 5, 1) := by decide +kernel
theorem dL_law_465 : decode cL_law 465 = .ok (.invokevirtual 64, 3) := by decide +kernel
theorem dL_law_468 : decode cL_law 468 = .ok (.if_icmp .eq 5, 3) := by decide +kernel
theorem dL_law_471 : decode cL_law 471 = .ok (.iconst 0, 1) := by decide +kernel
theorem dL_law_472 : decode cL_law 472 = .ok (.ireturn, 1) := by decide +kernel
theorem dL_law_473 : decode cL_law 473 = .ok (.iinc 12 1, 3) := by decide +kernel
theorem dL_law_476 : decode cL_law 476 = .ok (.goto (-364), 3) := by decide +kernel
theorem dL_law_479 : decode cL_law 479 = .ok (.aload_n 1, 1) := by decide +kernel
theorem dL_law_480 : decode cL_law 480 = .ok (.iconst 4, 1) := by decide +kernel
theorem dL_law_481 : decode cL_law 481 = .ok (.invokevirtual 61, 3) := by decide +kernel
theorem dL_law_484 : decode cL_law 484 = .ok (.istore 12, 2) := by decide +kernel
theorem dL_law_486 : decode cL_law 486 = .ok (.iload 10, 2) := by decide +kernel
theorem dL_law_488 : decode cL_law 488 = .ok (.iconst 1, 1) := by decide +kernel
theorem dL_law_489 : decode cL_law 489 = .ok (.iload 5, 2) := by decide +kernel
theorem dL_law_491 : decode cL_law 491 = .ok (.ishl, 1) := by decide +kernel
theorem dL_law_492 : decode cL_law 492 = .ok (.iconst 1, 1) := by decide +kernel
theorem dL_law_493 : decode cL_law 493 = .ok (.isub, 1) := by decide +kernel
theorem dL_law_494 : decode cL_law 494 = .ok (.if_icmp .ne 54, 3) := by decide +kernel
theorem dL_law_497 : decode cL_law 497 = .ok (.iload 9, 2) := by decide +kernel
theorem dL_law_499 : decode cL_law 499 = .ok (.aload_n 1, 1) := by decide +kernel
theorem dL_law_500 : decode cL_law 500 = .ok (.iconst 2, 1) := by decide +kernel
theorem dL_law_501 : decode cL_law 501 = .ok (.invokevirtual 61, 3) := by decide +kernel
theorem dL_law_504 : decode cL_law 504 = .ok (.if_icmp .ne 44, 3) := by decide +kernel
theorem dL_law_507 : decode cL_law 507 = .ok (.iload 7, 2) := by decide +kernel
theorem dL_law_509 : decode cL_law 509 = .ok (.aload_n 1, 1) := by decide +kernel
theorem dL_law_510 : decode cL_law 510 = .ok (.iconst 3, 1) := by decide +kernel
theorem dL_law_511 : decode cL_law 511 = .ok (.invokevirtual 61, 3) := by decide +kernel
theorem dL_law_514 : decode cL_law 514 = .ok (.if_icmp .ne 34, 3) := by decide +kernel
theorem dL_law_517 : decode cL_law 517 = .ok (.iload 8, 2) := by decide +kernel
theorem dL_law_519 : decode cL_law 519 = .ok (.aload_n 1, 1) := by decide +kernel
theorem dL_law_520 : decode cL_law 520 = .ok (.bipush 6, 2) := by decide +kernel
theorem dL_law_522 : decode cL_law 522 = .ok (.invokevirtual 61, 3) := by decide +kernel
theorem dL_law_525 : decode cL_law 525 = .ok (.if_icmp .ne 23, 3) := by decide +kernel
theorem dL_law_528 : decode cL_law 528 = .ok (.iload 8, 2) := by decide +kernel
theorem dL_law_530 : decode cL_law 530 = .ok (.iload 7, 2) := by decide +kernel
theorem dL_law_532 : decode cL_law 532 = .ok (.iadd, 1) := by decide +kernel
theorem dL_law_533 : decode cL_law 533 = .ok (.iload 9, 2) := by decide +kernel
theorem dL_law_535 : decode cL_law 535 = .ok (.if_icmp .ne 13, 3) := by decide +kernel
theorem dL_law_538 : decode cL_law 538 = .ok (.iload 8, 2) := by decide +kernel
theorem dL_law_540 : decode cL_law 540 = .ok (.iload 6, 2) := by decide +kernel
theorem dL_law_542 : decode cL_law 542 = .ok (.isub, 1) := by decide +kernel
theorem dL_law_543 : decode cL_law 543 = .ok (.iload 12, 2) := by decide +kernel
theorem dL_law_545 : decode cL_law 545 = .ok (.if_icmp .eq 5, 3) := by decide +kernel
theorem dL_law_548 : decode cL_law 548 = .ok (.iconst 0, 1) := by decide +kernel
theorem dL_law_549 : decode cL_law 549 = .ok (.ireturn, 1) := by decide +kernel
theorem dL_law_550 : decode cL_law 550 = .ok (.iload 7, 2) := by decide +kernel
theorem dL_law_552 : decode cL_law 552 = .ok (.iload 11, 2) := by decide +kernel
theorem dL_law_554 : decode cL_law 554 = .ok (.isub, 1) := by decide +kernel
theorem dL_law_555 : decode cL_law 555 = .ok (.iload 5, 2) := by decide +kernel
theorem dL_law_557 : decode cL_law 557 = .ok (.idiv, 1) := by decide +kernel
theorem dL_law_558 : decode cL_law 558 = .ok (.istore 13, 2) := by decide +kernel
theorem dL_law_560 : decode cL_law 560 = .ok (.iload 13, 2) := by decide +kernel
theorem dL_law_562 : decode cL_law 562 = .ok (.ifCond .lt 54, 3) := by decide +kernel
theorem dL_law_565 : decode cL_law 565 = .ok (.iload 12, 2) := by decide +kernel
theorem dL_law_567 : decode cL_law 567 = .ok (.iload 5, 2) := by decide +kernel
theorem dL_law_569 : decode cL_law 569 = .ok (.if_icmp .ge 47, 3) := by decide +kernel
theorem dL_law_572 : decode cL_law 572 = .ok (.iload 12, 2) := by decide +kernel
theorem dL_law_574 : decode cL_law 574 = .ok (.ifCond .ge 8, 3) := by decide +kernel
theorem dL_law_577 : decode cL_law 577 = .ok (.iload 13, 2) := by decide +kernel
theorem dL_law_579 : decode cL_law 579 = .ok (.ifCond .ne 37, 3) := by decide +kernel
theorem dL_law_582 : decode cL_law 582 = .ok (.iload 9, 2) := by decide +kernel
theorem dL_law_584 : decode cL_law 584 = .ok (.iload 6, 2) := by decide +kernel
theorem dL_law_586 : decode cL_law 586 = .ok (.isub, 1) := by decide +kernel
theorem dL_law_587 : decode cL_law 587 = .ok (.iload 11, 2) := by decide +kernel
theorem dL_law_589 : decode cL_law 589 = .ok (.isub, 1) := by decide +kernel
theorem dL_law_590 : decode cL_law 590 = .ok (.iload 5, 2) := by decide +kernel
theorem dL_law_592 : decode cL_law 592 = .ok (.iload 13, 2) := by decide +kernel
theorem dL_law_594 : decode cL_law 594 = .ok (.imul, 1) := by decide +kernel
theorem dL_law_595 : decode cL_law 595 = .ok (.isub, 1) := by decide +kernel
theorem dL_law_596 : decode cL_law 596 = .ok (.iload 12, 2) := by decide +kernel
theorem dL_law_598 : decode cL_law 598 = .ok (.if_icmp .ne 18, 3) := by decide +kernel
theorem dL_law_601 : decode cL_law 601 = .ok (.aload_n 1, 1) := by decide +kernel
theorem dL_law_602 : decode cL_law 602 = .ok (.invokevirtual 77, 3) := by decide +kernel
theorem dL_law_605 : decode cL_law 605 = .ok (.iload 8, 2) := by decide +kernel
theorem dL_law_607 : decode cL_law 607 = .ok (.i2d, 1) := by decide +kernel
theorem dL_law_608 : decode cL_law 608 = .ok (.iload 5, 2) := by decide +kernel
theorem dL_law_610 : decode cL_law 610 = .ok (.i2d, 1) := by decide +kernel
theorem dL_law_611 : decode cL_law 611 = .ok (.ddiv, 1) := by decide +kernel
theorem dL_law_612 : decode cL_law 612 = .ok (.dcmp .l, 1) := by decide +kernel
theorem dL_law_613 : decode cL_law 613 = .ok (.ifCond .eq 5, 3) := by decide +kernel
theorem dL_law_616 : decode cL_law 616 = .ok (.iconst 0, 1) := by decide +kernel
theorem dL_law_617 : decode cL_law 617 = .ok (.ireturn, 1) := by decide +kernel
theorem dL_law_618 : decode cL_law 618 = .ok (.iload 4, 2) := by decide +kernel
theorem dL_law_620 : decode cL_law 620 = .ok (.iconst 3, 1) := by decide +kernel
theorem dL_law_621 : decode cL_law 621 = .ok (.ishr, 1) := by decide +kernel
theorem dL_law_622 : decode cL_law 622 = .ok (.iload 5, 2) := by decide +kernel
theorem dL_law_624 : decode cL_law 624 = .ok (.invokestatic 15, 3) := by decide +kernel
theorem dL_law_627 : decode cL_law 627 = .ok (.istore 14, 2) := by decide +kernel
theorem dL_law_629 : decode cL_law 629 = .ok (.iload 4, 2) := by decide +kernel
theorem dL_law_631 : decode cL_law 631 = .ok (.iconst 5, 1) := by decide +kernel
theorem dL_law_632 : decode cL_law 632 = .ok (.ishr, 1) := by decide +kernel
theorem dL_law_633 : decode cL_law 633 = .ok (.iload 5, 2) := by decide +kernel
theorem dL_law_635 : decode cL_law 635 = .ok (.invokestatic 15, 3) := by decide +kernel
theorem dL_law_638 : decode cL_law 638 = .ok (.istore 15, 2) := by decide +kernel
theorem dL_law_640 : decode cL_law 640 = .ok (.aload_n 1, 1) := by decide +kernel
theorem dL_law_641 : decode cL_law 641 = .ok (.iload 14, 2) := by decide +kernel
theorem dL_law_643 : decode cL_law 643 = .ok (.iload 15, 2) := by decide +kernel
theorem dL_law_645 : decode cL_law 645 = .ok (.invokevirtual 67, 3) := by decide +kernel
theorem dL_law_648 : decode cL_law 648 = .ok (.istore 16, 2) := by decide +kernel
theorem dL_law_650 : decode cL_law 650 = .ok (.iload 4, 2) := by decide +kernel
theorem dL_law_652 : decode cL_law 652 = .ok (.iconst 5, 1) := by decide +kernel
theorem dL_law_653 : decode cL_law 653 = .ok (.imul, 1) := by decide +kernel
theorem dL_law_654 : decode cL_law 654 = .ok (.sipush 1000, 3) := by decide +kernel
theorem dL_law_657 : decode cL_law 657 = .ok (.invokestatic 15, 3) := by decide +kernel
theorem dL_law_660 : decode cL_law 660 = .ok (.istore 17, 2) := by decide +kernel
theorem dL_law_662 : decode cL_law 662 = .ok (.aload_n 1, 1) := by decide +kernel
theorem dL_law_663 : decode cL_law 663 = .ok (.iload 14, 2) := by decide +kernel
theorem dL_law_665 : decode cL_law 665 = .ok (.iload 15, 2) := by decide +kernel
theorem dL_law_667 : decode cL_law 667 = .ok (.iload 17, 2) := by decide +kernel
theorem dL_law_669 : decode cL_law 669 = .ok (.invokevirtual 81, 3) := by decide +kernel
theorem dL_law_672 : decode cL_law 672 = .ok (.istore 18, 2) := by decide +kernel
theorem dL_law_674 : decode cL_law 674 = .ok (.aload_n 1, 1) := by decide +kernel
theorem dL_law_675 : decode cL_law 675 = .ok (.iload 14, 2) := by decide +kernel
theorem dL_law_677 : decode cL_law 677 = .ok (.iload 15, 2) := by decide +kernel
theorem dL_law_679 : decode cL_law 679 = .ok (.iload 17, 2) := by decide +kernel
theorem dL_law_681 : decode cL_law 681 = .ok (.invokevirtual 43, 3) := by decide +kernel
theorem dL_law_684 : decode cL_law 684 = .ok (.iload 16, 2) := by decide +kernel
theorem dL_law_686 : decode cL_law 686 = .ok (.if_icmp .ne 40, 3) := by decide +kernel
theorem dL_law_689 : decode cL_law 689 = .ok (.aload_n 1, 1) := by decide +kernel
theorem dL_law_690 : decode cL_law 690 = .ok (.iload 14, 2) := by decide +kernel
theorem dL_law_692 : decode cL_law 692 = .ok (.iconst 0, 1) := by decide +kernel
theorem dL_law_693 : decode cL_law 693 = .ok (.invokevirtual 64, 3) := by decide +kernel
theorem dL_law_696 : decode cL_law 696 = .ok (.iload 18, 2) := by decide +kernel
theorem dL_law_698 : decode cL_law 698 = .ok (.if_icmp .ne 28, 3) := by decide +kernel
theorem dL_law_701 : decode cL_law 701 = .ok (.aload_n 1, 1) := by decide +kernel
theorem dL_law_702 : decode cL_law 702 = .ok (.iload 14, 2) := by decide +kernel
theorem dL_law_704 : decode cL_law 704 = .ok (.iload 15, 2) := by decide +kernel
theorem dL_law_706 : decode cL_law 706 = .ok (.iload 16, 2) := by decide +kernel
theorem dL_law_708 : decode cL_law 708 = .ok (.invokevirtual 43, 3) := by decide +kernel
theorem dL_law_711 : decode cL_law 711 = .ok (.iload 17, 2) := by decide +kernel
theorem dL_law_713 : decode cL_law 713 = .ok (.if_icmp .ne 13, 3) := by decide +kernel
theorem dL_law_716 : decode cL_law 716 = .ok (.aload_n 1, 1) := by decide +kernel
theorem dL_law_717 : decode cL_law 717 = .ok (.iconst 2, 1) := by decide +kernel
theorem dL_law_718 : decode cL_law 718 = .ok (.invokevirtual 61, 3) := by decide +kernel
theorem dL_law_721 : decode cL_law 721 = .ok (.iload 9, 2) := by decide +kernel
theorem dL_law_723 : decode cL_law 723 = .ok (.if_icmp .eq 5, 3) := by decide +kernel
theorem dL_law_726 : decode cL_law 726 = .ok (.iconst 0, 1) := by decide +kernel
theorem dL_law_727 : decode cL_law 727 = .ok (.ireturn, 1) := by decide +kernel
theorem dL_law_728 : decode cL_law 728 = .ok (.iinc 3 1, 3) := by decide +kernel
theorem dL_law_731 : decode cL_law 731 = .ok (.goto (-709), 3) := by decide +kernel
theorem dL_law_734 : decode cL_law 734 = .ok (.aload_n 2, 1) := by decide +kernel
theorem dL_law_735 : decode cL_law 735 = .ok (.aload_n 1, 1) := by decide +kernel
theorem dL_law_736 : decode cL_law 736 = .ok (.invokevirtual 84, 3) := by decide +kernel
theorem dL_law_739 : decode cL_law 739 = .ok (.ireturn, 1) := by decide +kernel
