theorem dL_read_0 : decode bL_read 0 = .ok (.aload_n 1, 1) := by decide +kernel
theorem dL_read_1 : decode bL_read 1 = .ok (.iconst 0, 1) := by decide +kernel
theorem dL_read_2 : decode bL_read 2 = .ok (.aload_n 0, 1) := by decide +kernel
theorem dL_read_3 : decode bL_read 3 = .ok (.invokevirtual 7, 3) := by decide +kernel
theorem dL_read_6 : decode bL_read 6 = .ok (.i2l, 1) := by decide +kernel
theorem dL_read_7 : decode bL_read 7 = .ok (.lastore, 1) := by decide +kernel
theorem dL_read_8 : decode bL_read 8 = .ok (.goto 6, 3) := by decide +kernel
theorem dL_read_11 : decode bL_read 11 = .ok (.astore_n 2, 1) := by decide +kernel
theorem dL_read_12 : decode bL_read 12 = .ok (.iconst 1, 1) := by decide +kernel
theorem dL_read_13 : decode bL_read 13 = .ok (.ireturn, 1) := by decide +kernel
theorem dL_read_14 : decode bL_read 14 = .ok (.iconst 0, 1) := by decide +kernel
theorem dL_read_15 : decode bL_read 15 = .ok (.ireturn, 1) := by decide +kernel
theorem dL_row_0 : decode bL_row 0 = .ok (.aload_n 3, 1) := by decide +kernel
theorem dL_row_1 : decode bL_row 1 = .ok (.iconst 0, 1) := by decide +kernel
theorem dL_row_2 : decode bL_row 2 = .ok (.aload_n 0, 1) := by decide +kernel
theorem dL_row_3 : decode bL_row 3 = .ok (.iload_n 1, 1) := by decide +kernel
theorem dL_row_4 : decode bL_row 4 = .ok (.iload_n 2, 1) := by decide +kernel
theorem dL_row_5 : decode bL_row 5 = .ok (.invokevirtual 15, 3) := by decide +kernel
theorem dL_row_8 : decode bL_row 8 = .ok (.lastore, 1) := by decide +kernel
theorem dL_row_9 : decode bL_row 9 = .ok (.goto 7, 3) := by decide +kernel
theorem dL_row_12 : decode bL_row 12 = .ok (.astore 4, 2) := by decide +kernel
theorem dL_row_14 : decode bL_row 14 = .ok (.iconst 1, 1) := by decide +kernel
theorem dL_row_15 : decode bL_row 15 = .ok (.ireturn, 1) := by decide +kernel
theorem dL_row_16 : decode bL_row 16 = .ok (.iconst 0, 1) := by decide +kernel
theorem dL_row_17 : decode bL_row 17 = .ok (.ireturn, 1) := by decide +kernel
theorem dL_note_0 : decode bL_note 0 = .ok (.aload 6, 2) := by decide +kernel
theorem dL_note_2 : decode bL_note 2 = .ok (.iconst 0, 1) := by decide +kernel
theorem dL_note_3 : decode bL_note 3 = .ok (.aload_n 0, 1) := by decide +kernel
theorem dL_note_4 : decode bL_note 4 = .ok (.lload_n 1, 1) := by decide +kernel
theorem dL_note_5 : decode bL_note 5 = .ok (.iload_n 3, 1) := by decide +kernel
theorem dL_note_6 : decode bL_note 6 = .ok (.lload 4, 2) := by decide +kernel
theorem dL_note_8 : decode bL_note 8 = .ok (.invokevirtual 21, 3) := by decide +kernel
theorem dL_note_11 : decode bL_note 11 = .ok (.i2l, 1) := by decide +kernel
theorem dL_note_12 : decode bL_note 12 = .ok (.lastore, 1) := by decide +kernel
theorem dL_note_13 : decode bL_note 13 = .ok (.goto 11, 3) := by decide +kernel
theorem dL_note_16 : decode bL_note 16 = .ok (.astore 7, 2) := by decide +kernel
theorem dL_note_18 : decode bL_note 18 = .ok (.iconst 1, 1) := by decide +kernel
theorem dL_note_19 : decode bL_note 19 = .ok (.ireturn, 1) := by decide +kernel
theorem dL_note_20 : decode bL_note 20 = .ok (.astore 7, 2) := by decide +kernel
theorem dL_note_22 : decode bL_note 22 = .ok (.iconst 2, 1) := by decide +kernel
theorem dL_note_23 : decode bL_note 23 = .ok (.ireturn, 1) := by decide +kernel
theorem dL_note_24 : decode bL_note 24 = .ok (.iconst 0, 1) := by decide +kernel
theorem dL_note_25 : decode bL_note 25 = .ok (.ireturn, 1) := by decide +kernel
theorem dL_noted_0 : decode bL_noted 0 = .ok (.aload 4, 2) := by decide +kernel
theorem dL_noted_2 : decode bL_noted 2 = .ok (.iconst 0, 1) := by decide +kernel
theorem dL_noted_3 : decode bL_noted 3 = .ok (.aload_n 0, 1) := by decide +kernel
theorem dL_noted_4 : decode bL_noted 4 = .ok (.lload_n 1, 1) := by decide +kernel
theorem dL_noted_5 : decode bL_noted 5 = .ok (.iload_n 3, 1) := by decide +kernel
theorem dL_noted_6 : decode bL_noted 6 = .ok (.invokevirtual 27, 3) := by decide +kernel
theorem dL_noted_9 : decode bL_noted 9 = .ok (.i2l, 1) := by decide +kernel
theorem dL_noted_10 : decode bL_noted 10 = .ok (.lastore, 1) := by decide +kernel
theorem dL_noted_11 : decode bL_noted 11 = .ok (.goto 7, 3) := by decide +kernel
theorem dL_noted_14 : decode bL_noted 14 = .ok (.astore 5, 2) := by decide +kernel
theorem dL_noted_16 : decode bL_noted 16 = .ok (.iconst 1, 1) := by decide +kernel
theorem dL_noted_17 : decode bL_noted 17 = .ok (.ireturn, 1) := by decide +kernel
theorem dL_noted_18 : decode bL_noted 18 = .ok (.iconst 0, 1) := by decide +kernel
theorem dL_noted_19 : decode bL_noted 19 = .ok (.ireturn, 1) := by decide +kernel
theorem dL_became_0 : decode bL_became 0 = .ok (.aload 5, 2) := by decide +kernel
theorem dL_became_2 : decode bL_became 2 = .ok (.iconst 0, 1) := by decide +kernel
theorem dL_became_3 : decode bL_became 3 = .ok (.aload_n 0, 1) := by decide +kernel
theorem dL_became_4 : decode bL_became 4 = .ok (.iload_n 1, 1) := by decide +kernel
theorem dL_became_5 : decode bL_became 5 = .ok (.lload_n 2, 1) := by decide +kernel
theorem dL_became_6 : decode bL_became 6 = .ok (.iload 4, 2) := by decide +kernel
theorem dL_became_8 : decode bL_became 8 = .ok (.invokevirtual 31, 3) := by decide +kernel
theorem dL_became_11 : decode bL_became 11 = .ok (.i2l, 1) := by decide +kernel
theorem dL_became_12 : decode bL_became 12 = .ok (.lastore, 1) := by decide +kernel
theorem dL_became_13 : decode bL_became 13 = .ok (.goto 7, 3) := by decide +kernel
theorem dL_became_16 : decode bL_became 16 = .ok (.astore 6, 2) := by decide +kernel
theorem dL_became_18 : decode bL_became 18 = .ok (.iconst 1, 1) := by decide +kernel
theorem dL_became_19 : decode bL_became 19 = .ok (.ireturn, 1) := by decide +kernel
theorem dL_became_20 : decode bL_became 20 = .ok (.iconst 0, 1) := by decide +kernel
theorem dL_became_21 : decode bL_became 21 = .ok (.ireturn, 1) := by decide +kernel
theorem dL_linked_0 : decode bL_linked 0 = .ok (.aload 6, 2) := by decide +kernel
theorem dL_linked_2 : decode bL_linked 2 = .ok (.iconst 0, 1) := by decide +kernel
theorem dL_linked_3 : decode bL_linked 3 = .ok (.aload_n 0, 1) := by decide +kernel
theorem dL_linked_4 : decode bL_linked 4 = .ok (.iload_n 1, 1) := by decide +kernel
theorem dL_linked_5 : decode bL_linked 5 = .ok (.lload_n 2, 1) := by decide +kernel
theorem dL_linked_6 : decode bL_linked 6 = .ok (.iload 4, 2) := by decide +kernel
theorem dL_linked_8 : decode bL_linked 8 = .ok (.iload 5, 2) := by decide +kernel
theorem dL_linked_10 : decode bL_linked 10 = .ok (.invokevirtual 35, 3) := by decide +kernel
theorem dL_linked_13 : decode bL_linked 13 = .ok (.lastore, 1) := by decide +kernel
theorem dL_linked_14 : decode bL_linked 14 = .ok (.goto 7, 3) := by decide +kernel
theorem dL_linked_17 : decode bL_linked 17 = .ok (.astore 7, 2) := by decide +kernel
theorem dL_linked_19 : decode bL_linked 19 = .ok (.iconst 1, 1) := by decide +kernel
theorem dL_linked_20 : decode bL_linked 20 = .ok (.ireturn, 1) := by decide +kernel
theorem dL_linked_21 : decode bL_linked 21 = .ok (.iconst 0, 1) := by decide +kernel
theorem dL_linked_22 : decode bL_linked 22 = .ok (.ireturn, 1) := by decide +kernel
theorem dL_lost_0 : decode bL_lost 0 = .ok (.aload_n 3, 1) := by decide +kernel
theorem dL_lost_1 : decode bL_lost 1 = .ok (.iconst 0, 1) := by decide +kernel
theorem dL_lost_2 : decode bL_lost 2 = .ok (.aload_n 0, 1) := by decide +kernel
theorem dL_lost_3 : decode bL_lost 3 = .ok (.iload_n 1, 1) := by decide +kernel
theorem dL_lost_4 : decode bL_lost 4 = .ok (.iload_n 2, 1) := by decide +kernel
theorem dL_lost_5 : decode bL_lost 5 = .ok (.invokevirtual 39, 3) := by decide +kernel
theorem dL_lost_8 : decode bL_lost 8 = .ok (.i2l, 1) := by decide +kernel
theorem dL_lost_9 : decode bL_lost 9 = .ok (.lastore, 1) := by decide +kernel
theorem dL_lost_10 : decode bL_lost 10 = .ok (.goto 7, 3) := by decide +kernel
theorem dL_lost_13 : decode bL_lost 13 = .ok (.astore 4, 2) := by decide +kernel
theorem dL_lost_15 : decode bL_lost 15 = .ok (.iconst 1, 1) := by decide +kernel
theorem dL_lost_16 : decode bL_lost 16 = .ok (.ireturn, 1) := by decide +kernel
theorem dL_lost_17 : decode bL_lost 17 = .ok (.iconst 0, 1) := by decide +kernel
theorem dL_lost_18 : decode bL_lost 18 = .ok (.ireturn, 1) := by decide +kernel
theorem dL_search_0 : decode bL_search 0 = .ok (.aload_n 1, 1) := by decide +kernel
theorem dL_search_1 : decode bL_search 1 = .ok (.iconst 0, 1) := by decide +kernel
theorem dL_search_2 : decode bL_search 2 = .ok (.aload_n 0, 1) := by decide +kernel
theorem dL_search_3 : decode bL_search 3 = .ok (.invokevirtual 43, 3) := by decide +kernel
theorem dL_search_6 : decode bL_search 6 = .ok (.i2l, 1) := by decide +kernel
theorem dL_search_7 : decode bL_search 7 = .ok (.lastore, 1) := by decide +kernel
theorem dL_search_8 : decode bL_search 8 = .ok (.goto 6, 3) := by decide +kernel
theorem dL_search_11 : decode bL_search 11 = .ok (.astore_n 2, 1) := by decide +kernel
theorem dL_search_12 : decode bL_search 12 = .ok (.iconst 1, 1) := by decide +kernel
theorem dL_search_13 : decode bL_search 13 = .ok (.ireturn, 1) := by decide +kernel
theorem dL_search_14 : decode bL_search 14 = .ok (.iconst 0, 1) := by decide +kernel
theorem dL_search_15 : decode bL_search 15 = .ok (.ireturn, 1) := by decide +kernel
theorem dL_found_0 : decode bL_found 0 = .ok (.aload_n 3, 1) := by decide +kernel
theorem dL_found_1 : decode bL_found 1 = .ok (.iconst 0, 1) := by decide +kernel
theorem dL_found_2 : decode bL_found 2 = .ok (.aload_n 0, 1) := by decide +kernel
theorem dL_found_3 : decode bL_found 3 = .ok (.iload_n 1, 1) := by decide +kernel
theorem dL_found_4 : decode bL_found 4 = .ok (.iload_n 2, 1) := by decide +kernel
theorem dL_found_5 : decode bL_found 5 = .ok (.invokevirtual 46, 3) := by decide +kernel
theorem dL_found_8 : decode bL_found 8 = .ok (.lastore, 1) := by decide +kernel
theorem dL_found_9 : decode bL_found 9 = .ok (.goto 7, 3) := by decide +kernel
theorem dL_found_12 : decode bL_found 12 = .ok (.astore 4, 2) := by decide +kernel
theorem dL_found_14 : decode bL_found 14 = .ok (.iconst 1, 1) := by decide +kernel
theorem dL_found_15 : decode bL_found 15 = .ok (.ireturn, 1) := by decide +kernel
theorem dL_found_16 : decode bL_found 16 = .ok (.iconst 0, 1) := by decide +kernel
theorem dL_found_17 : decode bL_found 17 = .ok (.ireturn, 1) := by decide +kernel
theorem dL_law_0 : decode code 0 = .ok (.new 8, 3) := by decide +kernel
theorem dL_law_3 : decode code 3 = .ok (.dup, 1) := by decide +kernel
theorem dL_law_4 : decode code 4 = .ok (.invokespecial 49, 3) := by decide +kernel
theorem dL_law_7 : decode code 7 = .ok (.astore_n 1, 1) := by decide +kernel
theorem dL_law_8 : decode code 8 = .ok (.new 50, 3) := by decide +kernel
theorem dL_law_11 : decode code 11 = .ok (.dup, 1) := by decide +kernel
theorem dL_law_12 : decode code 12 = .ok (.invokespecial 52, 3) := by decide +kernel
theorem dL_law_15 : decode code 15 = .ok (.astore_n 2, 1) := by decide +kernel
theorem dL_law_16 : decode code 16 = .ok (.iconst 1, 1) := by decide +kernel
theorem dL_law_17 : decode code 17 = .ok (.newarray .long, 2) := by decide +kernel
theorem dL_law_19 : decode code 19 = .ok (.astore_n 3, 1) := by decide +kernel
theorem dL_law_20 : decode code 20 = .ok (.iconst 0, 1) := by decide +kernel
theorem dL_law_21 : decode code 21 = .ok (.istore 4, 2) := by decide +kernel
theorem dL_law_23 : decode code 23 = .ok (.iload 4, 2) := by decide +kernel
theorem dL_law_25 : decode code 25 = .ok (.aload_n 0, 1) := by decide +kernel
theorem dL_law_26 : decode code 26 = .ok (.arraylength, 1) := by decide +kernel
theorem dL_law_27 : decode code 27 = .ok (.bipush 7, 2) := by decide +kernel
theorem dL_law_29 : decode code 29 = .ok (.isub, 1) := by decide +kernel
theorem dL_law_30 : decode code 30 = .ok (.if_icmp .gt 1145, 3) := by decide +kernel
theorem dL_law_33 : decode code 33 = .ok (.aload_n 0, 1) := by decide +kernel
theorem dL_law_34 : decode code 34 = .ok (.iload 4, 2) := by decide +kernel
theorem dL_law_36 : decode code 36 = .ok (.iaload, 1) := by decide +kernel
theorem dL_law_37 : decode code 37 = .ok (.bipush 15, 2) := by decide +kernel
theorem dL_law_39 : decode code 39 = .ok (.iand, 1) := by decide +kernel
theorem dL_law_40 : decode code 40 = .ok (.tableswitch 1129 0 14 #[76, 101, 145, 170, 195, 262, 319, 463, 563, 690, 802, 925, 993, 1037, 1104], 76) := by decide +kernel
theorem dL_law_116 : decode code 116 = .ok (.aload_n 1, 1) := by decide +kernel
theorem dL_law_117 : decode code 117 = .ok (.aload_n 0, 1) := by decide +kernel
theorem dL_law_118 : decode code 118 = .ok (.iload 4, 2) := by decide +kernel
theorem dL_law_120 : decode code 120 = .ok (.iconst 1, 1) := by decide +kernel
theorem dL_law_121 : decode code 121 = .ok (.iadd, 1) := by decide +kernel
theorem dL_law_122 : decode code 122 = .ok (.iaload, 1) := by decide +kernel
theorem dL_law_123 : decode code 123 = .ok (.invokevirtual 53, 3) := by decide +kernel
theorem dL_law_126 : decode code 126 = .ok (.aload_n 2, 1) := by decide +kernel
theorem dL_law_127 : decode code 127 = .ok (.aload_n 0, 1) := by decide +kernel
theorem dL_law_128 : decode code 128 = .ok (.iload 4, 2) := by decide +kernel
theorem dL_law_130 : decode code 130 = .ok (.iconst 1, 1) := by decide +kernel
theorem dL_law_131 : decode code 131 = .ok (.iadd, 1) := by decide +kernel
theorem dL_law_132 : decode code 132 = .ok (.iaload, 1) := by decide +kernel
theorem dL_law_133 : decode code 133 = .ok (.invokevirtual 57, 3) := by decide +kernel
theorem dL_law_136 : decode code 136 = .ok (.if_icmp .eq 1033, 3) := by decide +kernel
theorem dL_law_139 : decode code 139 = .ok (.iconst 0, 1) := by decide +kernel
theorem dL_law_140 : decode code 140 = .ok (.ireturn, 1) := by decide +kernel
theorem dL_law_141 : decode code 141 = .ok (.aload_n 1, 1) := by decide +kernel
theorem dL_law_142 : decode code 142 = .ok (.aload_n 3, 1) := by decide +kernel
theorem dL_law_143 : decode code 143 = .ok (.invokestatic 58, 3) := by decide +kernel
theorem dL_law_146 : decode code 146 = .ok (.istore 5, 2) := by decide +kernel
theorem dL_law_148 : decode code 148 = .ok (.aload_n 2, 1) := by decide +kernel
theorem dL_law_149 : decode code 149 = .ok (.invokevirtual 63, 3) := by decide +kernel
theorem dL_law_152 : decode code 152 = .ok (.istore 6, 2) := by decide +kernel
theorem dL_law_154 : decode code 154 = .ok (.aload_n 2, 1) := by decide +kernel
theorem dL_law_155 : decode code 155 = .ok (.invokevirtual 64, 3) := by decide +kernel
theorem dL_law_158 : decode code 158 = .ok (.iload 5, 2) := by decide +kernel
theorem dL_law_160 : decode code 160 = .ok (.if_icmp .eq 5, 3) := by decide +kernel
theorem dL_law_163 : decode code 163 = .ok (.iconst 0, 1) := by decide +kernel
theorem dL_law_164 : decode code 164 = .ok (.ireturn, 1) := by decide +kernel
theorem dL_law_165 : decode code 165 = .ok (.iload 5, 2) := by decide +kernel
theorem dL_law_167 : decode code 167 = .ok (.ifCond .ne 15, 3) := by decide +kernel
theorem dL_law_170 : decode code 170 = .ok (.aload_n 3, 1) := by decide +kernel
theorem dL_law_171 : decode code 171 = .ok (.iconst 0, 1) := by decide +kernel
theorem dL_law_172 : decode code 172 = .ok (.laload, 1) := by decide +kernel
theorem dL_law_173 : decode code 173 = .ok (.iload 6, 2) := by decide +kernel
theorem dL_law_175 : decode code 175 = .ok (.i2l, 1) := by decide +kernel
theorem dL_law_176 : decode code 176 = .ok (.lcmp, 1) := by decide +kernel
theorem dL_law_177 : decode code 177 = .ok (.ifCond .eq 5, 3) := by decide +kernel
theorem dL_law_180 : decode code 180 = .ok (.iconst 0, 1) := by decide +kernel
theorem dL_law_181 : decode code 181 = .ok (.ireturn, 1) := by decide +kernel
theorem dL_law_182 : decode code 182 = .ok (.goto 987, 3) := by decide +kernel
theorem dL_law_185 : decode code 185 = .ok (.aload_n 1, 1) := by decide +kernel
theorem dL_law_186 : decode code 186 = .ok (.aload_n 0, 1) := by decide +kernel
theorem dL_law_187 : decode code 187 = .ok (.iload 4, 2) := by decide +kernel
theorem dL_law_189 : decode code 189 = .ok (.iconst 1, 1) := by decide +kernel
theorem dL_law_190 : decode code 190 = .ok (.iadd, 1) := by decide +kernel
theorem dL_law_191 : decode code 191 = .ok (.iaload, 1) := by decide +kernel
theorem dL_law_192 : decode code 192 = .ok (.invokevirtual 67, 3) := by decide +kernel
theorem dL_law_195 : decode code 195 = .ok (.aload_n 2, 1) := by decide +kernel
theorem dL_law_196 : decode code 196 = .ok (.aload_n 0, 1) := by decide +kernel
theorem dL_law_197 : decode code 197 = .ok (.iload 4, 2) := by decide +kernel
theorem dL_law_199 : decode code 199 = .ok (.iconst 1, 1) := by decide +kernel
theorem dL_law_200 : decode code 200 = .ok (.iadd, 1) := by decide +kernel
theorem dL_law_201 : decode code 201 = .ok (.iaload, 1) := by decide +kernel
theorem dL_law_202 : decode code 202 = .ok (.invokevirtual 71, 3) := by decide +kernel
theorem dL_law_205 : decode code 205 = .ok (.if_icmp .eq 964, 3) := by decide +kernel
theorem dL_law_208 : decode code 208 = .ok (.iconst 0, 1) := by decide +kernel
theorem dL_law_209 : decode code 209 = .ok (.ireturn, 1) := by decide +kernel
theorem dL_law_210 : decode code 210 = .ok (.aload_n 1, 1) := by decide +kernel
theorem dL_law_211 : decode code 211 = .ok (.aload_n 0, 1) := by decide +kernel
theorem dL_law_212 : decode code 212 = .ok (.iload 4, 2) := by decide +kernel
theorem dL_law_214 : decode code 214 = .ok (.iconst 1, 1) := by decide +kernel
theorem dL_law_215 : decode code 215 = .ok (.iadd, 1) := by decide +kernel
theorem dL_law_216 : decode code 216 = .ok (.iaload, 1) := by decide +kernel
theorem dL_law_217 : decode code 217 = .ok (.invokevirtual 72, 3) := by decide +kernel
theorem dL_law_220 : decode code 220 = .ok (.aload_n 2, 1) := by decide +kernel
theorem dL_law_221 : decode code 221 = .ok (.aload_n 0, 1) := by decide +kernel
theorem dL_law_222 : decode code 222 = .ok (.iload 4, 2) := by decide +kernel
theorem dL_law_224 : decode code 224 = .ok (.iconst 1, 1) := by decide +kernel
theorem dL_law_225 : decode code 225 = .ok (.iadd, 1) := by decide +kernel
theorem dL_law_226 : decode code 226 = .ok (.iaload, 1) := by decide +kernel
theorem dL_law_227 : decode code 227 = .ok (.invokevirtual 75, 3) := by decide +kernel
theorem dL_law_230 : decode code 230 = .ok (.if_icmp .eq 939, 3) := by decide +kernel
theorem dL_law_233 : decode code 233 = .ok (.iconst 0, 1) := by decide +kernel
theorem dL_law_234 : decode code 234 = .ok (.ireturn, 1) := by decide +kernel
theorem dL_law_235 : decode code 235 = .ok (.aload_n 1, 1) := by decide +kernel
theorem dL_law_236 : decode code 236 = .ok (.aload_n 0, 1) := by decide +kernel
theorem dL_law_237 : decode code 237 = .ok (.iload 4, 2) := by decide +kernel
theorem dL_law_239 : decode code 239 = .ok (.iconst 1, 1) := by decide +kernel
theorem dL_law_240 : decode code 240 = .ok (.iadd, 1) := by decide +kernel
theorem dL_law_241 : decode code 241 = .ok (.iaload, 1) := by decide +kernel
theorem dL_law_242 : decode code 242 = .ok (.aload_n 0, 1) := by decide +kernel
theorem dL_law_243 : decode code 243 = .ok (.iload 4, 2) := by decide +kernel
theorem dL_law_245 : decode code 245 = .ok (.iconst 2, 1) := by decide +kernel
theorem dL_law_246 : decode code 246 = .ok (.iadd, 1) := by decide +kernel
theorem dL_law_247 : decode code 247 = .ok (.iaload, 1) := by decide +kernel
theorem dL_law_248 : decode code 248 = .ok (.aload_n 3, 1) := by decide +kernel
theorem dL_law_249 : decode code 249 = .ok (.invokestatic 76, 3) := by decide +kernel
theorem dL_law_252 : decode code 252 = .ok (.istore 5, 2) := by decide +kernel
theorem dL_law_254 : decode code 254 = .ok (.aload_n 2, 1) := by decide +kernel
theorem dL_law_255 : decode code 255 = .ok (.aload_n 0, 1) := by decide +kernel
theorem dL_law_256 : decode code 256 = .ok (.iload 4, 2) := by decide +kernel
theorem dL_law_258 : decode code 258 = .ok (.iconst 1, 1) := by decide +kernel
theorem dL_law_259 : decode code 259 = .ok (.iadd, 1) := by decide +kernel
theorem dL_law_260 : decode code 260 = .ok (.iaload, 1) := by decide +kernel
theorem dL_law_261 : decode code 261 = .ok (.aload_n 0, 1) := by decide +kernel
theorem dL_law_262 : decode code 262 = .ok (.iload 4, 2) := by decide +kernel
theorem dL_law_264 : decode code 264 = .ok (.iconst 2, 1) := by decide +kernel
theorem dL_law_265 : decode code 265 = .ok (.iadd, 1) := by decide +kernel
theorem dL_law_266 : decode code 266 = .ok (.iaload, 1) := by decide +kernel
theorem dL_law_267 : decode code 267 = .ok (.invokevirtual 79, 3) := by decide +kernel
theorem dL_law_270 : decode code 270 = .ok (.lstore 6, 2) := by decide +kernel
theorem dL_law_272 : decode code 272 = .ok (.aload_n 2, 1) := by decide +kernel
theorem dL_law_273 : decode code 273 = .ok (.invokevirtual 64, 3) := by decide +kernel
theorem dL_law_276 : decode code 276 = .ok (.iload 5, 2) := by decide +kernel
theorem dL_law_278 : decode code 278 = .ok (.if_icmp .eq 5, 3) := by decide +kernel
theorem dL_law_281 : decode code 281 = .ok (.iconst 0, 1) := by decide +kernel
theorem dL_law_282 : decode code 282 = .ok (.ireturn, 1) := by decide +kernel
theorem dL_law_283 : decode code 283 = .ok (.iload 5, 2) := by decide +kernel
theorem dL_law_285 : decode code 285 = .ok (.ifCond .ne 14, 3) := by decide +kernel
theorem dL_law_288 : decode code 288 = .ok (.aload_n 3, 1) := by decide +kernel
theorem dL_law_289 : decode code 289 = .ok (.iconst 0, 1) := by decide +kernel
theorem dL_law_290 : decode code 290 = .ok (.laload, 1) := by decide +kernel
theorem dL_law_291 : decode code 291 = .ok (.lload 6, 2) := by decide +kernel
theorem dL_law_293 : decode code 293 = .ok (.lcmp, 1) := by decide +kernel
theorem dL_law_294 : decode code 294 = .ok (.ifCond .eq 5, 3) := by decide +kernel
theorem dL_law_297 : decode code 297 = .ok (.iconst 0, 1) := by decide +kernel
theorem dL_law_298 : decode code 298 = .ok (.ireturn, 1) := by decide +kernel
theorem dL_law_299 : decode code 299 = .ok (.goto 870, 3) := by decide +kernel
theorem dL_law_302 : decode code 302 = .ok (.aload_n 1, 1) := by decide +kernel
theorem dL_law_303 : decode code 303 = .ok (.aload_n 0, 1) := by decide +kernel
theorem dL_law_304 : decode code 304 = .ok (.iload 4, 2) := by decide +kernel
theorem dL_law_306 : decode code 306 = .ok (.iconst 1, 1) := by decide +kernel
theorem dL_law_307 : decode code 307 = .ok (.iadd, 1) := by decide +kernel
theorem dL_law_308 : decode code 308 = .ok (.iaload, 1) := by decide +kernel
theorem dL_law_309 : decode code 309 = .ok (.i2l, 1) := by decide +kernel
theorem dL_law_310 : decode code 310 = .ok (.bipush 32, 2) := by decide +kernel
theorem dL_law_312 : decode code 312 = .ok (.lshl, 1) := by decide +kernel
theorem dL_law_313 : decode code 313 = .ok (.aload_n 0, 1) := by decide +kernel
theorem dL_law_314 : decode code 314 = .ok (.iload 4, 2) := by decide +kernel
theorem dL_law_316 : decode code 316 = .ok (.iconst 2, 1) := by decide +kernel
theorem dL_law_317 : decode code 317 = .ok (.iadd, 1) := by decide +kernel
theorem dL_law_318 : decode code 318 = .ok (.iaload, 1) := by decide +kernel
theorem dL_law_319 : decode code 319 = .ok (.i2l, 1) := by decide +kernel
theorem dL_law_320 : decode code 320 = .ok (.ldc2_w 80, 3) := by decide +kernel
theorem dL_law_323 : decode code 323 = .ok (.land, 1) := by decide +kernel
theorem dL_law_324 : decode code 324 = .ok (.lor, 1) := by decide +kernel
theorem dL_law_325 : decode code 325 = .ok (.invokevirtual 82, 3) := by decide +kernel
theorem dL_law_328 : decode code 328 = .ok (.aload_n 2, 1) := by decide +kernel
theorem dL_law_329 : decode code 329 = .ok (.aload_n 0, 1) := by decide +kernel
theorem dL_law_330 : decode code 330 = .ok (.iload 4, 2) := by decide +kernel
theorem dL_law_332 : decode code 332 = .ok (.iconst 1, 1) := by decide +kernel
theorem dL_law_333 : decode code 333 = .ok (.iadd, 1) := by decide +kernel
theorem dL_law_334 : decode code 334 = .ok (.iaload, 1) := by decide +kernel
theorem dL_law_335 : decode code 335 = .ok (.i2l, 1) := by decide +kernel
theorem dL_law_336 : decode code 336 = .ok (.bipush 32, 2) := by decide +kernel
theorem dL_law_338 : decode code 338 = .ok (.lshl, 1) := by decide +kernel
theorem dL_law_339 : decode code 339 = .ok (.aload_n 0, 1) := by decide +kernel
theorem dL_law_340 : decode code 340 = .ok (.iload 4, 2) := by decide +kernel
theorem dL_law_342 : decode code 342 = .ok (.iconst 2, 1) := by decide +kernel
theorem dL_law_343 : decode code 343 = .ok (.iadd, 1) := by decide +kernel
theorem dL_law_344 : decode code 344 = .ok (.iaload, 1) := by decide +kernel
theorem dL_law_345 : decode code 345 = .ok (.i2l, 1) := by decide +kernel
theorem dL_law_346 : decode code 346 = .ok (.ldc2_w 80, 3) := by decide +kernel
theorem dL_law_349 : decode code 349 = .ok (.land, 1) := by decide +kernel
theorem dL_law_350 : decode code 350 = .ok (.lor, 1) := by decide +kernel
theorem dL_law_351 : decode code 351 = .ok (.invokevirtual 86, 3) := by decide +kernel
theorem dL_law_354 : decode code 354 = .ok (.if_icmp .eq 815, 3) := by decide +kernel
theorem dL_law_357 : decode code 357 = .ok (.iconst 0, 1) := by decide +kernel
theorem dL_law_358 : decode code 358 = .ok (.ireturn, 1) := by decide +kernel
theorem dL_law_359 : decode code 359 = .ok (.aload_n 1, 1) := by decide +kernel
theorem dL_law_360 : decode code 360 = .ok (.aload_n 0, 1) := by decide +kernel
theorem dL_law_361 : decode code 361 = .ok (.iload 4, 2) := by decide +kernel
theorem dL_law_363 : decode code 363 = .ok (.iconst 1, 1) := by decide +kernel
theorem dL_law_364 : decode code 364 = .ok (.iadd, 1) := by decide +kernel
theorem dL_law_365 : decode code 365 = .ok (.iaload, 1) := by decide +kernel
theorem dL_law_366 : decode code 366 = .ok (.i2l, 1) := by decide +kernel
theorem dL_law_367 : decode code 367 = .ok (.bipush 32, 2) := by decide +kernel
theorem dL_law_369 : decode code 369 = .ok (.lshl, 1) := by decide +kernel
theorem dL_law_370 : decode code 370 = .ok (.aload_n 0, 1) := by decide +kernel
theorem dL_law_371 : decode code 371 = .ok (.iload 4, 2) := by decide +kernel
theorem dL_law_373 : decode code 373 = .ok (.iconst 2, 1) := by decide +kernel
theorem dL_law_374 : decode code 374 = .ok (.iadd, 1) := by decide +kernel
theorem dL_law_375 : decode code 375 = .ok (.iaload, 1) := by decide +kernel
theorem dL_law_376 : decode code 376 = .ok (.i2l, 1) := by decide +kernel
theorem dL_law_377 : decode code 377 = .ok (.ldc2_w 80, 3) := by decide +kernel
theorem dL_law_380 : decode code 380 = .ok (.land, 1) := by decide +kernel
theorem dL_law_381 : decode code 381 = .ok (.lor, 1) := by decide +kernel
theorem dL_law_382 : decode code 382 = .ok (.aload_n 0, 1) := by decide +kernel
theorem dL_law_383 : decode code 383 = .ok (.iload 4, 2) := by decide +kernel
theorem dL_law_385 : decode code 385 = .ok (.iconst 3, 1) := by decide +kernel
theorem dL_law_386 : decode code 386 = .ok (.iadd, 1) := by decide +kernel
theorem dL_law_387 : decode code 387 = .ok (.iaload, 1) := by decide +kernel
theorem dL_law_388 : decode code 388 = .ok (.aload_n 0, 1) := by decide +kernel
theorem dL_law_389 : decode code 389 = .ok (.iload 4, 2) := by decide +kernel
theorem dL_law_391 : decode code 391 = .ok (.iconst 4, 1) := by decide +kernel
theorem dL_law_392 : decode code 392 = .ok (.iadd, 1) := by decide +kernel
theorem dL_law_393 : decode code 393 = .ok (.iaload, 1) := by decide +kernel
theorem dL_law_394 : decode code 394 = .ok (.i2l, 1) := by decide +kernel
theorem dL_law_395 : decode code 395 = .ok (.bipush 32, 2) := by decide +kernel
theorem dL_law_397 : decode code 397 = .ok (.lshl, 1) := by decide +kernel
theorem dL_law_398 : decode code 398 = .ok (.aload_n 0, 1) := by decide +kernel
theorem dL_law_399 : decode code 399 = .ok (.iload 4, 2) := by decide +kernel
theorem dL_law_401 : decode code 401 = .ok (.iconst 5, 1) := by decide +kernel
theorem dL_law_402 : decode code 402 = .ok (.iadd, 1) := by decide +kernel
theorem dL_law_403 : decode code 403 = .ok (.iaload, 1) := by decide +kernel
theorem dL_law_404 : decode code 404 = .ok (.i2l, 1) := by decide +kernel
theorem dL_law_405 : decode code 405 = .ok (.ldc2_w 80, 3) := by decide +kernel
theorem dL_law_408 : decode code 408 = .ok (.land, 1) := by decide +kernel
theorem dL_law_409 : decode code 409 = .ok (.lor, 1) := by decide +kernel
theorem dL_law_410 : decode code 410 = .ok (.aload_n 3, 1) := by decide +kernel
theorem dL_law_411 : decode code 411 = .ok (.invokestatic 87, 3) := by decide +kernel
theorem dL_law_414 : decode code 414 = .ok (.istore 5, 2) := by decide +kernel
theorem dL_law_416 : decode code 416 = .ok (.aload_n 2, 1) := by decide +kernel
theorem dL_law_417 : decode code 417 = .ok (.aload_n 0, 1) := by decide +kernel
theorem dL_law_418 : decode code 418 = .ok (.iload 4, 2) := by decide +kernel
theorem dL_law_420 : decode code 420 = .ok (.iconst 1, 1) := by decide +kernel
theorem dL_law_421 : decode code 421 = .ok (.iadd, 1) := by decide +kernel
theorem dL_law_422 : decode code 422 = .ok (.iaload, 1) := by decide +kernel
theorem dL_law_423 : decode code 423 = .ok (.i2l, 1) := by decide +kernel
theorem dL_law_424 : decode code 424 = .ok (.bipush 32, 2) := by decide +kernel
theorem dL_law_426 : decode code 426 = .ok (.lshl, 1) := by decide +kernel
theorem dL_law_427 : decode code 427 = .ok (.aload_n 0, 1) := by decide +kernel
theorem dL_law_428 : decode code 428 = .ok (.iload 4, 2) := by decide +kernel
theorem dL_law_430 : decode code 430 = .ok (.iconst 2, 1) := by decide +kernel
theorem dL_law_431 : decode code 431 = .ok (.iadd, 1) := by decide +kernel
theorem dL_law_432 : decode code 432 = .ok (.iaload, 1) := by decide +kernel
theorem dL_law_433 : decode code 433 = .ok (.i2l, 1) := by decide +kernel
theorem dL_law_434 : decode code 434 = .ok (.ldc2_w 80, 3) := by decide +kernel
theorem dL_law_437 : decode code 437 = .ok (.land, 1) := by decide +kernel
theorem dL_law_438 : decode code 438 = .ok (.lor, 1) := by decide +kernel
theorem dL_law_439 : decode code 439 = .ok (.aload_n 0, 1) := by decide +kernel
theorem dL_law_440 : decode code 440 = .ok (.iload 4, 2) := by decide +kernel
theorem dL_law_442 : decode code 442 = .ok (.iconst 3, 1) := by decide +kernel
theorem dL_law_443 : decode code 443 = .ok (.iadd, 1) := by decide +kernel
theorem dL_law_444 : decode code 444 = .ok (.iaload, 1) := by decide +kernel
theorem dL_law_445 : decode code 445 = .ok (.aload_n 0, 1) := by decide +kernel
theorem dL_law_446 : decode code 446 = .ok (.iload 4, 2) := by decide +kernel
theorem dL_law_448 : decode code 448 = .ok (.iconst 4, 1) := by decide +kernel
theorem dL_law_449 : decode code 449 = .ok (.iadd, 1) := by decide +kernel
theorem dL_law_450 : decode code 450 = .ok (.iaload, 1) := by decide +kernel
theorem dL_law_451 : decode code 451 = .ok (.i2l, 1) := by decide +kernel
theorem dL_law_452 : decode code 452 = .ok (.bipush 32, 2) := by decide +kernel
theorem dL_law_454 : decode code 454 = .ok (.lshl, 1) := by decide +kernel
theorem dL_law_455 : decode code 455 = .ok (.aload_n 0, 1) := by decide +kernel
theorem dL_law_456 : decode code 456 = .ok (.iload 4, 2) := by decide +kernel
theorem dL_law_458 : decode code 458 = .ok (.iconst 5, 1) := by decide +kernel
theorem dL_law_459 : decode code 459 = .ok (.iadd, 1) := by decide +kernel
theorem dL_law_460 : decode code 460 = .ok (.iaload, 1) := by decide +kernel
theorem dL_law_461 : decode code 461 = .ok (.i2l, 1) := by decide +kernel
theorem dL_law_462 : decode code 462 = .ok (.ldc2_w 80, 3) := by decide +kernel
theorem dL_law_465 : decode code 465 = .ok (.land, 1) := by decide +kernel
theorem dL_law_466 : decode code 466 = .ok (.lor, 1) := by decide +kernel
theorem dL_law_467 : decode code 467 = .ok (.invokevirtual 90, 3) := by decide +kernel
theorem dL_law_470 : decode code 470 = .ok (.istore 6, 2) := by decide +kernel
theorem dL_law_472 : decode code 472 = .ok (.aload_n 2, 1) := by decide +kernel
theorem dL_law_473 : decode code 473 = .ok (.invokevirtual 64, 3) := by decide +kernel
theorem dL_law_476 : decode code 476 = .ok (.iload 5, 2) := by decide +kernel
theorem dL_law_478 : decode code 478 = .ok (.if_icmp .eq 5, 3) := by decide +kernel
theorem dL_law_481 : decode code 481 = .ok (.iconst 0, 1) := by decide +kernel
theorem dL_law_482 : decode code 482 = .ok (.ireturn, 1) := by decide +kernel
theorem dL_law_483 : decode code 483 = .ok (.iload 5, 2) := by decide +kernel
theorem dL_law_485 : decode code 485 = .ok (.ifCond .ne 15, 3) := by decide +kernel
theorem dL_law_488 : decode code 488 = .ok (.aload_n 3, 1) := by decide +kernel
theorem dL_law_489 : decode code 489 = .ok (.iconst 0, 1) := by decide +kernel
theorem dL_law_490 : decode code 490 = .ok (.laload, 1) := by decide +kernel
theorem dL_law_491 : decode code 491 = .ok (.iload 6, 2) := by decide +kernel
theorem dL_law_493 : decode code 493 = .ok (.i2l, 1) := by decide +kernel
theorem dL_law_494 : decode code 494 = .ok (.lcmp, 1) := by decide +kernel
theorem dL_law_495 : decode code 495 = .ok (.ifCond .eq 5, 3) := by decide +kernel
theorem dL_law_498 : decode code 498 = .ok (.iconst 0, 1) := by decide +kernel
theorem dL_law_499 : decode code 499 = .ok (.ireturn, 1) := by decide +kernel
theorem dL_law_500 : decode code 500 = .ok (.goto 669, 3) := by decide +kernel
theorem dL_law_503 : decode code 503 = .ok (.aload_n 1, 1) := by decide +kernel
theorem dL_law_504 : decode code 504 = .ok (.aload_n 0, 1) := by decide +kernel
theorem dL_law_505 : decode code 505 = .ok (.iload 4, 2) := by decide +kernel
theorem dL_law_507 : decode code 507 = .ok (.iconst 1, 1) := by decide +kernel
theorem dL_law_508 : decode code 508 = .ok (.iadd, 1) := by decide +kernel
theorem dL_law_509 : decode code 509 = .ok (.iaload, 1) := by decide +kernel
theorem dL_law_510 : decode code 510 = .ok (.i2l, 1) := by decide +kernel
theorem dL_law_511 : decode code 511 = .ok (.bipush 32, 2) := by decide +kernel
theorem dL_law_513 : decode code 513 = .ok (.lshl, 1) := by decide +kernel
theorem dL_law_514 : decode code 514 = .ok (.aload_n 0, 1) := by decide +kernel
theorem dL_law_515 : decode code 515 = .ok (.iload 4, 2) := by decide +kernel
theorem dL_law_517 : decode code 517 = .ok (.iconst 2, 1) := by decide +kernel
theorem dL_law_518 : decode code 518 = .ok (.iadd, 1) := by decide +kernel
theorem dL_law_519 : decode code 519 = .ok (.iaload, 1) := by decide +kernel
theorem dL_law_520 : decode code 520 = .ok (.i2l, 1) := by decide +kernel
theorem dL_law_521 : decode code 521 = .ok (.ldc2_w 80, 3) := by decide +kernel
theorem dL_law_524 : decode code 524 = .ok (.land, 1) := by decide +kernel
theorem dL_law_525 : decode code 525 = .ok (.lor, 1) := by decide +kernel
theorem dL_law_526 : decode code 526 = .ok (.aload_n 0, 1) := by decide +kernel
theorem dL_law_527 : decode code 527 = .ok (.iload 4, 2) := by decide +kernel
theorem dL_law_529 : decode code 529 = .ok (.iconst 3, 1) := by decide +kernel
theorem dL_law_530 : decode code 530 = .ok (.iadd, 1) := by decide +kernel
theorem dL_law_531 : decode code 531 = .ok (.iaload, 1) := by decide +kernel
theorem dL_law_532 : decode code 532 = .ok (.aload_n 3, 1) := by decide +kernel
theorem dL_law_533 : decode code 533 = .ok (.invokestatic 91, 3) := by decide +kernel
theorem dL_law_536 : decode code 536 = .ok (.istore 5, 2) := by decide +kernel
theorem dL_law_538 : decode code 538 = .ok (.aload_n 2, 1) := by decide +kernel
theorem dL_law_539 : decode code 539 = .ok (.aload_n 0, 1) := by decide +kernel
theorem dL_law_540 : decode code 540 = .ok (.iload 4, 2) := by decide +kernel
theorem dL_law_542 : decode code 542 = .ok (.iconst 1, 1) := by decide +kernel
theorem dL_law_543 : decode code 543 = .ok (.iadd, 1) := by decide +kernel
theorem dL_law_544 : decode code 544 = .ok (.iaload, 1) := by decide +kernel
theorem dL_law_545 : decode code 545 = .ok (.i2l, 1) := by decide +kernel
theorem dL_law_546 : decode code 546 = .ok (.bipush 32, 2) := by decide +kernel
theorem dL_law_548 : decode code 548 = .ok (.lshl, 1) := by decide +kernel
theorem dL_law_549 : decode code 549 = .ok (.aload_n 0, 1) := by decide +kernel
theorem dL_law_550 : decode code 550 = .ok (.iload 4, 2) := by decide +kernel
theorem dL_law_552 : decode code 552 = .ok (.iconst 2, 1) := by decide +kernel
theorem dL_law_553 : decode code 553 = .ok (.iadd, 1) := by decide +kernel
theorem dL_law_554 : decode code 554 = .ok (.iaload, 1) := by decide +kernel
theorem dL_law_555 : decode code 555 = .ok (.i2l, 1) := by decide +kernel
theorem dL_law_556 : decode code 556 = .ok (.ldc2_w 80, 3) := by decide +kernel
theorem dL_law_559 : decode code 559 = .ok (.land, 1) := by decide +kernel
theorem dL_law_560 : decode code 560 = .ok (.lor, 1) := by decide +kernel
theorem dL_law_561 : decode code 561 = .ok (.aload_n 0, 1) := by decide +kernel
theorem dL_law_562 : decode code 562 = .ok (.iload 4, 2) := by decide +kernel
theorem dL_law_564 : decode code 564 = .ok (.iconst 3, 1) := by decide +kernel
theorem dL_law_565 : decode code 565 = .ok (.iadd, 1) := by decide +kernel
theorem dL_law_566 : decode code 566 = .ok (.iaload, 1) := by decide +kernel
theorem dL_law_567 : decode code 567 = .ok (.invokevirtual 94, 3) := by decide +kernel
theorem dL_law_570 : decode code 570 = .ok (.istore 6, 2) := by decide +kernel
theorem dL_law_572 : decode code 572 = .ok (.aload_n 2, 1) := by decide +kernel
theorem dL_law_573 : decode code 573 = .ok (.invokevirtual 64, 3) := by decide +kernel
theorem dL_law_576 : decode code 576 = .ok (.iload 5, 2) := by decide +kernel
theorem dL_law_578 : decode code 578 = .ok (.if_icmp .eq 5, 3) := by decide +kernel
theorem dL_law_581 : decode code 581 = .ok (.iconst 0, 1) := by decide +kernel
theorem dL_law_582 : decode code 582 = .ok (.ireturn, 1) := by decide +kernel
theorem dL_law_583 : decode code 583 = .ok (.iload 5, 2) := by decide +kernel
theorem dL_law_585 : decode code 585 = .ok (.ifCond .ne 15, 3) := by decide +kernel
theorem dL_law_588 : decode code 588 = .ok (.aload_n 3, 1) := by decide +kernel
theorem dL_law_589 : decode code 589 = .ok (.iconst 0, 1) := by decide +kernel
theorem dL_law_590 : decode code 590 = .ok (.laload, 1) := by decide +kernel
theorem dL_law_591 : decode code 591 = .ok (.iload 6, 2) := by decide +kernel
theorem dL_law_593 : decode code 593 = .ok (.i2l, 1) := by decide +kernel
theorem dL_law_594 : decode code 594 = .ok (.lcmp, 1) := by decide +kernel
theorem dL_law_595 : decode code 595 = .ok (.ifCond .eq 5, 3) := by decide +kernel
theorem dL_law_598 : decode code 598 = .ok (.iconst 0, 1) := by decide +kernel
theorem dL_law_599 : decode code 599 = .ok (.ireturn, 1) := by decide +kernel
theorem dL_law_600 : decode code 600 = .ok (.goto 569, 3) := by decide +kernel
theorem dL_law_603 : decode code 603 = .ok (.aload_n 1, 1) := by decide +kernel
theorem dL_law_604 : decode code 604 = .ok (.aload_n 0, 1) := by decide +kernel
theorem dL_law_605 : decode code 605 = .ok (.iload 4, 2) := by decide +kernel
theorem dL_law_607 : decode code 607 = .ok (.iconst 1, 1) := by decide +kernel
theorem dL_law_608 : decode code 608 = .ok (.iadd, 1) := by decide +kernel
theorem dL_law_609 : decode code 609 = .ok (.iaload, 1) := by decide +kernel
theorem dL_law_610 : decode code 610 = .ok (.aload_n 0, 1) := by decide +kernel
theorem dL_law_611 : decode code 611 = .ok (.iload 4, 2) := by decide +kernel
theorem dL_law_613 : decode code 613 = .ok (.iconst 2, 1) := by decide +kernel
theorem dL_law_614 : decode code 614 = .ok (.iadd, 1) := by decide +kernel
theorem dL_law_615 : decode code 615 = .ok (.iaload, 1) := by decide +kernel
theorem dL_law_616 : decode code 616 = .ok (.i2l, 1) := by decide +kernel
theorem dL_law_617 : decode code 617 = .ok (.bipush 32, 2) := by decide +kernel
theorem dL_law_619 : decode code 619 = .ok (.lshl, 1) := by decide +kernel
theorem dL_law_620 : decode code 620 = .ok (.aload_n 0, 1) := by decide +kernel
theorem dL_law_621 : decode code 621 = .ok (.iload 4, 2) := by decide +kernel
theorem dL_law_623 : decode code 623 = .ok (.iconst 3, 1) := by decide +kernel
theorem dL_law_624 : decode code 624 = .ok (.iadd, 1) := by decide +kernel
theorem dL_law_625 : decode code 625 = .ok (.iaload, 1) := by decide +kernel
theorem dL_law_626 : decode code 626 = .ok (.i2l, 1) := by decide +kernel
theorem dL_law_627 : decode code 627 = .ok (.ldc2_w 80, 3) := by decide +kernel
theorem dL_law_630 : decode code 630 = .ok (.land, 1) := by decide +kernel
theorem dL_law_631 : decode code 631 = .ok (.lor, 1) := by decide +kernel
theorem dL_law_632 : decode code 632 = .ok (.aload_n 0, 1) := by decide +kernel
theorem dL_law_633 : decode code 633 = .ok (.iload 4, 2) := by decide +kernel
theorem dL_law_635 : decode code 635 = .ok (.iconst 4, 1) := by decide +kernel
theorem dL_law_636 : decode code 636 = .ok (.iadd, 1) := by decide +kernel
theorem dL_law_637 : decode code 637 = .ok (.iaload, 1) := by decide +kernel
theorem dL_law_638 : decode code 638 = .ok (.aload_n 0, 1) := by decide +kernel
theorem dL_law_639 : decode code 639 = .ok (.iload 4, 2) := by decide +kernel
theorem dL_law_641 : decode code 641 = .ok (.iconst 5, 1) := by decide +kernel
theorem dL_law_642 : decode code 642 = .ok (.iadd, 1) := by decide +kernel
theorem dL_law_643 : decode code 643 = .ok (.iaload, 1) := by decide +kernel
theorem dL_law_644 : decode code 644 = .ok (.i2l, 1) := by decide +kernel
theorem dL_law_645 : decode code 645 = .ok (.bipush 32, 2) := by decide +kernel
theorem dL_law_647 : decode code 647 = .ok (.lshl, 1) := by decide +kernel
theorem dL_law_648 : decode code 648 = .ok (.aload_n 0, 1) := by decide +kernel
theorem dL_law_649 : decode code 649 = .ok (.iload 4, 2) := by decide +kernel
theorem dL_law_651 : decode code 651 = .ok (.bipush 6, 2) := by decide +kernel
theorem dL_law_653 : decode code 653 = .ok (.iadd, 1) := by decide +kernel
theorem dL_law_654 : decode code 654 = .ok (.iaload, 1) := by decide +kernel
theorem dL_law_655 : decode code 655 = .ok (.i2l, 1) := by decide +kernel
theorem dL_law_656 : decode code 656 = .ok (.ldc2_w 80, 3) := by decide +kernel
theorem dL_law_659 : decode code 659 = .ok (.land, 1) := by decide +kernel
theorem dL_law_660 : decode code 660 = .ok (.lor, 1) := by decide +kernel
theorem dL_law_661 : decode code 661 = .ok (.invokevirtual 95, 3) := by decide +kernel
theorem dL_law_664 : decode code 664 = .ok (.aload_n 2, 1) := by decide +kernel
theorem dL_law_665 : decode code 665 = .ok (.aload_n 0, 1) := by decide +kernel
theorem dL_law_666 : decode code 666 = .ok (.iload 4, 2) := by decide +kernel
theorem dL_law_668 : decode code 668 = .ok (.iconst 1, 1) := by decide +kernel
theorem dL_law_669 : decode code 669 = .ok (.iadd, 1) := by decide +kernel
theorem dL_law_670 : decode code 670 = .ok (.iaload, 1) := by decide +kernel
theorem dL_law_671 : decode code 671 = .ok (.aload_n 0, 1) := by decide +kernel
theorem dL_law_672 : decode code 672 = .ok (.iload 4, 2) := by decide +kernel
theorem dL_law_674 : decode code 674 = .ok (.iconst 2, 1) := by decide +kernel
theorem dL_law_675 : decode code 675 = .ok (.iadd, 1) := by decide +kernel
theorem dL_law_676 : decode code 676 = .ok (.iaload, 1) := by decide +kernel
theorem dL_law_677 : decode code 677 = .ok (.i2l, 1) := by decide +kernel
theorem dL_law_678 : decode code 678 = .ok (.bipush 32, 2) := by decide +kernel
theorem dL_law_680 : decode code 680 = .ok (.lshl, 1) := by decide +kernel
theorem dL_law_681 : decode code 681 = .ok (.aload_n 0, 1) := by decide +kernel
theorem dL_law_682 : decode code 682 = .ok (.iload 4, 2) := by decide +kernel
theorem dL_law_684 : decode code 684 = .ok (.iconst 3, 1) := by decide +kernel
theorem dL_law_685 : decode code 685 = .ok (.iadd, 1) := by decide +kernel
theorem dL_law_686 : decode code 686 = .ok (.iaload, 1) := by decide +kernel
theorem dL_law_687 : decode code 687 = .ok (.i2l, 1) := by decide +kernel
theorem dL_law_688 : decode code 688 = .ok (.ldc2_w 80, 3) := by decide +kernel
theorem dL_law_691 : decode code 691 = .ok (.land, 1) := by decide +kernel
theorem dL_law_692 : decode code 692 = .ok (.lor, 1) := by decide +kernel
theorem dL_law_693 : decode code 693 = .ok (.aload_n 0, 1) := by decide +kernel
theorem dL_law_694 : decode code 694 = .ok (.iload 4, 2) := by decide +kernel
theorem dL_law_696 : decode code 696 = .ok (.iconst 4, 1) := by decide +kernel
theorem dL_law_697 : decode code 697 = .ok (.iadd, 1) := by decide +kernel
theorem dL_law_698 : decode code 698 = .ok (.iaload, 1) := by decide +kernel
theorem dL_law_699 : decode code 699 = .ok (.aload_n 0, 1) := by decide +kernel
theorem dL_law_700 : decode code 700 = .ok (.iload 4, 2) := by decide +kernel
theorem dL_law_702 : decode code 702 = .ok (.iconst 5, 1) := by decide +kernel
theorem dL_law_703 : decode code 703 = .ok (.iadd, 1) := by decide +kernel
theorem dL_law_704 : decode code 704 = .ok (.iaload, 1) := by decide +kernel
theorem dL_law_705 : decode code 705 = .ok (.i2l, 1) := by decide +kernel
theorem dL_law_706 : decode code 706 = .ok (.bipush 32, 2) := by decide +kernel
theorem dL_law_708 : decode code 708 = .ok (.lshl, 1) := by decide +kernel
theorem dL_law_709 : decode code 709 = .ok (.aload_n 0, 1) := by decide +kernel
theorem dL_law_710 : decode code 710 = .ok (.iload 4, 2) := by decide +kernel
theorem dL_law_712 : decode code 712 = .ok (.bipush 6, 2) := by decide +kernel
theorem dL_law_714 : decode code 714 = .ok (.iadd, 1) := by decide +kernel
theorem dL_law_715 : decode code 715 = .ok (.iaload, 1) := by decide +kernel
theorem dL_law_716 : decode code 716 = .ok (.i2l, 1) := by decide +kernel
theorem dL_law_717 : decode code 717 = .ok (.ldc2_w 80, 3) := by decide +kernel
theorem dL_law_720 : decode code 720 = .ok (.land, 1) := by decide +kernel
theorem dL_law_721 : decode code 721 = .ok (.lor, 1) := by decide +kernel
theorem dL_law_722 : decode code 722 = .ok (.invokevirtual 99, 3) := by decide +kernel
theorem dL_law_725 : decode code 725 = .ok (.if_icmp .eq 444, 3) := by decide +kernel
theorem dL_law_728 : decode code 728 = .ok (.iconst 0, 1) := by decide +kernel
theorem dL_law_729 : decode code 729 = .ok (.ireturn, 1) := by decide +kernel
theorem dL_law_730 : decode code 730 = .ok (.aload_n 1, 1) := by decide +kernel
theorem dL_law_731 : decode code 731 = .ok (.aload_n 0, 1) := by decide +kernel
theorem dL_law_732 : decode code 732 = .ok (.iload 4, 2) := by decide +kernel
theorem dL_law_734 : decode code 734 = .ok (.iconst 1, 1) := by decide +kernel
theorem dL_law_735 : decode code 735 = .ok (.iadd, 1) := by decide +kernel
theorem dL_law_736 : decode code 736 = .ok (.iaload, 1) := by decide +kernel
theorem dL_law_737 : decode code 737 = .ok (.aload_n 0, 1) := by decide +kernel
theorem dL_law_738 : decode code 738 = .ok (.iload 4, 2) := by decide +kernel
theorem dL_law_740 : decode code 740 = .ok (.iconst 2, 1) := by decide +kernel
theorem dL_law_741 : decode code 741 = .ok (.iadd, 1) := by decide +kernel
theorem dL_law_742 : decode code 742 = .ok (.iaload, 1) := by decide +kernel
theorem dL_law_743 : decode code 743 = .ok (.i2l, 1) := by decide +kernel
theorem dL_law_744 : decode code 744 = .ok (.bipush 32, 2) := by decide +kernel
theorem dL_law_746 : decode code 746 = .ok (.lshl, 1) := by decide +kernel
theorem dL_law_747 : decode code 747 = .ok (.aload_n 0, 1) := by decide +kernel
theorem dL_law_748 : decode code 748 = .ok (.iload 4, 2) := by decide +kernel
theorem dL_law_750 : decode code 750 = .ok (.iconst 3, 1) := by decide +kernel
theorem dL_law_751 : decode code 751 = .ok (.iadd, 1) := by decide +kernel
theorem dL_law_752 : decode code 752 = .ok (.iaload, 1) := by decide +kernel
theorem dL_law_753 : decode code 753 = .ok (.i2l, 1) := by decide +kernel
theorem dL_law_754 : decode code 754 = .ok (.ldc2_w 80, 3) := by decide +kernel
theorem dL_law_757 : decode code 757 = .ok (.land, 1) := by decide +kernel
theorem dL_law_758 : decode code 758 = .ok (.lor, 1) := by decide +kernel
theorem dL_law_759 : decode code 759 = .ok (.aload_n 0, 1) := by decide +kernel
theorem dL_law_760 : decode code 760 = .ok (.iload 4, 2) := by decide +kernel
theorem dL_law_762 : decode code 762 = .ok (.iconst 4, 1) := by decide +kernel
theorem dL_law_763 : decode code 763 = .ok (.iadd, 1) := by decide +kernel
theorem dL_law_764 : decode code 764 = .ok (.iaload, 1) := by decide +kernel
theorem dL_law_765 : decode code 765 = .ok (.aload_n 3, 1) := by decide +kernel
theorem dL_law_766 : decode code 766 = .ok (.invokestatic 100, 3) := by decide +kernel
theorem dL_law_769 : decode code 769 = .ok (.istore 5, 2) := by decide +kernel
theorem dL_law_771 : decode code 771 = .ok (.aload_n 2, 1) := by decide +kernel
theorem dL_law_772 : decode code 772 = .ok (.aload_n 0, 1) := by decide +kernel
theorem dL_law_773 : decode code 773 = .ok (.iload 4, 2) := by decide +kernel
theorem dL_law_775 : decode code 775 = .ok (.iconst 1, 1) := by decide +kernel
theorem dL_law_776 : decode code 776 = .ok (.iadd, 1) := by decide +kernel
theorem dL_law_777 : decode code 777 = .ok (.iaload, 1) := by decide +kernel
theorem dL_law_778 : decode code 778 = .ok (.aload_n 0, 1) := by decide +kernel
theorem dL_law_779 : decode code 779 = .ok (.iload 4, 2) := by decide +kernel
theorem dL_law_781 : decode code 781 = .ok (.iconst 2, 1) := by decide +kernel
theorem dL_law_782 : decode code 782 = .ok (.iadd, 1) := by decide +kernel
theorem dL_law_783 : decode code 783 = .ok (.iaload, 1) := by decide +kernel
theorem dL_law_784 : decode code 784 = .ok (.i2l, 1) := by decide +kernel
theorem dL_law_785 : decode code 785 = .ok (.bipush 32, 2) := by decide +kernel
theorem dL_law_787 : decode code 787 = .ok (.lshl, 1) := by decide +kernel
theorem dL_law_788 : decode code 788 = .ok (.aload_n 0, 1) := by decide +kernel
theorem dL_law_789 : decode code 789 = .ok (.iload 4, 2) := by decide +kernel
theorem dL_law_791 : decode code 791 = .ok (.iconst 3, 1) := by decide +kernel
theorem dL_law_792 : decode code 792 = .ok (.iadd, 1) := by decide +kernel
theorem dL_law_793 : decode code 793 = .ok (.iaload, 1) := by decide +kernel
theorem dL_law_794 : decode code 794 = .ok (.i2l, 1) := by decide +kernel
theorem dL_law_795 : decode code 795 = .ok (.ldc2_w 80, 3) := by decide +kernel
theorem dL_law_798 : decode code 798 = .ok (.land, 1) := by decide +kernel
theorem dL_law_799 : decode code 799 = .ok (.lor, 1) := by decide +kernel
theorem dL_law_800 : decode code 800 = .ok (.aload_n 0, 1) := by decide +kernel
theorem dL_law_801 : decode code 801 = .ok (.iload 4, 2) := by decide +kernel
theorem dL_law_803 : decode code 803 = .ok (.iconst 4, 1) := by decide +kernel
theorem dL_law_804 : decode code 804 = .ok (.iadd, 1) := by decide +kernel
theorem dL_law_805 : decode code 805 = .ok (.iaload, 1) := by decide +kernel
theorem dL_law_806 : decode code 806 = .ok (.invokevirtual 103, 3) := by decide +kernel
theorem dL_law_809 : decode code 809 = .ok (.istore 6, 2) := by decide +kernel
theorem dL_law_811 : decode code 811 = .ok (.aload_n 2, 1) := by decide +kernel
theorem dL_law_812 : decode code 812 = .ok (.invokevirtual 64, 3) := by decide +kernel
theorem dL_law_815 : decode code 815 = .ok (.iload 5, 2) := by decide +kernel
theorem dL_law_817 : decode code 817 = .ok (.if_icmp .eq 5, 3) := by decide +kernel
theorem dL_law_820 : decode code 820 = .ok (.iconst 0, 1) := by decide +kernel
theorem dL_law_821 : decode code 821 = .ok (.ireturn, 1) := by decide +kernel
theorem dL_law_822 : decode code 822 = .ok (.iload 5, 2) := by decide +kernel
theorem dL_law_824 : decode code 824 = .ok (.ifCond .ne 15, 3) := by decide +kernel
theorem dL_law_827 : decode code 827 = .ok (.aload_n 3, 1) := by decide +kernel
theorem dL_law_828 : decode code 828 = .ok (.iconst 0, 1) := by decide +kernel
theorem dL_law_829 : decode code 829 = .ok (.laload, 1) := by decide +kernel
theorem dL_law_830 : decode code 830 = .ok (.iload 6, 2) := by decide +kernel
theorem dL_law_832 : decode code 832 = .ok (.i2l, 1) := by decide +kernel
theorem dL_law_833 : decode code 833 = .ok (.lcmp, 1) := by decide +kernel
theorem dL_law_834 : decode code 834 = .ok (.ifCond .eq 5, 3) := by decide +kernel
theorem dL_law_837 : decode code 837 = .ok (.iconst 0, 1) := by decide +kernel
theorem dL_law_838 : decode code 838 = .ok (.ireturn, 1) := by decide +kernel
theorem dL_law_839 : decode code 839 = .ok (.goto 330, 3) := by decide +kernel
theorem dL_law_842 : decode code 842 = .ok (.aload_n 1, 1) := by decide +kernel
theorem dL_law_843 : decode code 843 = .ok (.aload_n 0, 1) := by decide +kernel
theorem dL_law_844 : decode code 844 = .ok (.iload 4, 2) := by decide +kernel
theorem dL_law_846 : decode code 846 = .ok (.iconst 1, 1) := by decide +kernel
theorem dL_law_847 : decode code 847 = .ok (.iadd, 1) := by decide +kernel
theorem dL_law_848 : decode code 848 = .ok (.iaload, 1) := by decide +kernel
theorem dL_law_849 : decode code 849 = .ok (.aload_n 0, 1) := by decide +kernel
theorem dL_law_850 : decode code 850 = .ok (.iload 4, 2) := by decide +kernel
theorem dL_law_852 : decode code 852 = .ok (.iconst 2, 1) := by decide +kernel
theorem dL_law_853 : decode code 853 = .ok (.iadd, 1) := by decide +kernel
theorem dL_law_854 : decode code 854 = .ok (.iaload, 1) := by decide +kernel
theorem dL_law_855 : decode code 855 = .ok (.i2l, 1) := by decide +kernel
theorem dL_law_856 : decode code 856 = .ok (.bipush 32, 2) := by decide +kernel
theorem dL_law_858 : decode code 858 = .ok (.lshl, 1) := by decide +kernel
theorem dL_law_859 : decode code 859 = .ok (.aload_n 0, 1) := by decide +kernel
theorem dL_law_860 : decode code 860 = .ok (.iload 4, 2) := by decide +kernel
theorem dL_law_862 : decode code 862 = .ok (.iconst 3, 1) := by decide +kernel
theorem dL_law_863 : decode code 863 = .ok (.iadd, 1) := by decide +kernel
theorem dL_law_864 : decode code 864 = .ok (.iaload, 1) := by decide +kernel
theorem dL_law_865 : decode code 865 = .ok (.i2l, 1) := by decide +kernel
theorem dL_law_866 : decode code 866 = .ok (.ldc2_w 80, 3) := by decide +kernel
theorem dL_law_869 : decode code 869 = .ok (.land, 1) := by decide +kernel
theorem dL_law_870 : decode code 870 = .ok (.lor, 1) := by decide +kernel
theorem dL_law_871 : decode code 871 = .ok (.aload_n 0, 1) := by decide +kernel
theorem dL_law_872 : decode code 872 = .ok (.iload 4, 2) := by decide +kernel
theorem dL_law_874 : decode code 874 = .ok (.iconst 4, 1) := by decide +kernel
theorem dL_law_875 : decode code 875 = .ok (.iadd, 1) := by decide +kernel
theorem dL_law_876 : decode code 876 = .ok (.iaload, 1) := by decide +kernel
theorem dL_law_877 : decode code 877 = .ok (.aload_n 0, 1) := by decide +kernel
theorem dL_law_878 : decode code 878 = .ok (.iload 4, 2) := by decide +kernel
theorem dL_law_880 : decode code 880 = .ok (.iconst 5, 1) := by decide +kernel
theorem dL_law_881 : decode code 881 = .ok (.iadd, 1) := by decide +kernel
theorem dL_law_882 : decode code 882 = .ok (.iaload, 1) := by decide +kernel
theorem dL_law_883 : decode code 883 = .ok (.aload_n 3, 1) := by decide +kernel
theorem dL_law_884 : decode code 884 = .ok (.invokestatic 104, 3) := by decide +kernel
theorem dL_law_887 : decode code 887 = .ok (.istore 5, 2) := by decide +kernel
theorem dL_law_889 : decode code 889 = .ok (.aload_n 2, 1) := by decide +kernel
theorem dL_law_890 : decode code 890 = .ok (.aload_n 0, 1) := by decide +kernel
theorem dL_law_891 : decode code 891 = .ok (.iload 4, 2) := by decide +kernel
theorem dL_law_893 : decode code 893 = .ok (.iconst 1, 1) := by decide +kernel
theorem dL_law_894 : decode code 894 = .ok (.iadd, 1) := by decide +kernel
theorem dL_law_895 : decode code 895 = .ok (.iaload, 1) := by decide +kernel
theorem dL_law_896 : decode code 896 = .ok (.aload_n 0, 1) := by decide +kernel
theorem dL_law_897 : decode code 897 = .ok (.iload 4, 2) := by decide +kernel
theorem dL_law_899 : decode code 899 = .ok (.iconst 2, 1) := by decide +kernel
theorem dL_law_900 : decode code 900 = .ok (.iadd, 1) := by decide +kernel
theorem dL_law_901 : decode code 901 = .ok (.iaload, 1) := by decide +kernel
theorem dL_law_902 : decode code 902 = .ok (.i2l, 1) := by decide +kernel
theorem dL_law_903 : decode code 903 = .ok (.bipush 32, 2) := by decide +kernel
theorem dL_law_905 : decode code 905 = .ok (.lshl, 1) := by decide +kernel
theorem dL_law_906 : decode code 906 = .ok (.aload_n 0, 1) := by decide +kernel
theorem dL_law_907 : decode code 907 = .ok (.iload 4, 2) := by decide +kernel
theorem dL_law_909 : decode code 909 = .ok (.iconst 3, 1) := by decide +kernel
theorem dL_law_910 : decode code 910 = .ok (.iadd, 1) := by decide +kernel
theorem dL_law_911 : decode code 911 = .ok (.iaload, 1) := by decide +kernel
theorem dL_law_912 : decode code 912 = .ok (.i2l, 1) := by decide +kernel
theorem dL_law_913 : decode code 913 = .ok (.ldc2_w 80, 3) := by decide +kernel
theorem dL_law_916 : decode code 916 = .ok (.land, 1) := by decide +kernel
theorem dL_law_917 : decode code 917 = .ok (.lor, 1) := by decide +kernel
theorem dL_law_918 : decode code 918 = .ok (.aload_n 0, 1) := by decide +kernel
theorem dL_law_919 : decode code 919 = .ok (.iload 4, 2) := by decide +kernel
theorem dL_law_921 : decode code 921 = .ok (.iconst 4, 1) := by decide +kernel
theorem dL_law_922 : decode code 922 = .ok (.iadd, 1) := by decide +kernel
theorem dL_law_923 : decode code 923 = .ok (.iaload, 1) := by decide +kernel
theorem dL_law_924 : decode code 924 = .ok (.aload_n 0, 1) := by decide +kernel
theorem dL_law_925 : decode code 925 = .ok (.iload 4, 2) := by decide +kernel
theorem dL_law_927 : decode code 927 = .ok (.iconst 5, 1) := by decide +kernel
theorem dL_law_928 : decode code 928 = .ok (.iadd, 1) := by decide +kernel
theorem dL_law_929 : decode code 929 = .ok (.iaload, 1) := by decide +kernel
theorem dL_law_930 : decode code 930 = .ok (.invokevirtual 107, 3) := by decide +kernel
theorem dL_law_933 : decode code 933 = .ok (.lstore 6, 2) := by decide +kernel
theorem dL_law_935 : decode code 935 = .ok (.aload_n 2, 1) := by decide +kernel
theorem dL_law_936 : decode code 936 = .ok (.invokevirtual 64, 3) := by decide +kernel
theorem dL_law_939 : decode code 939 = .ok (.iload 5, 2) := by decide +kernel
theorem dL_law_941 : decode code 941 = .ok (.if_icmp .eq 5, 3) := by decide +kernel
theorem dL_law_944 : decode code 944 = .ok (.iconst 0, 1) := by decide +kernel
theorem dL_law_945 : decode code 945 = .ok (.ireturn, 1) := by decide +kernel
theorem dL_law_946 : decode code 946 = .ok (.iload 5, 2) := by decide +kernel
theorem dL_law_948 : decode code 948 = .ok (.ifCond .ne 14, 3) := by decide +kernel
theorem dL_law_951 : decode code 951 = .ok (.aload_n 3, 1) := by decide +kernel
theorem dL_law_952 : decode code 952 = .ok (.iconst 0, 1) := by decide +kernel
theorem dL_law_953 : decode code 953 = .ok (.laload, 1) := by decide +kernel
theorem dL_law_954 : decode code 954 = .ok (.lload 6, 2) := by decide +kernel
theorem dL_law_956 : decode code 956 = .ok (.lcmp, 1) := by decide +kernel
theorem dL_law_957 : decode code 957 = .ok (.ifCond .eq 5, 3) := by decide +kernel
theorem dL_law_960 : decode code 960 = .ok (.iconst 0, 1) := by decide +kernel
theorem dL_law_961 : decode code 961 = .ok (.ireturn, 1) := by decide +kernel
theorem dL_law_962 : decode code 962 = .ok (.goto 207, 3) := by decide +kernel
theorem dL_law_965 : decode code 965 = .ok (.aload_n 1, 1) := by decide +kernel
theorem dL_law_966 : decode code 966 = .ok (.aload_n 0, 1) := by decide +kernel
theorem dL_law_967 : decode code 967 = .ok (.iload 4, 2) := by decide +kernel
theorem dL_law_969 : decode code 969 = .ok (.iconst 1, 1) := by decide +kernel
theorem dL_law_970 : decode code 970 = .ok (.iadd, 1) := by decide +kernel
theorem dL_law_971 : decode code 971 = .ok (.iaload, 1) := by decide +kernel
theorem dL_law_972 : decode code 972 = .ok (.aload_n 0, 1) := by decide +kernel
theorem dL_law_973 : decode code 973 = .ok (.iload 4, 2) := by decide +kernel
theorem dL_law_975 : decode code 975 = .ok (.iconst 2, 1) := by decide +kernel
theorem dL_law_976 : decode code 976 = .ok (.iadd, 1) := by decide +kernel
theorem dL_law_977 : decode code 977 = .ok (.iaload, 1) := by decide +kernel
theorem dL_law_978 : decode code 978 = .ok (.aload_n 3, 1) := by decide +kernel
theorem dL_law_979 : decode code 979 = .ok (.invokestatic 108, 3) := by decide +kernel
theorem dL_law_982 : decode code 982 = .ok (.istore 5, 2) := by decide +kernel
theorem dL_law_984 : decode code 984 = .ok (.aload_n 2, 1) := by decide +kernel
theorem dL_law_985 : decode code 985 = .ok (.aload_n 0, 1) := by decide +kernel
theorem dL_law_986 : decode code 986 = .ok (.iload 4, 2) := by decide +kernel
theorem dL_law_988 : decode code 988 = .ok (.iconst 1, 1) := by decide +kernel
theorem dL_law_989 : decode code 989 = .ok (.iadd, 1) := by decide +kernel
theorem dL_law_990 : decode code 990 = .ok (.iaload, 1) := by decide +kernel
theorem dL_law_991 : decode code 991 = .ok (.aload_n 0, 1) := by decide +kernel
theorem dL_law_992 : decode code 992 = .ok (.iload 4, 2) := by decide +kernel
theorem dL_law_994 : decode code 994 = .ok (.iconst 2, 1) := by decide +kernel
theorem dL_law_995 : decode code 995 = .ok (.iadd, 1) := by decide +kernel
theorem dL_law_996 : decode code 996 = .ok (.iaload, 1) := by decide +kernel
theorem dL_law_997 : decode code 997 = .ok (.invokevirtual 110, 3) := by decide +kernel
theorem dL_law_1000 : decode code 1000 = .ok (.istore 6, 2) := by decide +kernel
theorem dL_law_1002 : decode code 1002 = .ok (.aload_n 2, 1) := by decide +kernel
theorem dL_law_1003 : decode code 1003 = .ok (.invokevirtual 64, 3) := by decide +kernel
theorem dL_law_1006 : decode code 1006 = .ok (.iload 5, 2) := by decide +kernel
theorem dL_law_1008 : decode code 1008 = .ok (.if_icmp .eq 5, 3) := by decide +kernel
theorem dL_law_1011 : decode code 1011 = .ok (.iconst 0, 1) := by decide +kernel
theorem dL_law_1012 : decode code 1012 = .ok (.ireturn, 1) := by decide +kernel
theorem dL_law_1013 : decode code 1013 = .ok (.iload 5, 2) := by decide +kernel
theorem dL_law_1015 : decode code 1015 = .ok (.ifCond .ne 15, 3) := by decide +kernel
theorem dL_law_1018 : decode code 1018 = .ok (.aload_n 3, 1) := by decide +kernel
theorem dL_law_1019 : decode code 1019 = .ok (.iconst 0, 1) := by decide +kernel
theorem dL_law_1020 : decode code 1020 = .ok (.laload, 1) := by decide +kernel
theorem dL_law_1021 : decode code 1021 = .ok (.iload 6, 2) := by decide +kernel
theorem dL_law_1023 : decode code 1023 = .ok (.i2l, 1) := by decide +kernel
theorem dL_law_1024 : decode code 1024 = .ok (.lcmp, 1) := by decide +kernel
theorem dL_law_1025 : decode code 1025 = .ok (.ifCond .eq 5, 3) := by decide +kernel
theorem dL_law_1028 : decode code 1028 = .ok (.iconst 0, 1) := by decide +kernel
theorem dL_law_1029 : decode code 1029 = .ok (.ireturn, 1) := by decide +kernel
theorem dL_law_1030 : decode code 1030 = .ok (.goto 139, 3) := by decide +kernel
theorem dL_law_1033 : decode code 1033 = .ok (.aload_n 1, 1) := by decide +kernel
theorem dL_law_1034 : decode code 1034 = .ok (.aload_n 3, 1) := by decide +kernel
theorem dL_law_1035 : decode code 1035 = .ok (.invokestatic 111, 3) := by decide +kernel
theorem dL_law_1038 : decode code 1038 = .ok (.istore 5, 2) := by decide +kernel
theorem dL_law_1040 : decode code 1040 = .ok (.aload_n 2, 1) := by decide +kernel
theorem dL_law_1041 : decode code 1041 = .ok (.invokevirtual 113, 3) := by decide +kernel
theorem dL_law_1044 : decode code 1044 = .ok (.istore 6, 2) := by decide +kernel
theorem dL_law_1046 : decode code 1046 = .ok (.aload_n 2, 1) := by decide +kernel
theorem dL_law_1047 : decode code 1047 = .ok (.invokevirtual 64, 3) := by decide +kernel
theorem dL_law_1050 : decode code 1050 = .ok (.iload 5, 2) := by decide +kernel
theorem dL_law_1052 : decode code 1052 = .ok (.if_icmp .eq 5, 3) := by decide +kernel
theorem dL_law_1055 : decode code 1055 = .ok (.iconst 0, 1) := by decide +kernel
theorem dL_law_1056 : decode code 1056 = .ok (.ireturn, 1) := by decide +kernel
theorem dL_law_1057 : decode code 1057 = .ok (.iload 5, 2) := by decide +kernel
theorem dL_law_1059 : decode code 1059 = .ok (.ifCond .ne 15, 3) := by decide +kernel
theorem dL_law_1062 : decode code 1062 = .ok (.aload_n 3, 1) := by decide +kernel
theorem dL_law_1063 : decode code 1063 = .ok (.iconst 0, 1) := by decide +kernel
theorem dL_law_1064 : decode code 1064 = .ok (.laload, 1) := by decide +kernel
theorem dL_law_1065 : decode code 1065 = .ok (.iload 6, 2) := by decide +kernel
theorem dL_law_1067 : decode code 1067 = .ok (.i2l, 1) := by decide +kernel
theorem dL_law_1068 : decode code 1068 = .ok (.lcmp, 1) := by decide +kernel
theorem dL_law_1069 : decode code 1069 = .ok (.ifCond .eq 5, 3) := by decide +kernel
theorem dL_law_1072 : decode code 1072 = .ok (.iconst 0, 1) := by decide +kernel
theorem dL_law_1073 : decode code 1073 = .ok (.ireturn, 1) := by decide +kernel
theorem dL_law_1074 : decode code 1074 = .ok (.goto 95, 3) := by decide +kernel
theorem dL_law_1077 : decode code 1077 = .ok (.aload_n 1, 1) := by decide +kernel
theorem dL_law_1078 : decode code 1078 = .ok (.aload_n 0, 1) := by decide +kernel
theorem dL_law_1079 : decode code 1079 = .ok (.iload 4, 2) := by decide +kernel
theorem dL_law_1081 : decode code 1081 = .ok (.iconst 1, 1) := by decide +kernel
theorem dL_law_1082 : decode code 1082 = .ok (.iadd, 1) := by decide +kernel
theorem dL_law_1083 : decode code 1083 = .ok (.iaload, 1) := by decide +kernel
theorem dL_law_1084 : decode code 1084 = .ok (.aload_n 0, 1) := by decide +kernel
theorem dL_law_1085 : decode code 1085 = .ok (.iload 4, 2) := by decide +kernel
theorem dL_law_1087 : decode code 1087 = .ok (.iconst 2, 1) := by decide +kernel
theorem dL_law_1088 : decode code 1088 = .ok (.iadd, 1) := by decide +kernel
theorem dL_law_1089 : decode code 1089 = .ok (.iaload, 1) := by decide +kernel
theorem dL_law_1090 : decode code 1090 = .ok (.aload_n 3, 1) := by decide +kernel
theorem dL_law_1091 : decode code 1091 = .ok (.invokestatic 114, 3) := by decide +kernel
theorem dL_law_1094 : decode code 1094 = .ok (.istore 5, 2) := by decide +kernel
theorem dL_law_1096 : decode code 1096 = .ok (.aload_n 2, 1) := by decide +kernel
theorem dL_law_1097 : decode code 1097 = .ok (.aload_n 0, 1) := by decide +kernel
theorem dL_law_1098 : decode code 1098 = .ok (.iload 4, 2) := by decide +kernel
theorem dL_law_1100 : decode code 1100 = .ok (.iconst 1, 1) := by decide +kernel
theorem dL_law_1101 : decode code 1101 = .ok (.iadd, 1) := by decide +kernel
theorem dL_law_1102 : decode code 1102 = .ok (.iaload, 1) := by decide +kernel
theorem dL_law_1103 : decode code 1103 = .ok (.aload_n 0, 1) := by decide +kernel
theorem dL_law_1104 : decode code 1104 = .ok (.iload 4, 2) := by decide +kernel
theorem dL_law_1106 : decode code 1106 = .ok (.iconst 2, 1) := by decide +kernel
theorem dL_law_1107 : decode code 1107 = .ok (.iadd, 1) := by decide +kernel
theorem dL_law_1108 : decode code 1108 = .ok (.iaload, 1) := by decide +kernel
theorem dL_law_1109 : decode code 1109 = .ok (.invokevirtual 116, 3) := by decide +kernel
theorem dL_law_1112 : decode code 1112 = .ok (.lstore 6, 2) := by decide +kernel
theorem dL_law_1114 : decode code 1114 = .ok (.aload_n 2, 1) := by decide +kernel
theorem dL_law_1115 : decode code 1115 = .ok (.invokevirtual 64, 3) := by decide +kernel
theorem dL_law_1118 : decode code 1118 = .ok (.iload 5, 2) := by decide +kernel
theorem dL_law_1120 : decode code 1120 = .ok (.if_icmp .eq 5, 3) := by decide +kernel
theorem dL_law_1123 : decode code 1123 = .ok (.iconst 0, 1) := by decide +kernel
theorem dL_law_1124 : decode code 1124 = .ok (.ireturn, 1) := by decide +kernel
theorem dL_law_1125 : decode code 1125 = .ok (.iload 5, 2) := by decide +kernel
theorem dL_law_1127 : decode code 1127 = .ok (.ifCond .ne 14, 3) := by decide +kernel
theorem dL_law_1130 : decode code 1130 = .ok (.aload_n 3, 1) := by decide +kernel
theorem dL_law_1131 : decode code 1131 = .ok (.iconst 0, 1) := by decide +kernel
theorem dL_law_1132 : decode code 1132 = .ok (.laload, 1) := by decide +kernel
theorem dL_law_1133 : decode code 1133 = .ok (.lload 6, 2) := by decide +kernel
theorem dL_law_1135 : decode code 1135 = .ok (.lcmp, 1) := by decide +kernel
theorem dL_law_1136 : decode code 1136 = .ok (.ifCond .eq 5, 3) := by decide +kernel
theorem dL_law_1139 : decode code 1139 = .ok (.iconst 0, 1) := by decide +kernel
theorem dL_law_1140 : decode code 1140 = .ok (.ireturn, 1) := by decide +kernel
theorem dL_law_1141 : decode code 1141 = .ok (.goto 28, 3) := by decide +kernel
theorem dL_law_1144 : decode code 1144 = .ok (.aload_n 1, 1) := by decide +kernel
theorem dL_law_1145 : decode code 1145 = .ok (.aload_n 0, 1) := by decide +kernel
theorem dL_law_1146 : decode code 1146 = .ok (.iload 4, 2) := by decide +kernel
theorem dL_law_1148 : decode code 1148 = .ok (.iconst 1, 1) := by decide +kernel
theorem dL_law_1149 : decode code 1149 = .ok (.iadd, 1) := by decide +kernel
theorem dL_law_1150 : decode code 1150 = .ok (.iaload, 1) := by decide +kernel
theorem dL_law_1151 : decode code 1151 = .ok (.invokevirtual 117, 3) := by decide +kernel
theorem dL_law_1154 : decode code 1154 = .ok (.aload_n 2, 1) := by decide +kernel
theorem dL_law_1155 : decode code 1155 = .ok (.aload_n 0, 1) := by decide +kernel
theorem dL_law_1156 : decode code 1156 = .ok (.iload 4, 2) := by decide +kernel
theorem dL_law_1158 : decode code 1158 = .ok (.iconst 1, 1) := by decide +kernel
theorem dL_law_1159 : decode code 1159 = .ok (.iadd, 1) := by decide +kernel
theorem dL_law_1160 : decode code 1160 = .ok (.iaload, 1) := by decide +kernel
theorem dL_law_1161 : decode code 1161 = .ok (.invokevirtual 120, 3) := by decide +kernel
theorem dL_law_1164 : decode code 1164 = .ok (.if_icmp .eq 5, 3) := by decide +kernel
theorem dL_law_1167 : decode code 1167 = .ok (.iconst 0, 1) := by decide +kernel
theorem dL_law_1168 : decode code 1168 = .ok (.ireturn, 1) := by decide +kernel
theorem dL_law_1169 : decode code 1169 = .ok (.iinc 4 7, 3) := by decide +kernel
theorem dL_law_1172 : decode code 1172 = .ok (.goto (-1149), 3) := by decide +kernel
theorem dL_law_1175 : decode code 1175 = .ok (.iconst 1, 1) := by decide +kernel
theorem dL_law_1176 : decode code 1176 = .ok (.ireturn, 1) := by decide +kernel
