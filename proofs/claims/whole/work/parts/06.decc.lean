theorem d_La_cell_0 : decode method_2_code 0 = .ok (.iload_n 1, 1) := by decide +kernel
theorem d_La_cell_1 : decode method_2_code 1 = .ok (.aload_n 0, 1) := by decide +kernel
theorem d_La_cell_2 : decode method_2_code 2 = .ok (.arraylength, 1) := by decide +kernel
theorem d_La_cell_3 : decode method_2_code 3 = .ok (.if_icmp .ge 9, 3) := by decide +kernel
theorem d_La_cell_6 : decode method_2_code 6 = .ok (.aload_n 0, 1) := by decide +kernel
theorem d_La_cell_7 : decode method_2_code 7 = .ok (.iload_n 1, 1) := by decide +kernel
theorem d_La_cell_8 : decode method_2_code 8 = .ok (.iaload, 1) := by decide +kernel
theorem d_La_cell_9 : decode method_2_code 9 = .ok (.goto 4, 3) := by decide +kernel
theorem d_La_cell_12 : decode method_2_code 12 = .ok (.iconst 0, 1) := by decide +kernel
theorem d_La_cell_13 : decode method_2_code 13 = .ok (.ireturn, 1) := by decide +kernel
theorem d_La_append_0 : decode method_3_code 0 = .ok (.aload_n 2, 1) := by decide +kernel
theorem d_La_append_1 : decode method_3_code 1 = .ok (.iconst 0, 1) := by decide +kernel
theorem d_La_append_2 : decode method_3_code 2 = .ok (.aload_n 0, 1) := by decide +kernel
theorem d_La_append_3 : decode method_3_code 3 = .ok (.iload_n 1, 1) := by decide +kernel
theorem d_La_append_4 : decode method_3_code 4 = .ok (.invokevirtual 7, 3) := by decide +kernel
theorem d_La_append_7 : decode method_3_code 7 = .ok (.i2l, 1) := by decide +kernel
theorem d_La_append_8 : decode method_3_code 8 = .ok (.lastore, 1) := by decide +kernel
theorem d_La_append_9 : decode method_3_code 9 = .ok (.goto 9, 3) := by decide +kernel
theorem d_La_append_12 : decode method_3_code 12 = .ok (.astore_n 3, 1) := by decide +kernel
theorem d_La_append_13 : decode method_3_code 13 = .ok (.iconst 1, 1) := by decide +kernel
theorem d_La_append_14 : decode method_3_code 14 = .ok (.ireturn, 1) := by decide +kernel
theorem d_La_append_15 : decode method_3_code 15 = .ok (.astore_n 3, 1) := by decide +kernel
theorem d_La_append_16 : decode method_3_code 16 = .ok (.iconst 2, 1) := by decide +kernel
theorem d_La_append_17 : decode method_3_code 17 = .ok (.ireturn, 1) := by decide +kernel
theorem d_La_append_18 : decode method_3_code 18 = .ok (.iconst 0, 1) := by decide +kernel
theorem d_La_append_19 : decode method_3_code 19 = .ok (.ireturn, 1) := by decide +kernel
theorem d_La_commit_0 : decode method_4_code 0 = .ok (.aload_n 2, 1) := by decide +kernel
theorem d_La_commit_1 : decode method_4_code 1 = .ok (.iconst 0, 1) := by decide +kernel
theorem d_La_commit_2 : decode method_4_code 2 = .ok (.aload_n 0, 1) := by decide +kernel
theorem d_La_commit_3 : decode method_4_code 3 = .ok (.iload_n 1, 1) := by decide +kernel
theorem d_La_commit_4 : decode method_4_code 4 = .ok (.invokevirtual 17, 3) := by decide +kernel
theorem d_La_commit_7 : decode method_4_code 7 = .ok (.i2l, 1) := by decide +kernel
theorem d_La_commit_8 : decode method_4_code 8 = .ok (.lastore, 1) := by decide +kernel
theorem d_La_commit_9 : decode method_4_code 9 = .ok (.goto 9, 3) := by decide +kernel
theorem d_La_commit_12 : decode method_4_code 12 = .ok (.astore_n 3, 1) := by decide +kernel
theorem d_La_commit_13 : decode method_4_code 13 = .ok (.iconst 1, 1) := by decide +kernel
theorem d_La_commit_14 : decode method_4_code 14 = .ok (.ireturn, 1) := by decide +kernel
theorem d_La_commit_15 : decode method_4_code 15 = .ok (.astore_n 3, 1) := by decide +kernel
theorem d_La_commit_16 : decode method_4_code 16 = .ok (.iconst 2, 1) := by decide +kernel
theorem d_La_commit_17 : decode method_4_code 17 = .ok (.ireturn, 1) := by decide +kernel
theorem d_La_commit_18 : decode method_4_code 18 = .ok (.iconst 0, 1) := by decide +kernel
theorem d_La_commit_19 : decode method_4_code 19 = .ok (.ireturn, 1) := by decide +kernel
theorem d_La_flush_0 : decode method_5_code 0 = .ok (.aload_n 2, 1) := by decide +kernel
theorem d_La_flush_1 : decode method_5_code 1 = .ok (.iconst 0, 1) := by decide +kernel
theorem d_La_flush_2 : decode method_5_code 2 = .ok (.aload_n 0, 1) := by decide +kernel
theorem d_La_flush_3 : decode method_5_code 3 = .ok (.iload_n 1, 1) := by decide +kernel
theorem d_La_flush_4 : decode method_5_code 4 = .ok (.invokevirtual 20, 3) := by decide +kernel
theorem d_La_flush_7 : decode method_5_code 7 = .ok (.i2l, 1) := by decide +kernel
theorem d_La_flush_8 : decode method_5_code 8 = .ok (.lastore, 1) := by decide +kernel
theorem d_La_flush_9 : decode method_5_code 9 = .ok (.goto 9, 3) := by decide +kernel
theorem d_La_flush_12 : decode method_5_code 12 = .ok (.astore_n 3, 1) := by decide +kernel
theorem d_La_flush_13 : decode method_5_code 13 = .ok (.iconst 1, 1) := by decide +kernel
theorem d_La_flush_14 : decode method_5_code 14 = .ok (.ireturn, 1) := by decide +kernel
theorem d_La_flush_15 : decode method_5_code 15 = .ok (.astore_n 3, 1) := by decide +kernel
theorem d_La_flush_16 : decode method_5_code 16 = .ok (.iconst 2, 1) := by decide +kernel
theorem d_La_flush_17 : decode method_5_code 17 = .ok (.ireturn, 1) := by decide +kernel
theorem d_La_flush_18 : decode method_5_code 18 = .ok (.iconst 0, 1) := by decide +kernel
theorem d_La_flush_19 : decode method_5_code 19 = .ok (.ireturn, 1) := by decide +kernel
theorem d_La_checkpoint_0 : decode method_6_code 0 = .ok (.aload_n 2, 1) := by decide +kernel
theorem d_La_checkpoint_1 : decode method_6_code 1 = .ok (.iconst 0, 1) := by decide +kernel
theorem d_La_checkpoint_2 : decode method_6_code 2 = .ok (.aload_n 0, 1) := by decide +kernel
theorem d_La_checkpoint_3 : decode method_6_code 3 = .ok (.iload_n 1, 1) := by decide +kernel
theorem d_La_checkpoint_4 : decode method_6_code 4 = .ok (.invokevirtual 25, 3) := by decide +kernel
theorem d_La_checkpoint_7 : decode method_6_code 7 = .ok (.i2l, 1) := by decide +kernel
theorem d_La_checkpoint_8 : decode method_6_code 8 = .ok (.lastore, 1) := by decide +kernel
theorem d_La_checkpoint_9 : decode method_6_code 9 = .ok (.goto 9, 3) := by decide +kernel
theorem d_La_checkpoint_12 : decode method_6_code 12 = .ok (.astore_n 3, 1) := by decide +kernel
theorem d_La_checkpoint_13 : decode method_6_code 13 = .ok (.iconst 1, 1) := by decide +kernel
theorem d_La_checkpoint_14 : decode method_6_code 14 = .ok (.ireturn, 1) := by decide +kernel
theorem d_La_checkpoint_15 : decode method_6_code 15 = .ok (.astore_n 3, 1) := by decide +kernel
theorem d_La_checkpoint_16 : decode method_6_code 16 = .ok (.iconst 2, 1) := by decide +kernel
theorem d_La_checkpoint_17 : decode method_6_code 17 = .ok (.ireturn, 1) := by decide +kernel
theorem d_La_checkpoint_18 : decode method_6_code 18 = .ok (.iconst 0, 1) := by decide +kernel
theorem d_La_checkpoint_19 : decode method_6_code 19 = .ok (.ireturn, 1) := by decide +kernel
theorem d_La_next_0 : decode method_7_code 0 = .ok (.aload_n 1, 1) := by decide +kernel
theorem d_La_next_1 : decode method_7_code 1 = .ok (.iconst 0, 1) := by decide +kernel
theorem d_La_next_2 : decode method_7_code 2 = .ok (.aload_n 0, 1) := by decide +kernel
theorem d_La_next_3 : decode method_7_code 3 = .ok (.invokevirtual 28, 3) := by decide +kernel
theorem d_La_next_6 : decode method_7_code 6 = .ok (.i2l, 1) := by decide +kernel
theorem d_La_next_7 : decode method_7_code 7 = .ok (.lastore, 1) := by decide +kernel
theorem d_La_next_8 : decode method_7_code 8 = .ok (.goto 6, 3) := by decide +kernel
theorem d_La_next_11 : decode method_7_code 11 = .ok (.astore_n 2, 1) := by decide +kernel
theorem d_La_next_12 : decode method_7_code 12 = .ok (.iconst 1, 1) := by decide +kernel
theorem d_La_next_13 : decode method_7_code 13 = .ok (.ireturn, 1) := by decide +kernel
theorem d_La_next_14 : decode method_7_code 14 = .ok (.iconst 0, 1) := by decide +kernel
theorem d_La_next_15 : decode method_7_code 15 = .ok (.ireturn, 1) := by decide +kernel
theorem d_La_charge_0 : decode method_8_code 0 = .ok (.aload_n 0, 1) := by decide +kernel
theorem d_La_charge_1 : decode method_8_code 1 = .ok (.iload_n 1, 1) := by decide +kernel
theorem d_La_charge_2 : decode method_8_code 2 = .ok (.invokevirtual 34, 3) := by decide +kernel
theorem d_La_charge_5 : decode method_8_code 5 = .ok (.goto 6, 3) := by decide +kernel
theorem d_La_charge_8 : decode method_8_code 8 = .ok (.astore_n 2, 1) := by decide +kernel
theorem d_La_charge_9 : decode method_8_code 9 = .ok (.iconst 1, 1) := by decide +kernel
theorem d_La_charge_10 : decode method_8_code 10 = .ok (.ireturn, 1) := by decide +kernel
theorem d_La_charge_11 : decode method_8_code 11 = .ok (.iconst 0, 1) := by decide +kernel
theorem d_La_charge_12 : decode method_8_code 12 = .ok (.ireturn, 1) := by decide +kernel
theorem d_La_law_0 : decode code 0 = .ok (.new 8, 3) := by decide +kernel
theorem d_La_law_3 : decode code 3 = .ok (.dup, 1) := by decide +kernel
theorem d_La_law_4 : decode code 4 = .ok (.aload_n 0, 1) := by decide +kernel
theorem d_La_law_5 : decode code 5 = .ok (.iconst 0, 1) := by decide +kernel
theorem d_La_law_6 : decode code 6 = .ok (.invokestatic 38, 3) := by decide +kernel
theorem d_La_law_9 : decode code 9 = .ok (.invokespecial 44, 3) := by decide +kernel
theorem d_La_law_12 : decode code 12 = .ok (.astore_n 1, 1) := by decide +kernel
theorem d_La_law_13 : decode code 13 = .ok (.new 46, 3) := by decide +kernel
theorem d_La_law_16 : decode code 16 = .ok (.dup, 1) := by decide +kernel
theorem d_La_law_17 : decode code 17 = .ok (.aload_n 0, 1) := by decide +kernel
theorem d_La_law_18 : decode code 18 = .ok (.iconst 0, 1) := by decide +kernel
theorem d_La_law_19 : decode code 19 = .ok (.invokestatic 38, 3) := by decide +kernel
theorem d_La_law_22 : decode code 22 = .ok (.invokespecial 48, 3) := by decide +kernel
theorem d_La_law_25 : decode code 25 = .ok (.astore_n 2, 1) := by decide +kernel
theorem d_La_law_26 : decode code 26 = .ok (.iconst 1, 1) := by decide +kernel
theorem d_La_law_27 : decode code 27 = .ok (.newarray .long, 2) := by decide +kernel
theorem d_La_law_29 : decode code 29 = .ok (.astore_n 3, 1) := by decide +kernel
theorem d_La_law_30 : decode code 30 = .ok (.iconst 1, 1) := by decide +kernel
theorem d_La_law_31 : decode code 31 = .ok (.istore 4, 2) := by decide +kernel
theorem d_La_law_33 : decode code 33 = .ok (.iload 4, 2) := by decide +kernel
theorem d_La_law_35 : decode code 35 = .ok (.aload_n 0, 1) := by decide +kernel
theorem d_La_law_36 : decode code 36 = .ok (.arraylength, 1) := by decide +kernel
theorem d_La_law_37 : decode code 37 = .ok (.iconst 4, 1) := by decide +kernel
theorem d_La_law_38 : decode code 38 = .ok (.isub, 1) := by decide +kernel
theorem d_La_law_39 : decode code 39 = .ok (.if_icmp .gt 628, 3) := by decide +kernel
theorem d_La_law_42 : decode code 42 = .ok (.aload_n 0, 1) := by decide +kernel
theorem d_La_law_43 : decode code 43 = .ok (.iload 4, 2) := by decide +kernel
theorem d_La_law_45 : decode code 45 = .ok (.iaload, 1) := by decide +kernel
theorem d_La_law_46 : decode code 46 = .ok (.bipush 15, 2) := by decide +kernel
theorem d_La_law_48 : decode code 48 = .ok (.iand, 1) := by decide +kernel
theorem d_La_law_49 : decode code 49 = .ok (.tableswitch 612 0 14 #[75, 144, 181, 237, 293, 349, 362, 387, 400, 456, 469, 513, 526, 551, 587], 75) := by decide +kernel
theorem d_La_law_124 : decode code 124 = .ok (.aload_n 1, 1) := by decide +kernel
theorem d_La_law_125 : decode code 125 = .ok (.aload_n 0, 1) := by decide +kernel
theorem d_La_law_126 : decode code 126 = .ok (.iload 4, 2) := by decide +kernel
theorem d_La_law_128 : decode code 128 = .ok (.iconst 1, 1) := by decide +kernel
theorem d_La_law_129 : decode code 129 = .ok (.iadd, 1) := by decide +kernel
theorem d_La_law_130 : decode code 130 = .ok (.iaload, 1) := by decide +kernel
theorem d_La_law_131 : decode code 131 = .ok (.i2l, 1) := by decide +kernel
theorem d_La_law_132 : decode code 132 = .ok (.bipush 32, 2) := by decide +kernel
theorem d_La_law_134 : decode code 134 = .ok (.lshl, 1) := by decide +kernel
theorem d_La_law_135 : decode code 135 = .ok (.aload_n 0, 1) := by decide +kernel
theorem d_La_law_136 : decode code 136 = .ok (.iload 4, 2) := by decide +kernel
theorem d_La_law_138 : decode code 138 = .ok (.iconst 2, 1) := by decide +kernel
theorem d_La_law_139 : decode code 139 = .ok (.iadd, 1) := by decide +kernel
theorem d_La_law_140 : decode code 140 = .ok (.iaload, 1) := by decide +kernel
theorem d_La_law_141 : decode code 141 = .ok (.i2l, 1) := by decide +kernel
theorem d_La_law_142 : decode code 142 = .ok (.ldc2_w 49, 3) := by decide +kernel
theorem d_La_law_145 : decode code 145 = .ok (.land, 1) := by decide +kernel
theorem d_La_law_146 : decode code 146 = .ok (.lor, 1) := by decide +kernel
theorem d_La_law_147 : decode code 147 = .ok (.aload_n 0, 1) := by decide +kernel
theorem d_La_law_148 : decode code 148 = .ok (.iload 4, 2) := by decide +kernel
theorem d_La_law_150 : decode code 150 = .ok (.iconst 3, 1) := by decide +kernel
theorem d_La_law_151 : decode code 151 = .ok (.iadd, 1) := by decide +kernel
theorem d_La_law_152 : decode code 152 = .ok (.iaload, 1) := by decide +kernel
theorem d_La_law_153 : decode code 153 = .ok (.invokevirtual 51, 3) := by decide +kernel
theorem d_La_law_156 : decode code 156 = .ok (.aload_n 2, 1) := by decide +kernel
theorem d_La_law_157 : decode code 157 = .ok (.aload_n 0, 1) := by decide +kernel
theorem d_La_law_158 : decode code 158 = .ok (.iload 4, 2) := by decide +kernel
theorem d_La_law_160 : decode code 160 = .ok (.iconst 1, 1) := by decide +kernel
theorem d_La_law_161 : decode code 161 = .ok (.iadd, 1) := by decide +kernel
theorem d_La_law_162 : decode code 162 = .ok (.iaload, 1) := by decide +kernel
theorem d_La_law_163 : decode code 163 = .ok (.i2l, 1) := by decide +kernel
theorem d_La_law_164 : decode code 164 = .ok (.bipush 32, 2) := by decide +kernel
theorem d_La_law_166 : decode code 166 = .ok (.lshl, 1) := by decide +kernel
theorem d_La_law_167 : decode code 167 = .ok (.aload_n 0, 1) := by decide +kernel
theorem d_La_law_168 : decode code 168 = .ok (.iload 4, 2) := by decide +kernel
theorem d_La_law_170 : decode code 170 = .ok (.iconst 2, 1) := by decide +kernel
theorem d_La_law_171 : decode code 171 = .ok (.iadd, 1) := by decide +kernel
theorem d_La_law_172 : decode code 172 = .ok (.iaload, 1) := by decide +kernel
theorem d_La_law_173 : decode code 173 = .ok (.i2l, 1) := by decide +kernel
theorem d_La_law_174 : decode code 174 = .ok (.ldc2_w 49, 3) := by decide +kernel
theorem d_La_law_177 : decode code 177 = .ok (.land, 1) := by decide +kernel
theorem d_La_law_178 : decode code 178 = .ok (.lor, 1) := by decide +kernel
theorem d_La_law_179 : decode code 179 = .ok (.aload_n 0, 1) := by decide +kernel
theorem d_La_law_180 : decode code 180 = .ok (.iload 4, 2) := by decide +kernel
theorem d_La_law_182 : decode code 182 = .ok (.iconst 3, 1) := by decide +kernel
theorem d_La_law_183 : decode code 183 = .ok (.iadd, 1) := by decide +kernel
theorem d_La_law_184 : decode code 184 = .ok (.iaload, 1) := by decide +kernel
theorem d_La_law_185 : decode code 185 = .ok (.invokevirtual 55, 3) := by decide +kernel
theorem d_La_law_188 : decode code 188 = .ok (.if_icmp .eq 473, 3) := by decide +kernel
theorem d_La_law_191 : decode code 191 = .ok (.iconst 0, 1) := by decide +kernel
theorem d_La_law_192 : decode code 192 = .ok (.ireturn, 1) := by decide +kernel
theorem d_La_law_193 : decode code 193 = .ok (.aload_n 1, 1) := by decide +kernel
theorem d_La_law_194 : decode code 194 = .ok (.aload_n 0, 1) := by decide +kernel
theorem d_La_law_195 : decode code 195 = .ok (.iload 4, 2) := by decide +kernel
theorem d_La_law_197 : decode code 197 = .ok (.iconst 1, 1) := by decide +kernel
theorem d_La_law_198 : decode code 198 = .ok (.iadd, 1) := by decide +kernel
theorem d_La_law_199 : decode code 199 = .ok (.iaload, 1) := by decide +kernel
theorem d_La_law_200 : decode code 200 = .ok (.aload_n 0, 1) := by decide +kernel
theorem d_La_law_201 : decode code 201 = .ok (.iload 4, 2) := by decide +kernel
theorem d_La_law_203 : decode code 203 = .ok (.iconst 2, 1) := by decide +kernel
theorem d_La_law_204 : decode code 204 = .ok (.iadd, 1) := by decide +kernel
theorem d_La_law_205 : decode code 205 = .ok (.iaload, 1) := by decide +kernel
theorem d_La_law_206 : decode code 206 = .ok (.invokevirtual 56, 3) := by decide +kernel
theorem d_La_law_209 : decode code 209 = .ok (.aload_n 2, 1) := by decide +kernel
theorem d_La_law_210 : decode code 210 = .ok (.aload_n 0, 1) := by decide +kernel
theorem d_La_law_211 : decode code 211 = .ok (.iload 4, 2) := by decide +kernel
theorem d_La_law_213 : decode code 213 = .ok (.iconst 1, 1) := by decide +kernel
theorem d_La_law_214 : decode code 214 = .ok (.iadd, 1) := by decide +kernel
theorem d_La_law_215 : decode code 215 = .ok (.iaload, 1) := by decide +kernel
theorem d_La_law_216 : decode code 216 = .ok (.aload_n 0, 1) := by decide +kernel
theorem d_La_law_217 : decode code 217 = .ok (.iload 4, 2) := by decide +kernel
theorem d_La_law_219 : decode code 219 = .ok (.iconst 2, 1) := by decide +kernel
theorem d_La_law_220 : decode code 220 = .ok (.iadd, 1) := by decide +kernel
theorem d_La_law_221 : decode code 221 = .ok (.iaload, 1) := by decide +kernel
theorem d_La_law_222 : decode code 222 = .ok (.invokevirtual 60, 3) := by decide +kernel
theorem d_La_law_225 : decode code 225 = .ok (.if_icmp .eq 436, 3) := by decide +kernel
theorem d_La_law_228 : decode code 228 = .ok (.iconst 0, 1) := by decide +kernel
theorem d_La_law_229 : decode code 229 = .ok (.ireturn, 1) := by decide +kernel
theorem d_La_law_230 : decode code 230 = .ok (.aload_n 1, 1) := by decide +kernel
theorem d_La_law_231 : decode code 231 = .ok (.aload_n 0, 1) := by decide +kernel
theorem d_La_law_232 : decode code 232 = .ok (.iload 4, 2) := by decide +kernel
theorem d_La_law_234 : decode code 234 = .ok (.iconst 1, 1) := by decide +kernel
theorem d_La_law_235 : decode code 235 = .ok (.iadd, 1) := by decide +kernel
theorem d_La_law_236 : decode code 236 = .ok (.iaload, 1) := by decide +kernel
theorem d_La_law_237 : decode code 237 = .ok (.aload_n 3, 1) := by decide +kernel
theorem d_La_law_238 : decode code 238 = .ok (.invokestatic 61, 3) := by decide +kernel
theorem d_La_law_241 : decode code 241 = .ok (.istore 5, 2) := by decide +kernel
theorem d_La_law_243 : decode code 243 = .ok (.aload_n 2, 1) := by decide +kernel
theorem d_La_law_244 : decode code 244 = .ok (.aload_n 0, 1) := by decide +kernel
theorem d_La_law_245 : decode code 245 = .ok (.iload 4, 2) := by decide +kernel
theorem d_La_law_247 : decode code 247 = .ok (.iconst 1, 1) := by decide +kernel
theorem d_La_law_248 : decode code 248 = .ok (.iadd, 1) := by decide +kernel
theorem d_La_law_249 : decode code 249 = .ok (.iaload, 1) := by decide +kernel
theorem d_La_law_250 : decode code 250 = .ok (.invokevirtual 64, 3) := by decide +kernel
theorem d_La_law_253 : decode code 253 = .ok (.istore 6, 2) := by decide +kernel
theorem d_La_law_255 : decode code 255 = .ok (.aload_n 2, 1) := by decide +kernel
theorem d_La_law_256 : decode code 256 = .ok (.invokevirtual 65, 3) := by decide +kernel
theorem d_La_law_259 : decode code 259 = .ok (.iload 5, 2) := by decide +kernel
theorem d_La_law_261 : decode code 261 = .ok (.if_icmp .eq 5, 3) := by decide +kernel
theorem d_La_law_264 : decode code 264 = .ok (.iconst 0, 1) := by decide +kernel
theorem d_La_law_265 : decode code 265 = .ok (.ireturn, 1) := by decide +kernel
theorem d_La_law_266 : decode code 266 = .ok (.iload 5, 2) := by decide +kernel
theorem d_La_law_268 : decode code 268 = .ok (.ifCond .ne 15, 3) := by decide +kernel
theorem d_La_law_271 : decode code 271 = .ok (.aload_n 3, 1) := by decide +kernel
theorem d_La_law_272 : decode code 272 = .ok (.iconst 0, 1) := by decide +kernel
theorem d_La_law_273 : decode code 273 = .ok (.laload, 1) := by decide +kernel
theorem d_La_law_274 : decode code 274 = .ok (.iload 6, 2) := by decide +kernel
theorem d_La_law_276 : decode code 276 = .ok (.i2l, 1) := by decide +kernel
theorem d_La_law_277 : decode code 277 = .ok (.lcmp, 1) := by decide +kernel
theorem d_La_law_278 : decode code 278 = .ok (.ifCond .eq 5, 3) := by decide +kernel
theorem d_La_law_281 : decode code 281 = .ok (.iconst 0, 1) := by decide +kernel
theorem d_La_law_282 : decode code 282 = .ok (.ireturn, 1) := by decide +kernel
theorem d_La_law_283 : decode code 283 = .ok (.goto 378, 3) := by decide +kernel
theorem d_La_law_286 : decode code 286 = .ok (.aload_n 1, 1) := by decide +kernel
theorem d_La_law_287 : decode code 287 = .ok (.aload_n 0, 1) := by decide +kernel
theorem d_La_law_288 : decode code 288 = .ok (.iload 4, 2) := by decide +kernel
theorem d_La_law_290 : decode code 290 = .ok (.iconst 1, 1) := by decide +kernel
theorem d_La_law_291 : decode code 291 = .ok (.iadd, 1) := by decide +kernel
theorem d_La_law_292 : decode code 292 = .ok (.iaload, 1) := by decide +kernel
theorem d_La_law_293 : decode code 293 = .ok (.aload_n 3, 1) := by decide +kernel
theorem d_La_law_294 : decode code 294 = .ok (.invokestatic 68, 3) := by decide +kernel
theorem d_La_law_297 : decode code 297 = .ok (.istore 5, 2) := by decide +kernel
theorem d_La_law_299 : decode code 299 = .ok (.aload_n 2, 1) := by decide +kernel
theorem d_La_law_300 : decode code 300 = .ok (.aload_n 0, 1) := by decide +kernel
theorem d_La_law_301 : decode code 301 = .ok (.iload 4, 2) := by decide +kernel
theorem d_La_law_303 : decode code 303 = .ok (.iconst 1, 1) := by decide +kernel
theorem d_La_law_304 : decode code 304 = .ok (.iadd, 1) := by decide +kernel
theorem d_La_law_305 : decode code 305 = .ok (.iaload, 1) := by decide +kernel
theorem d_La_law_306 : decode code 306 = .ok (.invokevirtual 70, 3) := by decide +kernel
theorem d_La_law_309 : decode code 309 = .ok (.istore 6, 2) := by decide +kernel
theorem d_La_law_311 : decode code 311 = .ok (.aload_n 2, 1) := by decide +kernel
theorem d_La_law_312 : decode code 312 = .ok (.invokevirtual 65, 3) := by decide +kernel
theorem d_La_law_315 : decode code 315 = .ok (.iload 5, 2) := by decide +kernel
theorem d_La_law_317 : decode code 317 = .ok (.if_icmp .eq 5, 3) := by decide +kernel
theorem d_La_law_320 : decode code 320 = .ok (.iconst 0, 1) := by decide +kernel
theorem d_La_law_321 : decode code 321 = .ok (.ireturn, 1) := by decide +kernel
theorem d_La_law_322 : decode code 322 = .ok (.iload 5, 2) := by decide +kernel
theorem d_La_law_324 : decode code 324 = .ok (.ifCond .ne 15, 3) := by decide +kernel
theorem d_La_law_327 : decode code 327 = .ok (.aload_n 3, 1) := by decide +kernel
theorem d_La_law_328 : decode code 328 = .ok (.iconst 0, 1) := by decide +kernel
theorem d_La_law_329 : decode code 329 = .ok (.laload, 1) := by decide +kernel
theorem d_La_law_330 : decode code 330 = .ok (.iload 6, 2) := by decide +kernel
theorem d_La_law_332 : decode code 332 = .ok (.i2l, 1) := by decide +kernel
theorem d_La_law_333 : decode code 333 = .ok (.lcmp, 1) := by decide +kernel
theorem d_La_law_334 : decode code 334 = .ok (.ifCond .eq 5, 3) := by decide +kernel
theorem d_La_law_337 : decode code 337 = .ok (.iconst 0, 1) := by decide +kernel
theorem d_La_law_338 : decode code 338 = .ok (.ireturn, 1) := by decide +kernel
theorem d_La_law_339 : decode code 339 = .ok (.goto 322, 3) := by decide +kernel
theorem d_La_law_342 : decode code 342 = .ok (.aload_n 1, 1) := by decide +kernel
theorem d_La_law_343 : decode code 343 = .ok (.aload_n 0, 1) := by decide +kernel
theorem d_La_law_344 : decode code 344 = .ok (.iload 4, 2) := by decide +kernel
theorem d_La_law_346 : decode code 346 = .ok (.iconst 1, 1) := by decide +kernel
theorem d_La_law_347 : decode code 347 = .ok (.iadd, 1) := by decide +kernel
theorem d_La_law_348 : decode code 348 = .ok (.iaload, 1) := by decide +kernel
theorem d_La_law_349 : decode code 349 = .ok (.aload_n 3, 1) := by decide +kernel
theorem d_La_law_350 : decode code 350 = .ok (.invokestatic 71, 3) := by decide +kernel
theorem d_La_law_353 : decode code 353 = .ok (.istore 5, 2) := by decide +kernel
theorem d_La_law_355 : decode code 355 = .ok (.aload_n 2, 1) := by decide +kernel
theorem d_La_law_356 : decode code 356 = .ok (.aload_n 0, 1) := by decide +kernel
theorem d_La_law_357 : decode code 357 = .ok (.iload 4, 2) := by decide +kernel
theorem d_La_law_359 : decode code 359 = .ok (.iconst 1, 1) := by decide +kernel
theorem d_La_law_360 : decode code 360 = .ok (.iadd, 1) := by decide +kernel
theorem d_La_law_361 : decode code 361 = .ok (.iaload, 1) := by decide +kernel
theorem d_La_law_362 : decode code 362 = .ok (.invokevirtual 73, 3) := by decide +kernel
theorem d_La_law_365 : decode code 365 = .ok (.istore 6, 2) := by decide +kernel
theorem d_La_law_367 : decode code 367 = .ok (.aload_n 2, 1) := by decide +kernel
theorem d_La_law_368 : decode code 368 = .ok (.invokevirtual 65, 3) := by decide +kernel
theorem d_La_law_371 : decode code 371 = .ok (.iload 5, 2) := by decide +kernel
theorem d_La_law_373 : decode code 373 = .ok (.if_icmp .eq 5, 3) := by decide +kernel
theorem d_La_law_376 : decode code 376 = .ok (.iconst 0, 1) := by decide +kernel
theorem d_La_law_377 : decode code 377 = .ok (.ireturn, 1) := by decide +kernel
theorem d_La_law_378 : decode code 378 = .ok (.iload 5, 2) := by decide +kernel
theorem d_La_law_380 : decode code 380 = .ok (.ifCond .ne 15, 3) := by decide +kernel
theorem d_La_law_383 : decode code 383 = .ok (.aload_n 3, 1) := by decide +kernel
theorem d_La_law_384 : decode code 384 = .ok (.iconst 0, 1) := by decide +kernel
theorem d_La_law_385 : decode code 385 = .ok (.laload, 1) := by decide +kernel
theorem d_La_law_386 : decode code 386 = .ok (.iload 6, 2) := by decide +kernel
theorem d_La_law_388 : decode code 388 = .ok (.i2l, 1) := by decide +kernel
theorem d_La_law_389 : decode code 389 = .ok (.lcmp, 1) := by decide +kernel
theorem d_La_law_390 : decode code 390 = .ok (.ifCond .eq 5, 3) := by decide +kernel
theorem d_La_law_393 : decode code 393 = .ok (.iconst 0, 1) := by decide +kernel
theorem d_La_law_394 : decode code 394 = .ok (.ireturn, 1) := by decide +kernel
theorem d_La_law_395 : decode code 395 = .ok (.goto 266, 3) := by decide +kernel
theorem d_La_law_398 : decode code 398 = .ok (.aload_n 1, 1) := by decide +kernel
theorem d_La_law_399 : decode code 399 = .ok (.invokevirtual 74, 3) := by decide +kernel
theorem d_La_law_402 : decode code 402 = .ok (.aload_n 2, 1) := by decide +kernel
theorem d_La_law_403 : decode code 403 = .ok (.invokevirtual 77, 3) := by decide +kernel
theorem d_La_law_406 : decode code 406 = .ok (.if_icmp .eq 255, 3) := by decide +kernel
theorem d_La_law_409 : decode code 409 = .ok (.iconst 0, 1) := by decide +kernel
theorem d_La_law_410 : decode code 410 = .ok (.ireturn, 1) := by decide +kernel
theorem d_La_law_411 : decode code 411 = .ok (.aload_n 1, 1) := by decide +kernel
theorem d_La_law_412 : decode code 412 = .ok (.aload_n 0, 1) := by decide +kernel
theorem d_La_law_413 : decode code 413 = .ok (.iload 4, 2) := by decide +kernel
theorem d_La_law_415 : decode code 415 = .ok (.iconst 1, 1) := by decide +kernel
theorem d_La_law_416 : decode code 416 = .ok (.iadd, 1) := by decide +kernel
theorem d_La_law_417 : decode code 417 = .ok (.iaload, 1) := by decide +kernel
theorem d_La_law_418 : decode code 418 = .ok (.invokevirtual 78, 3) := by decide +kernel
theorem d_La_law_421 : decode code 421 = .ok (.aload_n 2, 1) := by decide +kernel
theorem d_La_law_422 : decode code 422 = .ok (.aload_n 0, 1) := by decide +kernel
theorem d_La_law_423 : decode code 423 = .ok (.iload 4, 2) := by decide +kernel
theorem d_La_law_425 : decode code 425 = .ok (.iconst 1, 1) := by decide +kernel
theorem d_La_law_426 : decode code 426 = .ok (.iadd, 1) := by decide +kernel
theorem d_La_law_427 : decode code 427 = .ok (.iaload, 1) := by decide +kernel
theorem d_La_law_428 : decode code 428 = .ok (.invokevirtual 82, 3) := by decide +kernel
theorem d_La_law_431 : decode code 431 = .ok (.if_icmp .eq 230, 3) := by decide +kernel
theorem d_La_law_434 : decode code 434 = .ok (.iconst 0, 1) := by decide +kernel
theorem d_La_law_435 : decode code 435 = .ok (.ireturn, 1) := by decide +kernel
theorem d_La_law_436 : decode code 436 = .ok (.aload_n 1, 1) := by decide +kernel
theorem d_La_law_437 : decode code 437 = .ok (.invokevirtual 83, 3) := by decide +kernel
theorem d_La_law_440 : decode code 440 = .ok (.aload_n 2, 1) := by decide +kernel
theorem d_La_law_441 : decode code 441 = .ok (.invokevirtual 86, 3) := by decide +kernel
theorem d_La_law_444 : decode code 444 = .ok (.if_icmp .eq 217, 3) := by decide +kernel
theorem d_La_law_447 : decode code 447 = .ok (.iconst 0, 1) := by decide +kernel
theorem d_La_law_448 : decode code 448 = .ok (.ireturn, 1) := by decide +kernel
theorem d_La_law_449 : decode code 449 = .ok (.aload_n 1, 1) := by decide +kernel
theorem d_La_law_450 : decode code 450 = .ok (.aload_n 0, 1) := by decide +kernel
theorem d_La_law_451 : decode code 451 = .ok (.iload 4, 2) := by decide +kernel
theorem d_La_law_453 : decode code 453 = .ok (.iconst 1, 1) := by decide +kernel
theorem d_La_law_454 : decode code 454 = .ok (.iadd, 1) := by decide +kernel
theorem d_La_law_455 : decode code 455 = .ok (.iaload, 1) := by decide +kernel
theorem d_La_law_456 : decode code 456 = .ok (.aload_n 3, 1) := by decide +kernel
theorem d_La_law_457 : decode code 457 = .ok (.invokestatic 87, 3) := by decide +kernel
theorem d_La_law_460 : decode code 460 = .ok (.istore 5, 2) := by decide +kernel
theorem d_La_law_462 : decode code 462 = .ok (.aload_n 2, 1) := by decide +kernel
theorem d_La_law_463 : decode code 463 = .ok (.aload_n 0, 1) := by decide +kernel
theorem d_La_law_464 : decode code 464 = .ok (.iload 4, 2) := by decide +kernel
theorem d_La_law_466 : decode code 466 = .ok (.iconst 1, 1) := by decide +kernel
theorem d_La_law_467 : decode code 467 = .ok (.iadd, 1) := by decide +kernel
theorem d_La_law_468 : decode code 468 = .ok (.iaload, 1) := by decide +kernel
theorem d_La_law_469 : decode code 469 = .ok (.invokevirtual 89, 3) := by decide +kernel
theorem d_La_law_472 : decode code 472 = .ok (.istore 6, 2) := by decide +kernel
theorem d_La_law_474 : decode code 474 = .ok (.aload_n 2, 1) := by decide +kernel
theorem d_La_law_475 : decode code 475 = .ok (.invokevirtual 65, 3) := by decide +kernel
theorem d_La_law_478 : decode code 478 = .ok (.iload 5, 2) := by decide +kernel
theorem d_La_law_480 : decode code 480 = .ok (.if_icmp .eq 5, 3) := by decide +kernel
theorem d_La_law_483 : decode code 483 = .ok (.iconst 0, 1) := by decide +kernel
theorem d_La_law_484 : decode code 484 = .ok (.ireturn, 1) := by decide +kernel
theorem d_La_law_485 : decode code 485 = .ok (.iload 5, 2) := by decide +kernel
theorem d_La_law_487 : decode code 487 = .ok (.ifCond .ne 15, 3) := by decide +kernel
theorem d_La_law_490 : decode code 490 = .ok (.aload_n 3, 1) := by decide +kernel
theorem d_La_law_491 : decode code 491 = .ok (.iconst 0, 1) := by decide +kernel
theorem d_La_law_492 : decode code 492 = .ok (.laload, 1) := by decide +kernel
theorem d_La_law_493 : decode code 493 = .ok (.iload 6, 2) := by decide +kernel
theorem d_La_law_495 : decode code 495 = .ok (.i2l, 1) := by decide +kernel
theorem d_La_law_496 : decode code 496 = .ok (.lcmp, 1) := by decide +kernel
theorem d_La_law_497 : decode code 497 = .ok (.ifCond .eq 5, 3) := by decide +kernel
theorem d_La_law_500 : decode code 500 = .ok (.iconst 0, 1) := by decide +kernel
theorem d_La_law_501 : decode code 501 = .ok (.ireturn, 1) := by decide +kernel
theorem d_La_law_502 : decode code 502 = .ok (.goto 159, 3) := by decide +kernel
theorem d_La_law_505 : decode code 505 = .ok (.aload_n 1, 1) := by decide +kernel
theorem d_La_law_506 : decode code 506 = .ok (.invokevirtual 90, 3) := by decide +kernel
theorem d_La_law_509 : decode code 509 = .ok (.aload_n 2, 1) := by decide +kernel
theorem d_La_law_510 : decode code 510 = .ok (.invokevirtual 93, 3) := by decide +kernel
theorem d_La_law_513 : decode code 513 = .ok (.if_icmp .eq 148, 3) := by decide +kernel
theorem d_La_law_516 : decode code 516 = .ok (.iconst 0, 1) := by decide +kernel
theorem d_La_law_517 : decode code 517 = .ok (.ireturn, 1) := by decide +kernel
theorem d_La_law_518 : decode code 518 = .ok (.aload_n 1, 1) := by decide +kernel
theorem d_La_law_519 : decode code 519 = .ok (.aload_n 3, 1) := by decide +kernel
theorem d_La_law_520 : decode code 520 = .ok (.invokestatic 94, 3) := by decide +kernel
theorem d_La_law_523 : decode code 523 = .ok (.istore 5, 2) := by decide +kernel
theorem d_La_law_525 : decode code 525 = .ok (.aload_n 2, 1) := by decide +kernel
theorem d_La_law_526 : decode code 526 = .ok (.invokevirtual 97, 3) := by decide +kernel
theorem d_La_law_529 : decode code 529 = .ok (.istore 6, 2) := by decide +kernel
theorem d_La_law_531 : decode code 531 = .ok (.aload_n 2, 1) := by decide +kernel
theorem d_La_law_532 : decode code 532 = .ok (.invokevirtual 65, 3) := by decide +kernel
theorem d_La_law_535 : decode code 535 = .ok (.iload 5, 2) := by decide +kernel
theorem d_La_law_537 : decode code 537 = .ok (.if_icmp .eq 5, 3) := by decide +kernel
theorem d_La_law_540 : decode code 540 = .ok (.iconst 0, 1) := by decide +kernel
theorem d_La_law_541 : decode code 541 = .ok (.ireturn, 1) := by decide +kernel
theorem d_La_law_542 : decode code 542 = .ok (.iload 5, 2) := by decide +kernel
theorem d_La_law_544 : decode code 544 = .ok (.ifCond .ne 15, 3) := by decide +kernel
theorem d_La_law_547 : decode code 547 = .ok (.aload_n 3, 1) := by decide +kernel
theorem d_La_law_548 : decode code 548 = .ok (.iconst 0, 1) := by decide +kernel
theorem d_La_law_549 : decode code 549 = .ok (.laload, 1) := by decide +kernel
theorem d_La_law_550 : decode code 550 = .ok (.iload 6, 2) := by decide +kernel
theorem d_La_law_552 : decode code 552 = .ok (.i2l, 1) := by decide +kernel
theorem d_La_law_553 : decode code 553 = .ok (.lcmp, 1) := by decide +kernel
theorem d_La_law_554 : decode code 554 = .ok (.ifCond .eq 5, 3) := by decide +kernel
theorem d_La_law_557 : decode code 557 = .ok (.iconst 0, 1) := by decide +kernel
theorem d_La_law_558 : decode code 558 = .ok (.ireturn, 1) := by decide +kernel
theorem d_La_law_559 : decode code 559 = .ok (.goto 102, 3) := by decide +kernel
theorem d_La_law_562 : decode code 562 = .ok (.aload_n 1, 1) := by decide +kernel
theorem d_La_law_563 : decode code 563 = .ok (.invokevirtual 98, 3) := by decide +kernel
theorem d_La_law_566 : decode code 566 = .ok (.aload_n 2, 1) := by decide +kernel
theorem d_La_law_567 : decode code 567 = .ok (.invokevirtual 101, 3) := by decide +kernel
theorem d_La_law_570 : decode code 570 = .ok (.if_icmp .eq 91, 3) := by decide +kernel
theorem d_La_law_573 : decode code 573 = .ok (.iconst 0, 1) := by decide +kernel
theorem d_La_law_574 : decode code 574 = .ok (.ireturn, 1) := by decide +kernel
theorem d_La_law_575 : decode code 575 = .ok (.aload_n 1, 1) := by decide +kernel
theorem d_La_law_576 : decode code 576 = .ok (.aload_n 0, 1) := by decide +kernel
theorem d_La_law_577 : decode code 577 = .ok (.iload 4, 2) := by decide +kernel
theorem d_La_law_579 : decode code 579 = .ok (.iconst 1, 1) := by decide +kernel
theorem d_La_law_580 : decode code 580 = .ok (.iadd, 1) := by decide +kernel
theorem d_La_law_581 : decode code 581 = .ok (.iaload, 1) := by decide +kernel
theorem d_La_law_582 : decode code 582 = .ok (.invokevirtual 102, 3) := by decide +kernel
theorem d_La_law_585 : decode code 585 = .ok (.aload_n 2, 1) := by decide +kernel
theorem d_La_law_586 : decode code 586 = .ok (.aload_n 0, 1) := by decide +kernel
theorem d_La_law_587 : decode code 587 = .ok (.iload 4, 2) := by decide +kernel
theorem d_La_law_589 : decode code 589 = .ok (.iconst 1, 1) := by decide +kernel
theorem d_La_law_590 : decode code 590 = .ok (.iadd, 1) := by decide +kernel
theorem d_La_law_591 : decode code 591 = .ok (.iaload, 1) := by decide +kernel
theorem d_La_law_592 : decode code 592 = .ok (.invokevirtual 105, 3) := by decide +kernel
theorem d_La_law_595 : decode code 595 = .ok (.if_icmp .eq 66, 3) := by decide +kernel
theorem d_La_law_598 : decode code 598 = .ok (.iconst 0, 1) := by decide +kernel
theorem d_La_law_599 : decode code 599 = .ok (.ireturn, 1) := by decide +kernel
theorem d_La_law_600 : decode code 600 = .ok (.aload_n 1, 1) := by decide +kernel
theorem d_La_law_601 : decode code 601 = .ok (.aload_n 0, 1) := by decide +kernel
theorem d_La_law_602 : decode code 602 = .ok (.iload 4, 2) := by decide +kernel
theorem d_La_law_604 : decode code 604 = .ok (.iconst 1, 1) := by decide +kernel
theorem d_La_law_605 : decode code 605 = .ok (.iadd, 1) := by decide +kernel
theorem d_La_law_606 : decode code 606 = .ok (.iaload, 1) := by decide +kernel
theorem d_La_law_607 : decode code 607 = .ok (.invokestatic 106, 3) := by decide +kernel
theorem d_La_law_610 : decode code 610 = .ok (.istore 5, 2) := by decide +kernel
theorem d_La_law_612 : decode code 612 = .ok (.aload_n 2, 1) := by decide +kernel
theorem d_La_law_613 : decode code 613 = .ok (.aload_n 0, 1) := by decide +kernel
theorem d_La_law_614 : decode code 614 = .ok (.iload 4, 2) := by decide +kernel
theorem d_La_law_616 : decode code 616 = .ok (.iconst 1, 1) := by decide +kernel
theorem d_La_law_617 : decode code 617 = .ok (.iadd, 1) := by decide +kernel
theorem d_La_law_618 : decode code 618 = .ok (.iaload, 1) := by decide +kernel
theorem d_La_law_619 : decode code 619 = .ok (.invokevirtual 109, 3) := by decide +kernel
theorem d_La_law_622 : decode code 622 = .ok (.aload_n 2, 1) := by decide +kernel
theorem d_La_law_623 : decode code 623 = .ok (.invokevirtual 65, 3) := by decide +kernel
theorem d_La_law_626 : decode code 626 = .ok (.iload 5, 2) := by decide +kernel
theorem d_La_law_628 : decode code 628 = .ok (.if_icmp .eq 5, 3) := by decide +kernel
theorem d_La_law_631 : decode code 631 = .ok (.iconst 0, 1) := by decide +kernel
theorem d_La_law_632 : decode code 632 = .ok (.ireturn, 1) := by decide +kernel
theorem d_La_law_633 : decode code 633 = .ok (.goto 28, 3) := by decide +kernel
theorem d_La_law_636 : decode code 636 = .ok (.aload_n 1, 1) := by decide +kernel
theorem d_La_law_637 : decode code 637 = .ok (.aload_n 0, 1) := by decide +kernel
theorem d_La_law_638 : decode code 638 = .ok (.iload 4, 2) := by decide +kernel
theorem d_La_law_640 : decode code 640 = .ok (.iconst 1, 1) := by decide +kernel
theorem d_La_law_641 : decode code 641 = .ok (.iadd, 1) := by decide +kernel
theorem d_La_law_642 : decode code 642 = .ok (.iaload, 1) := by decide +kernel
theorem d_La_law_643 : decode code 643 = .ok (.invokevirtual 110, 3) := by decide +kernel
theorem d_La_law_646 : decode code 646 = .ok (.aload_n 2, 1) := by decide +kernel
theorem d_La_law_647 : decode code 647 = .ok (.aload_n 0, 1) := by decide +kernel
theorem d_La_law_648 : decode code 648 = .ok (.iload 4, 2) := by decide +kernel
theorem d_La_law_650 : decode code 650 = .ok (.iconst 1, 1) := by decide +kernel
theorem d_La_law_651 : decode code 651 = .ok (.iadd, 1) := by decide +kernel
theorem d_La_law_652 : decode code 652 = .ok (.iaload, 1) := by decide +kernel
theorem d_La_law_653 : decode code 653 = .ok (.invokevirtual 113, 3) := by decide +kernel
theorem d_La_law_656 : decode code 656 = .ok (.if_icmp .eq 5, 3) := by decide +kernel
theorem d_La_law_659 : decode code 659 = .ok (.iconst 0, 1) := by decide +kernel
theorem d_La_law_660 : decode code 660 = .ok (.ireturn, 1) := by decide +kernel
theorem d_La_law_661 : decode code 661 = .ok (.iinc 4 4, 3) := by decide +kernel
theorem d_La_law_664 : decode code 664 = .ok (.goto (-631), 3) := by decide +kernel
theorem d_La_law_667 : decode code 667 = .ok (.iconst 1, 1) := by decide +kernel
theorem d_La_law_668 : decode code 668 = .ok (.ireturn, 1) := by decide +kernel
