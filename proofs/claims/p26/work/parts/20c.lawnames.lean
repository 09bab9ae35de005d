theorem dL_cell_0 : decode cL_cell 0 = .ok (.iload_n 1, 1) := by decide +kernel
theorem dL_cell_1 : decode cL_cell 1 = .ok (.aload_n 0, 1) := by decide +kernel
theorem dL_cell_2 : decode cL_cell 2 = .ok (.arraylength, 1) := by decide +kernel
theorem dL_cell_3 : decode cL_cell 3 = .ok (.if_icmp .ge 9, 3) := by decide +kernel
theorem dL_cell_6 : decode cL_cell 6 = .ok (.aload_n 0, 1) := by decide +kernel
theorem dL_cell_7 : decode cL_cell 7 = .ok (.iload_n 1, 1) := by decide +kernel
theorem dL_cell_8 : decode cL_cell 8 = .ok (.iaload, 1) := by decide +kernel
theorem dL_cell_9 : decode cL_cell 9 = .ok (.goto 11, 3) := by decide +kernel
theorem dL_cell_12 : decode cL_cell 12 = .ok (.sipush 25033, 3) := by decide +kernel
theorem dL_cell_15 : decode cL_cell 15 = .ok (.iload_n 1, 1) := by decide +kernel
theorem dL_cell_16 : decode cL_cell 16 = .ok (.bipush 21, 2) := by decide +kernel
theorem dL_cell_18 : decode cL_cell 18 = .ok (.iadd, 1) := by decide +kernel
theorem dL_cell_19 : decode cL_cell 19 = .ok (.imul, 1) := by decide +kernel
theorem dL_cell_20 : decode cL_cell 20 = .ok (.istore_n 2, 1) := by decide +kernel
theorem dL_cell_21 : decode cL_cell 21 = .ok (.iload_n 2, 1) := by decide +kernel
theorem dL_cell_22 : decode cL_cell 22 = .ok (.iload_n 2, 1) := by decide +kernel
theorem dL_cell_23 : decode cL_cell 23 = .ok (.bipush 14, 2) := by decide +kernel
theorem dL_cell_25 : decode cL_cell 25 = .ok (.iushr, 1) := by decide +kernel
theorem dL_cell_26 : decode cL_cell 26 = .ok (.ixor, 1) := by decide +kernel
theorem dL_cell_27 : decode cL_cell 27 = .ok (.ldc 7, 2) := by decide +kernel
theorem dL_cell_29 : decode cL_cell 29 = .ok (.imul, 1) := by decide +kernel
theorem dL_cell_30 : decode cL_cell 30 = .ok (.bipush 61, 2) := by decide +kernel
theorem dL_cell_32 : decode cL_cell 32 = .ok (.iload_n 1, 1) := by decide +kernel
theorem dL_cell_33 : decode cL_cell 33 = .ok (.imul, 1) := by decide +kernel
theorem dL_cell_34 : decode cL_cell 34 = .ok (.iadd, 1) := by decide +kernel
theorem dL_cell_35 : decode cL_cell 35 = .ok (.ireturn, 1) := by decide +kernel
theorem dL_some_0 : decode cL_some 0 = .ok (.iload_n 0, 1) := by decide +kernel
theorem dL_some_1 : decode cL_some 1 = .ok (.iconst 1, 1) := by decide +kernel
theorem dL_some_2 : decode cL_some 2 = .ok (.iushr, 1) := by decide +kernel
theorem dL_some_3 : decode cL_some 3 = .ok (.iload_n 1, 1) := by decide +kernel
theorem dL_some_4 : decode cL_some 4 = .ok (.irem, 1) := by decide +kernel
theorem dL_some_5 : decode cL_some 5 = .ok (.ireturn, 1) := by decide +kernel
theorem dL_call_0 : decode cL_call 0 = .ok (.aload_n 0, 1) := by decide +kernel
theorem dL_call_1 : decode cL_call 1 = .ok (.iload_n 1, 1) := by decide +kernel
theorem dL_call_2 : decode cL_call 2 = .ok (.iload_n 2, 1) := by decide +kernel
theorem dL_call_3 : decode cL_call 3 = .ok (.iload_n 3, 1) := by decide +kernel
theorem dL_call_4 : decode cL_call 4 = .ok (.iload 4, 2) := by decide +kernel
theorem dL_call_6 : decode cL_call 6 = .ok (.iload 5, 2) := by decide +kernel
theorem dL_call_8 : decode cL_call 8 = .ok (.invokestatic 8, 3) := by decide +kernel
theorem dL_call_11 : decode cL_call 11 = .ok (.ireturn, 1) := by decide +kernel
theorem dL_call_12 : decode cL_call 12 = .ok (.astore 6, 2) := by decide +kernel
theorem dL_call_14 : decode cL_call 14 = .ok (.sipush (-8001), 3) := by decide +kernel
theorem dL_call_17 : decode cL_call 17 = .ok (.ireturn, 1) := by decide +kernel
theorem dL_call_18 : decode cL_call 18 = .ok (.astore 6, 2) := by decide +kernel
theorem dL_call_20 : decode cL_call 20 = .ok (.sipush (-8002), 3) := by decide +kernel
theorem dL_call_23 : decode cL_call 23 = .ok (.ireturn, 1) := by decide +kernel
theorem dL_call_24 : decode cL_call 24 = .ok (.astore 6, 2) := by decide +kernel
theorem dL_call_26 : decode cL_call 26 = .ok (.sipush (-8003), 3) := by decide +kernel
theorem dL_call_29 : decode cL_call 29 = .ok (.ireturn, 1) := by decide +kernel
theorem dL_does_0 : decode cL_does 0 = .ok (.iload_n 1, 1) := by decide +kernel
theorem dL_does_1 : decode cL_does 1 = .ok (.tableswitch 288 0 17 #[87, 92, 99, 106, 117, 126, 132, 137, 157, 166, 182, 198, 214, 232, 238, 256, 276, 282], 87) := by decide +kernel
theorem dL_does_88 : decode cL_does 88 = .ok (.aload_n 0, 1) := by decide +kernel
theorem dL_does_89 : decode cL_does 89 = .ok (.invokevirtual 20, 3) := by decide +kernel
theorem dL_does_92 : decode cL_does 92 = .ok (.ireturn, 1) := by decide +kernel
theorem dL_does_93 : decode cL_does 93 = .ok (.aload_n 0, 1) := by decide +kernel
theorem dL_does_94 : decode cL_does 94 = .ok (.iload_n 2, 1) := by decide +kernel
theorem dL_does_95 : decode cL_does 95 = .ok (.iload_n 3, 1) := by decide +kernel
theorem dL_does_96 : decode cL_does 96 = .ok (.invokevirtual 26, 3) := by decide +kernel
theorem dL_does_99 : decode cL_does 99 = .ok (.ireturn, 1) := by decide +kernel
theorem dL_does_100 : decode cL_does 100 = .ok (.aload_n 0, 1) := by decide +kernel
theorem dL_does_101 : decode cL_does 101 = .ok (.iload_n 2, 1) := by decide +kernel
theorem dL_does_102 : decode cL_does 102 = .ok (.iload_n 3, 1) := by decide +kernel
theorem dL_does_103 : decode cL_does 103 = .ok (.invokevirtual 30, 3) := by decide +kernel
theorem dL_does_106 : decode cL_does 106 = .ok (.ireturn, 1) := by decide +kernel
theorem dL_does_107 : decode cL_does 107 = .ok (.aload_n 0, 1) := by decide +kernel
theorem dL_does_108 : decode cL_does 108 = .ok (.iload_n 2, 1) := by decide +kernel
theorem dL_does_109 : decode cL_does 109 = .ok (.iload_n 3, 1) := by decide +kernel
theorem dL_does_110 : decode cL_does 110 = .ok (.iload 4, 2) := by decide +kernel
theorem dL_does_112 : decode cL_does 112 = .ok (.iload 5, 2) := by decide +kernel
theorem dL_does_114 : decode cL_does 114 = .ok (.invokevirtual 33, 3) := by decide +kernel
theorem dL_does_117 : decode cL_does 117 = .ok (.ireturn, 1) := by decide +kernel
theorem dL_does_118 : decode cL_does 118 = .ok (.aload_n 0, 1) := by decide +kernel
theorem dL_does_119 : decode cL_does 119 = .ok (.iload_n 2, 1) := by decide +kernel
theorem dL_does_120 : decode cL_does 120 = .ok (.iload_n 3, 1) := by decide +kernel
theorem dL_does_121 : decode cL_does 121 = .ok (.iload 4, 2) := by decide +kernel
theorem dL_does_123 : decode cL_does 123 = .ok (.invokevirtual 37, 3) := by decide +kernel
theorem dL_does_126 : decode cL_does 126 = .ok (.ireturn, 1) := by decide +kernel
theorem dL_does_127 : decode cL_does 127 = .ok (.aload_n 0, 1) := by decide +kernel
theorem dL_does_128 : decode cL_does 128 = .ok (.iload_n 2, 1) := by decide +kernel
theorem dL_does_129 : decode cL_does 129 = .ok (.invokevirtual 41, 3) := by decide +kernel
theorem dL_does_132 : decode cL_does 132 = .ok (.ireturn, 1) := by decide +kernel
theorem dL_does_133 : decode cL_does 133 = .ok (.aload_n 0, 1) := by decide +kernel
theorem dL_does_134 : decode cL_does 134 = .ok (.invokevirtual 45, 3) := by decide +kernel
theorem dL_does_137 : decode cL_does 137 = .ok (.ireturn, 1) := by decide +kernel
theorem dL_does_138 : decode cL_does 138 = .ok (.aload_n 0, 1) := by decide +kernel
theorem dL_does_139 : decode cL_does 139 = .ok (.iload_n 2, 1) := by decide +kernel
theorem dL_does_140 : decode cL_does 140 = .ok (.iload_n 3, 1) := by decide +kernel
theorem dL_does_141 : decode cL_does 141 = .ok (.iload 4, 2) := by decide +kernel
theorem dL_does_143 : decode cL_does 143 = .ok (.iload 5, 2) := by decide +kernel
theorem dL_does_145 : decode cL_does 145 = .ok (.iconst 1, 1) := by decide +kernel
theorem dL_does_146 : decode cL_does 146 = .ok (.if_icmp .ne 7, 3) := by decide +kernel
theorem dL_does_149 : decode cL_does 149 = .ok (.iconst 1, 1) := by decide +kernel
theorem dL_does_150 : decode cL_does 150 = .ok (.goto 4, 3) := by decide +kernel
theorem dL_does_153 : decode cL_does 153 = .ok (.iconst 0, 1) := by decide +kernel
theorem dL_does_154 : decode cL_does 154 = .ok (.invokevirtual 48, 3) := by decide +kernel
theorem dL_does_157 : decode cL_does 157 = .ok (.ireturn, 1) := by decide +kernel
theorem dL_does_158 : decode cL_does 158 = .ok (.aload_n 0, 1) := by decide +kernel
theorem dL_does_159 : decode cL_does 159 = .ok (.iload_n 2, 1) := by decide +kernel
theorem dL_does_160 : decode cL_does 160 = .ok (.iload_n 3, 1) := by decide +kernel
theorem dL_does_161 : decode cL_does 161 = .ok (.iload 4, 2) := by decide +kernel
theorem dL_does_163 : decode cL_does 163 = .ok (.invokevirtual 52, 3) := by decide +kernel
theorem dL_does_166 : decode cL_does 166 = .ok (.ireturn, 1) := by decide +kernel
theorem dL_does_167 : decode cL_does 167 = .ok (.aload_n 0, 1) := by decide +kernel
theorem dL_does_168 : decode cL_does 168 = .ok (.iload_n 2, 1) := by decide +kernel
theorem dL_does_169 : decode cL_does 169 = .ok (.iload_n 3, 1) := by decide +kernel
theorem dL_does_170 : decode cL_does 170 = .ok (.iconst 1, 1) := by decide +kernel
theorem dL_does_171 : decode cL_does 171 = .ok (.if_icmp .ne 7, 3) := by decide +kernel
theorem dL_does_174 : decode cL_does 174 = .ok (.iconst 1, 1) := by decide +kernel
theorem dL_does_175 : decode cL_does 175 = .ok (.goto 4, 3) := by decide +kernel
theorem dL_does_178 : decode cL_does 178 = .ok (.iconst 0, 1) := by decide +kernel
theorem dL_does_179 : decode cL_does 179 = .ok (.invokevirtual 55, 3) := by decide +kernel
theorem dL_does_182 : decode cL_does 182 = .ok (.ireturn, 1) := by decide +kernel
theorem dL_does_183 : decode cL_does 183 = .ok (.aload_n 0, 1) := by decide +kernel
theorem dL_does_184 : decode cL_does 184 = .ok (.iload_n 2, 1) := by decide +kernel
theorem dL_does_185 : decode cL_does 185 = .ok (.iload_n 3, 1) := by decide +kernel
theorem dL_does_186 : decode cL_does 186 = .ok (.iconst 1, 1) := by decide +kernel
theorem dL_does_187 : decode cL_does 187 = .ok (.if_icmp .ne 7, 3) := by decide +kernel
theorem dL_does_190 : decode cL_does 190 = .ok (.iconst 1, 1) := by decide +kernel
theorem dL_does_191 : decode cL_does 191 = .ok (.goto 4, 3) := by decide +kernel
theorem dL_does_194 : decode cL_does 194 = .ok (.iconst 0, 1) := by decide +kernel
theorem dL_does_195 : decode cL_does 195 = .ok (.invokevirtual 59, 3) := by decide +kernel
theorem dL_does_198 : decode cL_does 198 = .ok (.ireturn, 1) := by decide +kernel
theorem dL_does_199 : decode cL_does 199 = .ok (.aload_n 0, 1) := by decide +kernel
theorem dL_does_200 : decode cL_does 200 = .ok (.iload_n 2, 1) := by decide +kernel
theorem dL_does_201 : decode cL_does 201 = .ok (.iload_n 3, 1) := by decide +kernel
theorem dL_does_202 : decode cL_does 202 = .ok (.iconst 1, 1) := by decide +kernel
theorem dL_does_203 : decode cL_does 203 = .ok (.if_icmp .ne 7, 3) := by decide +kernel
theorem dL_does_206 : decode cL_does 206 = .ok (.iconst 1, 1) := by decide +kernel
theorem dL_does_207 : decode cL_does 207 = .ok (.goto 4, 3) := by decide +kernel
theorem dL_does_210 : decode cL_does 210 = .ok (.iconst 0, 1) := by decide +kernel
theorem dL_does_211 : decode cL_does 211 = .ok (.invokevirtual 62, 3) := by decide +kernel
theorem dL_does_214 : decode cL_does 214 = .ok (.ireturn, 1) := by decide +kernel
theorem dL_does_215 : decode cL_does 215 = .ok (.aload_n 0, 1) := by decide +kernel
theorem dL_does_216 : decode cL_does 216 = .ok (.iload_n 2, 1) := by decide +kernel
theorem dL_does_217 : decode cL_does 217 = .ok (.iload_n 3, 1) := by decide +kernel
theorem dL_does_218 : decode cL_does 218 = .ok (.iconst 1, 1) := by decide +kernel
theorem dL_does_219 : decode cL_does 219 = .ok (.if_icmp .ne 7, 3) := by decide +kernel
theorem dL_does_222 : decode cL_does 222 = .ok (.iconst 1, 1) := by decide +kernel
theorem dL_does_223 : decode cL_does 223 = .ok (.goto 4, 3) := by decide +kernel
theorem dL_does_226 : decode cL_does 226 = .ok (.iconst 0, 1) := by decide +kernel
theorem dL_does_227 : decode cL_does 227 = .ok (.iload 4, 2) := by decide +kernel
theorem dL_does_229 : decode cL_does 229 = .ok (.invokevirtual 65, 3) := by decide +kernel
theorem dL_does_232 : decode cL_does 232 = .ok (.ireturn, 1) := by decide +kernel
theorem dL_does_233 : decode cL_does 233 = .ok (.aload_n 0, 1) := by decide +kernel
theorem dL_does_234 : decode cL_does 234 = .ok (.iload_n 2, 1) := by decide +kernel
theorem dL_does_235 : decode cL_does 235 = .ok (.invokevirtual 69, 3) := by decide +kernel
theorem dL_does_238 : decode cL_does 238 = .ok (.ireturn, 1) := by decide +kernel
theorem dL_does_239 : decode cL_does 239 = .ok (.aload_n 0, 1) := by decide +kernel
theorem dL_does_240 : decode cL_does 240 = .ok (.iload_n 2, 1) := by decide +kernel
theorem dL_does_241 : decode cL_does 241 = .ok (.iload_n 3, 1) := by decide +kernel
theorem dL_does_242 : decode cL_does 242 = .ok (.iconst 1, 1) := by decide +kernel
theorem dL_does_243 : decode cL_does 243 = .ok (.if_icmp .ne 7, 3) := by decide +kernel
theorem dL_does_246 : decode cL_does 246 = .ok (.iconst 1, 1) := by decide +kernel
theorem dL_does_247 : decode cL_does 247 = .ok (.goto 4, 3) := by decide +kernel
theorem dL_does_250 : decode cL_does 250 = .ok (.iconst 0, 1) := by decide +kernel
theorem dL_does_251 : decode cL_does 251 = .ok (.iload 4, 2) := by decide +kernel
theorem dL_does_253 : decode cL_does 253 = .ok (.invokevirtual 72, 3) := by decide +kernel
theorem dL_does_256 : decode cL_does 256 = .ok (.ireturn, 1) := by decide +kernel
theorem dL_does_257 : decode cL_does 257 = .ok (.aload_n 0, 1) := by decide +kernel
theorem dL_does_258 : decode cL_does 258 = .ok (.iload_n 2, 1) := by decide +kernel
theorem dL_does_259 : decode cL_does 259 = .ok (.iload_n 3, 1) := by decide +kernel
theorem dL_does_260 : decode cL_does 260 = .ok (.iconst 1, 1) := by decide +kernel
theorem dL_does_261 : decode cL_does 261 = .ok (.if_icmp .ne 7, 3) := by decide +kernel
theorem dL_does_264 : decode cL_does 264 = .ok (.iconst 1, 1) := by decide +kernel
theorem dL_does_265 : decode cL_does 265 = .ok (.goto 4, 3) := by decide +kernel
theorem dL_does_268 : decode cL_does 268 = .ok (.iconst 0, 1) := by decide +kernel
theorem dL_does_269 : decode cL_does 269 = .ok (.iload 4, 2) := by decide +kernel
theorem dL_does_271 : decode cL_does 271 = .ok (.iload 5, 2) := by decide +kernel
theorem dL_does_273 : decode cL_does 273 = .ok (.invokevirtual 75, 3) := by decide +kernel
theorem dL_does_276 : decode cL_does 276 = .ok (.ireturn, 1) := by decide +kernel
theorem dL_does_277 : decode cL_does 277 = .ok (.aload_n 0, 1) := by decide +kernel
theorem dL_does_278 : decode cL_does 278 = .ok (.iload_n 2, 1) := by decide +kernel
theorem dL_does_279 : decode cL_does 279 = .ok (.invokevirtual 79, 3) := by decide +kernel
theorem dL_does_282 : decode cL_does 282 = .ok (.ireturn, 1) := by decide +kernel
theorem dL_does_283 : decode cL_does 283 = .ok (.aload_n 0, 1) := by decide +kernel
theorem dL_does_284 : decode cL_does 284 = .ok (.iload_n 2, 1) := by decide +kernel
theorem dL_does_285 : decode cL_does 285 = .ok (.invokevirtual 82, 3) := by decide +kernel
theorem dL_does_288 : decode cL_does 288 = .ok (.ireturn, 1) := by decide +kernel
theorem dL_does_289 : decode cL_does 289 = .ok (.aload_n 0, 1) := by decide +kernel
theorem dL_does_290 : decode cL_does 290 = .ok (.iload_n 2, 1) := by decide +kernel
theorem dL_does_291 : decode cL_does 291 = .ok (.invokevirtual 85, 3) := by decide +kernel
theorem dL_does_294 : decode cL_does 294 = .ok (.ireturn, 1) := by decide +kernel
theorem dL_weights_0 : decode cL_weights 0 = .ok (.aload_n 0, 1) := by decide +kernel
theorem dL_weights_1 : decode cL_weights 1 = .ok (.invokevirtual 88, 3) := by decide +kernel
theorem dL_weights_4 : decode cL_weights 4 = .ok (.i2l, 1) := by decide +kernel
theorem dL_weights_5 : decode cL_weights 5 = .ok (.lstore_n 1, 1) := by decide +kernel
theorem dL_weights_6 : decode cL_weights 6 = .ok (.iconst 0, 1) := by decide +kernel
theorem dL_weights_7 : decode cL_weights 7 = .ok (.istore_n 3, 1) := by decide +kernel
theorem dL_weights_8 : decode cL_weights 8 = .ok (.iload_n 3, 1) := by decide +kernel
theorem dL_weights_9 : decode cL_weights 9 = .ok (.bipush 28, 2) := by decide +kernel
theorem dL_weights_11 : decode cL_weights 11 = .ok (.if_icmp .ge 37, 3) := by decide +kernel
theorem dL_weights_14 : decode cL_weights 14 = .ok (.lload_n 1, 1) := by decide +kernel
theorem dL_weights_15 : decode cL_weights 15 = .ok (.ldc2_w 91, 3) := by decide +kernel
theorem dL_weights_18 : decode cL_weights 18 = .ok (.lmul, 1) := by decide +kernel
theorem dL_weights_19 : decode cL_weights 19 = .ok (.aload_n 0, 1) := by decide +kernel
theorem dL_weights_20 : decode cL_weights 20 = .ok (.iload_n 3, 1) := by decide +kernel
theorem dL_weights_21 : decode cL_weights 21 = .ok (.invokevirtual 85, 3) := by decide +kernel
theorem dL_weights_24 : decode cL_weights 24 = .ok (.i2l, 1) := by decide +kernel
theorem dL_weights_25 : decode cL_weights 25 = .ok (.ldc2_w 93, 3) := by decide +kernel
theorem dL_weights_28 : decode cL_weights 28 = .ok (.lmul, 1) := by decide +kernel
theorem dL_weights_29 : decode cL_weights 29 = .ok (.ladd, 1) := by decide +kernel
theorem dL_weights_30 : decode cL_weights 30 = .ok (.aload_n 0, 1) := by decide +kernel
theorem dL_weights_31 : decode cL_weights 31 = .ok (.iload_n 3, 1) := by decide +kernel
theorem dL_weights_32 : decode cL_weights 32 = .ok (.invokevirtual 95, 3) := by decide +kernel
theorem dL_weights_35 : decode cL_weights 35 = .ok (.ldc2_w 99, 3) := by decide +kernel
theorem dL_weights_38 : decode cL_weights 38 = .ok (.dmul, 1) := by decide +kernel
theorem dL_weights_39 : decode cL_weights 39 = .ok (.d2l, 1) := by decide +kernel
theorem dL_weights_40 : decode cL_weights 40 = .ok (.ladd, 1) := by decide +kernel
theorem dL_weights_41 : decode cL_weights 41 = .ok (.lstore_n 1, 1) := by decide +kernel
theorem dL_weights_42 : decode cL_weights 42 = .ok (.iinc 3 1, 3) := by decide +kernel
theorem dL_weights_45 : decode cL_weights 45 = .ok (.goto (-37), 3) := by decide +kernel
theorem dL_weights_48 : decode cL_weights 48 = .ok (.lload_n 1, 1) := by decide +kernel
theorem dL_weights_49 : decode cL_weights 49 = .ok (.lreturn, 1) := by decide +kernel
theorem dL_all_0 : decode cL_all 0 = .ok (.aload_n 0, 1) := by decide +kernel
theorem dL_all_1 : decode cL_all 1 = .ok (.invokestatic 101, 3) := by decide +kernel
theorem dL_all_4 : decode cL_all 4 = .ok (.ldc2_w 93, 3) := by decide +kernel
theorem dL_all_7 : decode cL_all 7 = .ok (.lmul, 1) := by decide +kernel
theorem dL_all_8 : decode cL_all 8 = .ok (.aload_n 0, 1) := by decide +kernel
theorem dL_all_9 : decode cL_all 9 = .ok (.invokevirtual 105, 3) := by decide +kernel
theorem dL_all_12 : decode cL_all 12 = .ok (.i2l, 1) := by decide +kernel
theorem dL_all_13 : decode cL_all 13 = .ok (.ladd, 1) := by decide +kernel
theorem dL_all_14 : decode cL_all 14 = .ok (.lstore_n 1, 1) := by decide +kernel
theorem dL_all_15 : decode cL_all 15 = .ok (.iconst 0, 1) := by decide +kernel
theorem dL_all_16 : decode cL_all 16 = .ok (.istore_n 3, 1) := by decide +kernel
theorem dL_all_17 : decode cL_all 17 = .ok (.iload_n 3, 1) := by decide +kernel
theorem dL_all_18 : decode cL_all 18 = .ok (.aload_n 0, 1) := by decide +kernel
theorem dL_all_19 : decode cL_all 19 = .ok (.invokevirtual 105, 3) := by decide +kernel
theorem dL_all_22 : decode cL_all 22 = .ok (.if_icmp .ge 149, 3) := by decide +kernel
theorem dL_all_25 : decode cL_all 25 = .ok (.lload_n 1, 1) := by decide +kernel
theorem dL_all_26 : decode cL_all 26 = .ok (.ldc2_w 93, 3) := by decide +kernel
theorem dL_all_29 : decode cL_all 29 = .ok (.lmul, 1) := by decide +kernel
theorem dL_all_30 : decode cL_all 30 = .ok (.aload_n 0, 1) := by decide +kernel
theorem dL_all_31 : decode cL_all 31 = .ok (.iload_n 3, 1) := by decide +kernel
theorem dL_all_32 : decode cL_all 32 = .ok (.invokevirtual 82, 3) := by decide +kernel
theorem dL_all_35 : decode cL_all 35 = .ok (.i2l, 1) := by decide +kernel
theorem dL_all_36 : decode cL_all 36 = .ok (.ladd, 1) := by decide +kernel
theorem dL_all_37 : decode cL_all 37 = .ok (.lstore_n 1, 1) := by decide +kernel
theorem dL_all_38 : decode cL_all 38 = .ok (.lload_n 1, 1) := by decide +kernel
theorem dL_all_39 : decode cL_all 39 = .ok (.ldc2_w 108, 3) := by decide +kernel
theorem dL_all_42 : decode cL_all 42 = .ok (.lmul, 1) := by decide +kernel
theorem dL_all_43 : decode cL_all 43 = .ok (.aload_n 0, 1) := by decide +kernel
theorem dL_all_44 : decode cL_all 44 = .ok (.iload_n 3, 1) := by decide +kernel
theorem dL_all_45 : decode cL_all 45 = .ok (.iconst 1, 1) := by decide +kernel
theorem dL_all_46 : decode cL_all 46 = .ok (.invokevirtual 55, 3) := by decide +kernel
theorem dL_all_49 : decode cL_all 49 = .ok (.i2l, 1) := by decide +kernel
theorem dL_all_50 : decode cL_all 50 = .ok (.ladd, 1) := by decide +kernel
theorem dL_all_51 : decode cL_all 51 = .ok (.ldc2_w 110, 3) := by decide +kernel
theorem dL_all_54 : decode cL_all 54 = .ok (.lmul, 1) := by decide +kernel
theorem dL_all_55 : decode cL_all 55 = .ok (.aload_n 0, 1) := by decide +kernel
theorem dL_all_56 : decode cL_all 56 = .ok (.iload_n 3, 1) := by decide +kernel
theorem dL_all_57 : decode cL_all 57 = .ok (.iconst 0, 1) := by decide +kernel
theorem dL_all_58 : decode cL_all 58 = .ok (.invokevirtual 55, 3) := by decide +kernel
theorem dL_all_61 : decode cL_all 61 = .ok (.i2l, 1) := by decide +kernel
theorem dL_all_62 : decode cL_all 62 = .ok (.ladd, 1) := by decide +kernel
theorem dL_all_63 : decode cL_all 63 = .ok (.lstore_n 1, 1) := by decide +kernel
theorem dL_all_64 : decode cL_all 64 = .ok (.lload_n 1, 1) := by decide +kernel
theorem dL_all_65 : decode cL_all 65 = .ok (.ldc2_w 112, 3) := by decide +kernel
theorem dL_all_68 : decode cL_all 68 = .ok (.lmul, 1) := by decide +kernel
theorem dL_all_69 : decode cL_all 69 = .ok (.aload_n 0, 1) := by decide +kernel
theorem dL_all_70 : decode cL_all 70 = .ok (.bipush 10, 2) := by decide +kernel
theorem dL_all_72 : decode cL_all 72 = .ok (.iload_n 3, 1) := by decide +kernel
theorem dL_all_73 : decode cL_all 73 = .ok (.iconst 1, 1) := by decide +kernel
theorem dL_all_74 : decode cL_all 74 = .ok (.iconst 0, 1) := by decide +kernel
theorem dL_all_75 : decode cL_all 75 = .ok (.iconst 0, 1) := by decide +kernel
theorem dL_all_76 : decode cL_all 76 = .ok (.invokestatic 114, 3) := by decide +kernel
theorem dL_all_79 : decode cL_all 79 = .ok (.i2l, 1) := by decide +kernel
theorem dL_all_80 : decode cL_all 80 = .ok (.ladd, 1) := by decide +kernel
theorem dL_all_81 : decode cL_all 81 = .ok (.ldc2_w 112, 3) := by decide +kernel
theorem dL_all_84 : decode cL_all 84 = .ok (.lmul, 1) := by decide +kernel
theorem dL_all_85 : decode cL_all 85 = .ok (.aload_n 0, 1) := by decide +kernel
theorem dL_all_86 : decode cL_all 86 = .ok (.bipush 10, 2) := by decide +kernel
theorem dL_all_88 : decode cL_all 88 = .ok (.iload_n 3, 1) := by decide +kernel
theorem dL_all_89 : decode cL_all 89 = .ok (.iconst 0, 1) := by decide +kernel
theorem dL_all_90 : decode cL_all 90 = .ok (.iconst 0, 1) := by decide +kernel
theorem dL_all_91 : decode cL_all 91 = .ok (.iconst 0, 1) := by decide +kernel
theorem dL_all_92 : decode cL_all 92 = .ok (.invokestatic 114, 3) := by decide +kernel
theorem dL_all_95 : decode cL_all 95 = .ok (.i2l, 1) := by decide +kernel
theorem dL_all_96 : decode cL_all 96 = .ok (.ladd, 1) := by decide +kernel
theorem dL_all_97 : decode cL_all 97 = .ok (.ldc2_w 117, 3) := by decide +kernel
theorem dL_all_100 : decode cL_all 100 = .ok (.lmul, 1) := by decide +kernel
theorem dL_all_101 : decode cL_all 101 = .ok (.aload_n 0, 1) := by decide +kernel
theorem dL_all_102 : decode cL_all 102 = .ok (.bipush 16, 2) := by decide +kernel
theorem dL_all_104 : decode cL_all 104 = .ok (.iload_n 3, 1) := by decide +kernel
theorem dL_all_105 : decode cL_all 105 = .ok (.iconst 0, 1) := by decide +kernel
theorem dL_all_106 : decode cL_all 106 = .ok (.iconst 0, 1) := by decide +kernel
theorem dL_all_107 : decode cL_all 107 = .ok (.iconst 0, 1) := by decide +kernel
theorem dL_all_108 : decode cL_all 108 = .ok (.invokestatic 114, 3) := by decide +kernel
theorem dL_all_111 : decode cL_all 111 = .ok (.i2l, 1) := by decide +kernel
theorem dL_all_112 : decode cL_all 112 = .ok (.ladd, 1) := by decide +kernel
theorem dL_all_113 : decode cL_all 113 = .ok (.lstore_n 1, 1) := by decide +kernel
theorem dL_all_114 : decode cL_all 114 = .ok (.iconst 1, 1) := by decide +kernel
theorem dL_all_115 : decode cL_all 115 = .ok (.istore 4, 2) := by decide +kernel
theorem dL_all_117 : decode cL_all 117 = .ok (.iload 4, 2) := by decide +kernel
theorem dL_all_119 : decode cL_all 119 = .ok (.aload_n 0, 1) := by decide +kernel
theorem dL_all_120 : decode cL_all 120 = .ok (.iload_n 3, 1) := by decide +kernel
theorem dL_all_121 : decode cL_all 121 = .ok (.invokevirtual 82, 3) := by decide +kernel
theorem dL_all_124 : decode cL_all 124 = .ok (.if_icmp .gt 41, 3) := by decide +kernel
theorem dL_all_127 : decode cL_all 127 = .ok (.lload_n 1, 1) := by decide +kernel
theorem dL_all_128 : decode cL_all 128 = .ok (.ldc2_w 119, 3) := by decide +kernel
theorem dL_all_131 : decode cL_all 131 = .ok (.lmul, 1) := by decide +kernel
theorem dL_all_132 : decode cL_all 132 = .ok (.aload_n 0, 1) := by decide +kernel
theorem dL_all_133 : decode cL_all 133 = .ok (.iload_n 3, 1) := by decide +kernel
theorem dL_all_134 : decode cL_all 134 = .ok (.iload 4, 2) := by decide +kernel
theorem dL_all_136 : decode cL_all 136 = .ok (.invokevirtual 121, 3) := by decide +kernel
theorem dL_all_139 : decode cL_all 139 = .ok (.i2l, 1) := by decide +kernel
theorem dL_all_140 : decode cL_all 140 = .ok (.ladd, 1) := by decide +kernel
theorem dL_all_141 : decode cL_all 141 = .ok (.ldc2_w 93, 3) := by decide +kernel
theorem dL_all_144 : decode cL_all 144 = .ok (.lmul, 1) := by decide +kernel
theorem dL_all_145 : decode cL_all 145 = .ok (.aload_n 0, 1) := by decide +kernel
theorem dL_all_146 : decode cL_all 146 = .ok (.bipush 12, 2) := by decide +kernel
theorem dL_all_148 : decode cL_all 148 = .ok (.iload_n 3, 1) := by decide +kernel
theorem dL_all_149 : decode cL_all 149 = .ok (.iconst 1, 1) := by decide +kernel
theorem dL_all_150 : decode cL_all 150 = .ok (.iload 4, 2) := by decide +kernel
theorem dL_all_152 : decode cL_all 152 = .ok (.iconst 0, 1) := by decide +kernel
theorem dL_all_153 : decode cL_all 153 = .ok (.invokestatic 114, 3) := by decide +kernel
theorem dL_all_156 : decode cL_all 156 = .ok (.i2l, 1) := by decide +kernel
theorem dL_all_157 : decode cL_all 157 = .ok (.ladd, 1) := by decide +kernel
theorem dL_all_158 : decode cL_all 158 = .ok (.lstore_n 1, 1) := by decide +kernel
theorem dL_all_159 : decode cL_all 159 = .ok (.iinc 4 1, 3) := by decide +kernel
theorem dL_all_162 : decode cL_all 162 = .ok (.goto (-45), 3) := by decide +kernel
theorem dL_all_165 : decode cL_all 165 = .ok (.iinc 3 1, 3) := by decide +kernel
theorem dL_all_168 : decode cL_all 168 = .ok (.goto (-151), 3) := by decide +kernel
theorem dL_all_171 : decode cL_all 171 = .ok (.lload_n 1, 1) := by decide +kernel
theorem dL_all_172 : decode cL_all 172 = .ok (.lreturn, 1) := by decide +kernel
theorem dL_bests_0 : decode cL_bests 0 = .ok (.aload_n 0, 1) := by decide +kernel
theorem dL_bests_1 : decode cL_bests 1 = .ok (.iload_n 1, 1) := by decide +kernel
theorem dL_bests_2 : decode cL_bests 2 = .ok (.iconst 0, 1) := by decide +kernel
theorem dL_bests_3 : decode cL_bests 3 = .ok (.invokevirtual 55, 3) := by decide +kernel
theorem dL_bests_6 : decode cL_bests 6 = .ok (.aload_n 0, 1) := by decide +kernel
theorem dL_bests_7 : decode cL_bests 7 = .ok (.iload_n 1, 1) := by decide +kernel
theorem dL_bests_8 : decode cL_bests 8 = .ok (.iconst 1, 1) := by decide +kernel
theorem dL_bests_9 : decode cL_bests 9 = .ok (.invokevirtual 55, 3) := by decide +kernel
theorem dL_bests_12 : decode cL_bests 12 = .ok (.if_icmp .gt 7, 3) := by decide +kernel
theorem dL_bests_15 : decode cL_bests 15 = .ok (.iconst 1, 1) := by decide +kernel
theorem dL_bests_16 : decode cL_bests 16 = .ok (.goto 4, 3) := by decide +kernel
theorem dL_bests_19 : decode cL_bests 19 = .ok (.iconst 0, 1) := by decide +kernel
theorem dL_bests_20 : decode cL_bests 20 = .ok (.istore_n 3, 1) := by decide +kernel
theorem dL_bests_21 : decode cL_bests 21 = .ok (.aload_n 0, 1) := by decide +kernel
theorem dL_bests_22 : decode cL_bests 22 = .ok (.iload_n 1, 1) := by decide +kernel
theorem dL_bests_23 : decode cL_bests 23 = .ok (.invokevirtual 82, 3) := by decide +kernel
theorem dL_bests_26 : decode cL_bests 26 = .ok (.istore 4, 2) := by decide +kernel
theorem dL_bests_28 : decode cL_bests 28 = .ok (.iconst 0, 1) := by decide +kernel
theorem dL_bests_29 : decode cL_bests 29 = .ok (.istore 5, 2) := by decide +kernel
theorem dL_bests_31 : decode cL_bests 31 = .ok (.iload 5, 2) := by decide +kernel
theorem dL_bests_33 : decode cL_bests 33 = .ok (.iconst 2, 1) := by decide +kernel
theorem dL_bests_34 : decode cL_bests 34 = .ok (.if_icmp .ge 420, 3) := by decide +kernel
theorem dL_bests_37 : decode cL_bests 37 = .ok (.iload_n 3, 1) := by decide +kernel
theorem dL_bests_38 : decode cL_bests 38 = .ok (.ifCond .eq 416, 3) := by decide +kernel
theorem dL_bests_41 : decode cL_bests 41 = .ok (.aload_n 0, 1) := by decide +kernel
theorem dL_bests_42 : decode cL_bests 42 = .ok (.iload_n 1, 1) := by decide +kernel
theorem dL_bests_43 : decode cL_bests 43 = .ok (.iload 5, 2) := by decide +kernel
theorem dL_bests_45 : decode cL_bests 45 = .ok (.iconst 1, 1) := by decide +kernel
theorem dL_bests_46 : decode cL_bests 46 = .ok (.if_icmp .ne 7, 3) := by decide +kernel
theorem dL_bests_49 : decode cL_bests 49 = .ok (.iconst 1, 1) := by decide +kernel
theorem dL_bests_50 : decode cL_bests 50 = .ok (.goto 4, 3) := by decide +kernel
theorem dL_bests_53 : decode cL_bests 53 = .ok (.iconst 0, 1) := by decide +kernel
theorem dL_bests_54 : decode cL_bests 54 = .ok (.invokevirtual 55, 3) := by decide +kernel
theorem dL_bests_57 : decode cL_bests 57 = .ok (.istore 6, 2) := by decide +kernel
theorem dL_bests_59 : decode cL_bests 59 = .ok (.aload_n 0, 1) := by decide +kernel
theorem dL_bests_60 : decode cL_bests 60 = .ok (.bipush 10, 2) := by decide +kernel
theorem dL_bests_62 : decode cL_bests 62 = .ok (.iload_n 1, 1) := by decide +kernel
theorem dL_bests_63 : decode cL_bests 63 = .ok (.iload 5, 2) := by decide +kernel
theorem dL_bests_65 : decode cL_bests 65 = .ok (.iconst 0, 1) := by decide +kernel
theorem dL_bests_66 : decode cL_bests 66 = .ok (.iconst 0, 1) := by decide +kernel
theorem dL_bests_67 : decode cL_bests 67 = .ok (.invokestatic 114, 3) := by decide +kernel
theorem dL_bests_70 : decode cL_bests 70 = .ok (.istore 7, 2) := by decide +kernel
theorem dL_bests_72 : decode cL_bests 72 = .ok (.aload_n 0, 1) := by decide +kernel
theorem dL_bests_73 : decode cL_bests 73 = .ok (.bipush 11, 2) := by decide +kernel
theorem dL_bests_75 : decode cL_bests 75 = .ok (.iload_n 1, 1) := by decide +kernel
theorem dL_bests_76 : decode cL_bests 76 = .ok (.iload 5, 2) := by decide +kernel
theorem dL_bests_78 : decode cL_bests 78 = .ok (.iconst 0, 1) := by decide +kernel
theorem dL_bests_79 : decode cL_bests 79 = .ok (.iconst 0, 1) := by decide +kernel
theorem dL_bests_80 : decode cL_bests 80 = .ok (.invokestatic 114, 3) := by decide +kernel
theorem dL_bests_83 : decode cL_bests 83 = .ok (.iload 7, 2) := by decide +kernel
theorem dL_bests_85 : decode cL_bests 85 = .ok (.if_icmp .ne 97, 3) := by decide +kernel
theorem dL_bests_88 : decode cL_bests 88 = .ok (.aload_n 0, 1) := by decide +kernel
theorem dL_bests_89 : decode cL_bests 89 = .ok (.bipush 14, 2) := by decide +kernel
theorem dL_bests_91 : decode cL_bests 91 = .ok (.iload_n 1, 1) := by decide +kernel
theorem dL_bests_92 : decode cL_bests 92 = .ok (.iload 5, 2) := by decide +kernel
theorem dL_bests_94 : decode cL_bests 94 = .ok (.iload 6, 2) := by decide +kernel
theorem dL_bests_96 : decode cL_bests 96 = .ok (.iconst 0, 1) := by decide +kernel
theorem dL_bests_97 : decode cL_bests 97 = .ok (.invokestatic 114, 3) := by decide +kernel
theorem dL_bests_100 : decode cL_bests 100 = .ok (.sipush (-8001), 3) := by decide +kernel
theorem dL_bests_103 : decode cL_bests 103 = .ok (.if_icmp .ne 79, 3) := by decide +kernel
theorem dL_bests_106 : decode cL_bests 106 = .ok (.aload_n 0, 1) := by decide +kernel
theorem dL_bests_107 : decode cL_bests 107 = .ok (.bipush 14, 2) := by decide +kernel
theorem dL_bests_109 : decode cL_bests 109 = .ok (.iload_n 1, 1) := by decide +kernel
theorem dL_bests_110 : decode cL_bests 110 = .ok (.iload 5, 2) := by decide +kernel
theorem dL_bests_112 : decode cL_bests 112 = .ok (.iconst (-1), 1) := by decide +kernel
theorem dL_bests_113 : decode cL_bests 113 = .ok (.iconst 0, 1) := by decide +kernel
theorem dL_bests_114 : decode cL_bests 114 = .ok (.invokestatic 114, 3) := by decide +kernel
theorem dL_bests_117 : decode cL_bests 117 = .ok (.sipush (-8001), 3) := by decide +kernel
theorem dL_bests_120 : decode cL_bests 120 = .ok (.if_icmp .ne 62, 3) := by decide +kernel
theorem dL_bests_123 : decode cL_bests 123 = .ok (.iload 6, 2) := by decide +kernel
theorem dL_bests_125 : decode cL_bests 125 = .ok (.ifCond .le 28, 3) := by decide +kernel
theorem dL_bests_128 : decode cL_bests 128 = .ok (.aload_n 0, 1) := by decide +kernel
theorem dL_bests_129 : decode cL_bests 129 = .ok (.iload_n 1, 1) := by decide +kernel
theorem dL_bests_130 : decode cL_bests 130 = .ok (.iload 5, 2) := by decide +kernel
theorem dL_bests_132 : decode cL_bests 132 = .ok (.iconst 1, 1) := by decide +kernel
theorem dL_bests_133 : decode cL_bests 133 = .ok (.if_icmp .ne 7, 3) := by decide +kernel
theorem dL_bests_136 : decode cL_bests 136 = .ok (.iconst 1, 1) := by decide +kernel
theorem dL_bests_137 : decode cL_bests 137 = .ok (.goto 4, 3) := by decide +kernel
theorem dL_bests_140 : decode cL_bests 140 = .ok (.iconst 0, 1) := by decide +kernel
theorem dL_bests_141 : decode cL_bests 141 = .ok (.iconst 0, 1) := by decide +kernel
theorem dL_bests_142 : decode cL_bests 142 = .ok (.invokevirtual 72, 3) := by decide +kernel
theorem dL_bests_145 : decode cL_bests 145 = .ok (.iload 7, 2) := by decide +kernel
theorem dL_bests_147 : decode cL_bests 147 = .ok (.if_icmp .ne 35, 3) := by decide +kernel
theorem dL_bests_150 : decode cL_bests 150 = .ok (.goto 28, 3) := by decide +kernel
theorem dL_bests_153 : decode cL_bests 153 = .ok (.iload 7, 2) := by decide +kernel
theorem dL_bests_155 : decode cL_bests 155 = .ok (.sipush (-8003), 3) := by decide +kernel
theorem dL_bests_158 : decode cL_bests 158 = .ok (.if_icmp .ne 24, 3) := by decide +kernel
theorem dL_bests_161 : decode cL_bests 161 = .ok (.aload_n 0, 1) := by decide +kernel
theorem dL_bests_162 : decode cL_bests 162 = .ok (.bipush 14, 2) := by decide +kernel
theorem dL_bests_164 : decode cL_bests 164 = .ok (.iload_n 1, 1) := by decide +kernel
theorem dL_bests_165 : decode cL_bests 165 = .ok (.iload 5, 2) := by decide +kernel
theorem dL_bests_167 : decode cL_bests 167 = .ok (.iconst 0, 1) := by decide +kernel
theorem dL_bests_168 : decode cL_bests 168 = .ok (.iconst 0, 1) := by decide +kernel
theorem dL_bests_169 : decode cL_bests 169 = .ok (.invokestatic 114, 3) := by decide +kernel
theorem dL_bests_172 : decode cL_bests 172 = .ok (.sipush (-8001), 3) := by decide +kernel
theorem dL_bests_175 : decode cL_bests 175 = .ok (.if_icmp .ne 7, 3) := by decide +kernel
theorem dL_bests_178 : decode cL_bests 178 = .ok (.iconst 1, 1) := by decide +kernel
theorem dL_bests_179 : decode cL_bests 179 = .ok (.goto 4, 3) := by decide +kernel
theorem dL_bests_182 : decode cL_bests 182 = .ok (.iconst 0, 1) := by decide +kernel
theorem dL_bests_183 : decode cL_bests 183 = .ok (.istore_n 3, 1) := by decide +kernel
theorem dL_bests_184 : decode cL_bests 184 = .ok (.iconst 0, 1) := by decide +kernel
theorem dL_bests_185 : decode cL_bests 185 = .ok (.istore 8, 2) := by decide +kernel
theorem dL_bests_187 : decode cL_bests 187 = .ok (.iconst 1, 1) := by decide +kernel
theorem dL_bests_188 : decode cL_bests 188 = .ok (.istore 9, 2) := by decide +kernel
theorem dL_bests_190 : decode cL_bests 190 = .ok (.iload 9, 2) := by decide +kernel
theorem dL_bests_192 : decode cL_bests 192 = .ok (.iload 4, 2) := by decide +kernel
theorem dL_bests_194 : decode cL_bests 194 = .ok (.if_icmp .gt 109, 3) := by decide +kernel
theorem dL_bests_197 : decode cL_bests 197 = .ok (.iload_n 3, 1) := by decide +kernel
theorem dL_bests_198 : decode cL_bests 198 = .ok (.ifCond .eq 105, 3) := by decide +kernel
theorem dL_bests_201 : decode cL_bests 201 = .ok (.iload 6, 2) := by decide +kernel
theorem dL_bests_203 : decode cL_bests 203 = .ok (.ifCond .le 100, 3) := by decide +kernel
theorem dL_bests_206 : decode cL_bests 206 = .ok (.aload_n 0, 1) := by decide +kernel
theorem dL_bests_207 : decode cL_bests 207 = .ok (.iload_n 1, 1) := by decide +kernel
theorem dL_bests_208 : decode cL_bests 208 = .ok (.iload 5, 2) := by decide +kernel
theorem dL_bests_210 : decode cL_bests 210 = .ok (.iconst 1, 1) := by decide +kernel
theorem dL_bests_211 : decode cL_bests 211 = .ok (.if_icmp .ne 7, 3) := by decide +kernel
theorem dL_bests_214 : decode cL_bests 214 = .ok (.iconst 1, 1) := by decide +kernel
theorem dL_bests_215 : decode cL_bests 215 = .ok (.goto 4, 3) := by decide +kernel
theorem dL_bests_218 : decode cL_bests 218 = .ok (.iconst 0, 1) := by decide +kernel
theorem dL_bests_219 : decode cL_bests 219 = .ok (.iload 9, 2) := by decide +kernel
theorem dL_bests_221 : decode cL_bests 221 = .ok (.invokevirtual 65, 3) := by decide +kernel
theorem dL_bests_224 : decode cL_bests 224 = .ok (.istore 10, 2) := by decide +kernel
theorem dL_bests_226 : decode cL_bests 226 = .ok (.aload_n 0, 1) := by decide +kernel
theorem dL_bests_227 : decode cL_bests 227 = .ok (.iload_n 1, 1) := by decide +kernel
theorem dL_bests_228 : decode cL_bests 228 = .ok (.iload 5, 2) := by decide +kernel
theorem dL_bests_230 : decode cL_bests 230 = .ok (.iconst 1, 1) := by decide +kernel
theorem dL_bests_231 : decode cL_bests 231 = .ok (.if_icmp .ne 7, 3) := by decide +kernel
theorem dL_bests_234 : decode cL_bests 234 = .ok (.iconst 1, 1) := by decide +kernel
theorem dL_bests_235 : decode cL_bests 235 = .ok (.goto 4, 3) := by decide +kernel
theorem dL_bests_238 : decode cL_bests 238 = .ok (.iconst 0, 1) := by decide +kernel
theorem dL_bests_239 : decode cL_bests 239 = .ok (.iconst 0, 1) := by decide +kernel
theorem dL_bests_240 : decode cL_bests 240 = .ok (.iload 9, 2) := by decide +kernel
theorem dL_bests_242 : decode cL_bests 242 = .ok (.invokevirtual 75, 3) := by decide +kernel
theorem dL_bests_245 : decode cL_bests 245 = .ok (.iload 10, 2) := by decide +kernel
theorem dL_bests_247 : decode cL_bests 247 = .ok (.if_icmp .ne 26, 3) := by decide +kernel
theorem dL_bests_250 : decode cL_bests 250 = .ok (.iload 10, 2) := by decide +kernel
theorem dL_bests_252 : decode cL_bests 252 = .ok (.iload 9, 2) := by decide +kernel
theorem dL_bests_254 : decode cL_bests 254 = .ok (.if_icmp .eq 19, 3) := by decide +kernel
theorem dL_bests_257 : decode cL_bests 257 = .ok (.iload 10, 2) := by decide +kernel
theorem dL_bests_259 : decode cL_bests 259 = .ok (.ifCond .lt 14, 3) := by decide +kernel
theorem dL_bests_262 : decode cL_bests 262 = .ok (.iload 10, 2) := by decide +kernel
theorem dL_bests_264 : decode cL_bests 264 = .ok (.iload 4, 2) := by decide +kernel
theorem dL_bests_266 : decode cL_bests 266 = .ok (.if_icmp .gt 7, 3) := by decide +kernel
theorem dL_bests_269 : decode cL_bests 269 = .ok (.iconst 1, 1) := by decide +kernel
theorem dL_bests_270 : decode cL_bests 270 = .ok (.goto 4, 3) := by decide +kernel
theorem dL_bests_273 : decode cL_bests 273 = .ok (.iconst 0, 1) := by decide +kernel
theorem dL_bests_274 : decode cL_bests 274 = .ok (.istore_n 3, 1) := by decide +kernel
theorem dL_bests_275 : decode cL_bests 275 = .ok (.iload 8, 2) := by decide +kernel
theorem dL_bests_277 : decode cL_bests 277 = .ok (.iload_n 3, 1) := by decide +kernel
theorem dL_bests_278 : decode cL_bests 278 = .ok (.ifCond .eq 15, 3) := by decide +kernel
theorem dL_bests_281 : decode cL_bests 281 = .ok (.aload_n 0, 1) := by decide +kernel
theorem dL_bests_282 : decode cL_bests 282 = .ok (.iload_n 1, 1) := by decide +kernel
theorem dL_bests_283 : decode cL_bests 283 = .ok (.iload 10, 2) := by decide +kernel
theorem dL_bests_285 : decode cL_bests 285 = .ok (.iload 9, 2) := by decide +kernel
theorem dL_bests_287 : decode cL_bests 287 = .ok (.invokevirtual 52, 3) := by decide +kernel
theorem dL_bests_290 : decode cL_bests 290 = .ok (.goto 4, 3) := by decide +kernel
theorem dL_bests_293 : decode cL_bests 293 = .ok (.iconst 0, 1) := by decide +kernel
theorem dL_bests_294 : decode cL_bests 294 = .ok (.iadd, 1) := by decide +kernel
theorem dL_bests_295 : decode cL_bests 295 = .ok (.istore 8, 2) := by decide +kernel
theorem dL_bests_297 : decode cL_bests 297 = .ok (.iinc 9 1, 3) := by decide +kernel
theorem dL_bests_300 : decode cL_bests 300 = .ok (.goto (-110), 3) := by decide +kernel
theorem dL_bests_303 : decode cL_bests 303 = .ok (.iload_n 3, 1) := by decide +kernel
theorem dL_bests_304 : decode cL_bests 304 = .ok (.ifCond .eq 41, 3) := by decide +kernel
theorem dL_bests_307 : decode cL_bests 307 = .ok (.iload 6, 2) := by decide +kernel
theorem dL_bests_309 : decode cL_bests 309 = .ok (.ifCond .eq 10, 3) := by decide +kernel
theorem dL_bests_312 : decode cL_bests 312 = .ok (.iload 8, 2) := by decide +kernel
theorem dL_bests_314 : decode cL_bests 314 = .ok (.iload 7, 2) := by decide +kernel
theorem dL_bests_316 : decode cL_bests 316 = .ok (.if_icmp .ne 29, 3) := by decide +kernel
theorem dL_bests_319 : decode cL_bests 319 = .ok (.iload 6, 2) := by decide +kernel
theorem dL_bests_321 : decode cL_bests 321 = .ok (.ifCond .eq 20, 3) := by decide +kernel
theorem dL_bests_324 : decode cL_bests 324 = .ok (.iload 5, 2) := by decide +kernel
theorem dL_bests_326 : decode cL_bests 326 = .ok (.iconst 1, 1) := by decide +kernel
theorem dL_bests_327 : decode cL_bests 327 = .ok (.if_icmp .eq 14, 3) := by decide +kernel
theorem dL_bests_330 : decode cL_bests 330 = .ok (.iload 7, 2) := by decide +kernel
theorem dL_bests_332 : decode cL_bests 332 = .ok (.aload_n 0, 1) := by decide +kernel
theorem dL_bests_333 : decode cL_bests 333 = .ok (.iload_n 1, 1) := by decide +kernel
theorem dL_bests_334 : decode cL_bests 334 = .ok (.iconst 1, 1) := by decide +kernel
theorem dL_bests_335 : decode cL_bests 335 = .ok (.invokevirtual 59, 3) := by decide +kernel
theorem dL_bests_338 : decode cL_bests 338 = .ok (.if_icmp .gt 7, 3) := by decide +kernel
theorem dL_bests_341 : decode cL_bests 341 = .ok (.iconst 1, 1) := by decide +kernel
theorem dL_bests_342 : decode cL_bests 342 = .ok (.goto 4, 3) := by decide +kernel
theorem dL_bests_345 : decode cL_bests 345 = .ok (.iconst 0, 1) := by decide +kernel
theorem dL_bests_346 : decode cL_bests 346 = .ok (.istore_n 3, 1) := by decide +kernel
theorem dL_bests_347 : decode cL_bests 347 = .ok (.iload 6, 2) := by decide +kernel
theorem dL_bests_349 : decode cL_bests 349 = .ok (.ifCond .ne 7, 3) := by decide +kernel
theorem dL_bests_352 : decode cL_bests 352 = .ok (.iconst 0, 1) := by decide +kernel
theorem dL_bests_353 : decode cL_bests 353 = .ok (.goto 9, 3) := by decide +kernel
theorem dL_bests_356 : decode cL_bests 356 = .ok (.iload_n 2, 1) := by decide +kernel
theorem dL_bests_357 : decode cL_bests 357 = .ok (.iload 6, 2) := by decide +kernel
theorem dL_bests_359 : decode cL_bests 359 = .ok (.invokestatic 124, 3) := by decide +kernel
theorem dL_bests_362 : decode cL_bests 362 = .ok (.istore 9, 2) := by decide +kernel
theorem dL_bests_364 : decode cL_bests 364 = .ok (.iload_n 3, 1) := by decide +kernel
theorem dL_bests_365 : decode cL_bests 365 = .ok (.ifCond .eq 81, 3) := by decide +kernel
theorem dL_bests_368 : decode cL_bests 368 = .ok (.iload 6, 2) := by decide +kernel
theorem dL_bests_370 : decode cL_bests 370 = .ok (.ifCond .eq 72, 3) := by decide +kernel
theorem dL_bests_373 : decode cL_bests 373 = .ok (.aload_n 0, 1) := by decide +kernel
theorem dL_bests_374 : decode cL_bests 374 = .ok (.iload_n 1, 1) := by decide +kernel
theorem dL_bests_375 : decode cL_bests 375 = .ok (.iload 5, 2) := by decide +kernel
theorem dL_bests_377 : decode cL_bests 377 = .ok (.iconst 1, 1) := by decide +kernel
theorem dL_bests_378 : decode cL_bests 378 = .ok (.if_icmp .ne 7, 3) := by decide +kernel
theorem dL_bests_381 : decode cL_bests 381 = .ok (.iconst 1, 1) := by decide +kernel
theorem dL_bests_382 : decode cL_bests 382 = .ok (.goto 4, 3) := by decide +kernel
theorem dL_bests_385 : decode cL_bests 385 = .ok (.iconst 0, 1) := by decide +kernel
theorem dL_bests_386 : decode cL_bests 386 = .ok (.iload 9, 2) := by decide +kernel
theorem dL_bests_388 : decode cL_bests 388 = .ok (.invokevirtual 72, 3) := by decide +kernel
theorem dL_bests_391 : decode cL_bests 391 = .ok (.iload 7, 2) := by decide +kernel
theorem dL_bests_393 : decode cL_bests 393 = .ok (.if_icmp .gt 53, 3) := by decide +kernel
theorem dL_bests_396 : decode cL_bests 396 = .ok (.iload 9, 2) := by decide +kernel
theorem dL_bests_398 : decode cL_bests 398 = .ok (.ifCond .eq 44, 3) := by decide +kernel
theorem dL_bests_401 : decode cL_bests 401 = .ok (.aload_n 0, 1) := by decide +kernel
theorem dL_bests_402 : decode cL_bests 402 = .ok (.iload_n 1, 1) := by decide +kernel
theorem dL_bests_403 : decode cL_bests 403 = .ok (.iload 5, 2) := by decide +kernel
theorem dL_bests_405 : decode cL_bests 405 = .ok (.iconst 1, 1) := by decide +kernel
theorem dL_bests_406 : decode cL_bests 406 = .ok (.if_icmp .ne 7, 3) := by decide +kernel
theorem dL_bests_409 : decode cL_bests 409 = .ok (.iconst 1, 1) := by decide +kernel
theorem dL_bests_410 : decode cL_bests 410 = .ok (.goto 4, 3) := by decide +kernel
theorem dL_bests_413 : decode cL_bests 413 = .ok (.iconst 0, 1) := by decide +kernel
theorem dL_bests_414 : decode cL_bests 414 = .ok (.iload 9, 2) := by decide +kernel
theorem dL_bests_416 : decode cL_bests 416 = .ok (.iconst 1, 1) := by decide +kernel
theorem dL_bests_417 : decode cL_bests 417 = .ok (.isub, 1) := by decide +kernel
theorem dL_bests_418 : decode cL_bests 418 = .ok (.invokevirtual 72, 3) := by decide +kernel
theorem dL_bests_421 : decode cL_bests 421 = .ok (.aload_n 0, 1) := by decide +kernel
theorem dL_bests_422 : decode cL_bests 422 = .ok (.iload_n 1, 1) := by decide +kernel
theorem dL_bests_423 : decode cL_bests 423 = .ok (.iload 5, 2) := by decide +kernel
theorem dL_bests_425 : decode cL_bests 425 = .ok (.iconst 1, 1) := by decide +kernel
theorem dL_bests_426 : decode cL_bests 426 = .ok (.if_icmp .ne 7, 3) := by decide +kernel
theorem dL_bests_429 : decode cL_bests 429 = .ok (.iconst 1, 1) := by decide +kernel
theorem dL_bests_430 : decode cL_bests 430 = .ok (.goto 4, 3) := by decide +kernel
theorem dL_bests_433 : decode cL_bests 433 = .ok (.iconst 0, 1) := by decide +kernel
theorem dL_bests_434 : decode cL_bests 434 = .ok (.iload 9, 2) := by decide +kernel
theorem dL_bests_436 : decode cL_bests 436 = .ok (.invokevirtual 72, 3) := by decide +kernel
theorem dL_bests_439 : decode cL_bests 439 = .ok (.if_icmp .lt 7, 3) := by decide +kernel
theorem dL_bests_442 : decode cL_bests 442 = .ok (.iconst 1, 1) := by decide +kernel
theorem dL_bests_443 : decode cL_bests 443 = .ok (.goto 4, 3) := by decide +kernel
theorem dL_bests_446 : decode cL_bests 446 = .ok (.iconst 0, 1) := by decide +kernel
theorem dL_bests_447 : decode cL_bests 447 = .ok (.istore_n 3, 1) := by decide +kernel
theorem dL_bests_448 : decode cL_bests 448 = .ok (.iinc 5 1, 3) := by decide +kernel
theorem dL_bests_451 : decode cL_bests 451 = .ok (.goto (-420), 3) := by decide +kernel
theorem dL_bests_454 : decode cL_bests 454 = .ok (.aload_n 0, 1) := by decide +kernel
theorem dL_bests_455 : decode cL_bests 455 = .ok (.bipush 13, 2) := by decide +kernel
theorem dL_bests_457 : decode cL_bests 457 = .ok (.iload_n 1, 1) := by decide +kernel
theorem dL_bests_458 : decode cL_bests 458 = .ok (.iconst 0, 1) := by decide +kernel
theorem dL_bests_459 : decode cL_bests 459 = .ok (.iconst 0, 1) := by decide +kernel
theorem dL_bests_460 : decode cL_bests 460 = .ok (.iconst 0, 1) := by decide +kernel
theorem dL_bests_461 : decode cL_bests 461 = .ok (.invokestatic 114, 3) := by decide +kernel
theorem dL_bests_464 : decode cL_bests 464 = .ok (.istore 5, 2) := by decide +kernel
theorem dL_bests_466 : decode cL_bests 466 = .ok (.iload_n 3, 1) := by decide +kernel
theorem dL_bests_467 : decode cL_bests 467 = .ok (.ifCond .eq 78, 3) := by decide +kernel
theorem dL_bests_470 : decode cL_bests 470 = .ok (.aload_n 0, 1) := by decide +kernel
theorem dL_bests_471 : decode cL_bests 471 = .ok (.iload_n 1, 1) := by decide +kernel
theorem dL_bests_472 : decode cL_bests 472 = .ok (.iconst 1, 1) := by decide +kernel
theorem dL_bests_473 : decode cL_bests 473 = .ok (.invokevirtual 55, 3) := by decide +kernel
theorem dL_bests_476 : decode cL_bests 476 = .ok (.ifCond .ne 30, 3) := by decide +kernel
theorem dL_bests_479 : decode cL_bests 479 = .ok (.iload 5, 2) := by decide +kernel
theorem dL_bests_481 : decode cL_bests 481 = .ok (.sipush (-8003), 3) := by decide +kernel
theorem dL_bests_484 : decode cL_bests 484 = .ok (.if_icmp .ne 61, 3) := by decide +kernel
theorem dL_bests_487 : decode cL_bests 487 = .ok (.aload_n 0, 1) := by decide +kernel
theorem dL_bests_488 : decode cL_bests 488 = .ok (.bipush 16, 2) := by decide +kernel
theorem dL_bests_490 : decode cL_bests 490 = .ok (.iload_n 1, 1) := by decide +kernel
theorem dL_bests_491 : decode cL_bests 491 = .ok (.iconst 0, 1) := by decide +kernel
theorem dL_bests_492 : decode cL_bests 492 = .ok (.iconst 0, 1) := by decide +kernel
theorem dL_bests_493 : decode cL_bests 493 = .ok (.iconst 0, 1) := by decide +kernel
theorem dL_bests_494 : decode cL_bests 494 = .ok (.invokestatic 114, 3) := by decide +kernel
theorem dL_bests_497 : decode cL_bests 497 = .ok (.sipush (-8003), 3) := by decide +kernel
theorem dL_bests_500 : decode cL_bests 500 = .ok (.if_icmp .ne 45, 3) := by decide +kernel
theorem dL_bests_503 : decode cL_bests 503 = .ok (.goto 38, 3) := by decide +kernel
theorem dL_bests_506 : decode cL_bests 506 = .ok (.iload 5, 2) := by decide +kernel
theorem dL_bests_508 : decode cL_bests 508 = .ok (.ifCond .lt 37, 3) := by decide +kernel
theorem dL_bests_511 : decode cL_bests 511 = .ok (.iload 5, 2) := by decide +kernel
theorem dL_bests_513 : decode cL_bests 513 = .ok (.ifCond .gt 18, 3) := by decide +kernel
theorem dL_bests_516 : decode cL_bests 516 = .ok (.aload_n 0, 1) := by decide +kernel
theorem dL_bests_517 : decode cL_bests 517 = .ok (.iload_n 1, 1) := by decide +kernel
theorem dL_bests_518 : decode cL_bests 518 = .ok (.iconst 0, 1) := by decide +kernel
theorem dL_bests_519 : decode cL_bests 519 = .ok (.invokevirtual 59, 3) := by decide +kernel
theorem dL_bests_522 : decode cL_bests 522 = .ok (.aload_n 0, 1) := by decide +kernel
theorem dL_bests_523 : decode cL_bests 523 = .ok (.iload_n 1, 1) := by decide +kernel
theorem dL_bests_524 : decode cL_bests 524 = .ok (.iconst 1, 1) := by decide +kernel
theorem dL_bests_525 : decode cL_bests 525 = .ok (.invokevirtual 59, 3) := by decide +kernel
theorem dL_bests_528 : decode cL_bests 528 = .ok (.if_icmp .ne 17, 3) := by decide +kernel
theorem dL_bests_531 : decode cL_bests 531 = .ok (.aload_n 0, 1) := by decide +kernel
theorem dL_bests_532 : decode cL_bests 532 = .ok (.iload_n 1, 1) := by decide +kernel
theorem dL_bests_533 : decode cL_bests 533 = .ok (.invokevirtual 79, 3) := by decide +kernel
theorem dL_bests_536 : decode cL_bests 536 = .ok (.iload 4, 2) := by decide +kernel
theorem dL_bests_538 : decode cL_bests 538 = .ok (.if_icmp .gt 7, 3) := by decide +kernel
theorem dL_bests_541 : decode cL_bests 541 = .ok (.iconst 1, 1) := by decide +kernel
theorem dL_bests_542 : decode cL_bests 542 = .ok (.goto 4, 3) := by decide +kernel
theorem dL_bests_545 : decode cL_bests 545 = .ok (.iconst 0, 1) := by decide +kernel
theorem dL_bests_546 : decode cL_bests 546 = .ok (.ireturn, 1) := by decide +kernel
theorem dL_grows_0 : decode cL_grows 0 = .ok (.aload_n 0, 1) := by decide +kernel
theorem dL_grows_1 : decode cL_grows 1 = .ok (.invokestatic 127, 3) := by decide +kernel
theorem dL_grows_4 : decode cL_grows 4 = .ok (.lstore_n 3, 1) := by decide +kernel
theorem dL_grows_5 : decode cL_grows 5 = .ok (.aload_n 0, 1) := by decide +kernel
theorem dL_grows_6 : decode cL_grows 6 = .ok (.invokevirtual 105, 3) := by decide +kernel
theorem dL_grows_9 : decode cL_grows 9 = .ok (.istore 5, 2) := by decide +kernel
theorem dL_grows_11 : decode cL_grows 11 = .ok (.iload_n 1, 1) := by decide +kernel
theorem dL_grows_12 : decode cL_grows 12 = .ok (.iconst 5, 1) := by decide +kernel
theorem dL_grows_13 : decode cL_grows 13 = .ok (.invokestatic 124, 3) := by decide +kernel
theorem dL_grows_16 : decode cL_grows 16 = .ok (.ifCond .ne 89, 3) := by decide +kernel
theorem dL_grows_19 : decode cL_grows 19 = .ok (.aload_n 0, 1) := by decide +kernel
theorem dL_grows_20 : decode cL_grows 20 = .ok (.iconst 0, 1) := by decide +kernel
theorem dL_grows_21 : decode cL_grows 21 = .ok (.iconst 0, 1) := by decide +kernel
theorem dL_grows_22 : decode cL_grows 22 = .ok (.iconst 0, 1) := by decide +kernel
theorem dL_grows_23 : decode cL_grows 23 = .ok (.iconst 0, 1) := by decide +kernel
theorem dL_grows_24 : decode cL_grows 24 = .ok (.iconst 0, 1) := by decide +kernel
theorem dL_grows_25 : decode cL_grows 25 = .ok (.invokestatic 114, 3) := by decide +kernel
theorem dL_grows_28 : decode cL_grows 28 = .ok (.istore 6, 2) := by decide +kernel
theorem dL_grows_30 : decode cL_grows 30 = .ok (.iload 5, 2) := by decide +kernel
theorem dL_grows_32 : decode cL_grows 32 = .ok (.iconst 5, 1) := by decide +kernel
theorem dL_grows_33 : decode cL_grows 33 = .ok (.if_icmp .ne 28, 3) := by decide +kernel
theorem dL_grows_36 : decode cL_grows 36 = .ok (.iload 6, 2) := by decide +kernel
theorem dL_grows_38 : decode cL_grows 38 = .ok (.sipush (-8003), 3) := by decide +kernel
theorem dL_grows_41 : decode cL_grows 41 = .ok (.if_icmp .ne 16, 3) := by decide +kernel
theorem dL_grows_44 : decode cL_grows 44 = .ok (.aload_n 0, 1) := by decide +kernel
theorem dL_grows_45 : decode cL_grows 45 = .ok (.invokestatic 127, 3) := by decide +kernel
theorem dL_grows_48 : decode cL_grows 48 = .ok (.lload_n 3, 1) := by decide +kernel
theorem dL_grows_49 : decode cL_grows 49 = .ok (.lcmp, 1) := by decide +kernel
theorem dL_grows_50 : decode cL_grows 50 = .ok (.ifCond .ne 7, 3) := by decide +kernel
theorem dL_grows_53 : decode cL_grows 53 = .ok (.iconst 1, 1) := by decide +kernel
theorem dL_grows_54 : decode cL_grows 54 = .ok (.goto 50, 3) := by decide +kernel
theorem dL_grows_57 : decode cL_grows 57 = .ok (.iconst 0, 1) := by decide +kernel
theorem dL_grows_58 : decode cL_grows 58 = .ok (.goto 46, 3) := by decide +kernel
theorem dL_grows_61 : decode cL_grows 61 = .ok (.iload 6, 2) := by decide +kernel
theorem dL_grows_63 : decode cL_grows 63 = .ok (.iload 5, 2) := by decide +kernel
theorem dL_grows_65 : decode cL_grows 65 = .ok (.if_icmp .ne 38, 3) := by decide +kernel
theorem dL_grows_68 : decode cL_grows 68 = .ok (.aload_n 0, 1) := by decide +kernel
theorem dL_grows_69 : decode cL_grows 69 = .ok (.invokevirtual 105, 3) := by decide +kernel
theorem dL_grows_72 : decode cL_grows 72 = .ok (.iload 5, 2) := by decide +kernel
theorem dL_grows_74 : decode cL_grows 74 = .ok (.iconst 1, 1) := by decide +kernel
theorem dL_grows_75 : decode cL_grows 75 = .ok (.iadd, 1) := by decide +kernel
theorem dL_grows_76 : decode cL_grows 76 = .ok (.if_icmp .ne 27, 3) := by decide +kernel
theorem dL_grows_79 : decode cL_grows 79 = .ok (.aload_n 0, 1) := by decide +kernel
theorem dL_grows_80 : decode cL_grows 80 = .ok (.iload 5, 2) := by decide +kernel
theorem dL_grows_82 : decode cL_grows 82 = .ok (.invokevirtual 82, 3) := by decide +kernel
theorem dL_grows_85 : decode cL_grows 85 = .ok (.ifCond .ne 18, 3) := by decide +kernel
theorem dL_grows_88 : decode cL_grows 88 = .ok (.aload_n 0, 1) := by decide +kernel
theorem dL_grows_89 : decode cL_grows 89 = .ok (.iload 5, 2) := by decide +kernel
theorem dL_grows_91 : decode cL_grows 91 = .ok (.iconst 1, 1) := by decide +kernel
theorem dL_grows_92 : decode cL_grows 92 = .ok (.invokevirtual 55, 3) := by decide +kernel
theorem dL_grows_95 : decode cL_grows 95 = .ok (.iconst 1, 1) := by decide +kernel
theorem dL_grows_96 : decode cL_grows 96 = .ok (.if_icmp .ne 7, 3) := by decide +kernel
theorem dL_grows_99 : decode cL_grows 99 = .ok (.iconst 1, 1) := by decide +kernel
theorem dL_grows_100 : decode cL_grows 100 = .ok (.goto 4, 3) := by decide +kernel
theorem dL_grows_103 : decode cL_grows 103 = .ok (.iconst 0, 1) := by decide +kernel
theorem dL_grows_104 : decode cL_grows 104 = .ok (.ireturn, 1) := by decide +kernel
theorem dL_grows_105 : decode cL_grows 105 = .ok (.iload_n 2, 1) := by decide +kernel
theorem dL_grows_106 : decode cL_grows 106 = .ok (.ifCond .eq 18, 3) := by decide +kernel
theorem dL_grows_109 : decode cL_grows 109 = .ok (.iload_n 1, 1) := by decide +kernel
theorem dL_grows_110 : decode cL_grows 110 = .ok (.iconst 3, 1) := by decide +kernel
theorem dL_grows_111 : decode cL_grows 111 = .ok (.ishr, 1) := by decide +kernel
theorem dL_grows_112 : decode cL_grows 112 = .ok (.iload 5, 2) := by decide +kernel
theorem dL_grows_114 : decode cL_grows 114 = .ok (.iconst 2, 1) := by decide +kernel
theorem dL_grows_115 : decode cL_grows 115 = .ok (.iadd, 1) := by decide +kernel
theorem dL_grows_116 : decode cL_grows 116 = .ok (.invokestatic 124, 3) := by decide +kernel
theorem dL_grows_119 : decode cL_grows 119 = .ok (.iconst 1, 1) := by decide +kernel
theorem dL_grows_120 : decode cL_grows 120 = .ok (.isub, 1) := by decide +kernel
theorem dL_grows_121 : decode cL_grows 121 = .ok (.goto 11, 3) := by decide +kernel
theorem dL_grows_124 : decode cL_grows 124 = .ok (.iload_n 1, 1) := by decide +kernel
theorem dL_grows_125 : decode cL_grows 125 = .ok (.iconst 3, 1) := by decide +kernel
theorem dL_grows_126 : decode cL_grows 126 = .ok (.ishr, 1) := by decide +kernel
theorem dL_grows_127 : decode cL_grows 127 = .ok (.iload 5, 2) := by decide +kernel
theorem dL_grows_129 : decode cL_grows 129 = .ok (.invokestatic 124, 3) := by decide +kernel
theorem dL_grows_132 : decode cL_grows 132 = .ok (.istore 6, 2) := by decide +kernel
theorem dL_grows_134 : decode cL_grows 134 = .ok (.iload_n 2, 1) := by decide +kernel
theorem dL_grows_135 : decode cL_grows 135 = .ok (.ifCond .eq 17, 3) := by decide +kernel
theorem dL_grows_138 : decode cL_grows 138 = .ok (.iload_n 1, 1) := by decide +kernel
theorem dL_grows_139 : decode cL_grows 139 = .ok (.bipush 6, 2) := by decide +kernel
theorem dL_grows_141 : decode cL_grows 141 = .ok (.ishr, 1) := by decide +kernel
theorem dL_grows_142 : decode cL_grows 142 = .ok (.bipush 6, 2) := by decide +kernel
theorem dL_grows_144 : decode cL_grows 144 = .ok (.invokestatic 124, 3) := by decide +kernel
theorem dL_grows_147 : decode cL_grows 147 = .ok (.iconst 1, 1) := by decide +kernel
theorem dL_grows_148 : decode cL_grows 148 = .ok (.isub, 1) := by decide +kernel
theorem dL_grows_149 : decode cL_grows 149 = .ok (.goto 11, 3) := by decide +kernel
theorem dL_grows_152 : decode cL_grows 152 = .ok (.iload_n 1, 1) := by decide +kernel
theorem dL_grows_153 : decode cL_grows 153 = .ok (.bipush 6, 2) := by decide +kernel
theorem dL_grows_155 : decode cL_grows 155 = .ok (.ishr, 1) := by decide +kernel
theorem dL_grows_156 : decode cL_grows 156 = .ok (.iconst 4, 1) := by decide +kernel
theorem dL_grows_157 : decode cL_grows 157 = .ok (.invokestatic 124, 3) := by decide +kernel
theorem dL_grows_160 : decode cL_grows 160 = .ok (.istore 7, 2) := by decide +kernel
theorem dL_grows_162 : decode cL_grows 162 = .ok (.iload 6, 2) := by decide +kernel
theorem dL_grows_164 : decode cL_grows 164 = .ok (.ifCond .lt 51, 3) := by decide +kernel
theorem dL_grows_167 : decode cL_grows 167 = .ok (.iload 6, 2) := by decide +kernel
theorem dL_grows_169 : decode cL_grows 169 = .ok (.iload 5, 2) := by decide +kernel
theorem dL_grows_171 : decode cL_grows 171 = .ok (.if_icmp .ge 44, 3) := by decide +kernel
theorem dL_grows_174 : decode cL_grows 174 = .ok (.aload_n 0, 1) := by decide +kernel
theorem dL_grows_175 : decode cL_grows 175 = .ok (.iload 6, 2) := by decide +kernel
theorem dL_grows_177 : decode cL_grows 177 = .ok (.invokevirtual 82, 3) := by decide +kernel
theorem dL_grows_180 : decode cL_grows 180 = .ok (.iconst 3, 1) := by decide +kernel
theorem dL_grows_181 : decode cL_grows 181 = .ok (.if_icmp .le 34, 3) := by decide +kernel
theorem dL_grows_184 : decode cL_grows 184 = .ok (.aload_n 0, 1) := by decide +kernel
theorem dL_grows_185 : decode cL_grows 185 = .ok (.iconst 1, 1) := by decide +kernel
theorem dL_grows_186 : decode cL_grows 186 = .ok (.iload 6, 2) := by decide +kernel
theorem dL_grows_188 : decode cL_grows 188 = .ok (.iconst (-1), 1) := by decide +kernel
theorem dL_grows_189 : decode cL_grows 189 = .ok (.iconst 0, 1) := by decide +kernel
theorem dL_grows_190 : decode cL_grows 190 = .ok (.iconst 0, 1) := by decide +kernel
theorem dL_grows_191 : decode cL_grows 191 = .ok (.invokestatic 114, 3) := by decide +kernel
theorem dL_grows_194 : decode cL_grows 194 = .ok (.sipush (-8002), 3) := by decide +kernel
theorem dL_grows_197 : decode cL_grows 197 = .ok (.if_icmp .ne 16, 3) := by decide +kernel
theorem dL_grows_200 : decode cL_grows 200 = .ok (.aload_n 0, 1) := by decide +kernel
theorem dL_grows_201 : decode cL_grows 201 = .ok (.invokestatic 127, 3) := by decide +kernel
theorem dL_grows_204 : decode cL_grows 204 = .ok (.lload_n 3, 1) := by decide +kernel
theorem dL_grows_205 : decode cL_grows 205 = .ok (.lcmp, 1) := by decide +kernel
theorem dL_grows_206 : decode cL_grows 206 = .ok (.ifCond .ne 7, 3) := by decide +kernel
theorem dL_grows_209 : decode cL_grows 209 = .ok (.iconst 1, 1) := by decide +kernel
theorem dL_grows_210 : decode cL_grows 210 = .ok (.goto 4, 3) := by decide +kernel
theorem dL_grows_213 : decode cL_grows 213 = .ok (.iconst 0, 1) := by decide +kernel
theorem dL_grows_214 : decode cL_grows 214 = .ok (.ireturn, 1) := by decide +kernel
theorem dL_grows_215 : decode cL_grows 215 = .ok (.aload_n 0, 1) := by decide +kernel
theorem dL_grows_216 : decode cL_grows 216 = .ok (.iconst 1, 1) := by decide +kernel
theorem dL_grows_217 : decode cL_grows 217 = .ok (.iload 6, 2) := by decide +kernel
theorem dL_grows_219 : decode cL_grows 219 = .ok (.iload 7, 2) := by decide +kernel
theorem dL_grows_221 : decode cL_grows 221 = .ok (.iconst 0, 1) := by decide +kernel
theorem dL_grows_222 : decode cL_grows 222 = .ok (.iconst 0, 1) := by decide +kernel
theorem dL_grows_223 : decode cL_grows 223 = .ok (.invokestatic 114, 3) := by decide +kernel
theorem dL_grows_226 : decode cL_grows 226 = .ok (.istore 8, 2) := by decide +kernel
theorem dL_grows_228 : decode cL_grows 228 = .ok (.iload 6, 2) := by decide +kernel
theorem dL_grows_230 : decode cL_grows 230 = .ok (.ifCond .lt 21, 3) := by decide +kernel
theorem dL_grows_233 : decode cL_grows 233 = .ok (.iload 6, 2) := by decide +kernel
theorem dL_grows_235 : decode cL_grows 235 = .ok (.iload 5, 2) := by decide +kernel
theorem dL_grows_237 : decode cL_grows 237 = .ok (.if_icmp .ge 14, 3) := by decide +kernel
theorem dL_grows_240 : decode cL_grows 240 = .ok (.iload 7, 2) := by decide +kernel
theorem dL_grows_242 : decode cL_grows 242 = .ok (.ifCond .lt 9, 3) := by decide +kernel
theorem dL_grows_245 : decode cL_grows 245 = .ok (.iload 7, 2) := by decide +kernel
theorem dL_grows_247 : decode cL_grows 247 = .ok (.iconst 3, 1) := by decide +kernel
theorem dL_grows_248 : decode cL_grows 248 = .ok (.if_icmp .le 44, 3) := by decide +kernel
theorem dL_grows_251 : decode cL_grows 251 = .ok (.iload 8, 2) := by decide +kernel
theorem dL_grows_253 : decode cL_grows 253 = .ok (.iload 6, 2) := by decide +kernel
theorem dL_grows_255 : decode cL_grows 255 = .ok (.ifCond .lt 10, 3) := by decide +kernel
theorem dL_grows_258 : decode cL_grows 258 = .ok (.iload 6, 2) := by decide +kernel
theorem dL_grows_260 : decode cL_grows 260 = .ok (.iload 5, 2) := by decide +kernel
theorem dL_grows_262 : decode cL_grows 262 = .ok (.if_icmp .lt 9, 3) := by decide +kernel
theorem dL_grows_265 : decode cL_grows 265 = .ok (.sipush (-8001), 3) := by decide +kernel
theorem dL_grows_268 : decode cL_grows 268 = .ok (.goto 6, 3) := by decide +kernel
theorem dL_grows_271 : decode cL_grows 271 = .ok (.sipush (-8002), 3) := by decide +kernel
theorem dL_grows_274 : decode cL_grows 274 = .ok (.if_icmp .ne 16, 3) := by decide +kernel
theorem dL_grows_277 : decode cL_grows 277 = .ok (.aload_n 0, 1) := by decide +kernel
theorem dL_grows_278 : decode cL_grows 278 = .ok (.invokestatic 127, 3) := by decide +kernel
theorem dL_grows_281 : decode cL_grows 281 = .ok (.lload_n 3, 1) := by decide +kernel
theorem dL_grows_282 : decode cL_grows 282 = .ok (.lcmp, 1) := by decide +kernel
theorem dL_grows_283 : decode cL_grows 283 = .ok (.ifCond .ne 7, 3) := by decide +kernel
theorem dL_grows_286 : decode cL_grows 286 = .ok (.iconst 1, 1) := by decide +kernel
theorem dL_grows_287 : decode cL_grows 287 = .ok (.goto 4, 3) := by decide +kernel
theorem dL_grows_290 : decode cL_grows 290 = .ok (.iconst 0, 1) := by decide +kernel
theorem dL_grows_291 : decode cL_grows 291 = .ok (.ireturn, 1) := by decide +kernel
theorem dL_grows_292 : decode cL_grows 292 = .ok (.iload 8, 2) := by decide +kernel
theorem dL_grows_294 : decode cL_grows 294 = .ok (.aload_n 0, 1) := by decide +kernel
theorem dL_grows_295 : decode cL_grows 295 = .ok (.iload 6, 2) := by decide +kernel
theorem dL_grows_297 : decode cL_grows 297 = .ok (.invokevirtual 82, 3) := by decide +kernel
theorem dL_grows_300 : decode cL_grows 300 = .ok (.if_icmp .ne 65, 3) := by decide +kernel
theorem dL_grows_303 : decode cL_grows 303 = .ok (.aload_n 0, 1) := by decide +kernel
theorem dL_grows_304 : decode cL_grows 304 = .ok (.iload 6, 2) := by decide +kernel
theorem dL_grows_306 : decode cL_grows 306 = .ok (.iload 8, 2) := by decide +kernel
theorem dL_grows_308 : decode cL_grows 308 = .ok (.invokevirtual 121, 3) := by decide +kernel
theorem dL_grows_311 : decode cL_grows 311 = .ok (.iload 7, 2) := by decide +kernel
theorem dL_grows_313 : decode cL_grows 313 = .ok (.if_icmp .ne 52, 3) := by decide +kernel
theorem dL_grows_316 : decode cL_grows 316 = .ok (.aload_n 0, 1) := by decide +kernel
theorem dL_grows_317 : decode cL_grows 317 = .ok (.bipush 17, 2) := by decide +kernel
theorem dL_grows_319 : decode cL_grows 319 = .ok (.iload 5, 2) := by decide +kernel
theorem dL_grows_321 : decode cL_grows 321 = .ok (.iconst 0, 1) := by decide +kernel
theorem dL_grows_322 : decode cL_grows 322 = .ok (.iconst 0, 1) := by decide +kernel
theorem dL_grows_323 : decode cL_grows 323 = .ok (.iconst 0, 1) := by decide +kernel
theorem dL_grows_324 : decode cL_grows 324 = .ok (.invokestatic 114, 3) := by decide +kernel
theorem dL_grows_327 : decode cL_grows 327 = .ok (.sipush (-8001), 3) := by decide +kernel
theorem dL_grows_330 : decode cL_grows 330 = .ok (.if_icmp .ne 35, 3) := by decide +kernel
theorem dL_grows_333 : decode cL_grows 333 = .ok (.aload_n 0, 1) := by decide +kernel
theorem dL_grows_334 : decode cL_grows 334 = .ok (.iload 6, 2) := by decide +kernel
theorem dL_grows_336 : decode cL_grows 336 = .ok (.iconst 0, 1) := by decide +kernel
theorem dL_grows_337 : decode cL_grows 337 = .ok (.iload 8, 2) := by decide +kernel
theorem dL_grows_339 : decode cL_grows 339 = .ok (.invokevirtual 37, 3) := by decide +kernel
theorem dL_grows_342 : decode cL_grows 342 = .ok (.iconst (-1), 1) := by decide +kernel
theorem dL_grows_343 : decode cL_grows 343 = .ok (.if_icmp .ne 22, 3) := by decide +kernel
theorem dL_grows_346 : decode cL_grows 346 = .ok (.aload_n 0, 1) := by decide +kernel
theorem dL_grows_347 : decode cL_grows 347 = .ok (.iload 6, 2) := by decide +kernel
theorem dL_grows_349 : decode cL_grows 349 = .ok (.iload 8, 2) := by decide +kernel
theorem dL_grows_351 : decode cL_grows 351 = .ok (.iconst 1, 1) := by decide +kernel
theorem dL_grows_352 : decode cL_grows 352 = .ok (.isub, 1) := by decide +kernel
theorem dL_grows_353 : decode cL_grows 353 = .ok (.iload 8, 2) := by decide +kernel
theorem dL_grows_355 : decode cL_grows 355 = .ok (.invokevirtual 37, 3) := by decide +kernel
theorem dL_grows_358 : decode cL_grows 358 = .ok (.ifCond .ne 7, 3) := by decide +kernel
theorem dL_grows_361 : decode cL_grows 361 = .ok (.iconst 1, 1) := by decide +kernel
theorem dL_grows_362 : decode cL_grows 362 = .ok (.goto 4, 3) := by decide +kernel
theorem dL_grows_365 : decode cL_grows 365 = .ok (.iconst 0, 1) := by decide +kernel
theorem dL_grows_366 : decode cL_grows 366 = .ok (.ireturn, 1) := by decide +kernel
theorem dL_marks_0 : decode cL_marks 0 = .ok (.aload_n 0, 1) := by decide +kernel
theorem dL_marks_1 : decode cL_marks 1 = .ok (.invokestatic 127, 3) := by decide +kernel
theorem dL_marks_4 : decode cL_marks 4 = .ok (.lstore_n 3, 1) := by decide +kernel
theorem dL_marks_5 : decode cL_marks 5 = .ok (.aload_n 0, 1) := by decide +kernel
theorem dL_marks_6 : decode cL_marks 6 = .ok (.invokevirtual 105, 3) := by decide +kernel
theorem dL_marks_9 : decode cL_marks 9 = .ok (.istore 5, 2) := by decide +kernel
theorem dL_marks_11 : decode cL_marks 11 = .ok (.iload_n 2, 1) := by decide +kernel
theorem dL_marks_12 : decode cL_marks 12 = .ok (.ifCond .eq 16, 3) := by decide +kernel
theorem dL_marks_15 : decode cL_marks 15 = .ok (.iload_n 1, 1) := by decide +kernel
theorem dL_marks_16 : decode cL_marks 16 = .ok (.iload 5, 2) := by decide +kernel
theorem dL_marks_18 : decode cL_marks 18 = .ok (.iconst 2, 1) := by decide +kernel
theorem dL_marks_19 : decode cL_marks 19 = .ok (.iadd, 1) := by decide +kernel
theorem dL_marks_20 : decode cL_marks 20 = .ok (.invokestatic 124, 3) := by decide +kernel
theorem dL_marks_23 : decode cL_marks 23 = .ok (.iconst 1, 1) := by decide +kernel
theorem dL_marks_24 : decode cL_marks 24 = .ok (.isub, 1) := by decide +kernel
theorem dL_marks_25 : decode cL_marks 25 = .ok (.goto 9, 3) := by decide +kernel
theorem dL_marks_28 : decode cL_marks 28 = .ok (.iload_n 1, 1) := by decide +kernel
theorem dL_marks_29 : decode cL_marks 29 = .ok (.iload 5, 2) := by decide +kernel
theorem dL_marks_31 : decode cL_marks 31 = .ok (.invokestatic 124, 3) := by decide +kernel
theorem dL_marks_34 : decode cL_marks 34 = .ok (.istore 6, 2) := by decide +kernel
theorem dL_marks_36 : decode cL_marks 36 = .ok (.iload 6, 2) := by decide +kernel
theorem dL_marks_38 : decode cL_marks 38 = .ok (.ifCond .lt 10, 3) := by decide +kernel
theorem dL_marks_41 : decode cL_marks 41 = .ok (.iload 6, 2) := by decide +kernel
theorem dL_marks_43 : decode cL_marks 43 = .ok (.iload 5, 2) := by decide +kernel
theorem dL_marks_45 : decode cL_marks 45 = .ok (.if_icmp .lt 7, 3) := by decide +kernel
theorem dL_marks_48 : decode cL_marks 48 = .ok (.iconst 2, 1) := by decide +kernel
theorem dL_marks_49 : decode cL_marks 49 = .ok (.goto 9, 3) := by decide +kernel
theorem dL_marks_52 : decode cL_marks 52 = .ok (.aload_n 0, 1) := by decide +kernel
theorem dL_marks_53 : decode cL_marks 53 = .ok (.iload 6, 2) := by decide +kernel
theorem dL_marks_55 : decode cL_marks 55 = .ok (.invokevirtual 82, 3) := by decide +kernel
theorem dL_marks_58 : decode cL_marks 58 = .ok (.istore 7, 2) := by decide +kernel
theorem dL_marks_60 : decode cL_marks 60 = .ok (.iload_n 2, 1) := by decide +kernel
theorem dL_marks_61 : decode cL_marks 61 = .ok (.ifCond .eq 16, 3) := by decide +kernel
theorem dL_marks_64 : decode cL_marks 64 = .ok (.iload_n 1, 1) := by decide +kernel
theorem dL_marks_65 : decode cL_marks 65 = .ok (.iconst 3, 1) := by decide +kernel
theorem dL_marks_66 : decode cL_marks 66 = .ok (.ishr, 1) := by decide +kernel
theorem dL_marks_67 : decode cL_marks 67 = .ok (.bipush 9, 2) := by decide +kernel
theorem dL_marks_69 : decode cL_marks 69 = .ok (.invokestatic 124, 3) := by decide +kernel
theorem dL_marks_72 : decode cL_marks 72 = .ok (.iconst 1, 1) := by decide +kernel
theorem dL_marks_73 : decode cL_marks 73 = .ok (.isub, 1) := by decide +kernel
theorem dL_marks_74 : decode cL_marks 74 = .ok (.goto 23, 3) := by decide +kernel
theorem dL_marks_77 : decode cL_marks 77 = .ok (.iconst 1, 1) := by decide +kernel
theorem dL_marks_78 : decode cL_marks 78 = .ok (.iload_n 1, 1) := by decide +kernel
theorem dL_marks_79 : decode cL_marks 79 = .ok (.iconst 3, 1) := by decide +kernel
theorem dL_marks_80 : decode cL_marks 80 = .ok (.ishr, 1) := by decide +kernel
theorem dL_marks_81 : decode cL_marks 81 = .ok (.iload 7, 2) := by decide +kernel
theorem dL_marks_83 : decode cL_marks 83 = .ok (.iconst 1, 1) := by decide +kernel
theorem dL_marks_84 : decode cL_marks 84 = .ok (.if_icmp .ge 7, 3) := by decide +kernel
theorem dL_marks_87 : decode cL_marks 87 = .ok (.iconst 1, 1) := by decide +kernel
theorem dL_marks_88 : decode cL_marks 88 = .ok (.goto 5, 3) := by decide +kernel
theorem dL_marks_91 : decode cL_marks 91 = .ok (.iload 7, 2) := by decide +kernel
theorem dL_marks_93 : decode cL_marks 93 = .ok (.invokestatic 124, 3) := by decide +kernel
theorem dL_marks_96 : decode cL_marks 96 = .ok (.iadd, 1) := by decide +kernel
theorem dL_marks_97 : decode cL_marks 97 = .ok (.istore 8, 2) := by decide +kernel
theorem dL_marks_99 : decode cL_marks 99 = .ok (.iload_n 2, 1) := by decide +kernel
theorem dL_marks_100 : decode cL_marks 100 = .ok (.ifCond .eq 17, 3) := by decide +kernel
theorem dL_marks_103 : decode cL_marks 103 = .ok (.iload_n 1, 1) := by decide +kernel
theorem dL_marks_104 : decode cL_marks 104 = .ok (.bipush 6, 2) := by decide +kernel
theorem dL_marks_106 : decode cL_marks 106 = .ok (.ishr, 1) := by decide +kernel
theorem dL_marks_107 : decode cL_marks 107 = .ok (.bipush 9, 2) := by decide +kernel
theorem dL_marks_109 : decode cL_marks 109 = .ok (.invokestatic 124, 3) := by decide +kernel
theorem dL_marks_112 : decode cL_marks 112 = .ok (.iconst 1, 1) := by decide +kernel
theorem dL_marks_113 : decode cL_marks 113 = .ok (.isub, 1) := by decide +kernel
theorem dL_marks_114 : decode cL_marks 114 = .ok (.goto 14, 3) := by decide +kernel
theorem dL_marks_117 : decode cL_marks 117 = .ok (.iload_n 1, 1) := by decide +kernel
theorem dL_marks_118 : decode cL_marks 118 = .ok (.bipush 6, 2) := by decide +kernel
theorem dL_marks_120 : decode cL_marks 120 = .ok (.ishr, 1) := by decide +kernel
theorem dL_marks_121 : decode cL_marks 121 = .ok (.iload 7, 2) := by decide +kernel
theorem dL_marks_123 : decode cL_marks 123 = .ok (.iconst 1, 1) := by decide +kernel
theorem dL_marks_124 : decode cL_marks 124 = .ok (.iadd, 1) := by decide +kernel
theorem dL_marks_125 : decode cL_marks 125 = .ok (.invokestatic 124, 3) := by decide +kernel
theorem dL_marks_128 : decode cL_marks 128 = .ok (.istore 9, 2) := by decide +kernel
theorem dL_marks_130 : decode cL_marks 130 = .ok (.iload_n 2, 1) := by decide +kernel
theorem dL_marks_131 : decode cL_marks 131 = .ok (.ifCond .eq 17, 3) := by decide +kernel
theorem dL_marks_134 : decode cL_marks 134 = .ok (.iload_n 1, 1) := by decide +kernel
theorem dL_marks_135 : decode cL_marks 135 = .ok (.bipush 9, 2) := by decide +kernel
theorem dL_marks_137 : decode cL_marks 137 = .ok (.ishr, 1) := by decide +kernel
theorem dL_marks_138 : decode cL_marks 138 = .ok (.bipush 6, 2) := by decide +kernel
theorem dL_marks_140 : decode cL_marks 140 = .ok (.invokestatic 124, 3) := by decide +kernel
theorem dL_marks_143 : decode cL_marks 143 = .ok (.iconst 1, 1) := by decide +kernel
theorem dL_marks_144 : decode cL_marks 144 = .ok (.isub, 1) := by decide +kernel
theorem dL_marks_145 : decode cL_marks 145 = .ok (.goto 11, 3) := by decide +kernel
theorem dL_marks_148 : decode cL_marks 148 = .ok (.iload_n 1, 1) := by decide +kernel
theorem dL_marks_149 : decode cL_marks 149 = .ok (.bipush 9, 2) := by decide +kernel
theorem dL_marks_151 : decode cL_marks 151 = .ok (.ishr, 1) := by decide +kernel
theorem dL_marks_152 : decode cL_marks 152 = .ok (.iconst 3, 1) := by decide +kernel
theorem dL_marks_153 : decode cL_marks 153 = .ok (.invokestatic 124, 3) := by decide +kernel
theorem dL_marks_156 : decode cL_marks 156 = .ok (.istore 10, 2) := by decide +kernel
theorem dL_marks_158 : decode cL_marks 158 = .ok (.iload 6, 2) := by decide +kernel
theorem dL_marks_160 : decode cL_marks 160 = .ok (.ifCond .lt 35, 3) := by decide +kernel
theorem dL_marks_163 : decode cL_marks 163 = .ok (.iload 6, 2) := by decide +kernel
theorem dL_marks_165 : decode cL_marks 165 = .ok (.iload 5, 2) := by decide +kernel
theorem dL_marks_167 : decode cL_marks 167 = .ok (.if_icmp .ge 28, 3) := by decide +kernel
theorem dL_marks_170 : decode cL_marks 170 = .ok (.iload 8, 2) := by decide +kernel
theorem dL_marks_172 : decode cL_marks 172 = .ok (.iconst 1, 1) := by decide +kernel
theorem dL_marks_173 : decode cL_marks 173 = .ok (.if_icmp .lt 22, 3) := by decide +kernel
theorem dL_marks_176 : decode cL_marks 176 = .ok (.iload 8, 2) := by decide +kernel
theorem dL_marks_178 : decode cL_marks 178 = .ok (.iload 7, 2) := by decide +kernel
theorem dL_marks_180 : decode cL_marks 180 = .ok (.if_icmp .gt 15, 3) := by decide +kernel
theorem dL_marks_183 : decode cL_marks 183 = .ok (.iload 9, 2) := by decide +kernel
theorem dL_marks_185 : decode cL_marks 185 = .ok (.ifCond .lt 10, 3) := by decide +kernel
theorem dL_marks_188 : decode cL_marks 188 = .ok (.iload 9, 2) := by decide +kernel
theorem dL_marks_190 : decode cL_marks 190 = .ok (.iload 7, 2) := by decide +kernel
theorem dL_marks_192 : decode cL_marks 192 = .ok (.if_icmp .le 7, 3) := by decide +kernel
theorem dL_marks_195 : decode cL_marks 195 = .ok (.iconst 1, 1) := by decide +kernel
theorem dL_marks_196 : decode cL_marks 196 = .ok (.goto 4, 3) := by decide +kernel
theorem dL_marks_199 : decode cL_marks 199 = .ok (.iconst 0, 1) := by decide +kernel
theorem dL_marks_200 : decode cL_marks 200 = .ok (.istore 11, 2) := by decide +kernel
theorem dL_marks_202 : decode cL_marks 202 = .ok (.aload_n 0, 1) := by decide +kernel
theorem dL_marks_203 : decode cL_marks 203 = .ok (.iconst 3, 1) := by decide +kernel
theorem dL_marks_204 : decode cL_marks 204 = .ok (.iload 6, 2) := by decide +kernel
theorem dL_marks_206 : decode cL_marks 206 = .ok (.iload 9, 2) := by decide +kernel
theorem dL_marks_208 : decode cL_marks 208 = .ok (.iload 8, 2) := by decide +kernel
theorem dL_marks_210 : decode cL_marks 210 = .ok (.iload 10, 2) := by decide +kernel
theorem dL_marks_212 : decode cL_marks 212 = .ok (.invokestatic 114, 3) := by decide +kernel
theorem dL_marks_215 : decode cL_marks 215 = .ok (.istore 12, 2) := by decide +kernel
theorem dL_marks_217 : decode cL_marks 217 = .ok (.iload 11, 2) := by decide +kernel
theorem dL_marks_219 : decode cL_marks 219 = .ok (.ifCond .ne 21, 3) := by decide +kernel
theorem dL_marks_222 : decode cL_marks 222 = .ok (.iload 9, 2) := by decide +kernel
theorem dL_marks_224 : decode cL_marks 224 = .ok (.iload 8, 2) := by decide +kernel
theorem dL_marks_226 : decode cL_marks 226 = .ok (.if_icmp .eq 14, 3) := by decide +kernel
theorem dL_marks_229 : decode cL_marks 229 = .ok (.iload 10, 2) := by decide +kernel
theorem dL_marks_231 : decode cL_marks 231 = .ok (.ifCond .lt 9, 3) := by decide +kernel
theorem dL_marks_234 : decode cL_marks 234 = .ok (.iload 10, 2) := by decide +kernel
theorem dL_marks_236 : decode cL_marks 236 = .ok (.iconst 2, 1) := by decide +kernel
theorem dL_marks_237 : decode cL_marks 237 = .ok (.if_icmp .le 107, 3) := by decide +kernel
theorem dL_marks_240 : decode cL_marks 240 = .ok (.iload 12, 2) := by decide +kernel
theorem dL_marks_242 : decode cL_marks 242 = .ok (.iload 11, 2) := by decide +kernel
theorem dL_marks_244 : decode cL_marks 244 = .ok (.ifCond .eq 9, 3) := by decide +kernel
theorem dL_marks_247 : decode cL_marks 247 = .ok (.sipush (-8001), 3) := by decide +kernel
theorem dL_marks_250 : decode cL_marks 250 = .ok (.goto 6, 3) := by decide +kernel
theorem dL_marks_253 : decode cL_marks 253 = .ok (.sipush (-8002), 3) := by decide +kernel
theorem dL_marks_256 : decode cL_marks 256 = .ok (.if_icmp .ne 86, 3) := by decide +kernel
theorem dL_marks_259 : decode cL_marks 259 = .ok (.aload_n 0, 1) := by decide +kernel
theorem dL_marks_260 : decode cL_marks 260 = .ok (.invokestatic 127, 3) := by decide +kernel
theorem dL_marks_263 : decode cL_marks 263 = .ok (.lload_n 3, 1) := by decide +kernel
theorem dL_marks_264 : decode cL_marks 264 = .ok (.lcmp, 1) := by decide +kernel
theorem dL_marks_265 : decode cL_marks 265 = .ok (.ifCond .ne 77, 3) := by decide +kernel
theorem dL_marks_268 : decode cL_marks 268 = .ok (.iload 11, 2) := by decide +kernel
theorem dL_marks_270 : decode cL_marks 270 = .ok (.ifCond .eq 43, 3) := by decide +kernel
theorem dL_marks_273 : decode cL_marks 273 = .ok (.aload_n 0, 1) := by decide +kernel
theorem dL_marks_274 : decode cL_marks 274 = .ok (.iconst 4, 1) := by decide +kernel
theorem dL_marks_275 : decode cL_marks 275 = .ok (.iload 6, 2) := by decide +kernel
theorem dL_marks_277 : decode cL_marks 277 = .ok (.iload 9, 2) := by decide +kernel
theorem dL_marks_279 : decode cL_marks 279 = .ok (.iload 8, 2) := by decide +kernel
theorem dL_marks_281 : decode cL_marks 281 = .ok (.iconst 0, 1) := by decide +kernel
theorem dL_marks_282 : decode cL_marks 282 = .ok (.invokestatic 114, 3) := by decide +kernel
theorem dL_marks_285 : decode cL_marks 285 = .ok (.sipush (-8001), 3) := by decide +kernel
theorem dL_marks_288 : decode cL_marks 288 = .ok (.if_icmp .ne 54, 3) := by decide +kernel
theorem dL_marks_291 : decode cL_marks 291 = .ok (.aload_n 0, 1) := by decide +kernel
theorem dL_marks_292 : decode cL_marks 292 = .ok (.bipush 8, 2) := by decide +kernel
theorem dL_marks_294 : decode cL_marks 294 = .ok (.iload 6, 2) := by decide +kernel
theorem dL_marks_296 : decode cL_marks 296 = .ok (.iload 9, 2) := by decide +kernel
theorem dL_marks_298 : decode cL_marks 298 = .ok (.iload 8, 2) := by decide +kernel
theorem dL_marks_300 : decode cL_marks 300 = .ok (.iconst 0, 1) := by decide +kernel
theorem dL_marks_301 : decode cL_marks 301 = .ok (.invokestatic 114, 3) := by decide +kernel
theorem dL_marks_304 : decode cL_marks 304 = .ok (.sipush (-8001), 3) := by decide +kernel
theorem dL_marks_307 : decode cL_marks 307 = .ok (.if_icmp .ne 35, 3) := by decide +kernel
theorem dL_marks_310 : decode cL_marks 310 = .ok (.goto 28, 3) := by decide +kernel
theorem dL_marks_313 : decode cL_marks 313 = .ok (.iload 9, 2) := by decide +kernel
theorem dL_marks_315 : decode cL_marks 315 = .ok (.iload 8, 2) := by decide +kernel
theorem dL_marks_317 : decode cL_marks 317 = .ok (.if_icmp .ne 21, 3) := by decide +kernel
theorem dL_marks_320 : decode cL_marks 320 = .ok (.aload_n 0, 1) := by decide +kernel
theorem dL_marks_321 : decode cL_marks 321 = .ok (.iconst 4, 1) := by decide +kernel
theorem dL_marks_322 : decode cL_marks 322 = .ok (.iload 6, 2) := by decide +kernel
theorem dL_marks_324 : decode cL_marks 324 = .ok (.iload 9, 2) := by decide +kernel
theorem dL_marks_326 : decode cL_marks 326 = .ok (.iload 8, 2) := by decide +kernel
theorem dL_marks_328 : decode cL_marks 328 = .ok (.iconst 0, 1) := by decide +kernel
theorem dL_marks_329 : decode cL_marks 329 = .ok (.invokestatic 114, 3) := by decide +kernel
theorem dL_marks_332 : decode cL_marks 332 = .ok (.sipush (-8002), 3) := by decide +kernel
theorem dL_marks_335 : decode cL_marks 335 = .ok (.if_icmp .ne 7, 3) := by decide +kernel
theorem dL_marks_338 : decode cL_marks 338 = .ok (.iconst 1, 1) := by decide +kernel
theorem dL_marks_339 : decode cL_marks 339 = .ok (.goto 4, 3) := by decide +kernel
theorem dL_marks_342 : decode cL_marks 342 = .ok (.iconst 0, 1) := by decide +kernel
theorem dL_marks_343 : decode cL_marks 343 = .ok (.ireturn, 1) := by decide +kernel
theorem dL_marks_344 : decode cL_marks 344 = .ok (.iload 12, 2) := by decide +kernel
theorem dL_marks_346 : decode cL_marks 346 = .ok (.sipush (-8003), 3) := by decide +kernel
theorem dL_marks_349 : decode cL_marks 349 = .ok (.if_icmp .ne 24, 3) := by decide +kernel
theorem dL_marks_352 : decode cL_marks 352 = .ok (.iload 10, 2) := by decide +kernel
theorem dL_marks_354 : decode cL_marks 354 = .ok (.iconst 1, 1) := by decide +kernel
theorem dL_marks_355 : decode cL_marks 355 = .ok (.if_icmp .ne 16, 3) := by decide +kernel
theorem dL_marks_358 : decode cL_marks 358 = .ok (.aload_n 0, 1) := by decide +kernel
theorem dL_marks_359 : decode cL_marks 359 = .ok (.invokestatic 127, 3) := by decide +kernel
theorem dL_marks_362 : decode cL_marks 362 = .ok (.lload_n 3, 1) := by decide +kernel
theorem dL_marks_363 : decode cL_marks 363 = .ok (.lcmp, 1) := by decide +kernel
theorem dL_marks_364 : decode cL_marks 364 = .ok (.ifCond .ne 7, 3) := by decide +kernel
theorem dL_marks_367 : decode cL_marks 367 = .ok (.iconst 1, 1) := by decide +kernel
theorem dL_marks_368 : decode cL_marks 368 = .ok (.goto 4, 3) := by decide +kernel
theorem dL_marks_371 : decode cL_marks 371 = .ok (.iconst 0, 1) := by decide +kernel
theorem dL_marks_372 : decode cL_marks 372 = .ok (.ireturn, 1) := by decide +kernel
theorem dL_marks_373 : decode cL_marks 373 = .ok (.aload_n 0, 1) := by decide +kernel
theorem dL_marks_374 : decode cL_marks 374 = .ok (.invokestatic 127, 3) := by decide +kernel
theorem dL_marks_377 : decode cL_marks 377 = .ok (.lstore 13, 2) := by decide +kernel
theorem dL_marks_379 : decode cL_marks 379 = .ok (.iload 12, 2) := by decide +kernel
theorem dL_marks_381 : decode cL_marks 381 = .ok (.ifCond .lt 116, 3) := by decide +kernel
theorem dL_marks_384 : decode cL_marks 384 = .ok (.iload 12, 2) := by decide +kernel
theorem dL_marks_386 : decode cL_marks 386 = .ok (.iconst 3, 1) := by decide +kernel
theorem dL_marks_387 : decode cL_marks 387 = .ok (.if_icmp .ge 110, 3) := by decide +kernel
theorem dL_marks_390 : decode cL_marks 390 = .ok (.aload_n 0, 1) := by decide +kernel
theorem dL_marks_391 : decode cL_marks 391 = .ok (.iload 6, 2) := by decide +kernel
theorem dL_marks_393 : decode cL_marks 393 = .ok (.iload 9, 2) := by decide +kernel
theorem dL_marks_395 : decode cL_marks 395 = .ok (.iload 8, 2) := by decide +kernel
theorem dL_marks_397 : decode cL_marks 397 = .ok (.iload 10, 2) := by decide +kernel
theorem dL_marks_399 : decode cL_marks 399 = .ok (.invokevirtual 33, 3) := by decide +kernel
theorem dL_marks_402 : decode cL_marks 402 = .ok (.iload 10, 2) := by decide +kernel
theorem dL_marks_404 : decode cL_marks 404 = .ok (.if_icmp .ne 93, 3) := by decide +kernel
theorem dL_marks_407 : decode cL_marks 407 = .ok (.iload 10, 2) := by decide +kernel
theorem dL_marks_409 : decode cL_marks 409 = .ok (.iconst 1, 1) := by decide +kernel
theorem dL_marks_410 : decode cL_marks 410 = .ok (.if_icmp .ne 27, 3) := by decide +kernel
theorem dL_marks_413 : decode cL_marks 413 = .ok (.aload_n 0, 1) := by decide +kernel
theorem dL_marks_414 : decode cL_marks 414 = .ok (.iload 6, 2) := by decide +kernel
theorem dL_marks_416 : decode cL_marks 416 = .ok (.iconst 1, 1) := by decide +kernel
theorem dL_marks_417 : decode cL_marks 417 = .ok (.invokevirtual 55, 3) := by decide +kernel
theorem dL_marks_420 : decode cL_marks 420 = .ok (.ifCond .eq 17, 3) := by decide +kernel
theorem dL_marks_423 : decode cL_marks 423 = .ok (.aload_n 0, 1) := by decide +kernel
theorem dL_marks_424 : decode cL_marks 424 = .ok (.iload 6, 2) := by decide +kernel
theorem dL_marks_426 : decode cL_marks 426 = .ok (.iconst 1, 1) := by decide +kernel
theorem dL_marks_427 : decode cL_marks 427 = .ok (.iload 8, 2) := by decide +kernel
theorem dL_marks_429 : decode cL_marks 429 = .ok (.invokevirtual 65, 3) := by decide +kernel
theorem dL_marks_432 : decode cL_marks 432 = .ok (.iload 9, 2) := by decide +kernel
theorem dL_marks_434 : decode cL_marks 434 = .ok (.if_icmp .ne 63, 3) := by decide +kernel
theorem dL_marks_437 : decode cL_marks 437 = .ok (.iload 10, 2) := by decide +kernel
theorem dL_marks_439 : decode cL_marks 439 = .ok (.iconst 2, 1) := by decide +kernel
theorem dL_marks_440 : decode cL_marks 440 = .ok (.if_icmp .ne 27, 3) := by decide +kernel
theorem dL_marks_443 : decode cL_marks 443 = .ok (.aload_n 0, 1) := by decide +kernel
theorem dL_marks_444 : decode cL_marks 444 = .ok (.iload 6, 2) := by decide +kernel
theorem dL_marks_446 : decode cL_marks 446 = .ok (.iconst 1, 1) := by decide +kernel
theorem dL_marks_447 : decode cL_marks 447 = .ok (.invokevirtual 55, 3) := by decide +kernel
theorem dL_marks_450 : decode cL_marks 450 = .ok (.ifCond .eq 17, 3) := by decide +kernel
theorem dL_marks_453 : decode cL_marks 453 = .ok (.aload_n 0, 1) := by decide +kernel
theorem dL_marks_454 : decode cL_marks 454 = .ok (.iload 6, 2) := by decide +kernel
theorem dL_marks_456 : decode cL_marks 456 = .ok (.iconst 1, 1) := by decide +kernel
theorem dL_marks_457 : decode cL_marks 457 = .ok (.iload 8, 2) := by decide +kernel
theorem dL_marks_459 : decode cL_marks 459 = .ok (.invokevirtual 65, 3) := by decide +kernel
theorem dL_marks_462 : decode cL_marks 462 = .ok (.iload 9, 2) := by decide +kernel
theorem dL_marks_464 : decode cL_marks 464 = .ok (.if_icmp .eq 33, 3) := by decide +kernel
theorem dL_marks_467 : decode cL_marks 467 = .ok (.aload_n 0, 1) := by decide +kernel
theorem dL_marks_468 : decode cL_marks 468 = .ok (.iload 6, 2) := by decide +kernel
theorem dL_marks_470 : decode cL_marks 470 = .ok (.iload 9, 2) := by decide +kernel
theorem dL_marks_472 : decode cL_marks 472 = .ok (.iload 8, 2) := by decide +kernel
theorem dL_marks_474 : decode cL_marks 474 = .ok (.iload 12, 2) := by decide +kernel
theorem dL_marks_476 : decode cL_marks 476 = .ok (.invokevirtual 33, 3) := by decide +kernel
theorem dL_marks_479 : decode cL_marks 479 = .ok (.iload 10, 2) := by decide +kernel
theorem dL_marks_481 : decode cL_marks 481 = .ok (.if_icmp .ne 16, 3) := by decide +kernel
theorem dL_marks_484 : decode cL_marks 484 = .ok (.aload_n 0, 1) := by decide +kernel
theorem dL_marks_485 : decode cL_marks 485 = .ok (.invokestatic 127, 3) := by decide +kernel
theorem dL_marks_488 : decode cL_marks 488 = .ok (.lload_n 3, 1) := by decide +kernel
theorem dL_marks_489 : decode cL_marks 489 = .ok (.lcmp, 1) := by decide +kernel
theorem dL_marks_490 : decode cL_marks 490 = .ok (.ifCond .ne 7, 3) := by decide +kernel
theorem dL_marks_493 : decode cL_marks 493 = .ok (.iconst 1, 1) := by decide +kernel
theorem dL_marks_494 : decode cL_marks 494 = .ok (.goto 4, 3) := by decide +kernel
theorem dL_marks_497 : decode cL_marks 497 = .ok (.iconst 0, 1) := by decide +kernel
theorem dL_marks_498 : decode cL_marks 498 = .ok (.istore 15, 2) := by decide +kernel
theorem dL_marks_500 : decode cL_marks 500 = .ok (.iload 15, 2) := by decide +kernel
theorem dL_marks_502 : decode cL_marks 502 = .ok (.ifCond .eq 45, 3) := by decide +kernel
theorem dL_marks_505 : decode cL_marks 505 = .ok (.iload_n 1, 1) := by decide +kernel
theorem dL_marks_506 : decode cL_marks 506 = .ok (.bipush 11, 2) := by decide +kernel
theorem dL_marks_508 : decode cL_marks 508 = .ok (.ishr, 1) := by decide +kernel
theorem dL_marks_509 : decode cL_marks 509 = .ok (.iconst 3, 1) := by decide +kernel
theorem dL_marks_510 : decode cL_marks 510 = .ok (.invokestatic 124, 3) := by decide +kernel
theorem dL_marks_513 : decode cL_marks 513 = .ok (.ifCond .eq 30, 3) := by decide +kernel
theorem dL_marks_516 : decode cL_marks 516 = .ok (.aload_n 0, 1) := by decide +kernel
theorem dL_marks_517 : decode cL_marks 517 = .ok (.iload 6, 2) := by decide +kernel
theorem dL_marks_519 : decode cL_marks 519 = .ok (.iload 9, 2) := by decide +kernel
theorem dL_marks_521 : decode cL_marks 521 = .ok (.iload 8, 2) := by decide +kernel
theorem dL_marks_523 : decode cL_marks 523 = .ok (.iload 10, 2) := by decide +kernel
theorem dL_marks_525 : decode cL_marks 525 = .ok (.invokevirtual 33, 3) := by decide +kernel
theorem dL_marks_528 : decode cL_marks 528 = .ok (.iload 12, 2) := by decide +kernel
theorem dL_marks_530 : decode cL_marks 530 = .ok (.if_icmp .ne 17, 3) := by decide +kernel
theorem dL_marks_533 : decode cL_marks 533 = .ok (.aload_n 0, 1) := by decide +kernel
theorem dL_marks_534 : decode cL_marks 534 = .ok (.invokestatic 127, 3) := by decide +kernel
theorem dL_marks_537 : decode cL_marks 537 = .ok (.lload 13, 2) := by decide +kernel
theorem dL_marks_539 : decode cL_marks 539 = .ok (.lcmp, 1) := by decide +kernel
theorem dL_marks_540 : decode cL_marks 540 = .ok (.ifCond .ne 7, 3) := by decide +kernel
theorem dL_marks_543 : decode cL_marks 543 = .ok (.iconst 1, 1) := by decide +kernel
theorem dL_marks_544 : decode cL_marks 544 = .ok (.goto 4, 3) := by decide +kernel
theorem dL_marks_547 : decode cL_marks 547 = .ok (.iconst 0, 1) := by decide +kernel
theorem dL_marks_548 : decode cL_marks 548 = .ok (.ireturn, 1) := by decide +kernel
theorem dL_weighs_0 : decode cL_weighs 0 = .ok (.aload_n 0, 1) := by decide +kernel
theorem dL_weighs_1 : decode cL_weighs 1 = .ok (.invokestatic 127, 3) := by decide +kernel
theorem dL_weighs_4 : decode cL_weighs 4 = .ok (.lstore_n 3, 1) := by decide +kernel
theorem dL_weighs_5 : decode cL_weighs 5 = .ok (.iload_n 2, 1) := by decide +kernel
theorem dL_weighs_6 : decode cL_weighs 6 = .ok (.ifCond .eq 14, 3) := by decide +kernel
theorem dL_weighs_9 : decode cL_weighs 9 = .ok (.iload_n 1, 1) := by decide +kernel
theorem dL_weighs_10 : decode cL_weighs 10 = .ok (.bipush 32, 2) := by decide +kernel
theorem dL_weighs_12 : decode cL_weighs 12 = .ok (.invokestatic 124, 3) := by decide +kernel
theorem dL_weighs_15 : decode cL_weighs 15 = .ok (.iconst 2, 1) := by decide +kernel
theorem dL_weighs_16 : decode cL_weighs 16 = .ok (.isub, 1) := by decide +kernel
theorem dL_weighs_17 : decode cL_weighs 17 = .ok (.goto 9, 3) := by decide +kernel
theorem dL_weighs_20 : decode cL_weighs 20 = .ok (.iload_n 1, 1) := by decide +kernel
theorem dL_weighs_21 : decode cL_weighs 21 = .ok (.bipush 28, 2) := by decide +kernel
theorem dL_weighs_23 : decode cL_weighs 23 = .ok (.invokestatic 124, 3) := by decide +kernel
theorem dL_weighs_26 : decode cL_weighs 26 = .ok (.istore 5, 2) := by decide +kernel
theorem dL_weighs_28 : decode cL_weighs 28 = .ok (.iload_n 2, 1) := by decide +kernel
theorem dL_weighs_29 : decode cL_weighs 29 = .ok (.ifCond .eq 18, 3) := by decide +kernel
theorem dL_weighs_32 : decode cL_weighs 32 = .ok (.iload_n 1, 1) := by decide +kernel
theorem dL_weighs_33 : decode cL_weighs 33 = .ok (.iconst 5, 1) := by decide +kernel
theorem dL_weighs_34 : decode cL_weighs 34 = .ok (.ishr, 1) := by decide +kernel
theorem dL_weighs_35 : decode cL_weighs 35 = .ok (.sipush 210, 3) := by decide +kernel
theorem dL_weighs_38 : decode cL_weighs 38 = .ok (.invokestatic 124, 3) := by decide +kernel
theorem dL_weighs_41 : decode cL_weighs 41 = .ok (.bipush 105, 2) := by decide +kernel
theorem dL_weighs_43 : decode cL_weighs 43 = .ok (.isub, 1) := by decide +kernel
theorem dL_weighs_44 : decode cL_weighs 44 = .ok (.goto 14, 3) := by decide +kernel
theorem dL_weighs_47 : decode cL_weighs 47 = .ok (.iload_n 1, 1) := by decide +kernel
theorem dL_weighs_48 : decode cL_weighs 48 = .ok (.iconst 5, 1) := by decide +kernel
theorem dL_weighs_49 : decode cL_weighs 49 = .ok (.ishr, 1) := by decide +kernel
theorem dL_weighs_50 : decode cL_weighs 50 = .ok (.bipush 41, 2) := by decide +kernel
theorem dL_weighs_52 : decode cL_weighs 52 = .ok (.invokestatic 124, 3) := by decide +kernel
theorem dL_weighs_55 : decode cL_weighs 55 = .ok (.bipush 20, 2) := by decide +kernel
theorem dL_weighs_57 : decode cL_weighs 57 = .ok (.isub, 1) := by decide +kernel
theorem dL_weighs_58 : decode cL_weighs 58 = .ok (.istore 6, 2) := by decide +kernel
theorem dL_weighs_60 : decode cL_weighs 60 = .ok (.aload_n 0, 1) := by decide +kernel
theorem dL_weighs_61 : decode cL_weighs 61 = .ok (.bipush 18, 2) := by decide +kernel
theorem dL_weighs_63 : decode cL_weighs 63 = .ok (.iload 5, 2) := by decide +kernel
theorem dL_weighs_65 : decode cL_weighs 65 = .ok (.iconst 0, 1) := by decide +kernel
theorem dL_weighs_66 : decode cL_weighs 66 = .ok (.iconst 0, 1) := by decide +kernel
theorem dL_weighs_67 : decode cL_weighs 67 = .ok (.iconst 0, 1) := by decide +kernel
theorem dL_weighs_68 : decode cL_weighs 68 = .ok (.invokestatic 114, 3) := by decide +kernel
theorem dL_weighs_71 : decode cL_weighs 71 = .ok (.istore 7, 2) := by decide +kernel
theorem dL_weighs_73 : decode cL_weighs 73 = .ok (.aload_n 0, 1) := by decide +kernel
theorem dL_weighs_74 : decode cL_weighs 74 = .ok (.iconst 2, 1) := by decide +kernel
theorem dL_weighs_75 : decode cL_weighs 75 = .ok (.iload 5, 2) := by decide +kernel
theorem dL_weighs_77 : decode cL_weighs 77 = .ok (.iload 6, 2) := by decide +kernel
theorem dL_weighs_79 : decode cL_weighs 79 = .ok (.iconst 0, 1) := by decide +kernel
theorem dL_weighs_80 : decode cL_weighs 80 = .ok (.iconst 0, 1) := by decide +kernel
theorem dL_weighs_81 : decode cL_weighs 81 = .ok (.invokestatic 114, 3) := by decide +kernel
theorem dL_weighs_84 : decode cL_weighs 84 = .ok (.istore 8, 2) := by decide +kernel
theorem dL_weighs_86 : decode cL_weighs 86 = .ok (.iload 5, 2) := by decide +kernel
theorem dL_weighs_88 : decode cL_weighs 88 = .ok (.ifCond .lt 24, 3) := by decide +kernel
theorem dL_weighs_91 : decode cL_weighs 91 = .ok (.iload 5, 2) := by decide +kernel
theorem dL_weighs_93 : decode cL_weighs 93 = .ok (.bipush 27, 2) := by decide +kernel
theorem dL_weighs_95 : decode cL_weighs 95 = .ok (.if_icmp .gt 17, 3) := by decide +kernel
theorem dL_weighs_98 : decode cL_weighs 98 = .ok (.iload 6, 2) := by decide +kernel
theorem dL_weighs_100 : decode cL_weighs 100 = .ok (.bipush (-100), 2) := by decide +kernel
theorem dL_weighs_102 : decode cL_weighs 102 = .ok (.if_icmp .lt 10, 3) := by decide +kernel
theorem dL_weighs_105 : decode cL_weighs 105 = .ok (.iload 6, 2) := by decide +kernel
theorem dL_weighs_107 : decode cL_weighs 107 = .ok (.bipush 100, 2) := by decide +kernel
theorem dL_weighs_109 : decode cL_weighs 109 = .ok (.if_icmp .le 78, 3) := by decide +kernel
theorem dL_weighs_112 : decode cL_weighs 112 = .ok (.iload 8, 2) := by decide +kernel
theorem dL_weighs_114 : decode cL_weighs 114 = .ok (.iload 5, 2) := by decide +kernel
theorem dL_weighs_116 : decode cL_weighs 116 = .ok (.ifCond .lt 10, 3) := by decide +kernel
theorem dL_weighs_119 : decode cL_weighs 119 = .ok (.iload 5, 2) := by decide +kernel
theorem dL_weighs_121 : decode cL_weighs 121 = .ok (.bipush 27, 2) := by decide +kernel
theorem dL_weighs_123 : decode cL_weighs 123 = .ok (.if_icmp .le 9, 3) := by decide +kernel
theorem dL_weighs_126 : decode cL_weighs 126 = .ok (.sipush (-8001), 3) := by decide +kernel
theorem dL_weighs_129 : decode cL_weighs 129 = .ok (.goto 6, 3) := by decide +kernel
theorem dL_weighs_132 : decode cL_weighs 132 = .ok (.sipush (-8002), 3) := by decide +kernel
theorem dL_weighs_135 : decode cL_weighs 135 = .ok (.if_icmp .ne 50, 3) := by decide +kernel
theorem dL_weighs_138 : decode cL_weighs 138 = .ok (.iload 5, 2) := by decide +kernel
theorem dL_weighs_140 : decode cL_weighs 140 = .ok (.ifCond .lt 10, 3) := by decide +kernel
theorem dL_weighs_143 : decode cL_weighs 143 = .ok (.iload 5, 2) := by decide +kernel
theorem dL_weighs_145 : decode cL_weighs 145 = .ok (.bipush 27, 2) := by decide +kernel
theorem dL_weighs_147 : decode cL_weighs 147 = .ok (.if_icmp .le 14, 3) := by decide +kernel
theorem dL_weighs_150 : decode cL_weighs 150 = .ok (.iload 7, 2) := by decide +kernel
theorem dL_weighs_152 : decode cL_weighs 152 = .ok (.sipush (-8001), 3) := by decide +kernel
theorem dL_weighs_155 : decode cL_weighs 155 = .ok (.if_icmp .ne 30, 3) := by decide +kernel
theorem dL_weighs_158 : decode cL_weighs 158 = .ok (.goto 14, 3) := by decide +kernel
theorem dL_weighs_161 : decode cL_weighs 161 = .ok (.iload 7, 2) := by decide +kernel
theorem dL_weighs_163 : decode cL_weighs 163 = .ok (.aload_n 0, 1) := by decide +kernel
theorem dL_weighs_164 : decode cL_weighs 164 = .ok (.iload 5, 2) := by decide +kernel
theorem dL_weighs_166 : decode cL_weighs 166 = .ok (.invokevirtual 85, 3) := by decide +kernel
theorem dL_weighs_169 : decode cL_weighs 169 = .ok (.if_icmp .ne 16, 3) := by decide +kernel
theorem dL_weighs_172 : decode cL_weighs 172 = .ok (.aload_n 0, 1) := by decide +kernel
theorem dL_weighs_173 : decode cL_weighs 173 = .ok (.invokestatic 127, 3) := by decide +kernel
theorem dL_weighs_176 : decode cL_weighs 176 = .ok (.lload_n 3, 1) := by decide +kernel
theorem dL_weighs_177 : decode cL_weighs 177 = .ok (.lcmp, 1) := by decide +kernel
theorem dL_weighs_178 : decode cL_weighs 178 = .ok (.ifCond .ne 7, 3) := by decide +kernel
theorem dL_weighs_181 : decode cL_weighs 181 = .ok (.iconst 1, 1) := by decide +kernel
theorem dL_weighs_182 : decode cL_weighs 182 = .ok (.goto 4, 3) := by decide +kernel
theorem dL_weighs_185 : decode cL_weighs 185 = .ok (.iconst 0, 1) := by decide +kernel
theorem dL_weighs_186 : decode cL_weighs 186 = .ok (.ireturn, 1) := by decide +kernel
theorem dL_weighs_187 : decode cL_weighs 187 = .ok (.iload 8, 2) := by decide +kernel
theorem dL_weighs_189 : decode cL_weighs 189 = .ok (.iload 7, 2) := by decide +kernel
theorem dL_weighs_191 : decode cL_weighs 191 = .ok (.if_icmp .ne 18, 3) := by decide +kernel
theorem dL_weighs_194 : decode cL_weighs 194 = .ok (.aload_n 0, 1) := by decide +kernel
theorem dL_weighs_195 : decode cL_weighs 195 = .ok (.iload 5, 2) := by decide +kernel
theorem dL_weighs_197 : decode cL_weighs 197 = .ok (.invokevirtual 85, 3) := by decide +kernel
theorem dL_weighs_200 : decode cL_weighs 200 = .ok (.iload 6, 2) := by decide +kernel
theorem dL_weighs_202 : decode cL_weighs 202 = .ok (.if_icmp .ne 7, 3) := by decide +kernel
theorem dL_weighs_205 : decode cL_weighs 205 = .ok (.iconst 1, 1) := by decide +kernel
theorem dL_weighs_206 : decode cL_weighs 206 = .ok (.goto 4, 3) := by decide +kernel
theorem dL_weighs_209 : decode cL_weighs 209 = .ok (.iconst 0, 1) := by decide +kernel
theorem dL_weighs_210 : decode cL_weighs 210 = .ok (.istore 9, 2) := by decide +kernel
theorem dL_weighs_212 : decode cL_weighs 212 = .ok (.aload_n 0, 1) := by decide +kernel
theorem dL_weighs_213 : decode cL_weighs 213 = .ok (.invokevirtual 45, 3) := by decide +kernel
theorem dL_weighs_216 : decode cL_weighs 216 = .ok (.istore 10, 2) := by decide +kernel
theorem dL_weighs_218 : decode cL_weighs 218 = .ok (.iload 9, 2) := by decide +kernel
theorem dL_weighs_220 : decode cL_weighs 220 = .ok (.ifCond .eq 41, 3) := by decide +kernel
theorem dL_weighs_223 : decode cL_weighs 223 = .ok (.iload 10, 2) := by decide +kernel
theorem dL_weighs_225 : decode cL_weighs 225 = .ok (.ifCond .lt 36, 3) := by decide +kernel
theorem dL_weighs_228 : decode cL_weighs 228 = .ok (.iload 10, 2) := by decide +kernel
theorem dL_weighs_230 : decode cL_weighs 230 = .ok (.bipush 20, 2) := by decide +kernel
theorem dL_weighs_232 : decode cL_weighs 232 = .ok (.if_icmp .ge 29, 3) := by decide +kernel
theorem dL_weighs_235 : decode cL_weighs 235 = .ok (.aload_n 0, 1) := by decide +kernel
theorem dL_weighs_236 : decode cL_weighs 236 = .ok (.invokestatic 127, 3) := by decide +kernel
theorem dL_weighs_239 : decode cL_weighs 239 = .ok (.lload_n 3, 1) := by decide +kernel
theorem dL_weighs_240 : decode cL_weighs 240 = .ok (.lcmp, 1) := by decide +kernel
theorem dL_weighs_241 : decode cL_weighs 241 = .ok (.ifCond .ne 20, 3) := by decide +kernel
theorem dL_weighs_244 : decode cL_weighs 244 = .ok (.aload_n 0, 1) := by decide +kernel
theorem dL_weighs_245 : decode cL_weighs 245 = .ok (.iload 5, 2) := by decide +kernel
theorem dL_weighs_247 : decode cL_weighs 247 = .ok (.iload 6, 2) := by decide +kernel
theorem dL_weighs_249 : decode cL_weighs 249 = .ok (.invokevirtual 30, 3) := by decide +kernel
theorem dL_weighs_252 : decode cL_weighs 252 = .ok (.iload 7, 2) := by decide +kernel
theorem dL_weighs_254 : decode cL_weighs 254 = .ok (.if_icmp .ne 7, 3) := by decide +kernel
theorem dL_weighs_257 : decode cL_weighs 257 = .ok (.iconst 1, 1) := by decide +kernel
theorem dL_weighs_258 : decode cL_weighs 258 = .ok (.goto 4, 3) := by decide +kernel
theorem dL_weighs_261 : decode cL_weighs 261 = .ok (.iconst 0, 1) := by decide +kernel
theorem dL_weighs_262 : decode cL_weighs 262 = .ok (.istore 9, 2) := by decide +kernel
theorem dL_weighs_264 : decode cL_weighs 264 = .ok (.iload 9, 2) := by decide +kernel
theorem dL_weighs_266 : decode cL_weighs 266 = .ok (.ifCond .eq 34, 3) := by decide +kernel
theorem dL_weighs_269 : decode cL_weighs 269 = .ok (.iload_n 1, 1) := by decide +kernel
theorem dL_weighs_270 : decode cL_weighs 270 = .ok (.bipush 11, 2) := by decide +kernel
theorem dL_weighs_272 : decode cL_weighs 272 = .ok (.ishr, 1) := by decide +kernel
theorem dL_weighs_273 : decode cL_weighs 273 = .ok (.iconst 4, 1) := by decide +kernel
theorem dL_weighs_274 : decode cL_weighs 274 = .ok (.invokestatic 124, 3) := by decide +kernel
theorem dL_weighs_277 : decode cL_weighs 277 = .ok (.ifCond .gt 19, 3) := by decide +kernel
theorem dL_weighs_280 : decode cL_weighs 280 = .ok (.aload_n 0, 1) := by decide +kernel
theorem dL_weighs_281 : decode cL_weighs 281 = .ok (.invokevirtual 45, 3) := by decide +kernel
theorem dL_weighs_284 : decode cL_weighs 284 = .ok (.ifCond .lt 16, 3) := by decide +kernel
theorem dL_weighs_287 : decode cL_weighs 287 = .ok (.aload_n 0, 1) := by decide +kernel
theorem dL_weighs_288 : decode cL_weighs 288 = .ok (.invokestatic 127, 3) := by decide +kernel
theorem dL_weighs_291 : decode cL_weighs 291 = .ok (.lload_n 3, 1) := by decide +kernel
theorem dL_weighs_292 : decode cL_weighs 292 = .ok (.lcmp, 1) := by decide +kernel
theorem dL_weighs_293 : decode cL_weighs 293 = .ok (.ifCond .ne 7, 3) := by decide +kernel
theorem dL_weighs_296 : decode cL_weighs 296 = .ok (.iconst 1, 1) := by decide +kernel
theorem dL_weighs_297 : decode cL_weighs 297 = .ok (.goto 4, 3) := by decide +kernel
theorem dL_weighs_300 : decode cL_weighs 300 = .ok (.iconst 0, 1) := by decide +kernel
theorem dL_weighs_301 : decode cL_weighs 301 = .ok (.ireturn, 1) := by decide +kernel
theorem dL_mends_0 : decode cL_mends 0 = .ok (.iload_n 1, 1) := by decide +kernel
theorem dL_mends_1 : decode cL_mends 1 = .ok (.aload_n 0, 1) := by decide +kernel
theorem dL_mends_2 : decode cL_mends 2 = .ok (.invokevirtual 105, 3) := by decide +kernel
theorem dL_mends_5 : decode cL_mends 5 = .ok (.invokestatic 124, 3) := by decide +kernel
theorem dL_mends_8 : decode cL_mends 8 = .ok (.istore_n 2, 1) := by decide +kernel
theorem dL_mends_9 : decode cL_mends 9 = .ok (.aload_n 0, 1) := by decide +kernel
theorem dL_mends_10 : decode cL_mends 10 = .ok (.iload_n 2, 1) := by decide +kernel
theorem dL_mends_11 : decode cL_mends 11 = .ok (.invokevirtual 82, 3) := by decide +kernel
theorem dL_mends_14 : decode cL_mends 14 = .ok (.istore_n 3, 1) := by decide +kernel
theorem dL_mends_15 : decode cL_mends 15 = .ok (.iconst 1, 1) := by decide +kernel
theorem dL_mends_16 : decode cL_mends 16 = .ok (.istore 4, 2) := by decide +kernel
theorem dL_mends_18 : decode cL_mends 18 = .ok (.iconst 1, 1) := by decide +kernel
theorem dL_mends_19 : decode cL_mends 19 = .ok (.istore 5, 2) := by decide +kernel
theorem dL_mends_21 : decode cL_mends 21 = .ok (.iload 5, 2) := by decide +kernel
theorem dL_mends_23 : decode cL_mends 23 = .ok (.iload_n 3, 1) := by decide +kernel
theorem dL_mends_24 : decode cL_mends 24 = .ok (.if_icmp .gt 60, 3) := by decide +kernel
theorem dL_mends_27 : decode cL_mends 27 = .ok (.iload 4, 2) := by decide +kernel
theorem dL_mends_29 : decode cL_mends 29 = .ok (.ifCond .eq 55, 3) := by decide +kernel
theorem dL_mends_32 : decode cL_mends 32 = .ok (.aload_n 0, 1) := by decide +kernel
theorem dL_mends_33 : decode cL_mends 33 = .ok (.iload_n 2, 1) := by decide +kernel
theorem dL_mends_34 : decode cL_mends 34 = .ok (.iload_n 1, 1) := by decide +kernel
theorem dL_mends_35 : decode cL_mends 35 = .ok (.iconst 2, 1) := by decide +kernel
theorem dL_mends_36 : decode cL_mends 36 = .ok (.iload 5, 2) := by decide +kernel
theorem dL_mends_38 : decode cL_mends 38 = .ok (.imul, 1) := by decide +kernel
theorem dL_mends_39 : decode cL_mends 39 = .ok (.ishr, 1) := by decide +kernel
theorem dL_mends_40 : decode cL_mends 40 = .ok (.iload 5, 2) := by decide +kernel
theorem dL_mends_42 : decode cL_mends 42 = .ok (.invokestatic 124, 3) := by decide +kernel
theorem dL_mends_45 : decode cL_mends 45 = .ok (.iload 5, 2) := by decide +kernel
theorem dL_mends_47 : decode cL_mends 47 = .ok (.invokevirtual 37, 3) := by decide +kernel
theorem dL_mends_50 : decode cL_mends 50 = .ok (.istore 6, 2) := by decide +kernel
theorem dL_mends_52 : decode cL_mends 52 = .ok (.iload 6, 2) := by decide +kernel
theorem dL_mends_54 : decode cL_mends 54 = .ok (.iconst (-1), 1) := by decide +kernel
theorem dL_mends_55 : decode cL_mends 55 = .ok (.if_icmp .lt 20, 3) := by decide +kernel
theorem dL_mends_58 : decode cL_mends 58 = .ok (.iload 6, 2) := by decide +kernel
theorem dL_mends_60 : decode cL_mends 60 = .ok (.iload_n 3, 1) := by decide +kernel
theorem dL_mends_61 : decode cL_mends 61 = .ok (.if_icmp .gt 14, 3) := by decide +kernel
theorem dL_mends_64 : decode cL_mends 64 = .ok (.iload 6, 2) := by decide +kernel
theorem dL_mends_66 : decode cL_mends 66 = .ok (.iload 5, 2) := by decide +kernel
theorem dL_mends_68 : decode cL_mends 68 = .ok (.if_icmp .eq 7, 3) := by decide +kernel
theorem dL_mends_71 : decode cL_mends 71 = .ok (.iconst 1, 1) := by decide +kernel
theorem dL_mends_72 : decode cL_mends 72 = .ok (.goto 4, 3) := by decide +kernel
theorem dL_mends_75 : decode cL_mends 75 = .ok (.iconst 0, 1) := by decide +kernel
theorem dL_mends_76 : decode cL_mends 76 = .ok (.istore 4, 2) := by decide +kernel
theorem dL_mends_78 : decode cL_mends 78 = .ok (.iinc 5 1, 3) := by decide +kernel
theorem dL_mends_81 : decode cL_mends 81 = .ok (.goto (-60), 3) := by decide +kernel
theorem dL_mends_84 : decode cL_mends 84 = .ok (.aload_n 0, 1) := by decide +kernel
theorem dL_mends_85 : decode cL_mends 85 = .ok (.invokestatic 127, 3) := by decide +kernel
theorem dL_mends_88 : decode cL_mends 88 = .ok (.lstore 5, 2) := by decide +kernel
theorem dL_mends_90 : decode cL_mends 90 = .ok (.aload_n 0, 1) := by decide +kernel
theorem dL_mends_91 : decode cL_mends 91 = .ok (.invokevirtual 88, 3) := by decide +kernel
theorem dL_mends_94 : decode cL_mends 94 = .ok (.istore 7, 2) := by decide +kernel
theorem dL_mends_96 : decode cL_mends 96 = .ok (.aload_n 0, 1) := by decide +kernel
theorem dL_mends_97 : decode cL_mends 97 = .ok (.iload_n 2, 1) := by decide +kernel
theorem dL_mends_98 : decode cL_mends 98 = .ok (.iconst 1, 1) := by decide +kernel
theorem dL_mends_99 : decode cL_mends 99 = .ok (.invokevirtual 55, 3) := by decide +kernel
theorem dL_mends_102 : decode cL_mends 102 = .ok (.ifCond .ne 39, 3) := by decide +kernel
theorem dL_mends_105 : decode cL_mends 105 = .ok (.iload 4, 2) := by decide +kernel
theorem dL_mends_107 : decode cL_mends 107 = .ok (.ifCond .eq 32, 3) := by decide +kernel
theorem dL_mends_110 : decode cL_mends 110 = .ok (.aload_n 0, 1) := by decide +kernel
theorem dL_mends_111 : decode cL_mends 111 = .ok (.iconst 5, 1) := by decide +kernel
theorem dL_mends_112 : decode cL_mends 112 = .ok (.iload_n 2, 1) := by decide +kernel
theorem dL_mends_113 : decode cL_mends 113 = .ok (.iconst 0, 1) := by decide +kernel
theorem dL_mends_114 : decode cL_mends 114 = .ok (.iconst 0, 1) := by decide +kernel
theorem dL_mends_115 : decode cL_mends 115 = .ok (.iconst 0, 1) := by decide +kernel
theorem dL_mends_116 : decode cL_mends 116 = .ok (.invokestatic 114, 3) := by decide +kernel
theorem dL_mends_119 : decode cL_mends 119 = .ok (.sipush (-8003), 3) := by decide +kernel
theorem dL_mends_122 : decode cL_mends 122 = .ok (.if_icmp .ne 17, 3) := by decide +kernel
theorem dL_mends_125 : decode cL_mends 125 = .ok (.aload_n 0, 1) := by decide +kernel
theorem dL_mends_126 : decode cL_mends 126 = .ok (.invokestatic 127, 3) := by decide +kernel
theorem dL_mends_129 : decode cL_mends 129 = .ok (.lload 5, 2) := by decide +kernel
theorem dL_mends_131 : decode cL_mends 131 = .ok (.lcmp, 1) := by decide +kernel
theorem dL_mends_132 : decode cL_mends 132 = .ok (.ifCond .ne 7, 3) := by decide +kernel
theorem dL_mends_135 : decode cL_mends 135 = .ok (.iconst 1, 1) := by decide +kernel
theorem dL_mends_136 : decode cL_mends 136 = .ok (.goto 4, 3) := by decide +kernel
theorem dL_mends_139 : decode cL_mends 139 = .ok (.iconst 0, 1) := by decide +kernel
theorem dL_mends_140 : decode cL_mends 140 = .ok (.ireturn, 1) := by decide +kernel
theorem dL_mends_141 : decode cL_mends 141 = .ok (.iconst 0, 1) := by decide +kernel
theorem dL_mends_142 : decode cL_mends 142 = .ok (.istore 8, 2) := by decide +kernel
theorem dL_mends_144 : decode cL_mends 144 = .ok (.iconst 1, 1) := by decide +kernel
theorem dL_mends_145 : decode cL_mends 145 = .ok (.istore 9, 2) := by decide +kernel
theorem dL_mends_147 : decode cL_mends 147 = .ok (.iconst 0, 1) := by decide +kernel
theorem dL_mends_148 : decode cL_mends 148 = .ok (.istore 10, 2) := by decide +kernel
theorem dL_mends_150 : decode cL_mends 150 = .ok (.iload 10, 2) := by decide +kernel
theorem dL_mends_152 : decode cL_mends 152 = .ok (.iconst 4, 1) := by decide +kernel
theorem dL_mends_153 : decode cL_mends 153 = .ok (.if_icmp .ge 64, 3) := by decide +kernel
theorem dL_mends_156 : decode cL_mends 156 = .ok (.iload 9, 2) := by decide +kernel
theorem dL_mends_158 : decode cL_mends 158 = .ok (.ifCond .le 59, 3) := by decide +kernel
theorem dL_mends_161 : decode cL_mends 161 = .ok (.iload 4, 2) := by decide +kernel
theorem dL_mends_163 : decode cL_mends 163 = .ok (.ifCond .eq 54, 3) := by decide +kernel
theorem dL_mends_166 : decode cL_mends 166 = .ok (.aload_n 0, 1) := by decide +kernel
theorem dL_mends_167 : decode cL_mends 167 = .ok (.iload_n 2, 1) := by decide +kernel
theorem dL_mends_168 : decode cL_mends 168 = .ok (.invokevirtual 79, 3) := by decide +kernel
theorem dL_mends_171 : decode cL_mends 171 = .ok (.istore 11, 2) := by decide +kernel
theorem dL_mends_173 : decode cL_mends 173 = .ok (.aload_n 0, 1) := by decide +kernel
theorem dL_mends_174 : decode cL_mends 174 = .ok (.iload_n 2, 1) := by decide +kernel
theorem dL_mends_175 : decode cL_mends 175 = .ok (.invokevirtual 41, 3) := by decide +kernel
theorem dL_mends_178 : decode cL_mends 178 = .ok (.istore 9, 2) := by decide +kernel
theorem dL_mends_180 : decode cL_mends 180 = .ok (.iinc 8 1, 3) := by decide +kernel
theorem dL_mends_183 : decode cL_mends 183 = .ok (.iload 9, 2) := by decide +kernel
theorem dL_mends_185 : decode cL_mends 185 = .ok (.iload_n 3, 1) := by decide +kernel
theorem dL_mends_186 : decode cL_mends 186 = .ok (.iload 11, 2) := by decide +kernel
theorem dL_mends_188 : decode cL_mends 188 = .ok (.isub, 1) := by decide +kernel
theorem dL_mends_189 : decode cL_mends 189 = .ok (.if_icmp .ne 19, 3) := by decide +kernel
theorem dL_mends_192 : decode cL_mends 192 = .ok (.aload_n 0, 1) := by decide +kernel
theorem dL_mends_193 : decode cL_mends 193 = .ok (.invokevirtual 88, 3) := by decide +kernel
theorem dL_mends_196 : decode cL_mends 196 = .ok (.iload 7, 2) := by decide +kernel
theorem dL_mends_198 : decode cL_mends 198 = .ok (.iload 8, 2) := by decide +kernel
theorem dL_mends_200 : decode cL_mends 200 = .ok (.iadd, 1) := by decide +kernel
theorem dL_mends_201 : decode cL_mends 201 = .ok (.if_icmp .ne 7, 3) := by decide +kernel
theorem dL_mends_204 : decode cL_mends 204 = .ok (.iconst 1, 1) := by decide +kernel
theorem dL_mends_205 : decode cL_mends 205 = .ok (.goto 4, 3) := by decide +kernel
theorem dL_mends_208 : decode cL_mends 208 = .ok (.iconst 0, 1) := by decide +kernel
theorem dL_mends_209 : decode cL_mends 209 = .ok (.istore 4, 2) := by decide +kernel
theorem dL_mends_211 : decode cL_mends 211 = .ok (.iinc 10 1, 3) := by decide +kernel
theorem dL_mends_214 : decode cL_mends 214 = .ok (.goto (-64), 3) := by decide +kernel
theorem dL_mends_217 : decode cL_mends 217 = .ok (.aload_n 0, 1) := by decide +kernel
theorem dL_mends_218 : decode cL_mends 218 = .ok (.invokestatic 101, 3) := by decide +kernel
theorem dL_mends_221 : decode cL_mends 221 = .ok (.lstore 10, 2) := by decide +kernel
theorem dL_mends_223 : decode cL_mends 223 = .ok (.aload_n 0, 1) := by decide +kernel
theorem dL_mends_224 : decode cL_mends 224 = .ok (.invokevirtual 45, 3) := by decide +kernel
theorem dL_mends_227 : decode cL_mends 227 = .ok (.istore 12, 2) := by decide +kernel
theorem dL_mends_229 : decode cL_mends 229 = .ok (.iload 4, 2) := by decide +kernel
theorem dL_mends_231 : decode cL_mends 231 = .ok (.ifCond .eq 37, 3) := by decide +kernel
theorem dL_mends_234 : decode cL_mends 234 = .ok (.aload_n 0, 1) := by decide +kernel
theorem dL_mends_235 : decode cL_mends 235 = .ok (.invokevirtual 88, 3) := by decide +kernel
theorem dL_mends_238 : decode cL_mends 238 = .ok (.iload 7, 2) := by decide +kernel
theorem dL_mends_240 : decode cL_mends 240 = .ok (.iload 8, 2) := by decide +kernel
theorem dL_mends_242 : decode cL_mends 242 = .ok (.iadd, 1) := by decide +kernel
theorem dL_mends_243 : decode cL_mends 243 = .ok (.iconst 1, 1) := by decide +kernel
theorem dL_mends_244 : decode cL_mends 244 = .ok (.isub, 1) := by decide +kernel
theorem dL_mends_245 : decode cL_mends 245 = .ok (.if_icmp .ne 23, 3) := by decide +kernel
theorem dL_mends_248 : decode cL_mends 248 = .ok (.iload 12, 2) := by decide +kernel
theorem dL_mends_250 : decode cL_mends 250 = .ok (.iload 8, 2) := by decide +kernel
theorem dL_mends_252 : decode cL_mends 252 = .ok (.iconst 1, 1) := by decide +kernel
theorem dL_mends_253 : decode cL_mends 253 = .ok (.isub, 1) := by decide +kernel
theorem dL_mends_254 : decode cL_mends 254 = .ok (.if_icmp .lt 14, 3) := by decide +kernel
theorem dL_mends_257 : decode cL_mends 257 = .ok (.iload 12, 2) := by decide +kernel
theorem dL_mends_259 : decode cL_mends 259 = .ok (.bipush 20, 2) := by decide +kernel
theorem dL_mends_261 : decode cL_mends 261 = .ok (.if_icmp .ge 7, 3) := by decide +kernel
theorem dL_mends_264 : decode cL_mends 264 = .ok (.iconst 1, 1) := by decide +kernel
theorem dL_mends_265 : decode cL_mends 265 = .ok (.goto 4, 3) := by decide +kernel
theorem dL_mends_268 : decode cL_mends 268 = .ok (.iconst 0, 1) := by decide +kernel
theorem dL_mends_269 : decode cL_mends 269 = .ok (.istore 4, 2) := by decide +kernel
theorem dL_mends_271 : decode cL_mends 271 = .ok (.iconst 1, 1) := by decide +kernel
theorem dL_mends_272 : decode cL_mends 272 = .ok (.istore 13, 2) := by decide +kernel
theorem dL_mends_274 : decode cL_mends 274 = .ok (.iload 13, 2) := by decide +kernel
theorem dL_mends_276 : decode cL_mends 276 = .ok (.iload 8, 2) := by decide +kernel
theorem dL_mends_278 : decode cL_mends 278 = .ok (.if_icmp .ge 33, 3) := by decide +kernel
theorem dL_mends_281 : decode cL_mends 281 = .ok (.iload 4, 2) := by decide +kernel
theorem dL_mends_283 : decode cL_mends 283 = .ok (.ifCond .eq 28, 3) := by decide +kernel
theorem dL_mends_286 : decode cL_mends 286 = .ok (.aload_n 0, 1) := by decide +kernel
theorem dL_mends_287 : decode cL_mends 287 = .ok (.invokevirtual 45, 3) := by decide +kernel
theorem dL_mends_290 : decode cL_mends 290 = .ok (.iload 12, 2) := by decide +kernel
theorem dL_mends_292 : decode cL_mends 292 = .ok (.iload 13, 2) := by decide +kernel
theorem dL_mends_294 : decode cL_mends 294 = .ok (.isub, 1) := by decide +kernel
theorem dL_mends_295 : decode cL_mends 295 = .ok (.if_icmp .ne 7, 3) := by decide +kernel
theorem dL_mends_298 : decode cL_mends 298 = .ok (.iconst 1, 1) := by decide +kernel
theorem dL_mends_299 : decode cL_mends 299 = .ok (.goto 4, 3) := by decide +kernel
theorem dL_mends_302 : decode cL_mends 302 = .ok (.iconst 0, 1) := by decide +kernel
theorem dL_mends_303 : decode cL_mends 303 = .ok (.istore 4, 2) := by decide +kernel
theorem dL_mends_305 : decode cL_mends 305 = .ok (.iinc 13 1, 3) := by decide +kernel
theorem dL_mends_308 : decode cL_mends 308 = .ok (.goto (-34), 3) := by decide +kernel
theorem dL_mends_311 : decode cL_mends 311 = .ok (.iload 4, 2) := by decide +kernel
theorem dL_mends_313 : decode cL_mends 313 = .ok (.ifCond .eq 17, 3) := by decide +kernel
theorem dL_mends_316 : decode cL_mends 316 = .ok (.aload_n 0, 1) := by decide +kernel
theorem dL_mends_317 : decode cL_mends 317 = .ok (.invokestatic 127, 3) := by decide +kernel
theorem dL_mends_320 : decode cL_mends 320 = .ok (.lload 5, 2) := by decide +kernel
theorem dL_mends_322 : decode cL_mends 322 = .ok (.lcmp, 1) := by decide +kernel
theorem dL_mends_323 : decode cL_mends 323 = .ok (.ifCond .ne 7, 3) := by decide +kernel
theorem dL_mends_326 : decode cL_mends 326 = .ok (.iconst 1, 1) := by decide +kernel
theorem dL_mends_327 : decode cL_mends 327 = .ok (.goto 4, 3) := by decide +kernel
theorem dL_mends_330 : decode cL_mends 330 = .ok (.iconst 0, 1) := by decide +kernel
theorem dL_mends_331 : decode cL_mends 331 = .ok (.istore 4, 2) := by decide +kernel
theorem dL_mends_333 : decode cL_mends 333 = .ok (.iconst 0, 1) := by decide +kernel
theorem dL_mends_334 : decode cL_mends 334 = .ok (.istore 13, 2) := by decide +kernel
theorem dL_mends_336 : decode cL_mends 336 = .ok (.iload 13, 2) := by decide +kernel
theorem dL_mends_338 : decode cL_mends 338 = .ok (.iload 8, 2) := by decide +kernel
theorem dL_mends_340 : decode cL_mends 340 = .ok (.if_icmp .ge 59, 3) := by decide +kernel
theorem dL_mends_343 : decode cL_mends 343 = .ok (.iload 4, 2) := by decide +kernel
theorem dL_mends_345 : decode cL_mends 345 = .ok (.ifCond .eq 54, 3) := by decide +kernel
theorem dL_mends_348 : decode cL_mends 348 = .ok (.iload_n 1, 1) := by decide +kernel
theorem dL_mends_349 : decode cL_mends 349 = .ok (.bipush 9, 2) := by decide +kernel
theorem dL_mends_351 : decode cL_mends 351 = .ok (.ishr, 1) := by decide +kernel
theorem dL_mends_352 : decode cL_mends 352 = .ok (.iconst 2, 1) := by decide +kernel
theorem dL_mends_353 : decode cL_mends 353 = .ok (.invokestatic 124, 3) := by decide +kernel
theorem dL_mends_356 : decode cL_mends 356 = .ok (.ifCond .ne 43, 3) := by decide +kernel
theorem dL_mends_359 : decode cL_mends 359 = .ok (.aload_n 0, 1) := by decide +kernel
theorem dL_mends_360 : decode cL_mends 360 = .ok (.iload_n 2, 1) := by decide +kernel
theorem dL_mends_361 : decode cL_mends 361 = .ok (.invokevirtual 41, 3) := by decide +kernel
theorem dL_mends_364 : decode cL_mends 364 = .ok (.ifCond .lt 26, 3) := by decide +kernel
theorem dL_mends_367 : decode cL_mends 367 = .ok (.iload 13, 2) := by decide +kernel
theorem dL_mends_369 : decode cL_mends 369 = .ok (.iload 8, 2) := by decide +kernel
theorem dL_mends_371 : decode cL_mends 371 = .ok (.iconst 1, 1) := by decide +kernel
theorem dL_mends_372 : decode cL_mends 372 = .ok (.isub, 1) := by decide +kernel
theorem dL_mends_373 : decode cL_mends 373 = .ok (.if_icmp .lt 13, 3) := by decide +kernel
theorem dL_mends_376 : decode cL_mends 376 = .ok (.aload_n 0, 1) := by decide +kernel
theorem dL_mends_377 : decode cL_mends 377 = .ok (.invokestatic 101, 3) := by decide +kernel
theorem dL_mends_380 : decode cL_mends 380 = .ok (.lload 10, 2) := by decide +kernel
theorem dL_mends_382 : decode cL_mends 382 = .ok (.lcmp, 1) := by decide +kernel
theorem dL_mends_383 : decode cL_mends 383 = .ok (.ifCond .ne 7, 3) := by decide +kernel
theorem dL_mends_386 : decode cL_mends 386 = .ok (.iconst 1, 1) := by decide +kernel
theorem dL_mends_387 : decode cL_mends 387 = .ok (.goto 4, 3) := by decide +kernel
theorem dL_mends_390 : decode cL_mends 390 = .ok (.iconst 0, 1) := by decide +kernel
theorem dL_mends_391 : decode cL_mends 391 = .ok (.istore 4, 2) := by decide +kernel
theorem dL_mends_393 : decode cL_mends 393 = .ok (.iinc 13 1, 3) := by decide +kernel
theorem dL_mends_396 : decode cL_mends 396 = .ok (.goto (-60), 3) := by decide +kernel
theorem dL_mends_399 : decode cL_mends 399 = .ok (.iload 4, 2) := by decide +kernel
theorem dL_mends_401 : decode cL_mends 401 = .ok (.ireturn, 1) := by decide +kernel
