/-! decode rows of the law -/
theorem dL_put_0 : decode cL_put 0 = .ok (.aload 5, 2) := by decide +kernel
theorem dL_put_2 : decode cL_put 2 = .ok (.iconst 0, 1) := by decide +kernel
theorem dL_put_3 : decode cL_put 3 = .ok (.aload_n 0, 1) := by decide +kernel
theorem dL_put_4 : decode cL_put 4 = .ok (.iload_n 1, 1) := by decide +kernel
theorem dL_put_5 : decode cL_put 5 = .ok (.iload_n 2, 1) := by decide +kernel
theorem dL_put_6 : decode cL_put 6 = .ok (.iload_n 3, 1) := by decide +kernel
theorem dL_put_7 : decode cL_put 7 = .ok (.iload 4, 2) := by decide +kernel
theorem dL_put_9 : decode cL_put 9 = .ok (.invokevirtual 7, 3) := by decide +kernel
theorem dL_put_12 : decode cL_put 12 = .ok (.i2l, 1) := by decide +kernel
theorem dL_put_13 : decode cL_put 13 = .ok (.lastore, 1) := by decide +kernel
theorem dL_put_14 : decode cL_put 14 = .ok (.goto 11, 3) := by decide +kernel
theorem dL_put_17 : decode cL_put 17 = .ok (.astore 6, 2) := by decide +kernel
theorem dL_put_19 : decode cL_put 19 = .ok (.iconst 1, 1) := by decide +kernel
theorem dL_put_20 : decode cL_put 20 = .ok (.ireturn, 1) := by decide +kernel
theorem dL_put_21 : decode cL_put 21 = .ok (.astore 6, 2) := by decide +kernel
theorem dL_put_23 : decode cL_put 23 = .ok (.iconst 2, 1) := by decide +kernel
theorem dL_put_24 : decode cL_put 24 = .ok (.ireturn, 1) := by decide +kernel
theorem dL_put_25 : decode cL_put 25 = .ok (.iconst 0, 1) := by decide +kernel
theorem dL_put_26 : decode cL_put 26 = .ok (.ireturn, 1) := by decide +kernel
theorem dL_out_0 : decode cL_out 0 = .ok (.aload_n 3, 1) := by decide +kernel
theorem dL_out_1 : decode cL_out 1 = .ok (.iconst 0, 1) := by decide +kernel
theorem dL_out_2 : decode cL_out 2 = .ok (.aload_n 0, 1) := by decide +kernel
theorem dL_out_3 : decode cL_out 3 = .ok (.iload_n 1, 1) := by decide +kernel
theorem dL_out_4 : decode cL_out 4 = .ok (.iload_n 2, 1) := by decide +kernel
theorem dL_out_5 : decode cL_out 5 = .ok (.invokevirtual 17, 3) := by decide +kernel
theorem dL_out_8 : decode cL_out 8 = .ok (.i2l, 1) := by decide +kernel
theorem dL_out_9 : decode cL_out 9 = .ok (.lastore, 1) := by decide +kernel
theorem dL_out_10 : decode cL_out 10 = .ok (.goto 11, 3) := by decide +kernel
theorem dL_out_13 : decode cL_out 13 = .ok (.astore 4, 2) := by decide +kernel
theorem dL_out_15 : decode cL_out 15 = .ok (.iconst 1, 1) := by decide +kernel
theorem dL_out_16 : decode cL_out 16 = .ok (.ireturn, 1) := by decide +kernel
theorem dL_out_17 : decode cL_out 17 = .ok (.astore 4, 2) := by decide +kernel
theorem dL_out_19 : decode cL_out 19 = .ok (.iconst 2, 1) := by decide +kernel
theorem dL_out_20 : decode cL_out 20 = .ok (.ireturn, 1) := by decide +kernel
theorem dL_out_21 : decode cL_out 21 = .ok (.iconst 0, 1) := by decide +kernel
theorem dL_out_22 : decode cL_out 22 = .ok (.ireturn, 1) := by decide +kernel
theorem dL_speak_0 : decode cL_speak 0 = .ok (.aload 7, 2) := by decide +kernel
theorem dL_speak_2 : decode cL_speak 2 = .ok (.iconst 0, 1) := by decide +kernel
theorem dL_speak_3 : decode cL_speak 3 = .ok (.aload_n 0, 1) := by decide +kernel
theorem dL_speak_4 : decode cL_speak 4 = .ok (.iload_n 1, 1) := by decide +kernel
theorem dL_speak_5 : decode cL_speak 5 = .ok (.iload_n 2, 1) := by decide +kernel
theorem dL_speak_6 : decode cL_speak 6 = .ok (.iload_n 3, 1) := by decide +kernel
theorem dL_speak_7 : decode cL_speak 7 = .ok (.iload 4, 2) := by decide +kernel
theorem dL_speak_9 : decode cL_speak 9 = .ok (.iload 5, 2) := by decide +kernel
theorem dL_speak_11 : decode cL_speak 11 = .ok (.iload 6, 2) := by decide +kernel
theorem dL_speak_13 : decode cL_speak 13 = .ok (.invokevirtual 23, 3) := by decide +kernel
theorem dL_speak_16 : decode cL_speak 16 = .ok (.i2l, 1) := by decide +kernel
theorem dL_speak_17 : decode cL_speak 17 = .ok (.lastore, 1) := by decide +kernel
theorem dL_speak_18 : decode cL_speak 18 = .ok (.goto 15, 3) := by decide +kernel
theorem dL_speak_21 : decode cL_speak 21 = .ok (.astore 8, 2) := by decide +kernel
theorem dL_speak_23 : decode cL_speak 23 = .ok (.iconst 1, 1) := by decide +kernel
theorem dL_speak_24 : decode cL_speak 24 = .ok (.ireturn, 1) := by decide +kernel
theorem dL_speak_25 : decode cL_speak 25 = .ok (.astore 8, 2) := by decide +kernel
theorem dL_speak_27 : decode cL_speak 27 = .ok (.iconst 2, 1) := by decide +kernel
theorem dL_speak_28 : decode cL_speak 28 = .ok (.ireturn, 1) := by decide +kernel
theorem dL_speak_29 : decode cL_speak 29 = .ok (.astore 8, 2) := by decide +kernel
theorem dL_speak_31 : decode cL_speak 31 = .ok (.iconst 3, 1) := by decide +kernel
theorem dL_speak_32 : decode cL_speak 32 = .ok (.ireturn, 1) := by decide +kernel
theorem dL_speak_33 : decode cL_speak 33 = .ok (.iconst 0, 1) := by decide +kernel
theorem dL_speak_34 : decode cL_speak 34 = .ok (.ireturn, 1) := by decide +kernel
theorem dL_touch_0 : decode cL_touch 0 = .ok (.aload_n 0, 1) := by decide +kernel
theorem dL_touch_1 : decode cL_touch 1 = .ok (.iload_n 1, 1) := by decide +kernel
theorem dL_touch_2 : decode cL_touch 2 = .ok (.iload_n 2, 1) := by decide +kernel
theorem dL_touch_3 : decode cL_touch 3 = .ok (.invokevirtual 29, 3) := by decide +kernel
theorem dL_touch_6 : decode cL_touch 6 = .ok (.goto 6, 3) := by decide +kernel
theorem dL_touch_9 : decode cL_touch 9 = .ok (.astore_n 3, 1) := by decide +kernel
theorem dL_touch_10 : decode cL_touch 10 = .ok (.iconst 1, 1) := by decide +kernel
theorem dL_touch_11 : decode cL_touch 11 = .ok (.ireturn, 1) := by decide +kernel
theorem dL_touch_12 : decode cL_touch 12 = .ok (.iconst 0, 1) := by decide +kernel
theorem dL_touch_13 : decode cL_touch 13 = .ok (.ireturn, 1) := by decide +kernel
theorem dL_told_0 : decode cL_told 0 = .ok (.aload 4, 2) := by decide +kernel
theorem dL_told_2 : decode cL_told 2 = .ok (.iconst 0, 1) := by decide +kernel
theorem dL_told_3 : decode cL_told 3 = .ok (.aload_n 0, 1) := by decide +kernel
theorem dL_told_4 : decode cL_told 4 = .ok (.iload_n 1, 1) := by decide +kernel
theorem dL_told_5 : decode cL_told 5 = .ok (.iload_n 2, 1) := by decide +kernel
theorem dL_told_6 : decode cL_told 6 = .ok (.iload_n 3, 1) := by decide +kernel
theorem dL_told_7 : decode cL_told 7 = .ok (.invokevirtual 33, 3) := by decide +kernel
theorem dL_told_10 : decode cL_told 10 = .ok (.i2l, 1) := by decide +kernel
theorem dL_told_11 : decode cL_told 11 = .ok (.lastore, 1) := by decide +kernel
theorem dL_told_12 : decode cL_told 12 = .ok (.goto 11, 3) := by decide +kernel
theorem dL_told_15 : decode cL_told 15 = .ok (.astore 5, 2) := by decide +kernel
theorem dL_told_17 : decode cL_told 17 = .ok (.iconst 1, 1) := by decide +kernel
theorem dL_told_18 : decode cL_told 18 = .ok (.ireturn, 1) := by decide +kernel
theorem dL_told_19 : decode cL_told 19 = .ok (.astore 5, 2) := by decide +kernel
theorem dL_told_21 : decode cL_told 21 = .ok (.iconst 2, 1) := by decide +kernel
theorem dL_told_22 : decode cL_told 22 = .ok (.ireturn, 1) := by decide +kernel
theorem dL_told_23 : decode cL_told 23 = .ok (.iconst 0, 1) := by decide +kernel
theorem dL_told_24 : decode cL_told 24 = .ok (.ireturn, 1) := by decide +kernel
theorem dL_owner_0 : decode cL_owner 0 = .ok (.aload_n 3, 1) := by decide +kernel
theorem dL_owner_1 : decode cL_owner 1 = .ok (.iconst 0, 1) := by decide +kernel
theorem dL_owner_2 : decode cL_owner 2 = .ok (.aload_n 0, 1) := by decide +kernel
theorem dL_owner_3 : decode cL_owner 3 = .ok (.iload_n 1, 1) := by decide +kernel
theorem dL_owner_4 : decode cL_owner 4 = .ok (.iload_n 2, 1) := by decide +kernel
theorem dL_owner_5 : decode cL_owner 5 = .ok (.invokevirtual 37, 3) := by decide +kernel
theorem dL_owner_8 : decode cL_owner 8 = .ok (.i2l, 1) := by decide +kernel
theorem dL_owner_9 : decode cL_owner 9 = .ok (.lastore, 1) := by decide +kernel
theorem dL_owner_10 : decode cL_owner 10 = .ok (.goto 7, 3) := by decide +kernel
theorem dL_owner_13 : decode cL_owner 13 = .ok (.astore 4, 2) := by decide +kernel
theorem dL_owner_15 : decode cL_owner 15 = .ok (.iconst 1, 1) := by decide +kernel
theorem dL_owner_16 : decode cL_owner 16 = .ok (.ireturn, 1) := by decide +kernel
theorem dL_owner_17 : decode cL_owner 17 = .ok (.iconst 0, 1) := by decide +kernel
theorem dL_owner_18 : decode cL_owner 18 = .ok (.ireturn, 1) := by decide +kernel
theorem dL_law_0 : decode code 0 = .ok (.new 8, 3) := by decide +kernel
theorem dL_law_3 : decode code 3 = .ok (.dup, 1) := by decide +kernel
theorem dL_law_4 : decode code 4 = .ok (.invokespecial 40, 3) := by decide +kernel
theorem dL_law_7 : decode code 7 = .ok (.astore_n 1, 1) := by decide +kernel
theorem dL_law_8 : decode code 8 = .ok (.new 41, 3) := by decide +kernel
theorem dL_law_11 : decode code 11 = .ok (.dup, 1) := by decide +kernel
theorem dL_law_12 : decode code 12 = .ok (.invokespecial 43, 3) := by decide +kernel
theorem dL_law_15 : decode code 15 = .ok (.astore_n 2, 1) := by decide +kernel
theorem dL_law_16 : decode code 16 = .ok (.iconst 1, 1) := by decide +kernel
theorem dL_law_17 : decode code 17 = .ok (.newarray .long, 2) := by decide +kernel
theorem dL_law_19 : decode code 19 = .ok (.astore_n 3, 1) := by decide +kernel
theorem dL_law_20 : decode code 20 = .ok (.iconst 0, 1) := by decide +kernel
theorem dL_law_21 : decode code 21 = .ok (.istore 4, 2) := by decide +kernel
theorem dL_law_23 : decode code 23 = .ok (.iload 4, 2) := by decide +kernel
theorem dL_law_25 : decode code 25 = .ok (.aload_n 0, 1) := by decide +kernel
theorem dL_law_26 : decode code 26 = .ok (.arraylength, 1) := by decide +kernel
theorem dL_law_27 : decode code 27 = .ok (.bipush 7, 2) := by decide +kernel
theorem dL_law_29 : decode code 29 = .ok (.isub, 1) := by decide +kernel
theorem dL_law_30 : decode code 30 = .ok (.if_icmp .gt 547, 3) := by decide +kernel
theorem dL_law_33 : decode code 33 = .ok (.aload_n 0, 1) := by decide +kernel
theorem dL_law_34 : decode code 34 = .ok (.iload 4, 2) := by decide +kernel
theorem dL_law_36 : decode code 36 = .ok (.iaload, 1) := by decide +kernel
theorem dL_law_37 : decode code 37 = .ok (.bipush 7, 2) := by decide +kernel
theorem dL_law_39 : decode code 39 = .ok (.iand, 1) := by decide +kernel
theorem dL_law_40 : decode code 40 = .ok (.tableswitch 531 0 6 #[44, 136, 204, 322, 370, 383, 463], 44) := by decide +kernel
theorem dL_law_84 : decode code 84 = .ok (.aload_n 1, 1) := by decide +kernel
theorem dL_law_85 : decode code 85 = .ok (.aload_n 0, 1) := by decide +kernel
theorem dL_law_86 : decode code 86 = .ok (.iload 4, 2) := by decide +kernel
theorem dL_law_88 : decode code 88 = .ok (.iconst 1, 1) := by decide +kernel
theorem dL_law_89 : decode code 89 = .ok (.iadd, 1) := by decide +kernel
theorem dL_law_90 : decode code 90 = .ok (.iaload, 1) := by decide +kernel
theorem dL_law_91 : decode code 91 = .ok (.aload_n 0, 1) := by decide +kernel
theorem dL_law_92 : decode code 92 = .ok (.iload 4, 2) := by decide +kernel
theorem dL_law_94 : decode code 94 = .ok (.iconst 2, 1) := by decide +kernel
theorem dL_law_95 : decode code 95 = .ok (.iadd, 1) := by decide +kernel
theorem dL_law_96 : decode code 96 = .ok (.iaload, 1) := by decide +kernel
theorem dL_law_97 : decode code 97 = .ok (.aload_n 0, 1) := by decide +kernel
theorem dL_law_98 : decode code 98 = .ok (.iload 4, 2) := by decide +kernel
theorem dL_law_100 : decode code 100 = .ok (.iconst 3, 1) := by decide +kernel
theorem dL_law_101 : decode code 101 = .ok (.iadd, 1) := by decide +kernel
theorem dL_law_102 : decode code 102 = .ok (.iaload, 1) := by decide +kernel
theorem dL_law_103 : decode code 103 = .ok (.aload_n 0, 1) := by decide +kernel
theorem dL_law_104 : decode code 104 = .ok (.iload 4, 2) := by decide +kernel
theorem dL_law_106 : decode code 106 = .ok (.iconst 4, 1) := by decide +kernel
theorem dL_law_107 : decode code 107 = .ok (.iadd, 1) := by decide +kernel
theorem dL_law_108 : decode code 108 = .ok (.iaload, 1) := by decide +kernel
theorem dL_law_109 : decode code 109 = .ok (.aload_n 3, 1) := by decide +kernel
theorem dL_law_110 : decode code 110 = .ok (.invokestatic 44, 3) := by decide +kernel
theorem dL_law_113 : decode code 113 = .ok (.istore 5, 2) := by decide +kernel
theorem dL_law_115 : decode code 115 = .ok (.aload_n 2, 1) := by decide +kernel
theorem dL_law_116 : decode code 116 = .ok (.aload_n 0, 1) := by decide +kernel
theorem dL_law_117 : decode code 117 = .ok (.iload 4, 2) := by decide +kernel
theorem dL_law_119 : decode code 119 = .ok (.iconst 1, 1) := by decide +kernel
theorem dL_law_120 : decode code 120 = .ok (.iadd, 1) := by decide +kernel
theorem dL_law_121 : decode code 121 = .ok (.iaload, 1) := by decide +kernel
theorem dL_law_122 : decode code 122 = .ok (.aload_n 0, 1) := by decide +kernel
theorem dL_law_123 : decode code 123 = .ok (.iload 4, 2) := by decide +kernel
theorem dL_law_125 : decode code 125 = .ok (.iconst 2, 1) := by decide +kernel
theorem dL_law_126 : decode code 126 = .ok (.iadd, 1) := by decide +kernel
theorem dL_law_127 : decode code 127 = .ok (.iaload, 1) := by decide +kernel
theorem dL_law_128 : decode code 128 = .ok (.aload_n 0, 1) := by decide +kernel
theorem dL_law_129 : decode code 129 = .ok (.iload 4, 2) := by decide +kernel
theorem dL_law_131 : decode code 131 = .ok (.iconst 3, 1) := by decide +kernel
theorem dL_law_132 : decode code 132 = .ok (.iadd, 1) := by decide +kernel
theorem dL_law_133 : decode code 133 = .ok (.iaload, 1) := by decide +kernel
theorem dL_law_134 : decode code 134 = .ok (.aload_n 0, 1) := by decide +kernel
theorem dL_law_135 : decode code 135 = .ok (.iload 4, 2) := by decide +kernel
theorem dL_law_137 : decode code 137 = .ok (.iconst 4, 1) := by decide +kernel
theorem dL_law_138 : decode code 138 = .ok (.iadd, 1) := by decide +kernel
theorem dL_law_139 : decode code 139 = .ok (.iaload, 1) := by decide +kernel
theorem dL_law_140 : decode code 140 = .ok (.invokevirtual 49, 3) := by decide +kernel
theorem dL_law_143 : decode code 143 = .ok (.istore 6, 2) := by decide +kernel
theorem dL_law_145 : decode code 145 = .ok (.aload_n 2, 1) := by decide +kernel
theorem dL_law_146 : decode code 146 = .ok (.invokevirtual 50, 3) := by decide +kernel
theorem dL_law_149 : decode code 149 = .ok (.iload 5, 2) := by decide +kernel
theorem dL_law_151 : decode code 151 = .ok (.if_icmp .eq 5, 3) := by decide +kernel
theorem dL_law_154 : decode code 154 = .ok (.iconst 0, 1) := by decide +kernel
theorem dL_law_155 : decode code 155 = .ok (.ireturn, 1) := by decide +kernel
theorem dL_law_156 : decode code 156 = .ok (.iload 5, 2) := by decide +kernel
theorem dL_law_158 : decode code 158 = .ok (.ifCond .ne 15, 3) := by decide +kernel
theorem dL_law_161 : decode code 161 = .ok (.aload_n 3, 1) := by decide +kernel
theorem dL_law_162 : decode code 162 = .ok (.iconst 0, 1) := by decide +kernel
theorem dL_law_163 : decode code 163 = .ok (.laload, 1) := by decide +kernel
theorem dL_law_164 : decode code 164 = .ok (.iload 6, 2) := by decide +kernel
theorem dL_law_166 : decode code 166 = .ok (.i2l, 1) := by decide +kernel
theorem dL_law_167 : decode code 167 = .ok (.lcmp, 1) := by decide +kernel
theorem dL_law_168 : decode code 168 = .ok (.ifCond .eq 5, 3) := by decide +kernel
theorem dL_law_171 : decode code 171 = .ok (.iconst 0, 1) := by decide +kernel
theorem dL_law_172 : decode code 172 = .ok (.ireturn, 1) := by decide +kernel
theorem dL_law_173 : decode code 173 = .ok (.goto 398, 3) := by decide +kernel
theorem dL_law_176 : decode code 176 = .ok (.aload_n 1, 1) := by decide +kernel
theorem dL_law_177 : decode code 177 = .ok (.aload_n 0, 1) := by decide +kernel
theorem dL_law_178 : decode code 178 = .ok (.iload 4, 2) := by decide +kernel
theorem dL_law_180 : decode code 180 = .ok (.iconst 1, 1) := by decide +kernel
theorem dL_law_181 : decode code 181 = .ok (.iadd, 1) := by decide +kernel
theorem dL_law_182 : decode code 182 = .ok (.iaload, 1) := by decide +kernel
theorem dL_law_183 : decode code 183 = .ok (.aload_n 0, 1) := by decide +kernel
theorem dL_law_184 : decode code 184 = .ok (.iload 4, 2) := by decide +kernel
theorem dL_law_186 : decode code 186 = .ok (.iconst 2, 1) := by decide +kernel
theorem dL_law_187 : decode code 187 = .ok (.iadd, 1) := by decide +kernel
theorem dL_law_188 : decode code 188 = .ok (.iaload, 1) := by decide +kernel
theorem dL_law_189 : decode code 189 = .ok (.aload_n 3, 1) := by decide +kernel
theorem dL_law_190 : decode code 190 = .ok (.invokestatic 54, 3) := by decide +kernel
theorem dL_law_193 : decode code 193 = .ok (.istore 5, 2) := by decide +kernel
theorem dL_law_195 : decode code 195 = .ok (.aload_n 2, 1) := by decide +kernel
theorem dL_law_196 : decode code 196 = .ok (.aload_n 0, 1) := by decide +kernel
theorem dL_law_197 : decode code 197 = .ok (.iload 4, 2) := by decide +kernel
theorem dL_law_199 : decode code 199 = .ok (.iconst 1, 1) := by decide +kernel
theorem dL_law_200 : decode code 200 = .ok (.iadd, 1) := by decide +kernel
theorem dL_law_201 : decode code 201 = .ok (.iaload, 1) := by decide +kernel
theorem dL_law_202 : decode code 202 = .ok (.aload_n 0, 1) := by decide +kernel
theorem dL_law_203 : decode code 203 = .ok (.iload 4, 2) := by decide +kernel
theorem dL_law_205 : decode code 205 = .ok (.iconst 2, 1) := by decide +kernel
theorem dL_law_206 : decode code 206 = .ok (.iadd, 1) := by decide +kernel
theorem dL_law_207 : decode code 207 = .ok (.iaload, 1) := by decide +kernel
theorem dL_law_208 : decode code 208 = .ok (.invokevirtual 57, 3) := by decide +kernel
theorem dL_law_211 : decode code 211 = .ok (.istore 6, 2) := by decide +kernel
theorem dL_law_213 : decode code 213 = .ok (.aload_n 2, 1) := by decide +kernel
theorem dL_law_214 : decode code 214 = .ok (.invokevirtual 50, 3) := by decide +kernel
theorem dL_law_217 : decode code 217 = .ok (.iload 5, 2) := by decide +kernel
theorem dL_law_219 : decode code 219 = .ok (.if_icmp .eq 5, 3) := by decide +kernel
theorem dL_law_222 : decode code 222 = .ok (.iconst 0, 1) := by decide +kernel
theorem dL_law_223 : decode code 223 = .ok (.ireturn, 1) := by decide +kernel
theorem dL_law_224 : decode code 224 = .ok (.iload 5, 2) := by decide +kernel
theorem dL_law_226 : decode code 226 = .ok (.ifCond .ne 15, 3) := by decide +kernel
theorem dL_law_229 : decode code 229 = .ok (.aload_n 3, 1) := by decide +kernel
theorem dL_law_230 : decode code 230 = .ok (.iconst 0, 1) := by decide +kernel
theorem dL_law_231 : decode code 231 = .ok (.laload, 1) := by decide +kernel
theorem dL_law_232 : decode code 232 = .ok (.iload 6, 2) := by decide +kernel
theorem dL_law_234 : decode code 234 = .ok (.i2l, 1) := by decide +kernel
theorem dL_law_235 : decode code 235 = .ok (.lcmp, 1) := by decide +kernel
theorem dL_law_236 : decode code 236 = .ok (.ifCond .eq 5, 3) := by decide +kernel
theorem dL_law_239 : decode code 239 = .ok (.iconst 0, 1) := by decide +kernel
theorem dL_law_240 : decode code 240 = .ok (.ireturn, 1) := by decide +kernel
theorem dL_law_241 : decode code 241 = .ok (.goto 330, 3) := by decide +kernel
theorem dL_law_244 : decode code 244 = .ok (.aload_n 1, 1) := by decide +kernel
theorem dL_law_245 : decode code 245 = .ok (.aload_n 0, 1) := by decide +kernel
theorem dL_law_246 : decode code 246 = .ok (.iload 4, 2) := by decide +kernel
theorem dL_law_248 : decode code 248 = .ok (.iconst 1, 1) := by decide +kernel
theorem dL_law_249 : decode code 249 = .ok (.iadd, 1) := by decide +kernel
theorem dL_law_250 : decode code 250 = .ok (.iaload, 1) := by decide +kernel
theorem dL_law_251 : decode code 251 = .ok (.aload_n 0, 1) := by decide +kernel
theorem dL_law_252 : decode code 252 = .ok (.iload 4, 2) := by decide +kernel
theorem dL_law_254 : decode code 254 = .ok (.iconst 2, 1) := by decide +kernel
theorem dL_law_255 : decode code 255 = .ok (.iadd, 1) := by decide +kernel
theorem dL_law_256 : decode code 256 = .ok (.iaload, 1) := by decide +kernel
theorem dL_law_257 : decode code 257 = .ok (.aload_n 0, 1) := by decide +kernel
theorem dL_law_258 : decode code 258 = .ok (.iload 4, 2) := by decide +kernel
theorem dL_law_260 : decode code 260 = .ok (.iconst 3, 1) := by decide +kernel
theorem dL_law_261 : decode code 261 = .ok (.iadd, 1) := by decide +kernel
theorem dL_law_262 : decode code 262 = .ok (.iaload, 1) := by decide +kernel
theorem dL_law_263 : decode code 263 = .ok (.aload_n 0, 1) := by decide +kernel
theorem dL_law_264 : decode code 264 = .ok (.iload 4, 2) := by decide +kernel
theorem dL_law_266 : decode code 266 = .ok (.iconst 4, 1) := by decide +kernel
theorem dL_law_267 : decode code 267 = .ok (.iadd, 1) := by decide +kernel
theorem dL_law_268 : decode code 268 = .ok (.iaload, 1) := by decide +kernel
theorem dL_law_269 : decode code 269 = .ok (.aload_n 0, 1) := by decide +kernel
theorem dL_law_270 : decode code 270 = .ok (.iload 4, 2) := by decide +kernel
theorem dL_law_272 : decode code 272 = .ok (.iconst 5, 1) := by decide +kernel
theorem dL_law_273 : decode code 273 = .ok (.iadd, 1) := by decide +kernel
theorem dL_law_274 : decode code 274 = .ok (.iaload, 1) := by decide +kernel
theorem dL_law_275 : decode code 275 = .ok (.aload_n 0, 1) := by decide +kernel
theorem dL_law_276 : decode code 276 = .ok (.iload 4, 2) := by decide +kernel
theorem dL_law_278 : decode code 278 = .ok (.bipush 6, 2) := by decide +kernel
theorem dL_law_280 : decode code 280 = .ok (.iadd, 1) := by decide +kernel
theorem dL_law_281 : decode code 281 = .ok (.iaload, 1) := by decide +kernel
theorem dL_law_282 : decode code 282 = .ok (.aload_n 3, 1) := by decide +kernel
theorem dL_law_283 : decode code 283 = .ok (.invokestatic 58, 3) := by decide +kernel
theorem dL_law_286 : decode code 286 = .ok (.istore 5, 2) := by decide +kernel
theorem dL_law_288 : decode code 288 = .ok (.aload_n 2, 1) := by decide +kernel
theorem dL_law_289 : decode code 289 = .ok (.aload_n 0, 1) := by decide +kernel
theorem dL_law_290 : decode code 290 = .ok (.iload 4, 2) := by decide +kernel
theorem dL_law_292 : decode code 292 = .ok (.iconst 1, 1) := by decide +kernel
theorem dL_law_293 : decode code 293 = .ok (.iadd, 1) := by decide +kernel
theorem dL_law_294 : decode code 294 = .ok (.iaload, 1) := by decide +kernel
theorem dL_law_295 : decode code 295 = .ok (.aload_n 0, 1) := by decide +kernel
theorem dL_law_296 : decode code 296 = .ok (.iload 4, 2) := by decide +kernel
theorem dL_law_298 : decode code 298 = .ok (.iconst 2, 1) := by decide +kernel
theorem dL_law_299 : decode code 299 = .ok (.iadd, 1) := by decide +kernel
theorem dL_law_300 : decode code 300 = .ok (.iaload, 1) := by decide +kernel
theorem dL_law_301 : decode code 301 = .ok (.aload_n 0, 1) := by decide +kernel
theorem dL_law_302 : decode code 302 = .ok (.iload 4, 2) := by decide +kernel
theorem dL_law_304 : decode code 304 = .ok (.iconst 3, 1) := by decide +kernel
theorem dL_law_305 : decode code 305 = .ok (.iadd, 1) := by decide +kernel
theorem dL_law_306 : decode code 306 = .ok (.iaload, 1) := by decide +kernel
theorem dL_law_307 : decode code 307 = .ok (.aload_n 0, 1) := by decide +kernel
theorem dL_law_308 : decode code 308 = .ok (.iload 4, 2) := by decide +kernel
theorem dL_law_310 : decode code 310 = .ok (.iconst 4, 1) := by decide +kernel
theorem dL_law_311 : decode code 311 = .ok (.iadd, 1) := by decide +kernel
theorem dL_law_312 : decode code 312 = .ok (.iaload, 1) := by decide +kernel
theorem dL_law_313 : decode code 313 = .ok (.aload_n 0, 1) := by decide +kernel
theorem dL_law_314 : decode code 314 = .ok (.iload 4, 2) := by decide +kernel
theorem dL_law_316 : decode code 316 = .ok (.iconst 5, 1) := by decide +kernel
theorem dL_law_317 : decode code 317 = .ok (.iadd, 1) := by decide +kernel
theorem dL_law_318 : decode code 318 = .ok (.iaload, 1) := by decide +kernel
theorem dL_law_319 : decode code 319 = .ok (.aload_n 0, 1) := by decide +kernel
theorem dL_law_320 : decode code 320 = .ok (.iload 4, 2) := by decide +kernel
theorem dL_law_322 : decode code 322 = .ok (.bipush 6, 2) := by decide +kernel
theorem dL_law_324 : decode code 324 = .ok (.iadd, 1) := by decide +kernel
theorem dL_law_325 : decode code 325 = .ok (.iaload, 1) := by decide +kernel
theorem dL_law_326 : decode code 326 = .ok (.invokevirtual 61, 3) := by decide +kernel
theorem dL_law_329 : decode code 329 = .ok (.istore 6, 2) := by decide +kernel
theorem dL_law_331 : decode code 331 = .ok (.aload_n 2, 1) := by decide +kernel
theorem dL_law_332 : decode code 332 = .ok (.invokevirtual 50, 3) := by decide +kernel
theorem dL_law_335 : decode code 335 = .ok (.iload 5, 2) := by decide +kernel
theorem dL_law_337 : decode code 337 = .ok (.if_icmp .eq 5, 3) := by decide +kernel
theorem dL_law_340 : decode code 340 = .ok (.iconst 0, 1) := by decide +kernel
theorem dL_law_341 : decode code 341 = .ok (.ireturn, 1) := by decide +kernel
theorem dL_law_342 : decode code 342 = .ok (.iload 5, 2) := by decide +kernel
theorem dL_law_344 : decode code 344 = .ok (.ifCond .ne 15, 3) := by decide +kernel
theorem dL_law_347 : decode code 347 = .ok (.aload_n 3, 1) := by decide +kernel
theorem dL_law_348 : decode code 348 = .ok (.iconst 0, 1) := by decide +kernel
theorem dL_law_349 : decode code 349 = .ok (.laload, 1) := by decide +kernel
theorem dL_law_350 : decode code 350 = .ok (.iload 6, 2) := by decide +kernel
theorem dL_law_352 : decode code 352 = .ok (.i2l, 1) := by decide +kernel
theorem dL_law_353 : decode code 353 = .ok (.lcmp, 1) := by decide +kernel
theorem dL_law_354 : decode code 354 = .ok (.ifCond .eq 5, 3) := by decide +kernel
theorem dL_law_357 : decode code 357 = .ok (.iconst 0, 1) := by decide +kernel
theorem dL_law_358 : decode code 358 = .ok (.ireturn, 1) := by decide +kernel
theorem dL_law_359 : decode code 359 = .ok (.goto 212, 3) := by decide +kernel
theorem dL_law_362 : decode code 362 = .ok (.aload_n 1, 1) := by decide +kernel
theorem dL_law_363 : decode code 363 = .ok (.aload_n 0, 1) := by decide +kernel
theorem dL_law_364 : decode code 364 = .ok (.iload 4, 2) := by decide +kernel
theorem dL_law_366 : decode code 366 = .ok (.iconst 1, 1) := by decide +kernel
theorem dL_law_367 : decode code 367 = .ok (.iadd, 1) := by decide +kernel
theorem dL_law_368 : decode code 368 = .ok (.iaload, 1) := by decide +kernel
theorem dL_law_369 : decode code 369 = .ok (.aload_n 0, 1) := by decide +kernel
theorem dL_law_370 : decode code 370 = .ok (.iload 4, 2) := by decide +kernel
theorem dL_law_372 : decode code 372 = .ok (.iconst 2, 1) := by decide +kernel
theorem dL_law_373 : decode code 373 = .ok (.iadd, 1) := by decide +kernel
theorem dL_law_374 : decode code 374 = .ok (.iaload, 1) := by decide +kernel
theorem dL_law_375 : decode code 375 = .ok (.invokestatic 62, 3) := by decide +kernel
theorem dL_law_378 : decode code 378 = .ok (.istore 5, 2) := by decide +kernel
theorem dL_law_380 : decode code 380 = .ok (.aload_n 2, 1) := by decide +kernel
theorem dL_law_381 : decode code 381 = .ok (.aload_n 0, 1) := by decide +kernel
theorem dL_law_382 : decode code 382 = .ok (.iload 4, 2) := by decide +kernel
theorem dL_law_384 : decode code 384 = .ok (.iconst 1, 1) := by decide +kernel
theorem dL_law_385 : decode code 385 = .ok (.iadd, 1) := by decide +kernel
theorem dL_law_386 : decode code 386 = .ok (.iaload, 1) := by decide +kernel
theorem dL_law_387 : decode code 387 = .ok (.aload_n 0, 1) := by decide +kernel
theorem dL_law_388 : decode code 388 = .ok (.iload 4, 2) := by decide +kernel
theorem dL_law_390 : decode code 390 = .ok (.iconst 2, 1) := by decide +kernel
theorem dL_law_391 : decode code 391 = .ok (.iadd, 1) := by decide +kernel
theorem dL_law_392 : decode code 392 = .ok (.iaload, 1) := by decide +kernel
theorem dL_law_393 : decode code 393 = .ok (.invokevirtual 65, 3) := by decide +kernel
theorem dL_law_396 : decode code 396 = .ok (.aload_n 2, 1) := by decide +kernel
theorem dL_law_397 : decode code 397 = .ok (.invokevirtual 50, 3) := by decide +kernel
theorem dL_law_400 : decode code 400 = .ok (.iload 5, 2) := by decide +kernel
theorem dL_law_402 : decode code 402 = .ok (.if_icmp .eq 5, 3) := by decide +kernel
theorem dL_law_405 : decode code 405 = .ok (.iconst 0, 1) := by decide +kernel
theorem dL_law_406 : decode code 406 = .ok (.ireturn, 1) := by decide +kernel
theorem dL_law_407 : decode code 407 = .ok (.goto 164, 3) := by decide +kernel
theorem dL_law_410 : decode code 410 = .ok (.aload_n 1, 1) := by decide +kernel
theorem dL_law_411 : decode code 411 = .ok (.invokevirtual 66, 3) := by decide +kernel
theorem dL_law_414 : decode code 414 = .ok (.aload_n 2, 1) := by decide +kernel
theorem dL_law_415 : decode code 415 = .ok (.invokevirtual 69, 3) := by decide +kernel
theorem dL_law_418 : decode code 418 = .ok (.if_icmp .eq 153, 3) := by decide +kernel
theorem dL_law_421 : decode code 421 = .ok (.iconst 0, 1) := by decide +kernel
theorem dL_law_422 : decode code 422 = .ok (.ireturn, 1) := by decide +kernel
theorem dL_law_423 : decode code 423 = .ok (.aload_n 1, 1) := by decide +kernel
theorem dL_law_424 : decode code 424 = .ok (.aload_n 0, 1) := by decide +kernel
theorem dL_law_425 : decode code 425 = .ok (.iload 4, 2) := by decide +kernel
theorem dL_law_427 : decode code 427 = .ok (.iconst 1, 1) := by decide +kernel
theorem dL_law_428 : decode code 428 = .ok (.iadd, 1) := by decide +kernel
theorem dL_law_429 : decode code 429 = .ok (.iaload, 1) := by decide +kernel
theorem dL_law_430 : decode code 430 = .ok (.aload_n 0, 1) := by decide +kernel
theorem dL_law_431 : decode code 431 = .ok (.iload 4, 2) := by decide +kernel
theorem dL_law_433 : decode code 433 = .ok (.iconst 2, 1) := by decide +kernel
theorem dL_law_434 : decode code 434 = .ok (.iadd, 1) := by decide +kernel
theorem dL_law_435 : decode code 435 = .ok (.iaload, 1) := by decide +kernel
theorem dL_law_436 : decode code 436 = .ok (.aload_n 0, 1) := by decide +kernel
theorem dL_law_437 : decode code 437 = .ok (.iload 4, 2) := by decide +kernel
theorem dL_law_439 : decode code 439 = .ok (.iconst 3, 1) := by decide +kernel
theorem dL_law_440 : decode code 440 = .ok (.iadd, 1) := by decide +kernel
theorem dL_law_441 : decode code 441 = .ok (.iaload, 1) := by decide +kernel
theorem dL_law_442 : decode code 442 = .ok (.aload_n 3, 1) := by decide +kernel
theorem dL_law_443 : decode code 443 = .ok (.invokestatic 70, 3) := by decide +kernel
theorem dL_law_446 : decode code 446 = .ok (.istore 5, 2) := by decide +kernel
theorem dL_law_448 : decode code 448 = .ok (.aload_n 2, 1) := by decide +kernel
theorem dL_law_449 : decode code 449 = .ok (.aload_n 0, 1) := by decide +kernel
theorem dL_law_450 : decode code 450 = .ok (.iload 4, 2) := by decide +kernel
theorem dL_law_452 : decode code 452 = .ok (.iconst 1, 1) := by decide +kernel
theorem dL_law_453 : decode code 453 = .ok (.iadd, 1) := by decide +kernel
theorem dL_law_454 : decode code 454 = .ok (.iaload, 1) := by decide +kernel
theorem dL_law_455 : decode code 455 = .ok (.aload_n 0, 1) := by decide +kernel
theorem dL_law_456 : decode code 456 = .ok (.iload 4, 2) := by decide +kernel
theorem dL_law_458 : decode code 458 = .ok (.iconst 2, 1) := by decide +kernel
theorem dL_law_459 : decode code 459 = .ok (.iadd, 1) := by decide +kernel
theorem dL_law_460 : decode code 460 = .ok (.iaload, 1) := by decide +kernel
theorem dL_law_461 : decode code 461 = .ok (.aload_n 0, 1) := by decide +kernel
theorem dL_law_462 : decode code 462 = .ok (.iload 4, 2) := by decide +kernel
theorem dL_law_464 : decode code 464 = .ok (.iconst 3, 1) := by decide +kernel
theorem dL_law_465 : decode code 465 = .ok (.iadd, 1) := by decide +kernel
theorem dL_law_466 : decode code 466 = .ok (.iaload, 1) := by decide +kernel
theorem dL_law_467 : decode code 467 = .ok (.invokevirtual 73, 3) := by decide +kernel
theorem dL_law_470 : decode code 470 = .ok (.istore 6, 2) := by decide +kernel
theorem dL_law_472 : decode code 472 = .ok (.aload_n 2, 1) := by decide +kernel
theorem dL_law_473 : decode code 473 = .ok (.invokevirtual 50, 3) := by decide +kernel
theorem dL_law_476 : decode code 476 = .ok (.iload 5, 2) := by decide +kernel
theorem dL_law_478 : decode code 478 = .ok (.if_icmp .eq 5, 3) := by decide +kernel
theorem dL_law_481 : decode code 481 = .ok (.iconst 0, 1) := by decide +kernel
theorem dL_law_482 : decode code 482 = .ok (.ireturn, 1) := by decide +kernel
theorem dL_law_483 : decode code 483 = .ok (.iload 5, 2) := by decide +kernel
theorem dL_law_485 : decode code 485 = .ok (.ifCond .ne 15, 3) := by decide +kernel
theorem dL_law_488 : decode code 488 = .ok (.aload_n 3, 1) := by decide +kernel
theorem dL_law_489 : decode code 489 = .ok (.iconst 0, 1) := by decide +kernel
theorem dL_law_490 : decode code 490 = .ok (.laload, 1) := by decide +kernel
theorem dL_law_491 : decode code 491 = .ok (.iload 6, 2) := by decide +kernel
theorem dL_law_493 : decode code 493 = .ok (.i2l, 1) := by decide +kernel
theorem dL_law_494 : decode code 494 = .ok (.lcmp, 1) := by decide +kernel
theorem dL_law_495 : decode code 495 = .ok (.ifCond .eq 5, 3) := by decide +kernel
theorem dL_law_498 : decode code 498 = .ok (.iconst 0, 1) := by decide +kernel
theorem dL_law_499 : decode code 499 = .ok (.ireturn, 1) := by decide +kernel
theorem dL_law_500 : decode code 500 = .ok (.goto 71, 3) := by decide +kernel
theorem dL_law_503 : decode code 503 = .ok (.aload_n 1, 1) := by decide +kernel
theorem dL_law_504 : decode code 504 = .ok (.aload_n 0, 1) := by decide +kernel
theorem dL_law_505 : decode code 505 = .ok (.iload 4, 2) := by decide +kernel
theorem dL_law_507 : decode code 507 = .ok (.iconst 1, 1) := by decide +kernel
theorem dL_law_508 : decode code 508 = .ok (.iadd, 1) := by decide +kernel
theorem dL_law_509 : decode code 509 = .ok (.iaload, 1) := by decide +kernel
theorem dL_law_510 : decode code 510 = .ok (.aload_n 0, 1) := by decide +kernel
theorem dL_law_511 : decode code 511 = .ok (.iload 4, 2) := by decide +kernel
theorem dL_law_513 : decode code 513 = .ok (.iconst 2, 1) := by decide +kernel
theorem dL_law_514 : decode code 514 = .ok (.iadd, 1) := by decide +kernel
theorem dL_law_515 : decode code 515 = .ok (.iaload, 1) := by decide +kernel
theorem dL_law_516 : decode code 516 = .ok (.aload_n 3, 1) := by decide +kernel
theorem dL_law_517 : decode code 517 = .ok (.invokestatic 74, 3) := by decide +kernel
theorem dL_law_520 : decode code 520 = .ok (.istore 5, 2) := by decide +kernel
theorem dL_law_522 : decode code 522 = .ok (.aload_n 2, 1) := by decide +kernel
theorem dL_law_523 : decode code 523 = .ok (.aload_n 0, 1) := by decide +kernel
theorem dL_law_524 : decode code 524 = .ok (.iload 4, 2) := by decide +kernel
theorem dL_law_526 : decode code 526 = .ok (.iconst 1, 1) := by decide +kernel
theorem dL_law_527 : decode code 527 = .ok (.iadd, 1) := by decide +kernel
theorem dL_law_528 : decode code 528 = .ok (.iaload, 1) := by decide +kernel
theorem dL_law_529 : decode code 529 = .ok (.aload_n 0, 1) := by decide +kernel
theorem dL_law_530 : decode code 530 = .ok (.iload 4, 2) := by decide +kernel
theorem dL_law_532 : decode code 532 = .ok (.iconst 2, 1) := by decide +kernel
theorem dL_law_533 : decode code 533 = .ok (.iadd, 1) := by decide +kernel
theorem dL_law_534 : decode code 534 = .ok (.iaload, 1) := by decide +kernel
theorem dL_law_535 : decode code 535 = .ok (.invokevirtual 76, 3) := by decide +kernel
theorem dL_law_538 : decode code 538 = .ok (.istore 6, 2) := by decide +kernel
theorem dL_law_540 : decode code 540 = .ok (.aload_n 2, 1) := by decide +kernel
theorem dL_law_541 : decode code 541 = .ok (.invokevirtual 50, 3) := by decide +kernel
theorem dL_law_544 : decode code 544 = .ok (.iload 5, 2) := by decide +kernel
theorem dL_law_546 : decode code 546 = .ok (.if_icmp .eq 5, 3) := by decide +kernel
theorem dL_law_549 : decode code 549 = .ok (.iconst 0, 1) := by decide +kernel
theorem dL_law_550 : decode code 550 = .ok (.ireturn, 1) := by decide +kernel
theorem dL_law_551 : decode code 551 = .ok (.iload 5, 2) := by decide +kernel
theorem dL_law_553 : decode code 553 = .ok (.ifCond .ne 15, 3) := by decide +kernel
theorem dL_law_556 : decode code 556 = .ok (.aload_n 3, 1) := by decide +kernel
theorem dL_law_557 : decode code 557 = .ok (.iconst 0, 1) := by decide +kernel
theorem dL_law_558 : decode code 558 = .ok (.laload, 1) := by decide +kernel
theorem dL_law_559 : decode code 559 = .ok (.iload 6, 2) := by decide +kernel
theorem dL_law_561 : decode code 561 = .ok (.i2l, 1) := by decide +kernel
theorem dL_law_562 : decode code 562 = .ok (.lcmp, 1) := by decide +kernel
theorem dL_law_563 : decode code 563 = .ok (.ifCond .eq 5, 3) := by decide +kernel
theorem dL_law_566 : decode code 566 = .ok (.iconst 0, 1) := by decide +kernel
theorem dL_law_567 : decode code 567 = .ok (.ireturn, 1) := by decide +kernel
theorem dL_law_568 : decode code 568 = .ok (.goto 3, 3) := by decide +kernel
theorem dL_law_571 : decode code 571 = .ok (.iinc 4 7, 3) := by decide +kernel
theorem dL_law_574 : decode code 574 = .ok (.goto (-551), 3) := by decide +kernel
theorem dL_law_577 : decode code 577 = .ok (.iconst 1, 1) := by decide +kernel
theorem dL_law_578 : decode code 578 = .ok (.ireturn, 1) := by decide +kernel
