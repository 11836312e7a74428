theorem d_W_0 : decode code 0 = .ok (.new 8, 3) := by decide +kernel
theorem d_W_3 : decode code 3 = .ok (.dup, 1) := by decide +kernel
theorem d_W_4 : decode code 4 = .ok (.aload_n 0, 1) := by decide +kernel
theorem d_W_5 : decode code 5 = .ok (.iconst 0, 1) := by decide +kernel
theorem d_W_6 : decode code 6 = .ok (.invokestatic 54, 3) := by decide +kernel
theorem d_W_9 : decode code 9 = .ok (.invokespecial 60, 3) := by decide +kernel
theorem d_W_12 : decode code 12 = .ok (.astore_n 1, 1) := by decide +kernel
theorem d_W_13 : decode code 13 = .ok (.new 63, 3) := by decide +kernel
theorem d_W_16 : decode code 16 = .ok (.dup, 1) := by decide +kernel
theorem d_W_17 : decode code 17 = .ok (.aload_n 0, 1) := by decide +kernel
theorem d_W_18 : decode code 18 = .ok (.iconst 0, 1) := by decide +kernel
theorem d_W_19 : decode code 19 = .ok (.invokestatic 54, 3) := by decide +kernel
theorem d_W_22 : decode code 22 = .ok (.invokespecial 65, 3) := by decide +kernel
theorem d_W_25 : decode code 25 = .ok (.astore_n 2, 1) := by decide +kernel
theorem d_W_26 : decode code 26 = .ok (.iconst 1, 1) := by decide +kernel
theorem d_W_27 : decode code 27 = .ok (.newarray .long, 2) := by decide +kernel
theorem d_W_29 : decode code 29 = .ok (.astore_n 3, 1) := by decide +kernel
theorem d_W_30 : decode code 30 = .ok (.iconst 1, 1) := by decide +kernel
theorem d_W_31 : decode code 31 = .ok (.istore 4, 2) := by decide +kernel
theorem d_W_33 : decode code 33 = .ok (.iload 4, 2) := by decide +kernel
theorem d_W_35 : decode code 35 = .ok (.aload_n 0, 1) := by decide +kernel
theorem d_W_36 : decode code 36 = .ok (.arraylength, 1) := by decide +kernel
theorem d_W_37 : decode code 37 = .ok (.iconst 4, 1) := by decide +kernel
theorem d_W_38 : decode code 38 = .ok (.isub, 1) := by decide +kernel
theorem d_W_39 : decode code 39 = .ok (.if_icmp .gt 838, 3) := by decide +kernel
theorem d_W_42 : decode code 42 = .ok (.aload_n 0, 1) := by decide +kernel
theorem d_W_43 : decode code 43 = .ok (.iload 4, 2) := by decide +kernel
theorem d_W_45 : decode code 45 = .ok (.iaload, 1) := by decide +kernel
theorem d_W_46 : decode code 46 = .ok (.bipush 15, 2) := by decide +kernel
theorem d_W_48 : decode code 48 = .ok (.iand, 1) := by decide +kernel
theorem d_W_49 : decode code 49 = .ok (.tableswitch 822 0 13 #[71, 115, 195, 275, 331, 387, 467, 523, 579, 647, 715, 728, 784, 797], 71) := by decide +kernel
theorem d_W_120 : decode code 120 = .ok (.aload_n 1, 1) := by decide +kernel
theorem d_W_121 : decode code 121 = .ok (.aload_n 3, 1) := by decide +kernel
theorem d_W_122 : decode code 122 = .ok (.invokestatic 66, 3) := by decide +kernel
theorem d_W_125 : decode code 125 = .ok (.istore 5, 2) := by decide +kernel
theorem d_W_127 : decode code 127 = .ok (.aload_n 2, 1) := by decide +kernel
theorem d_W_128 : decode code 128 = .ok (.invokevirtual 69, 3) := by decide +kernel
theorem d_W_131 : decode code 131 = .ok (.istore 6, 2) := by decide +kernel
theorem d_W_133 : decode code 133 = .ok (.aload_n 2, 1) := by decide +kernel
theorem d_W_134 : decode code 134 = .ok (.invokevirtual 70, 3) := by decide +kernel
theorem d_W_137 : decode code 137 = .ok (.iload 5, 2) := by decide +kernel
theorem d_W_139 : decode code 139 = .ok (.if_icmp .eq 5, 3) := by decide +kernel
theorem d_W_142 : decode code 142 = .ok (.iconst 0, 1) := by decide +kernel
theorem d_W_143 : decode code 143 = .ok (.ireturn, 1) := by decide +kernel
theorem d_W_144 : decode code 144 = .ok (.iload 5, 2) := by decide +kernel
theorem d_W_146 : decode code 146 = .ok (.ifCond .ne 15, 3) := by decide +kernel
theorem d_W_149 : decode code 149 = .ok (.aload_n 3, 1) := by decide +kernel
theorem d_W_150 : decode code 150 = .ok (.iconst 0, 1) := by decide +kernel
theorem d_W_151 : decode code 151 = .ok (.laload, 1) := by decide +kernel
theorem d_W_152 : decode code 152 = .ok (.iload 6, 2) := by decide +kernel
theorem d_W_154 : decode code 154 = .ok (.i2l, 1) := by decide +kernel
theorem d_W_155 : decode code 155 = .ok (.lcmp, 1) := by decide +kernel
theorem d_W_156 : decode code 156 = .ok (.ifCond .eq 5, 3) := by decide +kernel
theorem d_W_159 : decode code 159 = .ok (.iconst 0, 1) := by decide +kernel
theorem d_W_160 : decode code 160 = .ok (.ireturn, 1) := by decide +kernel
theorem d_W_161 : decode code 161 = .ok (.goto 710, 3) := by decide +kernel
theorem d_W_164 : decode code 164 = .ok (.aload_n 1, 1) := by decide +kernel
theorem d_W_165 : decode code 165 = .ok (.aload_n 0, 1) := by decide +kernel
theorem d_W_166 : decode code 166 = .ok (.iload 4, 2) := by decide +kernel
theorem d_W_168 : decode code 168 = .ok (.iconst 1, 1) := by decide +kernel
theorem d_W_169 : decode code 169 = .ok (.iadd, 1) := by decide +kernel
theorem d_W_170 : decode code 170 = .ok (.iaload, 1) := by decide +kernel
theorem d_W_171 : decode code 171 = .ok (.aload_n 0, 1) := by decide +kernel
theorem d_W_172 : decode code 172 = .ok (.iload 4, 2) := by decide +kernel
theorem d_W_174 : decode code 174 = .ok (.iconst 2, 1) := by decide +kernel
theorem d_W_175 : decode code 175 = .ok (.iadd, 1) := by decide +kernel
theorem d_W_176 : decode code 176 = .ok (.iaload, 1) := by decide +kernel
theorem d_W_177 : decode code 177 = .ok (.aload_n 0, 1) := by decide +kernel
theorem d_W_178 : decode code 178 = .ok (.iload 4, 2) := by decide +kernel
theorem d_W_180 : decode code 180 = .ok (.iconst 3, 1) := by decide +kernel
theorem d_W_181 : decode code 181 = .ok (.iadd, 1) := by decide +kernel
theorem d_W_182 : decode code 182 = .ok (.iaload, 1) := by decide +kernel
theorem d_W_183 : decode code 183 = .ok (.aload_n 3, 1) := by decide +kernel
theorem d_W_184 : decode code 184 = .ok (.invokestatic 73, 3) := by decide +kernel
theorem d_W_187 : decode code 187 = .ok (.istore 5, 2) := by decide +kernel
theorem d_W_189 : decode code 189 = .ok (.aload_n 2, 1) := by decide +kernel
theorem d_W_190 : decode code 190 = .ok (.aload_n 0, 1) := by decide +kernel
theorem d_W_191 : decode code 191 = .ok (.iload 4, 2) := by decide +kernel
theorem d_W_193 : decode code 193 = .ok (.iconst 1, 1) := by decide +kernel
theorem d_W_194 : decode code 194 = .ok (.iadd, 1) := by decide +kernel
theorem d_W_195 : decode code 195 = .ok (.iaload, 1) := by decide +kernel
theorem d_W_196 : decode code 196 = .ok (.aload_n 0, 1) := by decide +kernel
theorem d_W_197 : decode code 197 = .ok (.iload 4, 2) := by decide +kernel
theorem d_W_199 : decode code 199 = .ok (.iconst 2, 1) := by decide +kernel
theorem d_W_200 : decode code 200 = .ok (.iadd, 1) := by decide +kernel
theorem d_W_201 : decode code 201 = .ok (.iaload, 1) := by decide +kernel
theorem d_W_202 : decode code 202 = .ok (.aload_n 0, 1) := by decide +kernel
theorem d_W_203 : decode code 203 = .ok (.iload 4, 2) := by decide +kernel
theorem d_W_205 : decode code 205 = .ok (.iconst 3, 1) := by decide +kernel
theorem d_W_206 : decode code 206 = .ok (.iadd, 1) := by decide +kernel
theorem d_W_207 : decode code 207 = .ok (.iaload, 1) := by decide +kernel
theorem d_W_208 : decode code 208 = .ok (.invokevirtual 76, 3) := by decide +kernel
theorem d_W_211 : decode code 211 = .ok (.istore 6, 2) := by decide +kernel
theorem d_W_213 : decode code 213 = .ok (.aload_n 2, 1) := by decide +kernel
theorem d_W_214 : decode code 214 = .ok (.invokevirtual 70, 3) := by decide +kernel
theorem d_W_217 : decode code 217 = .ok (.iload 5, 2) := by decide +kernel
theorem d_W_219 : decode code 219 = .ok (.if_icmp .eq 5, 3) := by decide +kernel
theorem d_W_222 : decode code 222 = .ok (.iconst 0, 1) := by decide +kernel
theorem d_W_223 : decode code 223 = .ok (.ireturn, 1) := by decide +kernel
theorem d_W_224 : decode code 224 = .ok (.iload 5, 2) := by decide +kernel
theorem d_W_226 : decode code 226 = .ok (.ifCond .ne 15, 3) := by decide +kernel
theorem d_W_229 : decode code 229 = .ok (.aload_n 3, 1) := by decide +kernel
theorem d_W_230 : decode code 230 = .ok (.iconst 0, 1) := by decide +kernel
theorem d_W_231 : decode code 231 = .ok (.laload, 1) := by decide +kernel
theorem d_W_232 : decode code 232 = .ok (.iload 6, 2) := by decide +kernel
theorem d_W_234 : decode code 234 = .ok (.i2l, 1) := by decide +kernel
theorem d_W_235 : decode code 235 = .ok (.lcmp, 1) := by decide +kernel
theorem d_W_236 : decode code 236 = .ok (.ifCond .eq 5, 3) := by decide +kernel
theorem d_W_239 : decode code 239 = .ok (.iconst 0, 1) := by decide +kernel
theorem d_W_240 : decode code 240 = .ok (.ireturn, 1) := by decide +kernel
theorem d_W_241 : decode code 241 = .ok (.goto 630, 3) := by decide +kernel
theorem d_W_244 : decode code 244 = .ok (.aload_n 1, 1) := by decide +kernel
theorem d_W_245 : decode code 245 = .ok (.aload_n 0, 1) := by decide +kernel
theorem d_W_246 : decode code 246 = .ok (.iload 4, 2) := by decide +kernel
theorem d_W_248 : decode code 248 = .ok (.iconst 1, 1) := by decide +kernel
theorem d_W_249 : decode code 249 = .ok (.iadd, 1) := by decide +kernel
theorem d_W_250 : decode code 250 = .ok (.iaload, 1) := by decide +kernel
theorem d_W_251 : decode code 251 = .ok (.aload_n 0, 1) := by decide +kernel
theorem d_W_252 : decode code 252 = .ok (.iload 4, 2) := by decide +kernel
theorem d_W_254 : decode code 254 = .ok (.iconst 2, 1) := by decide +kernel
theorem d_W_255 : decode code 255 = .ok (.iadd, 1) := by decide +kernel
theorem d_W_256 : decode code 256 = .ok (.iaload, 1) := by decide +kernel
theorem d_W_257 : decode code 257 = .ok (.aload_n 0, 1) := by decide +kernel
theorem d_W_258 : decode code 258 = .ok (.iload 4, 2) := by decide +kernel
theorem d_W_260 : decode code 260 = .ok (.iconst 3, 1) := by decide +kernel
theorem d_W_261 : decode code 261 = .ok (.iadd, 1) := by decide +kernel
theorem d_W_262 : decode code 262 = .ok (.iaload, 1) := by decide +kernel
theorem d_W_263 : decode code 263 = .ok (.aload_n 3, 1) := by decide +kernel
theorem d_W_264 : decode code 264 = .ok (.invokestatic 77, 3) := by decide +kernel
theorem d_W_267 : decode code 267 = .ok (.istore 5, 2) := by decide +kernel
theorem d_W_269 : decode code 269 = .ok (.aload_n 2, 1) := by decide +kernel
theorem d_W_270 : decode code 270 = .ok (.aload_n 0, 1) := by decide +kernel
theorem d_W_271 : decode code 271 = .ok (.iload 4, 2) := by decide +kernel
theorem d_W_273 : decode code 273 = .ok (.iconst 1, 1) := by decide +kernel
theorem d_W_274 : decode code 274 = .ok (.iadd, 1) := by decide +kernel
theorem d_W_275 : decode code 275 = .ok (.iaload, 1) := by decide +kernel
theorem d_W_276 : decode code 276 = .ok (.aload_n 0, 1) := by decide +kernel
theorem d_W_277 : decode code 277 = .ok (.iload 4, 2) := by decide +kernel
theorem d_W_279 : decode code 279 = .ok (.iconst 2, 1) := by decide +kernel
theorem d_W_280 : decode code 280 = .ok (.iadd, 1) := by decide +kernel
