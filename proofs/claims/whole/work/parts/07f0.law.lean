theorem zd_L_law_0 : decode zb_L_law 0 = .ok (.new 7, 3) := by decide +kernel
theorem zd_L_law_3 : decode zb_L_law 3 = .ok (.dup, 1) := by decide +kernel
theorem zd_L_law_4 : decode zb_L_law 4 = .ok (.aload_n 0, 1) := by decide +kernel
theorem zd_L_law_5 : decode zb_L_law 5 = .ok (.iconst 0, 1) := by decide +kernel
theorem zd_L_law_6 : decode zb_L_law 6 = .ok (.invokestatic 9, 3) := by decide +kernel
theorem zd_L_law_9 : decode zb_L_law 9 = .ok (.aload_n 0, 1) := by decide +kernel
theorem zd_L_law_10 : decode zb_L_law 10 = .ok (.iconst 1, 1) := by decide +kernel
theorem zd_L_law_11 : decode zb_L_law 11 = .ok (.invokestatic 9, 3) := by decide +kernel
theorem zd_L_law_14 : decode zb_L_law 14 = .ok (.aload_n 0, 1) := by decide +kernel
theorem zd_L_law_15 : decode zb_L_law 15 = .ok (.iconst 2, 1) := by decide +kernel
theorem zd_L_law_16 : decode zb_L_law 16 = .ok (.invokestatic 9, 3) := by decide +kernel
theorem zd_L_law_19 : decode zb_L_law 19 = .ok (.aload_n 0, 1) := by decide +kernel
theorem zd_L_law_20 : decode zb_L_law 20 = .ok (.iconst 3, 1) := by decide +kernel
theorem zd_L_law_21 : decode zb_L_law 21 = .ok (.invokestatic 9, 3) := by decide +kernel
theorem zd_L_law_24 : decode zb_L_law 24 = .ok (.invokespecial 15, 3) := by decide +kernel
theorem zd_L_law_27 : decode zb_L_law 27 = .ok (.astore_n 1, 1) := by decide +kernel
theorem zd_L_law_28 : decode zb_L_law 28 = .ok (.new 18, 3) := by decide +kernel
theorem zd_L_law_31 : decode zb_L_law 31 = .ok (.dup, 1) := by decide +kernel
theorem zd_L_law_32 : decode zb_L_law 32 = .ok (.aload_n 0, 1) := by decide +kernel
theorem zd_L_law_33 : decode zb_L_law 33 = .ok (.iconst 0, 1) := by decide +kernel
theorem zd_L_law_34 : decode zb_L_law 34 = .ok (.invokestatic 9, 3) := by decide +kernel
theorem zd_L_law_37 : decode zb_L_law 37 = .ok (.aload_n 0, 1) := by decide +kernel
theorem zd_L_law_38 : decode zb_L_law 38 = .ok (.iconst 1, 1) := by decide +kernel
theorem zd_L_law_39 : decode zb_L_law 39 = .ok (.invokestatic 9, 3) := by decide +kernel
theorem zd_L_law_42 : decode zb_L_law 42 = .ok (.aload_n 0, 1) := by decide +kernel
theorem zd_L_law_43 : decode zb_L_law 43 = .ok (.iconst 2, 1) := by decide +kernel
theorem zd_L_law_44 : decode zb_L_law 44 = .ok (.invokestatic 9, 3) := by decide +kernel
theorem zd_L_law_47 : decode zb_L_law 47 = .ok (.aload_n 0, 1) := by decide +kernel
theorem zd_L_law_48 : decode zb_L_law 48 = .ok (.iconst 3, 1) := by decide +kernel
theorem zd_L_law_49 : decode zb_L_law 49 = .ok (.invokestatic 9, 3) := by decide +kernel
theorem zd_L_law_52 : decode zb_L_law 52 = .ok (.invokespecial 20, 3) := by decide +kernel
theorem zd_L_law_55 : decode zb_L_law 55 = .ok (.astore_n 2, 1) := by decide +kernel
theorem zd_L_law_56 : decode zb_L_law 56 = .ok (.iconst 4, 1) := by decide +kernel
theorem zd_L_law_57 : decode zb_L_law 57 = .ok (.istore_n 3, 1) := by decide +kernel
theorem zd_L_law_58 : decode zb_L_law 58 = .ok (.iload_n 3, 1) := by decide +kernel
theorem zd_L_law_59 : decode zb_L_law 59 = .ok (.aload_n 0, 1) := by decide +kernel
theorem zd_L_law_60 : decode zb_L_law 60 = .ok (.arraylength, 1) := by decide +kernel
theorem zd_L_law_61 : decode zb_L_law 61 = .ok (.iconst 4, 1) := by decide +kernel
theorem zd_L_law_62 : decode zb_L_law 62 = .ok (.isub, 1) := by decide +kernel
theorem zd_L_law_63 : decode zb_L_law 63 = .ok (.if_icmp .gt 580, 3) := by decide +kernel
theorem zd_L_law_66 : decode zb_L_law 66 = .ok (.aload_n 0, 1) := by decide +kernel
theorem zd_L_law_67 : decode zb_L_law 67 = .ok (.iload_n 3, 1) := by decide +kernel
theorem zd_L_law_68 : decode zb_L_law 68 = .ok (.iaload, 1) := by decide +kernel
theorem zd_L_law_69 : decode zb_L_law 69 = .ok (.bipush 31, 2) := by decide +kernel
theorem zd_L_law_71 : decode zb_L_law 71 = .ok (.iand, 1) := by decide +kernel
theorem zd_L_law_72 : decode zb_L_law 72 = .ok (.tableswitch 565 0 16 #[84, 127, 160, 193, 216, 229, 252, 275, 298, 341, 384, 417, 450, 473, 496, 519, 542], 84) := by decide +kernel
theorem zd_L_law_156 : decode zb_L_law 156 = .ok (.aload_n 1, 1) := by decide +kernel
theorem zd_L_law_157 : decode zb_L_law 157 = .ok (.aload_n 0, 1) := by decide +kernel
theorem zd_L_law_158 : decode zb_L_law 158 = .ok (.iload_n 3, 1) := by decide +kernel
theorem zd_L_law_159 : decode zb_L_law 159 = .ok (.iconst 1, 1) := by decide +kernel
theorem zd_L_law_160 : decode zb_L_law 160 = .ok (.iadd, 1) := by decide +kernel
theorem zd_L_law_161 : decode zb_L_law 161 = .ok (.iaload, 1) := by decide +kernel
theorem zd_L_law_162 : decode zb_L_law 162 = .ok (.aload_n 0, 1) := by decide +kernel
theorem zd_L_law_163 : decode zb_L_law 163 = .ok (.iload_n 3, 1) := by decide +kernel
theorem zd_L_law_164 : decode zb_L_law 164 = .ok (.iconst 2, 1) := by decide +kernel
theorem zd_L_law_165 : decode zb_L_law 165 = .ok (.iadd, 1) := by decide +kernel
theorem zd_L_law_166 : decode zb_L_law 166 = .ok (.iaload, 1) := by decide +kernel
theorem zd_L_law_167 : decode zb_L_law 167 = .ok (.aload_n 0, 1) := by decide +kernel
theorem zd_L_law_168 : decode zb_L_law 168 = .ok (.iload_n 3, 1) := by decide +kernel
theorem zd_L_law_169 : decode zb_L_law 169 = .ok (.iconst 3, 1) := by decide +kernel
theorem zd_L_law_170 : decode zb_L_law 170 = .ok (.iadd, 1) := by decide +kernel
theorem zd_L_law_171 : decode zb_L_law 171 = .ok (.iaload, 1) := by decide +kernel
theorem zd_L_law_172 : decode zb_L_law 172 = .ok (.invokevirtual 21, 3) := by decide +kernel
theorem zd_L_law_175 : decode zb_L_law 175 = .ok (.aload_n 2, 1) := by decide +kernel
theorem zd_L_law_176 : decode zb_L_law 176 = .ok (.aload_n 0, 1) := by decide +kernel
theorem zd_L_law_177 : decode zb_L_law 177 = .ok (.iload_n 3, 1) := by decide +kernel
theorem zd_L_law_178 : decode zb_L_law 178 = .ok (.iconst 1, 1) := by decide +kernel
theorem zd_L_law_179 : decode zb_L_law 179 = .ok (.iadd, 1) := by decide +kernel
theorem zd_L_law_180 : decode zb_L_law 180 = .ok (.iaload, 1) := by decide +kernel
theorem zd_L_law_181 : decode zb_L_law 181 = .ok (.aload_n 0, 1) := by decide +kernel
theorem zd_L_law_182 : decode zb_L_law 182 = .ok (.iload_n 3, 1) := by decide +kernel
theorem zd_L_law_183 : decode zb_L_law 183 = .ok (.iconst 2, 1) := by decide +kernel
theorem zd_L_law_184 : decode zb_L_law 184 = .ok (.iadd, 1) := by decide +kernel
theorem zd_L_law_185 : decode zb_L_law 185 = .ok (.iaload, 1) := by decide +kernel
theorem zd_L_law_186 : decode zb_L_law 186 = .ok (.aload_n 0, 1) := by decide +kernel
theorem zd_L_law_187 : decode zb_L_law 187 = .ok (.iload_n 3, 1) := by decide +kernel
theorem zd_L_law_188 : decode zb_L_law 188 = .ok (.iconst 3, 1) := by decide +kernel
theorem zd_L_law_189 : decode zb_L_law 189 = .ok (.iadd, 1) := by decide +kernel
theorem zd_L_law_190 : decode zb_L_law 190 = .ok (.iaload, 1) := by decide +kernel
theorem zd_L_law_191 : decode zb_L_law 191 = .ok (.invokevirtual 25, 3) := by decide +kernel
theorem zd_L_law_194 : decode zb_L_law 194 = .ok (.if_icmp .eq 443, 3) := by decide +kernel
theorem zd_L_law_197 : decode zb_L_law 197 = .ok (.iconst 0, 1) := by decide +kernel
theorem zd_L_law_198 : decode zb_L_law 198 = .ok (.ireturn, 1) := by decide +kernel
theorem zd_L_law_199 : decode zb_L_law 199 = .ok (.aload_n 1, 1) := by decide +kernel
theorem zd_L_law_200 : decode zb_L_law 200 = .ok (.aload_n 0, 1) := by decide +kernel
theorem zd_L_law_201 : decode zb_L_law 201 = .ok (.iload_n 3, 1) := by decide +kernel
theorem zd_L_law_202 : decode zb_L_law 202 = .ok (.iconst 1, 1) := by decide +kernel
theorem zd_L_law_203 : decode zb_L_law 203 = .ok (.iadd, 1) := by decide +kernel
theorem zd_L_law_204 : decode zb_L_law 204 = .ok (.iaload, 1) := by decide +kernel
theorem zd_L_law_205 : decode zb_L_law 205 = .ok (.aload_n 0, 1) := by decide +kernel
theorem zd_L_law_206 : decode zb_L_law 206 = .ok (.iload_n 3, 1) := by decide +kernel
theorem zd_L_law_207 : decode zb_L_law 207 = .ok (.iconst 2, 1) := by decide +kernel
theorem zd_L_law_208 : decode zb_L_law 208 = .ok (.iadd, 1) := by decide +kernel
theorem zd_L_law_209 : decode zb_L_law 209 = .ok (.iaload, 1) := by decide +kernel
theorem zd_L_law_210 : decode zb_L_law 210 = .ok (.invokevirtual 26, 3) := by decide +kernel
theorem zd_L_law_213 : decode zb_L_law 213 = .ok (.aload_n 2, 1) := by decide +kernel
theorem zd_L_law_214 : decode zb_L_law 214 = .ok (.aload_n 0, 1) := by decide +kernel
theorem zd_L_law_215 : decode zb_L_law 215 = .ok (.iload_n 3, 1) := by decide +kernel
theorem zd_L_law_216 : decode zb_L_law 216 = .ok (.iconst 1, 1) := by decide +kernel
theorem zd_L_law_217 : decode zb_L_law 217 = .ok (.iadd, 1) := by decide +kernel
theorem zd_L_law_218 : decode zb_L_law 218 = .ok (.iaload, 1) := by decide +kernel
theorem zd_L_law_219 : decode zb_L_law 219 = .ok (.aload_n 0, 1) := by decide +kernel
theorem zd_L_law_220 : decode zb_L_law 220 = .ok (.iload_n 3, 1) := by decide +kernel
theorem zd_L_law_221 : decode zb_L_law 221 = .ok (.iconst 2, 1) := by decide +kernel
theorem zd_L_law_222 : decode zb_L_law 222 = .ok (.iadd, 1) := by decide +kernel
theorem zd_L_law_223 : decode zb_L_law 223 = .ok (.iaload, 1) := by decide +kernel
theorem zd_L_law_224 : decode zb_L_law 224 = .ok (.invokevirtual 30, 3) := by decide +kernel
theorem zd_L_law_227 : decode zb_L_law 227 = .ok (.if_icmp .eq 410, 3) := by decide +kernel
theorem zd_L_law_230 : decode zb_L_law 230 = .ok (.iconst 0, 1) := by decide +kernel
theorem zd_L_law_231 : decode zb_L_law 231 = .ok (.ireturn, 1) := by decide +kernel
theorem zd_L_law_232 : decode zb_L_law 232 = .ok (.aload_n 1, 1) := by decide +kernel
theorem zd_L_law_233 : decode zb_L_law 233 = .ok (.aload_n 0, 1) := by decide +kernel
theorem zd_L_law_234 : decode zb_L_law 234 = .ok (.iload_n 3, 1) := by decide +kernel
theorem zd_L_law_235 : decode zb_L_law 235 = .ok (.iconst 1, 1) := by decide +kernel
theorem zd_L_law_236 : decode zb_L_law 236 = .ok (.iadd, 1) := by decide +kernel
theorem zd_L_law_237 : decode zb_L_law 237 = .ok (.iaload, 1) := by decide +kernel
theorem zd_L_law_238 : decode zb_L_law 238 = .ok (.aload_n 0, 1) := by decide +kernel
theorem zd_L_law_239 : decode zb_L_law 239 = .ok (.iload_n 3, 1) := by decide +kernel
theorem zd_L_law_240 : decode zb_L_law 240 = .ok (.iconst 2, 1) := by decide +kernel
theorem zd_L_law_241 : decode zb_L_law 241 = .ok (.iadd, 1) := by decide +kernel
theorem zd_L_law_242 : decode zb_L_law 242 = .ok (.iaload, 1) := by decide +kernel
theorem zd_L_law_243 : decode zb_L_law 243 = .ok (.invokevirtual 31, 3) := by decide +kernel
theorem zd_L_law_246 : decode zb_L_law 246 = .ok (.aload_n 2, 1) := by decide +kernel
theorem zd_L_law_247 : decode zb_L_law 247 = .ok (.aload_n 0, 1) := by decide +kernel
theorem zd_L_law_248 : decode zb_L_law 248 = .ok (.iload_n 3, 1) := by decide +kernel
theorem zd_L_law_249 : decode zb_L_law 249 = .ok (.iconst 1, 1) := by decide +kernel
theorem zd_L_law_250 : decode zb_L_law 250 = .ok (.iadd, 1) := by decide +kernel
theorem zd_L_law_251 : decode zb_L_law 251 = .ok (.iaload, 1) := by decide +kernel
theorem zd_L_law_252 : decode zb_L_law 252 = .ok (.aload_n 0, 1) := by decide +kernel
theorem zd_L_law_253 : decode zb_L_law 253 = .ok (.iload_n 3, 1) := by decide +kernel
theorem zd_L_law_254 : decode zb_L_law 254 = .ok (.iconst 2, 1) := by decide +kernel
theorem zd_L_law_255 : decode zb_L_law 255 = .ok (.iadd, 1) := by decide +kernel
theorem zd_L_law_256 : decode zb_L_law 256 = .ok (.iaload, 1) := by decide +kernel
theorem zd_L_law_257 : decode zb_L_law 257 = .ok (.invokevirtual 35, 3) := by decide +kernel
theorem zd_L_law_260 : decode zb_L_law 260 = .ok (.if_icmp .eq 377, 3) := by decide +kernel
theorem zd_L_law_263 : decode zb_L_law 263 = .ok (.iconst 0, 1) := by decide +kernel
theorem zd_L_law_264 : decode zb_L_law 264 = .ok (.ireturn, 1) := by decide +kernel
theorem zd_L_law_265 : decode zb_L_law 265 = .ok (.aload_n 1, 1) := by decide +kernel
theorem zd_L_law_266 : decode zb_L_law 266 = .ok (.aload_n 0, 1) := by decide +kernel
theorem zd_L_law_267 : decode zb_L_law 267 = .ok (.iload_n 3, 1) := by decide +kernel
theorem zd_L_law_268 : decode zb_L_law 268 = .ok (.iconst 1, 1) := by decide +kernel
theorem zd_L_law_269 : decode zb_L_law 269 = .ok (.iadd, 1) := by decide +kernel
theorem zd_L_law_270 : decode zb_L_law 270 = .ok (.iaload, 1) := by decide +kernel
theorem zd_L_law_271 : decode zb_L_law 271 = .ok (.invokevirtual 36, 3) := by decide +kernel
theorem zd_L_law_274 : decode zb_L_law 274 = .ok (.aload_n 2, 1) := by decide +kernel
theorem zd_L_law_275 : decode zb_L_law 275 = .ok (.aload_n 0, 1) := by decide +kernel
theorem zd_L_law_276 : decode zb_L_law 276 = .ok (.iload_n 3, 1) := by decide +kernel
theorem zd_L_law_277 : decode zb_L_law 277 = .ok (.iconst 1, 1) := by decide +kernel
theorem zd_L_law_278 : decode zb_L_law 278 = .ok (.iadd, 1) := by decide +kernel
theorem zd_L_law_279 : decode zb_L_law 279 = .ok (.iaload, 1) := by decide +kernel
