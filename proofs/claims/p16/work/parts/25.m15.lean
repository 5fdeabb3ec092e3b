set_option maxRecDepth 100000 in
theorem dX11_oneOther_0 : decode prog_13_method_40_code 0 = .ok (.aload_n 0, 1) := by decide +kernel
set_option maxRecDepth 100000 in
theorem dX11_oneOther_1 : decode prog_13_method_40_code 1 = .ok (.getfield 13, 3) := by decide +kernel
set_option maxRecDepth 100000 in
theorem dX11_oneOther_4 : decode prog_13_method_40_code 4 = .ok (.iload_n 2, 1) := by decide +kernel
set_option maxRecDepth 100000 in
theorem dX11_oneOther_5 : decode prog_13_method_40_code 5 = .ok (.iaload, 1) := by decide +kernel
set_option maxRecDepth 100000 in
theorem dX11_oneOther_6 : decode prog_13_method_40_code 6 = .ok (.bipush 20, 2) := by decide +kernel
set_option maxRecDepth 100000 in
theorem dX11_oneOther_8 : decode prog_13_method_40_code 8 = .ok (.isub, 1) := by decide +kernel
set_option maxRecDepth 100000 in
theorem dX11_oneOther_9 : decode prog_13_method_40_code 9 = .ok (.istore_n 3, 1) := by decide +kernel
set_option maxRecDepth 100000 in
theorem dX11_oneOther_10 : decode prog_13_method_40_code 10 = .ok (.aload_n 0, 1) := by decide +kernel
set_option maxRecDepth 100000 in
theorem dX11_oneOther_11 : decode prog_13_method_40_code 11 = .ok (.getfield 26, 3) := by decide +kernel
set_option maxRecDepth 100000 in
theorem dX11_oneOther_14 : decode prog_13_method_40_code 14 = .ok (.iload_n 2, 1) := by decide +kernel
set_option maxRecDepth 100000 in
theorem dX11_oneOther_15 : decode prog_13_method_40_code 15 = .ok (.iaload, 1) := by decide +kernel
set_option maxRecDepth 100000 in
theorem dX11_oneOther_16 : decode prog_13_method_40_code 16 = .ok (.istore 4, 2) := by decide +kernel
set_option maxRecDepth 100000 in
theorem dX11_oneOther_18 : decode prog_13_method_40_code 18 = .ok (.aload_n 0, 1) := by decide +kernel
set_option maxRecDepth 100000 in
theorem dX11_oneOther_19 : decode prog_13_method_40_code 19 = .ok (.getfield 29, 3) := by decide +kernel
set_option maxRecDepth 100000 in
theorem dX11_oneOther_22 : decode prog_13_method_40_code 22 = .ok (.iload_n 2, 1) := by decide +kernel
set_option maxRecDepth 100000 in
theorem dX11_oneOther_23 : decode prog_13_method_40_code 23 = .ok (.iaload, 1) := by decide +kernel
set_option maxRecDepth 100000 in
theorem dX11_oneOther_24 : decode prog_13_method_40_code 24 = .ok (.istore 5, 2) := by decide +kernel
set_option maxRecDepth 100000 in
theorem dX11_oneOther_26 : decode prog_13_method_40_code 26 = .ok (.aload_n 0, 1) := by decide +kernel
set_option maxRecDepth 100000 in
theorem dX11_oneOther_27 : decode prog_13_method_40_code 27 = .ok (.getfield 35, 3) := by decide +kernel
set_option maxRecDepth 100000 in
theorem dX11_oneOther_30 : decode prog_13_method_40_code 30 = .ok (.iload_n 2, 1) := by decide +kernel
set_option maxRecDepth 100000 in
theorem dX11_oneOther_31 : decode prog_13_method_40_code 31 = .ok (.iaload, 1) := by decide +kernel
set_option maxRecDepth 100000 in
theorem dX11_oneOther_32 : decode prog_13_method_40_code 32 = .ok (.istore 6, 2) := by decide +kernel
set_option maxRecDepth 100000 in
theorem dX11_oneOther_34 : decode prog_13_method_40_code 34 = .ok (.aload_n 0, 1) := by decide +kernel
set_option maxRecDepth 100000 in
theorem dX11_oneOther_35 : decode prog_13_method_40_code 35 = .ok (.getfield 17, 3) := by decide +kernel
set_option maxRecDepth 100000 in
theorem dX11_oneOther_38 : decode prog_13_method_40_code 38 = .ok (.iload_n 2, 1) := by decide +kernel
set_option maxRecDepth 100000 in
theorem dX11_oneOther_39 : decode prog_13_method_40_code 39 = .ok (.iaload, 1) := by decide +kernel
set_option maxRecDepth 100000 in
theorem dX11_oneOther_40 : decode prog_13_method_40_code 40 = .ok (.istore 7, 2) := by decide +kernel
set_option maxRecDepth 100000 in
theorem dX11_oneOther_42 : decode prog_13_method_40_code 42 = .ok (.aload_n 0, 1) := by decide +kernel
set_option maxRecDepth 100000 in
theorem dX11_oneOther_43 : decode prog_13_method_40_code 43 = .ok (.getfield 78, 3) := by decide +kernel
set_option maxRecDepth 100000 in
theorem dX11_oneOther_46 : decode prog_13_method_40_code 46 = .ok (.iload_n 1, 1) := by decide +kernel
set_option maxRecDepth 100000 in
theorem dX11_oneOther_47 : decode prog_13_method_40_code 47 = .ok (.iaload, 1) := by decide +kernel
set_option maxRecDepth 100000 in
theorem dX11_oneOther_48 : decode prog_13_method_40_code 48 = .ok (.istore 8, 2) := by decide +kernel
set_option maxRecDepth 100000 in
theorem dX11_oneOther_50 : decode prog_13_method_40_code 50 = .ok (.aload_n 0, 1) := by decide +kernel
set_option maxRecDepth 100000 in
theorem dX11_oneOther_51 : decode prog_13_method_40_code 51 = .ok (.getfield 78, 3) := by decide +kernel
set_option maxRecDepth 100000 in
theorem dX11_oneOther_54 : decode prog_13_method_40_code 54 = .ok (.iload_n 1, 1) := by decide +kernel
set_option maxRecDepth 100000 in
theorem dX11_oneOther_55 : decode prog_13_method_40_code 55 = .ok (.dup2, 1) := by decide +kernel
set_option maxRecDepth 100000 in
theorem dX11_oneOther_56 : decode prog_13_method_40_code 56 = .ok (.iaload, 1) := by decide +kernel
set_option maxRecDepth 100000 in
theorem dX11_oneOther_57 : decode prog_13_method_40_code 57 = .ok (.iconst 1, 1) := by decide +kernel
set_option maxRecDepth 100000 in
theorem dX11_oneOther_58 : decode prog_13_method_40_code 58 = .ok (.iadd, 1) := by decide +kernel
set_option maxRecDepth 100000 in
theorem dX11_oneOther_59 : decode prog_13_method_40_code 59 = .ok (.iastore, 1) := by decide +kernel
set_option maxRecDepth 100000 in
theorem dX11_oneOther_60 : decode prog_13_method_40_code 60 = .ok (.aload_n 0, 1) := by decide +kernel
set_option maxRecDepth 100000 in
theorem dX11_oneOther_61 : decode prog_13_method_40_code 61 = .ok (.invokevirtual 262, 3) := by decide +kernel
set_option maxRecDepth 100000 in
theorem dX11_oneOther_64 : decode prog_13_method_40_code 64 = .ok (.iload_n 3, 1) := by decide +kernel
set_option maxRecDepth 100000 in
theorem dX11_oneOther_65 : decode prog_13_method_40_code 65 = .ok (.tableswitch 656 0 11 #[63, 106, 135, 183, 251, 317, 372, 437, 503, 519, 539, 553], 63) := by decide +kernel
set_option maxRecDepth 100000 in
theorem dX11_oneOther_128 : decode prog_13_method_40_code 128 = .ok (.aload_n 0, 1) := by decide +kernel
set_option maxRecDepth 100000 in
theorem dX11_oneOther_129 : decode prog_13_method_40_code 129 = .ok (.iload_n 1, 1) := by decide +kernel
set_option maxRecDepth 100000 in
theorem dX11_oneOther_130 : decode prog_13_method_40_code 130 = .ok (.iconst 0, 1) := by decide +kernel
set_option maxRecDepth 100000 in
theorem dX11_oneOther_131 : decode prog_13_method_40_code 131 = .ok (.iload 6, 2) := by decide +kernel
set_option maxRecDepth 100000 in
theorem dX11_oneOther_133 : decode prog_13_method_40_code 133 = .ok (.invokevirtual 265, 3) := by decide +kernel
set_option maxRecDepth 100000 in
theorem dX11_oneOther_136 : decode prog_13_method_40_code 136 = .ok (.aload_n 0, 1) := by decide +kernel
set_option maxRecDepth 100000 in
theorem dX11_oneOther_137 : decode prog_13_method_40_code 137 = .ok (.aload_n 0, 1) := by decide +kernel
set_option maxRecDepth 100000 in
theorem dX11_oneOther_138 : decode prog_13_method_40_code 138 = .ok (.getfield 41, 3) := by decide +kernel
set_option maxRecDepth 100000 in
theorem dX11_oneOther_141 : decode prog_13_method_40_code 141 = .ok (.iload_n 2, 1) := by decide +kernel
set_option maxRecDepth 100000 in
theorem dX11_oneOther_142 : decode prog_13_method_40_code 142 = .ok (.iaload, 1) := by decide +kernel
set_option maxRecDepth 100000 in
theorem dX11_oneOther_143 : decode prog_13_method_40_code 143 = .ok (.aload_n 0, 1) := by decide +kernel
set_option maxRecDepth 100000 in
theorem dX11_oneOther_144 : decode prog_13_method_40_code 144 = .ok (.getfield 44, 3) := by decide +kernel
set_option maxRecDepth 100000 in
theorem dX11_oneOther_147 : decode prog_13_method_40_code 147 = .ok (.iload_n 2, 1) := by decide +kernel
set_option maxRecDepth 100000 in
theorem dX11_oneOther_148 : decode prog_13_method_40_code 148 = .ok (.laload, 1) := by decide +kernel
set_option maxRecDepth 100000 in
theorem dX11_oneOther_149 : decode prog_13_method_40_code 149 = .ok (.invokevirtual 230, 3) := by decide +kernel
set_option maxRecDepth 100000 in
theorem dX11_oneOther_152 : decode prog_13_method_40_code 152 = .ok (.aload_n 0, 1) := by decide +kernel
set_option maxRecDepth 100000 in
theorem dX11_oneOther_153 : decode prog_13_method_40_code 153 = .ok (.iload_n 1, 1) := by decide +kernel
set_option maxRecDepth 100000 in
theorem dX11_oneOther_154 : decode prog_13_method_40_code 154 = .ok (.iload 6, 2) := by decide +kernel
set_option maxRecDepth 100000 in
theorem dX11_oneOther_156 : decode prog_13_method_40_code 156 = .ok (.iload 7, 2) := by decide +kernel
set_option maxRecDepth 100000 in
theorem dX11_oneOther_158 : decode prog_13_method_40_code 158 = .ok (.invokevirtual 265, 3) := by decide +kernel
set_option maxRecDepth 100000 in
theorem dX11_oneOther_161 : decode prog_13_method_40_code 161 = .ok (.aload_n 0, 1) := by decide +kernel
set_option maxRecDepth 100000 in
theorem dX11_oneOther_162 : decode prog_13_method_40_code 162 = .ok (.iload_n 1, 1) := by decide +kernel
set_option maxRecDepth 100000 in
theorem dX11_oneOther_163 : decode prog_13_method_40_code 163 = .ok (.iload 4, 2) := by decide +kernel
set_option maxRecDepth 100000 in
theorem dX11_oneOther_165 : decode prog_13_method_40_code 165 = .ok (.invokevirtual 269, 3) := by decide +kernel
set_option maxRecDepth 100000 in
theorem dX11_oneOther_168 : decode prog_13_method_40_code 168 = .ok (.goto 565, 3) := by decide +kernel
set_option maxRecDepth 100000 in
theorem dX11_oneOther_171 : decode prog_13_method_40_code 171 = .ok (.aload_n 0, 1) := by decide +kernel
set_option maxRecDepth 100000 in
theorem dX11_oneOther_172 : decode prog_13_method_40_code 172 = .ok (.iload_n 1, 1) := by decide +kernel
set_option maxRecDepth 100000 in
theorem dX11_oneOther_173 : decode prog_13_method_40_code 173 = .ok (.iconst 0, 1) := by decide +kernel
set_option maxRecDepth 100000 in
theorem dX11_oneOther_174 : decode prog_13_method_40_code 174 = .ok (.iload 6, 2) := by decide +kernel
set_option maxRecDepth 100000 in
theorem dX11_oneOther_176 : decode prog_13_method_40_code 176 = .ok (.invokevirtual 265, 3) := by decide +kernel
set_option maxRecDepth 100000 in
theorem dX11_oneOther_179 : decode prog_13_method_40_code 179 = .ok (.aload_n 0, 1) := by decide +kernel
set_option maxRecDepth 100000 in
theorem dX11_oneOther_180 : decode prog_13_method_40_code 180 = .ok (.iload_n 1, 1) := by decide +kernel
set_option maxRecDepth 100000 in
theorem dX11_oneOther_181 : decode prog_13_method_40_code 181 = .ok (.iload 6, 2) := by decide +kernel
set_option maxRecDepth 100000 in
theorem dX11_oneOther_183 : decode prog_13_method_40_code 183 = .ok (.iconst 1, 1) := by decide +kernel
set_option maxRecDepth 100000 in
theorem dX11_oneOther_184 : decode prog_13_method_40_code 184 = .ok (.iadd, 1) := by decide +kernel
set_option maxRecDepth 100000 in
theorem dX11_oneOther_185 : decode prog_13_method_40_code 185 = .ok (.iload 7, 2) := by decide +kernel
set_option maxRecDepth 100000 in
theorem dX11_oneOther_187 : decode prog_13_method_40_code 187 = .ok (.invokevirtual 265, 3) := by decide +kernel
set_option maxRecDepth 100000 in
theorem dX11_oneOther_190 : decode prog_13_method_40_code 190 = .ok (.aload_n 0, 1) := by decide +kernel
set_option maxRecDepth 100000 in
theorem dX11_oneOther_191 : decode prog_13_method_40_code 191 = .ok (.iload_n 1, 1) := by decide +kernel
set_option maxRecDepth 100000 in
theorem dX11_oneOther_192 : decode prog_13_method_40_code 192 = .ok (.iload 4, 2) := by decide +kernel
set_option maxRecDepth 100000 in
theorem dX11_oneOther_194 : decode prog_13_method_40_code 194 = .ok (.invokevirtual 269, 3) := by decide +kernel
set_option maxRecDepth 100000 in
theorem dX11_oneOther_197 : decode prog_13_method_40_code 197 = .ok (.goto 536, 3) := by decide +kernel
set_option maxRecDepth 100000 in
theorem dX11_oneOther_200 : decode prog_13_method_40_code 200 = .ok (.iconst 0, 1) := by decide +kernel
set_option maxRecDepth 100000 in
theorem dX11_oneOther_201 : decode prog_13_method_40_code 201 = .ok (.istore 9, 2) := by decide +kernel
set_option maxRecDepth 100000 in
theorem dX11_oneOther_203 : decode prog_13_method_40_code 203 = .ok (.iload 9, 2) := by decide +kernel
set_option maxRecDepth 100000 in
theorem dX11_oneOther_205 : decode prog_13_method_40_code 205 = .ok (.iload 7, 2) := by decide +kernel
set_option maxRecDepth 100000 in
theorem dX11_oneOther_207 : decode prog_13_method_40_code 207 = .ok (.if_icmp .ge 31, 3) := by decide +kernel
set_option maxRecDepth 100000 in
theorem dX11_oneOther_210 : decode prog_13_method_40_code 210 = .ok (.iload 6, 2) := by decide +kernel
set_option maxRecDepth 100000 in
theorem dX11_oneOther_212 : decode prog_13_method_40_code 212 = .ok (.iload 7, 2) := by decide +kernel
set_option maxRecDepth 100000 in
theorem dX11_oneOther_214 : decode prog_13_method_40_code 214 = .ok (.iload 9, 2) := by decide +kernel
set_option maxRecDepth 100000 in
theorem dX11_oneOther_216 : decode prog_13_method_40_code 216 = .ok (.invokestatic 141, 3) := by decide +kernel
set_option maxRecDepth 100000 in
theorem dX11_oneOther_219 : decode prog_13_method_40_code 219 = .ok (.istore 10, 2) := by decide +kernel
set_option maxRecDepth 100000 in
theorem dX11_oneOther_221 : decode prog_13_method_40_code 221 = .ok (.aload_n 0, 1) := by decide +kernel
set_option maxRecDepth 100000 in
theorem dX11_oneOther_222 : decode prog_13_method_40_code 222 = .ok (.iload_n 1, 1) := by decide +kernel
set_option maxRecDepth 100000 in
theorem dX11_oneOther_223 : decode prog_13_method_40_code 223 = .ok (.iload 10, 2) := by decide +kernel
set_option maxRecDepth 100000 in
theorem dX11_oneOther_225 : decode prog_13_method_40_code 225 = .ok (.iload 10, 2) := by decide +kernel
set_option maxRecDepth 100000 in
theorem dX11_oneOther_227 : decode prog_13_method_40_code 227 = .ok (.iconst 1, 1) := by decide +kernel
set_option maxRecDepth 100000 in
theorem dX11_oneOther_228 : decode prog_13_method_40_code 228 = .ok (.iadd, 1) := by decide +kernel
set_option maxRecDepth 100000 in
theorem dX11_oneOther_229 : decode prog_13_method_40_code 229 = .ok (.invokevirtual 265, 3) := by decide +kernel
set_option maxRecDepth 100000 in
theorem dX11_oneOther_232 : decode prog_13_method_40_code 232 = .ok (.iinc 9 1, 3) := by decide +kernel
set_option maxRecDepth 100000 in
theorem dX11_oneOther_235 : decode prog_13_method_40_code 235 = .ok (.goto (-32), 3) := by decide +kernel
set_option maxRecDepth 100000 in
theorem dX11_oneOther_238 : decode prog_13_method_40_code 238 = .ok (.aload_n 0, 1) := by decide +kernel
set_option maxRecDepth 100000 in
theorem dX11_oneOther_239 : decode prog_13_method_40_code 239 = .ok (.iload_n 1, 1) := by decide +kernel
set_option maxRecDepth 100000 in
theorem dX11_oneOther_240 : decode prog_13_method_40_code 240 = .ok (.iload 4, 2) := by decide +kernel
set_option maxRecDepth 100000 in
theorem dX11_oneOther_242 : decode prog_13_method_40_code 242 = .ok (.invokevirtual 269, 3) := by decide +kernel
set_option maxRecDepth 100000 in
theorem dX11_oneOther_245 : decode prog_13_method_40_code 245 = .ok (.goto 488, 3) := by decide +kernel
set_option maxRecDepth 100000 in
theorem dX11_oneOther_248 : decode prog_13_method_40_code 248 = .ok (.iload 8, 2) := by decide +kernel
set_option maxRecDepth 100000 in
theorem dX11_oneOther_250 : decode prog_13_method_40_code 250 = .ok (.ifCond .ne 25, 3) := by decide +kernel
set_option maxRecDepth 100000 in
theorem dX11_oneOther_253 : decode prog_13_method_40_code 253 = .ok (.aload_n 0, 1) := by decide +kernel
set_option maxRecDepth 100000 in
theorem dX11_oneOther_254 : decode prog_13_method_40_code 254 = .ok (.iload_n 1, 1) := by decide +kernel
set_option maxRecDepth 100000 in
theorem dX11_oneOther_255 : decode prog_13_method_40_code 255 = .ok (.iconst 0, 1) := by decide +kernel
set_option maxRecDepth 100000 in
theorem dX11_oneOther_256 : decode prog_13_method_40_code 256 = .ok (.aload_n 0, 1) := by decide +kernel
set_option maxRecDepth 100000 in
theorem dX11_oneOther_257 : decode prog_13_method_40_code 257 = .ok (.getfield 17, 3) := by decide +kernel
set_option maxRecDepth 100000 in
theorem dX11_oneOther_260 : decode prog_13_method_40_code 260 = .ok (.iload 5, 2) := by decide +kernel
set_option maxRecDepth 100000 in
theorem dX11_oneOther_262 : decode prog_13_method_40_code 262 = .ok (.iaload, 1) := by decide +kernel
set_option maxRecDepth 100000 in
theorem dX11_oneOther_263 : decode prog_13_method_40_code 263 = .ok (.invokevirtual 265, 3) := by decide +kernel
set_option maxRecDepth 100000 in
theorem dX11_oneOther_266 : decode prog_13_method_40_code 266 = .ok (.aload_n 0, 1) := by decide +kernel
set_option maxRecDepth 100000 in
theorem dX11_oneOther_267 : decode prog_13_method_40_code 267 = .ok (.iload 5, 2) := by decide +kernel
set_option maxRecDepth 100000 in
theorem dX11_oneOther_269 : decode prog_13_method_40_code 269 = .ok (.invokevirtual 259, 3) := by decide +kernel
set_option maxRecDepth 100000 in
theorem dX11_oneOther_272 : decode prog_13_method_40_code 272 = .ok (.goto 461, 3) := by decide +kernel
set_option maxRecDepth 100000 in
theorem dX11_oneOther_275 : decode prog_13_method_40_code 275 = .ok (.aload_n 0, 1) := by decide +kernel
set_option maxRecDepth 100000 in
theorem dX11_oneOther_276 : decode prog_13_method_40_code 276 = .ok (.getfield 23, 3) := by decide +kernel
set_option maxRecDepth 100000 in
theorem dX11_oneOther_279 : decode prog_13_method_40_code 279 = .ok (.iload 5, 2) := by decide +kernel
set_option maxRecDepth 100000 in
theorem dX11_oneOther_281 : decode prog_13_method_40_code 281 = .ok (.iaload, 1) := by decide +kernel
set_option maxRecDepth 100000 in
theorem dX11_oneOther_282 : decode prog_13_method_40_code 282 = .ok (.iconst 4, 1) := by decide +kernel
set_option maxRecDepth 100000 in
theorem dX11_oneOther_283 : decode prog_13_method_40_code 283 = .ok (.if_icmp .eq 15, 3) := by decide +kernel
set_option maxRecDepth 100000 in
theorem dX11_oneOther_286 : decode prog_13_method_40_code 286 = .ok (.aload_n 0, 1) := by decide +kernel
set_option maxRecDepth 100000 in
theorem dX11_oneOther_287 : decode prog_13_method_40_code 287 = .ok (.aload_n 0, 1) := by decide +kernel
set_option maxRecDepth 100000 in
theorem dX11_oneOther_288 : decode prog_13_method_40_code 288 = .ok (.getfield 207, 3) := by decide +kernel
set_option maxRecDepth 100000 in
theorem dX11_oneOther_291 : decode prog_13_method_40_code 291 = .ok (.aload_n 0, 1) := by decide +kernel
set_option maxRecDepth 100000 in
theorem dX11_oneOther_292 : decode prog_13_method_40_code 292 = .ok (.getfield 210, 3) := by decide +kernel
set_option maxRecDepth 100000 in
theorem dX11_oneOther_295 : decode prog_13_method_40_code 295 = .ok (.invokevirtual 230, 3) := by decide +kernel
set_option maxRecDepth 100000 in
theorem dX11_oneOther_298 : decode prog_13_method_40_code 298 = .ok (.aload_n 0, 1) := by decide +kernel
set_option maxRecDepth 100000 in
theorem dX11_oneOther_299 : decode prog_13_method_40_code 299 = .ok (.iload_n 1, 1) := by decide +kernel
set_option maxRecDepth 100000 in
theorem dX11_oneOther_300 : decode prog_13_method_40_code 300 = .ok (.iconst 0, 1) := by decide +kernel
set_option maxRecDepth 100000 in
theorem dX11_oneOther_301 : decode prog_13_method_40_code 301 = .ok (.iload 7, 2) := by decide +kernel
set_option maxRecDepth 100000 in
theorem dX11_oneOther_303 : decode prog_13_method_40_code 303 = .ok (.invokevirtual 265, 3) := by decide +kernel
set_option maxRecDepth 100000 in
theorem dX11_oneOther_306 : decode prog_13_method_40_code 306 = .ok (.aload_n 0, 1) := by decide +kernel
set_option maxRecDepth 100000 in
theorem dX11_oneOther_307 : decode prog_13_method_40_code 307 = .ok (.iload_n 1, 1) := by decide +kernel
set_option maxRecDepth 100000 in
theorem dX11_oneOther_308 : decode prog_13_method_40_code 308 = .ok (.iload 4, 2) := by decide +kernel
set_option maxRecDepth 100000 in
theorem dX11_oneOther_310 : decode prog_13_method_40_code 310 = .ok (.invokevirtual 269, 3) := by decide +kernel
set_option maxRecDepth 100000 in
theorem dX11_oneOther_313 : decode prog_13_method_40_code 313 = .ok (.goto 420, 3) := by decide +kernel
set_option maxRecDepth 100000 in
theorem dX11_oneOther_316 : decode prog_13_method_40_code 316 = .ok (.iload 8, 2) := by decide +kernel
set_option maxRecDepth 100000 in
theorem dX11_oneOther_318 : decode prog_13_method_40_code 318 = .ok (.ifCond .ne 23, 3) := by decide +kernel
set_option maxRecDepth 100000 in
theorem dX11_oneOther_321 : decode prog_13_method_40_code 321 = .ok (.aload_n 0, 1) := by decide +kernel
set_option maxRecDepth 100000 in
theorem dX11_oneOther_322 : decode prog_13_method_40_code 322 = .ok (.iload_n 1, 1) := by decide +kernel
set_option maxRecDepth 100000 in
theorem dX11_oneOther_323 : decode prog_13_method_40_code 323 = .ok (.iload 6, 2) := by decide +kernel
set_option maxRecDepth 100000 in
theorem dX11_oneOther_325 : decode prog_13_method_40_code 325 = .ok (.iload 6, 2) := by decide +kernel
set_option maxRecDepth 100000 in
theorem dX11_oneOther_327 : decode prog_13_method_40_code 327 = .ok (.iconst 1, 1) := by decide +kernel
set_option maxRecDepth 100000 in
theorem dX11_oneOther_328 : decode prog_13_method_40_code 328 = .ok (.iadd, 1) := by decide +kernel
set_option maxRecDepth 100000 in
theorem dX11_oneOther_329 : decode prog_13_method_40_code 329 = .ok (.invokevirtual 265, 3) := by decide +kernel
set_option maxRecDepth 100000 in
theorem dX11_oneOther_332 : decode prog_13_method_40_code 332 = .ok (.aload_n 0, 1) := by decide +kernel
set_option maxRecDepth 100000 in
theorem dX11_oneOther_333 : decode prog_13_method_40_code 333 = .ok (.iload 5, 2) := by decide +kernel
set_option maxRecDepth 100000 in
theorem dX11_oneOther_335 : decode prog_13_method_40_code 335 = .ok (.invokevirtual 259, 3) := by decide +kernel
set_option maxRecDepth 100000 in
theorem dX11_oneOther_338 : decode prog_13_method_40_code 338 = .ok (.goto 395, 3) := by decide +kernel
set_option maxRecDepth 100000 in
theorem dX11_oneOther_341 : decode prog_13_method_40_code 341 = .ok (.aload_n 0, 1) := by decide +kernel
set_option maxRecDepth 100000 in
theorem dX11_oneOther_342 : decode prog_13_method_40_code 342 = .ok (.iload_n 1, 1) := by decide +kernel
set_option maxRecDepth 100000 in
theorem dX11_oneOther_343 : decode prog_13_method_40_code 343 = .ok (.iconst 0, 1) := by decide +kernel
set_option maxRecDepth 100000 in
theorem dX11_oneOther_344 : decode prog_13_method_40_code 344 = .ok (.iload 6, 2) := by decide +kernel
set_option maxRecDepth 100000 in
theorem dX11_oneOther_346 : decode prog_13_method_40_code 346 = .ok (.invokevirtual 265, 3) := by decide +kernel
set_option maxRecDepth 100000 in
theorem dX11_oneOther_349 : decode prog_13_method_40_code 349 = .ok (.aload_n 0, 1) := by decide +kernel
set_option maxRecDepth 100000 in
theorem dX11_oneOther_350 : decode prog_13_method_40_code 350 = .ok (.aload_n 0, 1) := by decide +kernel
set_option maxRecDepth 100000 in
theorem dX11_oneOther_351 : decode prog_13_method_40_code 351 = .ok (.getfield 207, 3) := by decide +kernel
set_option maxRecDepth 100000 in
theorem dX11_oneOther_354 : decode prog_13_method_40_code 354 = .ok (.aload_n 0, 1) := by decide +kernel
set_option maxRecDepth 100000 in
theorem dX11_oneOther_355 : decode prog_13_method_40_code 355 = .ok (.getfield 210, 3) := by decide +kernel
set_option maxRecDepth 100000 in
theorem dX11_oneOther_358 : decode prog_13_method_40_code 358 = .ok (.invokevirtual 230, 3) := by decide +kernel
set_option maxRecDepth 100000 in
theorem dX11_oneOther_361 : decode prog_13_method_40_code 361 = .ok (.aload_n 0, 1) := by decide +kernel
set_option maxRecDepth 100000 in
theorem dX11_oneOther_362 : decode prog_13_method_40_code 362 = .ok (.iload_n 1, 1) := by decide +kernel
set_option maxRecDepth 100000 in
theorem dX11_oneOther_363 : decode prog_13_method_40_code 363 = .ok (.iload 6, 2) := by decide +kernel
set_option maxRecDepth 100000 in
theorem dX11_oneOther_365 : decode prog_13_method_40_code 365 = .ok (.iconst 1, 1) := by decide +kernel
set_option maxRecDepth 100000 in
theorem dX11_oneOther_366 : decode prog_13_method_40_code 366 = .ok (.iadd, 1) := by decide +kernel
set_option maxRecDepth 100000 in
theorem dX11_oneOther_367 : decode prog_13_method_40_code 367 = .ok (.iload 7, 2) := by decide +kernel
set_option maxRecDepth 100000 in
theorem dX11_oneOther_369 : decode prog_13_method_40_code 369 = .ok (.invokevirtual 265, 3) := by decide +kernel
set_option maxRecDepth 100000 in
theorem dX11_oneOther_372 : decode prog_13_method_40_code 372 = .ok (.aload_n 0, 1) := by decide +kernel
set_option maxRecDepth 100000 in
theorem dX11_oneOther_373 : decode prog_13_method_40_code 373 = .ok (.iload_n 1, 1) := by decide +kernel
set_option maxRecDepth 100000 in
theorem dX11_oneOther_374 : decode prog_13_method_40_code 374 = .ok (.iload 4, 2) := by decide +kernel
set_option maxRecDepth 100000 in
theorem dX11_oneOther_376 : decode prog_13_method_40_code 376 = .ok (.invokevirtual 269, 3) := by decide +kernel
set_option maxRecDepth 100000 in
theorem dX11_oneOther_379 : decode prog_13_method_40_code 379 = .ok (.goto 354, 3) := by decide +kernel
set_option maxRecDepth 100000 in
theorem dX11_oneOther_382 : decode prog_13_method_40_code 382 = .ok (.iload 8, 2) := by decide +kernel
set_option maxRecDepth 100000 in
theorem dX11_oneOther_384 : decode prog_13_method_40_code 384 = .ok (.ifCond .ne 20, 3) := by decide +kernel
set_option maxRecDepth 100000 in
theorem dX11_oneOther_387 : decode prog_13_method_40_code 387 = .ok (.aload_n 0, 1) := by decide +kernel
set_option maxRecDepth 100000 in
theorem dX11_oneOther_388 : decode prog_13_method_40_code 388 = .ok (.iload_n 1, 1) := by decide +kernel
set_option maxRecDepth 100000 in
theorem dX11_oneOther_389 : decode prog_13_method_40_code 389 = .ok (.iconst 0, 1) := by decide +kernel
set_option maxRecDepth 100000 in
theorem dX11_oneOther_390 : decode prog_13_method_40_code 390 = .ok (.iload 7, 2) := by decide +kernel
set_option maxRecDepth 100000 in
theorem dX11_oneOther_392 : decode prog_13_method_40_code 392 = .ok (.invokevirtual 265, 3) := by decide +kernel
set_option maxRecDepth 100000 in
theorem dX11_oneOther_395 : decode prog_13_method_40_code 395 = .ok (.aload_n 0, 1) := by decide +kernel
set_option maxRecDepth 100000 in
theorem dX11_oneOther_396 : decode prog_13_method_40_code 396 = .ok (.iload 4, 2) := by decide +kernel
set_option maxRecDepth 100000 in
theorem dX11_oneOther_398 : decode prog_13_method_40_code 398 = .ok (.invokevirtual 259, 3) := by decide +kernel
set_option maxRecDepth 100000 in
theorem dX11_oneOther_401 : decode prog_13_method_40_code 401 = .ok (.goto 332, 3) := by decide +kernel
set_option maxRecDepth 100000 in
theorem dX11_oneOther_404 : decode prog_13_method_40_code 404 = .ok (.aload_n 0, 1) := by decide +kernel
set_option maxRecDepth 100000 in
theorem dX11_oneOther_405 : decode prog_13_method_40_code 405 = .ok (.getfield 23, 3) := by decide +kernel
set_option maxRecDepth 100000 in
theorem dX11_oneOther_408 : decode prog_13_method_40_code 408 = .ok (.iload 4, 2) := by decide +kernel
set_option maxRecDepth 100000 in
theorem dX11_oneOther_410 : decode prog_13_method_40_code 410 = .ok (.iaload, 1) := by decide +kernel
set_option maxRecDepth 100000 in
theorem dX11_oneOther_411 : decode prog_13_method_40_code 411 = .ok (.iconst 4, 1) := by decide +kernel
set_option maxRecDepth 100000 in
theorem dX11_oneOther_412 : decode prog_13_method_40_code 412 = .ok (.if_icmp .eq 15, 3) := by decide +kernel
set_option maxRecDepth 100000 in
theorem dX11_oneOther_415 : decode prog_13_method_40_code 415 = .ok (.aload_n 0, 1) := by decide +kernel
set_option maxRecDepth 100000 in
theorem dX11_oneOther_416 : decode prog_13_method_40_code 416 = .ok (.aload_n 0, 1) := by decide +kernel
set_option maxRecDepth 100000 in
theorem dX11_oneOther_417 : decode prog_13_method_40_code 417 = .ok (.getfield 207, 3) := by decide +kernel
set_option maxRecDepth 100000 in
theorem dX11_oneOther_420 : decode prog_13_method_40_code 420 = .ok (.aload_n 0, 1) := by decide +kernel
set_option maxRecDepth 100000 in
theorem dX11_oneOther_421 : decode prog_13_method_40_code 421 = .ok (.getfield 210, 3) := by decide +kernel
set_option maxRecDepth 100000 in
theorem dX11_oneOther_424 : decode prog_13_method_40_code 424 = .ok (.invokevirtual 230, 3) := by decide +kernel
set_option maxRecDepth 100000 in
theorem dX11_oneOther_427 : decode prog_13_method_40_code 427 = .ok (.aload_n 0, 1) := by decide +kernel
set_option maxRecDepth 100000 in
theorem dX11_oneOther_428 : decode prog_13_method_40_code 428 = .ok (.iload_n 1, 1) := by decide +kernel
set_option maxRecDepth 100000 in
theorem dX11_oneOther_429 : decode prog_13_method_40_code 429 = .ok (.iload 5, 2) := by decide +kernel
set_option maxRecDepth 100000 in
theorem dX11_oneOther_431 : decode prog_13_method_40_code 431 = .ok (.invokevirtual 269, 3) := by decide +kernel
set_option maxRecDepth 100000 in
theorem dX11_oneOther_434 : decode prog_13_method_40_code 434 = .ok (.goto 299, 3) := by decide +kernel
set_option maxRecDepth 100000 in
theorem dX11_oneOther_437 : decode prog_13_method_40_code 437 = .ok (.aload_n 0, 1) := by decide +kernel
set_option maxRecDepth 100000 in
theorem dX11_oneOther_438 : decode prog_13_method_40_code 438 = .ok (.iload_n 1, 1) := by decide +kernel
set_option maxRecDepth 100000 in
theorem dX11_oneOther_439 : decode prog_13_method_40_code 439 = .ok (.iconst 0, 1) := by decide +kernel
set_option maxRecDepth 100000 in
theorem dX11_oneOther_440 : decode prog_13_method_40_code 440 = .ok (.iload 8, 2) := by decide +kernel
set_option maxRecDepth 100000 in
theorem dX11_oneOther_442 : decode prog_13_method_40_code 442 = .ok (.ifCond .ne 13, 3) := by decide +kernel
set_option maxRecDepth 100000 in
theorem dX11_oneOther_445 : decode prog_13_method_40_code 445 = .ok (.aload_n 0, 1) := by decide +kernel
set_option maxRecDepth 100000 in
theorem dX11_oneOther_446 : decode prog_13_method_40_code 446 = .ok (.getfield 17, 3) := by decide +kernel
set_option maxRecDepth 100000 in
theorem dX11_oneOther_449 : decode prog_13_method_40_code 449 = .ok (.iload 4, 2) := by decide +kernel
set_option maxRecDepth 100000 in
theorem dX11_oneOther_451 : decode prog_13_method_40_code 451 = .ok (.iaload, 1) := by decide +kernel
set_option maxRecDepth 100000 in
theorem dX11_oneOther_452 : decode prog_13_method_40_code 452 = .ok (.goto 5, 3) := by decide +kernel
set_option maxRecDepth 100000 in
theorem dX11_oneOther_455 : decode prog_13_method_40_code 455 = .ok (.iload 7, 2) := by decide +kernel
set_option maxRecDepth 100000 in
theorem dX11_oneOther_457 : decode prog_13_method_40_code 457 = .ok (.invokevirtual 265, 3) := by decide +kernel
set_option maxRecDepth 100000 in
theorem dX11_oneOther_460 : decode prog_13_method_40_code 460 = .ok (.iload 8, 2) := by decide +kernel
set_option maxRecDepth 100000 in
theorem dX11_oneOther_462 : decode prog_13_method_40_code 462 = .ok (.ifCond .ne 12, 3) := by decide +kernel
set_option maxRecDepth 100000 in
theorem dX11_oneOther_465 : decode prog_13_method_40_code 465 = .ok (.aload_n 0, 1) := by decide +kernel
set_option maxRecDepth 100000 in
theorem dX11_oneOther_466 : decode prog_13_method_40_code 466 = .ok (.iload 4, 2) := by decide +kernel
set_option maxRecDepth 100000 in
theorem dX11_oneOther_468 : decode prog_13_method_40_code 468 = .ok (.invokevirtual 259, 3) := by decide +kernel
set_option maxRecDepth 100000 in
theorem dX11_oneOther_471 : decode prog_13_method_40_code 471 = .ok (.goto 262, 3) := by decide +kernel
set_option maxRecDepth 100000 in
theorem dX11_oneOther_474 : decode prog_13_method_40_code 474 = .ok (.aload_n 0, 1) := by decide +kernel
set_option maxRecDepth 100000 in
theorem dX11_oneOther_475 : decode prog_13_method_40_code 475 = .ok (.iload_n 1, 1) := by decide +kernel
set_option maxRecDepth 100000 in
theorem dX11_oneOther_476 : decode prog_13_method_40_code 476 = .ok (.aload_n 0, 1) := by decide +kernel
set_option maxRecDepth 100000 in
theorem dX11_oneOther_477 : decode prog_13_method_40_code 477 = .ok (.getfield 210, 3) := by decide +kernel
set_option maxRecDepth 100000 in
theorem dX11_oneOther_480 : decode prog_13_method_40_code 480 = .ok (.lconst 0, 1) := by decide +kernel
set_option maxRecDepth 100000 in
theorem dX11_oneOther_481 : decode prog_13_method_40_code 481 = .ok (.lcmp, 1) := by decide +kernel
set_option maxRecDepth 100000 in
theorem dX11_oneOther_482 : decode prog_13_method_40_code 482 = .ok (.ifCond .eq 8, 3) := by decide +kernel
set_option maxRecDepth 100000 in
theorem dX11_oneOther_485 : decode prog_13_method_40_code 485 = .ok (.iload 5, 2) := by decide +kernel
set_option maxRecDepth 100000 in
theorem dX11_oneOther_487 : decode prog_13_method_40_code 487 = .ok (.goto 9, 3) := by decide +kernel
set_option maxRecDepth 100000 in
theorem dX11_oneOther_490 : decode prog_13_method_40_code 490 = .ok (.aload_n 0, 1) := by decide +kernel
set_option maxRecDepth 100000 in
theorem dX11_oneOther_491 : decode prog_13_method_40_code 491 = .ok (.getfield 32, 3) := by decide +kernel
set_option maxRecDepth 100000 in
theorem dX11_oneOther_494 : decode prog_13_method_40_code 494 = .ok (.iload_n 2, 1) := by decide +kernel
set_option maxRecDepth 100000 in
theorem dX11_oneOther_495 : decode prog_13_method_40_code 495 = .ok (.iaload, 1) := by decide +kernel
set_option maxRecDepth 100000 in
theorem dX11_oneOther_496 : decode prog_13_method_40_code 496 = .ok (.invokevirtual 269, 3) := by decide +kernel
set_option maxRecDepth 100000 in
theorem dX11_oneOther_499 : decode prog_13_method_40_code 499 = .ok (.goto 234, 3) := by decide +kernel
set_option maxRecDepth 100000 in
theorem dX11_oneOther_502 : decode prog_13_method_40_code 502 = .ok (.iload 8, 2) := by decide +kernel
set_option maxRecDepth 100000 in
theorem dX11_oneOther_504 : decode prog_13_method_40_code 504 = .ok (.ifCond .ne 20, 3) := by decide +kernel
set_option maxRecDepth 100000 in
theorem dX11_oneOther_507 : decode prog_13_method_40_code 507 = .ok (.aload_n 0, 1) := by decide +kernel
set_option maxRecDepth 100000 in
theorem dX11_oneOther_508 : decode prog_13_method_40_code 508 = .ok (.iload_n 1, 1) := by decide +kernel
set_option maxRecDepth 100000 in
theorem dX11_oneOther_509 : decode prog_13_method_40_code 509 = .ok (.iconst 0, 1) := by decide +kernel
set_option maxRecDepth 100000 in
theorem dX11_oneOther_510 : decode prog_13_method_40_code 510 = .ok (.iload 7, 2) := by decide +kernel
set_option maxRecDepth 100000 in
theorem dX11_oneOther_512 : decode prog_13_method_40_code 512 = .ok (.invokevirtual 265, 3) := by decide +kernel
set_option maxRecDepth 100000 in
theorem dX11_oneOther_515 : decode prog_13_method_40_code 515 = .ok (.aload_n 0, 1) := by decide +kernel
set_option maxRecDepth 100000 in
theorem dX11_oneOther_516 : decode prog_13_method_40_code 516 = .ok (.iload 4, 2) := by decide +kernel
set_option maxRecDepth 100000 in
theorem dX11_oneOther_518 : decode prog_13_method_40_code 518 = .ok (.invokevirtual 259, 3) := by decide +kernel
set_option maxRecDepth 100000 in
theorem dX11_oneOther_521 : decode prog_13_method_40_code 521 = .ok (.goto 212, 3) := by decide +kernel
set_option maxRecDepth 100000 in
theorem dX11_oneOther_524 : decode prog_13_method_40_code 524 = .ok (.aload_n 0, 1) := by decide +kernel
set_option maxRecDepth 100000 in
theorem dX11_oneOther_525 : decode prog_13_method_40_code 525 = .ok (.iload 6, 2) := by decide +kernel
set_option maxRecDepth 100000 in
theorem dX11_oneOther_527 : decode prog_13_method_40_code 527 = .ok (.invokevirtual 272, 3) := by decide +kernel
set_option maxRecDepth 100000 in
theorem dX11_oneOther_530 : decode prog_13_method_40_code 530 = .ok (.ifCond .eq 31, 3) := by decide +kernel
set_option maxRecDepth 100000 in
theorem dX11_oneOther_533 : decode prog_13_method_40_code 533 = .ok (.aload_n 0, 1) := by decide +kernel
set_option maxRecDepth 100000 in
theorem dX11_oneOther_534 : decode prog_13_method_40_code 534 = .ok (.iconst 0, 1) := by decide +kernel
set_option maxRecDepth 100000 in
theorem dX11_oneOther_535 : decode prog_13_method_40_code 535 = .ok (.aload_n 0, 1) := by decide +kernel
set_option maxRecDepth 100000 in
theorem dX11_oneOther_536 : decode prog_13_method_40_code 536 = .ok (.getfield 173, 3) := by decide +kernel
set_option maxRecDepth 100000 in
theorem dX11_oneOther_539 : decode prog_13_method_40_code 539 = .ok (.i2l, 1) := by decide +kernel
set_option maxRecDepth 100000 in
theorem dX11_oneOther_540 : decode prog_13_method_40_code 540 = .ok (.invokevirtual 230, 3) := by decide +kernel
set_option maxRecDepth 100000 in
theorem dX11_oneOther_543 : decode prog_13_method_40_code 543 = .ok (.aload_n 0, 1) := by decide +kernel
set_option maxRecDepth 100000 in
theorem dX11_oneOther_544 : decode prog_13_method_40_code 544 = .ok (.iload_n 1, 1) := by decide +kernel
set_option maxRecDepth 100000 in
theorem dX11_oneOther_545 : decode prog_13_method_40_code 545 = .ok (.iconst 0, 1) := by decide +kernel
set_option maxRecDepth 100000 in
theorem dX11_oneOther_546 : decode prog_13_method_40_code 546 = .ok (.iload 7, 2) := by decide +kernel
set_option maxRecDepth 100000 in
theorem dX11_oneOther_548 : decode prog_13_method_40_code 548 = .ok (.invokevirtual 265, 3) := by decide +kernel
set_option maxRecDepth 100000 in
theorem dX11_oneOther_551 : decode prog_13_method_40_code 551 = .ok (.aload_n 0, 1) := by decide +kernel
set_option maxRecDepth 100000 in
theorem dX11_oneOther_552 : decode prog_13_method_40_code 552 = .ok (.iload_n 1, 1) := by decide +kernel
set_option maxRecDepth 100000 in
theorem dX11_oneOther_553 : decode prog_13_method_40_code 553 = .ok (.iload 5, 2) := by decide +kernel
set_option maxRecDepth 100000 in
theorem dX11_oneOther_555 : decode prog_13_method_40_code 555 = .ok (.invokevirtual 269, 3) := by decide +kernel
set_option maxRecDepth 100000 in
theorem dX11_oneOther_558 : decode prog_13_method_40_code 558 = .ok (.goto 175, 3) := by decide +kernel
set_option maxRecDepth 100000 in
theorem dX11_oneOther_561 : decode prog_13_method_40_code 561 = .ok (.aload_n 0, 1) := by decide +kernel
set_option maxRecDepth 100000 in
theorem dX11_oneOther_562 : decode prog_13_method_40_code 562 = .ok (.invokevirtual 243, 3) := by decide +kernel
set_option maxRecDepth 100000 in
theorem dX11_oneOther_565 : decode prog_13_method_40_code 565 = .ok (.goto 168, 3) := by decide +kernel
set_option maxRecDepth 100000 in
theorem dX11_oneOther_568 : decode prog_13_method_40_code 568 = .ok (.aload_n 0, 1) := by decide +kernel
set_option maxRecDepth 100000 in
theorem dX11_oneOther_569 : decode prog_13_method_40_code 569 = .ok (.iload_n 1, 1) := by decide +kernel
set_option maxRecDepth 100000 in
theorem dX11_oneOther_570 : decode prog_13_method_40_code 570 = .ok (.iload 8, 2) := by decide +kernel
set_option maxRecDepth 100000 in
theorem dX11_oneOther_572 : decode prog_13_method_40_code 572 = .ok (.iload 4, 2) := by decide +kernel
set_option maxRecDepth 100000 in
theorem dX11_oneOther_574 : decode prog_13_method_40_code 574 = .ok (.iload 5, 2) := by decide +kernel
set_option maxRecDepth 100000 in
theorem dX11_oneOther_576 : decode prog_13_method_40_code 576 = .ok (.iload 7, 2) := by decide +kernel
set_option maxRecDepth 100000 in
theorem dX11_oneOther_578 : decode prog_13_method_40_code 578 = .ok (.invokevirtual 275, 3) := by decide +kernel
set_option maxRecDepth 100000 in
theorem dX11_oneOther_581 : decode prog_13_method_40_code 581 = .ok (.goto 152, 3) := by decide +kernel
set_option maxRecDepth 100000 in
theorem dX11_oneOther_584 : decode prog_13_method_40_code 584 = .ok (.aload_n 0, 1) := by decide +kernel
set_option maxRecDepth 100000 in
theorem dX11_oneOther_585 : decode prog_13_method_40_code 585 = .ok (.iload_n 1, 1) := by decide +kernel
set_option maxRecDepth 100000 in
theorem dX11_oneOther_586 : decode prog_13_method_40_code 586 = .ok (.iload 8, 2) := by decide +kernel
set_option maxRecDepth 100000 in
theorem dX11_oneOther_588 : decode prog_13_method_40_code 588 = .ok (.iload 4, 2) := by decide +kernel
set_option maxRecDepth 100000 in
theorem dX11_oneOther_590 : decode prog_13_method_40_code 590 = .ok (.iload 5, 2) := by decide +kernel
set_option maxRecDepth 100000 in
theorem dX11_oneOther_592 : decode prog_13_method_40_code 592 = .ok (.aload_n 0, 1) := by decide +kernel
set_option maxRecDepth 100000 in
theorem dX11_oneOther_593 : decode prog_13_method_40_code 593 = .ok (.getfield 32, 3) := by decide +kernel
set_option maxRecDepth 100000 in
theorem dX11_oneOther_596 : decode prog_13_method_40_code 596 = .ok (.iload_n 2, 1) := by decide +kernel
set_option maxRecDepth 100000 in
theorem dX11_oneOther_597 : decode prog_13_method_40_code 597 = .ok (.iaload, 1) := by decide +kernel
set_option maxRecDepth 100000 in
theorem dX11_oneOther_598 : decode prog_13_method_40_code 598 = .ok (.invokevirtual 279, 3) := by decide +kernel
set_option maxRecDepth 100000 in
theorem dX11_oneOther_601 : decode prog_13_method_40_code 601 = .ok (.goto 132, 3) := by decide +kernel
set_option maxRecDepth 100000 in
theorem dX11_oneOther_604 : decode prog_13_method_40_code 604 = .ok (.aload_n 0, 1) := by decide +kernel
set_option maxRecDepth 100000 in
theorem dX11_oneOther_605 : decode prog_13_method_40_code 605 = .ok (.iload_n 1, 1) := by decide +kernel
set_option maxRecDepth 100000 in
theorem dX11_oneOther_606 : decode prog_13_method_40_code 606 = .ok (.iload 4, 2) := by decide +kernel
set_option maxRecDepth 100000 in
theorem dX11_oneOther_608 : decode prog_13_method_40_code 608 = .ok (.iload 6, 2) := by decide +kernel
set_option maxRecDepth 100000 in
theorem dX11_oneOther_610 : decode prog_13_method_40_code 610 = .ok (.iload 7, 2) := by decide +kernel
set_option maxRecDepth 100000 in
theorem dX11_oneOther_612 : decode prog_13_method_40_code 612 = .ok (.invokevirtual 282, 3) := by decide +kernel
set_option maxRecDepth 100000 in
theorem dX11_oneOther_615 : decode prog_13_method_40_code 615 = .ok (.goto 118, 3) := by decide +kernel
set_option maxRecDepth 100000 in
theorem dX11_oneOther_618 : decode prog_13_method_40_code 618 = .ok (.aload_n 0, 1) := by decide +kernel
set_option maxRecDepth 100000 in
theorem dX11_oneOther_619 : decode prog_13_method_40_code 619 = .ok (.getfield 115, 3) := by decide +kernel
set_option maxRecDepth 100000 in
theorem dX11_oneOther_622 : decode prog_13_method_40_code 622 = .ok (.bipush 60, 2) := by decide +kernel
set_option maxRecDepth 100000 in
theorem dX11_oneOther_624 : decode prog_13_method_40_code 624 = .ok (.if_icmp .ne 12, 3) := by decide +kernel
set_option maxRecDepth 100000 in
theorem dX11_oneOther_627 : decode prog_13_method_40_code 627 = .ok (.aload_n 0, 1) := by decide +kernel
set_option maxRecDepth 100000 in
theorem dX11_oneOther_628 : decode prog_13_method_40_code 628 = .ok (.bipush 10, 2) := by decide +kernel
set_option maxRecDepth 100000 in
theorem dX11_oneOther_630 : decode prog_13_method_40_code 630 = .ok (.invokevirtual 285, 3) := by decide +kernel
set_option maxRecDepth 100000 in
theorem dX11_oneOther_633 : decode prog_13_method_40_code 633 = .ok (.goto 100, 3) := by decide +kernel
set_option maxRecDepth 100000 in
theorem dX11_oneOther_636 : decode prog_13_method_40_code 636 = .ok (.aload_n 0, 1) := by decide +kernel
set_option maxRecDepth 100000 in
theorem dX11_oneOther_637 : decode prog_13_method_40_code 637 = .ok (.iload 6, 2) := by decide +kernel
set_option maxRecDepth 100000 in
theorem dX11_oneOther_639 : decode prog_13_method_40_code 639 = .ok (.invokevirtual 216, 3) := by decide +kernel
set_option maxRecDepth 100000 in
theorem dX11_oneOther_642 : decode prog_13_method_40_code 642 = .ok (.istore 9, 2) := by decide +kernel
set_option maxRecDepth 100000 in
theorem dX11_oneOther_644 : decode prog_13_method_40_code 644 = .ok (.iconst 0, 1) := by decide +kernel
set_option maxRecDepth 100000 in
theorem dX11_oneOther_645 : decode prog_13_method_40_code 645 = .ok (.istore 10, 2) := by decide +kernel
set_option maxRecDepth 100000 in
theorem dX11_oneOther_647 : decode prog_13_method_40_code 647 = .ok (.iload 10, 2) := by decide +kernel
set_option maxRecDepth 100000 in
theorem dX11_oneOther_649 : decode prog_13_method_40_code 649 = .ok (.iload 6, 2) := by decide +kernel
set_option maxRecDepth 100000 in
theorem dX11_oneOther_651 : decode prog_13_method_40_code 651 = .ok (.if_icmp .ge 41, 3) := by decide +kernel
set_option maxRecDepth 100000 in
theorem dX11_oneOther_654 : decode prog_13_method_40_code 654 = .ok (.aload_n 0, 1) := by decide +kernel
set_option maxRecDepth 100000 in
theorem dX11_oneOther_655 : decode prog_13_method_40_code 655 = .ok (.getfield 51, 3) := by decide +kernel
set_option maxRecDepth 100000 in
theorem dX11_oneOther_658 : decode prog_13_method_40_code 658 = .ok (.bipush 20, 2) := by decide +kernel
set_option maxRecDepth 100000 in
theorem dX11_oneOther_660 : decode prog_13_method_40_code 660 = .ok (.iload 9, 2) := by decide +kernel
set_option maxRecDepth 100000 in
theorem dX11_oneOther_662 : decode prog_13_method_40_code 662 = .ok (.imul, 1) := by decide +kernel
set_option maxRecDepth 100000 in
theorem dX11_oneOther_663 : decode prog_13_method_40_code 663 = .ok (.iload 10, 2) := by decide +kernel
set_option maxRecDepth 100000 in
theorem dX11_oneOther_665 : decode prog_13_method_40_code 665 = .ok (.iadd, 1) := by decide +kernel
set_option maxRecDepth 100000 in
theorem dX11_oneOther_666 : decode prog_13_method_40_code 666 = .ok (.aload_n 0, 1) := by decide +kernel
set_option maxRecDepth 100000 in
theorem dX11_oneOther_667 : decode prog_13_method_40_code 667 = .ok (.getfield 84, 3) := by decide +kernel
set_option maxRecDepth 100000 in
theorem dX11_oneOther_670 : decode prog_13_method_40_code 670 = .ok (.bipush 7, 2) := by decide +kernel
set_option maxRecDepth 100000 in
theorem dX11_oneOther_672 : decode prog_13_method_40_code 672 = .ok (.iload_n 1, 1) := by decide +kernel
set_option maxRecDepth 100000 in
theorem dX11_oneOther_673 : decode prog_13_method_40_code 673 = .ok (.imul, 1) := by decide +kernel
set_option maxRecDepth 100000 in
theorem dX11_oneOther_674 : decode prog_13_method_40_code 674 = .ok (.iload 7, 2) := by decide +kernel
set_option maxRecDepth 100000 in
theorem dX11_oneOther_676 : decode prog_13_method_40_code 676 = .ok (.iadd, 1) := by decide +kernel
set_option maxRecDepth 100000 in
theorem dX11_oneOther_677 : decode prog_13_method_40_code 677 = .ok (.iload 6, 2) := by decide +kernel
set_option maxRecDepth 100000 in
theorem dX11_oneOther_679 : decode prog_13_method_40_code 679 = .ok (.isub, 1) := by decide +kernel
set_option maxRecDepth 100000 in
theorem dX11_oneOther_680 : decode prog_13_method_40_code 680 = .ok (.iload 10, 2) := by decide +kernel
set_option maxRecDepth 100000 in
theorem dX11_oneOther_682 : decode prog_13_method_40_code 682 = .ok (.iadd, 1) := by decide +kernel
set_option maxRecDepth 100000 in
theorem dX11_oneOther_683 : decode prog_13_method_40_code 683 = .ok (.laload, 1) := by decide +kernel
set_option maxRecDepth 100000 in
theorem dX11_oneOther_684 : decode prog_13_method_40_code 684 = .ok (.l2i, 1) := by decide +kernel
set_option maxRecDepth 100000 in
theorem dX11_oneOther_685 : decode prog_13_method_40_code 685 = .ok (.iastore, 1) := by decide +kernel
set_option maxRecDepth 100000 in
theorem dX11_oneOther_686 : decode prog_13_method_40_code 686 = .ok (.iinc 10 1, 3) := by decide +kernel
set_option maxRecDepth 100000 in
theorem dX11_oneOther_689 : decode prog_13_method_40_code 689 = .ok (.goto (-42), 3) := by decide +kernel
set_option maxRecDepth 100000 in
theorem dX11_oneOther_692 : decode prog_13_method_40_code 692 = .ok (.aload_n 0, 1) := by decide +kernel
set_option maxRecDepth 100000 in
theorem dX11_oneOther_693 : decode prog_13_method_40_code 693 = .ok (.iload_n 1, 1) := by decide +kernel
set_option maxRecDepth 100000 in
theorem dX11_oneOther_694 : decode prog_13_method_40_code 694 = .ok (.iconst 0, 1) := by decide +kernel
set_option maxRecDepth 100000 in
theorem dX11_oneOther_695 : decode prog_13_method_40_code 695 = .ok (.iload 7, 2) := by decide +kernel
set_option maxRecDepth 100000 in
theorem dX11_oneOther_697 : decode prog_13_method_40_code 697 = .ok (.iload 6, 2) := by decide +kernel
set_option maxRecDepth 100000 in
theorem dX11_oneOther_699 : decode prog_13_method_40_code 699 = .ok (.isub, 1) := by decide +kernel
set_option maxRecDepth 100000 in
theorem dX11_oneOther_700 : decode prog_13_method_40_code 700 = .ok (.invokevirtual 265, 3) := by decide +kernel
set_option maxRecDepth 100000 in
theorem dX11_oneOther_703 : decode prog_13_method_40_code 703 = .ok (.aload_n 0, 1) := by decide +kernel
set_option maxRecDepth 100000 in
theorem dX11_oneOther_704 : decode prog_13_method_40_code 704 = .ok (.iconst 2, 1) := by decide +kernel
set_option maxRecDepth 100000 in
theorem dX11_oneOther_705 : decode prog_13_method_40_code 705 = .ok (.iload 9, 2) := by decide +kernel
set_option maxRecDepth 100000 in
theorem dX11_oneOther_707 : decode prog_13_method_40_code 707 = .ok (.i2l, 1) := by decide +kernel
set_option maxRecDepth 100000 in
theorem dX11_oneOther_708 : decode prog_13_method_40_code 708 = .ok (.invokevirtual 230, 3) := by decide +kernel
set_option maxRecDepth 100000 in
theorem dX11_oneOther_711 : decode prog_13_method_40_code 711 = .ok (.aload_n 0, 1) := by decide +kernel
set_option maxRecDepth 100000 in
theorem dX11_oneOther_712 : decode prog_13_method_40_code 712 = .ok (.iload_n 1, 1) := by decide +kernel
set_option maxRecDepth 100000 in
theorem dX11_oneOther_713 : decode prog_13_method_40_code 713 = .ok (.iload 4, 2) := by decide +kernel
set_option maxRecDepth 100000 in
theorem dX11_oneOther_715 : decode prog_13_method_40_code 715 = .ok (.invokevirtual 269, 3) := by decide +kernel
set_option maxRecDepth 100000 in
theorem dX11_oneOther_718 : decode prog_13_method_40_code 718 = .ok (.goto 15, 3) := by decide +kernel
set_option maxRecDepth 100000 in
theorem dX11_oneOther_721 : decode prog_13_method_40_code 721 = .ok (.aload_n 0, 1) := by decide +kernel
set_option maxRecDepth 100000 in
theorem dX11_oneOther_722 : decode prog_13_method_40_code 722 = .ok (.iload_n 1, 1) := by decide +kernel
set_option maxRecDepth 100000 in
theorem dX11_oneOther_723 : decode prog_13_method_40_code 723 = .ok (.iload 8, 2) := by decide +kernel
set_option maxRecDepth 100000 in
theorem dX11_oneOther_725 : decode prog_13_method_40_code 725 = .ok (.iload_n 2, 1) := by decide +kernel
set_option maxRecDepth 100000 in
theorem dX11_oneOther_726 : decode prog_13_method_40_code 726 = .ok (.iload 4, 2) := by decide +kernel
set_option maxRecDepth 100000 in
theorem dX11_oneOther_728 : decode prog_13_method_40_code 728 = .ok (.iload 7, 2) := by decide +kernel
set_option maxRecDepth 100000 in
theorem dX11_oneOther_730 : decode prog_13_method_40_code 730 = .ok (.invokevirtual 288, 3) := by decide +kernel
set_option maxRecDepth 100000 in
theorem dX11_oneOther_733 : decode prog_13_method_40_code 733 = .ok (.return_, 1) := by decide +kernel
set_option maxRecDepth 100000 in
theorem okX11_begin : mOk miX11_begin 0 := ⟨(gd_of 1000 rfl rfl), (gd_of 76 rfl rfl), by decide +kernel, ⟨by decide +kernel, by decide +kernel, by decide +kernel⟩, by decide⟩
set_option maxRecDepth 100000 in
theorem okX11_isCaught : mOk miX11_isCaught 1 := ⟨(gd_of 1040 rfl rfl), (gd_of 76 rfl rfl), by decide +kernel, ⟨by decide +kernel, by decide +kernel, by decide +kernel⟩, by decide⟩
set_option maxRecDepth 100000 in
theorem okX11_ends : mOk miX11_ends 5 := ⟨(gd_of 1044 rfl rfl), (gd_of 76 rfl rfl), by decide +kernel, ⟨by decide +kernel, by decide +kernel, by decide +kernel⟩, by decide⟩
set_option maxRecDepth 100000 in
theorem okX11_rounds : mOk miX11_rounds 5 := ⟨(gd_of 1050 rfl rfl), (gd_of 76 rfl rfl), by decide +kernel, ⟨by decide +kernel, by decide +kernel, by decide +kernel⟩, by decide⟩
set_option maxRecDepth 100000 in
theorem okX11_spreads : mOk miX11_spreads 4 := ⟨(gd_of 1054 rfl rfl), (gd_of 76 rfl rfl), by decide +kernel, ⟨by decide +kernel, by decide +kernel, by decide +kernel⟩, by decide⟩
set_option maxRecDepth 100000 in
theorem okX11_adapts : mOk miX11_adapts 5 := ⟨(gd_of 1062 rfl rfl), (gd_of 76 rfl rfl), by decide +kernel, ⟨by decide +kernel, by decide +kernel, by decide +kernel⟩, by decide⟩
def fX11_oneOther_203 (z : Nat → Nat) : Nat → Nat → Int32 → Int32 → Int32 → Int32 → Int32 → aH → Option aH
  | 0, _, _, _, _, _, _, _ => none
  | n + 1, a0, x1, x4, x6, x7, x9, h => (if x7 ≤ x9 then
  (obO h a0 9).bind fun fs102 =>
  (fX11_last z a0 x1 x4 h).bind fun q101 =>
  some q101
  else
  (fX11_digit z x6 x7 x9 h).bind fun q103 =>
  (obO q103.2 a0 9).bind fun fs105 =>
  (fX11_addOwn z a0 x1 q103.1 (q103.1 + 1) q103.2).bind fun q104 =>
  fX11_oneOther_203 z n a0 x1 x4 x6 x7 (x9 + 1) q104)
set_option maxHeartbeats 4000000 in
set_option maxRecDepth 100000 in
theorem xX11_oneOther_203 {l : Launch} {g : aG} {d : Nat} (hK : 3 ≤ d + 1) : ∀ (n : Nat) (a0 : Nat) (x1 : Int32) (x4 : Int32) (x6 : Int32) (x7 : Int32) (x9 : Int32) (h : aH) (q : aH), fX11_oneOther_203 g.2.2 n a0 x1 x4 x6 x7 x9 h = some q → Y l g miX11_oneOther (d + 1) 203 [some (.inr (.inr (some a0))), some (.inl x1), none, none, some (.inl x4), none, some (.inl x6), some (.inl x7), none, some (.inl x9), none] [] h (none, q) := by
  intro n
  induction n with
  | zero => intro a0 x1 x4 x6 x7 x9 h q hf; simp [fX11_oneOther_203] at hf
  | succ n ih =>
    intro a0 x1 x4 x6 x7 x9 h q hf
    rw [fX11_oneOther_203] at hf
    refine y_iload (i := 9) dX11_oneOther_203 rfl ?_
    refine y_iload (i := 7) dX11_oneOther_205 rfl ?_
    refine y_icmp_ge (tgt := 238) dX11_oneOther_207 (by decide) (fun hc => ?_) (fun hc => ?_)
    · rw [if_pos hc] at hf
      refine y_aload_n (i := 0) dX11_oneOther_238 rfl rfl ?_
      refine y_iload_n (i := 1) dX11_oneOther_239 rfl rfl ?_
      refine y_iload (i := 4) dX11_oneOther_240 rfl ?_
      replace hf := bnd hf
      obtain ⟨fs102, efs102, hf⟩ := hf
      replace hf := bnd hf
      obtain ⟨q101, eq101, hf⟩ := hf
      refine y_callV (mj := miX11_last) (args := [.inl x1, .inl x4]) (st := []) dX11_oneOther_242 (gd_of 1033 rfl rfl) (gd_of 1035 rfl rfl) (gd_of 62 rfl rfl) okX11_last (obO_spec efs102) rfl rfl (xX11_last (by omega) eq101) (Nat.le_of_ble_eq_true rfl) rfl ?_
      show Y l g miX11_oneOther (d + 1) 245 [some (.inr (.inr (some a0))), some (.inl x1), none, none, some (.inl x4), none, some (.inl x6), some (.inl x7), none, some (.inl x9), none] [] q101 _
      refine y_goto (tgt := 733) dX11_oneOther_245 (by decide) ?_
      obtain rfl := Option.some.inj hf
      exact y_ret (v := none) dX11_oneOther_733 rfl
    · rw [if_neg hc] at hf
      refine y_iload (i := 6) dX11_oneOther_210 rfl ?_
      refine y_iload (i := 7) dX11_oneOther_212 rfl ?_
      refine y_iload (i := 9) dX11_oneOther_214 rfl ?_
      replace hf := bnd hf
      obtain ⟨q103, eq103, hf⟩ := hf
      refine y_callS (mj := miX11_digit) (args := [.inl x6, .inl x7, .inl x9]) (st := []) dX11_oneOther_216 (gd_of 909 rfl rfl) (gd_of 910 rfl rfl) okX11_digit (xX11_digit (by omega) eq103) (Nat.le_of_ble_eq_true rfl) rfl ?_
      show Y l g miX11_oneOther (d + 1) 219 [some (.inr (.inr (some a0))), some (.inl x1), none, none, some (.inl x4), none, some (.inl x6), some (.inl x7), none, some (.inl x9), none] [.inl q103.1] q103.2 _
      refine y_istore (i := 10) (lv2 := [some (.inr (.inr (some a0))), some (.inl x1), none, none, some (.inl x4), none, some (.inl x6), some (.inl x7), none, some (.inl x9), some (.inl q103.1)]) dX11_oneOther_219 (by decide) rfl ?_
      refine y_aload_n (i := 0) dX11_oneOther_221 rfl rfl ?_
      refine y_iload_n (i := 1) dX11_oneOther_222 rfl rfl ?_
      refine y_iload (i := 10) dX11_oneOther_223 rfl ?_
      refine y_iload (i := 10) dX11_oneOther_225 rfl ?_
      refine y_iconst (v := 1) dX11_oneOther_227 (by decide) ?_
      refine y_iadd dX11_oneOther_228 ?_
      replace hf := bnd hf
      obtain ⟨fs105, efs105, hf⟩ := hf
      replace hf := bnd hf
      obtain ⟨q104, eq104, hf⟩ := hf
      refine y_callV (mj := miX11_addOwn) (args := [.inl x1, .inl q103.1, .inl (q103.1 + 1)]) (st := []) dX11_oneOther_229 (gd_of 1029 rfl rfl) (gd_of 1031 rfl rfl) (gd_of 61 rfl rfl) okX11_addOwn (obO_spec efs105) rfl rfl (xX11_addOwn (by omega) eq104) (Nat.le_of_ble_eq_true rfl) rfl ?_
      show Y l g miX11_oneOther (d + 1) 232 [some (.inr (.inr (some a0))), some (.inl x1), none, none, some (.inl x4), none, some (.inl x6), some (.inl x7), none, some (.inl x9), some (.inl q103.1)] [] q104 _
      refine y_iinc (i := 9) (y := 1) (lv2 := [some (.inr (.inr (some a0))), some (.inl x1), none, none, some (.inl x4), none, some (.inl x6), some (.inl x7), none, some (.inl (x9 + 1)), some (.inl q103.1)]) dX11_oneOther_232 rfl (by decide) (by decide) rfl ?_
      refine y_goto (tgt := 203) dX11_oneOther_235 (by decide) ?_
      refine Y.weak (lv2 := [some (.inr (.inr (some a0))), some (.inl x1), none, none, some (.inl x4), none, some (.inl x6), some (.inl x7), none, some (.inl (x9 + 1)), none]) [true, true, false, false, true, false, true, true, false, true, false] rfl ?_
      exact ih _ _ _ _ _ _ _ _ hf
def fX11_oneOther_298 (z : Nat → Nat) (a0 : Nat) (x1 : Int32) (x4 : Int32) (x7 : Int32) (h : aH) : Option aH :=
  (obO h a0 9).bind fun fs102 =>
  (fX11_addOwn z a0 x1 0 x7 h).bind fun q101 =>
  (obO q101 a0 9).bind fun fs104 =>
  (fX11_last z a0 x1 x4 q101).bind fun q103 =>
  some q103
set_option maxHeartbeats 4000000 in
set_option maxRecDepth 100000 in
theorem xX11_oneOther_298 {l : Launch} {g : aG} {d : Nat} (hK : 3 ≤ d + 1) {a0 : Nat} {x1 : Int32} {x4 : Int32} {x7 : Int32} {h : aH} {q : aH} (hf : fX11_oneOther_298 g.2.2 a0 x1 x4 x7 h = some q) : Y l g miX11_oneOther (d + 1) 298 [some (.inr (.inr (some a0))), some (.inl x1), none, none, some (.inl x4), none, none, some (.inl x7), none, none, none] [] h (none, q) := by
  unfold fX11_oneOther_298 at hf
  refine y_aload_n (i := 0) dX11_oneOther_298 rfl rfl ?_
  refine y_iload_n (i := 1) dX11_oneOther_299 rfl rfl ?_
  refine y_iconst (v := 0) dX11_oneOther_300 (by decide) ?_
  refine y_iload (i := 7) dX11_oneOther_301 rfl ?_
  replace hf := bnd hf
  obtain ⟨fs102, efs102, hf⟩ := hf
  replace hf := bnd hf
  obtain ⟨q101, eq101, hf⟩ := hf
  refine y_callV (mj := miX11_addOwn) (args := [.inl x1, .inl 0, .inl x7]) (st := []) dX11_oneOther_303 (gd_of 1029 rfl rfl) (gd_of 1031 rfl rfl) (gd_of 61 rfl rfl) okX11_addOwn (obO_spec efs102) rfl rfl (xX11_addOwn (by omega) eq101) (Nat.le_of_ble_eq_true rfl) rfl ?_
  show Y l g miX11_oneOther (d + 1) 306 [some (.inr (.inr (some a0))), some (.inl x1), none, none, some (.inl x4), none, none, some (.inl x7), none, none, none] [] q101 _
  refine y_aload_n (i := 0) dX11_oneOther_306 rfl rfl ?_
  refine y_iload_n (i := 1) dX11_oneOther_307 rfl rfl ?_
  refine y_iload (i := 4) dX11_oneOther_308 rfl ?_
  replace hf := bnd hf
  obtain ⟨fs104, efs104, hf⟩ := hf
  replace hf := bnd hf
  obtain ⟨q103, eq103, hf⟩ := hf
  refine y_callV (mj := miX11_last) (args := [.inl x1, .inl x4]) (st := []) dX11_oneOther_310 (gd_of 1033 rfl rfl) (gd_of 1035 rfl rfl) (gd_of 62 rfl rfl) okX11_last (obO_spec efs104) rfl rfl (xX11_last (by omega) eq103) (Nat.le_of_ble_eq_true rfl) rfl ?_
  show Y l g miX11_oneOther (d + 1) 313 [some (.inr (.inr (some a0))), some (.inl x1), none, none, some (.inl x4), none, none, some (.inl x7), none, none, none] [] q103 _
  refine y_goto (tgt := 733) dX11_oneOther_313 (by decide) ?_
  obtain rfl := Option.some.inj hf
  exact y_ret (v := none) dX11_oneOther_733 rfl
def fX11_oneOther_457 (z : Nat → Nat) (a0 : Nat) (x1 : Int32) (x2 : Int32) (x4 : Int32) (x5 : Int32) (x8 : Int32) (sr0 : Option Nat) (sx1 : Int32) (sx2 : Int32) (sx3 : Int32) (h : aH) : Option aH :=
  (sr0).bind fun a102 =>
  (obO h a102 9).bind fun fs103 =>
  (fX11_addOwn z a102 sx1 sx2 sx3 h).bind fun q101 =>
  (if x8 = 0 then
  (obO q101 a0 9).bind fun fs113 =>
  (fX11_calls z a0 x4 q101).bind fun q112 =>
  some q112
  else
  (rdJ q101 a0 [9] 31).bind fun j104 =>
  (if (lg_cmp j104 0) = 0 then
  (rdR q101 a0 [9] 8).bind fun r105 =>
  (r105).bind fun a106 =>
  (arI q101 a106 x2).bind fun x107 =>
  (obO q101 a0 9).bind fun fs109 =>
  (fX11_last z a0 x1 x107 q101).bind fun q108 =>
  some q108
  else
  (obO q101 a0 9).bind fun fs111 =>
  (fX11_last z a0 x1 x5 q101).bind fun q110 =>
  some q110))
set_option maxHeartbeats 4000000 in
set_option maxRecDepth 100000 in
theorem xX11_oneOther_457 {l : Launch} {g : aG} {d : Nat} (hK : 3 ≤ d + 1) {a0 : Nat} {x1 : Int32} {x2 : Int32} {x4 : Int32} {x5 : Int32} {x8 : Int32} {sr0 : Option Nat} {sx1 : Int32} {sx2 : Int32} {sx3 : Int32} {h : aH} {q : aH} (hf : fX11_oneOther_457 g.2.2 a0 x1 x2 x4 x5 x8 sr0 sx1 sx2 sx3 h = some q) : Y l g miX11_oneOther (d + 1) 457 [some (.inr (.inr (some a0))), some (.inl x1), some (.inl x2), none, some (.inl x4), some (.inl x5), none, none, some (.inl x8), none, none] [.inl sx3, .inl sx2, .inl sx1, .inr (.inr sr0)] h (none, q) := by
  unfold fX11_oneOther_457 at hf
  replace hf := bnd hf
  obtain ⟨a102, rfl, hf⟩ := hf
  replace hf := bnd hf
  obtain ⟨fs103, efs103, hf⟩ := hf
  replace hf := bnd hf
  obtain ⟨q101, eq101, hf⟩ := hf
  refine y_callV (mj := miX11_addOwn) (args := [.inl sx1, .inl sx2, .inl sx3]) (st := []) dX11_oneOther_457 (gd_of 1029 rfl rfl) (gd_of 1031 rfl rfl) (gd_of 61 rfl rfl) okX11_addOwn (obO_spec efs103) rfl rfl (xX11_addOwn (by omega) eq101) (Nat.le_of_ble_eq_true rfl) rfl ?_
  show Y l g miX11_oneOther (d + 1) 460 [some (.inr (.inr (some a0))), some (.inl x1), some (.inl x2), none, some (.inl x4), some (.inl x5), none, none, some (.inl x8), none, none] [] q101 _
  refine y_iload (i := 8) dX11_oneOther_460 rfl ?_
  refine y_if_ne (tgt := 474) dX11_oneOther_462 (by decide) (fun hc => ?_) (fun hc => ?_)
  · rw [if_neg hc] at hf
    refine y_aload_n (i := 0) dX11_oneOther_474 rfl rfl ?_
    refine y_iload_n (i := 1) dX11_oneOther_475 rfl rfl ?_
    refine y_aload_n (i := 0) dX11_oneOther_476 rfl rfl ?_
    replace hf := bnd hf
    obtain ⟨j104, ej104, hf⟩ := hf
    refine y_getJ ej104 fl11_210 dX11_oneOther_477 ?_
    refine y_lconst (v := 0) dX11_oneOther_480 (by decide) ?_
    refine y_lcmp dX11_oneOther_481 ?_
    refine y_if_eq (tgt := 490) dX11_oneOther_482 (by decide) (fun hc => ?_) (fun hc => ?_)
    · rw [if_pos hc] at hf
      refine y_aload_n (i := 0) dX11_oneOther_490 rfl rfl ?_
      replace hf := bnd hf
      obtain ⟨r105, er105, hf⟩ := hf
      refine y_getR er105 fl11_32 dX11_oneOther_491 ?_
      refine y_iload_n (i := 2) dX11_oneOther_494 rfl rfl ?_
      replace hf := bnd hf
      obtain ⟨a106, rfl, hf⟩ := hf
      replace hf := bnd hf
      obtain ⟨x107, ex107, hf⟩ := hf
      refine y_iaload ex107 dX11_oneOther_495 ?_
      replace hf := bnd hf
      obtain ⟨fs109, efs109, hf⟩ := hf
      replace hf := bnd hf
      obtain ⟨q108, eq108, hf⟩ := hf
      refine y_callV (mj := miX11_last) (args := [.inl x1, .inl x107]) (st := []) dX11_oneOther_496 (gd_of 1033 rfl rfl) (gd_of 1035 rfl rfl) (gd_of 62 rfl rfl) okX11_last (obO_spec efs109) rfl rfl (xX11_last (by omega) eq108) (Nat.le_of_ble_eq_true rfl) rfl ?_
      show Y l g miX11_oneOther (d + 1) 499 [some (.inr (.inr (some a0))), some (.inl x1), some (.inl x2), none, some (.inl x4), some (.inl x5), none, none, some (.inl x8), none, none] [] q108 _
      refine y_goto (tgt := 733) dX11_oneOther_499 (by decide) ?_
      obtain rfl := Option.some.inj hf
      exact y_ret (v := none) dX11_oneOther_733 rfl
    · rw [if_neg hc] at hf
      refine y_iload (i := 5) dX11_oneOther_485 rfl ?_
      refine y_goto (tgt := 496) dX11_oneOther_487 (by decide) ?_
      replace hf := bnd hf
      obtain ⟨fs111, efs111, hf⟩ := hf
      replace hf := bnd hf
      obtain ⟨q110, eq110, hf⟩ := hf
      refine y_callV (mj := miX11_last) (args := [.inl x1, .inl x5]) (st := []) dX11_oneOther_496 (gd_of 1033 rfl rfl) (gd_of 1035 rfl rfl) (gd_of 62 rfl rfl) okX11_last (obO_spec efs111) rfl rfl (xX11_last (by omega) eq110) (Nat.le_of_ble_eq_true rfl) rfl ?_
      show Y l g miX11_oneOther (d + 1) 499 [some (.inr (.inr (some a0))), some (.inl x1), some (.inl x2), none, some (.inl x4), some (.inl x5), none, none, some (.inl x8), none, none] [] q110 _
      refine y_goto (tgt := 733) dX11_oneOther_499 (by decide) ?_
      obtain rfl := Option.some.inj hf
      exact y_ret (v := none) dX11_oneOther_733 rfl
  · rw [if_pos hc] at hf
    refine y_aload_n (i := 0) dX11_oneOther_465 rfl rfl ?_
    refine y_iload (i := 4) dX11_oneOther_466 rfl ?_
    replace hf := bnd hf
    obtain ⟨fs113, efs113, hf⟩ := hf
    replace hf := bnd hf
    obtain ⟨q112, eq112, hf⟩ := hf
    refine y_callV (mj := miX11_calls) (args := [.inl x4]) (st := []) dX11_oneOther_468 (gd_of 1005 rfl rfl) (gd_of 1007 rfl rfl) (gd_of 55 rfl rfl) okX11_calls (obO_spec efs113) rfl rfl (xX11_calls (by omega) eq112) (Nat.le_of_ble_eq_true rfl) rfl ?_
    show Y l g miX11_oneOther (d + 1) 471 [some (.inr (.inr (some a0))), some (.inl x1), some (.inl x2), none, some (.inl x4), some (.inl x5), none, none, some (.inl x8), none, none] [] q112 _
    refine y_goto (tgt := 733) dX11_oneOther_471 (by decide) ?_
    obtain rfl := Option.some.inj hf
    exact y_ret (v := none) dX11_oneOther_733 rfl
def fX11_oneOther_647 (z : Nat → Nat) : Nat → Nat → Int32 → Int32 → Int32 → Int32 → Int32 → Int32 → aH → Option aH
  | 0, _, _, _, _, _, _, _, _ => none
  | n + 1, a0, x1, x4, x6, x7, x9, x10, h => (if x6 ≤ x10 then
  (obO h a0 9).bind fun fs102 =>
  (fX11_addOwn z a0 x1 0 (x7 - x6) h).bind fun q101 =>
  (obO q101 a0 9).bind fun fs104 =>
  (fX11_add z a0 2 (Int32.toInt64 x9) q101).bind fun q103 =>
  (obO q103 a0 9).bind fun fs106 =>
  (fX11_last z a0 x1 x4 q103).bind fun q105 =>
  some q105
  else
  (rdR h a0 [9] 15).bind fun r107 =>
  (rdR h a0 [9] 38).bind fun r108 =>
  (r108).bind fun a109 =>
  (arJ h a109 ((((7 * x1) + x7) - x6) + x10)).bind fun j110 =>
  (r107).bind fun a111 =>
  (awI h a111 ((20 * x9) + x10) (Int64.toInt32 j110)).bind fun h112 =>
  fX11_oneOther_647 z n a0 x1 x4 x6 x7 x9 (x10 + 1) h112)
set_option maxHeartbeats 4000000 in
set_option maxRecDepth 100000 in
theorem xX11_oneOther_647 {l : Launch} {g : aG} {d : Nat} (hK : 3 ≤ d + 1) : ∀ (n : Nat) (a0 : Nat) (x1 : Int32) (x4 : Int32) (x6 : Int32) (x7 : Int32) (x9 : Int32) (x10 : Int32) (h : aH) (q : aH), fX11_oneOther_647 g.2.2 n a0 x1 x4 x6 x7 x9 x10 h = some q → Y l g miX11_oneOther (d + 1) 647 [some (.inr (.inr (some a0))), some (.inl x1), none, none, some (.inl x4), none, some (.inl x6), some (.inl x7), none, some (.inl x9), some (.inl x10)] [] h (none, q) := by
  intro n
  induction n with
  | zero => intro a0 x1 x4 x6 x7 x9 x10 h q hf; simp [fX11_oneOther_647] at hf
  | succ n ih =>
    intro a0 x1 x4 x6 x7 x9 x10 h q hf
    rw [fX11_oneOther_647] at hf
    refine y_iload (i := 10) dX11_oneOther_647 rfl ?_
    refine y_iload (i := 6) dX11_oneOther_649 rfl ?_
    refine y_icmp_ge (tgt := 692) dX11_oneOther_651 (by decide) (fun hc => ?_) (fun hc => ?_)
    · rw [if_pos hc] at hf
      refine y_aload_n (i := 0) dX11_oneOther_692 rfl rfl ?_
      refine y_iload_n (i := 1) dX11_oneOther_693 rfl rfl ?_
      refine y_iconst (v := 0) dX11_oneOther_694 (by decide) ?_
      refine y_iload (i := 7) dX11_oneOther_695 rfl ?_
      refine y_iload (i := 6) dX11_oneOther_697 rfl ?_
      refine y_isub dX11_oneOther_699 ?_
      replace hf := bnd hf
      obtain ⟨fs102, efs102, hf⟩ := hf
      replace hf := bnd hf
      obtain ⟨q101, eq101, hf⟩ := hf
      refine y_callV (mj := miX11_addOwn) (args := [.inl x1, .inl 0, .inl (x7 - x6)]) (st := []) dX11_oneOther_700 (gd_of 1029 rfl rfl) (gd_of 1031 rfl rfl) (gd_of 61 rfl rfl) okX11_addOwn (obO_spec efs102) rfl rfl (xX11_addOwn (by omega) eq101) (Nat.le_of_ble_eq_true rfl) rfl ?_
      show Y l g miX11_oneOther (d + 1) 703 [some (.inr (.inr (some a0))), some (.inl x1), none, none, some (.inl x4), none, some (.inl x6), some (.inl x7), none, some (.inl x9), some (.inl x10)] [] q101 _
      refine y_aload_n (i := 0) dX11_oneOther_703 rfl rfl ?_
      refine y_iconst (v := 2) dX11_oneOther_704 (by decide) ?_
      refine y_iload (i := 9) dX11_oneOther_705 rfl ?_
      refine y_i2l dX11_oneOther_707 ?_
      replace hf := bnd hf
      obtain ⟨fs104, efs104, hf⟩ := hf
      replace hf := bnd hf
      obtain ⟨q103, eq103, hf⟩ := hf
      refine y_callV (mj := miX11_add) (args := [.inl 2, .inr (.inl (Int32.toInt64 x9))]) (st := []) dX11_oneOther_708 (gd_of 1001 rfl rfl) (gd_of 1003 rfl rfl) (gd_of 54 rfl rfl) okX11_add (obO_spec efs104) rfl rfl (xX11_add (by omega) eq103) (Nat.le_of_ble_eq_true rfl) rfl ?_
      show Y l g miX11_oneOther (d + 1) 711 [some (.inr (.inr (some a0))), some (.inl x1), none, none, some (.inl x4), none, some (.inl x6), some (.inl x7), none, some (.inl x9), some (.inl x10)] [] q103 _
      refine y_aload_n (i := 0) dX11_oneOther_711 rfl rfl ?_
      refine y_iload_n (i := 1) dX11_oneOther_712 rfl rfl ?_
      refine y_iload (i := 4) dX11_oneOther_713 rfl ?_
      replace hf := bnd hf
      obtain ⟨fs106, efs106, hf⟩ := hf
      replace hf := bnd hf
      obtain ⟨q105, eq105, hf⟩ := hf
      refine y_callV (mj := miX11_last) (args := [.inl x1, .inl x4]) (st := []) dX11_oneOther_715 (gd_of 1033 rfl rfl) (gd_of 1035 rfl rfl) (gd_of 62 rfl rfl) okX11_last (obO_spec efs106) rfl rfl (xX11_last (by omega) eq105) (Nat.le_of_ble_eq_true rfl) rfl ?_
      show Y l g miX11_oneOther (d + 1) 718 [some (.inr (.inr (some a0))), some (.inl x1), none, none, some (.inl x4), none, some (.inl x6), some (.inl x7), none, some (.inl x9), some (.inl x10)] [] q105 _
      refine y_goto (tgt := 733) dX11_oneOther_718 (by decide) ?_
      obtain rfl := Option.some.inj hf
      exact y_ret (v := none) dX11_oneOther_733 rfl
    · rw [if_neg hc] at hf
      refine y_aload_n (i := 0) dX11_oneOther_654 rfl rfl ?_
      replace hf := bnd hf
      obtain ⟨r107, er107, hf⟩ := hf
      refine y_getR er107 fl11_51 dX11_oneOther_655 ?_
      refine y_bipush (v := 20) dX11_oneOther_658 (by decide) ?_
      refine y_iload (i := 9) dX11_oneOther_660 rfl ?_
      refine y_imul dX11_oneOther_662 ?_
      refine y_iload (i := 10) dX11_oneOther_663 rfl ?_
      refine y_iadd dX11_oneOther_665 ?_
      refine y_aload_n (i := 0) dX11_oneOther_666 rfl rfl ?_
      replace hf := bnd hf
      obtain ⟨r108, er108, hf⟩ := hf
      refine y_getR er108 fl11_84 dX11_oneOther_667 ?_
      refine y_bipush (v := 7) dX11_oneOther_670 (by decide) ?_
      refine y_iload_n (i := 1) dX11_oneOther_672 rfl rfl ?_
      refine y_imul dX11_oneOther_673 ?_
      refine y_iload (i := 7) dX11_oneOther_674 rfl ?_
      refine y_iadd dX11_oneOther_676 ?_
      refine y_iload (i := 6) dX11_oneOther_677 rfl ?_
      refine y_isub dX11_oneOther_679 ?_
      refine y_iload (i := 10) dX11_oneOther_680 rfl ?_
      refine y_iadd dX11_oneOther_682 ?_
      replace hf := bnd hf
      obtain ⟨a109, rfl, hf⟩ := hf
      replace hf := bnd hf
      obtain ⟨j110, ej110, hf⟩ := hf
      refine y_laload ej110 dX11_oneOther_683 ?_
      refine y_l2i dX11_oneOther_684 ?_
      replace hf := bnd hf
      obtain ⟨a111, rfl, hf⟩ := hf
      replace hf := bnd hf
      obtain ⟨h112, eh112, hf⟩ := hf
      refine y_iastore eh112 dX11_oneOther_685 ?_
      refine y_iinc (i := 10) (y := 1) (lv2 := [some (.inr (.inr (some a0))), some (.inl x1), none, none, some (.inl x4), none, some (.inl x6), some (.inl x7), none, some (.inl x9), some (.inl (x10 + 1))]) dX11_oneOther_686 rfl (by decide) (by decide) rfl ?_
      refine y_goto (tgt := 647) dX11_oneOther_689 (by decide) ?_
      refine Y.weak (lv2 := [some (.inr (.inr (some a0))), some (.inl x1), none, none, some (.inl x4), none, some (.inl x6), some (.inl x7), none, some (.inl x9), some (.inl (x10 + 1))]) [true, true, false, false, true, false, true, true, false, true, true] rfl ?_
      exact ih _ _ _ _ _ _ _ _ _ hf
def fX11_oneOther (z : Nat → Nat) (a0 : Nat) (x1 : Int32) (x2 : Int32) (h : aH) : Option aH :=
  (rdR h a0 [9] 2).bind fun r101 =>
  (r101).bind fun a102 =>
  (arI h a102 x2).bind fun x103 =>
  (rdR h a0 [9] 6).bind fun r104 =>
  (r104).bind fun a105 =>
  (arI h a105 x2).bind fun x106 =>
  (rdR h a0 [9] 7).bind fun r107 =>
  (r107).bind fun a108 =>
  (arI h a108 x2).bind fun x109 =>
  (rdR h a0 [9] 9).bind fun r110 =>
  (r110).bind fun a111 =>
  (arI h a111 x2).bind fun x112 =>
  (rdR h a0 [9] 3).bind fun r113 =>
  (r113).bind fun a114 =>
  (arI h a114 x2).bind fun x115 =>
  (rdR h a0 [9] 36).bind fun r116 =>
  (r116).bind fun a117 =>
  (arI h a117 x1).bind fun x118 =>
  (rdR h a0 [9] 36).bind fun r119 =>
  (r119).bind fun a120 =>
  (arI h a120 x1).bind fun x121 =>
  (awI h a120 x1 (x121 + 1)).bind fun h122 =>
  (obO h122 a0 9).bind fun fs124 =>
  (fX11_begin z a0 h122).bind fun q123 =>
  (if (x103 - 20) = 0 then
  (obO q123 a0 9).bind fun fs126 =>
  (fX11_addOwn z a0 x1 0 x112 q123).bind fun q125 =>
  (rdR q125 a0 [9] 11).bind fun r127 =>
  (r127).bind fun a128 =>
  (arI q125 a128 x2).bind fun x129 =>
  (rdR q125 a0 [9] 12).bind fun r130 =>
  (r130).bind fun a131 =>
  (arJ q125 a131 x2).bind fun j132 =>
  (obO q125 a0 9).bind fun fs134 =>
  (fX11_add z a0 x129 j132 q125).bind fun q133 =>
  (obO q133 a0 9).bind fun fs136 =>
  (fX11_addOwn z a0 x1 x112 x115 q133).bind fun q135 =>
  (obO q135 a0 9).bind fun fs138 =>
  (fX11_last z a0 x1 x106 q135).bind fun q137 =>
  some q137
  else
  (if (x103 - 20) = 1 then
  (obO q123 a0 9).bind fun fs140 =>
  (fX11_addOwn z a0 x1 0 x112 q123).bind fun q139 =>
  (obO q139 a0 9).bind fun fs142 =>
  (fX11_addOwn z a0 x1 (x112 + 1) x115 q139).bind fun q141 =>
  (obO q141 a0 9).bind fun fs144 =>
  (fX11_last z a0 x1 x106 q141).bind fun q143 =>
  some q143
  else
  (if (x103 - 20) = 2 then
  fX11_oneOther_203 z 4000 a0 x1 x106 x112 x115 0 q123
  else
  (if (x103 - 20) = 3 then
  (if x118 = 0 then
  (rdR q123 a0 [9] 3).bind fun r152 =>
  (r152).bind fun a153 =>
  (arI q123 a153 x109).bind fun x154 =>
  (obO q123 a0 9).bind fun fs156 =>
  (fX11_addOwn z a0 x1 0 x154 q123).bind fun q155 =>
  (obO q155 a0 9).bind fun fs158 =>
  (fX11_calls z a0 x109 q155).bind fun q157 =>
  some q157
  else
  (rdR q123 a0 [9] 5).bind fun r145 =>
  (r145).bind fun a146 =>
  (arI q123 a146 x109).bind fun x147 =>
  (if x147 = 4 then
  fX11_oneOther_298 z a0 x1 x106 x115 q123
  else
  (rdI q123 a0 [9] 30).bind fun x148 =>
  (rdJ q123 a0 [9] 31).bind fun j149 =>
  (obO q123 a0 9).bind fun fs151 =>
  (fX11_add z a0 x148 j149 q123).bind fun q150 =>
  fX11_oneOther_298 z a0 x1 x106 x115 q150))
  else
  (if (x103 - 20) = 4 then
  (if x118 = 0 then
  (obO q123 a0 9).bind fun fs170 =>
  (fX11_addOwn z a0 x1 x112 (x112 + 1) q123).bind fun q169 =>
  (obO q169 a0 9).bind fun fs172 =>
  (fX11_calls z a0 x109 q169).bind fun q171 =>
  some q171
  else
  (obO q123 a0 9).bind fun fs160 =>
  (fX11_addOwn z a0 x1 0 x112 q123).bind fun q159 =>
  (rdI q159 a0 [9] 30).bind fun x161 =>
  (rdJ q159 a0 [9] 31).bind fun j162 =>
  (obO q159 a0 9).bind fun fs164 =>
  (fX11_add z a0 x161 j162 q159).bind fun q163 =>
  (obO q163 a0 9).bind fun fs166 =>
  (fX11_addOwn z a0 x1 (x112 + 1) x115 q163).bind fun q165 =>
  (obO q165 a0 9).bind fun fs168 =>
  (fX11_last z a0 x1 x106 q165).bind fun q167 =>
  some q167)
  else
  (if (x103 - 20) = 5 then
  (if x118 = 0 then
  (obO q123 a0 9).bind fun fs185 =>
  (fX11_addOwn z a0 x1 0 x115 q123).bind fun q184 =>
  (obO q184 a0 9).bind fun fs187 =>
  (fX11_calls z a0 x106 q184).bind fun q186 =>
  some q186
  else
  (rdR q123 a0 [9] 5).bind fun r173 =>
  (r173).bind fun a174 =>
  (arI q123 a174 x106).bind fun x175 =>
  (if x175 = 4 then
  (obO q123 a0 9).bind fun fs177 =>
  (fX11_last z a0 x1 x109 q123).bind fun q176 =>
  some q176
  else
  (rdI q123 a0 [9] 30).bind fun x178 =>
  (rdJ q123 a0 [9] 31).bind fun j179 =>
  (obO q123 a0 9).bind fun fs181 =>
  (fX11_add z a0 x178 j179 q123).bind fun q180 =>
  (obO q180 a0 9).bind fun fs183 =>
  (fX11_last z a0 x1 x109 q180).bind fun q182 =>
  some q182))
  else
  (if (x103 - 20) = 6 then
  (if x118 = 0 then
  (rdR q123 a0 [9] 3).bind fun r188 =>
  (r188).bind fun a189 =>
  (arI q123 a189 x106).bind fun x190 =>
  fX11_oneOther_457 z a0 x1 x2 x106 x109 x118 (some a0) x1 0 x190 q123
  else
  fX11_oneOther_457 z a0 x1 x2 x106 x109 x118 (some a0) x1 0 x115 q123)
  else
  (if (x103 - 20) = 7 then
  (if x118 = 0 then
  (obO q123 a0 9).bind fun fs203 =>
  (fX11_addOwn z a0 x1 0 x115 q123).bind fun q202 =>
  (obO q202 a0 9).bind fun fs205 =>
  (fX11_calls z a0 x106 q202).bind fun q204 =>
  some q204
  else
  (obO q123 a0 9).bind fun fs192 =>
  (fX11_isCaught z a0 x112 q123).bind fun q191 =>
  (if q191.1 = 0 then
  (obO q191.2 a0 9).bind fun fs194 =>
  (fX11_over z a0 q191.2).bind fun q193 =>
  some q193
  else
  (rdI q191.2 a0 [9] 29).bind fun x195 =>
  (obO q191.2 a0 9).bind fun fs197 =>
  (fX11_add z a0 0 (Int32.toInt64 x195) q191.2).bind fun q196 =>
  (obO q196 a0 9).bind fun fs199 =>
  (fX11_addOwn z a0 x1 0 x115 q196).bind fun q198 =>
  (obO q198 a0 9).bind fun fs201 =>
  (fX11_last z a0 x1 x109 q198).bind fun q200 =>
  some q200))
  else
  (if (x103 - 20) = 8 then
  (obO q123 a0 9).bind fun fs207 =>
  (fX11_ends z a0 x1 x118 x106 x109 x115 q123).bind fun q206 =>
  some q206
  else
  (if (x103 - 20) = 9 then
  (rdR q123 a0 [9] 8).bind fun r208 =>
  (r208).bind fun a209 =>
  (arI q123 a209 x2).bind fun x210 =>
  (obO q123 a0 9).bind fun fs212 =>
  (fX11_rounds z a0 x1 x118 x106 x109 x210 q123).bind fun q211 =>
  some q211
  else
  (if (x103 - 20) = 10 then
  (obO q123 a0 9).bind fun fs214 =>
  (fX11_spreads z a0 x1 x106 x112 x115 q123).bind fun q213 =>
  some q213
  else
  (if (x103 - 20) = 11 then
  (rdI q123 a0 [9] 13).bind fun x215 =>
  (if x215 = 60 then
  (obO q123 a0 9).bind fun fs219 =>
  (fX11_fails z a0 10 q123).bind fun q218 =>
  some q218
  else
  (obO q123 a0 9).bind fun fs217 =>
  (fX11_newRow z a0 x112 q123).bind fun q216 =>
  fX11_oneOther_647 z 4000 a0 x1 x106 x112 x115 q216.1 0 q216.2)
  else
  (obO q123 a0 9).bind fun fs221 =>
  (fX11_adapts z a0 x1 x118 x2 x106 x115 q123).bind fun q220 =>
  some q220))))))))))))
set_option maxHeartbeats 4000000 in
set_option maxRecDepth 100000 in
theorem xX11_oneOther {l : Launch} {g : aG} {d : Nat} (hK : 3 ≤ d) {a0 : Nat} {x1 : Int32} {x2 : Int32} {h : aH} {q : aH} (hf : fX11_oneOther g.2.2 a0 x1 x2 h = some q) : Ev l g miX11_oneOther d [.inr (.inr (some a0)), .inl x1, .inl x2] h (none, q) := by
  obtain ⟨d, rfl⟩ : ∃ e, d = e + 1 := ⟨d - 1, by omega⟩
  refine ⟨?_, rfl, Nat.le_of_ble_eq_true rfl⟩
  unfold fX11_oneOther at hf
  show Y l g miX11_oneOther (d + 1) 0 [some (.inr (.inr (some a0))), some (.inl x1), some (.inl x2), none, none, none, none, none, none, none, none] [] h _
  refine y_aload_n (i := 0) dX11_oneOther_0 rfl rfl ?_
  replace hf := bnd hf
  obtain ⟨r101, er101, hf⟩ := hf
  refine y_getR er101 fl11_13 dX11_oneOther_1 ?_
  refine y_iload_n (i := 2) dX11_oneOther_4 rfl rfl ?_
  replace hf := bnd hf
  obtain ⟨a102, rfl, hf⟩ := hf
  replace hf := bnd hf
  obtain ⟨x103, ex103, hf⟩ := hf
  refine y_iaload ex103 dX11_oneOther_5 ?_
  refine y_bipush (v := 20) dX11_oneOther_6 (by decide) ?_
  refine y_isub dX11_oneOther_8 ?_
  refine y_istore_n (i := 3) (lv2 := [some (.inr (.inr (some a0))), some (.inl x1), some (.inl x2), some (.inl (x103 - 20)), none, none, none, none, none, none, none]) dX11_oneOther_9 rfl (by decide) rfl ?_
  refine y_aload_n (i := 0) dX11_oneOther_10 rfl rfl ?_
  replace hf := bnd hf
  obtain ⟨r104, er104, hf⟩ := hf
  refine y_getR er104 fl11_26 dX11_oneOther_11 ?_
  refine y_iload_n (i := 2) dX11_oneOther_14 rfl rfl ?_
  replace hf := bnd hf
  obtain ⟨a105, rfl, hf⟩ := hf
  replace hf := bnd hf
  obtain ⟨x106, ex106, hf⟩ := hf
  refine y_iaload ex106 dX11_oneOther_15 ?_
  refine y_istore (i := 4) (lv2 := [some (.inr (.inr (some a0))), some (.inl x1), some (.inl x2), some (.inl (x103 - 20)), some (.inl x106), none, none, none, none, none, none]) dX11_oneOther_16 (by decide) rfl ?_
  refine y_aload_n (i := 0) dX11_oneOther_18 rfl rfl ?_
  replace hf := bnd hf
  obtain ⟨r107, er107, hf⟩ := hf
  refine y_getR er107 fl11_29 dX11_oneOther_19 ?_
  refine y_iload_n (i := 2) dX11_oneOther_22 rfl rfl ?_
  replace hf := bnd hf
  obtain ⟨a108, rfl, hf⟩ := hf
  replace hf := bnd hf
  obtain ⟨x109, ex109, hf⟩ := hf
  refine y_iaload ex109 dX11_oneOther_23 ?_
  refine y_istore (i := 5) (lv2 := [some (.inr (.inr (some a0))), some (.inl x1), some (.inl x2), some (.inl (x103 - 20)), some (.inl x106), some (.inl x109), none, none, none, none, none]) dX11_oneOther_24 (by decide) rfl ?_
  refine y_aload_n (i := 0) dX11_oneOther_26 rfl rfl ?_
  replace hf := bnd hf
  obtain ⟨r110, er110, hf⟩ := hf
  refine y_getR er110 fl11_35 dX11_oneOther_27 ?_
  refine y_iload_n (i := 2) dX11_oneOther_30 rfl rfl ?_
  replace hf := bnd hf
  obtain ⟨a111, rfl, hf⟩ := hf
  replace hf := bnd hf
  obtain ⟨x112, ex112, hf⟩ := hf
  refine y_iaload ex112 dX11_oneOther_31 ?_
  refine y_istore (i := 6) (lv2 := [some (.inr (.inr (some a0))), some (.inl x1), some (.inl x2), some (.inl (x103 - 20)), some (.inl x106), some (.inl x109), some (.inl x112), none, none, none, none]) dX11_oneOther_32 (by decide) rfl ?_
  refine y_aload_n (i := 0) dX11_oneOther_34 rfl rfl ?_
  replace hf := bnd hf
  obtain ⟨r113, er113, hf⟩ := hf
  refine y_getR er113 fl11_17 dX11_oneOther_35 ?_
  refine y_iload_n (i := 2) dX11_oneOther_38 rfl rfl ?_
  replace hf := bnd hf
  obtain ⟨a114, rfl, hf⟩ := hf
  replace hf := bnd hf
  obtain ⟨x115, ex115, hf⟩ := hf
  refine y_iaload ex115 dX11_oneOther_39 ?_
  refine y_istore (i := 7) (lv2 := [some (.inr (.inr (some a0))), some (.inl x1), some (.inl x2), some (.inl (x103 - 20)), some (.inl x106), some (.inl x109), some (.inl x112), some (.inl x115), none, none, none]) dX11_oneOther_40 (by decide) rfl ?_
  refine y_aload_n (i := 0) dX11_oneOther_42 rfl rfl ?_
  replace hf := bnd hf
  obtain ⟨r116, er116, hf⟩ := hf
  refine y_getR er116 fl11_78 dX11_oneOther_43 ?_
  refine y_iload_n (i := 1) dX11_oneOther_46 rfl rfl ?_
  replace hf := bnd hf
  obtain ⟨a117, rfl, hf⟩ := hf
  replace hf := bnd hf
  obtain ⟨x118, ex118, hf⟩ := hf
  refine y_iaload ex118 dX11_oneOther_47 ?_
  refine y_istore (i := 8) (lv2 := [some (.inr (.inr (some a0))), some (.inl x1), some (.inl x2), some (.inl (x103 - 20)), some (.inl x106), some (.inl x109), some (.inl x112), some (.inl x115), some (.inl x118), none, none]) dX11_oneOther_48 (by decide) rfl ?_
  refine y_aload_n (i := 0) dX11_oneOther_50 rfl rfl ?_
  replace hf := bnd hf
  obtain ⟨r119, er119, hf⟩ := hf
  refine y_getR er119 fl11_78 dX11_oneOther_51 ?_
  refine y_iload_n (i := 1) dX11_oneOther_54 rfl rfl ?_
  refine y_dup2 dX11_oneOther_55 rfl rfl ?_
  replace hf := bnd hf
  obtain ⟨a120, rfl, hf⟩ := hf
  replace hf := bnd hf
  obtain ⟨x121, ex121, hf⟩ := hf
  refine y_iaload ex121 dX11_oneOther_56 ?_
  refine y_iconst (v := 1) dX11_oneOther_57 (by decide) ?_
  refine y_iadd dX11_oneOther_58 ?_
  replace hf := bnd hf
  obtain ⟨h122, eh122, hf⟩ := hf
  refine y_iastore eh122 dX11_oneOther_59 ?_
  refine y_aload_n (i := 0) dX11_oneOther_60 rfl rfl ?_
  replace hf := bnd hf
  obtain ⟨fs124, efs124, hf⟩ := hf
  replace hf := bnd hf
  obtain ⟨q123, eq123, hf⟩ := hf
  refine y_callV (mj := miX11_begin) (args := []) (st := []) dX11_oneOther_61 (gd_of 997 rfl rfl) (gd_of 999 rfl rfl) (gd_of 53 rfl rfl) okX11_begin (obO_spec efs124) rfl rfl (xX11_begin (by omega) eq123) (Nat.le_of_ble_eq_true rfl) rfl ?_
  show Y l g miX11_oneOther (d + 1) 64 [some (.inr (.inr (some a0))), some (.inl x1), some (.inl x2), some (.inl (x103 - 20)), some (.inl x106), some (.inl x109), some (.inl x112), some (.inl x115), some (.inl x118), none, none] [] q123 _
  refine y_iload_n (i := 3) dX11_oneOther_64 rfl rfl ?_
  refine y_table dX11_oneOther_65 [(0, 128), (1, 171), (2, 200), (3, 248), (4, 316), (5, 382), (6, 437), (7, 502), (8, 568), (9, 584), (10, 604), (11, 618)] 721 (by decide) (by decide) (by decide) (by decide) ?_
  refine y_swc (fun hc => ?_) (fun hc => ?_)
  · rw [if_pos hc] at hf
    refine y_aload_n (i := 0) dX11_oneOther_128 rfl rfl ?_
    refine y_iload_n (i := 1) dX11_oneOther_129 rfl rfl ?_
    refine y_iconst (v := 0) dX11_oneOther_130 (by decide) ?_
    refine y_iload (i := 6) dX11_oneOther_131 rfl ?_
    replace hf := bnd hf
    obtain ⟨fs126, efs126, hf⟩ := hf
    replace hf := bnd hf
    obtain ⟨q125, eq125, hf⟩ := hf
    refine y_callV (mj := miX11_addOwn) (args := [.inl x1, .inl 0, .inl x112]) (st := []) dX11_oneOther_133 (gd_of 1029 rfl rfl) (gd_of 1031 rfl rfl) (gd_of 61 rfl rfl) okX11_addOwn (obO_spec efs126) rfl rfl (xX11_addOwn (by omega) eq125) (Nat.le_of_ble_eq_true rfl) rfl ?_
    show Y l g miX11_oneOther (d + 1) 136 [some (.inr (.inr (some a0))), some (.inl x1), some (.inl x2), some (.inl (x103 - 20)), some (.inl x106), some (.inl x109), some (.inl x112), some (.inl x115), some (.inl x118), none, none] [] q125 _
    refine y_aload_n (i := 0) dX11_oneOther_136 rfl rfl ?_
    refine y_aload_n (i := 0) dX11_oneOther_137 rfl rfl ?_
    replace hf := bnd hf
    obtain ⟨r127, er127, hf⟩ := hf
    refine y_getR er127 fl11_41 dX11_oneOther_138 ?_
    refine y_iload_n (i := 2) dX11_oneOther_141 rfl rfl ?_
    replace hf := bnd hf
    obtain ⟨a128, rfl, hf⟩ := hf
    replace hf := bnd hf
    obtain ⟨x129, ex129, hf⟩ := hf
    refine y_iaload ex129 dX11_oneOther_142 ?_
    refine y_aload_n (i := 0) dX11_oneOther_143 rfl rfl ?_
    replace hf := bnd hf
    obtain ⟨r130, er130, hf⟩ := hf
    refine y_getR er130 fl11_44 dX11_oneOther_144 ?_
    refine y_iload_n (i := 2) dX11_oneOther_147 rfl rfl ?_
    replace hf := bnd hf
    obtain ⟨a131, rfl, hf⟩ := hf
    replace hf := bnd hf
    obtain ⟨j132, ej132, hf⟩ := hf
    refine y_laload ej132 dX11_oneOther_148 ?_
    replace hf := bnd hf
    obtain ⟨fs134, efs134, hf⟩ := hf
    replace hf := bnd hf
    obtain ⟨q133, eq133, hf⟩ := hf
    refine y_callV (mj := miX11_add) (args := [.inl x129, .inr (.inl j132)]) (st := []) dX11_oneOther_149 (gd_of 1001 rfl rfl) (gd_of 1003 rfl rfl) (gd_of 54 rfl rfl) okX11_add (obO_spec efs134) rfl rfl (xX11_add (by omega) eq133) (Nat.le_of_ble_eq_true rfl) rfl ?_
    show Y l g miX11_oneOther (d + 1) 152 [some (.inr (.inr (some a0))), some (.inl x1), some (.inl x2), some (.inl (x103 - 20)), some (.inl x106), some (.inl x109), some (.inl x112), some (.inl x115), some (.inl x118), none, none] [] q133 _
    refine y_aload_n (i := 0) dX11_oneOther_152 rfl rfl ?_
    refine y_iload_n (i := 1) dX11_oneOther_153 rfl rfl ?_
    refine y_iload (i := 6) dX11_oneOther_154 rfl ?_
    refine y_iload (i := 7) dX11_oneOther_156 rfl ?_
    replace hf := bnd hf
    obtain ⟨fs136, efs136, hf⟩ := hf
    replace hf := bnd hf
    obtain ⟨q135, eq135, hf⟩ := hf
    refine y_callV (mj := miX11_addOwn) (args := [.inl x1, .inl x112, .inl x115]) (st := []) dX11_oneOther_158 (gd_of 1029 rfl rfl) (gd_of 1031 rfl rfl) (gd_of 61 rfl rfl) okX11_addOwn (obO_spec efs136) rfl rfl (xX11_addOwn (by omega) eq135) (Nat.le_of_ble_eq_true rfl) rfl ?_
    show Y l g miX11_oneOther (d + 1) 161 [some (.inr (.inr (some a0))), some (.inl x1), some (.inl x2), some (.inl (x103 - 20)), some (.inl x106), some (.inl x109), some (.inl x112), some (.inl x115), some (.inl x118), none, none] [] q135 _
    refine y_aload_n (i := 0) dX11_oneOther_161 rfl rfl ?_
    refine y_iload_n (i := 1) dX11_oneOther_162 rfl rfl ?_
    refine y_iload (i := 4) dX11_oneOther_163 rfl ?_
    replace hf := bnd hf
    obtain ⟨fs138, efs138, hf⟩ := hf
    replace hf := bnd hf
    obtain ⟨q137, eq137, hf⟩ := hf
    refine y_callV (mj := miX11_last) (args := [.inl x1, .inl x106]) (st := []) dX11_oneOther_165 (gd_of 1033 rfl rfl) (gd_of 1035 rfl rfl) (gd_of 62 rfl rfl) okX11_last (obO_spec efs138) rfl rfl (xX11_last (by omega) eq137) (Nat.le_of_ble_eq_true rfl) rfl ?_
    show Y l g miX11_oneOther (d + 1) 168 [some (.inr (.inr (some a0))), some (.inl x1), some (.inl x2), some (.inl (x103 - 20)), some (.inl x106), some (.inl x109), some (.inl x112), some (.inl x115), some (.inl x118), none, none] [] q137 _
    refine y_goto (tgt := 733) dX11_oneOther_168 (by decide) ?_
    obtain rfl := Option.some.inj hf
    exact y_ret (v := none) dX11_oneOther_733 rfl
  rw [if_neg hc] at hf
  refine y_swc (fun hc => ?_) (fun hc => ?_)
  · rw [if_pos hc] at hf
    refine y_aload_n (i := 0) dX11_oneOther_171 rfl rfl ?_
    refine y_iload_n (i := 1) dX11_oneOther_172 rfl rfl ?_
    refine y_iconst (v := 0) dX11_oneOther_173 (by decide) ?_
    refine y_iload (i := 6) dX11_oneOther_174 rfl ?_
    replace hf := bnd hf
    obtain ⟨fs140, efs140, hf⟩ := hf
    replace hf := bnd hf
    obtain ⟨q139, eq139, hf⟩ := hf
    refine y_callV (mj := miX11_addOwn) (args := [.inl x1, .inl 0, .inl x112]) (st := []) dX11_oneOther_176 (gd_of 1029 rfl rfl) (gd_of 1031 rfl rfl) (gd_of 61 rfl rfl) okX11_addOwn (obO_spec efs140) rfl rfl (xX11_addOwn (by omega) eq139) (Nat.le_of_ble_eq_true rfl) rfl ?_
    show Y l g miX11_oneOther (d + 1) 179 [some (.inr (.inr (some a0))), some (.inl x1), some (.inl x2), some (.inl (x103 - 20)), some (.inl x106), some (.inl x109), some (.inl x112), some (.inl x115), some (.inl x118), none, none] [] q139 _
    refine y_aload_n (i := 0) dX11_oneOther_179 rfl rfl ?_
    refine y_iload_n (i := 1) dX11_oneOther_180 rfl rfl ?_
    refine y_iload (i := 6) dX11_oneOther_181 rfl ?_
    refine y_iconst (v := 1) dX11_oneOther_183 (by decide) ?_
    refine y_iadd dX11_oneOther_184 ?_
    refine y_iload (i := 7) dX11_oneOther_185 rfl ?_
    replace hf := bnd hf
    obtain ⟨fs142, efs142, hf⟩ := hf
    replace hf := bnd hf
    obtain ⟨q141, eq141, hf⟩ := hf
    refine y_callV (mj := miX11_addOwn) (args := [.inl x1, .inl (x112 + 1), .inl x115]) (st := []) dX11_oneOther_187 (gd_of 1029 rfl rfl) (gd_of 1031 rfl rfl) (gd_of 61 rfl rfl) okX11_addOwn (obO_spec efs142) rfl rfl (xX11_addOwn (by omega) eq141) (Nat.le_of_ble_eq_true rfl) rfl ?_
    show Y l g miX11_oneOther (d + 1) 190 [some (.inr (.inr (some a0))), some (.inl x1), some (.inl x2), some (.inl (x103 - 20)), some (.inl x106), some (.inl x109), some (.inl x112), some (.inl x115), some (.inl x118), none, none] [] q141 _
    refine y_aload_n (i := 0) dX11_oneOther_190 rfl rfl ?_
    refine y_iload_n (i := 1) dX11_oneOther_191 rfl rfl ?_
    refine y_iload (i := 4) dX11_oneOther_192 rfl ?_
    replace hf := bnd hf
    obtain ⟨fs144, efs144, hf⟩ := hf
    replace hf := bnd hf
    obtain ⟨q143, eq143, hf⟩ := hf
    refine y_callV (mj := miX11_last) (args := [.inl x1, .inl x106]) (st := []) dX11_oneOther_194 (gd_of 1033 rfl rfl) (gd_of 1035 rfl rfl) (gd_of 62 rfl rfl) okX11_last (obO_spec efs144) rfl rfl (xX11_last (by omega) eq143) (Nat.le_of_ble_eq_true rfl) rfl ?_
    show Y l g miX11_oneOther (d + 1) 197 [some (.inr (.inr (some a0))), some (.inl x1), some (.inl x2), some (.inl (x103 - 20)), some (.inl x106), some (.inl x109), some (.inl x112), some (.inl x115), some (.inl x118), none, none] [] q143 _
    refine y_goto (tgt := 733) dX11_oneOther_197 (by decide) ?_
    obtain rfl := Option.some.inj hf
    exact y_ret (v := none) dX11_oneOther_733 rfl
  rw [if_neg hc] at hf
  refine y_swc (fun hc => ?_) (fun hc => ?_)
  · rw [if_pos hc] at hf
    refine y_iconst (v := 0) dX11_oneOther_200 (by decide) ?_
    refine y_istore (i := 9) (lv2 := [some (.inr (.inr (some a0))), some (.inl x1), some (.inl x2), some (.inl (x103 - 20)), some (.inl x106), some (.inl x109), some (.inl x112), some (.inl x115), some (.inl x118), some (.inl 0), none]) dX11_oneOther_201 (by decide) rfl ?_
    refine Y.weak (lv2 := [some (.inr (.inr (some a0))), some (.inl x1), none, none, some (.inl x106), none, some (.inl x112), some (.inl x115), none, some (.inl 0), none]) [true, true, false, false, true, false, true, true, false, true, false] rfl ?_
    exact xX11_oneOther_203 hK 4000 _ _ _ _ _ _ _ _ hf
  rw [if_neg hc] at hf
  refine y_swc (fun hc => ?_) (fun hc => ?_)
  · rw [if_pos hc] at hf
    refine y_iload (i := 8) dX11_oneOther_248 rfl ?_
    refine y_if_ne (tgt := 275) dX11_oneOther_250 (by decide) (fun hc => ?_) (fun hc => ?_)
    · rw [if_neg hc] at hf
      refine y_aload_n (i := 0) dX11_oneOther_275 rfl rfl ?_
      replace hf := bnd hf
      obtain ⟨r145, er145, hf⟩ := hf
      refine y_getR er145 fl11_23 dX11_oneOther_276 ?_
      refine y_iload (i := 5) dX11_oneOther_279 rfl ?_
      replace hf := bnd hf
      obtain ⟨a146, rfl, hf⟩ := hf
      replace hf := bnd hf
      obtain ⟨x147, ex147, hf⟩ := hf
      refine y_iaload ex147 dX11_oneOther_281 ?_
      refine y_iconst (v := 4) dX11_oneOther_282 (by decide) ?_
      refine y_icmp_eq (tgt := 298) dX11_oneOther_283 (by decide) (fun hc => ?_) (fun hc => ?_)
      · rw [if_pos hc] at hf
        refine Y.weak (lv2 := [some (.inr (.inr (some a0))), some (.inl x1), none, none, some (.inl x106), none, none, some (.inl x115), none, none, none]) [true, true, false, false, true, false, false, true, false, false, false] rfl ?_
        exact xX11_oneOther_298 hK hf
      · rw [if_neg hc] at hf
        refine y_aload_n (i := 0) dX11_oneOther_286 rfl rfl ?_
        refine y_aload_n (i := 0) dX11_oneOther_287 rfl rfl ?_
        replace hf := bnd hf
        obtain ⟨x148, ex148, hf⟩ := hf
        refine y_getI ex148 fl11_207 dX11_oneOther_288 ?_
        refine y_aload_n (i := 0) dX11_oneOther_291 rfl rfl ?_
        replace hf := bnd hf
        obtain ⟨j149, ej149, hf⟩ := hf
        refine y_getJ ej149 fl11_210 dX11_oneOther_292 ?_
        replace hf := bnd hf
        obtain ⟨fs151, efs151, hf⟩ := hf
        replace hf := bnd hf
        obtain ⟨q150, eq150, hf⟩ := hf
        refine y_callV (mj := miX11_add) (args := [.inl x148, .inr (.inl j149)]) (st := []) dX11_oneOther_295 (gd_of 1001 rfl rfl) (gd_of 1003 rfl rfl) (gd_of 54 rfl rfl) okX11_add (obO_spec efs151) rfl rfl (xX11_add (by omega) eq150) (Nat.le_of_ble_eq_true rfl) rfl ?_
        show Y l g miX11_oneOther (d + 1) 298 [some (.inr (.inr (some a0))), some (.inl x1), some (.inl x2), some (.inl (x103 - 20)), some (.inl x106), some (.inl x109), some (.inl x112), some (.inl x115), some (.inl x118), none, none] [] q150 _
        refine Y.weak (lv2 := [some (.inr (.inr (some a0))), some (.inl x1), none, none, some (.inl x106), none, none, some (.inl x115), none, none, none]) [true, true, false, false, true, false, false, true, false, false, false] rfl ?_
        exact xX11_oneOther_298 hK hf
    · rw [if_pos hc] at hf
      refine y_aload_n (i := 0) dX11_oneOther_253 rfl rfl ?_
      refine y_iload_n (i := 1) dX11_oneOther_254 rfl rfl ?_
      refine y_iconst (v := 0) dX11_oneOther_255 (by decide) ?_
      refine y_aload_n (i := 0) dX11_oneOther_256 rfl rfl ?_
      replace hf := bnd hf
      obtain ⟨r152, er152, hf⟩ := hf
      refine y_getR er152 fl11_17 dX11_oneOther_257 ?_
      refine y_iload (i := 5) dX11_oneOther_260 rfl ?_
      replace hf := bnd hf
      obtain ⟨a153, rfl, hf⟩ := hf
      replace hf := bnd hf
      obtain ⟨x154, ex154, hf⟩ := hf
      refine y_iaload ex154 dX11_oneOther_262 ?_
      replace hf := bnd hf
      obtain ⟨fs156, efs156, hf⟩ := hf
      replace hf := bnd hf
      obtain ⟨q155, eq155, hf⟩ := hf
      refine y_callV (mj := miX11_addOwn) (args := [.inl x1, .inl 0, .inl x154]) (st := []) dX11_oneOther_263 (gd_of 1029 rfl rfl) (gd_of 1031 rfl rfl) (gd_of 61 rfl rfl) okX11_addOwn (obO_spec efs156) rfl rfl (xX11_addOwn (by omega) eq155) (Nat.le_of_ble_eq_true rfl) rfl ?_
      show Y l g miX11_oneOther (d + 1) 266 [some (.inr (.inr (some a0))), some (.inl x1), some (.inl x2), some (.inl (x103 - 20)), some (.inl x106), some (.inl x109), some (.inl x112), some (.inl x115), some (.inl x118), none, none] [] q155 _
      refine y_aload_n (i := 0) dX11_oneOther_266 rfl rfl ?_
      refine y_iload (i := 5) dX11_oneOther_267 rfl ?_
      replace hf := bnd hf
      obtain ⟨fs158, efs158, hf⟩ := hf
      replace hf := bnd hf
      obtain ⟨q157, eq157, hf⟩ := hf
      refine y_callV (mj := miX11_calls) (args := [.inl x109]) (st := []) dX11_oneOther_269 (gd_of 1005 rfl rfl) (gd_of 1007 rfl rfl) (gd_of 55 rfl rfl) okX11_calls (obO_spec efs158) rfl rfl (xX11_calls (by omega) eq157) (Nat.le_of_ble_eq_true rfl) rfl ?_
      show Y l g miX11_oneOther (d + 1) 272 [some (.inr (.inr (some a0))), some (.inl x1), some (.inl x2), some (.inl (x103 - 20)), some (.inl x106), some (.inl x109), some (.inl x112), some (.inl x115), some (.inl x118), none, none] [] q157 _
      refine y_goto (tgt := 733) dX11_oneOther_272 (by decide) ?_
      obtain rfl := Option.some.inj hf
      exact y_ret (v := none) dX11_oneOther_733 rfl
  rw [if_neg hc] at hf
  refine y_swc (fun hc => ?_) (fun hc => ?_)
  · rw [if_pos hc] at hf
    refine y_iload (i := 8) dX11_oneOther_316 rfl ?_
    refine y_if_ne (tgt := 341) dX11_oneOther_318 (by decide) (fun hc => ?_) (fun hc => ?_)
    · rw [if_neg hc] at hf
      refine y_aload_n (i := 0) dX11_oneOther_341 rfl rfl ?_
      refine y_iload_n (i := 1) dX11_oneOther_342 rfl rfl ?_
      refine y_iconst (v := 0) dX11_oneOther_343 (by decide) ?_
      refine y_iload (i := 6) dX11_oneOther_344 rfl ?_
      replace hf := bnd hf
      obtain ⟨fs160, efs160, hf⟩ := hf
      replace hf := bnd hf
      obtain ⟨q159, eq159, hf⟩ := hf
      refine y_callV (mj := miX11_addOwn) (args := [.inl x1, .inl 0, .inl x112]) (st := []) dX11_oneOther_346 (gd_of 1029 rfl rfl) (gd_of 1031 rfl rfl) (gd_of 61 rfl rfl) okX11_addOwn (obO_spec efs160) rfl rfl (xX11_addOwn (by omega) eq159) (Nat.le_of_ble_eq_true rfl) rfl ?_
      show Y l g miX11_oneOther (d + 1) 349 [some (.inr (.inr (some a0))), some (.inl x1), some (.inl x2), some (.inl (x103 - 20)), some (.inl x106), some (.inl x109), some (.inl x112), some (.inl x115), some (.inl x118), none, none] [] q159 _
      refine y_aload_n (i := 0) dX11_oneOther_349 rfl rfl ?_
      refine y_aload_n (i := 0) dX11_oneOther_350 rfl rfl ?_
      replace hf := bnd hf
      obtain ⟨x161, ex161, hf⟩ := hf
      refine y_getI ex161 fl11_207 dX11_oneOther_351 ?_
      refine y_aload_n (i := 0) dX11_oneOther_354 rfl rfl ?_
      replace hf := bnd hf
      obtain ⟨j162, ej162, hf⟩ := hf
      refine y_getJ ej162 fl11_210 dX11_oneOther_355 ?_
      replace hf := bnd hf
      obtain ⟨fs164, efs164, hf⟩ := hf
      replace hf := bnd hf
      obtain ⟨q163, eq163, hf⟩ := hf
      refine y_callV (mj := miX11_add) (args := [.inl x161, .inr (.inl j162)]) (st := []) dX11_oneOther_358 (gd_of 1001 rfl rfl) (gd_of 1003 rfl rfl) (gd_of 54 rfl rfl) okX11_add (obO_spec efs164) rfl rfl (xX11_add (by omega) eq163) (Nat.le_of_ble_eq_true rfl) rfl ?_
      show Y l g miX11_oneOther (d + 1) 361 [some (.inr (.inr (some a0))), some (.inl x1), some (.inl x2), some (.inl (x103 - 20)), some (.inl x106), some (.inl x109), some (.inl x112), some (.inl x115), some (.inl x118), none, none] [] q163 _
      refine y_aload_n (i := 0) dX11_oneOther_361 rfl rfl ?_
      refine y_iload_n (i := 1) dX11_oneOther_362 rfl rfl ?_
      refine y_iload (i := 6) dX11_oneOther_363 rfl ?_
      refine y_iconst (v := 1) dX11_oneOther_365 (by decide) ?_
      refine y_iadd dX11_oneOther_366 ?_
      refine y_iload (i := 7) dX11_oneOther_367 rfl ?_
      replace hf := bnd hf
      obtain ⟨fs166, efs166, hf⟩ := hf
      replace hf := bnd hf
      obtain ⟨q165, eq165, hf⟩ := hf
      refine y_callV (mj := miX11_addOwn) (args := [.inl x1, .inl (x112 + 1), .inl x115]) (st := []) dX11_oneOther_369 (gd_of 1029 rfl rfl) (gd_of 1031 rfl rfl) (gd_of 61 rfl rfl) okX11_addOwn (obO_spec efs166) rfl rfl (xX11_addOwn (by omega) eq165) (Nat.le_of_ble_eq_true rfl) rfl ?_
      show Y l g miX11_oneOther (d + 1) 372 [some (.inr (.inr (some a0))), some (.inl x1), some (.inl x2), some (.inl (x103 - 20)), some (.inl x106), some (.inl x109), some (.inl x112), some (.inl x115), some (.inl x118), none, none] [] q165 _
      refine y_aload_n (i := 0) dX11_oneOther_372 rfl rfl ?_
      refine y_iload_n (i := 1) dX11_oneOther_373 rfl rfl ?_
      refine y_iload (i := 4) dX11_oneOther_374 rfl ?_
      replace hf := bnd hf
      obtain ⟨fs168, efs168, hf⟩ := hf
      replace hf := bnd hf
      obtain ⟨q167, eq167, hf⟩ := hf
      refine y_callV (mj := miX11_last) (args := [.inl x1, .inl x106]) (st := []) dX11_oneOther_376 (gd_of 1033 rfl rfl) (gd_of 1035 rfl rfl) (gd_of 62 rfl rfl) okX11_last (obO_spec efs168) rfl rfl (xX11_last (by omega) eq167) (Nat.le_of_ble_eq_true rfl) rfl ?_
      show Y l g miX11_oneOther (d + 1) 379 [some (.inr (.inr (some a0))), some (.inl x1), some (.inl x2), some (.inl (x103 - 20)), some (.inl x106), some (.inl x109), some (.inl x112), some (.inl x115), some (.inl x118), none, none] [] q167 _
      refine y_goto (tgt := 733) dX11_oneOther_379 (by decide) ?_
      obtain rfl := Option.some.inj hf
      exact y_ret (v := none) dX11_oneOther_733 rfl
    · rw [if_pos hc] at hf
      refine y_aload_n (i := 0) dX11_oneOther_321 rfl rfl ?_
      refine y_iload_n (i := 1) dX11_oneOther_322 rfl rfl ?_
      refine y_iload (i := 6) dX11_oneOther_323 rfl ?_
      refine y_iload (i := 6) dX11_oneOther_325 rfl ?_
      refine y_iconst (v := 1) dX11_oneOther_327 (by decide) ?_
      refine y_iadd dX11_oneOther_328 ?_
      replace hf := bnd hf
      obtain ⟨fs170, efs170, hf⟩ := hf
      replace hf := bnd hf
      obtain ⟨q169, eq169, hf⟩ := hf
      refine y_callV (mj := miX11_addOwn) (args := [.inl x1, .inl x112, .inl (x112 + 1)]) (st := []) dX11_oneOther_329 (gd_of 1029 rfl rfl) (gd_of 1031 rfl rfl) (gd_of 61 rfl rfl) okX11_addOwn (obO_spec efs170) rfl rfl (xX11_addOwn (by omega) eq169) (Nat.le_of_ble_eq_true rfl) rfl ?_
      show Y l g miX11_oneOther (d + 1) 332 [some (.inr (.inr (some a0))), some (.inl x1), some (.inl x2), some (.inl (x103 - 20)), some (.inl x106), some (.inl x109), some (.inl x112), some (.inl x115), some (.inl x118), none, none] [] q169 _
      refine y_aload_n (i := 0) dX11_oneOther_332 rfl rfl ?_
      refine y_iload (i := 5) dX11_oneOther_333 rfl ?_
      replace hf := bnd hf
      obtain ⟨fs172, efs172, hf⟩ := hf
      replace hf := bnd hf
      obtain ⟨q171, eq171, hf⟩ := hf
      refine y_callV (mj := miX11_calls) (args := [.inl x109]) (st := []) dX11_oneOther_335 (gd_of 1005 rfl rfl) (gd_of 1007 rfl rfl) (gd_of 55 rfl rfl) okX11_calls (obO_spec efs172) rfl rfl (xX11_calls (by omega) eq171) (Nat.le_of_ble_eq_true rfl) rfl ?_
      show Y l g miX11_oneOther (d + 1) 338 [some (.inr (.inr (some a0))), some (.inl x1), some (.inl x2), some (.inl (x103 - 20)), some (.inl x106), some (.inl x109), some (.inl x112), some (.inl x115), some (.inl x118), none, none] [] q171 _
      refine y_goto (tgt := 733) dX11_oneOther_338 (by decide) ?_
      obtain rfl := Option.some.inj hf
      exact y_ret (v := none) dX11_oneOther_733 rfl
  rw [if_neg hc] at hf
  refine y_swc (fun hc => ?_) (fun hc => ?_)
  · rw [if_pos hc] at hf
    refine y_iload (i := 8) dX11_oneOther_382 rfl ?_
    refine y_if_ne (tgt := 404) dX11_oneOther_384 (by decide) (fun hc => ?_) (fun hc => ?_)
    · rw [if_neg hc] at hf
      refine y_aload_n (i := 0) dX11_oneOther_404 rfl rfl ?_
      replace hf := bnd hf
      obtain ⟨r173, er173, hf⟩ := hf
      refine y_getR er173 fl11_23 dX11_oneOther_405 ?_
      refine y_iload (i := 4) dX11_oneOther_408 rfl ?_
      replace hf := bnd hf
      obtain ⟨a174, rfl, hf⟩ := hf
      replace hf := bnd hf
      obtain ⟨x175, ex175, hf⟩ := hf
      refine y_iaload ex175 dX11_oneOther_410 ?_
      refine y_iconst (v := 4) dX11_oneOther_411 (by decide) ?_
      refine y_icmp_eq (tgt := 427) dX11_oneOther_412 (by decide) (fun hc => ?_) (fun hc => ?_)
      · rw [if_pos hc] at hf
        refine y_aload_n (i := 0) dX11_oneOther_427 rfl rfl ?_
        refine y_iload_n (i := 1) dX11_oneOther_428 rfl rfl ?_
        refine y_iload (i := 5) dX11_oneOther_429 rfl ?_
        replace hf := bnd hf
        obtain ⟨fs177, efs177, hf⟩ := hf
        replace hf := bnd hf
        obtain ⟨q176, eq176, hf⟩ := hf
        refine y_callV (mj := miX11_last) (args := [.inl x1, .inl x109]) (st := []) dX11_oneOther_431 (gd_of 1033 rfl rfl) (gd_of 1035 rfl rfl) (gd_of 62 rfl rfl) okX11_last (obO_spec efs177) rfl rfl (xX11_last (by omega) eq176) (Nat.le_of_ble_eq_true rfl) rfl ?_
        show Y l g miX11_oneOther (d + 1) 434 [some (.inr (.inr (some a0))), some (.inl x1), some (.inl x2), some (.inl (x103 - 20)), some (.inl x106), some (.inl x109), some (.inl x112), some (.inl x115), some (.inl x118), none, none] [] q176 _
        refine y_goto (tgt := 733) dX11_oneOther_434 (by decide) ?_
        obtain rfl := Option.some.inj hf
        exact y_ret (v := none) dX11_oneOther_733 rfl
      · rw [if_neg hc] at hf
        refine y_aload_n (i := 0) dX11_oneOther_415 rfl rfl ?_
        refine y_aload_n (i := 0) dX11_oneOther_416 rfl rfl ?_
        replace hf := bnd hf
        obtain ⟨x178, ex178, hf⟩ := hf
        refine y_getI ex178 fl11_207 dX11_oneOther_417 ?_
        refine y_aload_n (i := 0) dX11_oneOther_420 rfl rfl ?_
        replace hf := bnd hf
        obtain ⟨j179, ej179, hf⟩ := hf
        refine y_getJ ej179 fl11_210 dX11_oneOther_421 ?_
        replace hf := bnd hf
        obtain ⟨fs181, efs181, hf⟩ := hf
        replace hf := bnd hf
        obtain ⟨q180, eq180, hf⟩ := hf
        refine y_callV (mj := miX11_add) (args := [.inl x178, .inr (.inl j179)]) (st := []) dX11_oneOther_424 (gd_of 1001 rfl rfl) (gd_of 1003 rfl rfl) (gd_of 54 rfl rfl) okX11_add (obO_spec efs181) rfl rfl (xX11_add (by omega) eq180) (Nat.le_of_ble_eq_true rfl) rfl ?_
        show Y l g miX11_oneOther (d + 1) 427 [some (.inr (.inr (some a0))), some (.inl x1), some (.inl x2), some (.inl (x103 - 20)), some (.inl x106), some (.inl x109), some (.inl x112), some (.inl x115), some (.inl x118), none, none] [] q180 _
        refine y_aload_n (i := 0) dX11_oneOther_427 rfl rfl ?_
        refine y_iload_n (i := 1) dX11_oneOther_428 rfl rfl ?_
        refine y_iload (i := 5) dX11_oneOther_429 rfl ?_
        replace hf := bnd hf
        obtain ⟨fs183, efs183, hf⟩ := hf
        replace hf := bnd hf
        obtain ⟨q182, eq182, hf⟩ := hf
        refine y_callV (mj := miX11_last) (args := [.inl x1, .inl x109]) (st := []) dX11_oneOther_431 (gd_of 1033 rfl rfl) (gd_of 1035 rfl rfl) (gd_of 62 rfl rfl) okX11_last (obO_spec efs183) rfl rfl (xX11_last (by omega) eq182) (Nat.le_of_ble_eq_true rfl) rfl ?_
        show Y l g miX11_oneOther (d + 1) 434 [some (.inr (.inr (some a0))), some (.inl x1), some (.inl x2), some (.inl (x103 - 20)), some (.inl x106), some (.inl x109), some (.inl x112), some (.inl x115), some (.inl x118), none, none] [] q182 _
        refine y_goto (tgt := 733) dX11_oneOther_434 (by decide) ?_
        obtain rfl := Option.some.inj hf
        exact y_ret (v := none) dX11_oneOther_733 rfl
    · rw [if_pos hc] at hf
      refine y_aload_n (i := 0) dX11_oneOther_387 rfl rfl ?_
      refine y_iload_n (i := 1) dX11_oneOther_388 rfl rfl ?_
      refine y_iconst (v := 0) dX11_oneOther_389 (by decide) ?_
      refine y_iload (i := 7) dX11_oneOther_390 rfl ?_
      replace hf := bnd hf
      obtain ⟨fs185, efs185, hf⟩ := hf
      replace hf := bnd hf
      obtain ⟨q184, eq184, hf⟩ := hf
      refine y_callV (mj := miX11_addOwn) (args := [.inl x1, .inl 0, .inl x115]) (st := []) dX11_oneOther_392 (gd_of 1029 rfl rfl) (gd_of 1031 rfl rfl) (gd_of 61 rfl rfl) okX11_addOwn (obO_spec efs185) rfl rfl (xX11_addOwn (by omega) eq184) (Nat.le_of_ble_eq_true rfl) rfl ?_
      show Y l g miX11_oneOther (d + 1) 395 [some (.inr (.inr (some a0))), some (.inl x1), some (.inl x2), some (.inl (x103 - 20)), some (.inl x106), some (.inl x109), some (.inl x112), some (.inl x115), some (.inl x118), none, none] [] q184 _
      refine y_aload_n (i := 0) dX11_oneOther_395 rfl rfl ?_
      refine y_iload (i := 4) dX11_oneOther_396 rfl ?_
      replace hf := bnd hf
      obtain ⟨fs187, efs187, hf⟩ := hf
      replace hf := bnd hf
      obtain ⟨q186, eq186, hf⟩ := hf
      refine y_callV (mj := miX11_calls) (args := [.inl x106]) (st := []) dX11_oneOther_398 (gd_of 1005 rfl rfl) (gd_of 1007 rfl rfl) (gd_of 55 rfl rfl) okX11_calls (obO_spec efs187) rfl rfl (xX11_calls (by omega) eq186) (Nat.le_of_ble_eq_true rfl) rfl ?_
      show Y l g miX11_oneOther (d + 1) 401 [some (.inr (.inr (some a0))), some (.inl x1), some (.inl x2), some (.inl (x103 - 20)), some (.inl x106), some (.inl x109), some (.inl x112), some (.inl x115), some (.inl x118), none, none] [] q186 _
      refine y_goto (tgt := 733) dX11_oneOther_401 (by decide) ?_
      obtain rfl := Option.some.inj hf
      exact y_ret (v := none) dX11_oneOther_733 rfl
  rw [if_neg hc] at hf
  refine y_swc (fun hc => ?_) (fun hc => ?_)
  · rw [if_pos hc] at hf
    refine y_aload_n (i := 0) dX11_oneOther_437 rfl rfl ?_
    refine y_iload_n (i := 1) dX11_oneOther_438 rfl rfl ?_
    refine y_iconst (v := 0) dX11_oneOther_439 (by decide) ?_
    refine y_iload (i := 8) dX11_oneOther_440 rfl ?_
    refine y_if_ne (tgt := 455) dX11_oneOther_442 (by decide) (fun hc => ?_) (fun hc => ?_)
    · rw [if_neg hc] at hf
      refine y_iload (i := 7) dX11_oneOther_455 rfl ?_
      refine Y.weak (lv2 := [some (.inr (.inr (some a0))), some (.inl x1), some (.inl x2), none, some (.inl x106), some (.inl x109), none, none, some (.inl x118), none, none]) [true, true, true, false, true, true, false, false, true, false, false] rfl ?_
      exact xX11_oneOther_457 hK hf
    · rw [if_pos hc] at hf
      refine y_aload_n (i := 0) dX11_oneOther_445 rfl rfl ?_
      replace hf := bnd hf
      obtain ⟨r188, er188, hf⟩ := hf
      refine y_getR er188 fl11_17 dX11_oneOther_446 ?_
      refine y_iload (i := 4) dX11_oneOther_449 rfl ?_
      replace hf := bnd hf
      obtain ⟨a189, rfl, hf⟩ := hf
      replace hf := bnd hf
      obtain ⟨x190, ex190, hf⟩ := hf
      refine y_iaload ex190 dX11_oneOther_451 ?_
      refine y_goto (tgt := 457) dX11_oneOther_452 (by decide) ?_
      refine Y.weak (lv2 := [some (.inr (.inr (some a0))), some (.inl x1), some (.inl x2), none, some (.inl x106), some (.inl x109), none, none, some (.inl x118), none, none]) [true, true, true, false, true, true, false, false, true, false, false] rfl ?_
      exact xX11_oneOther_457 hK hf
  rw [if_neg hc] at hf
  refine y_swc (fun hc => ?_) (fun hc => ?_)
  · rw [if_pos hc] at hf
    refine y_iload (i := 8) dX11_oneOther_502 rfl ?_
    refine y_if_ne (tgt := 524) dX11_oneOther_504 (by decide) (fun hc => ?_) (fun hc => ?_)
    · rw [if_neg hc] at hf
      refine y_aload_n (i := 0) dX11_oneOther_524 rfl rfl ?_
      refine y_iload (i := 6) dX11_oneOther_525 rfl ?_
      replace hf := bnd hf
      obtain ⟨fs192, efs192, hf⟩ := hf
      replace hf := bnd hf
      obtain ⟨q191, eq191, hf⟩ := hf
      refine y_callV (mj := miX11_isCaught) (args := [.inl x112]) (st := []) dX11_oneOther_527 (gd_of 1037 rfl rfl) (gd_of 1039 rfl rfl) (gd_of 63 rfl rfl) okX11_isCaught (obO_spec efs192) rfl rfl (xX11_isCaught (by omega) eq191) (Nat.le_of_ble_eq_true rfl) rfl ?_
      show Y l g miX11_oneOther (d + 1) 530 [some (.inr (.inr (some a0))), some (.inl x1), some (.inl x2), some (.inl (x103 - 20)), some (.inl x106), some (.inl x109), some (.inl x112), some (.inl x115), some (.inl x118), none, none] [.inl q191.1] q191.2 _
      refine y_if_eq (tgt := 561) dX11_oneOther_530 (by decide) (fun hc => ?_) (fun hc => ?_)
      · rw [if_pos hc] at hf
        refine y_aload_n (i := 0) dX11_oneOther_561 rfl rfl ?_
        replace hf := bnd hf
        obtain ⟨fs194, efs194, hf⟩ := hf
        replace hf := bnd hf
        obtain ⟨q193, eq193, hf⟩ := hf
        refine y_callV (mj := miX11_over) (args := []) (st := []) dX11_oneOther_562 (gd_of 1021 rfl rfl) (gd_of 1023 rfl rfl) (gd_of 59 rfl rfl) okX11_over (obO_spec efs194) rfl rfl (xX11_over (by omega) eq193) (Nat.le_of_ble_eq_true rfl) rfl ?_
        show Y l g miX11_oneOther (d + 1) 565 [some (.inr (.inr (some a0))), some (.inl x1), some (.inl x2), some (.inl (x103 - 20)), some (.inl x106), some (.inl x109), some (.inl x112), some (.inl x115), some (.inl x118), none, none] [] q193 _
        refine y_goto (tgt := 733) dX11_oneOther_565 (by decide) ?_
        obtain rfl := Option.some.inj hf
        exact y_ret (v := none) dX11_oneOther_733 rfl
      · rw [if_neg hc] at hf
        refine y_aload_n (i := 0) dX11_oneOther_533 rfl rfl ?_
        refine y_iconst (v := 0) dX11_oneOther_534 (by decide) ?_
        refine y_aload_n (i := 0) dX11_oneOther_535 rfl rfl ?_
        replace hf := bnd hf
        obtain ⟨x195, ex195, hf⟩ := hf
        refine y_getI ex195 fl11_173 dX11_oneOther_536 ?_
        refine y_i2l dX11_oneOther_539 ?_
        replace hf := bnd hf
        obtain ⟨fs197, efs197, hf⟩ := hf
        replace hf := bnd hf
        obtain ⟨q196, eq196, hf⟩ := hf
        refine y_callV (mj := miX11_add) (args := [.inl 0, .inr (.inl (Int32.toInt64 x195))]) (st := []) dX11_oneOther_540 (gd_of 1001 rfl rfl) (gd_of 1003 rfl rfl) (gd_of 54 rfl rfl) okX11_add (obO_spec efs197) rfl rfl (xX11_add (by omega) eq196) (Nat.le_of_ble_eq_true rfl) rfl ?_
        show Y l g miX11_oneOther (d + 1) 543 [some (.inr (.inr (some a0))), some (.inl x1), some (.inl x2), some (.inl (x103 - 20)), some (.inl x106), some (.inl x109), some (.inl x112), some (.inl x115), some (.inl x118), none, none] [] q196 _
        refine y_aload_n (i := 0) dX11_oneOther_543 rfl rfl ?_
        refine y_iload_n (i := 1) dX11_oneOther_544 rfl rfl ?_
        refine y_iconst (v := 0) dX11_oneOther_545 (by decide) ?_
        refine y_iload (i := 7) dX11_oneOther_546 rfl ?_
        replace hf := bnd hf
        obtain ⟨fs199, efs199, hf⟩ := hf
        replace hf := bnd hf
        obtain ⟨q198, eq198, hf⟩ := hf
        refine y_callV (mj := miX11_addOwn) (args := [.inl x1, .inl 0, .inl x115]) (st := []) dX11_oneOther_548 (gd_of 1029 rfl rfl) (gd_of 1031 rfl rfl) (gd_of 61 rfl rfl) okX11_addOwn (obO_spec efs199) rfl rfl (xX11_addOwn (by omega) eq198) (Nat.le_of_ble_eq_true rfl) rfl ?_
        show Y l g miX11_oneOther (d + 1) 551 [some (.inr (.inr (some a0))), some (.inl x1), some (.inl x2), some (.inl (x103 - 20)), some (.inl x106), some (.inl x109), some (.inl x112), some (.inl x115), some (.inl x118), none, none] [] q198 _
        refine y_aload_n (i := 0) dX11_oneOther_551 rfl rfl ?_
        refine y_iload_n (i := 1) dX11_oneOther_552 rfl rfl ?_
        refine y_iload (i := 5) dX11_oneOther_553 rfl ?_
        replace hf := bnd hf
        obtain ⟨fs201, efs201, hf⟩ := hf
        replace hf := bnd hf
        obtain ⟨q200, eq200, hf⟩ := hf
        refine y_callV (mj := miX11_last) (args := [.inl x1, .inl x109]) (st := []) dX11_oneOther_555 (gd_of 1033 rfl rfl) (gd_of 1035 rfl rfl) (gd_of 62 rfl rfl) okX11_last (obO_spec efs201) rfl rfl (xX11_last (by omega) eq200) (Nat.le_of_ble_eq_true rfl) rfl ?_
        show Y l g miX11_oneOther (d + 1) 558 [some (.inr (.inr (some a0))), some (.inl x1), some (.inl x2), some (.inl (x103 - 20)), some (.inl x106), some (.inl x109), some (.inl x112), some (.inl x115), some (.inl x118), none, none] [] q200 _
        refine y_goto (tgt := 733) dX11_oneOther_558 (by decide) ?_
        obtain rfl := Option.some.inj hf
        exact y_ret (v := none) dX11_oneOther_733 rfl
    · rw [if_pos hc] at hf
      refine y_aload_n (i := 0) dX11_oneOther_507 rfl rfl ?_
      refine y_iload_n (i := 1) dX11_oneOther_508 rfl rfl ?_
      refine y_iconst (v := 0) dX11_oneOther_509 (by decide) ?_
      refine y_iload (i := 7) dX11_oneOther_510 rfl ?_
      replace hf := bnd hf
      obtain ⟨fs203, efs203, hf⟩ := hf
      replace hf := bnd hf
      obtain ⟨q202, eq202, hf⟩ := hf
      refine y_callV (mj := miX11_addOwn) (args := [.inl x1, .inl 0, .inl x115]) (st := []) dX11_oneOther_512 (gd_of 1029 rfl rfl) (gd_of 1031 rfl rfl) (gd_of 61 rfl rfl) okX11_addOwn (obO_spec efs203) rfl rfl (xX11_addOwn (by omega) eq202) (Nat.le_of_ble_eq_true rfl) rfl ?_
      show Y l g miX11_oneOther (d + 1) 515 [some (.inr (.inr (some a0))), some (.inl x1), some (.inl x2), some (.inl (x103 - 20)), some (.inl x106), some (.inl x109), some (.inl x112), some (.inl x115), some (.inl x118), none, none] [] q202 _
      refine y_aload_n (i := 0) dX11_oneOther_515 rfl rfl ?_
      refine y_iload (i := 4) dX11_oneOther_516 rfl ?_
      replace hf := bnd hf
      obtain ⟨fs205, efs205, hf⟩ := hf
      replace hf := bnd hf
      obtain ⟨q204, eq204, hf⟩ := hf
      refine y_callV (mj := miX11_calls) (args := [.inl x106]) (st := []) dX11_oneOther_518 (gd_of 1005 rfl rfl) (gd_of 1007 rfl rfl) (gd_of 55 rfl rfl) okX11_calls (obO_spec efs205) rfl rfl (xX11_calls (by omega) eq204) (Nat.le_of_ble_eq_true rfl) rfl ?_
      show Y l g miX11_oneOther (d + 1) 521 [some (.inr (.inr (some a0))), some (.inl x1), some (.inl x2), some (.inl (x103 - 20)), some (.inl x106), some (.inl x109), some (.inl x112), some (.inl x115), some (.inl x118), none, none] [] q204 _
      refine y_goto (tgt := 733) dX11_oneOther_521 (by decide) ?_
      obtain rfl := Option.some.inj hf
      exact y_ret (v := none) dX11_oneOther_733 rfl
  rw [if_neg hc] at hf
  refine y_swc (fun hc => ?_) (fun hc => ?_)
  · rw [if_pos hc] at hf
    refine y_aload_n (i := 0) dX11_oneOther_568 rfl rfl ?_
    refine y_iload_n (i := 1) dX11_oneOther_569 rfl rfl ?_
    refine y_iload (i := 8) dX11_oneOther_570 rfl ?_
    refine y_iload (i := 4) dX11_oneOther_572 rfl ?_
    refine y_iload (i := 5) dX11_oneOther_574 rfl ?_
    refine y_iload (i := 7) dX11_oneOther_576 rfl ?_
    replace hf := bnd hf
    obtain ⟨fs207, efs207, hf⟩ := hf
    replace hf := bnd hf
    obtain ⟨q206, eq206, hf⟩ := hf
    refine y_callV (mj := miX11_ends) (args := [.inl x1, .inl x118, .inl x106, .inl x109, .inl x115]) (st := []) dX11_oneOther_578 (gd_of 1041 rfl rfl) (gd_of 1043 rfl rfl) (gd_of 64 rfl rfl) okX11_ends (obO_spec efs207) rfl rfl (xX11_ends (by omega) eq206) (Nat.le_of_ble_eq_true rfl) rfl ?_
    show Y l g miX11_oneOther (d + 1) 581 [some (.inr (.inr (some a0))), some (.inl x1), some (.inl x2), some (.inl (x103 - 20)), some (.inl x106), some (.inl x109), some (.inl x112), some (.inl x115), some (.inl x118), none, none] [] q206 _
    refine y_goto (tgt := 733) dX11_oneOther_581 (by decide) ?_
    obtain rfl := Option.some.inj hf
    exact y_ret (v := none) dX11_oneOther_733 rfl
  rw [if_neg hc] at hf
  refine y_swc (fun hc => ?_) (fun hc => ?_)
  · rw [if_pos hc] at hf
    refine y_aload_n (i := 0) dX11_oneOther_584 rfl rfl ?_
    refine y_iload_n (i := 1) dX11_oneOther_585 rfl rfl ?_
    refine y_iload (i := 8) dX11_oneOther_586 rfl ?_
    refine y_iload (i := 4) dX11_oneOther_588 rfl ?_
    refine y_iload (i := 5) dX11_oneOther_590 rfl ?_
    refine y_aload_n (i := 0) dX11_oneOther_592 rfl rfl ?_
    replace hf := bnd hf
    obtain ⟨r208, er208, hf⟩ := hf
    refine y_getR er208 fl11_32 dX11_oneOther_593 ?_
    refine y_iload_n (i := 2) dX11_oneOther_596 rfl rfl ?_
    replace hf := bnd hf
    obtain ⟨a209, rfl, hf⟩ := hf
    replace hf := bnd hf
    obtain ⟨x210, ex210, hf⟩ := hf
    refine y_iaload ex210 dX11_oneOther_597 ?_
    replace hf := bnd hf
    obtain ⟨fs212, efs212, hf⟩ := hf
    replace hf := bnd hf
    obtain ⟨q211, eq211, hf⟩ := hf
    refine y_callV (mj := miX11_rounds) (args := [.inl x1, .inl x118, .inl x106, .inl x109, .inl x210]) (st := []) dX11_oneOther_598 (gd_of 1047 rfl rfl) (gd_of 1049 rfl rfl) (gd_of 65 rfl rfl) okX11_rounds (obO_spec efs212) rfl rfl (xX11_rounds (by omega) eq211) (Nat.le_of_ble_eq_true rfl) rfl ?_
    show Y l g miX11_oneOther (d + 1) 601 [some (.inr (.inr (some a0))), some (.inl x1), some (.inl x2), some (.inl (x103 - 20)), some (.inl x106), some (.inl x109), some (.inl x112), some (.inl x115), some (.inl x118), none, none] [] q211 _
    refine y_goto (tgt := 733) dX11_oneOther_601 (by decide) ?_
    obtain rfl := Option.some.inj hf
    exact y_ret (v := none) dX11_oneOther_733 rfl
  rw [if_neg hc] at hf
  refine y_swc (fun hc => ?_) (fun hc => ?_)
  · rw [if_pos hc] at hf
    refine y_aload_n (i := 0) dX11_oneOther_604 rfl rfl ?_
    refine y_iload_n (i := 1) dX11_oneOther_605 rfl rfl ?_
    refine y_iload (i := 4) dX11_oneOther_606 rfl ?_
    refine y_iload (i := 6) dX11_oneOther_608 rfl ?_
    refine y_iload (i := 7) dX11_oneOther_610 rfl ?_
    replace hf := bnd hf
    obtain ⟨fs214, efs214, hf⟩ := hf
    replace hf := bnd hf
    obtain ⟨q213, eq213, hf⟩ := hf
    refine y_callV (mj := miX11_spreads) (args := [.inl x1, .inl x106, .inl x112, .inl x115]) (st := []) dX11_oneOther_612 (gd_of 1051 rfl rfl) (gd_of 1053 rfl rfl) (gd_of 66 rfl rfl) okX11_spreads (obO_spec efs214) rfl rfl (xX11_spreads (by omega) eq213) (Nat.le_of_ble_eq_true rfl) rfl ?_
    show Y l g miX11_oneOther (d + 1) 615 [some (.inr (.inr (some a0))), some (.inl x1), some (.inl x2), some (.inl (x103 - 20)), some (.inl x106), some (.inl x109), some (.inl x112), some (.inl x115), some (.inl x118), none, none] [] q213 _
    refine y_goto (tgt := 733) dX11_oneOther_615 (by decide) ?_
    obtain rfl := Option.some.inj hf
    exact y_ret (v := none) dX11_oneOther_733 rfl
  rw [if_neg hc] at hf
  refine y_swc (fun hc => ?_) (fun hc => ?_)
  · rw [if_pos hc] at hf
    refine y_aload_n (i := 0) dX11_oneOther_618 rfl rfl ?_
    replace hf := bnd hf
    obtain ⟨x215, ex215, hf⟩ := hf
    refine y_getI ex215 fl11_115 dX11_oneOther_619 ?_
    refine y_bipush (v := 60) dX11_oneOther_622 (by decide) ?_
    refine y_icmp_ne (tgt := 636) dX11_oneOther_624 (by decide) (fun hc => ?_) (fun hc => ?_)
    · rw [if_neg hc] at hf
      refine y_aload_n (i := 0) dX11_oneOther_636 rfl rfl ?_
      refine y_iload (i := 6) dX11_oneOther_637 rfl ?_
      replace hf := bnd hf
      obtain ⟨fs217, efs217, hf⟩ := hf
      replace hf := bnd hf
      obtain ⟨q216, eq216, hf⟩ := hf
      refine y_callV (mj := miX11_newRow) (args := [.inl x112]) (st := []) dX11_oneOther_639 (gd_of 961 rfl rfl) (gd_of 963 rfl rfl) (gd_of 49 rfl rfl) okX11_newRow (obO_spec efs217) rfl rfl (xX11_newRow (by omega) eq216) (Nat.le_of_ble_eq_true rfl) rfl ?_
      show Y l g miX11_oneOther (d + 1) 642 [some (.inr (.inr (some a0))), some (.inl x1), some (.inl x2), some (.inl (x103 - 20)), some (.inl x106), some (.inl x109), some (.inl x112), some (.inl x115), some (.inl x118), none, none] [.inl q216.1] q216.2 _
      refine y_istore (i := 9) (lv2 := [some (.inr (.inr (some a0))), some (.inl x1), some (.inl x2), some (.inl (x103 - 20)), some (.inl x106), some (.inl x109), some (.inl x112), some (.inl x115), some (.inl x118), some (.inl q216.1), none]) dX11_oneOther_642 (by decide) rfl ?_
      refine y_iconst (v := 0) dX11_oneOther_644 (by decide) ?_
      refine y_istore (i := 10) (lv2 := [some (.inr (.inr (some a0))), some (.inl x1), some (.inl x2), some (.inl (x103 - 20)), some (.inl x106), some (.inl x109), some (.inl x112), some (.inl x115), some (.inl x118), some (.inl q216.1), some (.inl 0)]) dX11_oneOther_645 (by decide) rfl ?_
      refine Y.weak (lv2 := [some (.inr (.inr (some a0))), some (.inl x1), none, none, some (.inl x106), none, some (.inl x112), some (.inl x115), none, some (.inl q216.1), some (.inl 0)]) [true, true, false, false, true, false, true, true, false, true, true] rfl ?_
      exact xX11_oneOther_647 hK 4000 _ _ _ _ _ _ _ _ _ hf
    · rw [if_pos hc] at hf
      refine y_aload_n (i := 0) dX11_oneOther_627 rfl rfl ?_
      refine y_bipush (v := 10) dX11_oneOther_628 (by decide) ?_
      replace hf := bnd hf
      obtain ⟨fs219, efs219, hf⟩ := hf
      replace hf := bnd hf
      obtain ⟨q218, eq218, hf⟩ := hf
      refine y_callV (mj := miX11_fails) (args := [.inl 10]) (st := []) dX11_oneOther_630 (gd_of 1055 rfl rfl) (gd_of 1057 rfl rfl) (gd_of 67 rfl rfl) okX11_fails (obO_spec efs219) rfl rfl (xX11_fails (by omega) eq218) (Nat.le_of_ble_eq_true rfl) rfl ?_
      show Y l g miX11_oneOther (d + 1) 633 [some (.inr (.inr (some a0))), some (.inl x1), some (.inl x2), some (.inl (x103 - 20)), some (.inl x106), some (.inl x109), some (.inl x112), some (.inl x115), some (.inl x118), none, none] [] q218 _
      refine y_goto (tgt := 733) dX11_oneOther_633 (by decide) ?_
      obtain rfl := Option.some.inj hf
      exact y_ret (v := none) dX11_oneOther_733 rfl
  rw [if_neg hc] at hf
  refine y_swn ?_
  refine y_aload_n (i := 0) dX11_oneOther_721 rfl rfl ?_
  refine y_iload_n (i := 1) dX11_oneOther_722 rfl rfl ?_
  refine y_iload (i := 8) dX11_oneOther_723 rfl ?_
  refine y_iload_n (i := 2) dX11_oneOther_725 rfl rfl ?_
  refine y_iload (i := 4) dX11_oneOther_726 rfl ?_
  refine y_iload (i := 7) dX11_oneOther_728 rfl ?_
  replace hf := bnd hf
  obtain ⟨fs221, efs221, hf⟩ := hf
  replace hf := bnd hf
  obtain ⟨q220, eq220, hf⟩ := hf
  refine y_callV (mj := miX11_adapts) (args := [.inl x1, .inl x118, .inl x2, .inl x106, .inl x115]) (st := []) dX11_oneOther_730 (gd_of 1059 rfl rfl) (gd_of 1061 rfl rfl) (gd_of 68 rfl rfl) okX11_adapts (obO_spec efs221) rfl rfl (xX11_adapts (by omega) eq220) (Nat.le_of_ble_eq_true rfl) rfl ?_
  show Y l g miX11_oneOther (d + 1) 733 [some (.inr (.inr (some a0))), some (.inl x1), some (.inl x2), some (.inl (x103 - 20)), some (.inl x106), some (.inl x109), some (.inl x112), some (.inl x115), some (.inl x118), none, none] [] q220 _
  obtain rfl := Option.some.inj hf
  exact y_ret (v := none) dX11_oneOther_733 rfl
