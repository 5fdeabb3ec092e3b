set_option maxRecDepth 100000 in
theorem dX11_shape_0 : decode prog_13_method_19_code 0 = .ok (.aload_n 0, 1) := by decide +kernel
set_option maxRecDepth 100000 in
theorem dX11_shape_1 : decode prog_13_method_19_code 1 = .ok (.getfield 17, 3) := by decide +kernel
set_option maxRecDepth 100000 in
theorem dX11_shape_4 : decode prog_13_method_19_code 4 = .ok (.iload_n 2, 1) := by decide +kernel
set_option maxRecDepth 100000 in
theorem dX11_shape_5 : decode prog_13_method_19_code 5 = .ok (.iaload, 1) := by decide +kernel
set_option maxRecDepth 100000 in
theorem dX11_shape_6 : decode prog_13_method_19_code 6 = .ok (.istore 7, 2) := by decide +kernel
set_option maxRecDepth 100000 in
theorem dX11_shape_8 : decode prog_13_method_19_code 8 = .ok (.aload_n 0, 1) := by decide +kernel
set_option maxRecDepth 100000 in
theorem dX11_shape_9 : decode prog_13_method_19_code 9 = .ok (.iload_n 2, 1) := by decide +kernel
set_option maxRecDepth 100000 in
theorem dX11_shape_10 : decode prog_13_method_19_code 10 = .ok (.iconst 0, 1) := by decide +kernel
set_option maxRecDepth 100000 in
theorem dX11_shape_11 : decode prog_13_method_19_code 11 = .ok (.invokevirtual 176, 3) := by decide +kernel
set_option maxRecDepth 100000 in
theorem dX11_shape_14 : decode prog_13_method_19_code 14 = .ok (.iload_n 1, 1) := by decide +kernel
set_option maxRecDepth 100000 in
theorem dX11_shape_15 : decode prog_13_method_19_code 15 = .ok (.tableswitch 804 0 11 #[61, 86, 114, 163, 241, 299, 362, 443, 443, 527, 634, 727], 61) := by decide +kernel
set_option maxRecDepth 100000 in
theorem dX11_shape_76 : decode prog_13_method_19_code 76 = .ok (.aload_n 0, 1) := by decide +kernel
set_option maxRecDepth 100000 in
theorem dX11_shape_77 : decode prog_13_method_19_code 77 = .ok (.iload_n 2, 1) := by decide +kernel
set_option maxRecDepth 100000 in
theorem dX11_shape_78 : decode prog_13_method_19_code 78 = .ok (.iload 5, 2) := by decide +kernel
set_option maxRecDepth 100000 in
theorem dX11_shape_80 : decode prog_13_method_19_code 80 = .ok (.invokevirtual 180, 3) := by decide +kernel
set_option maxRecDepth 100000 in
theorem dX11_shape_83 : decode prog_13_method_19_code 83 = .ok (.ifCond .ne 5, 3) := by decide +kernel
set_option maxRecDepth 100000 in
theorem dX11_shape_86 : decode prog_13_method_19_code 86 = .ok (.iconst (-1), 1) := by decide +kernel
set_option maxRecDepth 100000 in
theorem dX11_shape_87 : decode prog_13_method_19_code 87 = .ok (.ireturn, 1) := by decide +kernel
set_option maxRecDepth 100000 in
theorem dX11_shape_88 : decode prog_13_method_19_code 88 = .ok (.aload_n 0, 1) := by decide +kernel
set_option maxRecDepth 100000 in
theorem dX11_shape_89 : decode prog_13_method_19_code 89 = .ok (.iload 5, 2) := by decide +kernel
set_option maxRecDepth 100000 in
theorem dX11_shape_91 : decode prog_13_method_19_code 91 = .ok (.invokevirtual 183, 3) := by decide +kernel
set_option maxRecDepth 100000 in
theorem dX11_shape_94 : decode prog_13_method_19_code 94 = .ok (.aload_n 0, 1) := by decide +kernel
set_option maxRecDepth 100000 in
theorem dX11_shape_95 : decode prog_13_method_19_code 95 = .ok (.getfield 23, 3) := by decide +kernel
set_option maxRecDepth 100000 in
theorem dX11_shape_98 : decode prog_13_method_19_code 98 = .ok (.iload_n 2, 1) := by decide +kernel
set_option maxRecDepth 100000 in
theorem dX11_shape_99 : decode prog_13_method_19_code 99 = .ok (.iaload, 1) := by decide +kernel
set_option maxRecDepth 100000 in
theorem dX11_shape_100 : decode prog_13_method_19_code 100 = .ok (.ireturn, 1) := by decide +kernel
set_option maxRecDepth 100000 in
theorem dX11_shape_101 : decode prog_13_method_19_code 101 = .ok (.aload_n 0, 1) := by decide +kernel
set_option maxRecDepth 100000 in
theorem dX11_shape_102 : decode prog_13_method_19_code 102 = .ok (.iload 5, 2) := by decide +kernel
set_option maxRecDepth 100000 in
theorem dX11_shape_104 : decode prog_13_method_19_code 104 = .ok (.iload 6, 2) := by decide +kernel
set_option maxRecDepth 100000 in
theorem dX11_shape_106 : decode prog_13_method_19_code 106 = .ok (.invokevirtual 187, 3) := by decide +kernel
set_option maxRecDepth 100000 in
theorem dX11_shape_109 : decode prog_13_method_19_code 109 = .ok (.aload_n 0, 1) := by decide +kernel
set_option maxRecDepth 100000 in
theorem dX11_shape_110 : decode prog_13_method_19_code 110 = .ok (.getfield 118, 3) := by decide +kernel
set_option maxRecDepth 100000 in
theorem dX11_shape_113 : decode prog_13_method_19_code 113 = .ok (.bipush 6, 2) := by decide +kernel
set_option maxRecDepth 100000 in
theorem dX11_shape_115 : decode prog_13_method_19_code 115 = .ok (.if_icmp .le 7, 3) := by decide +kernel
set_option maxRecDepth 100000 in
theorem dX11_shape_118 : decode prog_13_method_19_code 118 = .ok (.iconst (-1), 1) := by decide +kernel
set_option maxRecDepth 100000 in
theorem dX11_shape_119 : decode prog_13_method_19_code 119 = .ok (.goto 9, 3) := by decide +kernel
set_option maxRecDepth 100000 in
theorem dX11_shape_122 : decode prog_13_method_19_code 122 = .ok (.aload_n 0, 1) := by decide +kernel
set_option maxRecDepth 100000 in
theorem dX11_shape_123 : decode prog_13_method_19_code 123 = .ok (.getfield 23, 3) := by decide +kernel
set_option maxRecDepth 100000 in
theorem dX11_shape_126 : decode prog_13_method_19_code 126 = .ok (.iload_n 2, 1) := by decide +kernel
set_option maxRecDepth 100000 in
theorem dX11_shape_127 : decode prog_13_method_19_code 127 = .ok (.iaload, 1) := by decide +kernel
set_option maxRecDepth 100000 in
theorem dX11_shape_128 : decode prog_13_method_19_code 128 = .ok (.ireturn, 1) := by decide +kernel
set_option maxRecDepth 100000 in
theorem dX11_shape_129 : decode prog_13_method_19_code 129 = .ok (.iconst 0, 1) := by decide +kernel
set_option maxRecDepth 100000 in
theorem dX11_shape_130 : decode prog_13_method_19_code 130 = .ok (.istore 8, 2) := by decide +kernel
set_option maxRecDepth 100000 in
theorem dX11_shape_132 : decode prog_13_method_19_code 132 = .ok (.iload 8, 2) := by decide +kernel
set_option maxRecDepth 100000 in
theorem dX11_shape_134 : decode prog_13_method_19_code 134 = .ok (.iload 7, 2) := by decide +kernel
set_option maxRecDepth 100000 in
theorem dX11_shape_136 : decode prog_13_method_19_code 136 = .ok (.if_icmp .ge 35, 3) := by decide +kernel
set_option maxRecDepth 100000 in
theorem dX11_shape_139 : decode prog_13_method_19_code 139 = .ok (.aload_n 0, 1) := by decide +kernel
set_option maxRecDepth 100000 in
theorem dX11_shape_140 : decode prog_13_method_19_code 140 = .ok (.getfield 72, 3) := by decide +kernel
set_option maxRecDepth 100000 in
theorem dX11_shape_143 : decode prog_13_method_19_code 143 = .ok (.iload 5, 2) := by decide +kernel
set_option maxRecDepth 100000 in
theorem dX11_shape_145 : decode prog_13_method_19_code 145 = .ok (.iload 7, 2) := by decide +kernel
set_option maxRecDepth 100000 in
theorem dX11_shape_147 : decode prog_13_method_19_code 147 = .ok (.iload 8, 2) := by decide +kernel
set_option maxRecDepth 100000 in
theorem dX11_shape_149 : decode prog_13_method_19_code 149 = .ok (.invokestatic 141, 3) := by decide +kernel
set_option maxRecDepth 100000 in
theorem dX11_shape_152 : decode prog_13_method_19_code 152 = .ok (.aload_n 0, 1) := by decide +kernel
set_option maxRecDepth 100000 in
theorem dX11_shape_153 : decode prog_13_method_19_code 153 = .ok (.getfield 20, 3) := by decide +kernel
set_option maxRecDepth 100000 in
theorem dX11_shape_156 : decode prog_13_method_19_code 156 = .ok (.bipush 6, 2) := by decide +kernel
set_option maxRecDepth 100000 in
theorem dX11_shape_158 : decode prog_13_method_19_code 158 = .ok (.iload_n 2, 1) := by decide +kernel
set_option maxRecDepth 100000 in
theorem dX11_shape_159 : decode prog_13_method_19_code 159 = .ok (.imul, 1) := by decide +kernel
set_option maxRecDepth 100000 in
theorem dX11_shape_160 : decode prog_13_method_19_code 160 = .ok (.iload 8, 2) := by decide +kernel
set_option maxRecDepth 100000 in
theorem dX11_shape_162 : decode prog_13_method_19_code 162 = .ok (.iadd, 1) := by decide +kernel
set_option maxRecDepth 100000 in
theorem dX11_shape_163 : decode prog_13_method_19_code 163 = .ok (.iaload, 1) := by decide +kernel
set_option maxRecDepth 100000 in
theorem dX11_shape_164 : decode prog_13_method_19_code 164 = .ok (.iastore, 1) := by decide +kernel
set_option maxRecDepth 100000 in
theorem dX11_shape_165 : decode prog_13_method_19_code 165 = .ok (.iinc 8 1, 3) := by decide +kernel
set_option maxRecDepth 100000 in
theorem dX11_shape_168 : decode prog_13_method_19_code 168 = .ok (.goto (-36), 3) := by decide +kernel
set_option maxRecDepth 100000 in
theorem dX11_shape_171 : decode prog_13_method_19_code 171 = .ok (.aload_n 0, 1) := by decide +kernel
set_option maxRecDepth 100000 in
theorem dX11_shape_172 : decode prog_13_method_19_code 172 = .ok (.getfield 23, 3) := by decide +kernel
set_option maxRecDepth 100000 in
theorem dX11_shape_175 : decode prog_13_method_19_code 175 = .ok (.iload_n 2, 1) := by decide +kernel
set_option maxRecDepth 100000 in
theorem dX11_shape_176 : decode prog_13_method_19_code 176 = .ok (.iaload, 1) := by decide +kernel
set_option maxRecDepth 100000 in
theorem dX11_shape_177 : decode prog_13_method_19_code 177 = .ok (.ireturn, 1) := by decide +kernel
set_option maxRecDepth 100000 in
theorem dX11_shape_178 : decode prog_13_method_19_code 178 = .ok (.aload_n 0, 1) := by decide +kernel
set_option maxRecDepth 100000 in
theorem dX11_shape_179 : decode prog_13_method_19_code 179 = .ok (.getfield 23, 3) := by decide +kernel
set_option maxRecDepth 100000 in
theorem dX11_shape_182 : decode prog_13_method_19_code 182 = .ok (.iload_n 3, 1) := by decide +kernel
set_option maxRecDepth 100000 in
theorem dX11_shape_183 : decode prog_13_method_19_code 183 = .ok (.iaload, 1) := by decide +kernel
set_option maxRecDepth 100000 in
theorem dX11_shape_184 : decode prog_13_method_19_code 184 = .ok (.iconst 4, 1) := by decide +kernel
set_option maxRecDepth 100000 in
theorem dX11_shape_185 : decode prog_13_method_19_code 185 = .ok (.if_icmp .ne 7, 3) := by decide +kernel
set_option maxRecDepth 100000 in
theorem dX11_shape_188 : decode prog_13_method_19_code 188 = .ok (.iconst 0, 1) := by decide +kernel
set_option maxRecDepth 100000 in
theorem dX11_shape_189 : decode prog_13_method_19_code 189 = .ok (.goto 4, 3) := by decide +kernel
set_option maxRecDepth 100000 in
theorem dX11_shape_192 : decode prog_13_method_19_code 192 = .ok (.iconst 1, 1) := by decide +kernel
set_option maxRecDepth 100000 in
theorem dX11_shape_193 : decode prog_13_method_19_code 193 = .ok (.istore 8, 2) := by decide +kernel
set_option maxRecDepth 100000 in
theorem dX11_shape_195 : decode prog_13_method_19_code 195 = .ok (.aload_n 0, 1) := by decide +kernel
set_option maxRecDepth 100000 in
theorem dX11_shape_196 : decode prog_13_method_19_code 196 = .ok (.iload_n 2, 1) := by decide +kernel
set_option maxRecDepth 100000 in
theorem dX11_shape_197 : decode prog_13_method_19_code 197 = .ok (.iload 8, 2) := by decide +kernel
set_option maxRecDepth 100000 in
theorem dX11_shape_199 : decode prog_13_method_19_code 199 = .ok (.invokevirtual 176, 3) := by decide +kernel
set_option maxRecDepth 100000 in
theorem dX11_shape_202 : decode prog_13_method_19_code 202 = .ok (.iload 7, 2) := by decide +kernel
set_option maxRecDepth 100000 in
theorem dX11_shape_204 : decode prog_13_method_19_code 204 = .ok (.iload 8, 2) := by decide +kernel
set_option maxRecDepth 100000 in
theorem dX11_shape_206 : decode prog_13_method_19_code 206 = .ok (.if_icmp .lt 39, 3) := by decide +kernel
set_option maxRecDepth 100000 in
theorem dX11_shape_209 : decode prog_13_method_19_code 209 = .ok (.iload 8, 2) := by decide +kernel
set_option maxRecDepth 100000 in
theorem dX11_shape_211 : decode prog_13_method_19_code 211 = .ok (.iconst 1, 1) := by decide +kernel
set_option maxRecDepth 100000 in
theorem dX11_shape_212 : decode prog_13_method_19_code 212 = .ok (.if_icmp .ne 21, 3) := by decide +kernel
set_option maxRecDepth 100000 in
theorem dX11_shape_215 : decode prog_13_method_19_code 215 = .ok (.aload_n 0, 1) := by decide +kernel
set_option maxRecDepth 100000 in
theorem dX11_shape_216 : decode prog_13_method_19_code 216 = .ok (.getfield 20, 3) := by decide +kernel
set_option maxRecDepth 100000 in
theorem dX11_shape_219 : decode prog_13_method_19_code 219 = .ok (.bipush 6, 2) := by decide +kernel
set_option maxRecDepth 100000 in
theorem dX11_shape_221 : decode prog_13_method_19_code 221 = .ok (.iload_n 2, 1) := by decide +kernel
set_option maxRecDepth 100000 in
theorem dX11_shape_222 : decode prog_13_method_19_code 222 = .ok (.imul, 1) := by decide +kernel
set_option maxRecDepth 100000 in
theorem dX11_shape_223 : decode prog_13_method_19_code 223 = .ok (.iaload, 1) := by decide +kernel
set_option maxRecDepth 100000 in
theorem dX11_shape_224 : decode prog_13_method_19_code 224 = .ok (.aload_n 0, 1) := by decide +kernel
set_option maxRecDepth 100000 in
theorem dX11_shape_225 : decode prog_13_method_19_code 225 = .ok (.getfield 23, 3) := by decide +kernel
set_option maxRecDepth 100000 in
theorem dX11_shape_228 : decode prog_13_method_19_code 228 = .ok (.iload_n 3, 1) := by decide +kernel
set_option maxRecDepth 100000 in
theorem dX11_shape_229 : decode prog_13_method_19_code 229 = .ok (.iaload, 1) := by decide +kernel
set_option maxRecDepth 100000 in
theorem dX11_shape_230 : decode prog_13_method_19_code 230 = .ok (.if_icmp .ne 15, 3) := by decide +kernel
set_option maxRecDepth 100000 in
theorem dX11_shape_233 : decode prog_13_method_19_code 233 = .ok (.aload_n 0, 1) := by decide +kernel
set_option maxRecDepth 100000 in
theorem dX11_shape_234 : decode prog_13_method_19_code 234 = .ok (.iload_n 3, 1) := by decide +kernel
set_option maxRecDepth 100000 in
theorem dX11_shape_235 : decode prog_13_method_19_code 235 = .ok (.iconst 0, 1) := by decide +kernel
set_option maxRecDepth 100000 in
theorem dX11_shape_236 : decode prog_13_method_19_code 236 = .ok (.iload_n 2, 1) := by decide +kernel
set_option maxRecDepth 100000 in
theorem dX11_shape_237 : decode prog_13_method_19_code 237 = .ok (.iload 8, 2) := by decide +kernel
set_option maxRecDepth 100000 in
theorem dX11_shape_239 : decode prog_13_method_19_code 239 = .ok (.invokevirtual 190, 3) := by decide +kernel
set_option maxRecDepth 100000 in
theorem dX11_shape_242 : decode prog_13_method_19_code 242 = .ok (.ifCond .ne 7, 3) := by decide +kernel
set_option maxRecDepth 100000 in
theorem dX11_shape_245 : decode prog_13_method_19_code 245 = .ok (.iconst (-1), 1) := by decide +kernel
set_option maxRecDepth 100000 in
theorem dX11_shape_246 : decode prog_13_method_19_code 246 = .ok (.goto 9, 3) := by decide +kernel
set_option maxRecDepth 100000 in
theorem dX11_shape_249 : decode prog_13_method_19_code 249 = .ok (.aload_n 0, 1) := by decide +kernel
set_option maxRecDepth 100000 in
theorem dX11_shape_250 : decode prog_13_method_19_code 250 = .ok (.getfield 23, 3) := by decide +kernel
set_option maxRecDepth 100000 in
theorem dX11_shape_253 : decode prog_13_method_19_code 253 = .ok (.iload_n 2, 1) := by decide +kernel
set_option maxRecDepth 100000 in
theorem dX11_shape_254 : decode prog_13_method_19_code 254 = .ok (.iaload, 1) := by decide +kernel
set_option maxRecDepth 100000 in
theorem dX11_shape_255 : decode prog_13_method_19_code 255 = .ok (.ireturn, 1) := by decide +kernel
set_option maxRecDepth 100000 in
theorem dX11_shape_256 : decode prog_13_method_19_code 256 = .ok (.aload_n 0, 1) := by decide +kernel
set_option maxRecDepth 100000 in
theorem dX11_shape_257 : decode prog_13_method_19_code 257 = .ok (.getfield 72, 3) := by decide +kernel
set_option maxRecDepth 100000 in
theorem dX11_shape_260 : decode prog_13_method_19_code 260 = .ok (.iload 5, 2) := by decide +kernel
set_option maxRecDepth 100000 in
theorem dX11_shape_262 : decode prog_13_method_19_code 262 = .ok (.aload_n 0, 1) := by decide +kernel
set_option maxRecDepth 100000 in
theorem dX11_shape_263 : decode prog_13_method_19_code 263 = .ok (.getfield 20, 3) := by decide +kernel
set_option maxRecDepth 100000 in
theorem dX11_shape_266 : decode prog_13_method_19_code 266 = .ok (.bipush 6, 2) := by decide +kernel
set_option maxRecDepth 100000 in
theorem dX11_shape_268 : decode prog_13_method_19_code 268 = .ok (.iload_n 3, 1) := by decide +kernel
set_option maxRecDepth 100000 in
theorem dX11_shape_269 : decode prog_13_method_19_code 269 = .ok (.imul, 1) := by decide +kernel
set_option maxRecDepth 100000 in
theorem dX11_shape_270 : decode prog_13_method_19_code 270 = .ok (.iaload, 1) := by decide +kernel
set_option maxRecDepth 100000 in
theorem dX11_shape_271 : decode prog_13_method_19_code 271 = .ok (.iastore, 1) := by decide +kernel
set_option maxRecDepth 100000 in
theorem dX11_shape_272 : decode prog_13_method_19_code 272 = .ok (.aload_n 0, 1) := by decide +kernel
set_option maxRecDepth 100000 in
theorem dX11_shape_273 : decode prog_13_method_19_code 273 = .ok (.getfield 17, 3) := by decide +kernel
set_option maxRecDepth 100000 in
theorem dX11_shape_276 : decode prog_13_method_19_code 276 = .ok (.iload_n 3, 1) := by decide +kernel
set_option maxRecDepth 100000 in
theorem dX11_shape_277 : decode prog_13_method_19_code 277 = .ok (.iaload, 1) := by decide +kernel
set_option maxRecDepth 100000 in
theorem dX11_shape_278 : decode prog_13_method_19_code 278 = .ok (.iconst 1, 1) := by decide +kernel
set_option maxRecDepth 100000 in
theorem dX11_shape_279 : decode prog_13_method_19_code 279 = .ok (.if_icmp .ne 24, 3) := by decide +kernel
set_option maxRecDepth 100000 in
theorem dX11_shape_282 : decode prog_13_method_19_code 282 = .ok (.aload_n 0, 1) := by decide +kernel
set_option maxRecDepth 100000 in
theorem dX11_shape_283 : decode prog_13_method_19_code 283 = .ok (.getfield 23, 3) := by decide +kernel
set_option maxRecDepth 100000 in
theorem dX11_shape_286 : decode prog_13_method_19_code 286 = .ok (.iload_n 3, 1) := by decide +kernel
set_option maxRecDepth 100000 in
theorem dX11_shape_287 : decode prog_13_method_19_code 287 = .ok (.iaload, 1) := by decide +kernel
set_option maxRecDepth 100000 in
theorem dX11_shape_288 : decode prog_13_method_19_code 288 = .ok (.aload_n 0, 1) := by decide +kernel
set_option maxRecDepth 100000 in
theorem dX11_shape_289 : decode prog_13_method_19_code 289 = .ok (.getfield 20, 3) := by decide +kernel
set_option maxRecDepth 100000 in
theorem dX11_shape_292 : decode prog_13_method_19_code 292 = .ok (.bipush 6, 2) := by decide +kernel
set_option maxRecDepth 100000 in
theorem dX11_shape_294 : decode prog_13_method_19_code 294 = .ok (.iload_n 2, 1) := by decide +kernel
set_option maxRecDepth 100000 in
theorem dX11_shape_295 : decode prog_13_method_19_code 295 = .ok (.imul, 1) := by decide +kernel
set_option maxRecDepth 100000 in
theorem dX11_shape_296 : decode prog_13_method_19_code 296 = .ok (.iload 5, 2) := by decide +kernel
set_option maxRecDepth 100000 in
theorem dX11_shape_298 : decode prog_13_method_19_code 298 = .ok (.iadd, 1) := by decide +kernel
set_option maxRecDepth 100000 in
theorem dX11_shape_299 : decode prog_13_method_19_code 299 = .ok (.iaload, 1) := by decide +kernel
set_option maxRecDepth 100000 in
theorem dX11_shape_300 : decode prog_13_method_19_code 300 = .ok (.if_icmp .eq 7, 3) := by decide +kernel
set_option maxRecDepth 100000 in
theorem dX11_shape_303 : decode prog_13_method_19_code 303 = .ok (.iconst (-1), 1) := by decide +kernel
set_option maxRecDepth 100000 in
theorem dX11_shape_304 : decode prog_13_method_19_code 304 = .ok (.goto 9, 3) := by decide +kernel
set_option maxRecDepth 100000 in
theorem dX11_shape_307 : decode prog_13_method_19_code 307 = .ok (.aload_n 0, 1) := by decide +kernel
set_option maxRecDepth 100000 in
theorem dX11_shape_308 : decode prog_13_method_19_code 308 = .ok (.getfield 23, 3) := by decide +kernel
set_option maxRecDepth 100000 in
theorem dX11_shape_311 : decode prog_13_method_19_code 311 = .ok (.iload_n 2, 1) := by decide +kernel
set_option maxRecDepth 100000 in
theorem dX11_shape_312 : decode prog_13_method_19_code 312 = .ok (.iaload, 1) := by decide +kernel
set_option maxRecDepth 100000 in
theorem dX11_shape_313 : decode prog_13_method_19_code 313 = .ok (.ireturn, 1) := by decide +kernel
set_option maxRecDepth 100000 in
theorem dX11_shape_314 : decode prog_13_method_19_code 314 = .ok (.aload_n 0, 1) := by decide +kernel
set_option maxRecDepth 100000 in
theorem dX11_shape_315 : decode prog_13_method_19_code 315 = .ok (.getfield 23, 3) := by decide +kernel
set_option maxRecDepth 100000 in
theorem dX11_shape_318 : decode prog_13_method_19_code 318 = .ok (.iload_n 2, 1) := by decide +kernel
set_option maxRecDepth 100000 in
theorem dX11_shape_319 : decode prog_13_method_19_code 319 = .ok (.iaload, 1) := by decide +kernel
set_option maxRecDepth 100000 in
theorem dX11_shape_320 : decode prog_13_method_19_code 320 = .ok (.iconst 4, 1) := by decide +kernel
set_option maxRecDepth 100000 in
theorem dX11_shape_321 : decode prog_13_method_19_code 321 = .ok (.if_icmp .ne 7, 3) := by decide +kernel
set_option maxRecDepth 100000 in
theorem dX11_shape_324 : decode prog_13_method_19_code 324 = .ok (.iconst 0, 1) := by decide +kernel
set_option maxRecDepth 100000 in
theorem dX11_shape_325 : decode prog_13_method_19_code 325 = .ok (.goto 4, 3) := by decide +kernel
set_option maxRecDepth 100000 in
theorem dX11_shape_328 : decode prog_13_method_19_code 328 = .ok (.iconst 1, 1) := by decide +kernel
set_option maxRecDepth 100000 in
theorem dX11_shape_329 : decode prog_13_method_19_code 329 = .ok (.istore 9, 2) := by decide +kernel
set_option maxRecDepth 100000 in
theorem dX11_shape_331 : decode prog_13_method_19_code 331 = .ok (.aload_n 0, 1) := by decide +kernel
set_option maxRecDepth 100000 in
theorem dX11_shape_332 : decode prog_13_method_19_code 332 = .ok (.getfield 17, 3) := by decide +kernel
set_option maxRecDepth 100000 in
theorem dX11_shape_335 : decode prog_13_method_19_code 335 = .ok (.iload_n 3, 1) := by decide +kernel
set_option maxRecDepth 100000 in
theorem dX11_shape_336 : decode prog_13_method_19_code 336 = .ok (.iaload, 1) := by decide +kernel
set_option maxRecDepth 100000 in
theorem dX11_shape_337 : decode prog_13_method_19_code 337 = .ok (.iload 9, 2) := by decide +kernel
set_option maxRecDepth 100000 in
theorem dX11_shape_339 : decode prog_13_method_19_code 339 = .ok (.if_icmp .ne 27, 3) := by decide +kernel
set_option maxRecDepth 100000 in
theorem dX11_shape_342 : decode prog_13_method_19_code 342 = .ok (.iload 9, 2) := by decide +kernel
set_option maxRecDepth 100000 in
theorem dX11_shape_344 : decode prog_13_method_19_code 344 = .ok (.iconst 1, 1) := by decide +kernel
set_option maxRecDepth 100000 in
theorem dX11_shape_345 : decode prog_13_method_19_code 345 = .ok (.if_icmp .ne 25, 3) := by decide +kernel
set_option maxRecDepth 100000 in
theorem dX11_shape_348 : decode prog_13_method_19_code 348 = .ok (.aload_n 0, 1) := by decide +kernel
set_option maxRecDepth 100000 in
theorem dX11_shape_349 : decode prog_13_method_19_code 349 = .ok (.getfield 20, 3) := by decide +kernel
set_option maxRecDepth 100000 in
theorem dX11_shape_352 : decode prog_13_method_19_code 352 = .ok (.bipush 6, 2) := by decide +kernel
set_option maxRecDepth 100000 in
theorem dX11_shape_354 : decode prog_13_method_19_code 354 = .ok (.iload_n 3, 1) := by decide +kernel
set_option maxRecDepth 100000 in
theorem dX11_shape_355 : decode prog_13_method_19_code 355 = .ok (.imul, 1) := by decide +kernel
set_option maxRecDepth 100000 in
theorem dX11_shape_356 : decode prog_13_method_19_code 356 = .ok (.iaload, 1) := by decide +kernel
set_option maxRecDepth 100000 in
theorem dX11_shape_357 : decode prog_13_method_19_code 357 = .ok (.aload_n 0, 1) := by decide +kernel
set_option maxRecDepth 100000 in
theorem dX11_shape_358 : decode prog_13_method_19_code 358 = .ok (.getfield 23, 3) := by decide +kernel
set_option maxRecDepth 100000 in
theorem dX11_shape_361 : decode prog_13_method_19_code 361 = .ok (.iload_n 2, 1) := by decide +kernel
set_option maxRecDepth 100000 in
theorem dX11_shape_362 : decode prog_13_method_19_code 362 = .ok (.iaload, 1) := by decide +kernel
set_option maxRecDepth 100000 in
theorem dX11_shape_363 : decode prog_13_method_19_code 363 = .ok (.if_icmp .eq 7, 3) := by decide +kernel
set_option maxRecDepth 100000 in
theorem dX11_shape_366 : decode prog_13_method_19_code 366 = .ok (.iconst (-1), 1) := by decide +kernel
set_option maxRecDepth 100000 in
theorem dX11_shape_367 : decode prog_13_method_19_code 367 = .ok (.goto 9, 3) := by decide +kernel
set_option maxRecDepth 100000 in
theorem dX11_shape_370 : decode prog_13_method_19_code 370 = .ok (.aload_n 0, 1) := by decide +kernel
set_option maxRecDepth 100000 in
theorem dX11_shape_371 : decode prog_13_method_19_code 371 = .ok (.getfield 23, 3) := by decide +kernel
set_option maxRecDepth 100000 in
theorem dX11_shape_374 : decode prog_13_method_19_code 374 = .ok (.iload_n 3, 1) := by decide +kernel
set_option maxRecDepth 100000 in
theorem dX11_shape_375 : decode prog_13_method_19_code 375 = .ok (.iaload, 1) := by decide +kernel
set_option maxRecDepth 100000 in
theorem dX11_shape_376 : decode prog_13_method_19_code 376 = .ok (.ireturn, 1) := by decide +kernel
set_option maxRecDepth 100000 in
theorem dX11_shape_377 : decode prog_13_method_19_code 377 = .ok (.aload_n 0, 1) := by decide +kernel
set_option maxRecDepth 100000 in
theorem dX11_shape_378 : decode prog_13_method_19_code 378 = .ok (.iload_n 3, 1) := by decide +kernel
set_option maxRecDepth 100000 in
theorem dX11_shape_379 : decode prog_13_method_19_code 379 = .ok (.iconst 0, 1) := by decide +kernel
set_option maxRecDepth 100000 in
theorem dX11_shape_380 : decode prog_13_method_19_code 380 = .ok (.invokevirtual 176, 3) := by decide +kernel
set_option maxRecDepth 100000 in
theorem dX11_shape_383 : decode prog_13_method_19_code 383 = .ok (.aload_n 0, 1) := by decide +kernel
set_option maxRecDepth 100000 in
theorem dX11_shape_384 : decode prog_13_method_19_code 384 = .ok (.getfield 23, 3) := by decide +kernel
set_option maxRecDepth 100000 in
theorem dX11_shape_387 : decode prog_13_method_19_code 387 = .ok (.iload_n 2, 1) := by decide +kernel
set_option maxRecDepth 100000 in
theorem dX11_shape_388 : decode prog_13_method_19_code 388 = .ok (.iaload, 1) := by decide +kernel
set_option maxRecDepth 100000 in
theorem dX11_shape_389 : decode prog_13_method_19_code 389 = .ok (.ifCond .ne 58, 3) := by decide +kernel
set_option maxRecDepth 100000 in
theorem dX11_shape_392 : decode prog_13_method_19_code 392 = .ok (.aload_n 0, 1) := by decide +kernel
set_option maxRecDepth 100000 in
theorem dX11_shape_393 : decode prog_13_method_19_code 393 = .ok (.iload_n 2, 1) := by decide +kernel
set_option maxRecDepth 100000 in
theorem dX11_shape_394 : decode prog_13_method_19_code 394 = .ok (.iconst 0, 1) := by decide +kernel
set_option maxRecDepth 100000 in
theorem dX11_shape_395 : decode prog_13_method_19_code 395 = .ok (.iload_n 3, 1) := by decide +kernel
set_option maxRecDepth 100000 in
theorem dX11_shape_396 : decode prog_13_method_19_code 396 = .ok (.iconst 0, 1) := by decide +kernel
set_option maxRecDepth 100000 in
theorem dX11_shape_397 : decode prog_13_method_19_code 397 = .ok (.invokevirtual 190, 3) := by decide +kernel
set_option maxRecDepth 100000 in
theorem dX11_shape_400 : decode prog_13_method_19_code 400 = .ok (.ifCond .eq 47, 3) := by decide +kernel
set_option maxRecDepth 100000 in
theorem dX11_shape_403 : decode prog_13_method_19_code 403 = .ok (.aload_n 0, 1) := by decide +kernel
set_option maxRecDepth 100000 in
theorem dX11_shape_404 : decode prog_13_method_19_code 404 = .ok (.getfield 17, 3) := by decide +kernel
set_option maxRecDepth 100000 in
theorem dX11_shape_407 : decode prog_13_method_19_code 407 = .ok (.iload_n 3, 1) := by decide +kernel
set_option maxRecDepth 100000 in
theorem dX11_shape_408 : decode prog_13_method_19_code 408 = .ok (.iaload, 1) := by decide +kernel
set_option maxRecDepth 100000 in
theorem dX11_shape_409 : decode prog_13_method_19_code 409 = .ok (.aload_n 0, 1) := by decide +kernel
set_option maxRecDepth 100000 in
theorem dX11_shape_410 : decode prog_13_method_19_code 410 = .ok (.getfield 17, 3) := by decide +kernel
set_option maxRecDepth 100000 in
theorem dX11_shape_413 : decode prog_13_method_19_code 413 = .ok (.iload 4, 2) := by decide +kernel
set_option maxRecDepth 100000 in
theorem dX11_shape_415 : decode prog_13_method_19_code 415 = .ok (.iaload, 1) := by decide +kernel
set_option maxRecDepth 100000 in
theorem dX11_shape_416 : decode prog_13_method_19_code 416 = .ok (.if_icmp .ne 31, 3) := by decide +kernel
set_option maxRecDepth 100000 in
theorem dX11_shape_419 : decode prog_13_method_19_code 419 = .ok (.aload_n 0, 1) := by decide +kernel
set_option maxRecDepth 100000 in
theorem dX11_shape_420 : decode prog_13_method_19_code 420 = .ok (.iload_n 3, 1) := by decide +kernel
set_option maxRecDepth 100000 in
theorem dX11_shape_421 : decode prog_13_method_19_code 421 = .ok (.iconst 0, 1) := by decide +kernel
set_option maxRecDepth 100000 in
theorem dX11_shape_422 : decode prog_13_method_19_code 422 = .ok (.iload 4, 2) := by decide +kernel
set_option maxRecDepth 100000 in
theorem dX11_shape_424 : decode prog_13_method_19_code 424 = .ok (.iconst 0, 1) := by decide +kernel
set_option maxRecDepth 100000 in
theorem dX11_shape_425 : decode prog_13_method_19_code 425 = .ok (.invokevirtual 190, 3) := by decide +kernel
set_option maxRecDepth 100000 in
theorem dX11_shape_428 : decode prog_13_method_19_code 428 = .ok (.ifCond .eq 19, 3) := by decide +kernel
set_option maxRecDepth 100000 in
theorem dX11_shape_431 : decode prog_13_method_19_code 431 = .ok (.aload_n 0, 1) := by decide +kernel
set_option maxRecDepth 100000 in
theorem dX11_shape_432 : decode prog_13_method_19_code 432 = .ok (.getfield 23, 3) := by decide +kernel
set_option maxRecDepth 100000 in
theorem dX11_shape_435 : decode prog_13_method_19_code 435 = .ok (.iload_n 3, 1) := by decide +kernel
set_option maxRecDepth 100000 in
theorem dX11_shape_436 : decode prog_13_method_19_code 436 = .ok (.iaload, 1) := by decide +kernel
set_option maxRecDepth 100000 in
theorem dX11_shape_437 : decode prog_13_method_19_code 437 = .ok (.aload_n 0, 1) := by decide +kernel
set_option maxRecDepth 100000 in
theorem dX11_shape_438 : decode prog_13_method_19_code 438 = .ok (.getfield 23, 3) := by decide +kernel
set_option maxRecDepth 100000 in
theorem dX11_shape_441 : decode prog_13_method_19_code 441 = .ok (.iload 4, 2) := by decide +kernel
set_option maxRecDepth 100000 in
theorem dX11_shape_443 : decode prog_13_method_19_code 443 = .ok (.iaload, 1) := by decide +kernel
set_option maxRecDepth 100000 in
theorem dX11_shape_444 : decode prog_13_method_19_code 444 = .ok (.if_icmp .eq 7, 3) := by decide +kernel
set_option maxRecDepth 100000 in
theorem dX11_shape_447 : decode prog_13_method_19_code 447 = .ok (.iconst (-1), 1) := by decide +kernel
set_option maxRecDepth 100000 in
theorem dX11_shape_448 : decode prog_13_method_19_code 448 = .ok (.goto 9, 3) := by decide +kernel
set_option maxRecDepth 100000 in
theorem dX11_shape_451 : decode prog_13_method_19_code 451 = .ok (.aload_n 0, 1) := by decide +kernel
set_option maxRecDepth 100000 in
theorem dX11_shape_452 : decode prog_13_method_19_code 452 = .ok (.getfield 23, 3) := by decide +kernel
set_option maxRecDepth 100000 in
theorem dX11_shape_455 : decode prog_13_method_19_code 455 = .ok (.iload_n 3, 1) := by decide +kernel
set_option maxRecDepth 100000 in
theorem dX11_shape_456 : decode prog_13_method_19_code 456 = .ok (.iaload, 1) := by decide +kernel
set_option maxRecDepth 100000 in
theorem dX11_shape_457 : decode prog_13_method_19_code 457 = .ok (.ireturn, 1) := by decide +kernel
set_option maxRecDepth 100000 in
theorem dX11_shape_458 : decode prog_13_method_19_code 458 = .ok (.aload_n 0, 1) := by decide +kernel
set_option maxRecDepth 100000 in
theorem dX11_shape_459 : decode prog_13_method_19_code 459 = .ok (.getfield 17, 3) := by decide +kernel
set_option maxRecDepth 100000 in
theorem dX11_shape_462 : decode prog_13_method_19_code 462 = .ok (.iload_n 3, 1) := by decide +kernel
set_option maxRecDepth 100000 in
theorem dX11_shape_463 : decode prog_13_method_19_code 463 = .ok (.iaload, 1) := by decide +kernel
set_option maxRecDepth 100000 in
theorem dX11_shape_464 : decode prog_13_method_19_code 464 = .ok (.iload 7, 2) := by decide +kernel
set_option maxRecDepth 100000 in
theorem dX11_shape_466 : decode prog_13_method_19_code 466 = .ok (.iconst 1, 1) := by decide +kernel
set_option maxRecDepth 100000 in
theorem dX11_shape_467 : decode prog_13_method_19_code 467 = .ok (.iadd, 1) := by decide +kernel
set_option maxRecDepth 100000 in
theorem dX11_shape_468 : decode prog_13_method_19_code 468 = .ok (.if_icmp .ne 30, 3) := by decide +kernel
set_option maxRecDepth 100000 in
theorem dX11_shape_471 : decode prog_13_method_19_code 471 = .ok (.aload_n 0, 1) := by decide +kernel
set_option maxRecDepth 100000 in
theorem dX11_shape_472 : decode prog_13_method_19_code 472 = .ok (.getfield 20, 3) := by decide +kernel
set_option maxRecDepth 100000 in
theorem dX11_shape_475 : decode prog_13_method_19_code 475 = .ok (.bipush 6, 2) := by decide +kernel
set_option maxRecDepth 100000 in
theorem dX11_shape_477 : decode prog_13_method_19_code 477 = .ok (.iload_n 3, 1) := by decide +kernel
set_option maxRecDepth 100000 in
theorem dX11_shape_478 : decode prog_13_method_19_code 478 = .ok (.imul, 1) := by decide +kernel
set_option maxRecDepth 100000 in
theorem dX11_shape_479 : decode prog_13_method_19_code 479 = .ok (.iaload, 1) := by decide +kernel
set_option maxRecDepth 100000 in
theorem dX11_shape_480 : decode prog_13_method_19_code 480 = .ok (.ifCond .ne 18, 3) := by decide +kernel
set_option maxRecDepth 100000 in
theorem dX11_shape_483 : decode prog_13_method_19_code 483 = .ok (.aload_n 0, 1) := by decide +kernel
set_option maxRecDepth 100000 in
theorem dX11_shape_484 : decode prog_13_method_19_code 484 = .ok (.iload_n 3, 1) := by decide +kernel
set_option maxRecDepth 100000 in
theorem dX11_shape_485 : decode prog_13_method_19_code 485 = .ok (.iconst 1, 1) := by decide +kernel
set_option maxRecDepth 100000 in
theorem dX11_shape_486 : decode prog_13_method_19_code 486 = .ok (.iload_n 2, 1) := by decide +kernel
set_option maxRecDepth 100000 in
theorem dX11_shape_487 : decode prog_13_method_19_code 487 = .ok (.iconst 0, 1) := by decide +kernel
set_option maxRecDepth 100000 in
theorem dX11_shape_488 : decode prog_13_method_19_code 488 = .ok (.invokevirtual 190, 3) := by decide +kernel
set_option maxRecDepth 100000 in
theorem dX11_shape_491 : decode prog_13_method_19_code 491 = .ok (.ifCond .eq 7, 3) := by decide +kernel
set_option maxRecDepth 100000 in
theorem dX11_shape_494 : decode prog_13_method_19_code 494 = .ok (.iconst 1, 1) := by decide +kernel
set_option maxRecDepth 100000 in
theorem dX11_shape_495 : decode prog_13_method_19_code 495 = .ok (.goto 4, 3) := by decide +kernel
set_option maxRecDepth 100000 in
theorem dX11_shape_498 : decode prog_13_method_19_code 498 = .ok (.iconst 0, 1) := by decide +kernel
set_option maxRecDepth 100000 in
theorem dX11_shape_499 : decode prog_13_method_19_code 499 = .ok (.istore 10, 2) := by decide +kernel
set_option maxRecDepth 100000 in
theorem dX11_shape_501 : decode prog_13_method_19_code 501 = .ok (.iload 10, 2) := by decide +kernel
set_option maxRecDepth 100000 in
theorem dX11_shape_503 : decode prog_13_method_19_code 503 = .ok (.ifCond .eq 37, 3) := by decide +kernel
set_option maxRecDepth 100000 in
theorem dX11_shape_506 : decode prog_13_method_19_code 506 = .ok (.aload_n 0, 1) := by decide +kernel
set_option maxRecDepth 100000 in
theorem dX11_shape_507 : decode prog_13_method_19_code 507 = .ok (.getfield 23, 3) := by decide +kernel
set_option maxRecDepth 100000 in
theorem dX11_shape_510 : decode prog_13_method_19_code 510 = .ok (.iload_n 3, 1) := by decide +kernel
set_option maxRecDepth 100000 in
theorem dX11_shape_511 : decode prog_13_method_19_code 511 = .ok (.iaload, 1) := by decide +kernel
set_option maxRecDepth 100000 in
theorem dX11_shape_512 : decode prog_13_method_19_code 512 = .ok (.iload_n 1, 1) := by decide +kernel
set_option maxRecDepth 100000 in
theorem dX11_shape_513 : decode prog_13_method_19_code 513 = .ok (.bipush 8, 2) := by decide +kernel
set_option maxRecDepth 100000 in
theorem dX11_shape_515 : decode prog_13_method_19_code 515 = .ok (.if_icmp .ne 7, 3) := by decide +kernel
set_option maxRecDepth 100000 in
theorem dX11_shape_518 : decode prog_13_method_19_code 518 = .ok (.iconst 4, 1) := by decide +kernel
set_option maxRecDepth 100000 in
theorem dX11_shape_519 : decode prog_13_method_19_code 519 = .ok (.goto 9, 3) := by decide +kernel
set_option maxRecDepth 100000 in
theorem dX11_shape_522 : decode prog_13_method_19_code 522 = .ok (.aload_n 0, 1) := by decide +kernel
set_option maxRecDepth 100000 in
theorem dX11_shape_523 : decode prog_13_method_19_code 523 = .ok (.getfield 23, 3) := by decide +kernel
set_option maxRecDepth 100000 in
theorem dX11_shape_526 : decode prog_13_method_19_code 526 = .ok (.iload_n 2, 1) := by decide +kernel
set_option maxRecDepth 100000 in
theorem dX11_shape_527 : decode prog_13_method_19_code 527 = .ok (.iaload, 1) := by decide +kernel
set_option maxRecDepth 100000 in
theorem dX11_shape_528 : decode prog_13_method_19_code 528 = .ok (.if_icmp .ne 12, 3) := by decide +kernel
set_option maxRecDepth 100000 in
theorem dX11_shape_531 : decode prog_13_method_19_code 531 = .ok (.aload_n 0, 1) := by decide +kernel
set_option maxRecDepth 100000 in
theorem dX11_shape_532 : decode prog_13_method_19_code 532 = .ok (.getfield 23, 3) := by decide +kernel
set_option maxRecDepth 100000 in
theorem dX11_shape_535 : decode prog_13_method_19_code 535 = .ok (.iload_n 2, 1) := by decide +kernel
set_option maxRecDepth 100000 in
theorem dX11_shape_536 : decode prog_13_method_19_code 536 = .ok (.iaload, 1) := by decide +kernel
set_option maxRecDepth 100000 in
theorem dX11_shape_537 : decode prog_13_method_19_code 537 = .ok (.goto 4, 3) := by decide +kernel
set_option maxRecDepth 100000 in
theorem dX11_shape_540 : decode prog_13_method_19_code 540 = .ok (.iconst (-1), 1) := by decide +kernel
set_option maxRecDepth 100000 in
theorem dX11_shape_541 : decode prog_13_method_19_code 541 = .ok (.ireturn, 1) := by decide +kernel
set_option maxRecDepth 100000 in
theorem dX11_shape_542 : decode prog_13_method_19_code 542 = .ok (.aload_n 0, 1) := by decide +kernel
set_option maxRecDepth 100000 in
theorem dX11_shape_543 : decode prog_13_method_19_code 543 = .ok (.getfield 23, 3) := by decide +kernel
set_option maxRecDepth 100000 in
theorem dX11_shape_546 : decode prog_13_method_19_code 546 = .ok (.iload 4, 2) := by decide +kernel
set_option maxRecDepth 100000 in
theorem dX11_shape_548 : decode prog_13_method_19_code 548 = .ok (.iaload, 1) := by decide +kernel
set_option maxRecDepth 100000 in
theorem dX11_shape_549 : decode prog_13_method_19_code 549 = .ok (.istore 11, 2) := by decide +kernel
set_option maxRecDepth 100000 in
theorem dX11_shape_551 : decode prog_13_method_19_code 551 = .ok (.iload 7, 2) := by decide +kernel
set_option maxRecDepth 100000 in
theorem dX11_shape_553 : decode prog_13_method_19_code 553 = .ok (.ifCond .ne 81, 3) := by decide +kernel
set_option maxRecDepth 100000 in
theorem dX11_shape_556 : decode prog_13_method_19_code 556 = .ok (.aload_n 0, 1) := by decide +kernel
set_option maxRecDepth 100000 in
theorem dX11_shape_557 : decode prog_13_method_19_code 557 = .ok (.getfield 23, 3) := by decide +kernel
set_option maxRecDepth 100000 in
theorem dX11_shape_560 : decode prog_13_method_19_code 560 = .ok (.iload_n 2, 1) := by decide +kernel
set_option maxRecDepth 100000 in
theorem dX11_shape_561 : decode prog_13_method_19_code 561 = .ok (.iaload, 1) := by decide +kernel
set_option maxRecDepth 100000 in
theorem dX11_shape_562 : decode prog_13_method_19_code 562 = .ok (.ifCond .ne 72, 3) := by decide +kernel
set_option maxRecDepth 100000 in
theorem dX11_shape_565 : decode prog_13_method_19_code 565 = .ok (.aload_n 0, 1) := by decide +kernel
set_option maxRecDepth 100000 in
theorem dX11_shape_566 : decode prog_13_method_19_code 566 = .ok (.getfield 17, 3) := by decide +kernel
set_option maxRecDepth 100000 in
theorem dX11_shape_569 : decode prog_13_method_19_code 569 = .ok (.iload 4, 2) := by decide +kernel
set_option maxRecDepth 100000 in
theorem dX11_shape_571 : decode prog_13_method_19_code 571 = .ok (.iaload, 1) := by decide +kernel
set_option maxRecDepth 100000 in
theorem dX11_shape_572 : decode prog_13_method_19_code 572 = .ok (.ifCond .ne 62, 3) := by decide +kernel
set_option maxRecDepth 100000 in
theorem dX11_shape_575 : decode prog_13_method_19_code 575 = .ok (.iload 11, 2) := by decide +kernel
set_option maxRecDepth 100000 in
theorem dX11_shape_577 : decode prog_13_method_19_code 577 = .ok (.iconst 4, 1) := by decide +kernel
set_option maxRecDepth 100000 in
theorem dX11_shape_578 : decode prog_13_method_19_code 578 = .ok (.if_icmp .eq 56, 3) := by decide +kernel
set_option maxRecDepth 100000 in
theorem dX11_shape_581 : decode prog_13_method_19_code 581 = .ok (.aload_n 0, 1) := by decide +kernel
set_option maxRecDepth 100000 in
theorem dX11_shape_582 : decode prog_13_method_19_code 582 = .ok (.getfield 17, 3) := by decide +kernel
set_option maxRecDepth 100000 in
theorem dX11_shape_585 : decode prog_13_method_19_code 585 = .ok (.iload_n 3, 1) := by decide +kernel
set_option maxRecDepth 100000 in
theorem dX11_shape_586 : decode prog_13_method_19_code 586 = .ok (.iaload, 1) := by decide +kernel
set_option maxRecDepth 100000 in
theorem dX11_shape_587 : decode prog_13_method_19_code 587 = .ok (.iconst 2, 1) := by decide +kernel
set_option maxRecDepth 100000 in
theorem dX11_shape_588 : decode prog_13_method_19_code 588 = .ok (.if_icmp .ne 46, 3) := by decide +kernel
set_option maxRecDepth 100000 in
theorem dX11_shape_591 : decode prog_13_method_19_code 591 = .ok (.aload_n 0, 1) := by decide +kernel
set_option maxRecDepth 100000 in
theorem dX11_shape_592 : decode prog_13_method_19_code 592 = .ok (.getfield 20, 3) := by decide +kernel
set_option maxRecDepth 100000 in
theorem dX11_shape_595 : decode prog_13_method_19_code 595 = .ok (.bipush 6, 2) := by decide +kernel
set_option maxRecDepth 100000 in
theorem dX11_shape_597 : decode prog_13_method_19_code 597 = .ok (.iload_n 3, 1) := by decide +kernel
set_option maxRecDepth 100000 in
theorem dX11_shape_598 : decode prog_13_method_19_code 598 = .ok (.imul, 1) := by decide +kernel
set_option maxRecDepth 100000 in
theorem dX11_shape_599 : decode prog_13_method_19_code 599 = .ok (.iaload, 1) := by decide +kernel
set_option maxRecDepth 100000 in
theorem dX11_shape_600 : decode prog_13_method_19_code 600 = .ok (.iload 11, 2) := by decide +kernel
set_option maxRecDepth 100000 in
theorem dX11_shape_602 : decode prog_13_method_19_code 602 = .ok (.if_icmp .ne 32, 3) := by decide +kernel
set_option maxRecDepth 100000 in
theorem dX11_shape_605 : decode prog_13_method_19_code 605 = .ok (.aload_n 0, 1) := by decide +kernel
set_option maxRecDepth 100000 in
theorem dX11_shape_606 : decode prog_13_method_19_code 606 = .ok (.getfield 20, 3) := by decide +kernel
set_option maxRecDepth 100000 in
theorem dX11_shape_609 : decode prog_13_method_19_code 609 = .ok (.bipush 6, 2) := by decide +kernel
set_option maxRecDepth 100000 in
theorem dX11_shape_611 : decode prog_13_method_19_code 611 = .ok (.iload_n 3, 1) := by decide +kernel
set_option maxRecDepth 100000 in
theorem dX11_shape_612 : decode prog_13_method_19_code 612 = .ok (.imul, 1) := by decide +kernel
set_option maxRecDepth 100000 in
theorem dX11_shape_613 : decode prog_13_method_19_code 613 = .ok (.iconst 1, 1) := by decide +kernel
set_option maxRecDepth 100000 in
theorem dX11_shape_614 : decode prog_13_method_19_code 614 = .ok (.iadd, 1) := by decide +kernel
set_option maxRecDepth 100000 in
theorem dX11_shape_615 : decode prog_13_method_19_code 615 = .ok (.iaload, 1) := by decide +kernel
set_option maxRecDepth 100000 in
theorem dX11_shape_616 : decode prog_13_method_19_code 616 = .ok (.ifCond .ne 18, 3) := by decide +kernel
set_option maxRecDepth 100000 in
theorem dX11_shape_619 : decode prog_13_method_19_code 619 = .ok (.aload_n 0, 1) := by decide +kernel
set_option maxRecDepth 100000 in
theorem dX11_shape_620 : decode prog_13_method_19_code 620 = .ok (.getfield 23, 3) := by decide +kernel
set_option maxRecDepth 100000 in
theorem dX11_shape_623 : decode prog_13_method_19_code 623 = .ok (.iload_n 3, 1) := by decide +kernel
set_option maxRecDepth 100000 in
theorem dX11_shape_624 : decode prog_13_method_19_code 624 = .ok (.iaload, 1) := by decide +kernel
set_option maxRecDepth 100000 in
theorem dX11_shape_625 : decode prog_13_method_19_code 625 = .ok (.iload 11, 2) := by decide +kernel
set_option maxRecDepth 100000 in
theorem dX11_shape_627 : decode prog_13_method_19_code 627 = .ok (.if_icmp .ne 7, 3) := by decide +kernel
set_option maxRecDepth 100000 in
theorem dX11_shape_630 : decode prog_13_method_19_code 630 = .ok (.iconst 1, 1) := by decide +kernel
set_option maxRecDepth 100000 in
theorem dX11_shape_631 : decode prog_13_method_19_code 631 = .ok (.goto 4, 3) := by decide +kernel
set_option maxRecDepth 100000 in
theorem dX11_shape_634 : decode prog_13_method_19_code 634 = .ok (.iconst 0, 1) := by decide +kernel
set_option maxRecDepth 100000 in
theorem dX11_shape_635 : decode prog_13_method_19_code 635 = .ok (.istore 12, 2) := by decide +kernel
set_option maxRecDepth 100000 in
theorem dX11_shape_637 : decode prog_13_method_19_code 637 = .ok (.iload 12, 2) := by decide +kernel
set_option maxRecDepth 100000 in
theorem dX11_shape_639 : decode prog_13_method_19_code 639 = .ok (.ifCond .eq 8, 3) := by decide +kernel
set_option maxRecDepth 100000 in
theorem dX11_shape_642 : decode prog_13_method_19_code 642 = .ok (.iload 11, 2) := by decide +kernel
set_option maxRecDepth 100000 in
theorem dX11_shape_644 : decode prog_13_method_19_code 644 = .ok (.goto 4, 3) := by decide +kernel
set_option maxRecDepth 100000 in
theorem dX11_shape_647 : decode prog_13_method_19_code 647 = .ok (.iconst (-1), 1) := by decide +kernel
set_option maxRecDepth 100000 in
theorem dX11_shape_648 : decode prog_13_method_19_code 648 = .ok (.ireturn, 1) := by decide +kernel
set_option maxRecDepth 100000 in
theorem dX11_shape_649 : decode prog_13_method_19_code 649 = .ok (.iload 7, 2) := by decide +kernel
set_option maxRecDepth 100000 in
theorem dX11_shape_651 : decode prog_13_method_19_code 651 = .ok (.iload 5, 2) := by decide +kernel
set_option maxRecDepth 100000 in
theorem dX11_shape_653 : decode prog_13_method_19_code 653 = .ok (.if_icmp .lt 7, 3) := by decide +kernel
set_option maxRecDepth 100000 in
theorem dX11_shape_656 : decode prog_13_method_19_code 656 = .ok (.iconst 1, 1) := by decide +kernel
set_option maxRecDepth 100000 in
theorem dX11_shape_657 : decode prog_13_method_19_code 657 = .ok (.goto 4, 3) := by decide +kernel
set_option maxRecDepth 100000 in
theorem dX11_shape_660 : decode prog_13_method_19_code 660 = .ok (.iconst 0, 1) := by decide +kernel
set_option maxRecDepth 100000 in
theorem dX11_shape_661 : decode prog_13_method_19_code 661 = .ok (.istore 13, 2) := by decide +kernel
set_option maxRecDepth 100000 in
theorem dX11_shape_663 : decode prog_13_method_19_code 663 = .ok (.iload 7, 2) := by decide +kernel
set_option maxRecDepth 100000 in
theorem dX11_shape_665 : decode prog_13_method_19_code 665 = .ok (.iload 5, 2) := by decide +kernel
set_option maxRecDepth 100000 in
theorem dX11_shape_667 : decode prog_13_method_19_code 667 = .ok (.isub, 1) := by decide +kernel
set_option maxRecDepth 100000 in
theorem dX11_shape_668 : decode prog_13_method_19_code 668 = .ok (.istore 14, 2) := by decide +kernel
set_option maxRecDepth 100000 in
theorem dX11_shape_670 : decode prog_13_method_19_code 670 = .ok (.iload 14, 2) := by decide +kernel
set_option maxRecDepth 100000 in
theorem dX11_shape_672 : decode prog_13_method_19_code 672 = .ok (.iload 7, 2) := by decide +kernel
set_option maxRecDepth 100000 in
theorem dX11_shape_674 : decode prog_13_method_19_code 674 = .ok (.if_icmp .ge 36, 3) := by decide +kernel
set_option maxRecDepth 100000 in
theorem dX11_shape_677 : decode prog_13_method_19_code 677 = .ok (.iload 13, 2) := by decide +kernel
set_option maxRecDepth 100000 in
theorem dX11_shape_679 : decode prog_13_method_19_code 679 = .ok (.ifCond .eq 31, 3) := by decide +kernel
set_option maxRecDepth 100000 in
theorem dX11_shape_682 : decode prog_13_method_19_code 682 = .ok (.aload_n 0, 1) := by decide +kernel
set_option maxRecDepth 100000 in
theorem dX11_shape_683 : decode prog_13_method_19_code 683 = .ok (.getfield 20, 3) := by decide +kernel
set_option maxRecDepth 100000 in
theorem dX11_shape_686 : decode prog_13_method_19_code 686 = .ok (.bipush 6, 2) := by decide +kernel
set_option maxRecDepth 100000 in
theorem dX11_shape_688 : decode prog_13_method_19_code 688 = .ok (.iload_n 2, 1) := by decide +kernel
set_option maxRecDepth 100000 in
theorem dX11_shape_689 : decode prog_13_method_19_code 689 = .ok (.imul, 1) := by decide +kernel
set_option maxRecDepth 100000 in
theorem dX11_shape_690 : decode prog_13_method_19_code 690 = .ok (.iload 14, 2) := by decide +kernel
set_option maxRecDepth 100000 in
theorem dX11_shape_692 : decode prog_13_method_19_code 692 = .ok (.iadd, 1) := by decide +kernel
set_option maxRecDepth 100000 in
theorem dX11_shape_693 : decode prog_13_method_19_code 693 = .ok (.iaload, 1) := by decide +kernel
set_option maxRecDepth 100000 in
theorem dX11_shape_694 : decode prog_13_method_19_code 694 = .ok (.ifCond .ne 7, 3) := by decide +kernel
set_option maxRecDepth 100000 in
theorem dX11_shape_697 : decode prog_13_method_19_code 697 = .ok (.iconst 1, 1) := by decide +kernel
set_option maxRecDepth 100000 in
theorem dX11_shape_698 : decode prog_13_method_19_code 698 = .ok (.goto 4, 3) := by decide +kernel
set_option maxRecDepth 100000 in
theorem dX11_shape_701 : decode prog_13_method_19_code 701 = .ok (.iconst 0, 1) := by decide +kernel
set_option maxRecDepth 100000 in
theorem dX11_shape_702 : decode prog_13_method_19_code 702 = .ok (.istore 13, 2) := by decide +kernel
set_option maxRecDepth 100000 in
theorem dX11_shape_704 : decode prog_13_method_19_code 704 = .ok (.iinc 14 1, 3) := by decide +kernel
set_option maxRecDepth 100000 in
theorem dX11_shape_707 : decode prog_13_method_19_code 707 = .ok (.goto (-37), 3) := by decide +kernel
set_option maxRecDepth 100000 in
theorem dX11_shape_710 : decode prog_13_method_19_code 710 = .ok (.iload 13, 2) := by decide +kernel
set_option maxRecDepth 100000 in
theorem dX11_shape_712 : decode prog_13_method_19_code 712 = .ok (.ifCond .ne 5, 3) := by decide +kernel
set_option maxRecDepth 100000 in
theorem dX11_shape_715 : decode prog_13_method_19_code 715 = .ok (.iconst (-1), 1) := by decide +kernel
set_option maxRecDepth 100000 in
theorem dX11_shape_716 : decode prog_13_method_19_code 716 = .ok (.ireturn, 1) := by decide +kernel
set_option maxRecDepth 100000 in
theorem dX11_shape_717 : decode prog_13_method_19_code 717 = .ok (.aload_n 0, 1) := by decide +kernel
set_option maxRecDepth 100000 in
theorem dX11_shape_718 : decode prog_13_method_19_code 718 = .ok (.iload 7, 2) := by decide +kernel
set_option maxRecDepth 100000 in
theorem dX11_shape_720 : decode prog_13_method_19_code 720 = .ok (.iload 5, 2) := by decide +kernel
set_option maxRecDepth 100000 in
theorem dX11_shape_722 : decode prog_13_method_19_code 722 = .ok (.isub, 1) := by decide +kernel
set_option maxRecDepth 100000 in
theorem dX11_shape_723 : decode prog_13_method_19_code 723 = .ok (.putfield 118, 3) := by decide +kernel
set_option maxRecDepth 100000 in
theorem dX11_shape_726 : decode prog_13_method_19_code 726 = .ok (.aload_n 0, 1) := by decide +kernel
set_option maxRecDepth 100000 in
theorem dX11_shape_727 : decode prog_13_method_19_code 727 = .ok (.aload_n 0, 1) := by decide +kernel
set_option maxRecDepth 100000 in
theorem dX11_shape_728 : decode prog_13_method_19_code 728 = .ok (.getfield 118, 3) := by decide +kernel
set_option maxRecDepth 100000 in
theorem dX11_shape_731 : decode prog_13_method_19_code 731 = .ok (.iconst 3, 1) := by decide +kernel
set_option maxRecDepth 100000 in
theorem dX11_shape_732 : decode prog_13_method_19_code 732 = .ok (.invokevirtual 187, 3) := by decide +kernel
set_option maxRecDepth 100000 in
theorem dX11_shape_735 : decode prog_13_method_19_code 735 = .ok (.aload_n 0, 1) := by decide +kernel
set_option maxRecDepth 100000 in
theorem dX11_shape_736 : decode prog_13_method_19_code 736 = .ok (.getfield 23, 3) := by decide +kernel
set_option maxRecDepth 100000 in
theorem dX11_shape_739 : decode prog_13_method_19_code 739 = .ok (.iload_n 2, 1) := by decide +kernel
set_option maxRecDepth 100000 in
theorem dX11_shape_740 : decode prog_13_method_19_code 740 = .ok (.iaload, 1) := by decide +kernel
set_option maxRecDepth 100000 in
theorem dX11_shape_741 : decode prog_13_method_19_code 741 = .ok (.ireturn, 1) := by decide +kernel
set_option maxRecDepth 100000 in
theorem dX11_shape_742 : decode prog_13_method_19_code 742 = .ok (.iload 7, 2) := by decide +kernel
set_option maxRecDepth 100000 in
theorem dX11_shape_744 : decode prog_13_method_19_code 744 = .ok (.ifCond .eq 33, 3) := by decide +kernel
set_option maxRecDepth 100000 in
theorem dX11_shape_747 : decode prog_13_method_19_code 747 = .ok (.aload_n 0, 1) := by decide +kernel
set_option maxRecDepth 100000 in
theorem dX11_shape_748 : decode prog_13_method_19_code 748 = .ok (.getfield 20, 3) := by decide +kernel
set_option maxRecDepth 100000 in
theorem dX11_shape_751 : decode prog_13_method_19_code 751 = .ok (.bipush 6, 2) := by decide +kernel
set_option maxRecDepth 100000 in
theorem dX11_shape_753 : decode prog_13_method_19_code 753 = .ok (.iload_n 2, 1) := by decide +kernel
set_option maxRecDepth 100000 in
theorem dX11_shape_754 : decode prog_13_method_19_code 754 = .ok (.imul, 1) := by decide +kernel
set_option maxRecDepth 100000 in
theorem dX11_shape_755 : decode prog_13_method_19_code 755 = .ok (.iload 7, 2) := by decide +kernel
set_option maxRecDepth 100000 in
theorem dX11_shape_757 : decode prog_13_method_19_code 757 = .ok (.iadd, 1) := by decide +kernel
set_option maxRecDepth 100000 in
theorem dX11_shape_758 : decode prog_13_method_19_code 758 = .ok (.iconst 1, 1) := by decide +kernel
set_option maxRecDepth 100000 in
theorem dX11_shape_759 : decode prog_13_method_19_code 759 = .ok (.isub, 1) := by decide +kernel
set_option maxRecDepth 100000 in
theorem dX11_shape_760 : decode prog_13_method_19_code 760 = .ok (.iaload, 1) := by decide +kernel
set_option maxRecDepth 100000 in
theorem dX11_shape_761 : decode prog_13_method_19_code 761 = .ok (.iconst 3, 1) := by decide +kernel
set_option maxRecDepth 100000 in
theorem dX11_shape_762 : decode prog_13_method_19_code 762 = .ok (.if_icmp .ne 15, 3) := by decide +kernel
set_option maxRecDepth 100000 in
theorem dX11_shape_765 : decode prog_13_method_19_code 765 = .ok (.iload 7, 2) := by decide +kernel
set_option maxRecDepth 100000 in
theorem dX11_shape_767 : decode prog_13_method_19_code 767 = .ok (.iconst 1, 1) := by decide +kernel
set_option maxRecDepth 100000 in
theorem dX11_shape_768 : decode prog_13_method_19_code 768 = .ok (.isub, 1) := by decide +kernel
set_option maxRecDepth 100000 in
theorem dX11_shape_769 : decode prog_13_method_19_code 769 = .ok (.iload 5, 2) := by decide +kernel
set_option maxRecDepth 100000 in
theorem dX11_shape_771 : decode prog_13_method_19_code 771 = .ok (.iadd, 1) := by decide +kernel
set_option maxRecDepth 100000 in
theorem dX11_shape_772 : decode prog_13_method_19_code 772 = .ok (.bipush 6, 2) := by decide +kernel
set_option maxRecDepth 100000 in
theorem dX11_shape_774 : decode prog_13_method_19_code 774 = .ok (.if_icmp .le 5, 3) := by decide +kernel
set_option maxRecDepth 100000 in
theorem dX11_shape_777 : decode prog_13_method_19_code 777 = .ok (.iconst (-1), 1) := by decide +kernel
set_option maxRecDepth 100000 in
theorem dX11_shape_778 : decode prog_13_method_19_code 778 = .ok (.ireturn, 1) := by decide +kernel
set_option maxRecDepth 100000 in
theorem dX11_shape_779 : decode prog_13_method_19_code 779 = .ok (.aload_n 0, 1) := by decide +kernel
set_option maxRecDepth 100000 in
theorem dX11_shape_780 : decode prog_13_method_19_code 780 = .ok (.iload 7, 2) := by decide +kernel
set_option maxRecDepth 100000 in
theorem dX11_shape_782 : decode prog_13_method_19_code 782 = .ok (.iconst 1, 1) := by decide +kernel
set_option maxRecDepth 100000 in
theorem dX11_shape_783 : decode prog_13_method_19_code 783 = .ok (.isub, 1) := by decide +kernel
set_option maxRecDepth 100000 in
theorem dX11_shape_784 : decode prog_13_method_19_code 784 = .ok (.putfield 118, 3) := by decide +kernel
set_option maxRecDepth 100000 in
theorem dX11_shape_787 : decode prog_13_method_19_code 787 = .ok (.iconst 0, 1) := by decide +kernel
set_option maxRecDepth 100000 in
theorem dX11_shape_788 : decode prog_13_method_19_code 788 = .ok (.istore 14, 2) := by decide +kernel
set_option maxRecDepth 100000 in
theorem dX11_shape_790 : decode prog_13_method_19_code 790 = .ok (.iload 14, 2) := by decide +kernel
set_option maxRecDepth 100000 in
theorem dX11_shape_792 : decode prog_13_method_19_code 792 = .ok (.iload 5, 2) := by decide +kernel
set_option maxRecDepth 100000 in
theorem dX11_shape_794 : decode prog_13_method_19_code 794 = .ok (.if_icmp .ge 18, 3) := by decide +kernel
set_option maxRecDepth 100000 in
theorem dX11_shape_797 : decode prog_13_method_19_code 797 = .ok (.aload_n 0, 1) := by decide +kernel
set_option maxRecDepth 100000 in
theorem dX11_shape_798 : decode prog_13_method_19_code 798 = .ok (.aload_n 0, 1) := by decide +kernel
set_option maxRecDepth 100000 in
theorem dX11_shape_799 : decode prog_13_method_19_code 799 = .ok (.getfield 118, 3) := by decide +kernel
set_option maxRecDepth 100000 in
theorem dX11_shape_802 : decode prog_13_method_19_code 802 = .ok (.iconst 0, 1) := by decide +kernel
set_option maxRecDepth 100000 in
theorem dX11_shape_803 : decode prog_13_method_19_code 803 = .ok (.invokevirtual 187, 3) := by decide +kernel
set_option maxRecDepth 100000 in
theorem dX11_shape_806 : decode prog_13_method_19_code 806 = .ok (.iinc 14 1, 3) := by decide +kernel
set_option maxRecDepth 100000 in
theorem dX11_shape_809 : decode prog_13_method_19_code 809 = .ok (.goto (-19), 3) := by decide +kernel
set_option maxRecDepth 100000 in
theorem dX11_shape_812 : decode prog_13_method_19_code 812 = .ok (.aload_n 0, 1) := by decide +kernel
set_option maxRecDepth 100000 in
theorem dX11_shape_813 : decode prog_13_method_19_code 813 = .ok (.getfield 23, 3) := by decide +kernel
set_option maxRecDepth 100000 in
theorem dX11_shape_816 : decode prog_13_method_19_code 816 = .ok (.iload_n 2, 1) := by decide +kernel
set_option maxRecDepth 100000 in
theorem dX11_shape_817 : decode prog_13_method_19_code 817 = .ok (.iaload, 1) := by decide +kernel
set_option maxRecDepth 100000 in
theorem dX11_shape_818 : decode prog_13_method_19_code 818 = .ok (.ireturn, 1) := by decide +kernel
set_option maxRecDepth 100000 in
theorem dX11_shape_819 : decode prog_13_method_19_code 819 = .ok (.aload_n 0, 1) := by decide +kernel
set_option maxRecDepth 100000 in
theorem dX11_shape_820 : decode prog_13_method_19_code 820 = .ok (.getfield 17, 3) := by decide +kernel
set_option maxRecDepth 100000 in
theorem dX11_shape_823 : decode prog_13_method_19_code 823 = .ok (.iload_n 3, 1) := by decide +kernel
set_option maxRecDepth 100000 in
theorem dX11_shape_824 : decode prog_13_method_19_code 824 = .ok (.iaload, 1) := by decide +kernel
set_option maxRecDepth 100000 in
theorem dX11_shape_825 : decode prog_13_method_19_code 825 = .ok (.iload 7, 2) := by decide +kernel
set_option maxRecDepth 100000 in
theorem dX11_shape_827 : decode prog_13_method_19_code 827 = .ok (.if_icmp .ne 25, 3) := by decide +kernel
set_option maxRecDepth 100000 in
theorem dX11_shape_830 : decode prog_13_method_19_code 830 = .ok (.aload_n 0, 1) := by decide +kernel
set_option maxRecDepth 100000 in
theorem dX11_shape_831 : decode prog_13_method_19_code 831 = .ok (.getfield 23, 3) := by decide +kernel
set_option maxRecDepth 100000 in
theorem dX11_shape_834 : decode prog_13_method_19_code 834 = .ok (.iload_n 2, 1) := by decide +kernel
set_option maxRecDepth 100000 in
theorem dX11_shape_835 : decode prog_13_method_19_code 835 = .ok (.iaload, 1) := by decide +kernel
set_option maxRecDepth 100000 in
theorem dX11_shape_836 : decode prog_13_method_19_code 836 = .ok (.aload_n 0, 1) := by decide +kernel
set_option maxRecDepth 100000 in
theorem dX11_shape_837 : decode prog_13_method_19_code 837 = .ok (.getfield 23, 3) := by decide +kernel
set_option maxRecDepth 100000 in
theorem dX11_shape_840 : decode prog_13_method_19_code 840 = .ok (.iload_n 3, 1) := by decide +kernel
set_option maxRecDepth 100000 in
theorem dX11_shape_841 : decode prog_13_method_19_code 841 = .ok (.iaload, 1) := by decide +kernel
set_option maxRecDepth 100000 in
theorem dX11_shape_842 : decode prog_13_method_19_code 842 = .ok (.invokestatic 166, 3) := by decide +kernel
set_option maxRecDepth 100000 in
theorem dX11_shape_845 : decode prog_13_method_19_code 845 = .ok (.ifCond .eq 7, 3) := by decide +kernel
set_option maxRecDepth 100000 in
theorem dX11_shape_848 : decode prog_13_method_19_code 848 = .ok (.iconst 1, 1) := by decide +kernel
set_option maxRecDepth 100000 in
theorem dX11_shape_849 : decode prog_13_method_19_code 849 = .ok (.goto 4, 3) := by decide +kernel
set_option maxRecDepth 100000 in
theorem dX11_shape_852 : decode prog_13_method_19_code 852 = .ok (.iconst 0, 1) := by decide +kernel
set_option maxRecDepth 100000 in
theorem dX11_shape_853 : decode prog_13_method_19_code 853 = .ok (.istore 14, 2) := by decide +kernel
set_option maxRecDepth 100000 in
theorem dX11_shape_855 : decode prog_13_method_19_code 855 = .ok (.iconst 0, 1) := by decide +kernel
set_option maxRecDepth 100000 in
theorem dX11_shape_856 : decode prog_13_method_19_code 856 = .ok (.istore 15, 2) := by decide +kernel
set_option maxRecDepth 100000 in
theorem dX11_shape_858 : decode prog_13_method_19_code 858 = .ok (.iload 15, 2) := by decide +kernel
set_option maxRecDepth 100000 in
theorem dX11_shape_860 : decode prog_13_method_19_code 860 = .ok (.iload 7, 2) := by decide +kernel
set_option maxRecDepth 100000 in
theorem dX11_shape_862 : decode prog_13_method_19_code 862 = .ok (.if_icmp .ge 43, 3) := by decide +kernel
set_option maxRecDepth 100000 in
theorem dX11_shape_865 : decode prog_13_method_19_code 865 = .ok (.iload 14, 2) := by decide +kernel
set_option maxRecDepth 100000 in
theorem dX11_shape_867 : decode prog_13_method_19_code 867 = .ok (.ifCond .eq 38, 3) := by decide +kernel
set_option maxRecDepth 100000 in
theorem dX11_shape_870 : decode prog_13_method_19_code 870 = .ok (.aload_n 0, 1) := by decide +kernel
set_option maxRecDepth 100000 in
theorem dX11_shape_871 : decode prog_13_method_19_code 871 = .ok (.getfield 20, 3) := by decide +kernel
set_option maxRecDepth 100000 in
theorem dX11_shape_874 : decode prog_13_method_19_code 874 = .ok (.bipush 6, 2) := by decide +kernel
set_option maxRecDepth 100000 in
theorem dX11_shape_876 : decode prog_13_method_19_code 876 = .ok (.iload_n 3, 1) := by decide +kernel
set_option maxRecDepth 100000 in
theorem dX11_shape_877 : decode prog_13_method_19_code 877 = .ok (.imul, 1) := by decide +kernel
set_option maxRecDepth 100000 in
theorem dX11_shape_878 : decode prog_13_method_19_code 878 = .ok (.iload 15, 2) := by decide +kernel
set_option maxRecDepth 100000 in
theorem dX11_shape_880 : decode prog_13_method_19_code 880 = .ok (.iadd, 1) := by decide +kernel
set_option maxRecDepth 100000 in
theorem dX11_shape_881 : decode prog_13_method_19_code 881 = .ok (.iaload, 1) := by decide +kernel
set_option maxRecDepth 100000 in
theorem dX11_shape_882 : decode prog_13_method_19_code 882 = .ok (.aload_n 0, 1) := by decide +kernel
set_option maxRecDepth 100000 in
theorem dX11_shape_883 : decode prog_13_method_19_code 883 = .ok (.getfield 20, 3) := by decide +kernel
set_option maxRecDepth 100000 in
theorem dX11_shape_886 : decode prog_13_method_19_code 886 = .ok (.bipush 6, 2) := by decide +kernel
set_option maxRecDepth 100000 in
theorem dX11_shape_888 : decode prog_13_method_19_code 888 = .ok (.iload_n 2, 1) := by decide +kernel
set_option maxRecDepth 100000 in
theorem dX11_shape_889 : decode prog_13_method_19_code 889 = .ok (.imul, 1) := by decide +kernel
set_option maxRecDepth 100000 in
theorem dX11_shape_890 : decode prog_13_method_19_code 890 = .ok (.iload 15, 2) := by decide +kernel
set_option maxRecDepth 100000 in
theorem dX11_shape_892 : decode prog_13_method_19_code 892 = .ok (.iadd, 1) := by decide +kernel
set_option maxRecDepth 100000 in
theorem dX11_shape_893 : decode prog_13_method_19_code 893 = .ok (.iaload, 1) := by decide +kernel
set_option maxRecDepth 100000 in
theorem dX11_shape_894 : decode prog_13_method_19_code 894 = .ok (.invokestatic 166, 3) := by decide +kernel
set_option maxRecDepth 100000 in
theorem dX11_shape_897 : decode prog_13_method_19_code 897 = .ok (.istore 14, 2) := by decide +kernel
set_option maxRecDepth 100000 in
theorem dX11_shape_899 : decode prog_13_method_19_code 899 = .ok (.iinc 15 1, 3) := by decide +kernel
set_option maxRecDepth 100000 in
theorem dX11_shape_902 : decode prog_13_method_19_code 902 = .ok (.goto (-44), 3) := by decide +kernel
set_option maxRecDepth 100000 in
theorem dX11_shape_905 : decode prog_13_method_19_code 905 = .ok (.aload_n 0, 1) := by decide +kernel
set_option maxRecDepth 100000 in
theorem dX11_shape_906 : decode prog_13_method_19_code 906 = .ok (.iload_n 3, 1) := by decide +kernel
set_option maxRecDepth 100000 in
theorem dX11_shape_907 : decode prog_13_method_19_code 907 = .ok (.iconst 0, 1) := by decide +kernel
set_option maxRecDepth 100000 in
theorem dX11_shape_908 : decode prog_13_method_19_code 908 = .ok (.invokevirtual 176, 3) := by decide +kernel
set_option maxRecDepth 100000 in
theorem dX11_shape_911 : decode prog_13_method_19_code 911 = .ok (.iload 14, 2) := by decide +kernel
set_option maxRecDepth 100000 in
theorem dX11_shape_913 : decode prog_13_method_19_code 913 = .ok (.ifCond .eq 12, 3) := by decide +kernel
set_option maxRecDepth 100000 in
theorem dX11_shape_916 : decode prog_13_method_19_code 916 = .ok (.aload_n 0, 1) := by decide +kernel
set_option maxRecDepth 100000 in
theorem dX11_shape_917 : decode prog_13_method_19_code 917 = .ok (.getfield 23, 3) := by decide +kernel
set_option maxRecDepth 100000 in
theorem dX11_shape_920 : decode prog_13_method_19_code 920 = .ok (.iload_n 3, 1) := by decide +kernel
set_option maxRecDepth 100000 in
theorem dX11_shape_921 : decode prog_13_method_19_code 921 = .ok (.iaload, 1) := by decide +kernel
set_option maxRecDepth 100000 in
theorem dX11_shape_922 : decode prog_13_method_19_code 922 = .ok (.goto 4, 3) := by decide +kernel
set_option maxRecDepth 100000 in
theorem dX11_shape_925 : decode prog_13_method_19_code 925 = .ok (.iconst (-1), 1) := by decide +kernel
set_option maxRecDepth 100000 in
theorem dX11_shape_926 : decode prog_13_method_19_code 926 = .ok (.ireturn, 1) := by decide +kernel
set_option maxRecDepth 100000 in
theorem okX11_begins : mOk miX11_begins 4 := ⟨(gd_of 955 rfl rfl), (gd_of 76 rfl rfl), by decide +kernel, ⟨by decide +kernel, by decide +kernel, by decide +kernel⟩, by decide⟩
set_option maxRecDepth 100000 in
theorem okX11_takeFrom : mOk miX11_takeFrom 2 := ⟨(gd_of 924 rfl rfl), (gd_of 76 rfl rfl), by decide +kernel, ⟨by decide +kernel, by decide +kernel, by decide +kernel⟩, by decide⟩
set_option maxRecDepth 100000 in
theorem okX11_with : mOk miX11_with 2 := ⟨(gd_of 951 rfl rfl), (gd_of 76 rfl rfl), by decide +kernel, ⟨by decide +kernel, by decide +kernel, by decide +kernel⟩, by decide⟩
set_option maxRecDepth 100000 in
theorem okX11_isBound : mOk miX11_isBound 2 := ⟨(gd_of 928 rfl rfl), (gd_of 76 rfl rfl), by decide +kernel, ⟨by decide +kernel, by decide +kernel, by decide +kernel⟩, by decide⟩
set_option maxRecDepth 100000 in
theorem okX11_without : mOk miX11_without 1 := ⟨(gd_of 947 rfl rfl), (gd_of 76 rfl rfl), by decide +kernel, ⟨by decide +kernel, by decide +kernel, by decide +kernel⟩, by decide⟩
def fX11_shape_132 (z : Nat → Nat) : Nat → Nat → Int32 → Int32 → Int32 → Int32 → aH → Option (Int32 × aH)
  | 0, _, _, _, _, _, _ => none
  | n + 1, a0, x2, x5, x7, x8, h => (if x7 ≤ x8 then
  (rdR h a0 [9] 5).bind fun r101 =>
  (r101).bind fun a102 =>
  (arI h a102 x2).bind fun x103 =>
  some (x103, h)
  else
  (rdR h a0 [9] 27).bind fun r104 =>
  (fX11_digit z x5 x7 x8 h).bind fun q105 =>
  (rdR q105.2 a0 [9] 4).bind fun r106 =>
  (r106).bind fun a107 =>
  (arI q105.2 a107 ((6 * x2) + x8)).bind fun x108 =>
  (r104).bind fun a109 =>
  (awI q105.2 a109 q105.1 x108).bind fun h110 =>
  fX11_shape_132 z n a0 x2 x5 x7 (x8 + 1) h110)
set_option maxHeartbeats 4000000 in
set_option maxRecDepth 100000 in
theorem xX11_shape_132 {l : Launch} {g : aG} {d : Nat} (hK : 3 ≤ d + 1) : ∀ (n : Nat) (a0 : Nat) (x2 : Int32) (x5 : Int32) (x7 : Int32) (x8 : Int32) (h : aH) (q : Int32 × aH), fX11_shape_132 g.2.2 n a0 x2 x5 x7 x8 h = some q → Y l g miX11_shape (d + 1) 132 [some (.inr (.inr (some a0))), none, some (.inl x2), none, none, some (.inl x5), none, some (.inl x7), some (.inl x8), none, none, none, none, none, none, none] [] h (some (.inl q.1), q.2) := by
  intro n
  induction n with
  | zero => intro a0 x2 x5 x7 x8 h q hf; simp [fX11_shape_132] at hf
  | succ n ih =>
    intro a0 x2 x5 x7 x8 h q hf
    rw [fX11_shape_132] at hf
    refine y_iload (i := 8) dX11_shape_132 rfl ?_
    refine y_iload (i := 7) dX11_shape_134 rfl ?_
    refine y_icmp_ge (tgt := 171) dX11_shape_136 (by decide) (fun hc => ?_) (fun hc => ?_)
    · rw [if_pos hc] at hf
      refine y_aload_n (i := 0) dX11_shape_171 rfl rfl ?_
      replace hf := bnd hf
      obtain ⟨r101, er101, hf⟩ := hf
      refine y_getR er101 fl11_23 dX11_shape_172 ?_
      refine y_iload_n (i := 2) dX11_shape_175 rfl rfl ?_
      replace hf := bnd hf
      obtain ⟨a102, rfl, hf⟩ := hf
      replace hf := bnd hf
      obtain ⟨x103, ex103, hf⟩ := hf
      refine y_iaload ex103 dX11_shape_176 ?_
      obtain rfl := Option.some.inj hf
      exact y_ret (v := some (.inl x103)) dX11_shape_177 rfl
    · rw [if_neg hc] at hf
      refine y_aload_n (i := 0) dX11_shape_139 rfl rfl ?_
      replace hf := bnd hf
      obtain ⟨r104, er104, hf⟩ := hf
      refine y_getR er104 fl11_72 dX11_shape_140 ?_
      refine y_iload (i := 5) dX11_shape_143 rfl ?_
      refine y_iload (i := 7) dX11_shape_145 rfl ?_
      refine y_iload (i := 8) dX11_shape_147 rfl ?_
      replace hf := bnd hf
      obtain ⟨q105, eq105, hf⟩ := hf
      refine y_callS (mj := miX11_digit) (args := [.inl x5, .inl x7, .inl x8]) (st := [.inr (.inr r104)]) dX11_shape_149 (gd_of 909 rfl rfl) (gd_of 910 rfl rfl) okX11_digit (xX11_digit (by omega) eq105) (Nat.le_of_ble_eq_true rfl) rfl ?_
      show Y l g miX11_shape (d + 1) 152 [some (.inr (.inr (some a0))), none, some (.inl x2), none, none, some (.inl x5), none, some (.inl x7), some (.inl x8), none, none, none, none, none, none, none] [.inl q105.1, .inr (.inr r104)] q105.2 _
      refine y_aload_n (i := 0) dX11_shape_152 rfl rfl ?_
      replace hf := bnd hf
      obtain ⟨r106, er106, hf⟩ := hf
      refine y_getR er106 fl11_20 dX11_shape_153 ?_
      refine y_bipush (v := 6) dX11_shape_156 (by decide) ?_
      refine y_iload_n (i := 2) dX11_shape_158 rfl rfl ?_
      refine y_imul dX11_shape_159 ?_
      refine y_iload (i := 8) dX11_shape_160 rfl ?_
      refine y_iadd dX11_shape_162 ?_
      replace hf := bnd hf
      obtain ⟨a107, rfl, hf⟩ := hf
      replace hf := bnd hf
      obtain ⟨x108, ex108, hf⟩ := hf
      refine y_iaload ex108 dX11_shape_163 ?_
      replace hf := bnd hf
      obtain ⟨a109, rfl, hf⟩ := hf
      replace hf := bnd hf
      obtain ⟨h110, eh110, hf⟩ := hf
      refine y_iastore eh110 dX11_shape_164 ?_
      refine y_iinc (i := 8) (y := 1) (lv2 := [some (.inr (.inr (some a0))), none, some (.inl x2), none, none, some (.inl x5), none, some (.inl x7), some (.inl (x8 + 1)), none, none, none, none, none, none, none]) dX11_shape_165 rfl (by decide) (by decide) rfl ?_
      refine y_goto (tgt := 132) dX11_shape_168 (by decide) ?_
      refine Y.weak (lv2 := [some (.inr (.inr (some a0))), none, some (.inl x2), none, none, some (.inl x5), none, some (.inl x7), some (.inl (x8 + 1)), none, none, none, none, none, none, none]) [true, false, true, false, false, true, false, true, true, false, false, false, false, false, false, false] rfl ?_
      exact ih _ _ _ _ _ _ _ hf
def fX11_shape_233 (z : Nat → Nat) (a0 : Nat) (x2 : Int32) (x3 : Int32) (x8 : Int32) (h : aH) : Option (Int32 × aH) :=
  (obO h a0 9).bind fun fs102 =>
  (fX11_begins z a0 x3 0 x2 x8 h).bind fun q101 =>
  (if q101.1 = 0 then
  some ((-1), q101.2)
  else
  (rdR q101.2 a0 [9] 5).bind fun r103 =>
  (r103).bind fun a104 =>
  (arI q101.2 a104 x2).bind fun x105 =>
  some (x105, q101.2))
set_option maxHeartbeats 4000000 in
set_option maxRecDepth 100000 in
theorem xX11_shape_233 {l : Launch} {g : aG} {d : Nat} (hK : 3 ≤ d + 1) {a0 : Nat} {x2 : Int32} {x3 : Int32} {x8 : Int32} {h : aH} {q : Int32 × aH} (hf : fX11_shape_233 g.2.2 a0 x2 x3 x8 h = some q) : Y l g miX11_shape (d + 1) 233 [some (.inr (.inr (some a0))), none, some (.inl x2), some (.inl x3), none, none, none, none, some (.inl x8), none, none, none, none, none, none, none] [] h (some (.inl q.1), q.2) := by
  unfold fX11_shape_233 at hf
  refine y_aload_n (i := 0) dX11_shape_233 rfl rfl ?_
  refine y_iload_n (i := 3) dX11_shape_234 rfl rfl ?_
  refine y_iconst (v := 0) dX11_shape_235 (by decide) ?_
  refine y_iload_n (i := 2) dX11_shape_236 rfl rfl ?_
  refine y_iload (i := 8) dX11_shape_237 rfl ?_
  replace hf := bnd hf
  obtain ⟨fs102, efs102, hf⟩ := hf
  replace hf := bnd hf
  obtain ⟨q101, eq101, hf⟩ := hf
  refine y_callV (mj := miX11_begins) (args := [.inl x3, .inl 0, .inl x2, .inl x8]) (st := []) dX11_shape_239 (gd_of 952 rfl rfl) (gd_of 954 rfl rfl) (gd_of 48 rfl rfl) okX11_begins (obO_spec efs102) rfl rfl (xX11_begins (by omega) eq101) (Nat.le_of_ble_eq_true rfl) rfl ?_
  show Y l g miX11_shape (d + 1) 242 [some (.inr (.inr (some a0))), none, some (.inl x2), some (.inl x3), none, none, none, none, some (.inl x8), none, none, none, none, none, none, none] [.inl q101.1] q101.2 _
  refine y_if_ne (tgt := 249) dX11_shape_242 (by decide) (fun hc => ?_) (fun hc => ?_)
  · rw [if_neg hc] at hf
    refine y_aload_n (i := 0) dX11_shape_249 rfl rfl ?_
    replace hf := bnd hf
    obtain ⟨r103, er103, hf⟩ := hf
    refine y_getR er103 fl11_23 dX11_shape_250 ?_
    refine y_iload_n (i := 2) dX11_shape_253 rfl rfl ?_
    replace hf := bnd hf
    obtain ⟨a104, rfl, hf⟩ := hf
    replace hf := bnd hf
    obtain ⟨x105, ex105, hf⟩ := hf
    refine y_iaload ex105 dX11_shape_254 ?_
    obtain rfl := Option.some.inj hf
    exact y_ret (v := some (.inl x105)) dX11_shape_255 rfl
  · rw [if_pos hc] at hf
    refine y_iconst (v := (-1)) dX11_shape_245 (by decide) ?_
    refine y_goto (tgt := 255) dX11_shape_246 (by decide) ?_
    obtain rfl := Option.some.inj hf
    exact y_ret (v := some (.inl (-1))) dX11_shape_255 rfl
def fX11_shape_193 (z : Nat → Nat) (a0 : Nat) (x2 : Int32) (x3 : Int32) (x7 : Int32) (sx0 : Int32) (h : aH) : Option (Int32 × aH) :=
  (obO h a0 9).bind fun fs102 =>
  (fX11_takeFrom z a0 x2 sx0 h).bind fun q101 =>
  (if x7 < sx0 then
  some ((-1), q101)
  else
  (if sx0 = 1 then
  (rdR q101 a0 [9] 4).bind fun r103 =>
  (r103).bind fun a104 =>
  (arI q101 a104 (6 * x2)).bind fun x105 =>
  (rdR q101 a0 [9] 5).bind fun r106 =>
  (r106).bind fun a107 =>
  (arI q101 a107 x3).bind fun x108 =>
  (if x105 = x108 then
  fX11_shape_233 z a0 x2 x3 sx0 q101
  else
  some ((-1), q101))
  else
  fX11_shape_233 z a0 x2 x3 sx0 q101))
set_option maxHeartbeats 4000000 in
set_option maxRecDepth 100000 in
theorem xX11_shape_193 {l : Launch} {g : aG} {d : Nat} (hK : 3 ≤ d + 1) {a0 : Nat} {x2 : Int32} {x3 : Int32} {x7 : Int32} {sx0 : Int32} {h : aH} {q : Int32 × aH} (hf : fX11_shape_193 g.2.2 a0 x2 x3 x7 sx0 h = some q) : Y l g miX11_shape (d + 1) 193 [some (.inr (.inr (some a0))), none, some (.inl x2), some (.inl x3), none, none, none, some (.inl x7), none, none, none, none, none, none, none, none] [.inl sx0] h (some (.inl q.1), q.2) := by
  unfold fX11_shape_193 at hf
  refine y_istore (i := 8) (lv2 := [some (.inr (.inr (some a0))), none, some (.inl x2), some (.inl x3), none, none, none, some (.inl x7), some (.inl sx0), none, none, none, none, none, none, none]) dX11_shape_193 (by decide) rfl ?_
  refine y_aload_n (i := 0) dX11_shape_195 rfl rfl ?_
  refine y_iload_n (i := 2) dX11_shape_196 rfl rfl ?_
  refine y_iload (i := 8) dX11_shape_197 rfl ?_
  replace hf := bnd hf
  obtain ⟨fs102, efs102, hf⟩ := hf
  replace hf := bnd hf
  obtain ⟨q101, eq101, hf⟩ := hf
  refine y_callV (mj := miX11_takeFrom) (args := [.inl x2, .inl sx0]) (st := []) dX11_shape_199 (gd_of 921 rfl rfl) (gd_of 923 rfl rfl) (gd_of 41 rfl rfl) okX11_takeFrom (obO_spec efs102) rfl rfl (xX11_takeFrom (by omega) eq101) (Nat.le_of_ble_eq_true rfl) rfl ?_
  show Y l g miX11_shape (d + 1) 202 [some (.inr (.inr (some a0))), none, some (.inl x2), some (.inl x3), none, none, none, some (.inl x7), some (.inl sx0), none, none, none, none, none, none, none] [] q101 _
  refine y_iload (i := 7) dX11_shape_202 rfl ?_
  refine y_iload (i := 8) dX11_shape_204 rfl ?_
  refine y_icmp_lt (tgt := 245) dX11_shape_206 (by decide) (fun hc => ?_) (fun hc => ?_)
  · rw [if_pos hc] at hf
    refine y_iconst (v := (-1)) dX11_shape_245 (by decide) ?_
    refine y_goto (tgt := 255) dX11_shape_246 (by decide) ?_
    obtain rfl := Option.some.inj hf
    exact y_ret (v := some (.inl (-1))) dX11_shape_255 rfl
  · rw [if_neg hc] at hf
    refine y_iload (i := 8) dX11_shape_209 rfl ?_
    refine y_iconst (v := 1) dX11_shape_211 (by decide) ?_
    refine y_icmp_ne (tgt := 233) dX11_shape_212 (by decide) (fun hc => ?_) (fun hc => ?_)
    · rw [if_neg hc] at hf
      refine Y.weak (lv2 := [some (.inr (.inr (some a0))), none, some (.inl x2), some (.inl x3), none, none, none, none, some (.inl sx0), none, none, none, none, none, none, none]) [true, false, true, true, false, false, false, false, true, false, false, false, false, false, false, false] rfl ?_
      exact xX11_shape_233 hK hf
    · rw [if_pos hc] at hf
      refine y_aload_n (i := 0) dX11_shape_215 rfl rfl ?_
      replace hf := bnd hf
      obtain ⟨r103, er103, hf⟩ := hf
      refine y_getR er103 fl11_20 dX11_shape_216 ?_
      refine y_bipush (v := 6) dX11_shape_219 (by decide) ?_
      refine y_iload_n (i := 2) dX11_shape_221 rfl rfl ?_
      refine y_imul dX11_shape_222 ?_
      replace hf := bnd hf
      obtain ⟨a104, rfl, hf⟩ := hf
      replace hf := bnd hf
      obtain ⟨x105, ex105, hf⟩ := hf
      refine y_iaload ex105 dX11_shape_223 ?_
      refine y_aload_n (i := 0) dX11_shape_224 rfl rfl ?_
      replace hf := bnd hf
      obtain ⟨r106, er106, hf⟩ := hf
      refine y_getR er106 fl11_23 dX11_shape_225 ?_
      refine y_iload_n (i := 3) dX11_shape_228 rfl rfl ?_
      replace hf := bnd hf
      obtain ⟨a107, rfl, hf⟩ := hf
      replace hf := bnd hf
      obtain ⟨x108, ex108, hf⟩ := hf
      refine y_iaload ex108 dX11_shape_229 ?_
      refine y_icmp_ne (tgt := 245) dX11_shape_230 (by decide) (fun hc => ?_) (fun hc => ?_)
      · rw [if_neg hc] at hf
        refine y_iconst (v := (-1)) dX11_shape_245 (by decide) ?_
        refine y_goto (tgt := 255) dX11_shape_246 (by decide) ?_
        obtain rfl := Option.some.inj hf
        exact y_ret (v := some (.inl (-1))) dX11_shape_255 rfl
      · rw [if_pos hc] at hf
        refine Y.weak (lv2 := [some (.inr (.inr (some a0))), none, some (.inl x2), some (.inl x3), none, none, none, none, some (.inl sx0), none, none, none, none, none, none, none]) [true, false, true, true, false, false, false, false, true, false, false, false, false, false, false, false] rfl ?_
        exact xX11_shape_233 hK hf
def fX11_shape_329 (z : Nat → Nat) (a0 : Nat) (x2 : Int32) (x3 : Int32) (sx0 : Int32) (h : aH) : Option (Int32 × aH) :=
  (rdR h a0 [9] 3).bind fun r101 =>
  (r101).bind fun a102 =>
  (arI h a102 x3).bind fun x103 =>
  (if x103 = sx0 then
  (if sx0 = 1 then
  (rdR h a0 [9] 4).bind fun r107 =>
  (r107).bind fun a108 =>
  (arI h a108 (6 * x3)).bind fun x109 =>
  (rdR h a0 [9] 5).bind fun r110 =>
  (r110).bind fun a111 =>
  (arI h a111 x2).bind fun x112 =>
  (if x109 = x112 then
  (rdR h a0 [9] 5).bind fun r113 =>
  (r113).bind fun a114 =>
  (arI h a114 x3).bind fun x115 =>
  some (x115, h)
  else
  some ((-1), h))
  else
  (rdR h a0 [9] 5).bind fun r104 =>
  (r104).bind fun a105 =>
  (arI h a105 x3).bind fun x106 =>
  some (x106, h))
  else
  some ((-1), h))
set_option maxHeartbeats 4000000 in
set_option maxRecDepth 100000 in
theorem xX11_shape_329 {l : Launch} {g : aG} {d : Nat} (hK : 3 ≤ d + 1) {a0 : Nat} {x2 : Int32} {x3 : Int32} {sx0 : Int32} {h : aH} {q : Int32 × aH} (hf : fX11_shape_329 g.2.2 a0 x2 x3 sx0 h = some q) : Y l g miX11_shape (d + 1) 329 [some (.inr (.inr (some a0))), none, some (.inl x2), some (.inl x3), none, none, none, none, none, none, none, none, none, none, none, none] [.inl sx0] h (some (.inl q.1), q.2) := by
  unfold fX11_shape_329 at hf
  refine y_istore (i := 9) (lv2 := [some (.inr (.inr (some a0))), none, some (.inl x2), some (.inl x3), none, none, none, none, none, some (.inl sx0), none, none, none, none, none, none]) dX11_shape_329 (by decide) rfl ?_
  refine y_aload_n (i := 0) dX11_shape_331 rfl rfl ?_
  replace hf := bnd hf
  obtain ⟨r101, er101, hf⟩ := hf
  refine y_getR er101 fl11_17 dX11_shape_332 ?_
  refine y_iload_n (i := 3) dX11_shape_335 rfl rfl ?_
  replace hf := bnd hf
  obtain ⟨a102, rfl, hf⟩ := hf
  replace hf := bnd hf
  obtain ⟨x103, ex103, hf⟩ := hf
  refine y_iaload ex103 dX11_shape_336 ?_
  refine y_iload (i := 9) dX11_shape_337 rfl ?_
  refine y_icmp_ne (tgt := 366) dX11_shape_339 (by decide) (fun hc => ?_) (fun hc => ?_)
  · rw [if_neg hc] at hf
    refine y_iconst (v := (-1)) dX11_shape_366 (by decide) ?_
    refine y_goto (tgt := 376) dX11_shape_367 (by decide) ?_
    obtain rfl := Option.some.inj hf
    exact y_ret (v := some (.inl (-1))) dX11_shape_376 rfl
  · rw [if_pos hc] at hf
    refine y_iload (i := 9) dX11_shape_342 rfl ?_
    refine y_iconst (v := 1) dX11_shape_344 (by decide) ?_
    refine y_icmp_ne (tgt := 370) dX11_shape_345 (by decide) (fun hc => ?_) (fun hc => ?_)
    · rw [if_neg hc] at hf
      refine y_aload_n (i := 0) dX11_shape_370 rfl rfl ?_
      replace hf := bnd hf
      obtain ⟨r104, er104, hf⟩ := hf
      refine y_getR er104 fl11_23 dX11_shape_371 ?_
      refine y_iload_n (i := 3) dX11_shape_374 rfl rfl ?_
      replace hf := bnd hf
      obtain ⟨a105, rfl, hf⟩ := hf
      replace hf := bnd hf
      obtain ⟨x106, ex106, hf⟩ := hf
      refine y_iaload ex106 dX11_shape_375 ?_
      obtain rfl := Option.some.inj hf
      exact y_ret (v := some (.inl x106)) dX11_shape_376 rfl
    · rw [if_pos hc] at hf
      refine y_aload_n (i := 0) dX11_shape_348 rfl rfl ?_
      replace hf := bnd hf
      obtain ⟨r107, er107, hf⟩ := hf
      refine y_getR er107 fl11_20 dX11_shape_349 ?_
      refine y_bipush (v := 6) dX11_shape_352 (by decide) ?_
      refine y_iload_n (i := 3) dX11_shape_354 rfl rfl ?_
      refine y_imul dX11_shape_355 ?_
      replace hf := bnd hf
      obtain ⟨a108, rfl, hf⟩ := hf
      replace hf := bnd hf
      obtain ⟨x109, ex109, hf⟩ := hf
      refine y_iaload ex109 dX11_shape_356 ?_
      refine y_aload_n (i := 0) dX11_shape_357 rfl rfl ?_
      replace hf := bnd hf
      obtain ⟨r110, er110, hf⟩ := hf
      refine y_getR er110 fl11_23 dX11_shape_358 ?_
      refine y_iload_n (i := 2) dX11_shape_361 rfl rfl ?_
      replace hf := bnd hf
      obtain ⟨a111, rfl, hf⟩ := hf
      replace hf := bnd hf
      obtain ⟨x112, ex112, hf⟩ := hf
      refine y_iaload ex112 dX11_shape_362 ?_
      refine y_icmp_eq (tgt := 370) dX11_shape_363 (by decide) (fun hc => ?_) (fun hc => ?_)
      · rw [if_pos hc] at hf
        refine y_aload_n (i := 0) dX11_shape_370 rfl rfl ?_
        replace hf := bnd hf
        obtain ⟨r113, er113, hf⟩ := hf
        refine y_getR er113 fl11_23 dX11_shape_371 ?_
        refine y_iload_n (i := 3) dX11_shape_374 rfl rfl ?_
        replace hf := bnd hf
        obtain ⟨a114, rfl, hf⟩ := hf
        replace hf := bnd hf
        obtain ⟨x115, ex115, hf⟩ := hf
        refine y_iaload ex115 dX11_shape_375 ?_
        obtain rfl := Option.some.inj hf
        exact y_ret (v := some (.inl x115)) dX11_shape_376 rfl
      · rw [if_neg hc] at hf
        refine y_iconst (v := (-1)) dX11_shape_366 (by decide) ?_
        refine y_goto (tgt := 376) dX11_shape_367 (by decide) ?_
        obtain rfl := Option.some.inj hf
        exact y_ret (v := some (.inl (-1))) dX11_shape_376 rfl
def fX11_shape_528 (z : Nat → Nat) (a0 : Nat) (x2 : Int32) (sx0 : Int32) (sx1 : Int32) (h : aH) : Option (Int32 × aH) :=
  (if sx0 = sx1 then
  (rdR h a0 [9] 5).bind fun r101 =>
  (r101).bind fun a102 =>
  (arI h a102 x2).bind fun x103 =>
  some (x103, h)
  else
  some ((-1), h))
set_option maxHeartbeats 4000000 in
set_option maxRecDepth 100000 in
theorem xX11_shape_528 {l : Launch} {g : aG} {d : Nat} (hK : 3 ≤ d + 1) {a0 : Nat} {x2 : Int32} {sx0 : Int32} {sx1 : Int32} {h : aH} {q : Int32 × aH} (hf : fX11_shape_528 g.2.2 a0 x2 sx0 sx1 h = some q) : Y l g miX11_shape (d + 1) 528 [some (.inr (.inr (some a0))), none, some (.inl x2), none, none, none, none, none, none, none, none, none, none, none, none, none] [.inl sx1, .inl sx0] h (some (.inl q.1), q.2) := by
  unfold fX11_shape_528 at hf
  refine y_icmp_ne (tgt := 540) dX11_shape_528 (by decide) (fun hc => ?_) (fun hc => ?_)
  · rw [if_neg hc] at hf
    refine y_iconst (v := (-1)) dX11_shape_540 (by decide) ?_
    obtain rfl := Option.some.inj hf
    exact y_ret (v := some (.inl (-1))) dX11_shape_541 rfl
  · rw [if_pos hc] at hf
    refine y_aload_n (i := 0) dX11_shape_531 rfl rfl ?_
    replace hf := bnd hf
    obtain ⟨r101, er101, hf⟩ := hf
    refine y_getR er101 fl11_23 dX11_shape_532 ?_
    refine y_iload_n (i := 2) dX11_shape_535 rfl rfl ?_
    replace hf := bnd hf
    obtain ⟨a102, rfl, hf⟩ := hf
    replace hf := bnd hf
    obtain ⟨x103, ex103, hf⟩ := hf
    refine y_iaload ex103 dX11_shape_536 ?_
    refine y_goto (tgt := 541) dX11_shape_537 (by decide) ?_
    obtain rfl := Option.some.inj hf
    exact y_ret (v := some (.inl x103)) dX11_shape_541 rfl
def fX11_shape_499 (z : Nat → Nat) (a0 : Nat) (x1 : Int32) (x2 : Int32) (x3 : Int32) (sx0 : Int32) (h : aH) : Option (Int32 × aH) :=
  (if sx0 = 0 then
  some ((-1), h)
  else
  (rdR h a0 [9] 5).bind fun r101 =>
  (r101).bind fun a102 =>
  (arI h a102 x3).bind fun x103 =>
  (if x1 = 8 then
  fX11_shape_528 z a0 x2 x103 4 h
  else
  (rdR h a0 [9] 5).bind fun r104 =>
  (r104).bind fun a105 =>
  (arI h a105 x2).bind fun x106 =>
  fX11_shape_528 z a0 x2 x103 x106 h))
set_option maxHeartbeats 4000000 in
set_option maxRecDepth 100000 in
theorem xX11_shape_499 {l : Launch} {g : aG} {d : Nat} (hK : 3 ≤ d + 1) {a0 : Nat} {x1 : Int32} {x2 : Int32} {x3 : Int32} {sx0 : Int32} {h : aH} {q : Int32 × aH} (hf : fX11_shape_499 g.2.2 a0 x1 x2 x3 sx0 h = some q) : Y l g miX11_shape (d + 1) 499 [some (.inr (.inr (some a0))), some (.inl x1), some (.inl x2), some (.inl x3), none, none, none, none, none, none, none, none, none, none, none, none] [.inl sx0] h (some (.inl q.1), q.2) := by
  unfold fX11_shape_499 at hf
  refine y_istore (i := 10) (lv2 := [some (.inr (.inr (some a0))), some (.inl x1), some (.inl x2), some (.inl x3), none, none, none, none, none, none, some (.inl sx0), none, none, none, none, none]) dX11_shape_499 (by decide) rfl ?_
  refine y_iload (i := 10) dX11_shape_501 rfl ?_
  refine y_if_eq (tgt := 540) dX11_shape_503 (by decide) (fun hc => ?_) (fun hc => ?_)
  · rw [if_pos hc] at hf
    refine y_iconst (v := (-1)) dX11_shape_540 (by decide) ?_
    obtain rfl := Option.some.inj hf
    exact y_ret (v := some (.inl (-1))) dX11_shape_541 rfl
  · rw [if_neg hc] at hf
    refine y_aload_n (i := 0) dX11_shape_506 rfl rfl ?_
    replace hf := bnd hf
    obtain ⟨r101, er101, hf⟩ := hf
    refine y_getR er101 fl11_23 dX11_shape_507 ?_
    refine y_iload_n (i := 3) dX11_shape_510 rfl rfl ?_
    replace hf := bnd hf
    obtain ⟨a102, rfl, hf⟩ := hf
    replace hf := bnd hf
    obtain ⟨x103, ex103, hf⟩ := hf
    refine y_iaload ex103 dX11_shape_511 ?_
    refine y_iload_n (i := 1) dX11_shape_512 rfl rfl ?_
    refine y_bipush (v := 8) dX11_shape_513 (by decide) ?_
    refine y_icmp_ne (tgt := 522) dX11_shape_515 (by decide) (fun hc => ?_) (fun hc => ?_)
    · rw [if_neg hc] at hf
      refine y_aload_n (i := 0) dX11_shape_522 rfl rfl ?_
      replace hf := bnd hf
      obtain ⟨r104, er104, hf⟩ := hf
      refine y_getR er104 fl11_23 dX11_shape_523 ?_
      refine y_iload_n (i := 2) dX11_shape_526 rfl rfl ?_
      replace hf := bnd hf
      obtain ⟨a105, rfl, hf⟩ := hf
      replace hf := bnd hf
      obtain ⟨x106, ex106, hf⟩ := hf
      refine y_iaload ex106 dX11_shape_527 ?_
      refine Y.weak (lv2 := [some (.inr (.inr (some a0))), none, some (.inl x2), none, none, none, none, none, none, none, none, none, none, none, none, none]) [true, false, true, false, false, false, false, false, false, false, false, false, false, false, false, false] rfl ?_
      exact xX11_shape_528 hK hf
    · rw [if_pos hc] at hf
      refine y_iconst (v := 4) dX11_shape_518 (by decide) ?_
      refine y_goto (tgt := 528) dX11_shape_519 (by decide) ?_
      refine Y.weak (lv2 := [some (.inr (.inr (some a0))), none, some (.inl x2), none, none, none, none, none, none, none, none, none, none, none, none, none]) [true, false, true, false, false, false, false, false, false, false, false, false, false, false, false, false] rfl ?_
      exact xX11_shape_528 hK hf
def fX11_shape_498 (z : Nat → Nat) (a0 : Nat) (x1 : Int32) (x2 : Int32) (x3 : Int32) (h : aH) : Option (Int32 × aH) :=
  fX11_shape_499 z a0 x1 x2 x3 0 h
set_option maxHeartbeats 4000000 in
set_option maxRecDepth 100000 in
theorem xX11_shape_498 {l : Launch} {g : aG} {d : Nat} (hK : 3 ≤ d + 1) {a0 : Nat} {x1 : Int32} {x2 : Int32} {x3 : Int32} {h : aH} {q : Int32 × aH} (hf : fX11_shape_498 g.2.2 a0 x1 x2 x3 h = some q) : Y l g miX11_shape (d + 1) 498 [some (.inr (.inr (some a0))), some (.inl x1), some (.inl x2), some (.inl x3), none, none, none, none, none, none, none, none, none, none, none, none] [] h (some (.inl q.1), q.2) := by
  unfold fX11_shape_498 at hf
  refine y_iconst (v := 0) dX11_shape_498 (by decide) ?_
  refine Y.weak (lv2 := [some (.inr (.inr (some a0))), some (.inl x1), some (.inl x2), some (.inl x3), none, none, none, none, none, none, none, none, none, none, none, none]) [true, true, true, true, false, false, false, false, false, false, false, false, false, false, false, false] rfl ?_
  exact xX11_shape_499 hK hf
def fX11_shape_458 (z : Nat → Nat) (a0 : Nat) (x1 : Int32) (x2 : Int32) (x3 : Int32) (x7 : Int32) (h : aH) : Option (Int32 × aH) :=
  (rdR h a0 [9] 3).bind fun r101 =>
  (r101).bind fun a102 =>
  (arI h a102 x3).bind fun x103 =>
  (if x103 = (x7 + 1) then
  (rdR h a0 [9] 4).bind fun r104 =>
  (r104).bind fun a105 =>
  (arI h a105 (6 * x3)).bind fun x106 =>
  (if x106 = 0 then
  (obO h a0 9).bind fun fs108 =>
  (fX11_begins z a0 x3 1 x2 0 h).bind fun q107 =>
  (if q107.1 = 0 then
  fX11_shape_498 z a0 x1 x2 x3 q107.2
  else
  fX11_shape_499 z a0 x1 x2 x3 1 q107.2)
  else
  fX11_shape_498 z a0 x1 x2 x3 h)
  else
  fX11_shape_498 z a0 x1 x2 x3 h)
set_option maxHeartbeats 4000000 in
set_option maxRecDepth 100000 in
theorem xX11_shape_458 {l : Launch} {g : aG} {d : Nat} (hK : 3 ≤ d + 1) {a0 : Nat} {x1 : Int32} {x2 : Int32} {x3 : Int32} {x7 : Int32} {h : aH} {q : Int32 × aH} (hf : fX11_shape_458 g.2.2 a0 x1 x2 x3 x7 h = some q) : Y l g miX11_shape (d + 1) 458 [some (.inr (.inr (some a0))), some (.inl x1), some (.inl x2), some (.inl x3), none, none, none, some (.inl x7), none, none, none, none, none, none, none, none] [] h (some (.inl q.1), q.2) := by
  unfold fX11_shape_458 at hf
  refine y_aload_n (i := 0) dX11_shape_458 rfl rfl ?_
  replace hf := bnd hf
  obtain ⟨r101, er101, hf⟩ := hf
  refine y_getR er101 fl11_17 dX11_shape_459 ?_
  refine y_iload_n (i := 3) dX11_shape_462 rfl rfl ?_
  replace hf := bnd hf
  obtain ⟨a102, rfl, hf⟩ := hf
  replace hf := bnd hf
  obtain ⟨x103, ex103, hf⟩ := hf
  refine y_iaload ex103 dX11_shape_463 ?_
  refine y_iload (i := 7) dX11_shape_464 rfl ?_
  refine y_iconst (v := 1) dX11_shape_466 (by decide) ?_
  refine y_iadd dX11_shape_467 ?_
  refine y_icmp_ne (tgt := 498) dX11_shape_468 (by decide) (fun hc => ?_) (fun hc => ?_)
  · rw [if_neg hc] at hf
    refine Y.weak (lv2 := [some (.inr (.inr (some a0))), some (.inl x1), some (.inl x2), some (.inl x3), none, none, none, none, none, none, none, none, none, none, none, none]) [true, true, true, true, false, false, false, false, false, false, false, false, false, false, false, false] rfl ?_
    exact xX11_shape_498 hK hf
  · rw [if_pos hc] at hf
    refine y_aload_n (i := 0) dX11_shape_471 rfl rfl ?_
    replace hf := bnd hf
    obtain ⟨r104, er104, hf⟩ := hf
    refine y_getR er104 fl11_20 dX11_shape_472 ?_
    refine y_bipush (v := 6) dX11_shape_475 (by decide) ?_
    refine y_iload_n (i := 3) dX11_shape_477 rfl rfl ?_
    refine y_imul dX11_shape_478 ?_
    replace hf := bnd hf
    obtain ⟨a105, rfl, hf⟩ := hf
    replace hf := bnd hf
    obtain ⟨x106, ex106, hf⟩ := hf
    refine y_iaload ex106 dX11_shape_479 ?_
    refine y_if_ne (tgt := 498) dX11_shape_480 (by decide) (fun hc => ?_) (fun hc => ?_)
    · rw [if_neg hc] at hf
      refine Y.weak (lv2 := [some (.inr (.inr (some a0))), some (.inl x1), some (.inl x2), some (.inl x3), none, none, none, none, none, none, none, none, none, none, none, none]) [true, true, true, true, false, false, false, false, false, false, false, false, false, false, false, false] rfl ?_
      exact xX11_shape_498 hK hf
    · rw [if_pos hc] at hf
      refine y_aload_n (i := 0) dX11_shape_483 rfl rfl ?_
      refine y_iload_n (i := 3) dX11_shape_484 rfl rfl ?_
      refine y_iconst (v := 1) dX11_shape_485 (by decide) ?_
      refine y_iload_n (i := 2) dX11_shape_486 rfl rfl ?_
      refine y_iconst (v := 0) dX11_shape_487 (by decide) ?_
      replace hf := bnd hf
      obtain ⟨fs108, efs108, hf⟩ := hf
      replace hf := bnd hf
      obtain ⟨q107, eq107, hf⟩ := hf
      refine y_callV (mj := miX11_begins) (args := [.inl x3, .inl 1, .inl x2, .inl 0]) (st := []) dX11_shape_488 (gd_of 952 rfl rfl) (gd_of 954 rfl rfl) (gd_of 48 rfl rfl) okX11_begins (obO_spec efs108) rfl rfl (xX11_begins (by omega) eq107) (Nat.le_of_ble_eq_true rfl) rfl ?_
      show Y l g miX11_shape (d + 1) 491 [some (.inr (.inr (some a0))), some (.inl x1), some (.inl x2), some (.inl x3), none, none, none, some (.inl x7), none, none, none, none, none, none, none, none] [.inl q107.1] q107.2 _
      refine y_if_eq (tgt := 498) dX11_shape_491 (by decide) (fun hc => ?_) (fun hc => ?_)
      · rw [if_pos hc] at hf
        refine Y.weak (lv2 := [some (.inr (.inr (some a0))), some (.inl x1), some (.inl x2), some (.inl x3), none, none, none, none, none, none, none, none, none, none, none, none]) [true, true, true, true, false, false, false, false, false, false, false, false, false, false, false, false] rfl ?_
        exact xX11_shape_498 hK hf
      · rw [if_neg hc] at hf
        refine y_iconst (v := 1) dX11_shape_494 (by decide) ?_
        refine y_goto (tgt := 499) dX11_shape_495 (by decide) ?_
        refine Y.weak (lv2 := [some (.inr (.inr (some a0))), some (.inl x1), some (.inl x2), some (.inl x3), none, none, none, none, none, none, none, none, none, none, none, none]) [true, true, true, true, false, false, false, false, false, false, false, false, false, false, false, false] rfl ?_
        exact xX11_shape_499 hK hf
def fX11_shape_634 (z : Nat → Nat) (x11 : Int32) (h : aH) : Option (Int32 × aH) :=
  some ((-1), h)
set_option maxHeartbeats 4000000 in
set_option maxRecDepth 100000 in
theorem xX11_shape_634 {l : Launch} {g : aG} {d : Nat} (hK : 3 ≤ d + 1) {x11 : Int32} {h : aH} {q : Int32 × aH} (hf : fX11_shape_634 g.2.2 x11 h = some q) : Y l g miX11_shape (d + 1) 634 [none, none, none, none, none, none, none, none, none, none, none, some (.inl x11), none, none, none, none] [] h (some (.inl q.1), q.2) := by
  unfold fX11_shape_634 at hf
  refine y_iconst (v := 0) dX11_shape_634 (by decide) ?_
  refine y_istore (i := 12) (lv2 := [none, none, none, none, none, none, none, none, none, none, none, some (.inl x11), some (.inl 0), none, none, none]) dX11_shape_635 (by decide) rfl ?_
  refine y_iload (i := 12) dX11_shape_637 rfl ?_
  refine y_if_eq (tgt := 647) dX11_shape_639 (by decide) (fun _ => ?_) (fun hc => absurd (by decide) hc)
  refine y_iconst (v := (-1)) dX11_shape_647 (by decide) ?_
  obtain rfl := Option.some.inj hf
  exact y_ret (v := some (.inl (-1))) dX11_shape_648 rfl
def fX11_shape_710 (z : Nat → Nat) (a0 : Nat) (x2 : Int32) (x5 : Int32) (x7 : Int32) (x13 : Int32) (h : aH) : Option (Int32 × aH) :=
  (if x13 = 0 then
  some ((-1), h)
  else
  (wrF h a0 [9] 28 (.inl (x7 - x5))).bind fun h101 =>
  (rdI h101 a0 [9] 28).bind fun x102 =>
  (obO h101 a0 9).bind fun fs104 =>
  (fX11_with z a0 x102 3 h101).bind fun q103 =>
  (rdR q103 a0 [9] 5).bind fun r105 =>
  (r105).bind fun a106 =>
  (arI q103 a106 x2).bind fun x107 =>
  some (x107, q103))
set_option maxHeartbeats 4000000 in
set_option maxRecDepth 100000 in
theorem xX11_shape_710 {l : Launch} {g : aG} {d : Nat} (hK : 3 ≤ d + 1) {a0 : Nat} {x2 : Int32} {x5 : Int32} {x7 : Int32} {x13 : Int32} {h : aH} {q : Int32 × aH} (hf : fX11_shape_710 g.2.2 a0 x2 x5 x7 x13 h = some q) : Y l g miX11_shape (d + 1) 710 [some (.inr (.inr (some a0))), none, some (.inl x2), none, none, some (.inl x5), none, some (.inl x7), none, none, none, none, none, some (.inl x13), none, none] [] h (some (.inl q.1), q.2) := by
  unfold fX11_shape_710 at hf
  refine y_iload (i := 13) dX11_shape_710 rfl ?_
  refine y_if_ne (tgt := 717) dX11_shape_712 (by decide) (fun hc => ?_) (fun hc => ?_)
  · rw [if_neg hc] at hf
    refine y_aload_n (i := 0) dX11_shape_717 rfl rfl ?_
    refine y_iload (i := 7) dX11_shape_718 rfl ?_
    refine y_iload (i := 5) dX11_shape_720 rfl ?_
    refine y_isub dX11_shape_722 ?_
    replace hf := bnd hf
    obtain ⟨h101, eh101, hf⟩ := hf
    refine y_put eh101 (pl11_118_m rfl) dX11_shape_723 ?_
    refine y_aload_n (i := 0) dX11_shape_726 rfl rfl ?_
    refine y_aload_n (i := 0) dX11_shape_727 rfl rfl ?_
    replace hf := bnd hf
    obtain ⟨x102, ex102, hf⟩ := hf
    refine y_getI ex102 fl11_118 dX11_shape_728 ?_
    refine y_iconst (v := 3) dX11_shape_731 (by decide) ?_
    replace hf := bnd hf
    obtain ⟨fs104, efs104, hf⟩ := hf
    replace hf := bnd hf
    obtain ⟨q103, eq103, hf⟩ := hf
    refine y_callV (mj := miX11_with) (args := [.inl x102, .inl 3]) (st := []) dX11_shape_732 (gd_of 948 rfl rfl) (gd_of 950 rfl rfl) (gd_of 47 rfl rfl) okX11_with (obO_spec efs104) rfl rfl (xX11_with (by omega) eq103) (Nat.le_of_ble_eq_true rfl) rfl ?_
    show Y l g miX11_shape (d + 1) 735 [some (.inr (.inr (some a0))), none, some (.inl x2), none, none, some (.inl x5), none, some (.inl x7), none, none, none, none, none, some (.inl x13), none, none] [] q103 _
    refine y_aload_n (i := 0) dX11_shape_735 rfl rfl ?_
    replace hf := bnd hf
    obtain ⟨r105, er105, hf⟩ := hf
    refine y_getR er105 fl11_23 dX11_shape_736 ?_
    refine y_iload_n (i := 2) dX11_shape_739 rfl rfl ?_
    replace hf := bnd hf
    obtain ⟨a106, rfl, hf⟩ := hf
    replace hf := bnd hf
    obtain ⟨x107, ex107, hf⟩ := hf
    refine y_iaload ex107 dX11_shape_740 ?_
    obtain rfl := Option.some.inj hf
    exact y_ret (v := some (.inl x107)) dX11_shape_741 rfl
  · rw [if_pos hc] at hf
    refine y_iconst (v := (-1)) dX11_shape_715 (by decide) ?_
    obtain rfl := Option.some.inj hf
    exact y_ret (v := some (.inl (-1))) dX11_shape_716 rfl
def fX11_shape_670 (z : Nat → Nat) : Nat → Nat → Int32 → Int32 → Int32 → Int32 → Int32 → aH → Option (Int32 × aH)
  | 0, _, _, _, _, _, _, _ => none
  | n + 1, a0, x2, x5, x7, x13, x14, h => (if x7 ≤ x14 then
  fX11_shape_710 z a0 x2 x5 x7 x13 h
  else
  (if x13 = 0 then
  fX11_shape_710 z a0 x2 x5 x7 x13 h
  else
  (rdR h a0 [9] 4).bind fun r101 =>
  (r101).bind fun a102 =>
  (arI h a102 ((6 * x2) + x14)).bind fun x103 =>
  (if x103 = 0 then
  fX11_shape_670 z n a0 x2 x5 x7 1 (x14 + 1) h
  else
  fX11_shape_670 z n a0 x2 x5 x7 0 (x14 + 1) h)))
set_option maxHeartbeats 4000000 in
set_option maxRecDepth 100000 in
theorem xX11_shape_670 {l : Launch} {g : aG} {d : Nat} (hK : 3 ≤ d + 1) : ∀ (n : Nat) (a0 : Nat) (x2 : Int32) (x5 : Int32) (x7 : Int32) (x13 : Int32) (x14 : Int32) (h : aH) (q : Int32 × aH), fX11_shape_670 g.2.2 n a0 x2 x5 x7 x13 x14 h = some q → Y l g miX11_shape (d + 1) 670 [some (.inr (.inr (some a0))), none, some (.inl x2), none, none, some (.inl x5), none, some (.inl x7), none, none, none, none, none, some (.inl x13), some (.inl x14), none] [] h (some (.inl q.1), q.2) := by
  intro n
  induction n with
  | zero => intro a0 x2 x5 x7 x13 x14 h q hf; simp [fX11_shape_670] at hf
  | succ n ih =>
    intro a0 x2 x5 x7 x13 x14 h q hf
    rw [fX11_shape_670] at hf
    refine y_iload (i := 14) dX11_shape_670 rfl ?_
    refine y_iload (i := 7) dX11_shape_672 rfl ?_
    refine y_icmp_ge (tgt := 710) dX11_shape_674 (by decide) (fun hc => ?_) (fun hc => ?_)
    · rw [if_pos hc] at hf
      refine Y.weak (lv2 := [some (.inr (.inr (some a0))), none, some (.inl x2), none, none, some (.inl x5), none, some (.inl x7), none, none, none, none, none, some (.inl x13), none, none]) [true, false, true, false, false, true, false, true, false, false, false, false, false, true, false, false] rfl ?_
      exact xX11_shape_710 hK hf
    · rw [if_neg hc] at hf
      refine y_iload (i := 13) dX11_shape_677 rfl ?_
      refine y_if_eq (tgt := 710) dX11_shape_679 (by decide) (fun hc => ?_) (fun hc => ?_)
      · rw [if_pos hc] at hf
        refine Y.weak (lv2 := [some (.inr (.inr (some a0))), none, some (.inl x2), none, none, some (.inl x5), none, some (.inl x7), none, none, none, none, none, some (.inl x13), none, none]) [true, false, true, false, false, true, false, true, false, false, false, false, false, true, false, false] rfl ?_
        exact xX11_shape_710 hK hf
      · rw [if_neg hc] at hf
        refine y_aload_n (i := 0) dX11_shape_682 rfl rfl ?_
        replace hf := bnd hf
        obtain ⟨r101, er101, hf⟩ := hf
        refine y_getR er101 fl11_20 dX11_shape_683 ?_
        refine y_bipush (v := 6) dX11_shape_686 (by decide) ?_
        refine y_iload_n (i := 2) dX11_shape_688 rfl rfl ?_
        refine y_imul dX11_shape_689 ?_
        refine y_iload (i := 14) dX11_shape_690 rfl ?_
        refine y_iadd dX11_shape_692 ?_
        replace hf := bnd hf
        obtain ⟨a102, rfl, hf⟩ := hf
        replace hf := bnd hf
        obtain ⟨x103, ex103, hf⟩ := hf
        refine y_iaload ex103 dX11_shape_693 ?_
        refine y_if_ne (tgt := 701) dX11_shape_694 (by decide) (fun hc => ?_) (fun hc => ?_)
        · rw [if_neg hc] at hf
          refine y_iconst (v := 0) dX11_shape_701 (by decide) ?_
          refine y_istore (i := 13) (lv2 := [some (.inr (.inr (some a0))), none, some (.inl x2), none, none, some (.inl x5), none, some (.inl x7), none, none, none, none, none, some (.inl 0), some (.inl x14), none]) dX11_shape_702 (by decide) rfl ?_
          refine y_iinc (i := 14) (y := 1) (lv2 := [some (.inr (.inr (some a0))), none, some (.inl x2), none, none, some (.inl x5), none, some (.inl x7), none, none, none, none, none, some (.inl 0), some (.inl (x14 + 1)), none]) dX11_shape_704 rfl (by decide) (by decide) rfl ?_
          refine y_goto (tgt := 670) dX11_shape_707 (by decide) ?_
          refine Y.weak (lv2 := [some (.inr (.inr (some a0))), none, some (.inl x2), none, none, some (.inl x5), none, some (.inl x7), none, none, none, none, none, some (.inl 0), some (.inl (x14 + 1)), none]) [true, false, true, false, false, true, false, true, false, false, false, false, false, true, true, false] rfl ?_
          exact ih _ _ _ _ _ _ _ _ hf
        · rw [if_pos hc] at hf
          refine y_iconst (v := 1) dX11_shape_697 (by decide) ?_
          refine y_goto (tgt := 702) dX11_shape_698 (by decide) ?_
          refine y_istore (i := 13) (lv2 := [some (.inr (.inr (some a0))), none, some (.inl x2), none, none, some (.inl x5), none, some (.inl x7), none, none, none, none, none, some (.inl 1), some (.inl x14), none]) dX11_shape_702 (by decide) rfl ?_
          refine y_iinc (i := 14) (y := 1) (lv2 := [some (.inr (.inr (some a0))), none, some (.inl x2), none, none, some (.inl x5), none, some (.inl x7), none, none, none, none, none, some (.inl 1), some (.inl (x14 + 1)), none]) dX11_shape_704 rfl (by decide) (by decide) rfl ?_
          refine y_goto (tgt := 670) dX11_shape_707 (by decide) ?_
          refine Y.weak (lv2 := [some (.inr (.inr (some a0))), none, some (.inl x2), none, none, some (.inl x5), none, some (.inl x7), none, none, none, none, none, some (.inl 1), some (.inl (x14 + 1)), none]) [true, false, true, false, false, true, false, true, false, false, false, false, false, true, true, false] rfl ?_
          exact ih _ _ _ _ _ _ _ _ hf
def fX11_shape_790 (z : Nat → Nat) : Nat → Nat → Int32 → Int32 → Int32 → aH → Option (Int32 × aH)
  | 0, _, _, _, _, _ => none
  | n + 1, a0, x2, x5, x14, h => (if x5 ≤ x14 then
  (rdR h a0 [9] 5).bind fun r101 =>
  (r101).bind fun a102 =>
  (arI h a102 x2).bind fun x103 =>
  some (x103, h)
  else
  (rdI h a0 [9] 28).bind fun x104 =>
  (obO h a0 9).bind fun fs106 =>
  (fX11_with z a0 x104 0 h).bind fun q105 =>
  fX11_shape_790 z n a0 x2 x5 (x14 + 1) q105)
set_option maxHeartbeats 4000000 in
set_option maxRecDepth 100000 in
theorem xX11_shape_790 {l : Launch} {g : aG} {d : Nat} (hK : 3 ≤ d + 1) : ∀ (n : Nat) (a0 : Nat) (x2 : Int32) (x5 : Int32) (x14 : Int32) (h : aH) (q : Int32 × aH), fX11_shape_790 g.2.2 n a0 x2 x5 x14 h = some q → Y l g miX11_shape (d + 1) 790 [some (.inr (.inr (some a0))), none, some (.inl x2), none, none, some (.inl x5), none, none, none, none, none, none, none, none, some (.inl x14), none] [] h (some (.inl q.1), q.2) := by
  intro n
  induction n with
  | zero => intro a0 x2 x5 x14 h q hf; simp [fX11_shape_790] at hf
  | succ n ih =>
    intro a0 x2 x5 x14 h q hf
    rw [fX11_shape_790] at hf
    refine y_iload (i := 14) dX11_shape_790 rfl ?_
    refine y_iload (i := 5) dX11_shape_792 rfl ?_
    refine y_icmp_ge (tgt := 812) dX11_shape_794 (by decide) (fun hc => ?_) (fun hc => ?_)
    · rw [if_pos hc] at hf
      refine y_aload_n (i := 0) dX11_shape_812 rfl rfl ?_
      replace hf := bnd hf
      obtain ⟨r101, er101, hf⟩ := hf
      refine y_getR er101 fl11_23 dX11_shape_813 ?_
      refine y_iload_n (i := 2) dX11_shape_816 rfl rfl ?_
      replace hf := bnd hf
      obtain ⟨a102, rfl, hf⟩ := hf
      replace hf := bnd hf
      obtain ⟨x103, ex103, hf⟩ := hf
      refine y_iaload ex103 dX11_shape_817 ?_
      obtain rfl := Option.some.inj hf
      exact y_ret (v := some (.inl x103)) dX11_shape_818 rfl
    · rw [if_neg hc] at hf
      refine y_aload_n (i := 0) dX11_shape_797 rfl rfl ?_
      refine y_aload_n (i := 0) dX11_shape_798 rfl rfl ?_
      replace hf := bnd hf
      obtain ⟨x104, ex104, hf⟩ := hf
      refine y_getI ex104 fl11_118 dX11_shape_799 ?_
      refine y_iconst (v := 0) dX11_shape_802 (by decide) ?_
      replace hf := bnd hf
      obtain ⟨fs106, efs106, hf⟩ := hf
      replace hf := bnd hf
      obtain ⟨q105, eq105, hf⟩ := hf
      refine y_callV (mj := miX11_with) (args := [.inl x104, .inl 0]) (st := []) dX11_shape_803 (gd_of 948 rfl rfl) (gd_of 950 rfl rfl) (gd_of 47 rfl rfl) okX11_with (obO_spec efs106) rfl rfl (xX11_with (by omega) eq105) (Nat.le_of_ble_eq_true rfl) rfl ?_
      show Y l g miX11_shape (d + 1) 806 [some (.inr (.inr (some a0))), none, some (.inl x2), none, none, some (.inl x5), none, none, none, none, none, none, none, none, some (.inl x14), none] [] q105 _
      refine y_iinc (i := 14) (y := 1) (lv2 := [some (.inr (.inr (some a0))), none, some (.inl x2), none, none, some (.inl x5), none, none, none, none, none, none, none, none, some (.inl (x14 + 1)), none]) dX11_shape_806 rfl (by decide) (by decide) rfl ?_
      refine y_goto (tgt := 790) dX11_shape_809 (by decide) ?_
      refine Y.weak (lv2 := [some (.inr (.inr (some a0))), none, some (.inl x2), none, none, some (.inl x5), none, none, none, none, none, none, none, none, some (.inl (x14 + 1)), none]) [true, false, true, false, false, true, false, false, false, false, false, false, false, false, true, false] rfl ?_
      exact ih _ _ _ _ _ _ hf
def fX11_shape_905 (z : Nat → Nat) (a0 : Nat) (x3 : Int32) (x14 : Int32) (h : aH) : Option (Int32 × aH) :=
  (obO h a0 9).bind fun fs102 =>
  (fX11_takeFrom z a0 x3 0 h).bind fun q101 =>
  (if x14 = 0 then
  some ((-1), q101)
  else
  (rdR q101 a0 [9] 5).bind fun r103 =>
  (r103).bind fun a104 =>
  (arI q101 a104 x3).bind fun x105 =>
  some (x105, q101))
set_option maxHeartbeats 4000000 in
set_option maxRecDepth 100000 in
theorem xX11_shape_905 {l : Launch} {g : aG} {d : Nat} (hK : 3 ≤ d + 1) {a0 : Nat} {x3 : Int32} {x14 : Int32} {h : aH} {q : Int32 × aH} (hf : fX11_shape_905 g.2.2 a0 x3 x14 h = some q) : Y l g miX11_shape (d + 1) 905 [some (.inr (.inr (some a0))), none, none, some (.inl x3), none, none, none, none, none, none, none, none, none, none, some (.inl x14), none] [] h (some (.inl q.1), q.2) := by
  unfold fX11_shape_905 at hf
  refine y_aload_n (i := 0) dX11_shape_905 rfl rfl ?_
  refine y_iload_n (i := 3) dX11_shape_906 rfl rfl ?_
  refine y_iconst (v := 0) dX11_shape_907 (by decide) ?_
  replace hf := bnd hf
  obtain ⟨fs102, efs102, hf⟩ := hf
  replace hf := bnd hf
  obtain ⟨q101, eq101, hf⟩ := hf
  refine y_callV (mj := miX11_takeFrom) (args := [.inl x3, .inl 0]) (st := []) dX11_shape_908 (gd_of 921 rfl rfl) (gd_of 923 rfl rfl) (gd_of 41 rfl rfl) okX11_takeFrom (obO_spec efs102) rfl rfl (xX11_takeFrom (by omega) eq101) (Nat.le_of_ble_eq_true rfl) rfl ?_
  show Y l g miX11_shape (d + 1) 911 [some (.inr (.inr (some a0))), none, none, some (.inl x3), none, none, none, none, none, none, none, none, none, none, some (.inl x14), none] [] q101 _
  refine y_iload (i := 14) dX11_shape_911 rfl ?_
  refine y_if_eq (tgt := 925) dX11_shape_913 (by decide) (fun hc => ?_) (fun hc => ?_)
  · rw [if_pos hc] at hf
    refine y_iconst (v := (-1)) dX11_shape_925 (by decide) ?_
    obtain rfl := Option.some.inj hf
    exact y_ret (v := some (.inl (-1))) dX11_shape_926 rfl
  · rw [if_neg hc] at hf
    refine y_aload_n (i := 0) dX11_shape_916 rfl rfl ?_
    replace hf := bnd hf
    obtain ⟨r103, er103, hf⟩ := hf
    refine y_getR er103 fl11_23 dX11_shape_917 ?_
    refine y_iload_n (i := 3) dX11_shape_920 rfl rfl ?_
    replace hf := bnd hf
    obtain ⟨a104, rfl, hf⟩ := hf
    replace hf := bnd hf
    obtain ⟨x105, ex105, hf⟩ := hf
    refine y_iaload ex105 dX11_shape_921 ?_
    refine y_goto (tgt := 926) dX11_shape_922 (by decide) ?_
    obtain rfl := Option.some.inj hf
    exact y_ret (v := some (.inl x105)) dX11_shape_926 rfl
def fX11_shape_858 (z : Nat → Nat) : Nat → Nat → Int32 → Int32 → Int32 → Int32 → Int32 → aH → Option (Int32 × aH)
  | 0, _, _, _, _, _, _, _ => none
  | n + 1, a0, x2, x3, x7, x14, x15, h => (if x7 ≤ x15 then
  fX11_shape_905 z a0 x3 x14 h
  else
  (if x14 = 0 then
  fX11_shape_905 z a0 x3 x14 h
  else
  (rdR h a0 [9] 4).bind fun r101 =>
  (r101).bind fun a102 =>
  (arI h a102 ((6 * x3) + x15)).bind fun x103 =>
  (rdR h a0 [9] 4).bind fun r104 =>
  (r104).bind fun a105 =>
  (arI h a105 ((6 * x2) + x15)).bind fun x106 =>
  (fX11_canAdapt z x103 x106 h).bind fun q107 =>
  fX11_shape_858 z n a0 x2 x3 x7 q107.1 (x15 + 1) q107.2))
set_option maxHeartbeats 4000000 in
set_option maxRecDepth 100000 in
theorem xX11_shape_858 {l : Launch} {g : aG} {d : Nat} (hK : 3 ≤ d + 1) : ∀ (n : Nat) (a0 : Nat) (x2 : Int32) (x3 : Int32) (x7 : Int32) (x14 : Int32) (x15 : Int32) (h : aH) (q : Int32 × aH), fX11_shape_858 g.2.2 n a0 x2 x3 x7 x14 x15 h = some q → Y l g miX11_shape (d + 1) 858 [some (.inr (.inr (some a0))), none, some (.inl x2), some (.inl x3), none, none, none, some (.inl x7), none, none, none, none, none, none, some (.inl x14), some (.inl x15)] [] h (some (.inl q.1), q.2) := by
  intro n
  induction n with
  | zero => intro a0 x2 x3 x7 x14 x15 h q hf; simp [fX11_shape_858] at hf
  | succ n ih =>
    intro a0 x2 x3 x7 x14 x15 h q hf
    rw [fX11_shape_858] at hf
    refine y_iload (i := 15) dX11_shape_858 rfl ?_
    refine y_iload (i := 7) dX11_shape_860 rfl ?_
    refine y_icmp_ge (tgt := 905) dX11_shape_862 (by decide) (fun hc => ?_) (fun hc => ?_)
    · rw [if_pos hc] at hf
      refine Y.weak (lv2 := [some (.inr (.inr (some a0))), none, none, some (.inl x3), none, none, none, none, none, none, none, none, none, none, some (.inl x14), none]) [true, false, false, true, false, false, false, false, false, false, false, false, false, false, true, false] rfl ?_
      exact xX11_shape_905 hK hf
    · rw [if_neg hc] at hf
      refine y_iload (i := 14) dX11_shape_865 rfl ?_
      refine y_if_eq (tgt := 905) dX11_shape_867 (by decide) (fun hc => ?_) (fun hc => ?_)
      · rw [if_pos hc] at hf
        refine Y.weak (lv2 := [some (.inr (.inr (some a0))), none, none, some (.inl x3), none, none, none, none, none, none, none, none, none, none, some (.inl x14), none]) [true, false, false, true, false, false, false, false, false, false, false, false, false, false, true, false] rfl ?_
        exact xX11_shape_905 hK hf
      · rw [if_neg hc] at hf
        refine y_aload_n (i := 0) dX11_shape_870 rfl rfl ?_
        replace hf := bnd hf
        obtain ⟨r101, er101, hf⟩ := hf
        refine y_getR er101 fl11_20 dX11_shape_871 ?_
        refine y_bipush (v := 6) dX11_shape_874 (by decide) ?_
        refine y_iload_n (i := 3) dX11_shape_876 rfl rfl ?_
        refine y_imul dX11_shape_877 ?_
        refine y_iload (i := 15) dX11_shape_878 rfl ?_
        refine y_iadd dX11_shape_880 ?_
        replace hf := bnd hf
        obtain ⟨a102, rfl, hf⟩ := hf
        replace hf := bnd hf
        obtain ⟨x103, ex103, hf⟩ := hf
        refine y_iaload ex103 dX11_shape_881 ?_
        refine y_aload_n (i := 0) dX11_shape_882 rfl rfl ?_
        replace hf := bnd hf
        obtain ⟨r104, er104, hf⟩ := hf
        refine y_getR er104 fl11_20 dX11_shape_883 ?_
        refine y_bipush (v := 6) dX11_shape_886 (by decide) ?_
        refine y_iload_n (i := 2) dX11_shape_888 rfl rfl ?_
        refine y_imul dX11_shape_889 ?_
        refine y_iload (i := 15) dX11_shape_890 rfl ?_
        refine y_iadd dX11_shape_892 ?_
        replace hf := bnd hf
        obtain ⟨a105, rfl, hf⟩ := hf
        replace hf := bnd hf
        obtain ⟨x106, ex106, hf⟩ := hf
        refine y_iaload ex106 dX11_shape_893 ?_
        replace hf := bnd hf
        obtain ⟨q107, eq107, hf⟩ := hf
        refine y_callS (mj := miX11_canAdapt) (args := [.inl x103, .inl x106]) (st := []) dX11_shape_894 (gd_of 933 rfl rfl) (gd_of 934 rfl rfl) okX11_canAdapt (xX11_canAdapt (by omega) eq107) (Nat.le_of_ble_eq_true rfl) rfl ?_
        show Y l g miX11_shape (d + 1) 897 [some (.inr (.inr (some a0))), none, some (.inl x2), some (.inl x3), none, none, none, some (.inl x7), none, none, none, none, none, none, some (.inl x14), some (.inl x15)] [.inl q107.1] q107.2 _
        refine y_istore (i := 14) (lv2 := [some (.inr (.inr (some a0))), none, some (.inl x2), some (.inl x3), none, none, none, some (.inl x7), none, none, none, none, none, none, some (.inl q107.1), some (.inl x15)]) dX11_shape_897 (by decide) rfl ?_
        refine y_iinc (i := 15) (y := 1) (lv2 := [some (.inr (.inr (some a0))), none, some (.inl x2), some (.inl x3), none, none, none, some (.inl x7), none, none, none, none, none, none, some (.inl q107.1), some (.inl (x15 + 1))]) dX11_shape_899 rfl (by decide) (by decide) rfl ?_
        refine y_goto (tgt := 858) dX11_shape_902 (by decide) ?_
        refine Y.weak (lv2 := [some (.inr (.inr (some a0))), none, some (.inl x2), some (.inl x3), none, none, none, some (.inl x7), none, none, none, none, none, none, some (.inl q107.1), some (.inl (x15 + 1))]) [true, false, true, true, false, false, false, true, false, false, false, false, false, false, true, true] rfl ?_
        exact ih _ _ _ _ _ _ _ _ hf
def fX11_shape (z : Nat → Nat) (a0 : Nat) (x1 : Int32) (x2 : Int32) (x3 : Int32) (x4 : Int32) (x5 : Int32) (x6 : Int32) (h : aH) : Option (Int32 × aH) :=
  (rdR h a0 [9] 3).bind fun r101 =>
  (r101).bind fun a102 =>
  (arI h a102 x2).bind fun x103 =>
  (obO h a0 9).bind fun fs105 =>
  (fX11_takeFrom z a0 x2 0 h).bind fun q104 =>
  (if x1 = 0 then
  (obO q104 a0 9).bind fun fs107 =>
  (fX11_isBound z a0 x2 x5 q104).bind fun q106 =>
  (if q106.1 = 0 then
  some ((-1), q106.2)
  else
  (obO q106.2 a0 9).bind fun fs109 =>
  (fX11_without z a0 x5 q106.2).bind fun q108 =>
  (rdR q108 a0 [9] 5).bind fun r110 =>
  (r110).bind fun a111 =>
  (arI q108 a111 x2).bind fun x112 =>
  some (x112, q108))
  else
  (if x1 = 1 then
  (obO q104 a0 9).bind fun fs114 =>
  (fX11_with z a0 x5 x6 q104).bind fun q113 =>
  (rdI q113 a0 [9] 28).bind fun x115 =>
  (if x115 ≤ 6 then
  (rdR q113 a0 [9] 5).bind fun r116 =>
  (r116).bind fun a117 =>
  (arI q113 a117 x2).bind fun x118 =>
  some (x118, q113)
  else
  some ((-1), q113))
  else
  (if x1 = 2 then
  fX11_shape_132 z 4000 a0 x2 x5 x103 0 q104
  else
  (if x1 = 3 then
  (rdR q104 a0 [9] 5).bind fun r119 =>
  (r119).bind fun a120 =>
  (arI q104 a120 x3).bind fun x121 =>
  (if x121 = 4 then
  fX11_shape_193 z a0 x2 x3 x103 0 q104
  else
  fX11_shape_193 z a0 x2 x3 x103 1 q104)
  else
  (if x1 = 4 then
  (rdR q104 a0 [9] 27).bind fun r122 =>
  (rdR q104 a0 [9] 4).bind fun r123 =>
  (r123).bind fun a124 =>
  (arI q104 a124 (6 * x3)).bind fun x125 =>
  (r122).bind fun a126 =>
  (awI q104 a126 x5 x125).bind fun h127 =>
  (rdR h127 a0 [9] 3).bind fun r128 =>
  (r128).bind fun a129 =>
  (arI h127 a129 x3).bind fun x130 =>
  (if x130 = 1 then
  (rdR h127 a0 [9] 5).bind fun r131 =>
  (r131).bind fun a132 =>
  (arI h127 a132 x3).bind fun x133 =>
  (rdR h127 a0 [9] 4).bind fun r134 =>
  (r134).bind fun a135 =>
  (arI h127 a135 ((6 * x2) + x5)).bind fun x136 =>
  (if x133 = x136 then
  (rdR h127 a0 [9] 5).bind fun r137 =>
  (r137).bind fun a138 =>
  (arI h127 a138 x2).bind fun x139 =>
  some (x139, h127)
  else
  some ((-1), h127))
  else
  some ((-1), h127))
  else
  (if x1 = 5 then
  (rdR q104 a0 [9] 5).bind fun r140 =>
  (r140).bind fun a141 =>
  (arI q104 a141 x2).bind fun x142 =>
  (if x142 = 4 then
  fX11_shape_329 z a0 x2 x3 0 q104
  else
  fX11_shape_329 z a0 x2 x3 1 q104)
  else
  (if x1 = 6 then
  (obO q104 a0 9).bind fun fs144 =>
  (fX11_takeFrom z a0 x3 0 q104).bind fun q143 =>
  (rdR q143 a0 [9] 5).bind fun r145 =>
  (r145).bind fun a146 =>
  (arI q143 a146 x2).bind fun x147 =>
  (if x147 = 0 then
  (obO q143 a0 9).bind fun fs149 =>
  (fX11_begins z a0 x2 0 x3 0 q143).bind fun q148 =>
  (if q148.1 = 0 then
  some ((-1), q148.2)
  else
  (rdR q148.2 a0 [9] 3).bind fun r150 =>
  (r150).bind fun a151 =>
  (arI q148.2 a151 x3).bind fun x152 =>
  (rdR q148.2 a0 [9] 3).bind fun r153 =>
  (r153).bind fun a154 =>
  (arI q148.2 a154 x4).bind fun x155 =>
  (if x152 = x155 then
  (obO q148.2 a0 9).bind fun fs157 =>
  (fX11_begins z a0 x3 0 x4 0 q148.2).bind fun q156 =>
  (if q156.1 = 0 then
  some ((-1), q156.2)
  else
  (rdR q156.2 a0 [9] 5).bind fun r158 =>
  (r158).bind fun a159 =>
  (arI q156.2 a159 x3).bind fun x160 =>
  (rdR q156.2 a0 [9] 5).bind fun r161 =>
  (r161).bind fun a162 =>
  (arI q156.2 a162 x4).bind fun x163 =>
  (if x160 = x163 then
  (rdR q156.2 a0 [9] 5).bind fun r164 =>
  (r164).bind fun a165 =>
  (arI q156.2 a165 x3).bind fun x166 =>
  some (x166, q156.2)
  else
  some ((-1), q156.2)))
  else
  some ((-1), q148.2)))
  else
  some ((-1), q143))
  else
  (if x1 = 7 then
  fX11_shape_458 z a0 x1 x2 x3 x103 q104
  else
  (if x1 = 8 then
  fX11_shape_458 z a0 x1 x2 x3 x103 q104
  else
  (if x1 = 9 then
  (rdR q104 a0 [9] 5).bind fun r167 =>
  (r167).bind fun a168 =>
  (arI q104 a168 x4).bind fun x169 =>
  (if x103 = 0 then
  (rdR q104 a0 [9] 5).bind fun r170 =>
  (r170).bind fun a171 =>
  (arI q104 a171 x2).bind fun x172 =>
  (if x172 = 0 then
  (rdR q104 a0 [9] 3).bind fun r173 =>
  (r173).bind fun a174 =>
  (arI q104 a174 x4).bind fun x175 =>
  (if x175 = 0 then
  (if x169 = 4 then
  fX11_shape_634 z x169 q104
  else
  (rdR q104 a0 [9] 3).bind fun r176 =>
  (r176).bind fun a177 =>
  (arI q104 a177 x3).bind fun x178 =>
  (if x178 = 2 then
  (rdR q104 a0 [9] 4).bind fun r179 =>
  (r179).bind fun a180 =>
  (arI q104 a180 (6 * x3)).bind fun x181 =>
  (if x181 = x169 then
  (rdR q104 a0 [9] 4).bind fun r182 =>
  (r182).bind fun a183 =>
  (arI q104 a183 ((6 * x3) + 1)).bind fun x184 =>
  (if x184 = 0 then
  (rdR q104 a0 [9] 5).bind fun r185 =>
  (r185).bind fun a186 =>
  (arI q104 a186 x3).bind fun x187 =>
  (if x187 = x169 then
  some (x169, q104)
  else
  fX11_shape_634 z x169 q104)
  else
  fX11_shape_634 z x169 q104)
  else
  fX11_shape_634 z x169 q104)
  else
  fX11_shape_634 z x169 q104))
  else
  fX11_shape_634 z x169 q104)
  else
  fX11_shape_634 z x169 q104)
  else
  fX11_shape_634 z x169 q104)
  else
  (if x1 = 10 then
  (if x103 < x5 then
  fX11_shape_670 z 4000 a0 x2 x5 x103 0 (x103 - x5) q104
  else
  fX11_shape_670 z 4000 a0 x2 x5 x103 1 (x103 - x5) q104)
  else
  (if x1 = 11 then
  (if x103 = 0 then
  some ((-1), q104)
  else
  (rdR q104 a0 [9] 4).bind fun r188 =>
  (r188).bind fun a189 =>
  (arI q104 a189 (((6 * x2) + x103) - 1)).bind fun x190 =>
  (if x190 = 3 then
  (if ((x103 - 1) + x5) ≤ 6 then
  (wrF q104 a0 [9] 28 (.inl (x103 - 1))).bind fun h191 =>
  fX11_shape_790 z 4000 a0 x2 x5 0 h191
  else
  some ((-1), q104))
  else
  some ((-1), q104)))
  else
  (rdR q104 a0 [9] 3).bind fun r192 =>
  (r192).bind fun a193 =>
  (arI q104 a193 x3).bind fun x194 =>
  (if x194 = x103 then
  (rdR q104 a0 [9] 5).bind fun r195 =>
  (r195).bind fun a196 =>
  (arI q104 a196 x2).bind fun x197 =>
  (rdR q104 a0 [9] 5).bind fun r198 =>
  (r198).bind fun a199 =>
  (arI q104 a199 x3).bind fun x200 =>
  (fX11_canAdapt z x197 x200 q104).bind fun q201 =>
  (if q201.1 = 0 then
  fX11_shape_858 z 4000 a0 x2 x3 x103 0 0 q201.2
  else
  fX11_shape_858 z 4000 a0 x2 x3 x103 1 0 q201.2)
  else
  fX11_shape_858 z 4000 a0 x2 x3 x103 0 0 q104)))))))))))))
set_option maxHeartbeats 4000000 in
set_option maxRecDepth 100000 in
theorem xX11_shape {l : Launch} {g : aG} {d : Nat} (hK : 3 ≤ d) {a0 : Nat} {x1 : Int32} {x2 : Int32} {x3 : Int32} {x4 : Int32} {x5 : Int32} {x6 : Int32} {h : aH} {q : Int32 × aH} (hf : fX11_shape g.2.2 a0 x1 x2 x3 x4 x5 x6 h = some q) : Ev l g miX11_shape d [.inr (.inr (some a0)), .inl x1, .inl x2, .inl x3, .inl x4, .inl x5, .inl x6] h (some (.inl q.1), q.2) := by
  obtain ⟨d, rfl⟩ : ∃ e, d = e + 1 := ⟨d - 1, by omega⟩
  refine ⟨?_, Or.inl rfl, Nat.le_of_ble_eq_true rfl⟩
  unfold fX11_shape at hf
  show Y l g miX11_shape (d + 1) 0 [some (.inr (.inr (some a0))), some (.inl x1), some (.inl x2), some (.inl x3), some (.inl x4), some (.inl x5), some (.inl x6), none, none, none, none, none, none, none, none, none] [] h _
  refine y_aload_n (i := 0) dX11_shape_0 rfl rfl ?_
  replace hf := bnd hf
  obtain ⟨r101, er101, hf⟩ := hf
  refine y_getR er101 fl11_17 dX11_shape_1 ?_
  refine y_iload_n (i := 2) dX11_shape_4 rfl rfl ?_
  replace hf := bnd hf
  obtain ⟨a102, rfl, hf⟩ := hf
  replace hf := bnd hf
  obtain ⟨x103, ex103, hf⟩ := hf
  refine y_iaload ex103 dX11_shape_5 ?_
  refine y_istore (i := 7) (lv2 := [some (.inr (.inr (some a0))), some (.inl x1), some (.inl x2), some (.inl x3), some (.inl x4), some (.inl x5), some (.inl x6), some (.inl x103), none, none, none, none, none, none, none, none]) dX11_shape_6 (by decide) rfl ?_
  refine y_aload_n (i := 0) dX11_shape_8 rfl rfl ?_
  refine y_iload_n (i := 2) dX11_shape_9 rfl rfl ?_
  refine y_iconst (v := 0) dX11_shape_10 (by decide) ?_
  replace hf := bnd hf
  obtain ⟨fs105, efs105, hf⟩ := hf
  replace hf := bnd hf
  obtain ⟨q104, eq104, hf⟩ := hf
  refine y_callV (mj := miX11_takeFrom) (args := [.inl x2, .inl 0]) (st := []) dX11_shape_11 (gd_of 921 rfl rfl) (gd_of 923 rfl rfl) (gd_of 41 rfl rfl) okX11_takeFrom (obO_spec efs105) rfl rfl (xX11_takeFrom (by omega) eq104) (Nat.le_of_ble_eq_true rfl) rfl ?_
  show Y l g miX11_shape (d + 1) 14 [some (.inr (.inr (some a0))), some (.inl x1), some (.inl x2), some (.inl x3), some (.inl x4), some (.inl x5), some (.inl x6), some (.inl x103), none, none, none, none, none, none, none, none] [] q104 _
  refine y_iload_n (i := 1) dX11_shape_14 rfl rfl ?_
  refine y_table dX11_shape_15 [(0, 76), (1, 101), (2, 129), (3, 178), (4, 256), (5, 314), (6, 377), (7, 458), (8, 458), (9, 542), (10, 649), (11, 742)] 819 (by decide) (by decide) (by decide) (by decide) ?_
  refine y_swc (fun hc => ?_) (fun hc => ?_)
  · rw [if_pos hc] at hf
    refine y_aload_n (i := 0) dX11_shape_76 rfl rfl ?_
    refine y_iload_n (i := 2) dX11_shape_77 rfl rfl ?_
    refine y_iload (i := 5) dX11_shape_78 rfl ?_
    replace hf := bnd hf
    obtain ⟨fs107, efs107, hf⟩ := hf
    replace hf := bnd hf
    obtain ⟨q106, eq106, hf⟩ := hf
    refine y_callV (mj := miX11_isBound) (args := [.inl x2, .inl x5]) (st := []) dX11_shape_80 (gd_of 925 rfl rfl) (gd_of 927 rfl rfl) (gd_of 42 rfl rfl) okX11_isBound (obO_spec efs107) rfl rfl (xX11_isBound (by omega) eq106) (Nat.le_of_ble_eq_true rfl) rfl ?_
    show Y l g miX11_shape (d + 1) 83 [some (.inr (.inr (some a0))), some (.inl x1), some (.inl x2), some (.inl x3), some (.inl x4), some (.inl x5), some (.inl x6), some (.inl x103), none, none, none, none, none, none, none, none] [.inl q106.1] q106.2 _
    refine y_if_ne (tgt := 88) dX11_shape_83 (by decide) (fun hc => ?_) (fun hc => ?_)
    · rw [if_neg hc] at hf
      refine y_aload_n (i := 0) dX11_shape_88 rfl rfl ?_
      refine y_iload (i := 5) dX11_shape_89 rfl ?_
      replace hf := bnd hf
      obtain ⟨fs109, efs109, hf⟩ := hf
      replace hf := bnd hf
      obtain ⟨q108, eq108, hf⟩ := hf
      refine y_callV (mj := miX11_without) (args := [.inl x5]) (st := []) dX11_shape_91 (gd_of 944 rfl rfl) (gd_of 946 rfl rfl) (gd_of 46 rfl rfl) okX11_without (obO_spec efs109) rfl rfl (xX11_without (by omega) eq108) (Nat.le_of_ble_eq_true rfl) rfl ?_
      show Y l g miX11_shape (d + 1) 94 [some (.inr (.inr (some a0))), some (.inl x1), some (.inl x2), some (.inl x3), some (.inl x4), some (.inl x5), some (.inl x6), some (.inl x103), none, none, none, none, none, none, none, none] [] q108 _
      refine y_aload_n (i := 0) dX11_shape_94 rfl rfl ?_
      replace hf := bnd hf
      obtain ⟨r110, er110, hf⟩ := hf
      refine y_getR er110 fl11_23 dX11_shape_95 ?_
      refine y_iload_n (i := 2) dX11_shape_98 rfl rfl ?_
      replace hf := bnd hf
      obtain ⟨a111, rfl, hf⟩ := hf
      replace hf := bnd hf
      obtain ⟨x112, ex112, hf⟩ := hf
      refine y_iaload ex112 dX11_shape_99 ?_
      obtain rfl := Option.some.inj hf
      exact y_ret (v := some (.inl x112)) dX11_shape_100 rfl
    · rw [if_pos hc] at hf
      refine y_iconst (v := (-1)) dX11_shape_86 (by decide) ?_
      obtain rfl := Option.some.inj hf
      exact y_ret (v := some (.inl (-1))) dX11_shape_87 rfl
  rw [if_neg hc] at hf
  refine y_swc (fun hc => ?_) (fun hc => ?_)
  · rw [if_pos hc] at hf
    refine y_aload_n (i := 0) dX11_shape_101 rfl rfl ?_
    refine y_iload (i := 5) dX11_shape_102 rfl ?_
    refine y_iload (i := 6) dX11_shape_104 rfl ?_
    replace hf := bnd hf
    obtain ⟨fs114, efs114, hf⟩ := hf
    replace hf := bnd hf
    obtain ⟨q113, eq113, hf⟩ := hf
    refine y_callV (mj := miX11_with) (args := [.inl x5, .inl x6]) (st := []) dX11_shape_106 (gd_of 948 rfl rfl) (gd_of 950 rfl rfl) (gd_of 47 rfl rfl) okX11_with (obO_spec efs114) rfl rfl (xX11_with (by omega) eq113) (Nat.le_of_ble_eq_true rfl) rfl ?_
    show Y l g miX11_shape (d + 1) 109 [some (.inr (.inr (some a0))), some (.inl x1), some (.inl x2), some (.inl x3), some (.inl x4), some (.inl x5), some (.inl x6), some (.inl x103), none, none, none, none, none, none, none, none] [] q113 _
    refine y_aload_n (i := 0) dX11_shape_109 rfl rfl ?_
    replace hf := bnd hf
    obtain ⟨x115, ex115, hf⟩ := hf
    refine y_getI ex115 fl11_118 dX11_shape_110 ?_
    refine y_bipush (v := 6) dX11_shape_113 (by decide) ?_
    refine y_icmp_le (tgt := 122) dX11_shape_115 (by decide) (fun hc => ?_) (fun hc => ?_)
    · rw [if_pos hc] at hf
      refine y_aload_n (i := 0) dX11_shape_122 rfl rfl ?_
      replace hf := bnd hf
      obtain ⟨r116, er116, hf⟩ := hf
      refine y_getR er116 fl11_23 dX11_shape_123 ?_
      refine y_iload_n (i := 2) dX11_shape_126 rfl rfl ?_
      replace hf := bnd hf
      obtain ⟨a117, rfl, hf⟩ := hf
      replace hf := bnd hf
      obtain ⟨x118, ex118, hf⟩ := hf
      refine y_iaload ex118 dX11_shape_127 ?_
      obtain rfl := Option.some.inj hf
      exact y_ret (v := some (.inl x118)) dX11_shape_128 rfl
    · rw [if_neg hc] at hf
      refine y_iconst (v := (-1)) dX11_shape_118 (by decide) ?_
      refine y_goto (tgt := 128) dX11_shape_119 (by decide) ?_
      obtain rfl := Option.some.inj hf
      exact y_ret (v := some (.inl (-1))) dX11_shape_128 rfl
  rw [if_neg hc] at hf
  refine y_swc (fun hc => ?_) (fun hc => ?_)
  · rw [if_pos hc] at hf
    refine y_iconst (v := 0) dX11_shape_129 (by decide) ?_
    refine y_istore (i := 8) (lv2 := [some (.inr (.inr (some a0))), some (.inl x1), some (.inl x2), some (.inl x3), some (.inl x4), some (.inl x5), some (.inl x6), some (.inl x103), some (.inl 0), none, none, none, none, none, none, none]) dX11_shape_130 (by decide) rfl ?_
    refine Y.weak (lv2 := [some (.inr (.inr (some a0))), none, some (.inl x2), none, none, some (.inl x5), none, some (.inl x103), some (.inl 0), none, none, none, none, none, none, none]) [true, false, true, false, false, true, false, true, true, false, false, false, false, false, false, false] rfl ?_
    exact xX11_shape_132 hK 4000 _ _ _ _ _ _ _ hf
  rw [if_neg hc] at hf
  refine y_swc (fun hc => ?_) (fun hc => ?_)
  · rw [if_pos hc] at hf
    refine y_aload_n (i := 0) dX11_shape_178 rfl rfl ?_
    replace hf := bnd hf
    obtain ⟨r119, er119, hf⟩ := hf
    refine y_getR er119 fl11_23 dX11_shape_179 ?_
    refine y_iload_n (i := 3) dX11_shape_182 rfl rfl ?_
    replace hf := bnd hf
    obtain ⟨a120, rfl, hf⟩ := hf
    replace hf := bnd hf
    obtain ⟨x121, ex121, hf⟩ := hf
    refine y_iaload ex121 dX11_shape_183 ?_
    refine y_iconst (v := 4) dX11_shape_184 (by decide) ?_
    refine y_icmp_ne (tgt := 192) dX11_shape_185 (by decide) (fun hc => ?_) (fun hc => ?_)
    · rw [if_neg hc] at hf
      refine y_iconst (v := 1) dX11_shape_192 (by decide) ?_
      refine Y.weak (lv2 := [some (.inr (.inr (some a0))), none, some (.inl x2), some (.inl x3), none, none, none, some (.inl x103), none, none, none, none, none, none, none, none]) [true, false, true, true, false, false, false, true, false, false, false, false, false, false, false, false] rfl ?_
      exact xX11_shape_193 hK hf
    · rw [if_pos hc] at hf
      refine y_iconst (v := 0) dX11_shape_188 (by decide) ?_
      refine y_goto (tgt := 193) dX11_shape_189 (by decide) ?_
      refine Y.weak (lv2 := [some (.inr (.inr (some a0))), none, some (.inl x2), some (.inl x3), none, none, none, some (.inl x103), none, none, none, none, none, none, none, none]) [true, false, true, true, false, false, false, true, false, false, false, false, false, false, false, false] rfl ?_
      exact xX11_shape_193 hK hf
  rw [if_neg hc] at hf
  refine y_swc (fun hc => ?_) (fun hc => ?_)
  · rw [if_pos hc] at hf
    refine y_aload_n (i := 0) dX11_shape_256 rfl rfl ?_
    replace hf := bnd hf
    obtain ⟨r122, er122, hf⟩ := hf
    refine y_getR er122 fl11_72 dX11_shape_257 ?_
    refine y_iload (i := 5) dX11_shape_260 rfl ?_
    refine y_aload_n (i := 0) dX11_shape_262 rfl rfl ?_
    replace hf := bnd hf
    obtain ⟨r123, er123, hf⟩ := hf
    refine y_getR er123 fl11_20 dX11_shape_263 ?_
    refine y_bipush (v := 6) dX11_shape_266 (by decide) ?_
    refine y_iload_n (i := 3) dX11_shape_268 rfl rfl ?_
    refine y_imul dX11_shape_269 ?_
    replace hf := bnd hf
    obtain ⟨a124, rfl, hf⟩ := hf
    replace hf := bnd hf
    obtain ⟨x125, ex125, hf⟩ := hf
    refine y_iaload ex125 dX11_shape_270 ?_
    replace hf := bnd hf
    obtain ⟨a126, rfl, hf⟩ := hf
    replace hf := bnd hf
    obtain ⟨h127, eh127, hf⟩ := hf
    refine y_iastore eh127 dX11_shape_271 ?_
    refine y_aload_n (i := 0) dX11_shape_272 rfl rfl ?_
    replace hf := bnd hf
    obtain ⟨r128, er128, hf⟩ := hf
    refine y_getR er128 fl11_17 dX11_shape_273 ?_
    refine y_iload_n (i := 3) dX11_shape_276 rfl rfl ?_
    replace hf := bnd hf
    obtain ⟨a129, rfl, hf⟩ := hf
    replace hf := bnd hf
    obtain ⟨x130, ex130, hf⟩ := hf
    refine y_iaload ex130 dX11_shape_277 ?_
    refine y_iconst (v := 1) dX11_shape_278 (by decide) ?_
    refine y_icmp_ne (tgt := 303) dX11_shape_279 (by decide) (fun hc => ?_) (fun hc => ?_)
    · rw [if_neg hc] at hf
      refine y_iconst (v := (-1)) dX11_shape_303 (by decide) ?_
      refine y_goto (tgt := 313) dX11_shape_304 (by decide) ?_
      obtain rfl := Option.some.inj hf
      exact y_ret (v := some (.inl (-1))) dX11_shape_313 rfl
    · rw [if_pos hc] at hf
      refine y_aload_n (i := 0) dX11_shape_282 rfl rfl ?_
      replace hf := bnd hf
      obtain ⟨r131, er131, hf⟩ := hf
      refine y_getR er131 fl11_23 dX11_shape_283 ?_
      refine y_iload_n (i := 3) dX11_shape_286 rfl rfl ?_
      replace hf := bnd hf
      obtain ⟨a132, rfl, hf⟩ := hf
      replace hf := bnd hf
      obtain ⟨x133, ex133, hf⟩ := hf
      refine y_iaload ex133 dX11_shape_287 ?_
      refine y_aload_n (i := 0) dX11_shape_288 rfl rfl ?_
      replace hf := bnd hf
      obtain ⟨r134, er134, hf⟩ := hf
      refine y_getR er134 fl11_20 dX11_shape_289 ?_
      refine y_bipush (v := 6) dX11_shape_292 (by decide) ?_
      refine y_iload_n (i := 2) dX11_shape_294 rfl rfl ?_
      refine y_imul dX11_shape_295 ?_
      refine y_iload (i := 5) dX11_shape_296 rfl ?_
      refine y_iadd dX11_shape_298 ?_
      replace hf := bnd hf
      obtain ⟨a135, rfl, hf⟩ := hf
      replace hf := bnd hf
      obtain ⟨x136, ex136, hf⟩ := hf
      refine y_iaload ex136 dX11_shape_299 ?_
      refine y_icmp_eq (tgt := 307) dX11_shape_300 (by decide) (fun hc => ?_) (fun hc => ?_)
      · rw [if_pos hc] at hf
        refine y_aload_n (i := 0) dX11_shape_307 rfl rfl ?_
        replace hf := bnd hf
        obtain ⟨r137, er137, hf⟩ := hf
        refine y_getR er137 fl11_23 dX11_shape_308 ?_
        refine y_iload_n (i := 2) dX11_shape_311 rfl rfl ?_
        replace hf := bnd hf
        obtain ⟨a138, rfl, hf⟩ := hf
        replace hf := bnd hf
        obtain ⟨x139, ex139, hf⟩ := hf
        refine y_iaload ex139 dX11_shape_312 ?_
        obtain rfl := Option.some.inj hf
        exact y_ret (v := some (.inl x139)) dX11_shape_313 rfl
      · rw [if_neg hc] at hf
        refine y_iconst (v := (-1)) dX11_shape_303 (by decide) ?_
        refine y_goto (tgt := 313) dX11_shape_304 (by decide) ?_
        obtain rfl := Option.some.inj hf
        exact y_ret (v := some (.inl (-1))) dX11_shape_313 rfl
  rw [if_neg hc] at hf
  refine y_swc (fun hc => ?_) (fun hc => ?_)
  · rw [if_pos hc] at hf
    refine y_aload_n (i := 0) dX11_shape_314 rfl rfl ?_
    replace hf := bnd hf
    obtain ⟨r140, er140, hf⟩ := hf
    refine y_getR er140 fl11_23 dX11_shape_315 ?_
    refine y_iload_n (i := 2) dX11_shape_318 rfl rfl ?_
    replace hf := bnd hf
    obtain ⟨a141, rfl, hf⟩ := hf
    replace hf := bnd hf
    obtain ⟨x142, ex142, hf⟩ := hf
    refine y_iaload ex142 dX11_shape_319 ?_
    refine y_iconst (v := 4) dX11_shape_320 (by decide) ?_
    refine y_icmp_ne (tgt := 328) dX11_shape_321 (by decide) (fun hc => ?_) (fun hc => ?_)
    · rw [if_neg hc] at hf
      refine y_iconst (v := 1) dX11_shape_328 (by decide) ?_
      refine Y.weak (lv2 := [some (.inr (.inr (some a0))), none, some (.inl x2), some (.inl x3), none, none, none, none, none, none, none, none, none, none, none, none]) [true, false, true, true, false, false, false, false, false, false, false, false, false, false, false, false] rfl ?_
      exact xX11_shape_329 hK hf
    · rw [if_pos hc] at hf
      refine y_iconst (v := 0) dX11_shape_324 (by decide) ?_
      refine y_goto (tgt := 329) dX11_shape_325 (by decide) ?_
      refine Y.weak (lv2 := [some (.inr (.inr (some a0))), none, some (.inl x2), some (.inl x3), none, none, none, none, none, none, none, none, none, none, none, none]) [true, false, true, true, false, false, false, false, false, false, false, false, false, false, false, false] rfl ?_
      exact xX11_shape_329 hK hf
  rw [if_neg hc] at hf
  refine y_swc (fun hc => ?_) (fun hc => ?_)
  · rw [if_pos hc] at hf
    refine y_aload_n (i := 0) dX11_shape_377 rfl rfl ?_
    refine y_iload_n (i := 3) dX11_shape_378 rfl rfl ?_
    refine y_iconst (v := 0) dX11_shape_379 (by decide) ?_
    replace hf := bnd hf
    obtain ⟨fs144, efs144, hf⟩ := hf
    replace hf := bnd hf
    obtain ⟨q143, eq143, hf⟩ := hf
    refine y_callV (mj := miX11_takeFrom) (args := [.inl x3, .inl 0]) (st := []) dX11_shape_380 (gd_of 921 rfl rfl) (gd_of 923 rfl rfl) (gd_of 41 rfl rfl) okX11_takeFrom (obO_spec efs144) rfl rfl (xX11_takeFrom (by omega) eq143) (Nat.le_of_ble_eq_true rfl) rfl ?_
    show Y l g miX11_shape (d + 1) 383 [some (.inr (.inr (some a0))), some (.inl x1), some (.inl x2), some (.inl x3), some (.inl x4), some (.inl x5), some (.inl x6), some (.inl x103), none, none, none, none, none, none, none, none] [] q143 _
    refine y_aload_n (i := 0) dX11_shape_383 rfl rfl ?_
    replace hf := bnd hf
    obtain ⟨r145, er145, hf⟩ := hf
    refine y_getR er145 fl11_23 dX11_shape_384 ?_
    refine y_iload_n (i := 2) dX11_shape_387 rfl rfl ?_
    replace hf := bnd hf
    obtain ⟨a146, rfl, hf⟩ := hf
    replace hf := bnd hf
    obtain ⟨x147, ex147, hf⟩ := hf
    refine y_iaload ex147 dX11_shape_388 ?_
    refine y_if_ne (tgt := 447) dX11_shape_389 (by decide) (fun hc => ?_) (fun hc => ?_)
    · rw [if_neg hc] at hf
      refine y_iconst (v := (-1)) dX11_shape_447 (by decide) ?_
      refine y_goto (tgt := 457) dX11_shape_448 (by decide) ?_
      obtain rfl := Option.some.inj hf
      exact y_ret (v := some (.inl (-1))) dX11_shape_457 rfl
    · rw [if_pos hc] at hf
      refine y_aload_n (i := 0) dX11_shape_392 rfl rfl ?_
      refine y_iload_n (i := 2) dX11_shape_393 rfl rfl ?_
      refine y_iconst (v := 0) dX11_shape_394 (by decide) ?_
      refine y_iload_n (i := 3) dX11_shape_395 rfl rfl ?_
      refine y_iconst (v := 0) dX11_shape_396 (by decide) ?_
      replace hf := bnd hf
      obtain ⟨fs149, efs149, hf⟩ := hf
      replace hf := bnd hf
      obtain ⟨q148, eq148, hf⟩ := hf
      refine y_callV (mj := miX11_begins) (args := [.inl x2, .inl 0, .inl x3, .inl 0]) (st := []) dX11_shape_397 (gd_of 952 rfl rfl) (gd_of 954 rfl rfl) (gd_of 48 rfl rfl) okX11_begins (obO_spec efs149) rfl rfl (xX11_begins (by omega) eq148) (Nat.le_of_ble_eq_true rfl) rfl ?_
      show Y l g miX11_shape (d + 1) 400 [some (.inr (.inr (some a0))), some (.inl x1), some (.inl x2), some (.inl x3), some (.inl x4), some (.inl x5), some (.inl x6), some (.inl x103), none, none, none, none, none, none, none, none] [.inl q148.1] q148.2 _
      refine y_if_eq (tgt := 447) dX11_shape_400 (by decide) (fun hc => ?_) (fun hc => ?_)
      · rw [if_pos hc] at hf
        refine y_iconst (v := (-1)) dX11_shape_447 (by decide) ?_
        refine y_goto (tgt := 457) dX11_shape_448 (by decide) ?_
        obtain rfl := Option.some.inj hf
        exact y_ret (v := some (.inl (-1))) dX11_shape_457 rfl
      · rw [if_neg hc] at hf
        refine y_aload_n (i := 0) dX11_shape_403 rfl rfl ?_
        replace hf := bnd hf
        obtain ⟨r150, er150, hf⟩ := hf
        refine y_getR er150 fl11_17 dX11_shape_404 ?_
        refine y_iload_n (i := 3) dX11_shape_407 rfl rfl ?_
        replace hf := bnd hf
        obtain ⟨a151, rfl, hf⟩ := hf
        replace hf := bnd hf
        obtain ⟨x152, ex152, hf⟩ := hf
        refine y_iaload ex152 dX11_shape_408 ?_
        refine y_aload_n (i := 0) dX11_shape_409 rfl rfl ?_
        replace hf := bnd hf
        obtain ⟨r153, er153, hf⟩ := hf
        refine y_getR er153 fl11_17 dX11_shape_410 ?_
        refine y_iload (i := 4) dX11_shape_413 rfl ?_
        replace hf := bnd hf
        obtain ⟨a154, rfl, hf⟩ := hf
        replace hf := bnd hf
        obtain ⟨x155, ex155, hf⟩ := hf
        refine y_iaload ex155 dX11_shape_415 ?_
        refine y_icmp_ne (tgt := 447) dX11_shape_416 (by decide) (fun hc => ?_) (fun hc => ?_)
        · rw [if_neg hc] at hf
          refine y_iconst (v := (-1)) dX11_shape_447 (by decide) ?_
          refine y_goto (tgt := 457) dX11_shape_448 (by decide) ?_
          obtain rfl := Option.some.inj hf
          exact y_ret (v := some (.inl (-1))) dX11_shape_457 rfl
        · rw [if_pos hc] at hf
          refine y_aload_n (i := 0) dX11_shape_419 rfl rfl ?_
          refine y_iload_n (i := 3) dX11_shape_420 rfl rfl ?_
          refine y_iconst (v := 0) dX11_shape_421 (by decide) ?_
          refine y_iload (i := 4) dX11_shape_422 rfl ?_
          refine y_iconst (v := 0) dX11_shape_424 (by decide) ?_
          replace hf := bnd hf
          obtain ⟨fs157, efs157, hf⟩ := hf
          replace hf := bnd hf
          obtain ⟨q156, eq156, hf⟩ := hf
          refine y_callV (mj := miX11_begins) (args := [.inl x3, .inl 0, .inl x4, .inl 0]) (st := []) dX11_shape_425 (gd_of 952 rfl rfl) (gd_of 954 rfl rfl) (gd_of 48 rfl rfl) okX11_begins (obO_spec efs157) rfl rfl (xX11_begins (by omega) eq156) (Nat.le_of_ble_eq_true rfl) rfl ?_
          show Y l g miX11_shape (d + 1) 428 [some (.inr (.inr (some a0))), some (.inl x1), some (.inl x2), some (.inl x3), some (.inl x4), some (.inl x5), some (.inl x6), some (.inl x103), none, none, none, none, none, none, none, none] [.inl q156.1] q156.2 _
          refine y_if_eq (tgt := 447) dX11_shape_428 (by decide) (fun hc => ?_) (fun hc => ?_)
          · rw [if_pos hc] at hf
            refine y_iconst (v := (-1)) dX11_shape_447 (by decide) ?_
            refine y_goto (tgt := 457) dX11_shape_448 (by decide) ?_
            obtain rfl := Option.some.inj hf
            exact y_ret (v := some (.inl (-1))) dX11_shape_457 rfl
          · rw [if_neg hc] at hf
            refine y_aload_n (i := 0) dX11_shape_431 rfl rfl ?_
            replace hf := bnd hf
            obtain ⟨r158, er158, hf⟩ := hf
            refine y_getR er158 fl11_23 dX11_shape_432 ?_
            refine y_iload_n (i := 3) dX11_shape_435 rfl rfl ?_
            replace hf := bnd hf
            obtain ⟨a159, rfl, hf⟩ := hf
            replace hf := bnd hf
            obtain ⟨x160, ex160, hf⟩ := hf
            refine y_iaload ex160 dX11_shape_436 ?_
            refine y_aload_n (i := 0) dX11_shape_437 rfl rfl ?_
            replace hf := bnd hf
            obtain ⟨r161, er161, hf⟩ := hf
            refine y_getR er161 fl11_23 dX11_shape_438 ?_
            refine y_iload (i := 4) dX11_shape_441 rfl ?_
            replace hf := bnd hf
            obtain ⟨a162, rfl, hf⟩ := hf
            replace hf := bnd hf
            obtain ⟨x163, ex163, hf⟩ := hf
            refine y_iaload ex163 dX11_shape_443 ?_
            refine y_icmp_eq (tgt := 451) dX11_shape_444 (by decide) (fun hc => ?_) (fun hc => ?_)
            · rw [if_pos hc] at hf
              refine y_aload_n (i := 0) dX11_shape_451 rfl rfl ?_
              replace hf := bnd hf
              obtain ⟨r164, er164, hf⟩ := hf
              refine y_getR er164 fl11_23 dX11_shape_452 ?_
              refine y_iload_n (i := 3) dX11_shape_455 rfl rfl ?_
              replace hf := bnd hf
              obtain ⟨a165, rfl, hf⟩ := hf
              replace hf := bnd hf
              obtain ⟨x166, ex166, hf⟩ := hf
              refine y_iaload ex166 dX11_shape_456 ?_
              obtain rfl := Option.some.inj hf
              exact y_ret (v := some (.inl x166)) dX11_shape_457 rfl
            · rw [if_neg hc] at hf
              refine y_iconst (v := (-1)) dX11_shape_447 (by decide) ?_
              refine y_goto (tgt := 457) dX11_shape_448 (by decide) ?_
              obtain rfl := Option.some.inj hf
              exact y_ret (v := some (.inl (-1))) dX11_shape_457 rfl
  rw [if_neg hc] at hf
  refine y_swc (fun hc => ?_) (fun hc => ?_)
  · rw [if_pos hc] at hf
    refine Y.weak (lv2 := [some (.inr (.inr (some a0))), some (.inl x1), some (.inl x2), some (.inl x3), none, none, none, some (.inl x103), none, none, none, none, none, none, none, none]) [true, true, true, true, false, false, false, true, false, false, false, false, false, false, false, false] rfl ?_
    exact xX11_shape_458 hK hf
  rw [if_neg hc] at hf
  refine y_swc (fun hc => ?_) (fun hc => ?_)
  · rw [if_pos hc] at hf
    refine Y.weak (lv2 := [some (.inr (.inr (some a0))), some (.inl x1), some (.inl x2), some (.inl x3), none, none, none, some (.inl x103), none, none, none, none, none, none, none, none]) [true, true, true, true, false, false, false, true, false, false, false, false, false, false, false, false] rfl ?_
    exact xX11_shape_458 hK hf
  rw [if_neg hc] at hf
  refine y_swc (fun hc => ?_) (fun hc => ?_)
  · rw [if_pos hc] at hf
    refine y_aload_n (i := 0) dX11_shape_542 rfl rfl ?_
    replace hf := bnd hf
    obtain ⟨r167, er167, hf⟩ := hf
    refine y_getR er167 fl11_23 dX11_shape_543 ?_
    refine y_iload (i := 4) dX11_shape_546 rfl ?_
    replace hf := bnd hf
    obtain ⟨a168, rfl, hf⟩ := hf
    replace hf := bnd hf
    obtain ⟨x169, ex169, hf⟩ := hf
    refine y_iaload ex169 dX11_shape_548 ?_
    refine y_istore (i := 11) (lv2 := [some (.inr (.inr (some a0))), some (.inl x1), some (.inl x2), some (.inl x3), some (.inl x4), some (.inl x5), some (.inl x6), some (.inl x103), none, none, none, some (.inl x169), none, none, none, none]) dX11_shape_549 (by decide) rfl ?_
    refine y_iload (i := 7) dX11_shape_551 rfl ?_
    refine y_if_ne (tgt := 634) dX11_shape_553 (by decide) (fun hc => ?_) (fun hc => ?_)
    · rw [if_neg hc] at hf
      refine Y.weak (lv2 := [none, none, none, none, none, none, none, none, none, none, none, some (.inl x169), none, none, none, none]) [false, false, false, false, false, false, false, false, false, false, false, true, false, false, false, false] rfl ?_
      exact xX11_shape_634 hK hf
    · rw [if_pos hc] at hf
      refine y_aload_n (i := 0) dX11_shape_556 rfl rfl ?_
      replace hf := bnd hf
      obtain ⟨r170, er170, hf⟩ := hf
      refine y_getR er170 fl11_23 dX11_shape_557 ?_
      refine y_iload_n (i := 2) dX11_shape_560 rfl rfl ?_
      replace hf := bnd hf
      obtain ⟨a171, rfl, hf⟩ := hf
      replace hf := bnd hf
      obtain ⟨x172, ex172, hf⟩ := hf
      refine y_iaload ex172 dX11_shape_561 ?_
      refine y_if_ne (tgt := 634) dX11_shape_562 (by decide) (fun hc => ?_) (fun hc => ?_)
      · rw [if_neg hc] at hf
        refine Y.weak (lv2 := [none, none, none, none, none, none, none, none, none, none, none, some (.inl x169), none, none, none, none]) [false, false, false, false, false, false, false, false, false, false, false, true, false, false, false, false] rfl ?_
        exact xX11_shape_634 hK hf
      · rw [if_pos hc] at hf
        refine y_aload_n (i := 0) dX11_shape_565 rfl rfl ?_
        replace hf := bnd hf
        obtain ⟨r173, er173, hf⟩ := hf
        refine y_getR er173 fl11_17 dX11_shape_566 ?_
        refine y_iload (i := 4) dX11_shape_569 rfl ?_
        replace hf := bnd hf
        obtain ⟨a174, rfl, hf⟩ := hf
        replace hf := bnd hf
        obtain ⟨x175, ex175, hf⟩ := hf
        refine y_iaload ex175 dX11_shape_571 ?_
        refine y_if_ne (tgt := 634) dX11_shape_572 (by decide) (fun hc => ?_) (fun hc => ?_)
        · rw [if_neg hc] at hf
          refine Y.weak (lv2 := [none, none, none, none, none, none, none, none, none, none, none, some (.inl x169), none, none, none, none]) [false, false, false, false, false, false, false, false, false, false, false, true, false, false, false, false] rfl ?_
          exact xX11_shape_634 hK hf
        · rw [if_pos hc] at hf
          refine y_iload (i := 11) dX11_shape_575 rfl ?_
          refine y_iconst (v := 4) dX11_shape_577 (by decide) ?_
          refine y_icmp_eq (tgt := 634) dX11_shape_578 (by decide) (fun hc => ?_) (fun hc => ?_)
          · rw [if_pos hc] at hf
            refine Y.weak (lv2 := [none, none, none, none, none, none, none, none, none, none, none, some (.inl x169), none, none, none, none]) [false, false, false, false, false, false, false, false, false, false, false, true, false, false, false, false] rfl ?_
            exact xX11_shape_634 hK hf
          · rw [if_neg hc] at hf
            refine y_aload_n (i := 0) dX11_shape_581 rfl rfl ?_
            replace hf := bnd hf
            obtain ⟨r176, er176, hf⟩ := hf
            refine y_getR er176 fl11_17 dX11_shape_582 ?_
            refine y_iload_n (i := 3) dX11_shape_585 rfl rfl ?_
            replace hf := bnd hf
            obtain ⟨a177, rfl, hf⟩ := hf
            replace hf := bnd hf
            obtain ⟨x178, ex178, hf⟩ := hf
            refine y_iaload ex178 dX11_shape_586 ?_
            refine y_iconst (v := 2) dX11_shape_587 (by decide) ?_
            refine y_icmp_ne (tgt := 634) dX11_shape_588 (by decide) (fun hc => ?_) (fun hc => ?_)
            · rw [if_neg hc] at hf
              refine Y.weak (lv2 := [none, none, none, none, none, none, none, none, none, none, none, some (.inl x169), none, none, none, none]) [false, false, false, false, false, false, false, false, false, false, false, true, false, false, false, false] rfl ?_
              exact xX11_shape_634 hK hf
            · rw [if_pos hc] at hf
              refine y_aload_n (i := 0) dX11_shape_591 rfl rfl ?_
              replace hf := bnd hf
              obtain ⟨r179, er179, hf⟩ := hf
              refine y_getR er179 fl11_20 dX11_shape_592 ?_
              refine y_bipush (v := 6) dX11_shape_595 (by decide) ?_
              refine y_iload_n (i := 3) dX11_shape_597 rfl rfl ?_
              refine y_imul dX11_shape_598 ?_
              replace hf := bnd hf
              obtain ⟨a180, rfl, hf⟩ := hf
              replace hf := bnd hf
              obtain ⟨x181, ex181, hf⟩ := hf
              refine y_iaload ex181 dX11_shape_599 ?_
              refine y_iload (i := 11) dX11_shape_600 rfl ?_
              refine y_icmp_ne (tgt := 634) dX11_shape_602 (by decide) (fun hc => ?_) (fun hc => ?_)
              · rw [if_neg hc] at hf
                refine Y.weak (lv2 := [none, none, none, none, none, none, none, none, none, none, none, some (.inl x169), none, none, none, none]) [false, false, false, false, false, false, false, false, false, false, false, true, false, false, false, false] rfl ?_
                exact xX11_shape_634 hK hf
              · rw [if_pos hc] at hf
                refine y_aload_n (i := 0) dX11_shape_605 rfl rfl ?_
                replace hf := bnd hf
                obtain ⟨r182, er182, hf⟩ := hf
                refine y_getR er182 fl11_20 dX11_shape_606 ?_
                refine y_bipush (v := 6) dX11_shape_609 (by decide) ?_
                refine y_iload_n (i := 3) dX11_shape_611 rfl rfl ?_
                refine y_imul dX11_shape_612 ?_
                refine y_iconst (v := 1) dX11_shape_613 (by decide) ?_
                refine y_iadd dX11_shape_614 ?_
                replace hf := bnd hf
                obtain ⟨a183, rfl, hf⟩ := hf
                replace hf := bnd hf
                obtain ⟨x184, ex184, hf⟩ := hf
                refine y_iaload ex184 dX11_shape_615 ?_
                refine y_if_ne (tgt := 634) dX11_shape_616 (by decide) (fun hc => ?_) (fun hc => ?_)
                · rw [if_neg hc] at hf
                  refine Y.weak (lv2 := [none, none, none, none, none, none, none, none, none, none, none, some (.inl x169), none, none, none, none]) [false, false, false, false, false, false, false, false, false, false, false, true, false, false, false, false] rfl ?_
                  exact xX11_shape_634 hK hf
                · rw [if_pos hc] at hf
                  refine y_aload_n (i := 0) dX11_shape_619 rfl rfl ?_
                  replace hf := bnd hf
                  obtain ⟨r185, er185, hf⟩ := hf
                  refine y_getR er185 fl11_23 dX11_shape_620 ?_
                  refine y_iload_n (i := 3) dX11_shape_623 rfl rfl ?_
                  replace hf := bnd hf
                  obtain ⟨a186, rfl, hf⟩ := hf
                  replace hf := bnd hf
                  obtain ⟨x187, ex187, hf⟩ := hf
                  refine y_iaload ex187 dX11_shape_624 ?_
                  refine y_iload (i := 11) dX11_shape_625 rfl ?_
                  refine y_icmp_ne (tgt := 634) dX11_shape_627 (by decide) (fun hc => ?_) (fun hc => ?_)
                  · rw [if_neg hc] at hf
                    refine Y.weak (lv2 := [none, none, none, none, none, none, none, none, none, none, none, some (.inl x169), none, none, none, none]) [false, false, false, false, false, false, false, false, false, false, false, true, false, false, false, false] rfl ?_
                    exact xX11_shape_634 hK hf
                  · rw [if_pos hc] at hf
                    refine y_iconst (v := 1) dX11_shape_630 (by decide) ?_
                    refine y_goto (tgt := 635) dX11_shape_631 (by decide) ?_
                    refine y_istore (i := 12) (lv2 := [some (.inr (.inr (some a0))), some (.inl x1), some (.inl x2), some (.inl x3), some (.inl x4), some (.inl x5), some (.inl x6), some (.inl x103), none, none, none, some (.inl x169), some (.inl 1), none, none, none]) dX11_shape_635 (by decide) rfl ?_
                    refine y_iload (i := 12) dX11_shape_637 rfl ?_
                    refine y_if_eq (tgt := 647) dX11_shape_639 (by decide) (fun hc => absurd hc (by decide)) (fun _ => ?_)
                    refine y_iload (i := 11) dX11_shape_642 rfl ?_
                    refine y_goto (tgt := 648) dX11_shape_644 (by decide) ?_
                    obtain rfl := Option.some.inj hf
                    exact y_ret (v := some (.inl x169)) dX11_shape_648 rfl
  rw [if_neg hc] at hf
  refine y_swc (fun hc => ?_) (fun hc => ?_)
  · rw [if_pos hc] at hf
    refine y_iload (i := 7) dX11_shape_649 rfl ?_
    refine y_iload (i := 5) dX11_shape_651 rfl ?_
    refine y_icmp_lt (tgt := 660) dX11_shape_653 (by decide) (fun hc => ?_) (fun hc => ?_)
    · rw [if_pos hc] at hf
      refine y_iconst (v := 0) dX11_shape_660 (by decide) ?_
      refine y_istore (i := 13) (lv2 := [some (.inr (.inr (some a0))), some (.inl x1), some (.inl x2), some (.inl x3), some (.inl x4), some (.inl x5), some (.inl x6), some (.inl x103), none, none, none, none, none, some (.inl 0), none, none]) dX11_shape_661 (by decide) rfl ?_
      refine y_iload (i := 7) dX11_shape_663 rfl ?_
      refine y_iload (i := 5) dX11_shape_665 rfl ?_
      refine y_isub dX11_shape_667 ?_
      refine y_istore (i := 14) (lv2 := [some (.inr (.inr (some a0))), some (.inl x1), some (.inl x2), some (.inl x3), some (.inl x4), some (.inl x5), some (.inl x6), some (.inl x103), none, none, none, none, none, some (.inl 0), some (.inl (x103 - x5)), none]) dX11_shape_668 (by decide) rfl ?_
      refine Y.weak (lv2 := [some (.inr (.inr (some a0))), none, some (.inl x2), none, none, some (.inl x5), none, some (.inl x103), none, none, none, none, none, some (.inl 0), some (.inl (x103 - x5)), none]) [true, false, true, false, false, true, false, true, false, false, false, false, false, true, true, false] rfl ?_
      exact xX11_shape_670 hK 4000 _ _ _ _ _ _ _ _ hf
    · rw [if_neg hc] at hf
      refine y_iconst (v := 1) dX11_shape_656 (by decide) ?_
      refine y_goto (tgt := 661) dX11_shape_657 (by decide) ?_
      refine y_istore (i := 13) (lv2 := [some (.inr (.inr (some a0))), some (.inl x1), some (.inl x2), some (.inl x3), some (.inl x4), some (.inl x5), some (.inl x6), some (.inl x103), none, none, none, none, none, some (.inl 1), none, none]) dX11_shape_661 (by decide) rfl ?_
      refine y_iload (i := 7) dX11_shape_663 rfl ?_
      refine y_iload (i := 5) dX11_shape_665 rfl ?_
      refine y_isub dX11_shape_667 ?_
      refine y_istore (i := 14) (lv2 := [some (.inr (.inr (some a0))), some (.inl x1), some (.inl x2), some (.inl x3), some (.inl x4), some (.inl x5), some (.inl x6), some (.inl x103), none, none, none, none, none, some (.inl 1), some (.inl (x103 - x5)), none]) dX11_shape_668 (by decide) rfl ?_
      refine Y.weak (lv2 := [some (.inr (.inr (some a0))), none, some (.inl x2), none, none, some (.inl x5), none, some (.inl x103), none, none, none, none, none, some (.inl 1), some (.inl (x103 - x5)), none]) [true, false, true, false, false, true, false, true, false, false, false, false, false, true, true, false] rfl ?_
      exact xX11_shape_670 hK 4000 _ _ _ _ _ _ _ _ hf
  rw [if_neg hc] at hf
  refine y_swc (fun hc => ?_) (fun hc => ?_)
  · rw [if_pos hc] at hf
    refine y_iload (i := 7) dX11_shape_742 rfl ?_
    refine y_if_eq (tgt := 777) dX11_shape_744 (by decide) (fun hc => ?_) (fun hc => ?_)
    · rw [if_pos hc] at hf
      refine y_iconst (v := (-1)) dX11_shape_777 (by decide) ?_
      obtain rfl := Option.some.inj hf
      exact y_ret (v := some (.inl (-1))) dX11_shape_778 rfl
    · rw [if_neg hc] at hf
      refine y_aload_n (i := 0) dX11_shape_747 rfl rfl ?_
      replace hf := bnd hf
      obtain ⟨r188, er188, hf⟩ := hf
      refine y_getR er188 fl11_20 dX11_shape_748 ?_
      refine y_bipush (v := 6) dX11_shape_751 (by decide) ?_
      refine y_iload_n (i := 2) dX11_shape_753 rfl rfl ?_
      refine y_imul dX11_shape_754 ?_
      refine y_iload (i := 7) dX11_shape_755 rfl ?_
      refine y_iadd dX11_shape_757 ?_
      refine y_iconst (v := 1) dX11_shape_758 (by decide) ?_
      refine y_isub dX11_shape_759 ?_
      replace hf := bnd hf
      obtain ⟨a189, rfl, hf⟩ := hf
      replace hf := bnd hf
      obtain ⟨x190, ex190, hf⟩ := hf
      refine y_iaload ex190 dX11_shape_760 ?_
      refine y_iconst (v := 3) dX11_shape_761 (by decide) ?_
      refine y_icmp_ne (tgt := 777) dX11_shape_762 (by decide) (fun hc => ?_) (fun hc => ?_)
      · rw [if_neg hc] at hf
        refine y_iconst (v := (-1)) dX11_shape_777 (by decide) ?_
        obtain rfl := Option.some.inj hf
        exact y_ret (v := some (.inl (-1))) dX11_shape_778 rfl
      · rw [if_pos hc] at hf
        refine y_iload (i := 7) dX11_shape_765 rfl ?_
        refine y_iconst (v := 1) dX11_shape_767 (by decide) ?_
        refine y_isub dX11_shape_768 ?_
        refine y_iload (i := 5) dX11_shape_769 rfl ?_
        refine y_iadd dX11_shape_771 ?_
        refine y_bipush (v := 6) dX11_shape_772 (by decide) ?_
        refine y_icmp_le (tgt := 779) dX11_shape_774 (by decide) (fun hc => ?_) (fun hc => ?_)
        · rw [if_pos hc] at hf
          refine y_aload_n (i := 0) dX11_shape_779 rfl rfl ?_
          refine y_iload (i := 7) dX11_shape_780 rfl ?_
          refine y_iconst (v := 1) dX11_shape_782 (by decide) ?_
          refine y_isub dX11_shape_783 ?_
          replace hf := bnd hf
          obtain ⟨h191, eh191, hf⟩ := hf
          refine y_put eh191 (pl11_118_m rfl) dX11_shape_784 ?_
          refine y_iconst (v := 0) dX11_shape_787 (by decide) ?_
          refine y_istore (i := 14) (lv2 := [some (.inr (.inr (some a0))), some (.inl x1), some (.inl x2), some (.inl x3), some (.inl x4), some (.inl x5), some (.inl x6), some (.inl x103), none, none, none, none, none, none, some (.inl 0), none]) dX11_shape_788 (by decide) rfl ?_
          refine Y.weak (lv2 := [some (.inr (.inr (some a0))), none, some (.inl x2), none, none, some (.inl x5), none, none, none, none, none, none, none, none, some (.inl 0), none]) [true, false, true, false, false, true, false, false, false, false, false, false, false, false, true, false] rfl ?_
          exact xX11_shape_790 hK 4000 _ _ _ _ _ _ hf
        · rw [if_neg hc] at hf
          refine y_iconst (v := (-1)) dX11_shape_777 (by decide) ?_
          obtain rfl := Option.some.inj hf
          exact y_ret (v := some (.inl (-1))) dX11_shape_778 rfl
  rw [if_neg hc] at hf
  refine y_swn ?_
  refine y_aload_n (i := 0) dX11_shape_819 rfl rfl ?_
  replace hf := bnd hf
  obtain ⟨r192, er192, hf⟩ := hf
  refine y_getR er192 fl11_17 dX11_shape_820 ?_
  refine y_iload_n (i := 3) dX11_shape_823 rfl rfl ?_
  replace hf := bnd hf
  obtain ⟨a193, rfl, hf⟩ := hf
  replace hf := bnd hf
  obtain ⟨x194, ex194, hf⟩ := hf
  refine y_iaload ex194 dX11_shape_824 ?_
  refine y_iload (i := 7) dX11_shape_825 rfl ?_
  refine y_icmp_ne (tgt := 852) dX11_shape_827 (by decide) (fun hc => ?_) (fun hc => ?_)
  · rw [if_neg hc] at hf
    refine y_iconst (v := 0) dX11_shape_852 (by decide) ?_
    refine y_istore (i := 14) (lv2 := [some (.inr (.inr (some a0))), some (.inl x1), some (.inl x2), some (.inl x3), some (.inl x4), some (.inl x5), some (.inl x6), some (.inl x103), none, none, none, none, none, none, some (.inl 0), none]) dX11_shape_853 (by decide) rfl ?_
    refine y_iconst (v := 0) dX11_shape_855 (by decide) ?_
    refine y_istore (i := 15) (lv2 := [some (.inr (.inr (some a0))), some (.inl x1), some (.inl x2), some (.inl x3), some (.inl x4), some (.inl x5), some (.inl x6), some (.inl x103), none, none, none, none, none, none, some (.inl 0), some (.inl 0)]) dX11_shape_856 (by decide) rfl ?_
    refine Y.weak (lv2 := [some (.inr (.inr (some a0))), none, some (.inl x2), some (.inl x3), none, none, none, some (.inl x103), none, none, none, none, none, none, some (.inl 0), some (.inl 0)]) [true, false, true, true, false, false, false, true, false, false, false, false, false, false, true, true] rfl ?_
    exact xX11_shape_858 hK 4000 _ _ _ _ _ _ _ _ hf
  · rw [if_pos hc] at hf
    refine y_aload_n (i := 0) dX11_shape_830 rfl rfl ?_
    replace hf := bnd hf
    obtain ⟨r195, er195, hf⟩ := hf
    refine y_getR er195 fl11_23 dX11_shape_831 ?_
    refine y_iload_n (i := 2) dX11_shape_834 rfl rfl ?_
    replace hf := bnd hf
    obtain ⟨a196, rfl, hf⟩ := hf
    replace hf := bnd hf
    obtain ⟨x197, ex197, hf⟩ := hf
    refine y_iaload ex197 dX11_shape_835 ?_
    refine y_aload_n (i := 0) dX11_shape_836 rfl rfl ?_
    replace hf := bnd hf
    obtain ⟨r198, er198, hf⟩ := hf
    refine y_getR er198 fl11_23 dX11_shape_837 ?_
    refine y_iload_n (i := 3) dX11_shape_840 rfl rfl ?_
    replace hf := bnd hf
    obtain ⟨a199, rfl, hf⟩ := hf
    replace hf := bnd hf
    obtain ⟨x200, ex200, hf⟩ := hf
    refine y_iaload ex200 dX11_shape_841 ?_
    replace hf := bnd hf
    obtain ⟨q201, eq201, hf⟩ := hf
    refine y_callS (mj := miX11_canAdapt) (args := [.inl x197, .inl x200]) (st := []) dX11_shape_842 (gd_of 933 rfl rfl) (gd_of 934 rfl rfl) okX11_canAdapt (xX11_canAdapt (by omega) eq201) (Nat.le_of_ble_eq_true rfl) rfl ?_
    show Y l g miX11_shape (d + 1) 845 [some (.inr (.inr (some a0))), some (.inl x1), some (.inl x2), some (.inl x3), some (.inl x4), some (.inl x5), some (.inl x6), some (.inl x103), none, none, none, none, none, none, none, none] [.inl q201.1] q201.2 _
    refine y_if_eq (tgt := 852) dX11_shape_845 (by decide) (fun hc => ?_) (fun hc => ?_)
    · rw [if_pos hc] at hf
      refine y_iconst (v := 0) dX11_shape_852 (by decide) ?_
      refine y_istore (i := 14) (lv2 := [some (.inr (.inr (some a0))), some (.inl x1), some (.inl x2), some (.inl x3), some (.inl x4), some (.inl x5), some (.inl x6), some (.inl x103), none, none, none, none, none, none, some (.inl 0), none]) dX11_shape_853 (by decide) rfl ?_
      refine y_iconst (v := 0) dX11_shape_855 (by decide) ?_
      refine y_istore (i := 15) (lv2 := [some (.inr (.inr (some a0))), some (.inl x1), some (.inl x2), some (.inl x3), some (.inl x4), some (.inl x5), some (.inl x6), some (.inl x103), none, none, none, none, none, none, some (.inl 0), some (.inl 0)]) dX11_shape_856 (by decide) rfl ?_
      refine Y.weak (lv2 := [some (.inr (.inr (some a0))), none, some (.inl x2), some (.inl x3), none, none, none, some (.inl x103), none, none, none, none, none, none, some (.inl 0), some (.inl 0)]) [true, false, true, true, false, false, false, true, false, false, false, false, false, false, true, true] rfl ?_
      exact xX11_shape_858 hK 4000 _ _ _ _ _ _ _ _ hf
    · rw [if_neg hc] at hf
      refine y_iconst (v := 1) dX11_shape_848 (by decide) ?_
      refine y_goto (tgt := 853) dX11_shape_849 (by decide) ?_
      refine y_istore (i := 14) (lv2 := [some (.inr (.inr (some a0))), some (.inl x1), some (.inl x2), some (.inl x3), some (.inl x4), some (.inl x5), some (.inl x6), some (.inl x103), none, none, none, none, none, none, some (.inl 1), none]) dX11_shape_853 (by decide) rfl ?_
      refine y_iconst (v := 0) dX11_shape_855 (by decide) ?_
      refine y_istore (i := 15) (lv2 := [some (.inr (.inr (some a0))), some (.inl x1), some (.inl x2), some (.inl x3), some (.inl x4), some (.inl x5), some (.inl x6), some (.inl x103), none, none, none, none, none, none, some (.inl 1), some (.inl 0)]) dX11_shape_856 (by decide) rfl ?_
      refine Y.weak (lv2 := [some (.inr (.inr (some a0))), none, some (.inl x2), some (.inl x3), none, none, none, some (.inl x103), none, none, none, none, none, none, some (.inl 1), some (.inl 0)]) [true, false, true, true, false, false, false, true, false, false, false, false, false, false, true, true] rfl ?_
      exact xX11_shape_858 hK 4000 _ _ _ _ _ _ _ _ hf
