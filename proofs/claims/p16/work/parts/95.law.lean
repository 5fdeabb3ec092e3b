set_option maxRecDepth 100000 in
theorem dL_law_0 : decode code 0 = .ok (.new 7, 3) := by decide +kernel
set_option maxRecDepth 100000 in
theorem dL_law_3 : decode code 3 = .ok (.dup, 1) := by decide +kernel
set_option maxRecDepth 100000 in
theorem dL_law_4 : decode code 4 = .ok (.invokespecial 9, 3) := by decide +kernel
set_option maxRecDepth 100000 in
theorem dL_law_7 : decode code 7 = .ok (.astore_n 1, 1) := by decide +kernel
set_option maxRecDepth 100000 in
theorem dL_law_8 : decode code 8 = .ok (.new 10, 3) := by decide +kernel
set_option maxRecDepth 100000 in
theorem dL_law_11 : decode code 11 = .ok (.dup, 1) := by decide +kernel
set_option maxRecDepth 100000 in
theorem dL_law_12 : decode code 12 = .ok (.invokespecial 12, 3) := by decide +kernel
set_option maxRecDepth 100000 in
theorem dL_law_15 : decode code 15 = .ok (.astore_n 2, 1) := by decide +kernel
set_option maxRecDepth 100000 in
theorem dL_law_16 : decode code 16 = .ok (.iconst 0, 1) := by decide +kernel
set_option maxRecDepth 100000 in
theorem dL_law_17 : decode code 17 = .ok (.istore_n 3, 1) := by decide +kernel
set_option maxRecDepth 100000 in
theorem dL_law_18 : decode code 18 = .ok (.iload_n 3, 1) := by decide +kernel
set_option maxRecDepth 100000 in
theorem dL_law_19 : decode code 19 = .ok (.aload_n 0, 1) := by decide +kernel
set_option maxRecDepth 100000 in
theorem dL_law_20 : decode code 20 = .ok (.arraylength, 1) := by decide +kernel
set_option maxRecDepth 100000 in
theorem dL_law_21 : decode code 21 = .ok (.bipush 7, 2) := by decide +kernel
set_option maxRecDepth 100000 in
theorem dL_law_23 : decode code 23 = .ok (.isub, 1) := by decide +kernel
set_option maxRecDepth 100000 in
theorem dL_law_24 : decode code 24 = .ok (.if_icmp .gt 667, 3) := by decide +kernel
set_option maxRecDepth 100000 in
theorem dL_law_27 : decode code 27 = .ok (.aload_n 0, 1) := by decide +kernel
set_option maxRecDepth 100000 in
theorem dL_law_28 : decode code 28 = .ok (.iload_n 3, 1) := by decide +kernel
set_option maxRecDepth 100000 in
theorem dL_law_29 : decode code 29 = .ok (.iaload, 1) := by decide +kernel
set_option maxRecDepth 100000 in
theorem dL_law_30 : decode code 30 = .ok (.bipush 15, 2) := by decide +kernel
set_option maxRecDepth 100000 in
theorem dL_law_32 : decode code 32 = .ok (.iand, 1) := by decide +kernel
set_option maxRecDepth 100000 in
theorem dL_law_33 : decode code 33 = .ok (.tableswitch 652 0 15 #[79, 122, 197, 220, 263, 296, 369, 382, 431, 464, 513, 546, 569, 602, 615, 629], 79) := by decide +kernel
set_option maxRecDepth 100000 in
theorem dL_law_112 : decode code 112 = .ok (.aload_n 1, 1) := by decide +kernel
set_option maxRecDepth 100000 in
theorem dL_law_113 : decode code 113 = .ok (.aload_n 0, 1) := by decide +kernel
set_option maxRecDepth 100000 in
theorem dL_law_114 : decode code 114 = .ok (.iload_n 3, 1) := by decide +kernel
set_option maxRecDepth 100000 in
theorem dL_law_115 : decode code 115 = .ok (.iconst 1, 1) := by decide +kernel
set_option maxRecDepth 100000 in
theorem dL_law_116 : decode code 116 = .ok (.iadd, 1) := by decide +kernel
set_option maxRecDepth 100000 in
theorem dL_law_117 : decode code 117 = .ok (.iaload, 1) := by decide +kernel
set_option maxRecDepth 100000 in
theorem dL_law_118 : decode code 118 = .ok (.aload_n 0, 1) := by decide +kernel
set_option maxRecDepth 100000 in
theorem dL_law_119 : decode code 119 = .ok (.iload_n 3, 1) := by decide +kernel
set_option maxRecDepth 100000 in
theorem dL_law_120 : decode code 120 = .ok (.iconst 2, 1) := by decide +kernel
set_option maxRecDepth 100000 in
theorem dL_law_121 : decode code 121 = .ok (.iadd, 1) := by decide +kernel
set_option maxRecDepth 100000 in
theorem dL_law_122 : decode code 122 = .ok (.iaload, 1) := by decide +kernel
set_option maxRecDepth 100000 in
theorem dL_law_123 : decode code 123 = .ok (.aload_n 0, 1) := by decide +kernel
set_option maxRecDepth 100000 in
theorem dL_law_124 : decode code 124 = .ok (.iload_n 3, 1) := by decide +kernel
set_option maxRecDepth 100000 in
theorem dL_law_125 : decode code 125 = .ok (.iconst 3, 1) := by decide +kernel
set_option maxRecDepth 100000 in
theorem dL_law_126 : decode code 126 = .ok (.iadd, 1) := by decide +kernel
set_option maxRecDepth 100000 in
theorem dL_law_127 : decode code 127 = .ok (.iaload, 1) := by decide +kernel
set_option maxRecDepth 100000 in
theorem dL_law_128 : decode code 128 = .ok (.invokevirtual 13, 3) := by decide +kernel
set_option maxRecDepth 100000 in
theorem dL_law_131 : decode code 131 = .ok (.pop, 1) := by decide +kernel
set_option maxRecDepth 100000 in
theorem dL_law_132 : decode code 132 = .ok (.aload_n 2, 1) := by decide +kernel
set_option maxRecDepth 100000 in
theorem dL_law_133 : decode code 133 = .ok (.aload_n 0, 1) := by decide +kernel
set_option maxRecDepth 100000 in
theorem dL_law_134 : decode code 134 = .ok (.iload_n 3, 1) := by decide +kernel
set_option maxRecDepth 100000 in
theorem dL_law_135 : decode code 135 = .ok (.iconst 1, 1) := by decide +kernel
set_option maxRecDepth 100000 in
theorem dL_law_136 : decode code 136 = .ok (.iadd, 1) := by decide +kernel
set_option maxRecDepth 100000 in
theorem dL_law_137 : decode code 137 = .ok (.iaload, 1) := by decide +kernel
set_option maxRecDepth 100000 in
theorem dL_law_138 : decode code 138 = .ok (.aload_n 0, 1) := by decide +kernel
set_option maxRecDepth 100000 in
theorem dL_law_139 : decode code 139 = .ok (.iload_n 3, 1) := by decide +kernel
set_option maxRecDepth 100000 in
theorem dL_law_140 : decode code 140 = .ok (.iconst 2, 1) := by decide +kernel
set_option maxRecDepth 100000 in
theorem dL_law_141 : decode code 141 = .ok (.iadd, 1) := by decide +kernel
set_option maxRecDepth 100000 in
theorem dL_law_142 : decode code 142 = .ok (.iaload, 1) := by decide +kernel
set_option maxRecDepth 100000 in
theorem dL_law_143 : decode code 143 = .ok (.aload_n 0, 1) := by decide +kernel
set_option maxRecDepth 100000 in
theorem dL_law_144 : decode code 144 = .ok (.iload_n 3, 1) := by decide +kernel
set_option maxRecDepth 100000 in
theorem dL_law_145 : decode code 145 = .ok (.iconst 3, 1) := by decide +kernel
set_option maxRecDepth 100000 in
theorem dL_law_146 : decode code 146 = .ok (.iadd, 1) := by decide +kernel
set_option maxRecDepth 100000 in
theorem dL_law_147 : decode code 147 = .ok (.iaload, 1) := by decide +kernel
set_option maxRecDepth 100000 in
theorem dL_law_148 : decode code 148 = .ok (.invokevirtual 17, 3) := by decide +kernel
set_option maxRecDepth 100000 in
theorem dL_law_151 : decode code 151 = .ok (.pop, 1) := by decide +kernel
set_option maxRecDepth 100000 in
theorem dL_law_152 : decode code 152 = .ok (.goto 533, 3) := by decide +kernel
set_option maxRecDepth 100000 in
theorem dL_law_155 : decode code 155 = .ok (.aload_n 1, 1) := by decide +kernel
set_option maxRecDepth 100000 in
theorem dL_law_156 : decode code 156 = .ok (.aload_n 0, 1) := by decide +kernel
set_option maxRecDepth 100000 in
theorem dL_law_157 : decode code 157 = .ok (.iload_n 3, 1) := by decide +kernel
set_option maxRecDepth 100000 in
theorem dL_law_158 : decode code 158 = .ok (.iconst 1, 1) := by decide +kernel
set_option maxRecDepth 100000 in
theorem dL_law_159 : decode code 159 = .ok (.iadd, 1) := by decide +kernel
set_option maxRecDepth 100000 in
theorem dL_law_160 : decode code 160 = .ok (.iaload, 1) := by decide +kernel
set_option maxRecDepth 100000 in
theorem dL_law_161 : decode code 161 = .ok (.aload_n 0, 1) := by decide +kernel
set_option maxRecDepth 100000 in
theorem dL_law_162 : decode code 162 = .ok (.iload_n 3, 1) := by decide +kernel
set_option maxRecDepth 100000 in
theorem dL_law_163 : decode code 163 = .ok (.iconst 2, 1) := by decide +kernel
set_option maxRecDepth 100000 in
theorem dL_law_164 : decode code 164 = .ok (.iadd, 1) := by decide +kernel
set_option maxRecDepth 100000 in
theorem dL_law_165 : decode code 165 = .ok (.iaload, 1) := by decide +kernel
set_option maxRecDepth 100000 in
theorem dL_law_166 : decode code 166 = .ok (.aload_n 0, 1) := by decide +kernel
set_option maxRecDepth 100000 in
theorem dL_law_167 : decode code 167 = .ok (.iload_n 3, 1) := by decide +kernel
set_option maxRecDepth 100000 in
theorem dL_law_168 : decode code 168 = .ok (.iconst 3, 1) := by decide +kernel
set_option maxRecDepth 100000 in
theorem dL_law_169 : decode code 169 = .ok (.iadd, 1) := by decide +kernel
set_option maxRecDepth 100000 in
theorem dL_law_170 : decode code 170 = .ok (.iaload, 1) := by decide +kernel
set_option maxRecDepth 100000 in
theorem dL_law_171 : decode code 171 = .ok (.aload_n 0, 1) := by decide +kernel
set_option maxRecDepth 100000 in
theorem dL_law_172 : decode code 172 = .ok (.iload_n 3, 1) := by decide +kernel
set_option maxRecDepth 100000 in
theorem dL_law_173 : decode code 173 = .ok (.iconst 4, 1) := by decide +kernel
set_option maxRecDepth 100000 in
theorem dL_law_174 : decode code 174 = .ok (.iadd, 1) := by decide +kernel
set_option maxRecDepth 100000 in
theorem dL_law_175 : decode code 175 = .ok (.iaload, 1) := by decide +kernel
set_option maxRecDepth 100000 in
theorem dL_law_176 : decode code 176 = .ok (.aload_n 0, 1) := by decide +kernel
set_option maxRecDepth 100000 in
theorem dL_law_177 : decode code 177 = .ok (.iload_n 3, 1) := by decide +kernel
set_option maxRecDepth 100000 in
theorem dL_law_178 : decode code 178 = .ok (.iconst 5, 1) := by decide +kernel
set_option maxRecDepth 100000 in
theorem dL_law_179 : decode code 179 = .ok (.iadd, 1) := by decide +kernel
set_option maxRecDepth 100000 in
theorem dL_law_180 : decode code 180 = .ok (.iaload, 1) := by decide +kernel
set_option maxRecDepth 100000 in
theorem dL_law_181 : decode code 181 = .ok (.aload_n 0, 1) := by decide +kernel
set_option maxRecDepth 100000 in
theorem dL_law_182 : decode code 182 = .ok (.iload_n 3, 1) := by decide +kernel
set_option maxRecDepth 100000 in
theorem dL_law_183 : decode code 183 = .ok (.bipush 6, 2) := by decide +kernel
set_option maxRecDepth 100000 in
theorem dL_law_185 : decode code 185 = .ok (.iadd, 1) := by decide +kernel
set_option maxRecDepth 100000 in
theorem dL_law_186 : decode code 186 = .ok (.iaload, 1) := by decide +kernel
set_option maxRecDepth 100000 in
theorem dL_law_187 : decode code 187 = .ok (.invokevirtual 18, 3) := by decide +kernel
set_option maxRecDepth 100000 in
theorem dL_law_190 : decode code 190 = .ok (.pop, 1) := by decide +kernel
set_option maxRecDepth 100000 in
theorem dL_law_191 : decode code 191 = .ok (.aload_n 2, 1) := by decide +kernel
set_option maxRecDepth 100000 in
theorem dL_law_192 : decode code 192 = .ok (.aload_n 0, 1) := by decide +kernel
set_option maxRecDepth 100000 in
theorem dL_law_193 : decode code 193 = .ok (.iload_n 3, 1) := by decide +kernel
set_option maxRecDepth 100000 in
theorem dL_law_194 : decode code 194 = .ok (.iconst 1, 1) := by decide +kernel
set_option maxRecDepth 100000 in
theorem dL_law_195 : decode code 195 = .ok (.iadd, 1) := by decide +kernel
set_option maxRecDepth 100000 in
theorem dL_law_196 : decode code 196 = .ok (.iaload, 1) := by decide +kernel
set_option maxRecDepth 100000 in
theorem dL_law_197 : decode code 197 = .ok (.aload_n 0, 1) := by decide +kernel
set_option maxRecDepth 100000 in
theorem dL_law_198 : decode code 198 = .ok (.iload_n 3, 1) := by decide +kernel
set_option maxRecDepth 100000 in
theorem dL_law_199 : decode code 199 = .ok (.iconst 2, 1) := by decide +kernel
set_option maxRecDepth 100000 in
theorem dL_law_200 : decode code 200 = .ok (.iadd, 1) := by decide +kernel
set_option maxRecDepth 100000 in
theorem dL_law_201 : decode code 201 = .ok (.iaload, 1) := by decide +kernel
set_option maxRecDepth 100000 in
theorem dL_law_202 : decode code 202 = .ok (.aload_n 0, 1) := by decide +kernel
set_option maxRecDepth 100000 in
theorem dL_law_203 : decode code 203 = .ok (.iload_n 3, 1) := by decide +kernel
set_option maxRecDepth 100000 in
theorem dL_law_204 : decode code 204 = .ok (.iconst 3, 1) := by decide +kernel
set_option maxRecDepth 100000 in
theorem dL_law_205 : decode code 205 = .ok (.iadd, 1) := by decide +kernel
set_option maxRecDepth 100000 in
theorem dL_law_206 : decode code 206 = .ok (.iaload, 1) := by decide +kernel
set_option maxRecDepth 100000 in
theorem dL_law_207 : decode code 207 = .ok (.aload_n 0, 1) := by decide +kernel
set_option maxRecDepth 100000 in
theorem dL_law_208 : decode code 208 = .ok (.iload_n 3, 1) := by decide +kernel
set_option maxRecDepth 100000 in
theorem dL_law_209 : decode code 209 = .ok (.iconst 4, 1) := by decide +kernel
set_option maxRecDepth 100000 in
theorem dL_law_210 : decode code 210 = .ok (.iadd, 1) := by decide +kernel
set_option maxRecDepth 100000 in
theorem dL_law_211 : decode code 211 = .ok (.iaload, 1) := by decide +kernel
set_option maxRecDepth 100000 in
theorem dL_law_212 : decode code 212 = .ok (.aload_n 0, 1) := by decide +kernel
set_option maxRecDepth 100000 in
theorem dL_law_213 : decode code 213 = .ok (.iload_n 3, 1) := by decide +kernel
set_option maxRecDepth 100000 in
theorem dL_law_214 : decode code 214 = .ok (.iconst 5, 1) := by decide +kernel
set_option maxRecDepth 100000 in
theorem dL_law_215 : decode code 215 = .ok (.iadd, 1) := by decide +kernel
set_option maxRecDepth 100000 in
theorem dL_law_216 : decode code 216 = .ok (.iaload, 1) := by decide +kernel
set_option maxRecDepth 100000 in
theorem dL_law_217 : decode code 217 = .ok (.aload_n 0, 1) := by decide +kernel
set_option maxRecDepth 100000 in
theorem dL_law_218 : decode code 218 = .ok (.iload_n 3, 1) := by decide +kernel
set_option maxRecDepth 100000 in
theorem dL_law_219 : decode code 219 = .ok (.bipush 6, 2) := by decide +kernel
set_option maxRecDepth 100000 in
theorem dL_law_221 : decode code 221 = .ok (.iadd, 1) := by decide +kernel
set_option maxRecDepth 100000 in
theorem dL_law_222 : decode code 222 = .ok (.iaload, 1) := by decide +kernel
set_option maxRecDepth 100000 in
theorem dL_law_223 : decode code 223 = .ok (.invokevirtual 22, 3) := by decide +kernel
set_option maxRecDepth 100000 in
theorem dL_law_226 : decode code 226 = .ok (.pop, 1) := by decide +kernel
set_option maxRecDepth 100000 in
theorem dL_law_227 : decode code 227 = .ok (.goto 458, 3) := by decide +kernel
set_option maxRecDepth 100000 in
theorem dL_law_230 : decode code 230 = .ok (.aload_n 1, 1) := by decide +kernel
set_option maxRecDepth 100000 in
theorem dL_law_231 : decode code 231 = .ok (.aload_n 0, 1) := by decide +kernel
set_option maxRecDepth 100000 in
theorem dL_law_232 : decode code 232 = .ok (.iload_n 3, 1) := by decide +kernel
set_option maxRecDepth 100000 in
theorem dL_law_233 : decode code 233 = .ok (.iconst 1, 1) := by decide +kernel
set_option maxRecDepth 100000 in
theorem dL_law_234 : decode code 234 = .ok (.iadd, 1) := by decide +kernel
set_option maxRecDepth 100000 in
theorem dL_law_235 : decode code 235 = .ok (.iaload, 1) := by decide +kernel
set_option maxRecDepth 100000 in
theorem dL_law_236 : decode code 236 = .ok (.invokevirtual 23, 3) := by decide +kernel
set_option maxRecDepth 100000 in
theorem dL_law_239 : decode code 239 = .ok (.pop, 1) := by decide +kernel
set_option maxRecDepth 100000 in
theorem dL_law_240 : decode code 240 = .ok (.aload_n 2, 1) := by decide +kernel
set_option maxRecDepth 100000 in
theorem dL_law_241 : decode code 241 = .ok (.aload_n 0, 1) := by decide +kernel
set_option maxRecDepth 100000 in
theorem dL_law_242 : decode code 242 = .ok (.iload_n 3, 1) := by decide +kernel
set_option maxRecDepth 100000 in
theorem dL_law_243 : decode code 243 = .ok (.iconst 1, 1) := by decide +kernel
set_option maxRecDepth 100000 in
theorem dL_law_244 : decode code 244 = .ok (.iadd, 1) := by decide +kernel
set_option maxRecDepth 100000 in
theorem dL_law_245 : decode code 245 = .ok (.iaload, 1) := by decide +kernel
set_option maxRecDepth 100000 in
theorem dL_law_246 : decode code 246 = .ok (.invokevirtual 27, 3) := by decide +kernel
set_option maxRecDepth 100000 in
theorem dL_law_249 : decode code 249 = .ok (.pop, 1) := by decide +kernel
set_option maxRecDepth 100000 in
theorem dL_law_250 : decode code 250 = .ok (.goto 435, 3) := by decide +kernel
set_option maxRecDepth 100000 in
theorem dL_law_253 : decode code 253 = .ok (.aload_n 1, 1) := by decide +kernel
set_option maxRecDepth 100000 in
theorem dL_law_254 : decode code 254 = .ok (.aload_n 0, 1) := by decide +kernel
set_option maxRecDepth 100000 in
theorem dL_law_255 : decode code 255 = .ok (.iload_n 3, 1) := by decide +kernel
set_option maxRecDepth 100000 in
theorem dL_law_256 : decode code 256 = .ok (.iconst 1, 1) := by decide +kernel
set_option maxRecDepth 100000 in
theorem dL_law_257 : decode code 257 = .ok (.iadd, 1) := by decide +kernel
set_option maxRecDepth 100000 in
theorem dL_law_258 : decode code 258 = .ok (.iaload, 1) := by decide +kernel
set_option maxRecDepth 100000 in
theorem dL_law_259 : decode code 259 = .ok (.aload_n 0, 1) := by decide +kernel
set_option maxRecDepth 100000 in
theorem dL_law_260 : decode code 260 = .ok (.iload_n 3, 1) := by decide +kernel
set_option maxRecDepth 100000 in
theorem dL_law_261 : decode code 261 = .ok (.iconst 2, 1) := by decide +kernel
set_option maxRecDepth 100000 in
theorem dL_law_262 : decode code 262 = .ok (.iadd, 1) := by decide +kernel
set_option maxRecDepth 100000 in
theorem dL_law_263 : decode code 263 = .ok (.iaload, 1) := by decide +kernel
set_option maxRecDepth 100000 in
theorem dL_law_264 : decode code 264 = .ok (.aload_n 0, 1) := by decide +kernel
set_option maxRecDepth 100000 in
theorem dL_law_265 : decode code 265 = .ok (.iload_n 3, 1) := by decide +kernel
set_option maxRecDepth 100000 in
theorem dL_law_266 : decode code 266 = .ok (.iconst 3, 1) := by decide +kernel
set_option maxRecDepth 100000 in
theorem dL_law_267 : decode code 267 = .ok (.iadd, 1) := by decide +kernel
set_option maxRecDepth 100000 in
theorem dL_law_268 : decode code 268 = .ok (.iaload, 1) := by decide +kernel
set_option maxRecDepth 100000 in
theorem dL_law_269 : decode code 269 = .ok (.invokevirtual 28, 3) := by decide +kernel
set_option maxRecDepth 100000 in
theorem dL_law_272 : decode code 272 = .ok (.pop, 1) := by decide +kernel
set_option maxRecDepth 100000 in
theorem dL_law_273 : decode code 273 = .ok (.aload_n 2, 1) := by decide +kernel
set_option maxRecDepth 100000 in
theorem dL_law_274 : decode code 274 = .ok (.aload_n 0, 1) := by decide +kernel
set_option maxRecDepth 100000 in
theorem dL_law_275 : decode code 275 = .ok (.iload_n 3, 1) := by decide +kernel
set_option maxRecDepth 100000 in
theorem dL_law_276 : decode code 276 = .ok (.iconst 1, 1) := by decide +kernel
set_option maxRecDepth 100000 in
theorem dL_law_277 : decode code 277 = .ok (.iadd, 1) := by decide +kernel
set_option maxRecDepth 100000 in
theorem dL_law_278 : decode code 278 = .ok (.iaload, 1) := by decide +kernel
set_option maxRecDepth 100000 in
theorem dL_law_279 : decode code 279 = .ok (.aload_n 0, 1) := by decide +kernel
set_option maxRecDepth 100000 in
theorem dL_law_280 : decode code 280 = .ok (.iload_n 3, 1) := by decide +kernel
set_option maxRecDepth 100000 in
theorem dL_law_281 : decode code 281 = .ok (.iconst 2, 1) := by decide +kernel
set_option maxRecDepth 100000 in
theorem dL_law_282 : decode code 282 = .ok (.iadd, 1) := by decide +kernel
set_option maxRecDepth 100000 in
theorem dL_law_283 : decode code 283 = .ok (.iaload, 1) := by decide +kernel
set_option maxRecDepth 100000 in
theorem dL_law_284 : decode code 284 = .ok (.aload_n 0, 1) := by decide +kernel
set_option maxRecDepth 100000 in
theorem dL_law_285 : decode code 285 = .ok (.iload_n 3, 1) := by decide +kernel
set_option maxRecDepth 100000 in
theorem dL_law_286 : decode code 286 = .ok (.iconst 3, 1) := by decide +kernel
set_option maxRecDepth 100000 in
theorem dL_law_287 : decode code 287 = .ok (.iadd, 1) := by decide +kernel
set_option maxRecDepth 100000 in
theorem dL_law_288 : decode code 288 = .ok (.iaload, 1) := by decide +kernel
set_option maxRecDepth 100000 in
theorem dL_law_289 : decode code 289 = .ok (.invokevirtual 31, 3) := by decide +kernel
set_option maxRecDepth 100000 in
theorem dL_law_292 : decode code 292 = .ok (.pop, 1) := by decide +kernel
set_option maxRecDepth 100000 in
theorem dL_law_293 : decode code 293 = .ok (.goto 392, 3) := by decide +kernel
set_option maxRecDepth 100000 in
theorem dL_law_296 : decode code 296 = .ok (.aload_n 1, 1) := by decide +kernel
set_option maxRecDepth 100000 in
theorem dL_law_297 : decode code 297 = .ok (.aload_n 0, 1) := by decide +kernel
set_option maxRecDepth 100000 in
theorem dL_law_298 : decode code 298 = .ok (.iload_n 3, 1) := by decide +kernel
set_option maxRecDepth 100000 in
theorem dL_law_299 : decode code 299 = .ok (.iconst 1, 1) := by decide +kernel
set_option maxRecDepth 100000 in
theorem dL_law_300 : decode code 300 = .ok (.iadd, 1) := by decide +kernel
set_option maxRecDepth 100000 in
theorem dL_law_301 : decode code 301 = .ok (.iaload, 1) := by decide +kernel
set_option maxRecDepth 100000 in
theorem dL_law_302 : decode code 302 = .ok (.aload_n 0, 1) := by decide +kernel
set_option maxRecDepth 100000 in
theorem dL_law_303 : decode code 303 = .ok (.iload_n 3, 1) := by decide +kernel
set_option maxRecDepth 100000 in
theorem dL_law_304 : decode code 304 = .ok (.iconst 2, 1) := by decide +kernel
set_option maxRecDepth 100000 in
theorem dL_law_305 : decode code 305 = .ok (.iadd, 1) := by decide +kernel
set_option maxRecDepth 100000 in
theorem dL_law_306 : decode code 306 = .ok (.iaload, 1) := by decide +kernel
set_option maxRecDepth 100000 in
theorem dL_law_307 : decode code 307 = .ok (.invokevirtual 32, 3) := by decide +kernel
set_option maxRecDepth 100000 in
theorem dL_law_310 : decode code 310 = .ok (.pop, 1) := by decide +kernel
set_option maxRecDepth 100000 in
theorem dL_law_311 : decode code 311 = .ok (.aload_n 2, 1) := by decide +kernel
set_option maxRecDepth 100000 in
theorem dL_law_312 : decode code 312 = .ok (.aload_n 0, 1) := by decide +kernel
set_option maxRecDepth 100000 in
theorem dL_law_313 : decode code 313 = .ok (.iload_n 3, 1) := by decide +kernel
set_option maxRecDepth 100000 in
theorem dL_law_314 : decode code 314 = .ok (.iconst 1, 1) := by decide +kernel
set_option maxRecDepth 100000 in
theorem dL_law_315 : decode code 315 = .ok (.iadd, 1) := by decide +kernel
set_option maxRecDepth 100000 in
theorem dL_law_316 : decode code 316 = .ok (.iaload, 1) := by decide +kernel
set_option maxRecDepth 100000 in
theorem dL_law_317 : decode code 317 = .ok (.aload_n 0, 1) := by decide +kernel
set_option maxRecDepth 100000 in
theorem dL_law_318 : decode code 318 = .ok (.iload_n 3, 1) := by decide +kernel
set_option maxRecDepth 100000 in
theorem dL_law_319 : decode code 319 = .ok (.iconst 2, 1) := by decide +kernel
set_option maxRecDepth 100000 in
theorem dL_law_320 : decode code 320 = .ok (.iadd, 1) := by decide +kernel
set_option maxRecDepth 100000 in
theorem dL_law_321 : decode code 321 = .ok (.iaload, 1) := by decide +kernel
set_option maxRecDepth 100000 in
theorem dL_law_322 : decode code 322 = .ok (.invokevirtual 36, 3) := by decide +kernel
set_option maxRecDepth 100000 in
theorem dL_law_325 : decode code 325 = .ok (.pop, 1) := by decide +kernel
set_option maxRecDepth 100000 in
theorem dL_law_326 : decode code 326 = .ok (.goto 359, 3) := by decide +kernel
set_option maxRecDepth 100000 in
theorem dL_law_329 : decode code 329 = .ok (.aload_n 1, 1) := by decide +kernel
set_option maxRecDepth 100000 in
theorem dL_law_330 : decode code 330 = .ok (.aload_n 0, 1) := by decide +kernel
set_option maxRecDepth 100000 in
theorem dL_law_331 : decode code 331 = .ok (.iload_n 3, 1) := by decide +kernel
set_option maxRecDepth 100000 in
theorem dL_law_332 : decode code 332 = .ok (.iconst 1, 1) := by decide +kernel
set_option maxRecDepth 100000 in
theorem dL_law_333 : decode code 333 = .ok (.iadd, 1) := by decide +kernel
set_option maxRecDepth 100000 in
theorem dL_law_334 : decode code 334 = .ok (.iaload, 1) := by decide +kernel
set_option maxRecDepth 100000 in
theorem dL_law_335 : decode code 335 = .ok (.aload_n 0, 1) := by decide +kernel
set_option maxRecDepth 100000 in
theorem dL_law_336 : decode code 336 = .ok (.iload_n 3, 1) := by decide +kernel
set_option maxRecDepth 100000 in
theorem dL_law_337 : decode code 337 = .ok (.iconst 2, 1) := by decide +kernel
set_option maxRecDepth 100000 in
theorem dL_law_338 : decode code 338 = .ok (.iadd, 1) := by decide +kernel
set_option maxRecDepth 100000 in
theorem dL_law_339 : decode code 339 = .ok (.iaload, 1) := by decide +kernel
set_option maxRecDepth 100000 in
theorem dL_law_340 : decode code 340 = .ok (.aload_n 0, 1) := by decide +kernel
set_option maxRecDepth 100000 in
theorem dL_law_341 : decode code 341 = .ok (.iload_n 3, 1) := by decide +kernel
set_option maxRecDepth 100000 in
theorem dL_law_342 : decode code 342 = .ok (.iconst 3, 1) := by decide +kernel
set_option maxRecDepth 100000 in
theorem dL_law_343 : decode code 343 = .ok (.iadd, 1) := by decide +kernel
set_option maxRecDepth 100000 in
theorem dL_law_344 : decode code 344 = .ok (.iaload, 1) := by decide +kernel
set_option maxRecDepth 100000 in
theorem dL_law_345 : decode code 345 = .ok (.i2l, 1) := by decide +kernel
set_option maxRecDepth 100000 in
theorem dL_law_346 : decode code 346 = .ok (.bipush 32, 2) := by decide +kernel
set_option maxRecDepth 100000 in
theorem dL_law_348 : decode code 348 = .ok (.lshl, 1) := by decide +kernel
set_option maxRecDepth 100000 in
theorem dL_law_349 : decode code 349 = .ok (.aload_n 0, 1) := by decide +kernel
set_option maxRecDepth 100000 in
theorem dL_law_350 : decode code 350 = .ok (.iload_n 3, 1) := by decide +kernel
set_option maxRecDepth 100000 in
theorem dL_law_351 : decode code 351 = .ok (.iconst 4, 1) := by decide +kernel
set_option maxRecDepth 100000 in
theorem dL_law_352 : decode code 352 = .ok (.iadd, 1) := by decide +kernel
set_option maxRecDepth 100000 in
theorem dL_law_353 : decode code 353 = .ok (.iaload, 1) := by decide +kernel
set_option maxRecDepth 100000 in
theorem dL_law_354 : decode code 354 = .ok (.i2l, 1) := by decide +kernel
set_option maxRecDepth 100000 in
theorem dL_law_355 : decode code 355 = .ok (.ldc2_w 37, 3) := by decide +kernel
set_option maxRecDepth 100000 in
theorem dL_law_358 : decode code 358 = .ok (.land, 1) := by decide +kernel
set_option maxRecDepth 100000 in
theorem dL_law_359 : decode code 359 = .ok (.lor, 1) := by decide +kernel
set_option maxRecDepth 100000 in
theorem dL_law_360 : decode code 360 = .ok (.invokevirtual 39, 3) := by decide +kernel
set_option maxRecDepth 100000 in
theorem dL_law_363 : decode code 363 = .ok (.pop, 1) := by decide +kernel
set_option maxRecDepth 100000 in
theorem dL_law_364 : decode code 364 = .ok (.aload_n 2, 1) := by decide +kernel
set_option maxRecDepth 100000 in
theorem dL_law_365 : decode code 365 = .ok (.aload_n 0, 1) := by decide +kernel
set_option maxRecDepth 100000 in
theorem dL_law_366 : decode code 366 = .ok (.iload_n 3, 1) := by decide +kernel
set_option maxRecDepth 100000 in
theorem dL_law_367 : decode code 367 = .ok (.iconst 1, 1) := by decide +kernel
set_option maxRecDepth 100000 in
theorem dL_law_368 : decode code 368 = .ok (.iadd, 1) := by decide +kernel
set_option maxRecDepth 100000 in
theorem dL_law_369 : decode code 369 = .ok (.iaload, 1) := by decide +kernel
set_option maxRecDepth 100000 in
theorem dL_law_370 : decode code 370 = .ok (.aload_n 0, 1) := by decide +kernel
set_option maxRecDepth 100000 in
theorem dL_law_371 : decode code 371 = .ok (.iload_n 3, 1) := by decide +kernel
set_option maxRecDepth 100000 in
theorem dL_law_372 : decode code 372 = .ok (.iconst 2, 1) := by decide +kernel
set_option maxRecDepth 100000 in
theorem dL_law_373 : decode code 373 = .ok (.iadd, 1) := by decide +kernel
set_option maxRecDepth 100000 in
theorem dL_law_374 : decode code 374 = .ok (.iaload, 1) := by decide +kernel
set_option maxRecDepth 100000 in
theorem dL_law_375 : decode code 375 = .ok (.aload_n 0, 1) := by decide +kernel
set_option maxRecDepth 100000 in
theorem dL_law_376 : decode code 376 = .ok (.iload_n 3, 1) := by decide +kernel
set_option maxRecDepth 100000 in
theorem dL_law_377 : decode code 377 = .ok (.iconst 3, 1) := by decide +kernel
set_option maxRecDepth 100000 in
theorem dL_law_378 : decode code 378 = .ok (.iadd, 1) := by decide +kernel
set_option maxRecDepth 100000 in
theorem dL_law_379 : decode code 379 = .ok (.iaload, 1) := by decide +kernel
set_option maxRecDepth 100000 in
theorem dL_law_380 : decode code 380 = .ok (.i2l, 1) := by decide +kernel
set_option maxRecDepth 100000 in
theorem dL_law_381 : decode code 381 = .ok (.bipush 32, 2) := by decide +kernel
set_option maxRecDepth 100000 in
theorem dL_law_383 : decode code 383 = .ok (.lshl, 1) := by decide +kernel
set_option maxRecDepth 100000 in
theorem dL_law_384 : decode code 384 = .ok (.aload_n 0, 1) := by decide +kernel
set_option maxRecDepth 100000 in
theorem dL_law_385 : decode code 385 = .ok (.iload_n 3, 1) := by decide +kernel
set_option maxRecDepth 100000 in
theorem dL_law_386 : decode code 386 = .ok (.iconst 4, 1) := by decide +kernel
set_option maxRecDepth 100000 in
theorem dL_law_387 : decode code 387 = .ok (.iadd, 1) := by decide +kernel
set_option maxRecDepth 100000 in
theorem dL_law_388 : decode code 388 = .ok (.iaload, 1) := by decide +kernel
set_option maxRecDepth 100000 in
theorem dL_law_389 : decode code 389 = .ok (.i2l, 1) := by decide +kernel
set_option maxRecDepth 100000 in
theorem dL_law_390 : decode code 390 = .ok (.ldc2_w 37, 3) := by decide +kernel
set_option maxRecDepth 100000 in
theorem dL_law_393 : decode code 393 = .ok (.land, 1) := by decide +kernel
set_option maxRecDepth 100000 in
theorem dL_law_394 : decode code 394 = .ok (.lor, 1) := by decide +kernel
set_option maxRecDepth 100000 in
theorem dL_law_395 : decode code 395 = .ok (.invokevirtual 43, 3) := by decide +kernel
set_option maxRecDepth 100000 in
theorem dL_law_398 : decode code 398 = .ok (.pop, 1) := by decide +kernel
set_option maxRecDepth 100000 in
theorem dL_law_399 : decode code 399 = .ok (.goto 286, 3) := by decide +kernel
set_option maxRecDepth 100000 in
theorem dL_law_402 : decode code 402 = .ok (.aload_n 1, 1) := by decide +kernel
set_option maxRecDepth 100000 in
theorem dL_law_403 : decode code 403 = .ok (.invokevirtual 44, 3) := by decide +kernel
set_option maxRecDepth 100000 in
theorem dL_law_406 : decode code 406 = .ok (.pop, 1) := by decide +kernel
set_option maxRecDepth 100000 in
theorem dL_law_407 : decode code 407 = .ok (.aload_n 2, 1) := by decide +kernel
set_option maxRecDepth 100000 in
theorem dL_law_408 : decode code 408 = .ok (.invokevirtual 48, 3) := by decide +kernel
set_option maxRecDepth 100000 in
theorem dL_law_411 : decode code 411 = .ok (.pop, 1) := by decide +kernel
set_option maxRecDepth 100000 in
theorem dL_law_412 : decode code 412 = .ok (.goto 273, 3) := by decide +kernel
set_option maxRecDepth 100000 in
theorem dL_law_415 : decode code 415 = .ok (.aload_n 1, 1) := by decide +kernel
set_option maxRecDepth 100000 in
theorem dL_law_416 : decode code 416 = .ok (.aload_n 0, 1) := by decide +kernel
set_option maxRecDepth 100000 in
theorem dL_law_417 : decode code 417 = .ok (.iload_n 3, 1) := by decide +kernel
set_option maxRecDepth 100000 in
theorem dL_law_418 : decode code 418 = .ok (.iconst 1, 1) := by decide +kernel
set_option maxRecDepth 100000 in
theorem dL_law_419 : decode code 419 = .ok (.iadd, 1) := by decide +kernel
set_option maxRecDepth 100000 in
theorem dL_law_420 : decode code 420 = .ok (.iaload, 1) := by decide +kernel
set_option maxRecDepth 100000 in
theorem dL_law_421 : decode code 421 = .ok (.aload_n 0, 1) := by decide +kernel
set_option maxRecDepth 100000 in
theorem dL_law_422 : decode code 422 = .ok (.iload_n 3, 1) := by decide +kernel
set_option maxRecDepth 100000 in
theorem dL_law_423 : decode code 423 = .ok (.iconst 2, 1) := by decide +kernel
set_option maxRecDepth 100000 in
theorem dL_law_424 : decode code 424 = .ok (.iadd, 1) := by decide +kernel
set_option maxRecDepth 100000 in
theorem dL_law_425 : decode code 425 = .ok (.iaload, 1) := by decide +kernel
set_option maxRecDepth 100000 in
theorem dL_law_426 : decode code 426 = .ok (.ifCond .eq 7, 3) := by decide +kernel
set_option maxRecDepth 100000 in
theorem dL_law_429 : decode code 429 = .ok (.iconst 1, 1) := by decide +kernel
set_option maxRecDepth 100000 in
theorem dL_law_430 : decode code 430 = .ok (.goto 4, 3) := by decide +kernel
set_option maxRecDepth 100000 in
theorem dL_law_433 : decode code 433 = .ok (.iconst 0, 1) := by decide +kernel
set_option maxRecDepth 100000 in
theorem dL_law_434 : decode code 434 = .ok (.invokevirtual 49, 3) := by decide +kernel
set_option maxRecDepth 100000 in
theorem dL_law_437 : decode code 437 = .ok (.pop, 1) := by decide +kernel
set_option maxRecDepth 100000 in
theorem dL_law_438 : decode code 438 = .ok (.aload_n 2, 1) := by decide +kernel
set_option maxRecDepth 100000 in
theorem dL_law_439 : decode code 439 = .ok (.aload_n 0, 1) := by decide +kernel
set_option maxRecDepth 100000 in
theorem dL_law_440 : decode code 440 = .ok (.iload_n 3, 1) := by decide +kernel
set_option maxRecDepth 100000 in
theorem dL_law_441 : decode code 441 = .ok (.iconst 1, 1) := by decide +kernel
set_option maxRecDepth 100000 in
theorem dL_law_442 : decode code 442 = .ok (.iadd, 1) := by decide +kernel
set_option maxRecDepth 100000 in
theorem dL_law_443 : decode code 443 = .ok (.iaload, 1) := by decide +kernel
set_option maxRecDepth 100000 in
theorem dL_law_444 : decode code 444 = .ok (.aload_n 0, 1) := by decide +kernel
set_option maxRecDepth 100000 in
theorem dL_law_445 : decode code 445 = .ok (.iload_n 3, 1) := by decide +kernel
set_option maxRecDepth 100000 in
theorem dL_law_446 : decode code 446 = .ok (.iconst 2, 1) := by decide +kernel
set_option maxRecDepth 100000 in
theorem dL_law_447 : decode code 447 = .ok (.iadd, 1) := by decide +kernel
set_option maxRecDepth 100000 in
theorem dL_law_448 : decode code 448 = .ok (.iaload, 1) := by decide +kernel
set_option maxRecDepth 100000 in
theorem dL_law_449 : decode code 449 = .ok (.ifCond .eq 7, 3) := by decide +kernel
set_option maxRecDepth 100000 in
theorem dL_law_452 : decode code 452 = .ok (.iconst 1, 1) := by decide +kernel
set_option maxRecDepth 100000 in
theorem dL_law_453 : decode code 453 = .ok (.goto 4, 3) := by decide +kernel
set_option maxRecDepth 100000 in
theorem dL_law_456 : decode code 456 = .ok (.iconst 0, 1) := by decide +kernel
set_option maxRecDepth 100000 in
theorem dL_law_457 : decode code 457 = .ok (.invokevirtual 53, 3) := by decide +kernel
set_option maxRecDepth 100000 in
theorem dL_law_460 : decode code 460 = .ok (.pop, 1) := by decide +kernel
set_option maxRecDepth 100000 in
theorem dL_law_461 : decode code 461 = .ok (.goto 224, 3) := by decide +kernel
set_option maxRecDepth 100000 in
theorem dL_law_464 : decode code 464 = .ok (.aload_n 1, 1) := by decide +kernel
set_option maxRecDepth 100000 in
theorem dL_law_465 : decode code 465 = .ok (.aload_n 0, 1) := by decide +kernel
set_option maxRecDepth 100000 in
theorem dL_law_466 : decode code 466 = .ok (.iload_n 3, 1) := by decide +kernel
set_option maxRecDepth 100000 in
theorem dL_law_467 : decode code 467 = .ok (.iconst 1, 1) := by decide +kernel
set_option maxRecDepth 100000 in
theorem dL_law_468 : decode code 468 = .ok (.iadd, 1) := by decide +kernel
set_option maxRecDepth 100000 in
theorem dL_law_469 : decode code 469 = .ok (.iaload, 1) := by decide +kernel
set_option maxRecDepth 100000 in
theorem dL_law_470 : decode code 470 = .ok (.aload_n 0, 1) := by decide +kernel
set_option maxRecDepth 100000 in
theorem dL_law_471 : decode code 471 = .ok (.iload_n 3, 1) := by decide +kernel
set_option maxRecDepth 100000 in
theorem dL_law_472 : decode code 472 = .ok (.iconst 2, 1) := by decide +kernel
set_option maxRecDepth 100000 in
theorem dL_law_473 : decode code 473 = .ok (.iadd, 1) := by decide +kernel
set_option maxRecDepth 100000 in
theorem dL_law_474 : decode code 474 = .ok (.iaload, 1) := by decide +kernel
set_option maxRecDepth 100000 in
theorem dL_law_475 : decode code 475 = .ok (.invokevirtual 54, 3) := by decide +kernel
set_option maxRecDepth 100000 in
theorem dL_law_478 : decode code 478 = .ok (.pop, 1) := by decide +kernel
set_option maxRecDepth 100000 in
theorem dL_law_479 : decode code 479 = .ok (.aload_n 2, 1) := by decide +kernel
set_option maxRecDepth 100000 in
theorem dL_law_480 : decode code 480 = .ok (.aload_n 0, 1) := by decide +kernel
set_option maxRecDepth 100000 in
theorem dL_law_481 : decode code 481 = .ok (.iload_n 3, 1) := by decide +kernel
set_option maxRecDepth 100000 in
theorem dL_law_482 : decode code 482 = .ok (.iconst 1, 1) := by decide +kernel
set_option maxRecDepth 100000 in
theorem dL_law_483 : decode code 483 = .ok (.iadd, 1) := by decide +kernel
set_option maxRecDepth 100000 in
theorem dL_law_484 : decode code 484 = .ok (.iaload, 1) := by decide +kernel
set_option maxRecDepth 100000 in
theorem dL_law_485 : decode code 485 = .ok (.aload_n 0, 1) := by decide +kernel
set_option maxRecDepth 100000 in
theorem dL_law_486 : decode code 486 = .ok (.iload_n 3, 1) := by decide +kernel
set_option maxRecDepth 100000 in
theorem dL_law_487 : decode code 487 = .ok (.iconst 2, 1) := by decide +kernel
set_option maxRecDepth 100000 in
theorem dL_law_488 : decode code 488 = .ok (.iadd, 1) := by decide +kernel
set_option maxRecDepth 100000 in
theorem dL_law_489 : decode code 489 = .ok (.iaload, 1) := by decide +kernel
set_option maxRecDepth 100000 in
theorem dL_law_490 : decode code 490 = .ok (.invokevirtual 57, 3) := by decide +kernel
set_option maxRecDepth 100000 in
theorem dL_law_493 : decode code 493 = .ok (.pop, 1) := by decide +kernel
set_option maxRecDepth 100000 in
theorem dL_law_494 : decode code 494 = .ok (.goto 191, 3) := by decide +kernel
set_option maxRecDepth 100000 in
theorem dL_law_497 : decode code 497 = .ok (.aload_n 1, 1) := by decide +kernel
set_option maxRecDepth 100000 in
theorem dL_law_498 : decode code 498 = .ok (.aload_n 0, 1) := by decide +kernel
set_option maxRecDepth 100000 in
theorem dL_law_499 : decode code 499 = .ok (.iload_n 3, 1) := by decide +kernel
set_option maxRecDepth 100000 in
theorem dL_law_500 : decode code 500 = .ok (.iconst 1, 1) := by decide +kernel
set_option maxRecDepth 100000 in
theorem dL_law_501 : decode code 501 = .ok (.iadd, 1) := by decide +kernel
set_option maxRecDepth 100000 in
theorem dL_law_502 : decode code 502 = .ok (.iaload, 1) := by decide +kernel
set_option maxRecDepth 100000 in
theorem dL_law_503 : decode code 503 = .ok (.aload_n 0, 1) := by decide +kernel
set_option maxRecDepth 100000 in
theorem dL_law_504 : decode code 504 = .ok (.iload_n 3, 1) := by decide +kernel
set_option maxRecDepth 100000 in
theorem dL_law_505 : decode code 505 = .ok (.iconst 2, 1) := by decide +kernel
set_option maxRecDepth 100000 in
theorem dL_law_506 : decode code 506 = .ok (.iadd, 1) := by decide +kernel
set_option maxRecDepth 100000 in
theorem dL_law_507 : decode code 507 = .ok (.iaload, 1) := by decide +kernel
set_option maxRecDepth 100000 in
theorem dL_law_508 : decode code 508 = .ok (.ifCond .eq 7, 3) := by decide +kernel
set_option maxRecDepth 100000 in
theorem dL_law_511 : decode code 511 = .ok (.iconst 1, 1) := by decide +kernel
set_option maxRecDepth 100000 in
theorem dL_law_512 : decode code 512 = .ok (.goto 4, 3) := by decide +kernel
set_option maxRecDepth 100000 in
theorem dL_law_515 : decode code 515 = .ok (.iconst 0, 1) := by decide +kernel
set_option maxRecDepth 100000 in
theorem dL_law_516 : decode code 516 = .ok (.invokevirtual 58, 3) := by decide +kernel
set_option maxRecDepth 100000 in
theorem dL_law_519 : decode code 519 = .ok (.pop, 1) := by decide +kernel
set_option maxRecDepth 100000 in
theorem dL_law_520 : decode code 520 = .ok (.aload_n 2, 1) := by decide +kernel
set_option maxRecDepth 100000 in
theorem dL_law_521 : decode code 521 = .ok (.aload_n 0, 1) := by decide +kernel
set_option maxRecDepth 100000 in
theorem dL_law_522 : decode code 522 = .ok (.iload_n 3, 1) := by decide +kernel
set_option maxRecDepth 100000 in
theorem dL_law_523 : decode code 523 = .ok (.iconst 1, 1) := by decide +kernel
set_option maxRecDepth 100000 in
theorem dL_law_524 : decode code 524 = .ok (.iadd, 1) := by decide +kernel
set_option maxRecDepth 100000 in
theorem dL_law_525 : decode code 525 = .ok (.iaload, 1) := by decide +kernel
set_option maxRecDepth 100000 in
theorem dL_law_526 : decode code 526 = .ok (.aload_n 0, 1) := by decide +kernel
set_option maxRecDepth 100000 in
theorem dL_law_527 : decode code 527 = .ok (.iload_n 3, 1) := by decide +kernel
set_option maxRecDepth 100000 in
theorem dL_law_528 : decode code 528 = .ok (.iconst 2, 1) := by decide +kernel
set_option maxRecDepth 100000 in
theorem dL_law_529 : decode code 529 = .ok (.iadd, 1) := by decide +kernel
set_option maxRecDepth 100000 in
theorem dL_law_530 : decode code 530 = .ok (.iaload, 1) := by decide +kernel
set_option maxRecDepth 100000 in
theorem dL_law_531 : decode code 531 = .ok (.ifCond .eq 7, 3) := by decide +kernel
set_option maxRecDepth 100000 in
theorem dL_law_534 : decode code 534 = .ok (.iconst 1, 1) := by decide +kernel
set_option maxRecDepth 100000 in
theorem dL_law_535 : decode code 535 = .ok (.goto 4, 3) := by decide +kernel
set_option maxRecDepth 100000 in
theorem dL_law_538 : decode code 538 = .ok (.iconst 0, 1) := by decide +kernel
set_option maxRecDepth 100000 in
theorem dL_law_539 : decode code 539 = .ok (.invokevirtual 61, 3) := by decide +kernel
set_option maxRecDepth 100000 in
theorem dL_law_542 : decode code 542 = .ok (.pop, 1) := by decide +kernel
set_option maxRecDepth 100000 in
theorem dL_law_543 : decode code 543 = .ok (.goto 142, 3) := by decide +kernel
set_option maxRecDepth 100000 in
theorem dL_law_546 : decode code 546 = .ok (.aload_n 1, 1) := by decide +kernel
set_option maxRecDepth 100000 in
theorem dL_law_547 : decode code 547 = .ok (.aload_n 0, 1) := by decide +kernel
set_option maxRecDepth 100000 in
theorem dL_law_548 : decode code 548 = .ok (.iload_n 3, 1) := by decide +kernel
set_option maxRecDepth 100000 in
theorem dL_law_549 : decode code 549 = .ok (.iconst 1, 1) := by decide +kernel
set_option maxRecDepth 100000 in
theorem dL_law_550 : decode code 550 = .ok (.iadd, 1) := by decide +kernel
set_option maxRecDepth 100000 in
theorem dL_law_551 : decode code 551 = .ok (.iaload, 1) := by decide +kernel
set_option maxRecDepth 100000 in
theorem dL_law_552 : decode code 552 = .ok (.aload_n 0, 1) := by decide +kernel
set_option maxRecDepth 100000 in
theorem dL_law_553 : decode code 553 = .ok (.iload_n 3, 1) := by decide +kernel
set_option maxRecDepth 100000 in
theorem dL_law_554 : decode code 554 = .ok (.iconst 2, 1) := by decide +kernel
set_option maxRecDepth 100000 in
theorem dL_law_555 : decode code 555 = .ok (.iadd, 1) := by decide +kernel
set_option maxRecDepth 100000 in
theorem dL_law_556 : decode code 556 = .ok (.iaload, 1) := by decide +kernel
set_option maxRecDepth 100000 in
theorem dL_law_557 : decode code 557 = .ok (.invokevirtual 62, 3) := by decide +kernel
set_option maxRecDepth 100000 in
theorem dL_law_560 : decode code 560 = .ok (.pop, 1) := by decide +kernel
set_option maxRecDepth 100000 in
theorem dL_law_561 : decode code 561 = .ok (.aload_n 2, 1) := by decide +kernel
set_option maxRecDepth 100000 in
theorem dL_law_562 : decode code 562 = .ok (.aload_n 0, 1) := by decide +kernel
set_option maxRecDepth 100000 in
theorem dL_law_563 : decode code 563 = .ok (.iload_n 3, 1) := by decide +kernel
set_option maxRecDepth 100000 in
theorem dL_law_564 : decode code 564 = .ok (.iconst 1, 1) := by decide +kernel
set_option maxRecDepth 100000 in
theorem dL_law_565 : decode code 565 = .ok (.iadd, 1) := by decide +kernel
set_option maxRecDepth 100000 in
theorem dL_law_566 : decode code 566 = .ok (.iaload, 1) := by decide +kernel
set_option maxRecDepth 100000 in
theorem dL_law_567 : decode code 567 = .ok (.aload_n 0, 1) := by decide +kernel
set_option maxRecDepth 100000 in
theorem dL_law_568 : decode code 568 = .ok (.iload_n 3, 1) := by decide +kernel
set_option maxRecDepth 100000 in
theorem dL_law_569 : decode code 569 = .ok (.iconst 2, 1) := by decide +kernel
set_option maxRecDepth 100000 in
theorem dL_law_570 : decode code 570 = .ok (.iadd, 1) := by decide +kernel
set_option maxRecDepth 100000 in
theorem dL_law_571 : decode code 571 = .ok (.iaload, 1) := by decide +kernel
set_option maxRecDepth 100000 in
theorem dL_law_572 : decode code 572 = .ok (.invokevirtual 65, 3) := by decide +kernel
set_option maxRecDepth 100000 in
theorem dL_law_575 : decode code 575 = .ok (.pop, 1) := by decide +kernel
set_option maxRecDepth 100000 in
theorem dL_law_576 : decode code 576 = .ok (.goto 109, 3) := by decide +kernel
set_option maxRecDepth 100000 in
theorem dL_law_579 : decode code 579 = .ok (.aload_n 1, 1) := by decide +kernel
set_option maxRecDepth 100000 in
theorem dL_law_580 : decode code 580 = .ok (.aload_n 0, 1) := by decide +kernel
set_option maxRecDepth 100000 in
theorem dL_law_581 : decode code 581 = .ok (.iload_n 3, 1) := by decide +kernel
set_option maxRecDepth 100000 in
theorem dL_law_582 : decode code 582 = .ok (.iconst 1, 1) := by decide +kernel
set_option maxRecDepth 100000 in
theorem dL_law_583 : decode code 583 = .ok (.iadd, 1) := by decide +kernel
set_option maxRecDepth 100000 in
theorem dL_law_584 : decode code 584 = .ok (.iaload, 1) := by decide +kernel
set_option maxRecDepth 100000 in
theorem dL_law_585 : decode code 585 = .ok (.invokevirtual 66, 3) := by decide +kernel
set_option maxRecDepth 100000 in
theorem dL_law_588 : decode code 588 = .ok (.pop, 1) := by decide +kernel
set_option maxRecDepth 100000 in
theorem dL_law_589 : decode code 589 = .ok (.aload_n 2, 1) := by decide +kernel
set_option maxRecDepth 100000 in
theorem dL_law_590 : decode code 590 = .ok (.aload_n 0, 1) := by decide +kernel
set_option maxRecDepth 100000 in
theorem dL_law_591 : decode code 591 = .ok (.iload_n 3, 1) := by decide +kernel
set_option maxRecDepth 100000 in
theorem dL_law_592 : decode code 592 = .ok (.iconst 1, 1) := by decide +kernel
set_option maxRecDepth 100000 in
theorem dL_law_593 : decode code 593 = .ok (.iadd, 1) := by decide +kernel
set_option maxRecDepth 100000 in
theorem dL_law_594 : decode code 594 = .ok (.iaload, 1) := by decide +kernel
set_option maxRecDepth 100000 in
theorem dL_law_595 : decode code 595 = .ok (.invokevirtual 69, 3) := by decide +kernel
set_option maxRecDepth 100000 in
theorem dL_law_598 : decode code 598 = .ok (.pop, 1) := by decide +kernel
set_option maxRecDepth 100000 in
theorem dL_law_599 : decode code 599 = .ok (.goto 86, 3) := by decide +kernel
set_option maxRecDepth 100000 in
theorem dL_law_602 : decode code 602 = .ok (.aload_n 1, 1) := by decide +kernel
set_option maxRecDepth 100000 in
theorem dL_law_603 : decode code 603 = .ok (.aload_n 0, 1) := by decide +kernel
set_option maxRecDepth 100000 in
theorem dL_law_604 : decode code 604 = .ok (.iload_n 3, 1) := by decide +kernel
set_option maxRecDepth 100000 in
theorem dL_law_605 : decode code 605 = .ok (.iconst 1, 1) := by decide +kernel
set_option maxRecDepth 100000 in
theorem dL_law_606 : decode code 606 = .ok (.iadd, 1) := by decide +kernel
set_option maxRecDepth 100000 in
theorem dL_law_607 : decode code 607 = .ok (.iaload, 1) := by decide +kernel
set_option maxRecDepth 100000 in
theorem dL_law_608 : decode code 608 = .ok (.aload_n 0, 1) := by decide +kernel
set_option maxRecDepth 100000 in
theorem dL_law_609 : decode code 609 = .ok (.iload_n 3, 1) := by decide +kernel
set_option maxRecDepth 100000 in
theorem dL_law_610 : decode code 610 = .ok (.iconst 2, 1) := by decide +kernel
set_option maxRecDepth 100000 in
theorem dL_law_611 : decode code 611 = .ok (.iadd, 1) := by decide +kernel
set_option maxRecDepth 100000 in
theorem dL_law_612 : decode code 612 = .ok (.iaload, 1) := by decide +kernel
set_option maxRecDepth 100000 in
theorem dL_law_613 : decode code 613 = .ok (.invokevirtual 70, 3) := by decide +kernel
set_option maxRecDepth 100000 in
theorem dL_law_616 : decode code 616 = .ok (.pop, 1) := by decide +kernel
set_option maxRecDepth 100000 in
theorem dL_law_617 : decode code 617 = .ok (.aload_n 2, 1) := by decide +kernel
set_option maxRecDepth 100000 in
theorem dL_law_618 : decode code 618 = .ok (.aload_n 0, 1) := by decide +kernel
set_option maxRecDepth 100000 in
theorem dL_law_619 : decode code 619 = .ok (.iload_n 3, 1) := by decide +kernel
set_option maxRecDepth 100000 in
theorem dL_law_620 : decode code 620 = .ok (.iconst 1, 1) := by decide +kernel
set_option maxRecDepth 100000 in
theorem dL_law_621 : decode code 621 = .ok (.iadd, 1) := by decide +kernel
set_option maxRecDepth 100000 in
theorem dL_law_622 : decode code 622 = .ok (.iaload, 1) := by decide +kernel
set_option maxRecDepth 100000 in
theorem dL_law_623 : decode code 623 = .ok (.aload_n 0, 1) := by decide +kernel
set_option maxRecDepth 100000 in
theorem dL_law_624 : decode code 624 = .ok (.iload_n 3, 1) := by decide +kernel
set_option maxRecDepth 100000 in
theorem dL_law_625 : decode code 625 = .ok (.iconst 2, 1) := by decide +kernel
set_option maxRecDepth 100000 in
theorem dL_law_626 : decode code 626 = .ok (.iadd, 1) := by decide +kernel
set_option maxRecDepth 100000 in
theorem dL_law_627 : decode code 627 = .ok (.iaload, 1) := by decide +kernel
set_option maxRecDepth 100000 in
theorem dL_law_628 : decode code 628 = .ok (.invokevirtual 73, 3) := by decide +kernel
set_option maxRecDepth 100000 in
theorem dL_law_631 : decode code 631 = .ok (.pop, 1) := by decide +kernel
set_option maxRecDepth 100000 in
theorem dL_law_632 : decode code 632 = .ok (.goto 53, 3) := by decide +kernel
set_option maxRecDepth 100000 in
theorem dL_law_635 : decode code 635 = .ok (.aload_n 1, 1) := by decide +kernel
set_option maxRecDepth 100000 in
theorem dL_law_636 : decode code 636 = .ok (.invokevirtual 74, 3) := by decide +kernel
set_option maxRecDepth 100000 in
theorem dL_law_639 : decode code 639 = .ok (.pop, 1) := by decide +kernel
set_option maxRecDepth 100000 in
theorem dL_law_640 : decode code 640 = .ok (.aload_n 2, 1) := by decide +kernel
set_option maxRecDepth 100000 in
theorem dL_law_641 : decode code 641 = .ok (.invokevirtual 77, 3) := by decide +kernel
set_option maxRecDepth 100000 in
theorem dL_law_644 : decode code 644 = .ok (.pop, 1) := by decide +kernel
set_option maxRecDepth 100000 in
theorem dL_law_645 : decode code 645 = .ok (.goto 40, 3) := by decide +kernel
set_option maxRecDepth 100000 in
theorem dL_law_648 : decode code 648 = .ok (.aload_n 1, 1) := by decide +kernel
set_option maxRecDepth 100000 in
theorem dL_law_649 : decode code 649 = .ok (.invokevirtual 78, 3) := by decide +kernel
set_option maxRecDepth 100000 in
theorem dL_law_652 : decode code 652 = .ok (.aload_n 2, 1) := by decide +kernel
set_option maxRecDepth 100000 in
theorem dL_law_653 : decode code 653 = .ok (.invokevirtual 82, 3) := by decide +kernel
set_option maxRecDepth 100000 in
theorem dL_law_656 : decode code 656 = .ok (.lcmp, 1) := by decide +kernel
set_option maxRecDepth 100000 in
theorem dL_law_657 : decode code 657 = .ok (.ifCond .eq 28, 3) := by decide +kernel
set_option maxRecDepth 100000 in
theorem dL_law_660 : decode code 660 = .ok (.iconst 0, 1) := by decide +kernel
set_option maxRecDepth 100000 in
theorem dL_law_661 : decode code 661 = .ok (.ireturn, 1) := by decide +kernel
set_option maxRecDepth 100000 in
theorem dL_law_662 : decode code 662 = .ok (.aload_n 1, 1) := by decide +kernel
set_option maxRecDepth 100000 in
theorem dL_law_663 : decode code 663 = .ok (.aload_n 0, 1) := by decide +kernel
set_option maxRecDepth 100000 in
theorem dL_law_664 : decode code 664 = .ok (.iload_n 3, 1) := by decide +kernel
set_option maxRecDepth 100000 in
theorem dL_law_665 : decode code 665 = .ok (.iconst 1, 1) := by decide +kernel
set_option maxRecDepth 100000 in
theorem dL_law_666 : decode code 666 = .ok (.iadd, 1) := by decide +kernel
set_option maxRecDepth 100000 in
theorem dL_law_667 : decode code 667 = .ok (.iaload, 1) := by decide +kernel
set_option maxRecDepth 100000 in
theorem dL_law_668 : decode code 668 = .ok (.invokevirtual 83, 3) := by decide +kernel
set_option maxRecDepth 100000 in
theorem dL_law_671 : decode code 671 = .ok (.pop, 1) := by decide +kernel
set_option maxRecDepth 100000 in
theorem dL_law_672 : decode code 672 = .ok (.aload_n 2, 1) := by decide +kernel
set_option maxRecDepth 100000 in
theorem dL_law_673 : decode code 673 = .ok (.aload_n 0, 1) := by decide +kernel
set_option maxRecDepth 100000 in
theorem dL_law_674 : decode code 674 = .ok (.iload_n 3, 1) := by decide +kernel
set_option maxRecDepth 100000 in
theorem dL_law_675 : decode code 675 = .ok (.iconst 1, 1) := by decide +kernel
set_option maxRecDepth 100000 in
theorem dL_law_676 : decode code 676 = .ok (.iadd, 1) := by decide +kernel
set_option maxRecDepth 100000 in
theorem dL_law_677 : decode code 677 = .ok (.iaload, 1) := by decide +kernel
set_option maxRecDepth 100000 in
theorem dL_law_678 : decode code 678 = .ok (.invokevirtual 86, 3) := by decide +kernel
set_option maxRecDepth 100000 in
theorem dL_law_681 : decode code 681 = .ok (.pop, 1) := by decide +kernel
set_option maxRecDepth 100000 in
theorem dL_law_682 : decode code 682 = .ok (.goto 3, 3) := by decide +kernel
set_option maxRecDepth 100000 in
theorem dL_law_685 : decode code 685 = .ok (.iinc 3 7, 3) := by decide +kernel
set_option maxRecDepth 100000 in
theorem dL_law_688 : decode code 688 = .ok (.goto (-670), 3) := by decide +kernel
set_option maxRecDepth 100000 in
theorem dL_law_691 : decode code 691 = .ok (.iconst 1, 1) := by decide +kernel
set_option maxRecDepth 100000 in
theorem dL_law_692 : decode code 692 = .ok (.ireturn, 1) := by decide +kernel
set_option maxRecDepth 100000 in
theorem okX10_run : mOk miX10_run 2 := ⟨(gd_of 490 rfl rfl), (gd_of 72 rfl rfl), by decide +kernel, ⟨by decide +kernel, by decide +kernel, by decide +kernel⟩, by decide⟩
set_option maxRecDepth 100000 in
theorem okX11_run : mOk miX11_run 2 := ⟨(gd_of 984 rfl rfl), (gd_of 76 rfl rfl), by decide +kernel, ⟨by decide +kernel, by decide +kernel, by decide +kernel⟩, by decide⟩
set_option maxRecDepth 100000 in
theorem okX10_runSite : mOk miX10_runSite 2 := ⟨(gd_of 680 rfl rfl), (gd_of 72 rfl rfl), by decide +kernel, ⟨by decide +kernel, by decide +kernel, by decide +kernel⟩, by decide⟩
set_option maxRecDepth 100000 in
theorem okX11_runSite : mOk miX11_runSite 2 := ⟨(gd_of 1074 rfl rfl), (gd_of 76 rfl rfl), by decide +kernel, ⟨by decide +kernel, by decide +kernel, by decide +kernel⟩, by decide⟩
set_option maxRecDepth 100000 in
theorem okX10_plain : mOk miX10_plain 3 := ⟨(gd_of 198 rfl rfl), (gd_of 72 rfl rfl), by decide +kernel, ⟨by decide +kernel, by decide +kernel, by decide +kernel⟩, by decide⟩
set_option maxRecDepth 100000 in
theorem okX11_plain : mOk miX11_plain 3 := ⟨(gd_of 873 rfl rfl), (gd_of 76 rfl rfl), by decide +kernel, ⟨by decide +kernel, by decide +kernel, by decide +kernel⟩, by decide⟩
set_option maxRecDepth 100000 in
theorem okX10_other : mOk miX10_other 6 := ⟨(gd_of 262 rfl rfl), (gd_of 72 rfl rfl), by decide +kernel, ⟨by decide +kernel, by decide +kernel, by decide +kernel⟩, by decide⟩
set_option maxRecDepth 100000 in
theorem okX11_other : mOk miX11_other 6 := ⟨(gd_of 896 rfl rfl), (gd_of 76 rfl rfl), by decide +kernel, ⟨by decide +kernel, by decide +kernel, by decide +kernel⟩, by decide⟩
set_option maxRecDepth 100000 in
theorem okX10_row : mOk miX10_row 1 := ⟨(gd_of 440 rfl rfl), (gd_of 72 rfl rfl), by decide +kernel, ⟨by decide +kernel, by decide +kernel, by decide +kernel⟩, by decide⟩
set_option maxRecDepth 100000 in
theorem okX11_row : mOk miX11_row 1 := ⟨(gd_of 959 rfl rfl), (gd_of 76 rfl rfl), by decide +kernel, ⟨by decide +kernel, by decide +kernel, by decide +kernel⟩, by decide⟩
set_option maxRecDepth 100000 in
theorem okX10_set : mOk miX10_set 3 := ⟨(gd_of 448 rfl rfl), (gd_of 72 rfl rfl), by decide +kernel, ⟨by decide +kernel, by decide +kernel, by decide +kernel⟩, by decide⟩
set_option maxRecDepth 100000 in
theorem okX11_set : mOk miX11_set 3 := ⟨(gd_of 968 rfl rfl), (gd_of 76 rfl rfl), by decide +kernel, ⟨by decide +kernel, by decide +kernel, by decide +kernel⟩, by decide⟩
set_option maxRecDepth 100000 in
theorem okX10_item : mOk miX10_item 2 := ⟨(gd_of 462 rfl rfl), (gd_of 72 rfl rfl), by decide +kernel, ⟨by decide +kernel, by decide +kernel, by decide +kernel⟩, by decide⟩
set_option maxRecDepth 100000 in
theorem okX11_item : mOk miX11_item 2 := ⟨(gd_of 972 rfl rfl), (gd_of 76 rfl rfl), by decide +kernel, ⟨by decide +kernel, by decide +kernel, by decide +kernel⟩, by decide⟩
set_option maxRecDepth 100000 in
theorem okX10_value : mOk miX10_value 3 := ⟨(gd_of 474 rfl rfl), (gd_of 72 rfl rfl), by decide +kernel, ⟨by decide +kernel, by decide +kernel, by decide +kernel⟩, by decide⟩
set_option maxRecDepth 100000 in
theorem okX11_value : mOk miX11_value 3 := ⟨(gd_of 976 rfl rfl), (gd_of 76 rfl rfl), by decide +kernel, ⟨by decide +kernel, by decide +kernel, by decide +kernel⟩, by decide⟩
set_option maxRecDepth 100000 in
theorem okX10_clear : mOk miX10_clear 0 := ⟨(gd_of 486 rfl rfl), (gd_of 72 rfl rfl), by decide +kernel, ⟨by decide +kernel, by decide +kernel, by decide +kernel⟩, by decide⟩
set_option maxRecDepth 100000 in
theorem okX11_clear : mOk miX11_clear 0 := ⟨(gd_of 980 rfl rfl), (gd_of 76 rfl rfl), by decide +kernel, ⟨by decide +kernel, by decide +kernel, by decide +kernel⟩, by decide⟩
set_option maxRecDepth 100000 in
theorem okX10_site : mOk miX10_site 2 := ⟨(gd_of 657 rfl rfl), (gd_of 72 rfl rfl), by decide +kernel, ⟨by decide +kernel, by decide +kernel, by decide +kernel⟩, by decide⟩
set_option maxRecDepth 100000 in
theorem okX11_site : mOk miX11_site 2 := ⟨(gd_of 1070 rfl rfl), (gd_of 76 rfl rfl), by decide +kernel, ⟨by decide +kernel, by decide +kernel, by decide +kernel⟩, by decide⟩
set_option maxRecDepth 100000 in
theorem okX10_turn : mOk miX10_turn 2 := ⟨(gd_of 697 rfl rfl), (gd_of 72 rfl rfl), by decide +kernel, ⟨by decide +kernel, by decide +kernel, by decide +kernel⟩, by decide⟩
set_option maxRecDepth 100000 in
theorem okX11_turn : mOk miX11_turn 2 := ⟨(gd_of 1082 rfl rfl), (gd_of 76 rfl rfl), by decide +kernel, ⟨by decide +kernel, by decide +kernel, by decide +kernel⟩, by decide⟩
set_option maxRecDepth 100000 in
theorem okX10_linked : mOk miX10_linked 1 := ⟨(gd_of 701 rfl rfl), (gd_of 72 rfl rfl), by decide +kernel, ⟨by decide +kernel, by decide +kernel, by decide +kernel⟩, by decide⟩
set_option maxRecDepth 100000 in
theorem okX11_linked : mOk miX11_linked 1 := ⟨(gd_of 1086 rfl rfl), (gd_of 76 rfl rfl), by decide +kernel, ⟨by decide +kernel, by decide +kernel, by decide +kernel⟩, by decide⟩
set_option maxRecDepth 100000 in
theorem okX10_about : mOk miX10_about 2 := ⟨(gd_of 705 rfl rfl), (gd_of 72 rfl rfl), by decide +kernel, ⟨by decide +kernel, by decide +kernel, by decide +kernel⟩, by decide⟩
set_option maxRecDepth 100000 in
theorem okX11_about : mOk miX11_about 2 := ⟨(gd_of 1090 rfl rfl), (gd_of 76 rfl rfl), by decide +kernel, ⟨by decide +kernel, by decide +kernel, by decide +kernel⟩, by decide⟩
set_option maxRecDepth 100000 in
theorem okX10_resultKind : mOk miX10_resultKind 0 := ⟨(gd_of 709 rfl rfl), (gd_of 72 rfl rfl), by decide +kernel, ⟨by decide +kernel, by decide +kernel, by decide +kernel⟩, by decide⟩
set_option maxRecDepth 100000 in
theorem okX11_resultKind : mOk miX11_resultKind 0 := ⟨(gd_of 1094 rfl rfl), (gd_of 76 rfl rfl), by decide +kernel, ⟨by decide +kernel, by decide +kernel, by decide +kernel⟩, by decide⟩
set_option maxRecDepth 100000 in
theorem okX10_result : mOk miX10_result 0 := ⟨(gd_of 713 rfl rfl), (gd_of 72 rfl rfl), by decide +kernel, ⟨by decide +kernel, by decide +kernel, by decide +kernel⟩, by decide⟩
set_option maxRecDepth 100000 in
theorem okX11_result : mOk miX11_result 0 := ⟨(gd_of 1098 rfl rfl), (gd_of 76 rfl rfl), by decide +kernel, ⟨by decide +kernel, by decide +kernel, by decide +kernel⟩, by decide⟩
set_option maxRecDepth 100000 in
theorem okX10_told : mOk miX10_told 1 := ⟨(gd_of 717 rfl rfl), (gd_of 72 rfl rfl), by decide +kernel, ⟨by decide +kernel, by decide +kernel, by decide +kernel⟩, by decide⟩
set_option maxRecDepth 100000 in
theorem okX11_told : mOk miX11_told 1 := ⟨(gd_of 1102 rfl rfl), (gd_of 76 rfl rfl), by decide +kernel, ⟨by decide +kernel, by decide +kernel, by decide +kernel⟩, by decide⟩
abbrev dz8 : List aV := [.inr (.inr none), .inl 0, .inr (.inr none), .inl 0, .inr (.inr none), .inr (.inr none), .inr (.inr none), .inl 0, .inr (.inl 0), .inl 0]
set_option maxRecDepth 100000 in
theorem dz8_ok : ∀ j, j < 10 → defaultValue (tyX10 j) = vp_V (dz8.map tv) j := by decide +kernel
set_option maxRecDepth 100000 in
theorem okX10_init : mOk miX10_init 0 := ⟨(gd_of 90 rfl rfl), (gd_of 72 rfl rfl), by decide +kernel, ⟨by decide +kernel, by decide +kernel, by decide +kernel⟩, by decide⟩
abbrev dz9 : List aV := [.inl 0, .inl 0, .inr (.inr none), .inr (.inr none), .inr (.inr none), .inr (.inr none), .inr (.inr none), .inr (.inr none), .inr (.inr none), .inr (.inr none), .inr (.inr none), .inr (.inr none), .inr (.inr none), .inl 0, .inr (.inr none), .inr (.inr none), .inl 0, .inr (.inr none), .inr (.inr none), .inr (.inr none), .inl 0, .inr (.inr none), .inr (.inr none), .inl 0, .inr (.inl 0), .inl 0, .inl 0, .inr (.inr none), .inl 0, .inl 0, .inl 0, .inr (.inl 0), .inl 0, .inl 0, .inl 0, .inr (.inr none), .inr (.inr none), .inr (.inr none), .inr (.inr none), .inr (.inr none), .inr (.inr none), .inr (.inr none), .inr (.inr none), .inr (.inr none), .inr (.inr none), .inr (.inr none), .inl 0]
set_option maxRecDepth 100000 in
theorem dz9_ok : ∀ j, j < 47 → defaultValue (tyX11 j) = vp_V (dz9.map tv) j := by decide +kernel
set_option maxRecDepth 100000 in
theorem okX11_init : mOk miX11_init 0 := ⟨(gd_of 726 rfl rfl), (gd_of 76 rfl rfl), by decide +kernel, ⟨by decide +kernel, by decide +kernel, by decide +kernel⟩, by decide⟩
def fL_law_434 (z : Nat → Nat) (K18 : Option Nat → Option Nat → Option Nat → Int32 → aH → Option (Int32 × aH)) (r0 : Option Nat) (r1 : Option Nat) (r2 : Option Nat) (x3 : Int32) (sr0 : Option Nat) (sx1 : Int32) (sx2 : Int32) (h : aH) : Option (Int32 × aH) :=
  (sr0).bind fun a102 =>
  (obO h a102 8).bind fun fs103 =>
  (fX10_run z a102 sx1 sx2 h).bind fun q101 =>
  (r0).bind fun a104 =>
  (arI q101.2 a104 (x3 + 1)).bind fun x105 =>
  (arI q101.2 a104 (x3 + 2)).bind fun x106 =>
  (if x106 = 0 then
  (r2).bind fun a108 =>
  (obO q101.2 a108 9).bind fun fs109 =>
  (fX11_run z a108 x105 0 q101.2).bind fun q107 =>
  K18 (some a104) r1 (some a108) (x3 + 7) q107.2
  else
  (r2).bind fun a111 =>
  (obO q101.2 a111 9).bind fun fs112 =>
  (fX11_run z a111 x105 1 q101.2).bind fun q110 =>
  K18 (some a104) r1 (some a111) (x3 + 7) q110.2)
set_option maxHeartbeats 4000000 in
set_option maxRecDepth 100000 in
theorem xL_law_434 {l : Launch} {g : aG} {d : Nat} (hK : 354 ≤ d + 1) {K18 : Option Nat → Option Nat → Option Nat → Int32 → aH → Option (Int32 × aH)} (hK18 : ∀ (r0 : Option Nat) (r1 : Option Nat) (r2 : Option Nat) (x3 : Int32) (h : aH) (q : Int32 × aH), K18 r0 r1 r2 x3 h = some q → Y l g miL_law (d + 1) 18 [some (.inr (.inr r0)), some (.inr (.inr r1)), some (.inr (.inr r2)), some (.inl x3)] [] h (some (.inl q.1), q.2)) {r0 : Option Nat} {r1 : Option Nat} {r2 : Option Nat} {x3 : Int32} {sr0 : Option Nat} {sx1 : Int32} {sx2 : Int32} {h : aH} {q : Int32 × aH} (hf : fL_law_434 g.2.2 K18 r0 r1 r2 x3 sr0 sx1 sx2 h = some q) : Y l g miL_law (d + 1) 434 [some (.inr (.inr r0)), some (.inr (.inr r1)), some (.inr (.inr r2)), some (.inl x3)] [.inl sx2, .inl sx1, .inr (.inr sr0)] h (some (.inl q.1), q.2) := by
  unfold fL_law_434 at hf
  replace hf := bnd hf
  obtain ⟨a102, rfl, hf⟩ := hf
  replace hf := bnd hf
  obtain ⟨fs103, efs103, hf⟩ := hf
  replace hf := bnd hf
  obtain ⟨q101, eq101, hf⟩ := hf
  refine y_callV (mj := miX10_run) (args := [.inl sx1, .inl sx2]) (st := []) dL_law_434 (gd_of 487 rfl rfl) (gd_of 488 rfl rfl) (gd_of 489 rfl rfl) okX10_run (obO_spec efs103) rfl rfl (xX10_run (by omega) eq101) (Nat.le_of_ble_eq_true rfl) rfl ?_
  show Y l g miL_law (d + 1) 437 [some (.inr (.inr r0)), some (.inr (.inr r1)), some (.inr (.inr r2)), some (.inl x3)] [.inl q101.1] q101.2 _
  refine y_pop dL_law_437 rfl ?_
  refine y_aload_n (i := 2) dL_law_438 rfl rfl ?_
  refine y_aload_n (i := 0) dL_law_439 rfl rfl ?_
  refine y_iload_n (i := 3) dL_law_440 rfl rfl ?_
  refine y_iconst (v := 1) dL_law_441 (by decide) ?_
  refine y_iadd dL_law_442 ?_
  replace hf := bnd hf
  obtain ⟨a104, rfl, hf⟩ := hf
  replace hf := bnd hf
  obtain ⟨x105, ex105, hf⟩ := hf
  refine y_iaload ex105 dL_law_443 ?_
  refine y_aload_n (i := 0) dL_law_444 rfl rfl ?_
  refine y_iload_n (i := 3) dL_law_445 rfl rfl ?_
  refine y_iconst (v := 2) dL_law_446 (by decide) ?_
  refine y_iadd dL_law_447 ?_
  replace hf := bnd hf
  obtain ⟨x106, ex106, hf⟩ := hf
  refine y_iaload ex106 dL_law_448 ?_
  refine y_if_eq (tgt := 456) dL_law_449 (by decide) (fun hc => ?_) (fun hc => ?_)
  · rw [if_pos hc] at hf
    refine y_iconst (v := 0) dL_law_456 (by decide) ?_
    replace hf := bnd hf
    obtain ⟨a108, rfl, hf⟩ := hf
    replace hf := bnd hf
    obtain ⟨fs109, efs109, hf⟩ := hf
    replace hf := bnd hf
    obtain ⟨q107, eq107, hf⟩ := hf
    refine y_callV (mj := miX11_run) (args := [.inl x105, .inl 0]) (st := []) dL_law_457 (gd_of 981 rfl rfl) (gd_of 982 rfl rfl) (gd_of 983 rfl rfl) okX11_run (obO_spec efs109) rfl rfl (xX11_run (by omega) eq107) (Nat.le_of_ble_eq_true rfl) rfl ?_
    show Y l g miL_law (d + 1) 460 [some (.inr (.inr (some a104))), some (.inr (.inr r1)), some (.inr (.inr (some a108))), some (.inl x3)] [.inl q107.1] q107.2 _
    refine y_pop dL_law_460 rfl ?_
    refine y_goto (tgt := 685) dL_law_461 (by decide) ?_
    refine y_iinc (i := 3) (y := 7) (lv2 := [some (.inr (.inr (some a104))), some (.inr (.inr r1)), some (.inr (.inr (some a108))), some (.inl (x3 + 7))]) dL_law_685 rfl (by decide) (by decide) rfl ?_
    refine y_goto (tgt := 18) dL_law_688 (by decide) ?_
    refine Y.weak (lv2 := [some (.inr (.inr (some a104))), some (.inr (.inr r1)), some (.inr (.inr (some a108))), some (.inl (x3 + 7))]) [true, true, true, true] rfl ?_
    exact hK18 _ _ _ _ _ _ hf
  · rw [if_neg hc] at hf
    refine y_iconst (v := 1) dL_law_452 (by decide) ?_
    refine y_goto (tgt := 457) dL_law_453 (by decide) ?_
    replace hf := bnd hf
    obtain ⟨a111, rfl, hf⟩ := hf
    replace hf := bnd hf
    obtain ⟨fs112, efs112, hf⟩ := hf
    replace hf := bnd hf
    obtain ⟨q110, eq110, hf⟩ := hf
    refine y_callV (mj := miX11_run) (args := [.inl x105, .inl 1]) (st := []) dL_law_457 (gd_of 981 rfl rfl) (gd_of 982 rfl rfl) (gd_of 983 rfl rfl) okX11_run (obO_spec efs112) rfl rfl (xX11_run (by omega) eq110) (Nat.le_of_ble_eq_true rfl) rfl ?_
    show Y l g miL_law (d + 1) 460 [some (.inr (.inr (some a104))), some (.inr (.inr r1)), some (.inr (.inr (some a111))), some (.inl x3)] [.inl q110.1] q110.2 _
    refine y_pop dL_law_460 rfl ?_
    refine y_goto (tgt := 685) dL_law_461 (by decide) ?_
    refine y_iinc (i := 3) (y := 7) (lv2 := [some (.inr (.inr (some a104))), some (.inr (.inr r1)), some (.inr (.inr (some a111))), some (.inl (x3 + 7))]) dL_law_685 rfl (by decide) (by decide) rfl ?_
    refine y_goto (tgt := 18) dL_law_688 (by decide) ?_
    refine Y.weak (lv2 := [some (.inr (.inr (some a104))), some (.inr (.inr r1)), some (.inr (.inr (some a111))), some (.inl (x3 + 7))]) [true, true, true, true] rfl ?_
    exact hK18 _ _ _ _ _ _ hf
def fL_law_516 (z : Nat → Nat) (K18 : Option Nat → Option Nat → Option Nat → Int32 → aH → Option (Int32 × aH)) (r0 : Option Nat) (r1 : Option Nat) (r2 : Option Nat) (x3 : Int32) (sr0 : Option Nat) (sx1 : Int32) (sx2 : Int32) (h : aH) : Option (Int32 × aH) :=
  (sr0).bind fun a102 =>
  (obO h a102 8).bind fun fs103 =>
  (fX10_runSite z a102 sx1 sx2 h).bind fun q101 =>
  (r0).bind fun a104 =>
  (arI q101.2 a104 (x3 + 1)).bind fun x105 =>
  (arI q101.2 a104 (x3 + 2)).bind fun x106 =>
  (if x106 = 0 then
  (r2).bind fun a108 =>
  (obO q101.2 a108 9).bind fun fs109 =>
  (fX11_runSite z a108 x105 0 q101.2).bind fun q107 =>
  K18 (some a104) r1 (some a108) (x3 + 7) q107.2
  else
  (r2).bind fun a111 =>
  (obO q101.2 a111 9).bind fun fs112 =>
  (fX11_runSite z a111 x105 1 q101.2).bind fun q110 =>
  K18 (some a104) r1 (some a111) (x3 + 7) q110.2)
set_option maxHeartbeats 4000000 in
set_option maxRecDepth 100000 in
theorem xL_law_516 {l : Launch} {g : aG} {d : Nat} (hK : 354 ≤ d + 1) {K18 : Option Nat → Option Nat → Option Nat → Int32 → aH → Option (Int32 × aH)} (hK18 : ∀ (r0 : Option Nat) (r1 : Option Nat) (r2 : Option Nat) (x3 : Int32) (h : aH) (q : Int32 × aH), K18 r0 r1 r2 x3 h = some q → Y l g miL_law (d + 1) 18 [some (.inr (.inr r0)), some (.inr (.inr r1)), some (.inr (.inr r2)), some (.inl x3)] [] h (some (.inl q.1), q.2)) {r0 : Option Nat} {r1 : Option Nat} {r2 : Option Nat} {x3 : Int32} {sr0 : Option Nat} {sx1 : Int32} {sx2 : Int32} {h : aH} {q : Int32 × aH} (hf : fL_law_516 g.2.2 K18 r0 r1 r2 x3 sr0 sx1 sx2 h = some q) : Y l g miL_law (d + 1) 516 [some (.inr (.inr r0)), some (.inr (.inr r1)), some (.inr (.inr r2)), some (.inl x3)] [.inl sx2, .inl sx1, .inr (.inr sr0)] h (some (.inl q.1), q.2) := by
  unfold fL_law_516 at hf
  replace hf := bnd hf
  obtain ⟨a102, rfl, hf⟩ := hf
  replace hf := bnd hf
  obtain ⟨fs103, efs103, hf⟩ := hf
  replace hf := bnd hf
  obtain ⟨q101, eq101, hf⟩ := hf
  refine y_callV (mj := miX10_runSite) (args := [.inl sx1, .inl sx2]) (st := []) dL_law_516 (gd_of 677 rfl rfl) (gd_of 678 rfl rfl) (gd_of 679 rfl rfl) okX10_runSite (obO_spec efs103) rfl rfl (xX10_runSite (by omega) eq101) (Nat.le_of_ble_eq_true rfl) rfl ?_
  show Y l g miL_law (d + 1) 519 [some (.inr (.inr r0)), some (.inr (.inr r1)), some (.inr (.inr r2)), some (.inl x3)] [.inl q101.1] q101.2 _
  refine y_pop dL_law_519 rfl ?_
  refine y_aload_n (i := 2) dL_law_520 rfl rfl ?_
  refine y_aload_n (i := 0) dL_law_521 rfl rfl ?_
  refine y_iload_n (i := 3) dL_law_522 rfl rfl ?_
  refine y_iconst (v := 1) dL_law_523 (by decide) ?_
  refine y_iadd dL_law_524 ?_
  replace hf := bnd hf
  obtain ⟨a104, rfl, hf⟩ := hf
  replace hf := bnd hf
  obtain ⟨x105, ex105, hf⟩ := hf
  refine y_iaload ex105 dL_law_525 ?_
  refine y_aload_n (i := 0) dL_law_526 rfl rfl ?_
  refine y_iload_n (i := 3) dL_law_527 rfl rfl ?_
  refine y_iconst (v := 2) dL_law_528 (by decide) ?_
  refine y_iadd dL_law_529 ?_
  replace hf := bnd hf
  obtain ⟨x106, ex106, hf⟩ := hf
  refine y_iaload ex106 dL_law_530 ?_
  refine y_if_eq (tgt := 538) dL_law_531 (by decide) (fun hc => ?_) (fun hc => ?_)
  · rw [if_pos hc] at hf
    refine y_iconst (v := 0) dL_law_538 (by decide) ?_
    replace hf := bnd hf
    obtain ⟨a108, rfl, hf⟩ := hf
    replace hf := bnd hf
    obtain ⟨fs109, efs109, hf⟩ := hf
    replace hf := bnd hf
    obtain ⟨q107, eq107, hf⟩ := hf
    refine y_callV (mj := miX11_runSite) (args := [.inl x105, .inl 0]) (st := []) dL_law_539 (gd_of 1071 rfl rfl) (gd_of 1072 rfl rfl) (gd_of 1073 rfl rfl) okX11_runSite (obO_spec efs109) rfl rfl (xX11_runSite (by omega) eq107) (Nat.le_of_ble_eq_true rfl) rfl ?_
    show Y l g miL_law (d + 1) 542 [some (.inr (.inr (some a104))), some (.inr (.inr r1)), some (.inr (.inr (some a108))), some (.inl x3)] [.inl q107.1] q107.2 _
    refine y_pop dL_law_542 rfl ?_
    refine y_goto (tgt := 685) dL_law_543 (by decide) ?_
    refine y_iinc (i := 3) (y := 7) (lv2 := [some (.inr (.inr (some a104))), some (.inr (.inr r1)), some (.inr (.inr (some a108))), some (.inl (x3 + 7))]) dL_law_685 rfl (by decide) (by decide) rfl ?_
    refine y_goto (tgt := 18) dL_law_688 (by decide) ?_
    refine Y.weak (lv2 := [some (.inr (.inr (some a104))), some (.inr (.inr r1)), some (.inr (.inr (some a108))), some (.inl (x3 + 7))]) [true, true, true, true] rfl ?_
    exact hK18 _ _ _ _ _ _ hf
  · rw [if_neg hc] at hf
    refine y_iconst (v := 1) dL_law_534 (by decide) ?_
    refine y_goto (tgt := 539) dL_law_535 (by decide) ?_
    replace hf := bnd hf
    obtain ⟨a111, rfl, hf⟩ := hf
    replace hf := bnd hf
    obtain ⟨fs112, efs112, hf⟩ := hf
    replace hf := bnd hf
    obtain ⟨q110, eq110, hf⟩ := hf
    refine y_callV (mj := miX11_runSite) (args := [.inl x105, .inl 1]) (st := []) dL_law_539 (gd_of 1071 rfl rfl) (gd_of 1072 rfl rfl) (gd_of 1073 rfl rfl) okX11_runSite (obO_spec efs112) rfl rfl (xX11_runSite (by omega) eq110) (Nat.le_of_ble_eq_true rfl) rfl ?_
    show Y l g miL_law (d + 1) 542 [some (.inr (.inr (some a104))), some (.inr (.inr r1)), some (.inr (.inr (some a111))), some (.inl x3)] [.inl q110.1] q110.2 _
    refine y_pop dL_law_542 rfl ?_
    refine y_goto (tgt := 685) dL_law_543 (by decide) ?_
    refine y_iinc (i := 3) (y := 7) (lv2 := [some (.inr (.inr (some a104))), some (.inr (.inr r1)), some (.inr (.inr (some a111))), some (.inl (x3 + 7))]) dL_law_685 rfl (by decide) (by decide) rfl ?_
    refine y_goto (tgt := 18) dL_law_688 (by decide) ?_
    refine Y.weak (lv2 := [some (.inr (.inr (some a104))), some (.inr (.inr r1)), some (.inr (.inr (some a111))), some (.inl (x3 + 7))]) [true, true, true, true] rfl ?_
    exact hK18 _ _ _ _ _ _ hf
def fL_law_18 (z : Nat → Nat) : Nat → Option Nat → Option Nat → Option Nat → Int32 → aH → Option (Int32 × aH)
  | 0, _, _, _, _, _ => none
  | n + 1, r0, r1, r2, x3, h => (r0).bind fun a101 =>
  (arN h a101).bind fun x102 =>
  (if (x102 - 7) < x3 then
  some (1, h)
  else
  (arI h a101 x3).bind fun x103 =>
  (if (x103 &&& 15) = 0 then
  (arI h a101 (x3 + 1)).bind fun x104 =>
  (arI h a101 (x3 + 2)).bind fun x105 =>
  (arI h a101 (x3 + 3)).bind fun x106 =>
  (r1).bind fun a108 =>
  (obO h a108 8).bind fun fs109 =>
  (fX10_plain z a108 x104 x105 x106 h).bind fun q107 =>
  (arI q107.2 a101 (x3 + 1)).bind fun x110 =>
  (arI q107.2 a101 (x3 + 2)).bind fun x111 =>
  (arI q107.2 a101 (x3 + 3)).bind fun x112 =>
  (r2).bind fun a114 =>
  (obO q107.2 a114 9).bind fun fs115 =>
  (fX11_plain z a114 x110 x111 x112 q107.2).bind fun q113 =>
  fL_law_18 z n (some a101) (some a108) (some a114) (x3 + 7) q113.2
  else
  (if (x103 &&& 15) = 1 then
  (arI h a101 (x3 + 1)).bind fun x116 =>
  (arI h a101 (x3 + 2)).bind fun x117 =>
  (arI h a101 (x3 + 3)).bind fun x118 =>
  (arI h a101 (x3 + 4)).bind fun x119 =>
  (arI h a101 (x3 + 5)).bind fun x120 =>
  (arI h a101 (x3 + 6)).bind fun x121 =>
  (r1).bind fun a123 =>
  (obO h a123 8).bind fun fs124 =>
  (fX10_other z a123 x116 x117 x118 x119 x120 x121 h).bind fun q122 =>
  (arI q122.2 a101 (x3 + 1)).bind fun x125 =>
  (arI q122.2 a101 (x3 + 2)).bind fun x126 =>
  (arI q122.2 a101 (x3 + 3)).bind fun x127 =>
  (arI q122.2 a101 (x3 + 4)).bind fun x128 =>
  (arI q122.2 a101 (x3 + 5)).bind fun x129 =>
  (arI q122.2 a101 (x3 + 6)).bind fun x130 =>
  (r2).bind fun a132 =>
  (obO q122.2 a132 9).bind fun fs133 =>
  (fX11_other z a132 x125 x126 x127 x128 x129 x130 q122.2).bind fun q131 =>
  fL_law_18 z n (some a101) (some a123) (some a132) (x3 + 7) q131.2
  else
  (if (x103 &&& 15) = 2 then
  (arI h a101 (x3 + 1)).bind fun x134 =>
  (r1).bind fun a136 =>
  (obO h a136 8).bind fun fs137 =>
  (fX10_row z a136 x134 h).bind fun q135 =>
  (arI q135.2 a101 (x3 + 1)).bind fun x138 =>
  (r2).bind fun a140 =>
  (obO q135.2 a140 9).bind fun fs141 =>
  (fX11_row z a140 x138 q135.2).bind fun q139 =>
  fL_law_18 z n (some a101) (some a136) (some a140) (x3 + 7) q139.2
  else
  (if (x103 &&& 15) = 3 then
  (arI h a101 (x3 + 1)).bind fun x142 =>
  (arI h a101 (x3 + 2)).bind fun x143 =>
  (arI h a101 (x3 + 3)).bind fun x144 =>
  (r1).bind fun a146 =>
  (obO h a146 8).bind fun fs147 =>
  (fX10_set z a146 x142 x143 x144 h).bind fun q145 =>
  (arI q145.2 a101 (x3 + 1)).bind fun x148 =>
  (arI q145.2 a101 (x3 + 2)).bind fun x149 =>
  (arI q145.2 a101 (x3 + 3)).bind fun x150 =>
  (r2).bind fun a152 =>
  (obO q145.2 a152 9).bind fun fs153 =>
  (fX11_set z a152 x148 x149 x150 q145.2).bind fun q151 =>
  fL_law_18 z n (some a101) (some a146) (some a152) (x3 + 7) q151.2
  else
  (if (x103 &&& 15) = 4 then
  (arI h a101 (x3 + 1)).bind fun x154 =>
  (arI h a101 (x3 + 2)).bind fun x155 =>
  (r1).bind fun a157 =>
  (obO h a157 8).bind fun fs158 =>
  (fX10_item z a157 x154 x155 h).bind fun q156 =>
  (arI q156.2 a101 (x3 + 1)).bind fun x159 =>
  (arI q156.2 a101 (x3 + 2)).bind fun x160 =>
  (r2).bind fun a162 =>
  (obO q156.2 a162 9).bind fun fs163 =>
  (fX11_item z a162 x159 x160 q156.2).bind fun q161 =>
  fL_law_18 z n (some a101) (some a157) (some a162) (x3 + 7) q161.2
  else
  (if (x103 &&& 15) = 5 then
  (arI h a101 (x3 + 1)).bind fun x164 =>
  (arI h a101 (x3 + 2)).bind fun x165 =>
  (arI h a101 (x3 + 3)).bind fun x166 =>
  (arI h a101 (x3 + 4)).bind fun x167 =>
  (r1).bind fun a169 =>
  (obO h a169 8).bind fun fs170 =>
  (fX10_value z a169 x164 x165 (((Int32.toInt64 x166) <<< (Int32.toInt64 32 &&& 63)) ||| ((Int32.toInt64 x167) &&& 4294967295)) h).bind fun q168 =>
  (arI q168.2 a101 (x3 + 1)).bind fun x171 =>
  (arI q168.2 a101 (x3 + 2)).bind fun x172 =>
  (arI q168.2 a101 (x3 + 3)).bind fun x173 =>
  (arI q168.2 a101 (x3 + 4)).bind fun x174 =>
  (r2).bind fun a176 =>
  (obO q168.2 a176 9).bind fun fs177 =>
  (fX11_value z a176 x171 x172 (((Int32.toInt64 x173) <<< (Int32.toInt64 32 &&& 63)) ||| ((Int32.toInt64 x174) &&& 4294967295)) q168.2).bind fun q175 =>
  fL_law_18 z n (some a101) (some a169) (some a176) (x3 + 7) q175.2
  else
  (if (x103 &&& 15) = 6 then
  (r1).bind fun a179 =>
  (obO h a179 8).bind fun fs180 =>
  (fX10_clear z a179 h).bind fun q178 =>
  (r2).bind fun a182 =>
  (obO q178.2 a182 9).bind fun fs183 =>
  (fX11_clear z a182 q178.2).bind fun q181 =>
  fL_law_18 z n (some a101) (some a179) (some a182) (x3 + 7) q181.2
  else
  (if (x103 &&& 15) = 7 then
  (arI h a101 (x3 + 1)).bind fun x184 =>
  (arI h a101 (x3 + 2)).bind fun x185 =>
  (if x185 = 0 then
  fL_law_434 z (fL_law_18 z n) (some a101) r1 r2 x3 r1 x184 0 h
  else
  fL_law_434 z (fL_law_18 z n) (some a101) r1 r2 x3 r1 x184 1 h)
  else
  (if (x103 &&& 15) = 8 then
  (arI h a101 (x3 + 1)).bind fun x186 =>
  (arI h a101 (x3 + 2)).bind fun x187 =>
  (r1).bind fun a189 =>
  (obO h a189 8).bind fun fs190 =>
  (fX10_site z a189 x186 x187 h).bind fun q188 =>
  (arI q188.2 a101 (x3 + 1)).bind fun x191 =>
  (arI q188.2 a101 (x3 + 2)).bind fun x192 =>
  (r2).bind fun a194 =>
  (obO q188.2 a194 9).bind fun fs195 =>
  (fX11_site z a194 x191 x192 q188.2).bind fun q193 =>
  fL_law_18 z n (some a101) (some a189) (some a194) (x3 + 7) q193.2
  else
  (if (x103 &&& 15) = 9 then
  (arI h a101 (x3 + 1)).bind fun x196 =>
  (arI h a101 (x3 + 2)).bind fun x197 =>
  (if x197 = 0 then
  fL_law_516 z (fL_law_18 z n) (some a101) r1 r2 x3 r1 x196 0 h
  else
  fL_law_516 z (fL_law_18 z n) (some a101) r1 r2 x3 r1 x196 1 h)
  else
  (if (x103 &&& 15) = 10 then
  (arI h a101 (x3 + 1)).bind fun x198 =>
  (arI h a101 (x3 + 2)).bind fun x199 =>
  (r1).bind fun a201 =>
  (obO h a201 8).bind fun fs202 =>
  (fX10_turn z a201 x198 x199 h).bind fun q200 =>
  (arI q200.2 a101 (x3 + 1)).bind fun x203 =>
  (arI q200.2 a101 (x3 + 2)).bind fun x204 =>
  (r2).bind fun a206 =>
  (obO q200.2 a206 9).bind fun fs207 =>
  (fX11_turn z a206 x203 x204 q200.2).bind fun q205 =>
  fL_law_18 z n (some a101) (some a201) (some a206) (x3 + 7) q205.2
  else
  (if (x103 &&& 15) = 11 then
  (arI h a101 (x3 + 1)).bind fun x208 =>
  (r1).bind fun a210 =>
  (obO h a210 8).bind fun fs211 =>
  (fX10_linked z a210 x208 h).bind fun q209 =>
  (arI q209.2 a101 (x3 + 1)).bind fun x212 =>
  (r2).bind fun a214 =>
  (obO q209.2 a214 9).bind fun fs215 =>
  (fX11_linked z a214 x212 q209.2).bind fun q213 =>
  fL_law_18 z n (some a101) (some a210) (some a214) (x3 + 7) q213.2
  else
  (if (x103 &&& 15) = 12 then
  (arI h a101 (x3 + 1)).bind fun x216 =>
  (arI h a101 (x3 + 2)).bind fun x217 =>
  (r1).bind fun a219 =>
  (obO h a219 8).bind fun fs220 =>
  (fX10_about z a219 x216 x217 h).bind fun q218 =>
  (arI q218.2 a101 (x3 + 1)).bind fun x221 =>
  (arI q218.2 a101 (x3 + 2)).bind fun x222 =>
  (r2).bind fun a224 =>
  (obO q218.2 a224 9).bind fun fs225 =>
  (fX11_about z a224 x221 x222 q218.2).bind fun q223 =>
  fL_law_18 z n (some a101) (some a219) (some a224) (x3 + 7) q223.2
  else
  (if (x103 &&& 15) = 13 then
  (r1).bind fun a227 =>
  (obO h a227 8).bind fun fs228 =>
  (fX10_resultKind z a227 h).bind fun q226 =>
  (r2).bind fun a230 =>
  (obO q226.2 a230 9).bind fun fs231 =>
  (fX11_resultKind z a230 q226.2).bind fun q229 =>
  fL_law_18 z n (some a101) (some a227) (some a230) (x3 + 7) q229.2
  else
  (if (x103 &&& 15) = 14 then
  (r1).bind fun a233 =>
  (obO h a233 8).bind fun fs234 =>
  (fX10_result z a233 h).bind fun q232 =>
  (r2).bind fun a236 =>
  (obO q232.2 a236 9).bind fun fs237 =>
  (fX11_result z a236 q232.2).bind fun q235 =>
  (if (lg_cmp q232.1 q235.1) = 0 then
  fL_law_18 z n (some a101) (some a233) (some a236) (x3 + 7) q235.2
  else
  some (0, q235.2))
  else
  (if (x103 &&& 15) = 15 then
  (arI h a101 (x3 + 1)).bind fun x238 =>
  (r1).bind fun a240 =>
  (obO h a240 8).bind fun fs241 =>
  (fX10_told z a240 x238 h).bind fun q239 =>
  (arI q239.2 a101 (x3 + 1)).bind fun x242 =>
  (r2).bind fun a244 =>
  (obO q239.2 a244 9).bind fun fs245 =>
  (fX11_told z a244 x242 q239.2).bind fun q243 =>
  fL_law_18 z n (some a101) (some a240) (some a244) (x3 + 7) q243.2
  else
  fL_law_18 z n (some a101) r1 r2 (x3 + 7) h)))))))))))))))))
set_option maxHeartbeats 4000000 in
set_option maxRecDepth 100000 in
theorem xL_law_18 {l : Launch} {g : aG} {d : Nat} (hK : 354 ≤ d + 1) : ∀ (n : Nat) (r0 : Option Nat) (r1 : Option Nat) (r2 : Option Nat) (x3 : Int32) (h : aH) (q : Int32 × aH), fL_law_18 g.2.2 n r0 r1 r2 x3 h = some q → Y l g miL_law (d + 1) 18 [some (.inr (.inr r0)), some (.inr (.inr r1)), some (.inr (.inr r2)), some (.inl x3)] [] h (some (.inl q.1), q.2) := by
  intro n
  induction n with
  | zero => intro r0 r1 r2 x3 h q hf; simp [fL_law_18] at hf
  | succ n ih =>
    intro r0 r1 r2 x3 h q hf
    rw [fL_law_18] at hf
    refine y_iload_n (i := 3) dL_law_18 rfl rfl ?_
    refine y_aload_n (i := 0) dL_law_19 rfl rfl ?_
    replace hf := bnd hf
    obtain ⟨a101, rfl, hf⟩ := hf
    replace hf := bnd hf
    obtain ⟨x102, ex102, hf⟩ := hf
    refine y_alen ex102 dL_law_20 ?_
    refine y_bipush (v := 7) dL_law_21 (by decide) ?_
    refine y_isub dL_law_23 ?_
    refine y_icmp_gt (tgt := 691) dL_law_24 (by decide) (fun hc => ?_) (fun hc => ?_)
    · rw [if_pos hc] at hf
      refine y_iconst (v := 1) dL_law_691 (by decide) ?_
      obtain rfl := Option.some.inj hf
      exact y_ret (v := some (.inl 1)) dL_law_692 rfl
    · rw [if_neg hc] at hf
      refine y_aload_n (i := 0) dL_law_27 rfl rfl ?_
      refine y_iload_n (i := 3) dL_law_28 rfl rfl ?_
      replace hf := bnd hf
      obtain ⟨x103, ex103, hf⟩ := hf
      refine y_iaload ex103 dL_law_29 ?_
      refine y_bipush (v := 15) dL_law_30 (by decide) ?_
      refine y_iand dL_law_32 ?_
      refine y_table dL_law_33 [(0, 112), (1, 155), (2, 230), (3, 253), (4, 296), (5, 329), (6, 402), (7, 415), (8, 464), (9, 497), (10, 546), (11, 579), (12, 602), (13, 635), (14, 648), (15, 662)] 685 (by decide) (by decide) (by decide) (by decide) ?_
      refine y_swc (fun hc => ?_) (fun hc => ?_)
      · rw [if_pos hc] at hf
        refine y_aload_n (i := 1) dL_law_112 rfl rfl ?_
        refine y_aload_n (i := 0) dL_law_113 rfl rfl ?_
        refine y_iload_n (i := 3) dL_law_114 rfl rfl ?_
        refine y_iconst (v := 1) dL_law_115 (by decide) ?_
        refine y_iadd dL_law_116 ?_
        replace hf := bnd hf
        obtain ⟨x104, ex104, hf⟩ := hf
        refine y_iaload ex104 dL_law_117 ?_
        refine y_aload_n (i := 0) dL_law_118 rfl rfl ?_
        refine y_iload_n (i := 3) dL_law_119 rfl rfl ?_
        refine y_iconst (v := 2) dL_law_120 (by decide) ?_
        refine y_iadd dL_law_121 ?_
        replace hf := bnd hf
        obtain ⟨x105, ex105, hf⟩ := hf
        refine y_iaload ex105 dL_law_122 ?_
        refine y_aload_n (i := 0) dL_law_123 rfl rfl ?_
        refine y_iload_n (i := 3) dL_law_124 rfl rfl ?_
        refine y_iconst (v := 3) dL_law_125 (by decide) ?_
        refine y_iadd dL_law_126 ?_
        replace hf := bnd hf
        obtain ⟨x106, ex106, hf⟩ := hf
        refine y_iaload ex106 dL_law_127 ?_
        replace hf := bnd hf
        obtain ⟨a108, rfl, hf⟩ := hf
        replace hf := bnd hf
        obtain ⟨fs109, efs109, hf⟩ := hf
        replace hf := bnd hf
        obtain ⟨q107, eq107, hf⟩ := hf
        refine y_callV (mj := miX10_plain) (args := [.inl x104, .inl x105, .inl x106]) (st := []) dL_law_128 (gd_of 195 rfl rfl) (gd_of 196 rfl rfl) (gd_of 197 rfl rfl) okX10_plain (obO_spec efs109) rfl rfl (xX10_plain (by omega) eq107) (Nat.le_of_ble_eq_true rfl) rfl ?_
        show Y l g miL_law (d + 1) 131 [some (.inr (.inr (some a101))), some (.inr (.inr (some a108))), some (.inr (.inr r2)), some (.inl x3)] [.inl q107.1] q107.2 _
        refine y_pop dL_law_131 rfl ?_
        refine y_aload_n (i := 2) dL_law_132 rfl rfl ?_
        refine y_aload_n (i := 0) dL_law_133 rfl rfl ?_
        refine y_iload_n (i := 3) dL_law_134 rfl rfl ?_
        refine y_iconst (v := 1) dL_law_135 (by decide) ?_
        refine y_iadd dL_law_136 ?_
        replace hf := bnd hf
        obtain ⟨x110, ex110, hf⟩ := hf
        refine y_iaload ex110 dL_law_137 ?_
        refine y_aload_n (i := 0) dL_law_138 rfl rfl ?_
        refine y_iload_n (i := 3) dL_law_139 rfl rfl ?_
        refine y_iconst (v := 2) dL_law_140 (by decide) ?_
        refine y_iadd dL_law_141 ?_
        replace hf := bnd hf
        obtain ⟨x111, ex111, hf⟩ := hf
        refine y_iaload ex111 dL_law_142 ?_
        refine y_aload_n (i := 0) dL_law_143 rfl rfl ?_
        refine y_iload_n (i := 3) dL_law_144 rfl rfl ?_
        refine y_iconst (v := 3) dL_law_145 (by decide) ?_
        refine y_iadd dL_law_146 ?_
        replace hf := bnd hf
        obtain ⟨x112, ex112, hf⟩ := hf
        refine y_iaload ex112 dL_law_147 ?_
        replace hf := bnd hf
        obtain ⟨a114, rfl, hf⟩ := hf
        replace hf := bnd hf
        obtain ⟨fs115, efs115, hf⟩ := hf
        replace hf := bnd hf
        obtain ⟨q113, eq113, hf⟩ := hf
        refine y_callV (mj := miX11_plain) (args := [.inl x110, .inl x111, .inl x112]) (st := []) dL_law_148 (gd_of 870 rfl rfl) (gd_of 871 rfl rfl) (gd_of 872 rfl rfl) okX11_plain (obO_spec efs115) rfl rfl (xX11_plain (by omega) eq113) (Nat.le_of_ble_eq_true rfl) rfl ?_
        show Y l g miL_law (d + 1) 151 [some (.inr (.inr (some a101))), some (.inr (.inr (some a108))), some (.inr (.inr (some a114))), some (.inl x3)] [.inl q113.1] q113.2 _
        refine y_pop dL_law_151 rfl ?_
        refine y_goto (tgt := 685) dL_law_152 (by decide) ?_
        refine y_iinc (i := 3) (y := 7) (lv2 := [some (.inr (.inr (some a101))), some (.inr (.inr (some a108))), some (.inr (.inr (some a114))), some (.inl (x3 + 7))]) dL_law_685 rfl (by decide) (by decide) rfl ?_
        refine y_goto (tgt := 18) dL_law_688 (by decide) ?_
        refine Y.weak (lv2 := [some (.inr (.inr (some a101))), some (.inr (.inr (some a108))), some (.inr (.inr (some a114))), some (.inl (x3 + 7))]) [true, true, true, true] rfl ?_
        exact ih _ _ _ _ _ _ hf
      rw [if_neg hc] at hf
      refine y_swc (fun hc => ?_) (fun hc => ?_)
      · rw [if_pos hc] at hf
        refine y_aload_n (i := 1) dL_law_155 rfl rfl ?_
        refine y_aload_n (i := 0) dL_law_156 rfl rfl ?_
        refine y_iload_n (i := 3) dL_law_157 rfl rfl ?_
        refine y_iconst (v := 1) dL_law_158 (by decide) ?_
        refine y_iadd dL_law_159 ?_
        replace hf := bnd hf
        obtain ⟨x116, ex116, hf⟩ := hf
        refine y_iaload ex116 dL_law_160 ?_
        refine y_aload_n (i := 0) dL_law_161 rfl rfl ?_
        refine y_iload_n (i := 3) dL_law_162 rfl rfl ?_
        refine y_iconst (v := 2) dL_law_163 (by decide) ?_
        refine y_iadd dL_law_164 ?_
        replace hf := bnd hf
        obtain ⟨x117, ex117, hf⟩ := hf
        refine y_iaload ex117 dL_law_165 ?_
        refine y_aload_n (i := 0) dL_law_166 rfl rfl ?_
        refine y_iload_n (i := 3) dL_law_167 rfl rfl ?_
        refine y_iconst (v := 3) dL_law_168 (by decide) ?_
        refine y_iadd dL_law_169 ?_
        replace hf := bnd hf
        obtain ⟨x118, ex118, hf⟩ := hf
        refine y_iaload ex118 dL_law_170 ?_
        refine y_aload_n (i := 0) dL_law_171 rfl rfl ?_
        refine y_iload_n (i := 3) dL_law_172 rfl rfl ?_
        refine y_iconst (v := 4) dL_law_173 (by decide) ?_
        refine y_iadd dL_law_174 ?_
        replace hf := bnd hf
        obtain ⟨x119, ex119, hf⟩ := hf
        refine y_iaload ex119 dL_law_175 ?_
        refine y_aload_n (i := 0) dL_law_176 rfl rfl ?_
        refine y_iload_n (i := 3) dL_law_177 rfl rfl ?_
        refine y_iconst (v := 5) dL_law_178 (by decide) ?_
        refine y_iadd dL_law_179 ?_
        replace hf := bnd hf
        obtain ⟨x120, ex120, hf⟩ := hf
        refine y_iaload ex120 dL_law_180 ?_
        refine y_aload_n (i := 0) dL_law_181 rfl rfl ?_
        refine y_iload_n (i := 3) dL_law_182 rfl rfl ?_
        refine y_bipush (v := 6) dL_law_183 (by decide) ?_
        refine y_iadd dL_law_185 ?_
        replace hf := bnd hf
        obtain ⟨x121, ex121, hf⟩ := hf
        refine y_iaload ex121 dL_law_186 ?_
        replace hf := bnd hf
        obtain ⟨a123, rfl, hf⟩ := hf
        replace hf := bnd hf
        obtain ⟨fs124, efs124, hf⟩ := hf
        replace hf := bnd hf
        obtain ⟨q122, eq122, hf⟩ := hf
        refine y_callV (mj := miX10_other) (args := [.inl x116, .inl x117, .inl x118, .inl x119, .inl x120, .inl x121]) (st := []) dL_law_187 (gd_of 259 rfl rfl) (gd_of 260 rfl rfl) (gd_of 261 rfl rfl) okX10_other (obO_spec efs124) rfl rfl (xX10_other (by omega) eq122) (Nat.le_of_ble_eq_true rfl) rfl ?_
        show Y l g miL_law (d + 1) 190 [some (.inr (.inr (some a101))), some (.inr (.inr (some a123))), some (.inr (.inr r2)), some (.inl x3)] [.inl q122.1] q122.2 _
        refine y_pop dL_law_190 rfl ?_
        refine y_aload_n (i := 2) dL_law_191 rfl rfl ?_
        refine y_aload_n (i := 0) dL_law_192 rfl rfl ?_
        refine y_iload_n (i := 3) dL_law_193 rfl rfl ?_
        refine y_iconst (v := 1) dL_law_194 (by decide) ?_
        refine y_iadd dL_law_195 ?_
        replace hf := bnd hf
        obtain ⟨x125, ex125, hf⟩ := hf
        refine y_iaload ex125 dL_law_196 ?_
        refine y_aload_n (i := 0) dL_law_197 rfl rfl ?_
        refine y_iload_n (i := 3) dL_law_198 rfl rfl ?_
        refine y_iconst (v := 2) dL_law_199 (by decide) ?_
        refine y_iadd dL_law_200 ?_
        replace hf := bnd hf
        obtain ⟨x126, ex126, hf⟩ := hf
        refine y_iaload ex126 dL_law_201 ?_
        refine y_aload_n (i := 0) dL_law_202 rfl rfl ?_
        refine y_iload_n (i := 3) dL_law_203 rfl rfl ?_
        refine y_iconst (v := 3) dL_law_204 (by decide) ?_
        refine y_iadd dL_law_205 ?_
        replace hf := bnd hf
        obtain ⟨x127, ex127, hf⟩ := hf
        refine y_iaload ex127 dL_law_206 ?_
        refine y_aload_n (i := 0) dL_law_207 rfl rfl ?_
        refine y_iload_n (i := 3) dL_law_208 rfl rfl ?_
        refine y_iconst (v := 4) dL_law_209 (by decide) ?_
        refine y_iadd dL_law_210 ?_
        replace hf := bnd hf
        obtain ⟨x128, ex128, hf⟩ := hf
        refine y_iaload ex128 dL_law_211 ?_
        refine y_aload_n (i := 0) dL_law_212 rfl rfl ?_
        refine y_iload_n (i := 3) dL_law_213 rfl rfl ?_
        refine y_iconst (v := 5) dL_law_214 (by decide) ?_
        refine y_iadd dL_law_215 ?_
        replace hf := bnd hf
        obtain ⟨x129, ex129, hf⟩ := hf
        refine y_iaload ex129 dL_law_216 ?_
        refine y_aload_n (i := 0) dL_law_217 rfl rfl ?_
        refine y_iload_n (i := 3) dL_law_218 rfl rfl ?_
        refine y_bipush (v := 6) dL_law_219 (by decide) ?_
        refine y_iadd dL_law_221 ?_
        replace hf := bnd hf
        obtain ⟨x130, ex130, hf⟩ := hf
        refine y_iaload ex130 dL_law_222 ?_
        replace hf := bnd hf
        obtain ⟨a132, rfl, hf⟩ := hf
        replace hf := bnd hf
        obtain ⟨fs133, efs133, hf⟩ := hf
        replace hf := bnd hf
        obtain ⟨q131, eq131, hf⟩ := hf
        refine y_callV (mj := miX11_other) (args := [.inl x125, .inl x126, .inl x127, .inl x128, .inl x129, .inl x130]) (st := []) dL_law_223 (gd_of 893 rfl rfl) (gd_of 894 rfl rfl) (gd_of 895 rfl rfl) okX11_other (obO_spec efs133) rfl rfl (xX11_other (by omega) eq131) (Nat.le_of_ble_eq_true rfl) rfl ?_
        show Y l g miL_law (d + 1) 226 [some (.inr (.inr (some a101))), some (.inr (.inr (some a123))), some (.inr (.inr (some a132))), some (.inl x3)] [.inl q131.1] q131.2 _
        refine y_pop dL_law_226 rfl ?_
        refine y_goto (tgt := 685) dL_law_227 (by decide) ?_
        refine y_iinc (i := 3) (y := 7) (lv2 := [some (.inr (.inr (some a101))), some (.inr (.inr (some a123))), some (.inr (.inr (some a132))), some (.inl (x3 + 7))]) dL_law_685 rfl (by decide) (by decide) rfl ?_
        refine y_goto (tgt := 18) dL_law_688 (by decide) ?_
        refine Y.weak (lv2 := [some (.inr (.inr (some a101))), some (.inr (.inr (some a123))), some (.inr (.inr (some a132))), some (.inl (x3 + 7))]) [true, true, true, true] rfl ?_
        exact ih _ _ _ _ _ _ hf
      rw [if_neg hc] at hf
      refine y_swc (fun hc => ?_) (fun hc => ?_)
      · rw [if_pos hc] at hf
        refine y_aload_n (i := 1) dL_law_230 rfl rfl ?_
        refine y_aload_n (i := 0) dL_law_231 rfl rfl ?_
        refine y_iload_n (i := 3) dL_law_232 rfl rfl ?_
        refine y_iconst (v := 1) dL_law_233 (by decide) ?_
        refine y_iadd dL_law_234 ?_
        replace hf := bnd hf
        obtain ⟨x134, ex134, hf⟩ := hf
        refine y_iaload ex134 dL_law_235 ?_
        replace hf := bnd hf
        obtain ⟨a136, rfl, hf⟩ := hf
        replace hf := bnd hf
        obtain ⟨fs137, efs137, hf⟩ := hf
        replace hf := bnd hf
        obtain ⟨q135, eq135, hf⟩ := hf
        refine y_callV (mj := miX10_row) (args := [.inl x134]) (st := []) dL_law_236 (gd_of 437 rfl rfl) (gd_of 438 rfl rfl) (gd_of 439 rfl rfl) okX10_row (obO_spec efs137) rfl rfl (xX10_row (by omega) eq135) (Nat.le_of_ble_eq_true rfl) rfl ?_
        show Y l g miL_law (d + 1) 239 [some (.inr (.inr (some a101))), some (.inr (.inr (some a136))), some (.inr (.inr r2)), some (.inl x3)] [.inl q135.1] q135.2 _
        refine y_pop dL_law_239 rfl ?_
        refine y_aload_n (i := 2) dL_law_240 rfl rfl ?_
        refine y_aload_n (i := 0) dL_law_241 rfl rfl ?_
        refine y_iload_n (i := 3) dL_law_242 rfl rfl ?_
        refine y_iconst (v := 1) dL_law_243 (by decide) ?_
        refine y_iadd dL_law_244 ?_
        replace hf := bnd hf
        obtain ⟨x138, ex138, hf⟩ := hf
        refine y_iaload ex138 dL_law_245 ?_
        replace hf := bnd hf
        obtain ⟨a140, rfl, hf⟩ := hf
        replace hf := bnd hf
        obtain ⟨fs141, efs141, hf⟩ := hf
        replace hf := bnd hf
        obtain ⟨q139, eq139, hf⟩ := hf
        refine y_callV (mj := miX11_row) (args := [.inl x138]) (st := []) dL_law_246 (gd_of 956 rfl rfl) (gd_of 957 rfl rfl) (gd_of 958 rfl rfl) okX11_row (obO_spec efs141) rfl rfl (xX11_row (by omega) eq139) (Nat.le_of_ble_eq_true rfl) rfl ?_
        show Y l g miL_law (d + 1) 249 [some (.inr (.inr (some a101))), some (.inr (.inr (some a136))), some (.inr (.inr (some a140))), some (.inl x3)] [.inl q139.1] q139.2 _
        refine y_pop dL_law_249 rfl ?_
        refine y_goto (tgt := 685) dL_law_250 (by decide) ?_
        refine y_iinc (i := 3) (y := 7) (lv2 := [some (.inr (.inr (some a101))), some (.inr (.inr (some a136))), some (.inr (.inr (some a140))), some (.inl (x3 + 7))]) dL_law_685 rfl (by decide) (by decide) rfl ?_
        refine y_goto (tgt := 18) dL_law_688 (by decide) ?_
        refine Y.weak (lv2 := [some (.inr (.inr (some a101))), some (.inr (.inr (some a136))), some (.inr (.inr (some a140))), some (.inl (x3 + 7))]) [true, true, true, true] rfl ?_
        exact ih _ _ _ _ _ _ hf
      rw [if_neg hc] at hf
      refine y_swc (fun hc => ?_) (fun hc => ?_)
      · rw [if_pos hc] at hf
        refine y_aload_n (i := 1) dL_law_253 rfl rfl ?_
        refine y_aload_n (i := 0) dL_law_254 rfl rfl ?_
        refine y_iload_n (i := 3) dL_law_255 rfl rfl ?_
        refine y_iconst (v := 1) dL_law_256 (by decide) ?_
        refine y_iadd dL_law_257 ?_
        replace hf := bnd hf
        obtain ⟨x142, ex142, hf⟩ := hf
        refine y_iaload ex142 dL_law_258 ?_
        refine y_aload_n (i := 0) dL_law_259 rfl rfl ?_
        refine y_iload_n (i := 3) dL_law_260 rfl rfl ?_
        refine y_iconst (v := 2) dL_law_261 (by decide) ?_
        refine y_iadd dL_law_262 ?_
        replace hf := bnd hf
        obtain ⟨x143, ex143, hf⟩ := hf
        refine y_iaload ex143 dL_law_263 ?_
        refine y_aload_n (i := 0) dL_law_264 rfl rfl ?_
        refine y_iload_n (i := 3) dL_law_265 rfl rfl ?_
        refine y_iconst (v := 3) dL_law_266 (by decide) ?_
        refine y_iadd dL_law_267 ?_
        replace hf := bnd hf
        obtain ⟨x144, ex144, hf⟩ := hf
        refine y_iaload ex144 dL_law_268 ?_
        replace hf := bnd hf
        obtain ⟨a146, rfl, hf⟩ := hf
        replace hf := bnd hf
        obtain ⟨fs147, efs147, hf⟩ := hf
        replace hf := bnd hf
        obtain ⟨q145, eq145, hf⟩ := hf
        refine y_callV (mj := miX10_set) (args := [.inl x142, .inl x143, .inl x144]) (st := []) dL_law_269 (gd_of 445 rfl rfl) (gd_of 446 rfl rfl) (gd_of 447 rfl rfl) okX10_set (obO_spec efs147) rfl rfl (xX10_set (by omega) eq145) (Nat.le_of_ble_eq_true rfl) rfl ?_
        show Y l g miL_law (d + 1) 272 [some (.inr (.inr (some a101))), some (.inr (.inr (some a146))), some (.inr (.inr r2)), some (.inl x3)] [.inl q145.1] q145.2 _
        refine y_pop dL_law_272 rfl ?_
        refine y_aload_n (i := 2) dL_law_273 rfl rfl ?_
        refine y_aload_n (i := 0) dL_law_274 rfl rfl ?_
        refine y_iload_n (i := 3) dL_law_275 rfl rfl ?_
        refine y_iconst (v := 1) dL_law_276 (by decide) ?_
        refine y_iadd dL_law_277 ?_
        replace hf := bnd hf
        obtain ⟨x148, ex148, hf⟩ := hf
        refine y_iaload ex148 dL_law_278 ?_
        refine y_aload_n (i := 0) dL_law_279 rfl rfl ?_
        refine y_iload_n (i := 3) dL_law_280 rfl rfl ?_
        refine y_iconst (v := 2) dL_law_281 (by decide) ?_
        refine y_iadd dL_law_282 ?_
        replace hf := bnd hf
        obtain ⟨x149, ex149, hf⟩ := hf
        refine y_iaload ex149 dL_law_283 ?_
        refine y_aload_n (i := 0) dL_law_284 rfl rfl ?_
        refine y_iload_n (i := 3) dL_law_285 rfl rfl ?_
        refine y_iconst (v := 3) dL_law_286 (by decide) ?_
        refine y_iadd dL_law_287 ?_
        replace hf := bnd hf
        obtain ⟨x150, ex150, hf⟩ := hf
        refine y_iaload ex150 dL_law_288 ?_
        replace hf := bnd hf
        obtain ⟨a152, rfl, hf⟩ := hf
        replace hf := bnd hf
        obtain ⟨fs153, efs153, hf⟩ := hf
        replace hf := bnd hf
        obtain ⟨q151, eq151, hf⟩ := hf
        refine y_callV (mj := miX11_set) (args := [.inl x148, .inl x149, .inl x150]) (st := []) dL_law_289 (gd_of 965 rfl rfl) (gd_of 966 rfl rfl) (gd_of 967 rfl rfl) okX11_set (obO_spec efs153) rfl rfl (xX11_set (by omega) eq151) (Nat.le_of_ble_eq_true rfl) rfl ?_
        show Y l g miL_law (d + 1) 292 [some (.inr (.inr (some a101))), some (.inr (.inr (some a146))), some (.inr (.inr (some a152))), some (.inl x3)] [.inl q151.1] q151.2 _
        refine y_pop dL_law_292 rfl ?_
        refine y_goto (tgt := 685) dL_law_293 (by decide) ?_
        refine y_iinc (i := 3) (y := 7) (lv2 := [some (.inr (.inr (some a101))), some (.inr (.inr (some a146))), some (.inr (.inr (some a152))), some (.inl (x3 + 7))]) dL_law_685 rfl (by decide) (by decide) rfl ?_
        refine y_goto (tgt := 18) dL_law_688 (by decide) ?_
        refine Y.weak (lv2 := [some (.inr (.inr (some a101))), some (.inr (.inr (some a146))), some (.inr (.inr (some a152))), some (.inl (x3 + 7))]) [true, true, true, true] rfl ?_
        exact ih _ _ _ _ _ _ hf
      rw [if_neg hc] at hf
      refine y_swc (fun hc => ?_) (fun hc => ?_)
      · rw [if_pos hc] at hf
        refine y_aload_n (i := 1) dL_law_296 rfl rfl ?_
        refine y_aload_n (i := 0) dL_law_297 rfl rfl ?_
        refine y_iload_n (i := 3) dL_law_298 rfl rfl ?_
        refine y_iconst (v := 1) dL_law_299 (by decide) ?_
        refine y_iadd dL_law_300 ?_
        replace hf := bnd hf
        obtain ⟨x154, ex154, hf⟩ := hf
        refine y_iaload ex154 dL_law_301 ?_
        refine y_aload_n (i := 0) dL_law_302 rfl rfl ?_
        refine y_iload_n (i := 3) dL_law_303 rfl rfl ?_
        refine y_iconst (v := 2) dL_law_304 (by decide) ?_
        refine y_iadd dL_law_305 ?_
        replace hf := bnd hf
        obtain ⟨x155, ex155, hf⟩ := hf
        refine y_iaload ex155 dL_law_306 ?_
        replace hf := bnd hf
        obtain ⟨a157, rfl, hf⟩ := hf
        replace hf := bnd hf
        obtain ⟨fs158, efs158, hf⟩ := hf
        replace hf := bnd hf
        obtain ⟨q156, eq156, hf⟩ := hf
        refine y_callV (mj := miX10_item) (args := [.inl x154, .inl x155]) (st := []) dL_law_307 (gd_of 459 rfl rfl) (gd_of 460 rfl rfl) (gd_of 461 rfl rfl) okX10_item (obO_spec efs158) rfl rfl (xX10_item (by omega) eq156) (Nat.le_of_ble_eq_true rfl) rfl ?_
        show Y l g miL_law (d + 1) 310 [some (.inr (.inr (some a101))), some (.inr (.inr (some a157))), some (.inr (.inr r2)), some (.inl x3)] [.inl q156.1] q156.2 _
        refine y_pop dL_law_310 rfl ?_
        refine y_aload_n (i := 2) dL_law_311 rfl rfl ?_
        refine y_aload_n (i := 0) dL_law_312 rfl rfl ?_
        refine y_iload_n (i := 3) dL_law_313 rfl rfl ?_
        refine y_iconst (v := 1) dL_law_314 (by decide) ?_
        refine y_iadd dL_law_315 ?_
        replace hf := bnd hf
        obtain ⟨x159, ex159, hf⟩ := hf
        refine y_iaload ex159 dL_law_316 ?_
        refine y_aload_n (i := 0) dL_law_317 rfl rfl ?_
        refine y_iload_n (i := 3) dL_law_318 rfl rfl ?_
        refine y_iconst (v := 2) dL_law_319 (by decide) ?_
        refine y_iadd dL_law_320 ?_
        replace hf := bnd hf
        obtain ⟨x160, ex160, hf⟩ := hf
        refine y_iaload ex160 dL_law_321 ?_
        replace hf := bnd hf
        obtain ⟨a162, rfl, hf⟩ := hf
        replace hf := bnd hf
        obtain ⟨fs163, efs163, hf⟩ := hf
        replace hf := bnd hf
        obtain ⟨q161, eq161, hf⟩ := hf
        refine y_callV (mj := miX11_item) (args := [.inl x159, .inl x160]) (st := []) dL_law_322 (gd_of 969 rfl rfl) (gd_of 970 rfl rfl) (gd_of 971 rfl rfl) okX11_item (obO_spec efs163) rfl rfl (xX11_item (by omega) eq161) (Nat.le_of_ble_eq_true rfl) rfl ?_
        show Y l g miL_law (d + 1) 325 [some (.inr (.inr (some a101))), some (.inr (.inr (some a157))), some (.inr (.inr (some a162))), some (.inl x3)] [.inl q161.1] q161.2 _
        refine y_pop dL_law_325 rfl ?_
        refine y_goto (tgt := 685) dL_law_326 (by decide) ?_
        refine y_iinc (i := 3) (y := 7) (lv2 := [some (.inr (.inr (some a101))), some (.inr (.inr (some a157))), some (.inr (.inr (some a162))), some (.inl (x3 + 7))]) dL_law_685 rfl (by decide) (by decide) rfl ?_
        refine y_goto (tgt := 18) dL_law_688 (by decide) ?_
        refine Y.weak (lv2 := [some (.inr (.inr (some a101))), some (.inr (.inr (some a157))), some (.inr (.inr (some a162))), some (.inl (x3 + 7))]) [true, true, true, true] rfl ?_
        exact ih _ _ _ _ _ _ hf
      rw [if_neg hc] at hf
      refine y_swc (fun hc => ?_) (fun hc => ?_)
      · rw [if_pos hc] at hf
        refine y_aload_n (i := 1) dL_law_329 rfl rfl ?_
        refine y_aload_n (i := 0) dL_law_330 rfl rfl ?_
        refine y_iload_n (i := 3) dL_law_331 rfl rfl ?_
        refine y_iconst (v := 1) dL_law_332 (by decide) ?_
        refine y_iadd dL_law_333 ?_
        replace hf := bnd hf
        obtain ⟨x164, ex164, hf⟩ := hf
        refine y_iaload ex164 dL_law_334 ?_
        refine y_aload_n (i := 0) dL_law_335 rfl rfl ?_
        refine y_iload_n (i := 3) dL_law_336 rfl rfl ?_
        refine y_iconst (v := 2) dL_law_337 (by decide) ?_
        refine y_iadd dL_law_338 ?_
        replace hf := bnd hf
        obtain ⟨x165, ex165, hf⟩ := hf
        refine y_iaload ex165 dL_law_339 ?_
        refine y_aload_n (i := 0) dL_law_340 rfl rfl ?_
        refine y_iload_n (i := 3) dL_law_341 rfl rfl ?_
        refine y_iconst (v := 3) dL_law_342 (by decide) ?_
        refine y_iadd dL_law_343 ?_
        replace hf := bnd hf
        obtain ⟨x166, ex166, hf⟩ := hf
        refine y_iaload ex166 dL_law_344 ?_
        refine y_i2l dL_law_345 ?_
        refine y_bipush (v := 32) dL_law_346 (by decide) ?_
        refine y_lshl dL_law_348 ?_
        refine y_aload_n (i := 0) dL_law_349 rfl rfl ?_
        refine y_iload_n (i := 3) dL_law_350 rfl rfl ?_
        refine y_iconst (v := 4) dL_law_351 (by decide) ?_
        refine y_iadd dL_law_352 ?_
        replace hf := bnd hf
        obtain ⟨x167, ex167, hf⟩ := hf
        refine y_iaload ex167 dL_law_353 ?_
        refine y_i2l dL_law_354 ?_
        refine y_ldc2 (v := 4294967295) dL_law_355 (gd_of 1103 rfl rfl) ?_
        refine y_land dL_law_358 ?_
        refine y_lor dL_law_359 ?_
        replace hf := bnd hf
        obtain ⟨a169, rfl, hf⟩ := hf
        replace hf := bnd hf
        obtain ⟨fs170, efs170, hf⟩ := hf
        replace hf := bnd hf
        obtain ⟨q168, eq168, hf⟩ := hf
        refine y_callV (mj := miX10_value) (args := [.inl x164, .inl x165, .inr (.inl (((Int32.toInt64 x166) <<< (Int32.toInt64 32 &&& 63)) ||| ((Int32.toInt64 x167) &&& 4294967295)))]) (st := []) dL_law_360 (gd_of 471 rfl rfl) (gd_of 472 rfl rfl) (gd_of 473 rfl rfl) okX10_value (obO_spec efs170) rfl rfl (xX10_value (by omega) eq168) (Nat.le_of_ble_eq_true rfl) rfl ?_
        show Y l g miL_law (d + 1) 363 [some (.inr (.inr (some a101))), some (.inr (.inr (some a169))), some (.inr (.inr r2)), some (.inl x3)] [.inl q168.1] q168.2 _
        refine y_pop dL_law_363 rfl ?_
        refine y_aload_n (i := 2) dL_law_364 rfl rfl ?_
        refine y_aload_n (i := 0) dL_law_365 rfl rfl ?_
        refine y_iload_n (i := 3) dL_law_366 rfl rfl ?_
        refine y_iconst (v := 1) dL_law_367 (by decide) ?_
        refine y_iadd dL_law_368 ?_
        replace hf := bnd hf
        obtain ⟨x171, ex171, hf⟩ := hf
        refine y_iaload ex171 dL_law_369 ?_
        refine y_aload_n (i := 0) dL_law_370 rfl rfl ?_
        refine y_iload_n (i := 3) dL_law_371 rfl rfl ?_
        refine y_iconst (v := 2) dL_law_372 (by decide) ?_
        refine y_iadd dL_law_373 ?_
        replace hf := bnd hf
        obtain ⟨x172, ex172, hf⟩ := hf
        refine y_iaload ex172 dL_law_374 ?_
        refine y_aload_n (i := 0) dL_law_375 rfl rfl ?_
        refine y_iload_n (i := 3) dL_law_376 rfl rfl ?_
        refine y_iconst (v := 3) dL_law_377 (by decide) ?_
        refine y_iadd dL_law_378 ?_
        replace hf := bnd hf
        obtain ⟨x173, ex173, hf⟩ := hf
        refine y_iaload ex173 dL_law_379 ?_
        refine y_i2l dL_law_380 ?_
        refine y_bipush (v := 32) dL_law_381 (by decide) ?_
        refine y_lshl dL_law_383 ?_
        refine y_aload_n (i := 0) dL_law_384 rfl rfl ?_
        refine y_iload_n (i := 3) dL_law_385 rfl rfl ?_
        refine y_iconst (v := 4) dL_law_386 (by decide) ?_
        refine y_iadd dL_law_387 ?_
        replace hf := bnd hf
        obtain ⟨x174, ex174, hf⟩ := hf
        refine y_iaload ex174 dL_law_388 ?_
        refine y_i2l dL_law_389 ?_
        refine y_ldc2 (v := 4294967295) dL_law_390 (gd_of 1103 rfl rfl) ?_
        refine y_land dL_law_393 ?_
        refine y_lor dL_law_394 ?_
        replace hf := bnd hf
        obtain ⟨a176, rfl, hf⟩ := hf
        replace hf := bnd hf
        obtain ⟨fs177, efs177, hf⟩ := hf
        replace hf := bnd hf
        obtain ⟨q175, eq175, hf⟩ := hf
        refine y_callV (mj := miX11_value) (args := [.inl x171, .inl x172, .inr (.inl (((Int32.toInt64 x173) <<< (Int32.toInt64 32 &&& 63)) ||| ((Int32.toInt64 x174) &&& 4294967295)))]) (st := []) dL_law_395 (gd_of 973 rfl rfl) (gd_of 974 rfl rfl) (gd_of 975 rfl rfl) okX11_value (obO_spec efs177) rfl rfl (xX11_value (by omega) eq175) (Nat.le_of_ble_eq_true rfl) rfl ?_
        show Y l g miL_law (d + 1) 398 [some (.inr (.inr (some a101))), some (.inr (.inr (some a169))), some (.inr (.inr (some a176))), some (.inl x3)] [.inl q175.1] q175.2 _
        refine y_pop dL_law_398 rfl ?_
        refine y_goto (tgt := 685) dL_law_399 (by decide) ?_
        refine y_iinc (i := 3) (y := 7) (lv2 := [some (.inr (.inr (some a101))), some (.inr (.inr (some a169))), some (.inr (.inr (some a176))), some (.inl (x3 + 7))]) dL_law_685 rfl (by decide) (by decide) rfl ?_
        refine y_goto (tgt := 18) dL_law_688 (by decide) ?_
        refine Y.weak (lv2 := [some (.inr (.inr (some a101))), some (.inr (.inr (some a169))), some (.inr (.inr (some a176))), some (.inl (x3 + 7))]) [true, true, true, true] rfl ?_
        exact ih _ _ _ _ _ _ hf
      rw [if_neg hc] at hf
      refine y_swc (fun hc => ?_) (fun hc => ?_)
      · rw [if_pos hc] at hf
        refine y_aload_n (i := 1) dL_law_402 rfl rfl ?_
        replace hf := bnd hf
        obtain ⟨a179, rfl, hf⟩ := hf
        replace hf := bnd hf
        obtain ⟨fs180, efs180, hf⟩ := hf
        replace hf := bnd hf
        obtain ⟨q178, eq178, hf⟩ := hf
        refine y_callV (mj := miX10_clear) (args := []) (st := []) dL_law_403 (gd_of 483 rfl rfl) (gd_of 484 rfl rfl) (gd_of 485 rfl rfl) okX10_clear (obO_spec efs180) rfl rfl (xX10_clear (by omega) eq178) (Nat.le_of_ble_eq_true rfl) rfl ?_
        show Y l g miL_law (d + 1) 406 [some (.inr (.inr (some a101))), some (.inr (.inr (some a179))), some (.inr (.inr r2)), some (.inl x3)] [.inl q178.1] q178.2 _
        refine y_pop dL_law_406 rfl ?_
        refine y_aload_n (i := 2) dL_law_407 rfl rfl ?_
        replace hf := bnd hf
        obtain ⟨a182, rfl, hf⟩ := hf
        replace hf := bnd hf
        obtain ⟨fs183, efs183, hf⟩ := hf
        replace hf := bnd hf
        obtain ⟨q181, eq181, hf⟩ := hf
        refine y_callV (mj := miX11_clear) (args := []) (st := []) dL_law_408 (gd_of 977 rfl rfl) (gd_of 978 rfl rfl) (gd_of 979 rfl rfl) okX11_clear (obO_spec efs183) rfl rfl (xX11_clear (by omega) eq181) (Nat.le_of_ble_eq_true rfl) rfl ?_
        show Y l g miL_law (d + 1) 411 [some (.inr (.inr (some a101))), some (.inr (.inr (some a179))), some (.inr (.inr (some a182))), some (.inl x3)] [.inl q181.1] q181.2 _
        refine y_pop dL_law_411 rfl ?_
        refine y_goto (tgt := 685) dL_law_412 (by decide) ?_
        refine y_iinc (i := 3) (y := 7) (lv2 := [some (.inr (.inr (some a101))), some (.inr (.inr (some a179))), some (.inr (.inr (some a182))), some (.inl (x3 + 7))]) dL_law_685 rfl (by decide) (by decide) rfl ?_
        refine y_goto (tgt := 18) dL_law_688 (by decide) ?_
        refine Y.weak (lv2 := [some (.inr (.inr (some a101))), some (.inr (.inr (some a179))), some (.inr (.inr (some a182))), some (.inl (x3 + 7))]) [true, true, true, true] rfl ?_
        exact ih _ _ _ _ _ _ hf
      rw [if_neg hc] at hf
      refine y_swc (fun hc => ?_) (fun hc => ?_)
      · rw [if_pos hc] at hf
        refine y_aload_n (i := 1) dL_law_415 rfl rfl ?_
        refine y_aload_n (i := 0) dL_law_416 rfl rfl ?_
        refine y_iload_n (i := 3) dL_law_417 rfl rfl ?_
        refine y_iconst (v := 1) dL_law_418 (by decide) ?_
        refine y_iadd dL_law_419 ?_
        replace hf := bnd hf
        obtain ⟨x184, ex184, hf⟩ := hf
        refine y_iaload ex184 dL_law_420 ?_
        refine y_aload_n (i := 0) dL_law_421 rfl rfl ?_
        refine y_iload_n (i := 3) dL_law_422 rfl rfl ?_
        refine y_iconst (v := 2) dL_law_423 (by decide) ?_
        refine y_iadd dL_law_424 ?_
        replace hf := bnd hf
        obtain ⟨x185, ex185, hf⟩ := hf
        refine y_iaload ex185 dL_law_425 ?_
        refine y_if_eq (tgt := 433) dL_law_426 (by decide) (fun hc => ?_) (fun hc => ?_)
        · rw [if_pos hc] at hf
          refine y_iconst (v := 0) dL_law_433 (by decide) ?_
          refine Y.weak (lv2 := [some (.inr (.inr (some a101))), some (.inr (.inr r1)), some (.inr (.inr r2)), some (.inl x3)]) [true, true, true, true] rfl ?_
          exact xL_law_434 hK ih hf
        · rw [if_neg hc] at hf
          refine y_iconst (v := 1) dL_law_429 (by decide) ?_
          refine y_goto (tgt := 434) dL_law_430 (by decide) ?_
          refine Y.weak (lv2 := [some (.inr (.inr (some a101))), some (.inr (.inr r1)), some (.inr (.inr r2)), some (.inl x3)]) [true, true, true, true] rfl ?_
          exact xL_law_434 hK ih hf
      rw [if_neg hc] at hf
      refine y_swc (fun hc => ?_) (fun hc => ?_)
      · rw [if_pos hc] at hf
        refine y_aload_n (i := 1) dL_law_464 rfl rfl ?_
        refine y_aload_n (i := 0) dL_law_465 rfl rfl ?_
        refine y_iload_n (i := 3) dL_law_466 rfl rfl ?_
        refine y_iconst (v := 1) dL_law_467 (by decide) ?_
        refine y_iadd dL_law_468 ?_
        replace hf := bnd hf
        obtain ⟨x186, ex186, hf⟩ := hf
        refine y_iaload ex186 dL_law_469 ?_
        refine y_aload_n (i := 0) dL_law_470 rfl rfl ?_
        refine y_iload_n (i := 3) dL_law_471 rfl rfl ?_
        refine y_iconst (v := 2) dL_law_472 (by decide) ?_
        refine y_iadd dL_law_473 ?_
        replace hf := bnd hf
        obtain ⟨x187, ex187, hf⟩ := hf
        refine y_iaload ex187 dL_law_474 ?_
        replace hf := bnd hf
        obtain ⟨a189, rfl, hf⟩ := hf
        replace hf := bnd hf
        obtain ⟨fs190, efs190, hf⟩ := hf
        replace hf := bnd hf
        obtain ⟨q188, eq188, hf⟩ := hf
        refine y_callV (mj := miX10_site) (args := [.inl x186, .inl x187]) (st := []) dL_law_475 (gd_of 654 rfl rfl) (gd_of 655 rfl rfl) (gd_of 656 rfl rfl) okX10_site (obO_spec efs190) rfl rfl (xX10_site (by omega) eq188) (Nat.le_of_ble_eq_true rfl) rfl ?_
        show Y l g miL_law (d + 1) 478 [some (.inr (.inr (some a101))), some (.inr (.inr (some a189))), some (.inr (.inr r2)), some (.inl x3)] [.inl q188.1] q188.2 _
        refine y_pop dL_law_478 rfl ?_
        refine y_aload_n (i := 2) dL_law_479 rfl rfl ?_
        refine y_aload_n (i := 0) dL_law_480 rfl rfl ?_
        refine y_iload_n (i := 3) dL_law_481 rfl rfl ?_
        refine y_iconst (v := 1) dL_law_482 (by decide) ?_
        refine y_iadd dL_law_483 ?_
        replace hf := bnd hf
        obtain ⟨x191, ex191, hf⟩ := hf
        refine y_iaload ex191 dL_law_484 ?_
        refine y_aload_n (i := 0) dL_law_485 rfl rfl ?_
        refine y_iload_n (i := 3) dL_law_486 rfl rfl ?_
        refine y_iconst (v := 2) dL_law_487 (by decide) ?_
        refine y_iadd dL_law_488 ?_
        replace hf := bnd hf
        obtain ⟨x192, ex192, hf⟩ := hf
        refine y_iaload ex192 dL_law_489 ?_
        replace hf := bnd hf
        obtain ⟨a194, rfl, hf⟩ := hf
        replace hf := bnd hf
        obtain ⟨fs195, efs195, hf⟩ := hf
        replace hf := bnd hf
        obtain ⟨q193, eq193, hf⟩ := hf
        refine y_callV (mj := miX11_site) (args := [.inl x191, .inl x192]) (st := []) dL_law_490 (gd_of 1067 rfl rfl) (gd_of 1068 rfl rfl) (gd_of 1069 rfl rfl) okX11_site (obO_spec efs195) rfl rfl (xX11_site (by omega) eq193) (Nat.le_of_ble_eq_true rfl) rfl ?_
        show Y l g miL_law (d + 1) 493 [some (.inr (.inr (some a101))), some (.inr (.inr (some a189))), some (.inr (.inr (some a194))), some (.inl x3)] [.inl q193.1] q193.2 _
        refine y_pop dL_law_493 rfl ?_
        refine y_goto (tgt := 685) dL_law_494 (by decide) ?_
        refine y_iinc (i := 3) (y := 7) (lv2 := [some (.inr (.inr (some a101))), some (.inr (.inr (some a189))), some (.inr (.inr (some a194))), some (.inl (x3 + 7))]) dL_law_685 rfl (by decide) (by decide) rfl ?_
        refine y_goto (tgt := 18) dL_law_688 (by decide) ?_
        refine Y.weak (lv2 := [some (.inr (.inr (some a101))), some (.inr (.inr (some a189))), some (.inr (.inr (some a194))), some (.inl (x3 + 7))]) [true, true, true, true] rfl ?_
        exact ih _ _ _ _ _ _ hf
      rw [if_neg hc] at hf
      refine y_swc (fun hc => ?_) (fun hc => ?_)
      · rw [if_pos hc] at hf
        refine y_aload_n (i := 1) dL_law_497 rfl rfl ?_
        refine y_aload_n (i := 0) dL_law_498 rfl rfl ?_
        refine y_iload_n (i := 3) dL_law_499 rfl rfl ?_
        refine y_iconst (v := 1) dL_law_500 (by decide) ?_
        refine y_iadd dL_law_501 ?_
        replace hf := bnd hf
        obtain ⟨x196, ex196, hf⟩ := hf
        refine y_iaload ex196 dL_law_502 ?_
        refine y_aload_n (i := 0) dL_law_503 rfl rfl ?_
        refine y_iload_n (i := 3) dL_law_504 rfl rfl ?_
        refine y_iconst (v := 2) dL_law_505 (by decide) ?_
        refine y_iadd dL_law_506 ?_
        replace hf := bnd hf
        obtain ⟨x197, ex197, hf⟩ := hf
        refine y_iaload ex197 dL_law_507 ?_
        refine y_if_eq (tgt := 515) dL_law_508 (by decide) (fun hc => ?_) (fun hc => ?_)
        · rw [if_pos hc] at hf
          refine y_iconst (v := 0) dL_law_515 (by decide) ?_
          refine Y.weak (lv2 := [some (.inr (.inr (some a101))), some (.inr (.inr r1)), some (.inr (.inr r2)), some (.inl x3)]) [true, true, true, true] rfl ?_
          exact xL_law_516 hK ih hf
        · rw [if_neg hc] at hf
          refine y_iconst (v := 1) dL_law_511 (by decide) ?_
          refine y_goto (tgt := 516) dL_law_512 (by decide) ?_
          refine Y.weak (lv2 := [some (.inr (.inr (some a101))), some (.inr (.inr r1)), some (.inr (.inr r2)), some (.inl x3)]) [true, true, true, true] rfl ?_
          exact xL_law_516 hK ih hf
      rw [if_neg hc] at hf
      refine y_swc (fun hc => ?_) (fun hc => ?_)
      · rw [if_pos hc] at hf
        refine y_aload_n (i := 1) dL_law_546 rfl rfl ?_
        refine y_aload_n (i := 0) dL_law_547 rfl rfl ?_
        refine y_iload_n (i := 3) dL_law_548 rfl rfl ?_
        refine y_iconst (v := 1) dL_law_549 (by decide) ?_
        refine y_iadd dL_law_550 ?_
        replace hf := bnd hf
        obtain ⟨x198, ex198, hf⟩ := hf
        refine y_iaload ex198 dL_law_551 ?_
        refine y_aload_n (i := 0) dL_law_552 rfl rfl ?_
        refine y_iload_n (i := 3) dL_law_553 rfl rfl ?_
        refine y_iconst (v := 2) dL_law_554 (by decide) ?_
        refine y_iadd dL_law_555 ?_
        replace hf := bnd hf
        obtain ⟨x199, ex199, hf⟩ := hf
        refine y_iaload ex199 dL_law_556 ?_
        replace hf := bnd hf
        obtain ⟨a201, rfl, hf⟩ := hf
        replace hf := bnd hf
        obtain ⟨fs202, efs202, hf⟩ := hf
        replace hf := bnd hf
        obtain ⟨q200, eq200, hf⟩ := hf
        refine y_callV (mj := miX10_turn) (args := [.inl x198, .inl x199]) (st := []) dL_law_557 (gd_of 694 rfl rfl) (gd_of 695 rfl rfl) (gd_of 696 rfl rfl) okX10_turn (obO_spec efs202) rfl rfl (xX10_turn (by omega) eq200) (Nat.le_of_ble_eq_true rfl) rfl ?_
        show Y l g miL_law (d + 1) 560 [some (.inr (.inr (some a101))), some (.inr (.inr (some a201))), some (.inr (.inr r2)), some (.inl x3)] [.inl q200.1] q200.2 _
        refine y_pop dL_law_560 rfl ?_
        refine y_aload_n (i := 2) dL_law_561 rfl rfl ?_
        refine y_aload_n (i := 0) dL_law_562 rfl rfl ?_
        refine y_iload_n (i := 3) dL_law_563 rfl rfl ?_
        refine y_iconst (v := 1) dL_law_564 (by decide) ?_
        refine y_iadd dL_law_565 ?_
        replace hf := bnd hf
        obtain ⟨x203, ex203, hf⟩ := hf
        refine y_iaload ex203 dL_law_566 ?_
        refine y_aload_n (i := 0) dL_law_567 rfl rfl ?_
        refine y_iload_n (i := 3) dL_law_568 rfl rfl ?_
        refine y_iconst (v := 2) dL_law_569 (by decide) ?_
        refine y_iadd dL_law_570 ?_
        replace hf := bnd hf
        obtain ⟨x204, ex204, hf⟩ := hf
        refine y_iaload ex204 dL_law_571 ?_
        replace hf := bnd hf
        obtain ⟨a206, rfl, hf⟩ := hf
        replace hf := bnd hf
        obtain ⟨fs207, efs207, hf⟩ := hf
        replace hf := bnd hf
        obtain ⟨q205, eq205, hf⟩ := hf
        refine y_callV (mj := miX11_turn) (args := [.inl x203, .inl x204]) (st := []) dL_law_572 (gd_of 1079 rfl rfl) (gd_of 1080 rfl rfl) (gd_of 1081 rfl rfl) okX11_turn (obO_spec efs207) rfl rfl (xX11_turn (by omega) eq205) (Nat.le_of_ble_eq_true rfl) rfl ?_
        show Y l g miL_law (d + 1) 575 [some (.inr (.inr (some a101))), some (.inr (.inr (some a201))), some (.inr (.inr (some a206))), some (.inl x3)] [.inl q205.1] q205.2 _
        refine y_pop dL_law_575 rfl ?_
        refine y_goto (tgt := 685) dL_law_576 (by decide) ?_
        refine y_iinc (i := 3) (y := 7) (lv2 := [some (.inr (.inr (some a101))), some (.inr (.inr (some a201))), some (.inr (.inr (some a206))), some (.inl (x3 + 7))]) dL_law_685 rfl (by decide) (by decide) rfl ?_
        refine y_goto (tgt := 18) dL_law_688 (by decide) ?_
        refine Y.weak (lv2 := [some (.inr (.inr (some a101))), some (.inr (.inr (some a201))), some (.inr (.inr (some a206))), some (.inl (x3 + 7))]) [true, true, true, true] rfl ?_
        exact ih _ _ _ _ _ _ hf
      rw [if_neg hc] at hf
      refine y_swc (fun hc => ?_) (fun hc => ?_)
      · rw [if_pos hc] at hf
        refine y_aload_n (i := 1) dL_law_579 rfl rfl ?_
        refine y_aload_n (i := 0) dL_law_580 rfl rfl ?_
        refine y_iload_n (i := 3) dL_law_581 rfl rfl ?_
        refine y_iconst (v := 1) dL_law_582 (by decide) ?_
        refine y_iadd dL_law_583 ?_
        replace hf := bnd hf
        obtain ⟨x208, ex208, hf⟩ := hf
        refine y_iaload ex208 dL_law_584 ?_
        replace hf := bnd hf
        obtain ⟨a210, rfl, hf⟩ := hf
        replace hf := bnd hf
        obtain ⟨fs211, efs211, hf⟩ := hf
        replace hf := bnd hf
        obtain ⟨q209, eq209, hf⟩ := hf
        refine y_callV (mj := miX10_linked) (args := [.inl x208]) (st := []) dL_law_585 (gd_of 698 rfl rfl) (gd_of 699 rfl rfl) (gd_of 700 rfl rfl) okX10_linked (obO_spec efs211) rfl rfl (xX10_linked (by omega) eq209) (Nat.le_of_ble_eq_true rfl) rfl ?_
        show Y l g miL_law (d + 1) 588 [some (.inr (.inr (some a101))), some (.inr (.inr (some a210))), some (.inr (.inr r2)), some (.inl x3)] [.inl q209.1] q209.2 _
        refine y_pop dL_law_588 rfl ?_
        refine y_aload_n (i := 2) dL_law_589 rfl rfl ?_
        refine y_aload_n (i := 0) dL_law_590 rfl rfl ?_
        refine y_iload_n (i := 3) dL_law_591 rfl rfl ?_
        refine y_iconst (v := 1) dL_law_592 (by decide) ?_
        refine y_iadd dL_law_593 ?_
        replace hf := bnd hf
        obtain ⟨x212, ex212, hf⟩ := hf
        refine y_iaload ex212 dL_law_594 ?_
        replace hf := bnd hf
        obtain ⟨a214, rfl, hf⟩ := hf
        replace hf := bnd hf
        obtain ⟨fs215, efs215, hf⟩ := hf
        replace hf := bnd hf
        obtain ⟨q213, eq213, hf⟩ := hf
        refine y_callV (mj := miX11_linked) (args := [.inl x212]) (st := []) dL_law_595 (gd_of 1083 rfl rfl) (gd_of 1084 rfl rfl) (gd_of 1085 rfl rfl) okX11_linked (obO_spec efs215) rfl rfl (xX11_linked (by omega) eq213) (Nat.le_of_ble_eq_true rfl) rfl ?_
        show Y l g miL_law (d + 1) 598 [some (.inr (.inr (some a101))), some (.inr (.inr (some a210))), some (.inr (.inr (some a214))), some (.inl x3)] [.inl q213.1] q213.2 _
        refine y_pop dL_law_598 rfl ?_
        refine y_goto (tgt := 685) dL_law_599 (by decide) ?_
        refine y_iinc (i := 3) (y := 7) (lv2 := [some (.inr (.inr (some a101))), some (.inr (.inr (some a210))), some (.inr (.inr (some a214))), some (.inl (x3 + 7))]) dL_law_685 rfl (by decide) (by decide) rfl ?_
        refine y_goto (tgt := 18) dL_law_688 (by decide) ?_
        refine Y.weak (lv2 := [some (.inr (.inr (some a101))), some (.inr (.inr (some a210))), some (.inr (.inr (some a214))), some (.inl (x3 + 7))]) [true, true, true, true] rfl ?_
        exact ih _ _ _ _ _ _ hf
      rw [if_neg hc] at hf
      refine y_swc (fun hc => ?_) (fun hc => ?_)
      · rw [if_pos hc] at hf
        refine y_aload_n (i := 1) dL_law_602 rfl rfl ?_
        refine y_aload_n (i := 0) dL_law_603 rfl rfl ?_
        refine y_iload_n (i := 3) dL_law_604 rfl rfl ?_
        refine y_iconst (v := 1) dL_law_605 (by decide) ?_
        refine y_iadd dL_law_606 ?_
        replace hf := bnd hf
        obtain ⟨x216, ex216, hf⟩ := hf
        refine y_iaload ex216 dL_law_607 ?_
        refine y_aload_n (i := 0) dL_law_608 rfl rfl ?_
        refine y_iload_n (i := 3) dL_law_609 rfl rfl ?_
        refine y_iconst (v := 2) dL_law_610 (by decide) ?_
        refine y_iadd dL_law_611 ?_
        replace hf := bnd hf
        obtain ⟨x217, ex217, hf⟩ := hf
        refine y_iaload ex217 dL_law_612 ?_
        replace hf := bnd hf
        obtain ⟨a219, rfl, hf⟩ := hf
        replace hf := bnd hf
        obtain ⟨fs220, efs220, hf⟩ := hf
        replace hf := bnd hf
        obtain ⟨q218, eq218, hf⟩ := hf
        refine y_callV (mj := miX10_about) (args := [.inl x216, .inl x217]) (st := []) dL_law_613 (gd_of 702 rfl rfl) (gd_of 703 rfl rfl) (gd_of 704 rfl rfl) okX10_about (obO_spec efs220) rfl rfl (xX10_about (by omega) eq218) (Nat.le_of_ble_eq_true rfl) rfl ?_
        show Y l g miL_law (d + 1) 616 [some (.inr (.inr (some a101))), some (.inr (.inr (some a219))), some (.inr (.inr r2)), some (.inl x3)] [.inl q218.1] q218.2 _
        refine y_pop dL_law_616 rfl ?_
        refine y_aload_n (i := 2) dL_law_617 rfl rfl ?_
        refine y_aload_n (i := 0) dL_law_618 rfl rfl ?_
        refine y_iload_n (i := 3) dL_law_619 rfl rfl ?_
        refine y_iconst (v := 1) dL_law_620 (by decide) ?_
        refine y_iadd dL_law_621 ?_
        replace hf := bnd hf
        obtain ⟨x221, ex221, hf⟩ := hf
        refine y_iaload ex221 dL_law_622 ?_
        refine y_aload_n (i := 0) dL_law_623 rfl rfl ?_
        refine y_iload_n (i := 3) dL_law_624 rfl rfl ?_
        refine y_iconst (v := 2) dL_law_625 (by decide) ?_
        refine y_iadd dL_law_626 ?_
        replace hf := bnd hf
        obtain ⟨x222, ex222, hf⟩ := hf
        refine y_iaload ex222 dL_law_627 ?_
        replace hf := bnd hf
        obtain ⟨a224, rfl, hf⟩ := hf
        replace hf := bnd hf
        obtain ⟨fs225, efs225, hf⟩ := hf
        replace hf := bnd hf
        obtain ⟨q223, eq223, hf⟩ := hf
        refine y_callV (mj := miX11_about) (args := [.inl x221, .inl x222]) (st := []) dL_law_628 (gd_of 1087 rfl rfl) (gd_of 1088 rfl rfl) (gd_of 1089 rfl rfl) okX11_about (obO_spec efs225) rfl rfl (xX11_about (by omega) eq223) (Nat.le_of_ble_eq_true rfl) rfl ?_
        show Y l g miL_law (d + 1) 631 [some (.inr (.inr (some a101))), some (.inr (.inr (some a219))), some (.inr (.inr (some a224))), some (.inl x3)] [.inl q223.1] q223.2 _
        refine y_pop dL_law_631 rfl ?_
        refine y_goto (tgt := 685) dL_law_632 (by decide) ?_
        refine y_iinc (i := 3) (y := 7) (lv2 := [some (.inr (.inr (some a101))), some (.inr (.inr (some a219))), some (.inr (.inr (some a224))), some (.inl (x3 + 7))]) dL_law_685 rfl (by decide) (by decide) rfl ?_
        refine y_goto (tgt := 18) dL_law_688 (by decide) ?_
        refine Y.weak (lv2 := [some (.inr (.inr (some a101))), some (.inr (.inr (some a219))), some (.inr (.inr (some a224))), some (.inl (x3 + 7))]) [true, true, true, true] rfl ?_
        exact ih _ _ _ _ _ _ hf
      rw [if_neg hc] at hf
      refine y_swc (fun hc => ?_) (fun hc => ?_)
      · rw [if_pos hc] at hf
        refine y_aload_n (i := 1) dL_law_635 rfl rfl ?_
        replace hf := bnd hf
        obtain ⟨a227, rfl, hf⟩ := hf
        replace hf := bnd hf
        obtain ⟨fs228, efs228, hf⟩ := hf
        replace hf := bnd hf
        obtain ⟨q226, eq226, hf⟩ := hf
        refine y_callV (mj := miX10_resultKind) (args := []) (st := []) dL_law_636 (gd_of 706 rfl rfl) (gd_of 707 rfl rfl) (gd_of 708 rfl rfl) okX10_resultKind (obO_spec efs228) rfl rfl (xX10_resultKind (by omega) eq226) (Nat.le_of_ble_eq_true rfl) rfl ?_
        show Y l g miL_law (d + 1) 639 [some (.inr (.inr (some a101))), some (.inr (.inr (some a227))), some (.inr (.inr r2)), some (.inl x3)] [.inl q226.1] q226.2 _
        refine y_pop dL_law_639 rfl ?_
        refine y_aload_n (i := 2) dL_law_640 rfl rfl ?_
        replace hf := bnd hf
        obtain ⟨a230, rfl, hf⟩ := hf
        replace hf := bnd hf
        obtain ⟨fs231, efs231, hf⟩ := hf
        replace hf := bnd hf
        obtain ⟨q229, eq229, hf⟩ := hf
        refine y_callV (mj := miX11_resultKind) (args := []) (st := []) dL_law_641 (gd_of 1091 rfl rfl) (gd_of 1092 rfl rfl) (gd_of 1093 rfl rfl) okX11_resultKind (obO_spec efs231) rfl rfl (xX11_resultKind (by omega) eq229) (Nat.le_of_ble_eq_true rfl) rfl ?_
        show Y l g miL_law (d + 1) 644 [some (.inr (.inr (some a101))), some (.inr (.inr (some a227))), some (.inr (.inr (some a230))), some (.inl x3)] [.inl q229.1] q229.2 _
        refine y_pop dL_law_644 rfl ?_
        refine y_goto (tgt := 685) dL_law_645 (by decide) ?_
        refine y_iinc (i := 3) (y := 7) (lv2 := [some (.inr (.inr (some a101))), some (.inr (.inr (some a227))), some (.inr (.inr (some a230))), some (.inl (x3 + 7))]) dL_law_685 rfl (by decide) (by decide) rfl ?_
        refine y_goto (tgt := 18) dL_law_688 (by decide) ?_
        refine Y.weak (lv2 := [some (.inr (.inr (some a101))), some (.inr (.inr (some a227))), some (.inr (.inr (some a230))), some (.inl (x3 + 7))]) [true, true, true, true] rfl ?_
        exact ih _ _ _ _ _ _ hf
      rw [if_neg hc] at hf
      refine y_swc (fun hc => ?_) (fun hc => ?_)
      · rw [if_pos hc] at hf
        refine y_aload_n (i := 1) dL_law_648 rfl rfl ?_
        replace hf := bnd hf
        obtain ⟨a233, rfl, hf⟩ := hf
        replace hf := bnd hf
        obtain ⟨fs234, efs234, hf⟩ := hf
        replace hf := bnd hf
        obtain ⟨q232, eq232, hf⟩ := hf
        refine y_callV (mj := miX10_result) (args := []) (st := []) dL_law_649 (gd_of 710 rfl rfl) (gd_of 711 rfl rfl) (gd_of 712 rfl rfl) okX10_result (obO_spec efs234) rfl rfl (xX10_result (by omega) eq232) (Nat.le_of_ble_eq_true rfl) rfl ?_
        show Y l g miL_law (d + 1) 652 [some (.inr (.inr (some a101))), some (.inr (.inr (some a233))), some (.inr (.inr r2)), some (.inl x3)] [.inr (.inl q232.1)] q232.2 _
        refine y_aload_n (i := 2) dL_law_652 rfl rfl ?_
        replace hf := bnd hf
        obtain ⟨a236, rfl, hf⟩ := hf
        replace hf := bnd hf
        obtain ⟨fs237, efs237, hf⟩ := hf
        replace hf := bnd hf
        obtain ⟨q235, eq235, hf⟩ := hf
        refine y_callV (mj := miX11_result) (args := []) (st := [.inr (.inl q232.1)]) dL_law_653 (gd_of 1095 rfl rfl) (gd_of 1096 rfl rfl) (gd_of 1097 rfl rfl) okX11_result (obO_spec efs237) rfl rfl (xX11_result (by omega) eq235) (Nat.le_of_ble_eq_true rfl) rfl ?_
        show Y l g miL_law (d + 1) 656 [some (.inr (.inr (some a101))), some (.inr (.inr (some a233))), some (.inr (.inr (some a236))), some (.inl x3)] [.inr (.inl q235.1), .inr (.inl q232.1)] q235.2 _
        refine y_lcmp dL_law_656 ?_
        refine y_if_eq (tgt := 685) dL_law_657 (by decide) (fun hc => ?_) (fun hc => ?_)
        · rw [if_pos hc] at hf
          refine y_iinc (i := 3) (y := 7) (lv2 := [some (.inr (.inr (some a101))), some (.inr (.inr (some a233))), some (.inr (.inr (some a236))), some (.inl (x3 + 7))]) dL_law_685 rfl (by decide) (by decide) rfl ?_
          refine y_goto (tgt := 18) dL_law_688 (by decide) ?_
          refine Y.weak (lv2 := [some (.inr (.inr (some a101))), some (.inr (.inr (some a233))), some (.inr (.inr (some a236))), some (.inl (x3 + 7))]) [true, true, true, true] rfl ?_
          exact ih _ _ _ _ _ _ hf
        · rw [if_neg hc] at hf
          refine y_iconst (v := 0) dL_law_660 (by decide) ?_
          obtain rfl := Option.some.inj hf
          exact y_ret (v := some (.inl 0)) dL_law_661 rfl
      rw [if_neg hc] at hf
      refine y_swc (fun hc => ?_) (fun hc => ?_)
      · rw [if_pos hc] at hf
        refine y_aload_n (i := 1) dL_law_662 rfl rfl ?_
        refine y_aload_n (i := 0) dL_law_663 rfl rfl ?_
        refine y_iload_n (i := 3) dL_law_664 rfl rfl ?_
        refine y_iconst (v := 1) dL_law_665 (by decide) ?_
        refine y_iadd dL_law_666 ?_
        replace hf := bnd hf
        obtain ⟨x238, ex238, hf⟩ := hf
        refine y_iaload ex238 dL_law_667 ?_
        replace hf := bnd hf
        obtain ⟨a240, rfl, hf⟩ := hf
        replace hf := bnd hf
        obtain ⟨fs241, efs241, hf⟩ := hf
        replace hf := bnd hf
        obtain ⟨q239, eq239, hf⟩ := hf
        refine y_callV (mj := miX10_told) (args := [.inl x238]) (st := []) dL_law_668 (gd_of 714 rfl rfl) (gd_of 715 rfl rfl) (gd_of 716 rfl rfl) okX10_told (obO_spec efs241) rfl rfl (xX10_told (by omega) eq239) (Nat.le_of_ble_eq_true rfl) rfl ?_
        show Y l g miL_law (d + 1) 671 [some (.inr (.inr (some a101))), some (.inr (.inr (some a240))), some (.inr (.inr r2)), some (.inl x3)] [.inl q239.1] q239.2 _
        refine y_pop dL_law_671 rfl ?_
        refine y_aload_n (i := 2) dL_law_672 rfl rfl ?_
        refine y_aload_n (i := 0) dL_law_673 rfl rfl ?_
        refine y_iload_n (i := 3) dL_law_674 rfl rfl ?_
        refine y_iconst (v := 1) dL_law_675 (by decide) ?_
        refine y_iadd dL_law_676 ?_
        replace hf := bnd hf
        obtain ⟨x242, ex242, hf⟩ := hf
        refine y_iaload ex242 dL_law_677 ?_
        replace hf := bnd hf
        obtain ⟨a244, rfl, hf⟩ := hf
        replace hf := bnd hf
        obtain ⟨fs245, efs245, hf⟩ := hf
        replace hf := bnd hf
        obtain ⟨q243, eq243, hf⟩ := hf
        refine y_callV (mj := miX11_told) (args := [.inl x242]) (st := []) dL_law_678 (gd_of 1099 rfl rfl) (gd_of 1100 rfl rfl) (gd_of 1101 rfl rfl) okX11_told (obO_spec efs245) rfl rfl (xX11_told (by omega) eq243) (Nat.le_of_ble_eq_true rfl) rfl ?_
        show Y l g miL_law (d + 1) 681 [some (.inr (.inr (some a101))), some (.inr (.inr (some a240))), some (.inr (.inr (some a244))), some (.inl x3)] [.inl q243.1] q243.2 _
        refine y_pop dL_law_681 rfl ?_
        refine y_goto (tgt := 685) dL_law_682 (by decide) ?_
        refine y_iinc (i := 3) (y := 7) (lv2 := [some (.inr (.inr (some a101))), some (.inr (.inr (some a240))), some (.inr (.inr (some a244))), some (.inl (x3 + 7))]) dL_law_685 rfl (by decide) (by decide) rfl ?_
        refine y_goto (tgt := 18) dL_law_688 (by decide) ?_
        refine Y.weak (lv2 := [some (.inr (.inr (some a101))), some (.inr (.inr (some a240))), some (.inr (.inr (some a244))), some (.inl (x3 + 7))]) [true, true, true, true] rfl ?_
        exact ih _ _ _ _ _ _ hf
      rw [if_neg hc] at hf
      refine y_swn ?_
      refine y_iinc (i := 3) (y := 7) (lv2 := [some (.inr (.inr (some a101))), some (.inr (.inr r1)), some (.inr (.inr r2)), some (.inl (x3 + 7))]) dL_law_685 rfl (by decide) (by decide) rfl ?_
      refine y_goto (tgt := 18) dL_law_688 (by decide) ?_
      refine Y.weak (lv2 := [some (.inr (.inr (some a101))), some (.inr (.inr r1)), some (.inr (.inr r2)), some (.inl (x3 + 7))]) [true, true, true, true] rfl ?_
      exact ih _ _ _ _ _ _ hf
def fL_law_e (z : Nat → Nat) (r0 : Option Nat) (h : aH) : Option (Int32 × aH) :=
  (fX10_init z h.1 (hnew h 10 (.inr (8, dz8)))).bind fun q101 =>
  (fX11_init z q101.1 (hnew q101 47 (.inr (9, dz9)))).bind fun q102 =>
  fL_law_18 z 4000 r0 (some h.1) (some q101.1) 0 q102
def fL_law (z : Nat → Nat) (r0 : Option Nat) (h : aH) : Option (Int32 × aH) := chkB (fL_law_e z r0 h)
set_option maxHeartbeats 4000000 in
set_option maxRecDepth 100000 in
theorem xL_law {l : Launch} {g : aG} {d : Nat} (hK : 354 ≤ d) {r0 : Option Nat} {h : aH} {q : Int32 × aH} (hf : fL_law g.2.2 r0 h = some q) : Ev l g miL_law d [.inr (.inr r0)] h (some (.inl q.1), q.2) := by
  obtain ⟨d, rfl⟩ : ∃ e, d = e + 1 := ⟨d - 1, by omega⟩
  replace hf := chkB_spec hf
  obtain ⟨hf, hb⟩ := hf
  refine ⟨?_, Or.inr ⟨rfl, hb⟩, Nat.le_of_ble_eq_true rfl⟩
  unfold fL_law_e at hf
  show Y l g miL_law (d + 1) 0 [some (.inr (.inr r0)), none, none, none] [] h _
  refine y_new (c := 8) (fs := dz8) rfl tyX10 tyX10_ok rfl dz8_ok (gd_of 86 rfl rfl) (gd_of 87 rfl rfl) (gd_of 72 rfl rfl) dL_law_0 ?_
  refine y_dup dL_law_3 rfl ?_
  replace hf := bnd hf
  obtain ⟨q101, eq101, hf⟩ := hf
  refine y_callI (mj := miX10_init) (args := []) (st := [.inr (.inr (some h.1))]) dL_law_4 (Or.inl (gd_of 88 rfl rfl)) (gd_of 89 rfl rfl) rfl rfl okX10_init (xX10_init (by omega) eq101) (Nat.le_of_ble_eq_true rfl) rfl ?_
  show Y l g miL_law (d + 1) 7 [some (.inr (.inr r0)), none, none, none] [.inr (.inr (some h.1))] q101 _
  refine y_astore_n (i := 1) (lv2 := [some (.inr (.inr r0)), some (.inr (.inr (some h.1))), none, none]) dL_law_7 rfl (by decide) rfl ?_
  refine y_new (c := 9) (fs := dz9) rfl tyX11 tyX11_ok rfl dz9_ok (gd_of 722 rfl rfl) (gd_of 723 rfl rfl) (gd_of 76 rfl rfl) dL_law_8 ?_
  refine y_dup dL_law_11 rfl ?_
  replace hf := bnd hf
  obtain ⟨q102, eq102, hf⟩ := hf
  refine y_callI (mj := miX11_init) (args := []) (st := [.inr (.inr (some q101.1))]) dL_law_12 (Or.inl (gd_of 724 rfl rfl)) (gd_of 725 rfl rfl) rfl rfl okX11_init (xX11_init (by omega) eq102) (Nat.le_of_ble_eq_true rfl) rfl ?_
  show Y l g miL_law (d + 1) 15 [some (.inr (.inr r0)), some (.inr (.inr (some h.1))), none, none] [.inr (.inr (some q101.1))] q102 _
  refine y_astore_n (i := 2) (lv2 := [some (.inr (.inr r0)), some (.inr (.inr (some h.1))), some (.inr (.inr (some q101.1))), none]) dL_law_15 rfl (by decide) rfl ?_
  refine y_iconst (v := 0) dL_law_16 (by decide) ?_
  refine y_istore_n (i := 3) (lv2 := [some (.inr (.inr r0)), some (.inr (.inr (some h.1))), some (.inr (.inr (some q101.1))), some (.inl 0)]) dL_law_17 rfl (by decide) rfl ?_
  refine Y.weak (lv2 := [some (.inr (.inr r0)), some (.inr (.inr (some h.1))), some (.inr (.inr (some q101.1))), some (.inl 0)]) [true, true, true, true] rfl ?_
  exact xL_law_18 hK 4000 _ _ _ _ _ _ hf
