/-! The constructor of the reference: its end. Printed by wip/whole/pF3.py. -/
abbrev kc_moin : ByteArray := prog_14_method_14_code
def ky_moin : MethodName := ⟨"IceMannersModel", "<init>", "()V"⟩
set_option maxRecDepth 100000 in
theorem kd_moin_0 : decode kc_moin 0 = .ok (.aload_n 0, 1) := by decide +kernel
set_option maxRecDepth 100000 in
theorem kd_moin_1 : decode kc_moin 1 = .ok (.invokespecial 27, 3) := by decide +kernel
set_option maxRecDepth 100000 in
theorem kd_moin_4 : decode kc_moin 4 = .ok (.aload_n 0, 1) := by decide +kernel
set_option maxRecDepth 100000 in
theorem kd_moin_5 : decode kc_moin 5 = .ok (.sipush 940, 3) := by decide +kernel
set_option maxRecDepth 100000 in
theorem kd_moin_8 : decode kc_moin 8 = .ok (.newarray .byte, 2) := by decide +kernel
set_option maxRecDepth 100000 in
theorem kd_moin_10 : decode kc_moin 10 = .ok (.putfield 14, 3) := by decide +kernel
set_option maxRecDepth 100000 in
theorem kd_moin_13 : decode kc_moin 13 = .ok (.aload_n 0, 1) := by decide +kernel
set_option maxRecDepth 100000 in
theorem kd_moin_14 : decode kc_moin 14 = .ok (.sipush 359, 3) := by decide +kernel
set_option maxRecDepth 100000 in
theorem kd_moin_17 : decode kc_moin 17 = .ok (.newarray .int, 2) := by decide +kernel
set_option maxRecDepth 100000 in
theorem kd_moin_19 : decode kc_moin 19 = .ok (.putfield 33, 3) := by decide +kernel
set_option maxRecDepth 100000 in
theorem kd_moin_22 : decode kc_moin 22 = .ok (.aload_n 0, 1) := by decide +kernel
set_option maxRecDepth 100000 in
theorem kd_moin_23 : decode kc_moin 23 = .ok (.bipush 90, 2) := by decide +kernel
set_option maxRecDepth 100000 in
theorem kd_moin_25 : decode kc_moin 25 = .ok (.newarray .int, 2) := by decide +kernel
set_option maxRecDepth 100000 in
theorem kd_moin_27 : decode kc_moin 27 = .ok (.putfield 37, 3) := by decide +kernel
set_option maxRecDepth 100000 in
theorem kd_moin_30 : decode kc_moin 30 = .ok (.aload_n 0, 1) := by decide +kernel
set_option maxRecDepth 100000 in
theorem kd_moin_31 : decode kc_moin 31 = .ok (.sipush 135, 3) := by decide +kernel
set_option maxRecDepth 100000 in
theorem kd_moin_34 : decode kc_moin 34 = .ok (.newarray .int, 2) := by decide +kernel
set_option maxRecDepth 100000 in
theorem kd_moin_36 : decode kc_moin 36 = .ok (.putfield 40, 3) := by decide +kernel
set_option maxRecDepth 100000 in
theorem kd_moin_39 : decode kc_moin 39 = .ok (.aload_n 0, 1) := by decide +kernel
set_option maxRecDepth 100000 in
theorem kd_moin_40 : decode kc_moin 40 = .ok (.bipush 12, 2) := by decide +kernel
set_option maxRecDepth 100000 in
theorem kd_moin_42 : decode kc_moin 42 = .ok (.newarray .long, 2) := by decide +kernel
set_option maxRecDepth 100000 in
theorem kd_moin_44 : decode kc_moin 44 = .ok (.putfield 43, 3) := by decide +kernel
set_option maxRecDepth 100000 in
theorem kd_moin_47 : decode kc_moin 47 = .ok (.aload_n 0, 1) := by decide +kernel
set_option maxRecDepth 100000 in
theorem kd_moin_48 : decode kc_moin 48 = .ok (.bipush 26, 2) := by decide +kernel
set_option maxRecDepth 100000 in
theorem kd_moin_50 : decode kc_moin 50 = .ok (.newarray .long, 2) := by decide +kernel
set_option maxRecDepth 100000 in
theorem kd_moin_52 : decode kc_moin 52 = .ok (.putfield 47, 3) := by decide +kernel
set_option maxRecDepth 100000 in
theorem kd_moin_55 : decode kc_moin 55 = .ok (.aload_n 0, 1) := by decide +kernel
set_option maxRecDepth 100000 in
theorem kd_moin_56 : decode kc_moin 56 = .ok (.sipush 704, 3) := by decide +kernel
set_option maxRecDepth 100000 in
theorem kd_moin_59 : decode kc_moin 59 = .ok (.newarray .int, 2) := by decide +kernel
set_option maxRecDepth 100000 in
theorem kd_moin_61 : decode kc_moin 61 = .ok (.putfield 50, 3) := by decide +kernel
set_option maxRecDepth 100000 in
theorem kd_moin_64 : decode kc_moin 64 = .ok (.aload_n 0, 1) := by decide +kernel
set_option maxRecDepth 100000 in
theorem kd_moin_65 : decode kc_moin 65 = .ok (.bipush 88, 2) := by decide +kernel
set_option maxRecDepth 100000 in
theorem kd_moin_67 : decode kc_moin 67 = .ok (.newarray .int, 2) := by decide +kernel
set_option maxRecDepth 100000 in
theorem kd_moin_69 : decode kc_moin 69 = .ok (.putfield 53, 3) := by decide +kernel
set_option maxRecDepth 100000 in
theorem kd_moin_72 : decode kc_moin 72 = .ok (.aload_n 0, 1) := by decide +kernel
set_option maxRecDepth 100000 in
theorem kd_moin_73 : decode kc_moin 73 = .ok (.bipush 64, 2) := by decide +kernel
set_option maxRecDepth 100000 in
theorem kd_moin_75 : decode kc_moin 75 = .ok (.newarray .int, 2) := by decide +kernel
set_option maxRecDepth 100000 in
theorem kd_moin_77 : decode kc_moin 77 = .ok (.putfield 56, 3) := by decide +kernel
set_option maxRecDepth 100000 in
theorem kd_moin_80 : decode kc_moin 80 = .ok (.aload_n 0, 1) := by decide +kernel
set_option maxRecDepth 100000 in
theorem kd_moin_81 : decode kc_moin 81 = .ok (.bipush 64, 2) := by decide +kernel
set_option maxRecDepth 100000 in
theorem kd_moin_83 : decode kc_moin 83 = .ok (.newarray .int, 2) := by decide +kernel
set_option maxRecDepth 100000 in
theorem kd_moin_85 : decode kc_moin 85 = .ok (.putfield 59, 3) := by decide +kernel
set_option maxRecDepth 100000 in
theorem kd_moin_88 : decode kc_moin 88 = .ok (.aload_n 0, 1) := by decide +kernel
set_option maxRecDepth 100000 in
theorem kd_moin_89 : decode kc_moin 89 = .ok (.bipush 64, 2) := by decide +kernel
set_option maxRecDepth 100000 in
theorem kd_moin_91 : decode kc_moin 91 = .ok (.newarray .int, 2) := by decide +kernel
set_option maxRecDepth 100000 in
theorem kd_moin_93 : decode kc_moin 93 = .ok (.putfield 62, 3) := by decide +kernel
set_option maxRecDepth 100000 in
theorem kd_moin_96 : decode kc_moin 96 = .ok (.aload_n 0, 1) := by decide +kernel
set_option maxRecDepth 100000 in
theorem kd_moin_97 : decode kc_moin 97 = .ok (.bipush 64, 2) := by decide +kernel
set_option maxRecDepth 100000 in
theorem kd_moin_99 : decode kc_moin 99 = .ok (.newarray .int, 2) := by decide +kernel
set_option maxRecDepth 100000 in
theorem kd_moin_101 : decode kc_moin 101 = .ok (.putfield 65, 3) := by decide +kernel
set_option maxRecDepth 100000 in
theorem kd_moin_104 : decode kc_moin 104 = .ok (.aload_n 0, 1) := by decide +kernel
set_option maxRecDepth 100000 in
theorem kd_moin_105 : decode kc_moin 105 = .ok (.iconst (-1), 1) := by decide +kernel
set_option maxRecDepth 100000 in
theorem kd_moin_106 : decode kc_moin 106 = .ok (.putfield 68, 3) := by decide +kernel
set_option maxRecDepth 100000 in
theorem kd_moin_109 : decode kc_moin 109 = .ok (.aload_n 0, 1) := by decide +kernel
set_option maxRecDepth 100000 in
theorem kd_moin_110 : decode kc_moin 110 = .ok (.bipush 32, 2) := by decide +kernel
set_option maxRecDepth 100000 in
theorem kd_moin_112 : decode kc_moin 112 = .ok (.newarray .byte, 2) := by decide +kernel
set_option maxRecDepth 100000 in
theorem kd_moin_114 : decode kc_moin 114 = .ok (.putfield 71, 3) := by decide +kernel
set_option maxRecDepth 100000 in
theorem kd_moin_117 : decode kc_moin 117 = .ok (.aload_n 0, 1) := by decide +kernel
set_option maxRecDepth 100000 in
theorem kd_moin_118 : decode kc_moin 118 = .ok (.iconst 4, 1) := by decide +kernel
set_option maxRecDepth 100000 in
theorem kd_moin_119 : decode kc_moin 119 = .ok (.newarray .int, 2) := by decide +kernel
set_option maxRecDepth 100000 in
theorem kd_moin_121 : decode kc_moin 121 = .ok (.putfield 74, 3) := by decide +kernel
set_option maxRecDepth 100000 in
theorem kd_moin_124 : decode kc_moin 124 = .ok (.aload_n 0, 1) := by decide +kernel
set_option maxRecDepth 100000 in
theorem kd_moin_125 : decode kc_moin 125 = .ok (.bipush 45, 2) := by decide +kernel
set_option maxRecDepth 100000 in
theorem kd_moin_127 : decode kc_moin 127 = .ok (.newarray .int, 2) := by decide +kernel
set_option maxRecDepth 100000 in
theorem kd_moin_129 : decode kc_moin 129 = .ok (.putfield 77, 3) := by decide +kernel
set_option maxRecDepth 100000 in
theorem kd_moin_132 : decode kc_moin 132 = .ok (.aload_n 0, 1) := by decide +kernel
set_option maxRecDepth 100000 in
theorem kd_moin_133 : decode kc_moin 133 = .ok (.bipush 45, 2) := by decide +kernel
set_option maxRecDepth 100000 in
theorem kd_moin_135 : decode kc_moin 135 = .ok (.newarray .boolean, 2) := by decide +kernel
set_option maxRecDepth 100000 in
theorem kd_moin_137 : decode kc_moin 137 = .ok (.putfield 80, 3) := by decide +kernel
set_option maxRecDepth 100000 in
theorem kd_moin_140 : decode kc_moin 140 = .ok (.aload_n 0, 1) := by decide +kernel
set_option maxRecDepth 100000 in
theorem kd_moin_141 : decode kc_moin 141 = .ok (.sipush 718, 3) := by decide +kernel
set_option maxRecDepth 100000 in
theorem kd_moin_144 : decode kc_moin 144 = .ok (.newarray .int, 2) := by decide +kernel
set_option maxRecDepth 100000 in
theorem kd_moin_146 : decode kc_moin 146 = .ok (.putfield 84, 3) := by decide +kernel
set_option maxRecDepth 100000 in
theorem kd_moin_149 : decode kc_moin 149 = .ok (.aload_n 0, 1) := by decide +kernel
set_option maxRecDepth 100000 in
theorem kd_moin_150 : decode kc_moin 150 = .ok (.bipush 12, 2) := by decide +kernel
set_option maxRecDepth 100000 in
theorem kd_moin_152 : decode kc_moin 152 = .ok (.newarray .long, 2) := by decide +kernel
set_option maxRecDepth 100000 in
theorem kd_moin_154 : decode kc_moin 154 = .ok (.putfield 87, 3) := by decide +kernel
set_option maxRecDepth 100000 in
theorem kd_moin_157 : decode kc_moin 157 = .ok (.aload_n 0, 1) := by decide +kernel
set_option maxRecDepth 100000 in
theorem kd_moin_158 : decode kc_moin 158 = .ok (.iconst 2, 1) := by decide +kernel
set_option maxRecDepth 100000 in
theorem kd_moin_159 : decode kc_moin 159 = .ok (.newarray .boolean, 2) := by decide +kernel
set_option maxRecDepth 100000 in
theorem kd_moin_161 : decode kc_moin 161 = .ok (.putfield 90, 3) := by decide +kernel
set_option maxRecDepth 100000 in
theorem kd_moin_164 : decode kc_moin 164 = .ok (.aload_n 0, 1) := by decide +kernel
set_option maxRecDepth 100000 in
theorem kd_moin_165 : decode kc_moin 165 = .ok (.getfield 47, 3) := by decide +kernel
set_option maxRecDepth 100000 in
theorem kd_moin_168 : decode kc_moin 168 = .ok (.iconst 0, 1) := by decide +kernel
set_option maxRecDepth 100000 in
theorem kd_moin_169 : decode kc_moin 169 = .ok (.ldc2_w 93, 3) := by decide +kernel
set_option maxRecDepth 100000 in
theorem kd_moin_172 : decode kc_moin 172 = .ok (.lastore, 1) := by decide +kernel
set_option maxRecDepth 100000 in
theorem kd_moin_173 : decode kc_moin 173 = .ok (.aload_n 0, 1) := by decide +kernel
set_option maxRecDepth 100000 in
theorem kd_moin_174 : decode kc_moin 174 = .ok (.getfield 47, 3) := by decide +kernel
set_option maxRecDepth 100000 in
theorem kd_moin_177 : decode kc_moin 177 = .ok (.iconst 1, 1) := by decide +kernel
set_option maxRecDepth 100000 in
theorem kd_moin_178 : decode kc_moin 178 = .ok (.ldc2_w 95, 3) := by decide +kernel
set_option maxRecDepth 100000 in
theorem kd_moin_181 : decode kc_moin 181 = .ok (.lastore, 1) := by decide +kernel
set_option maxRecDepth 100000 in
theorem kd_moin_182 : decode kc_moin 182 = .ok (.aload_n 0, 1) := by decide +kernel
set_option maxRecDepth 100000 in
theorem kd_moin_183 : decode kc_moin 183 = .ok (.getfield 47, 3) := by decide +kernel
set_option maxRecDepth 100000 in
theorem kd_moin_186 : decode kc_moin 186 = .ok (.iconst 2, 1) := by decide +kernel
set_option maxRecDepth 100000 in
theorem kd_moin_187 : decode kc_moin 187 = .ok (.ldc2_w 97, 3) := by decide +kernel
set_option maxRecDepth 100000 in
theorem kd_moin_190 : decode kc_moin 190 = .ok (.lastore, 1) := by decide +kernel
set_option maxRecDepth 100000 in
theorem kd_moin_191 : decode kc_moin 191 = .ok (.aload_n 0, 1) := by decide +kernel
set_option maxRecDepth 100000 in
theorem kd_moin_192 : decode kc_moin 192 = .ok (.getfield 47, 3) := by decide +kernel
set_option maxRecDepth 100000 in
theorem kd_moin_195 : decode kc_moin 195 = .ok (.iconst 3, 1) := by decide +kernel
set_option maxRecDepth 100000 in
theorem kd_moin_196 : decode kc_moin 196 = .ok (.ldc2_w 99, 3) := by decide +kernel
set_option maxRecDepth 100000 in
theorem kd_moin_199 : decode kc_moin 199 = .ok (.lastore, 1) := by decide +kernel
set_option maxRecDepth 100000 in
theorem kd_moin_200 : decode kc_moin 200 = .ok (.aload_n 0, 1) := by decide +kernel
set_option maxRecDepth 100000 in
theorem kd_moin_201 : decode kc_moin 201 = .ok (.getfield 47, 3) := by decide +kernel
set_option maxRecDepth 100000 in
theorem kd_moin_204 : decode kc_moin 204 = .ok (.iconst 4, 1) := by decide +kernel
set_option maxRecDepth 100000 in
theorem kd_moin_205 : decode kc_moin 205 = .ok (.ldc2_w 101, 3) := by decide +kernel
set_option maxRecDepth 100000 in
theorem kd_moin_208 : decode kc_moin 208 = .ok (.lastore, 1) := by decide +kernel
set_option maxRecDepth 100000 in
theorem kd_moin_209 : decode kc_moin 209 = .ok (.aload_n 0, 1) := by decide +kernel
set_option maxRecDepth 100000 in
theorem kd_moin_210 : decode kc_moin 210 = .ok (.getfield 47, 3) := by decide +kernel
set_option maxRecDepth 100000 in
theorem kd_moin_213 : decode kc_moin 213 = .ok (.iconst 5, 1) := by decide +kernel
set_option maxRecDepth 100000 in
theorem kd_moin_214 : decode kc_moin 214 = .ok (.ldc2_w 103, 3) := by decide +kernel
set_option maxRecDepth 100000 in
theorem kd_moin_217 : decode kc_moin 217 = .ok (.lastore, 1) := by decide +kernel
set_option maxRecDepth 100000 in
theorem kd_moin_218 : decode kc_moin 218 = .ok (.aload_n 0, 1) := by decide +kernel
set_option maxRecDepth 100000 in
theorem kd_moin_219 : decode kc_moin 219 = .ok (.getfield 47, 3) := by decide +kernel
set_option maxRecDepth 100000 in
theorem kd_moin_222 : decode kc_moin 222 = .ok (.bipush 6, 2) := by decide +kernel
set_option maxRecDepth 100000 in
theorem kd_moin_224 : decode kc_moin 224 = .ok (.ldc2_w 105, 3) := by decide +kernel
set_option maxRecDepth 100000 in
theorem kd_moin_227 : decode kc_moin 227 = .ok (.lastore, 1) := by decide +kernel
set_option maxRecDepth 100000 in
theorem kd_moin_228 : decode kc_moin 228 = .ok (.aload_n 0, 1) := by decide +kernel
set_option maxRecDepth 100000 in
theorem kd_moin_229 : decode kc_moin 229 = .ok (.getfield 47, 3) := by decide +kernel
set_option maxRecDepth 100000 in
theorem kd_moin_232 : decode kc_moin 232 = .ok (.bipush 7, 2) := by decide +kernel
set_option maxRecDepth 100000 in
theorem kd_moin_234 : decode kc_moin 234 = .ok (.ldc2_w 107, 3) := by decide +kernel
set_option maxRecDepth 100000 in
theorem kd_moin_237 : decode kc_moin 237 = .ok (.lastore, 1) := by decide +kernel
set_option maxRecDepth 100000 in
theorem kd_moin_238 : decode kc_moin 238 = .ok (.aload_n 0, 1) := by decide +kernel
set_option maxRecDepth 100000 in
theorem kd_moin_239 : decode kc_moin 239 = .ok (.getfield 47, 3) := by decide +kernel
set_option maxRecDepth 100000 in
theorem kd_moin_242 : decode kc_moin 242 = .ok (.bipush 8, 2) := by decide +kernel
set_option maxRecDepth 100000 in
theorem kd_moin_244 : decode kc_moin 244 = .ok (.ldc2_w 109, 3) := by decide +kernel
set_option maxRecDepth 100000 in
theorem kd_moin_247 : decode kc_moin 247 = .ok (.lastore, 1) := by decide +kernel
set_option maxRecDepth 100000 in
theorem kd_moin_248 : decode kc_moin 248 = .ok (.aload_n 0, 1) := by decide +kernel
set_option maxRecDepth 100000 in
theorem kd_moin_249 : decode kc_moin 249 = .ok (.getfield 47, 3) := by decide +kernel
set_option maxRecDepth 100000 in
theorem kd_moin_252 : decode kc_moin 252 = .ok (.bipush 9, 2) := by decide +kernel
set_option maxRecDepth 100000 in
theorem kd_moin_254 : decode kc_moin 254 = .ok (.ldc2_w 111, 3) := by decide +kernel
set_option maxRecDepth 100000 in
theorem kd_moin_257 : decode kc_moin 257 = .ok (.lastore, 1) := by decide +kernel
set_option maxRecDepth 100000 in
theorem kd_moin_258 : decode kc_moin 258 = .ok (.aload_n 0, 1) := by decide +kernel
set_option maxRecDepth 100000 in
theorem kd_moin_259 : decode kc_moin 259 = .ok (.getfield 47, 3) := by decide +kernel
set_option maxRecDepth 100000 in
theorem kd_moin_262 : decode kc_moin 262 = .ok (.bipush 10, 2) := by decide +kernel
set_option maxRecDepth 100000 in
theorem kd_moin_264 : decode kc_moin 264 = .ok (.ldc2_w 113, 3) := by decide +kernel
set_option maxRecDepth 100000 in
theorem kd_moin_267 : decode kc_moin 267 = .ok (.lastore, 1) := by decide +kernel
set_option maxRecDepth 100000 in
theorem kd_moin_268 : decode kc_moin 268 = .ok (.aload_n 0, 1) := by decide +kernel
set_option maxRecDepth 100000 in
theorem kd_moin_269 : decode kc_moin 269 = .ok (.getfield 47, 3) := by decide +kernel
set_option maxRecDepth 100000 in
theorem kd_moin_272 : decode kc_moin 272 = .ok (.bipush 11, 2) := by decide +kernel
set_option maxRecDepth 100000 in
theorem kd_moin_274 : decode kc_moin 274 = .ok (.ldc2_w 115, 3) := by decide +kernel
set_option maxRecDepth 100000 in
theorem kd_moin_277 : decode kc_moin 277 = .ok (.lastore, 1) := by decide +kernel
set_option maxRecDepth 100000 in
theorem kd_moin_278 : decode kc_moin 278 = .ok (.aload_n 0, 1) := by decide +kernel
set_option maxRecDepth 100000 in
theorem kd_moin_279 : decode kc_moin 279 = .ok (.getfield 47, 3) := by decide +kernel
set_option maxRecDepth 100000 in
theorem kd_moin_282 : decode kc_moin 282 = .ok (.bipush 12, 2) := by decide +kernel
set_option maxRecDepth 100000 in
theorem kd_moin_284 : decode kc_moin 284 = .ok (.ldc2_w 117, 3) := by decide +kernel
set_option maxRecDepth 100000 in
theorem kd_moin_287 : decode kc_moin 287 = .ok (.lastore, 1) := by decide +kernel
set_option maxRecDepth 100000 in
theorem kd_moin_288 : decode kc_moin 288 = .ok (.aload_n 0, 1) := by decide +kernel
set_option maxRecDepth 100000 in
theorem kd_moin_289 : decode kc_moin 289 = .ok (.getfield 47, 3) := by decide +kernel
set_option maxRecDepth 100000 in
theorem kd_moin_292 : decode kc_moin 292 = .ok (.bipush 13, 2) := by decide +kernel
set_option maxRecDepth 100000 in
theorem kd_moin_294 : decode kc_moin 294 = .ok (.ldc2_w 119, 3) := by decide +kernel
set_option maxRecDepth 100000 in
theorem kd_moin_297 : decode kc_moin 297 = .ok (.lastore, 1) := by decide +kernel
set_option maxRecDepth 100000 in
theorem kd_moin_298 : decode kc_moin 298 = .ok (.aload_n 0, 1) := by decide +kernel
set_option maxRecDepth 100000 in
theorem kd_moin_299 : decode kc_moin 299 = .ok (.getfield 47, 3) := by decide +kernel
set_option maxRecDepth 100000 in
theorem kd_moin_302 : decode kc_moin 302 = .ok (.bipush 14, 2) := by decide +kernel
set_option maxRecDepth 100000 in
theorem kd_moin_304 : decode kc_moin 304 = .ok (.ldc2_w 121, 3) := by decide +kernel
set_option maxRecDepth 100000 in
theorem kd_moin_307 : decode kc_moin 307 = .ok (.lastore, 1) := by decide +kernel
set_option maxRecDepth 100000 in
theorem kd_moin_308 : decode kc_moin 308 = .ok (.aload_n 0, 1) := by decide +kernel
set_option maxRecDepth 100000 in
theorem kd_moin_309 : decode kc_moin 309 = .ok (.getfield 47, 3) := by decide +kernel
set_option maxRecDepth 100000 in
theorem kd_moin_312 : decode kc_moin 312 = .ok (.bipush 15, 2) := by decide +kernel
set_option maxRecDepth 100000 in
theorem kd_moin_314 : decode kc_moin 314 = .ok (.ldc2_w 123, 3) := by decide +kernel
set_option maxRecDepth 100000 in
theorem kd_moin_317 : decode kc_moin 317 = .ok (.lastore, 1) := by decide +kernel
set_option maxRecDepth 100000 in
theorem kd_moin_318 : decode kc_moin 318 = .ok (.aload_n 0, 1) := by decide +kernel
set_option maxRecDepth 100000 in
theorem kd_moin_319 : decode kc_moin 319 = .ok (.getfield 47, 3) := by decide +kernel
set_option maxRecDepth 100000 in
theorem kd_moin_322 : decode kc_moin 322 = .ok (.bipush 16, 2) := by decide +kernel
set_option maxRecDepth 100000 in
theorem kd_moin_324 : decode kc_moin 324 = .ok (.ldc2_w 125, 3) := by decide +kernel
set_option maxRecDepth 100000 in
theorem kd_moin_327 : decode kc_moin 327 = .ok (.lastore, 1) := by decide +kernel
set_option maxRecDepth 100000 in
theorem kd_moin_328 : decode kc_moin 328 = .ok (.aload_n 0, 1) := by decide +kernel
set_option maxRecDepth 100000 in
theorem kd_moin_329 : decode kc_moin 329 = .ok (.getfield 47, 3) := by decide +kernel
set_option maxRecDepth 100000 in
theorem kd_moin_332 : decode kc_moin 332 = .ok (.bipush 17, 2) := by decide +kernel
set_option maxRecDepth 100000 in
theorem kd_moin_334 : decode kc_moin 334 = .ok (.ldc2_w 127, 3) := by decide +kernel
set_option maxRecDepth 100000 in
theorem kd_moin_337 : decode kc_moin 337 = .ok (.lastore, 1) := by decide +kernel
set_option maxRecDepth 100000 in
theorem kd_moin_338 : decode kc_moin 338 = .ok (.aload_n 0, 1) := by decide +kernel
set_option maxRecDepth 100000 in
theorem kd_moin_339 : decode kc_moin 339 = .ok (.getfield 47, 3) := by decide +kernel
set_option maxRecDepth 100000 in
theorem kd_moin_342 : decode kc_moin 342 = .ok (.bipush 18, 2) := by decide +kernel
set_option maxRecDepth 100000 in
theorem kd_moin_344 : decode kc_moin 344 = .ok (.ldc2_w 129, 3) := by decide +kernel
set_option maxRecDepth 100000 in
theorem kd_moin_347 : decode kc_moin 347 = .ok (.lastore, 1) := by decide +kernel
set_option maxRecDepth 100000 in
theorem kd_moin_348 : decode kc_moin 348 = .ok (.aload_n 0, 1) := by decide +kernel
set_option maxRecDepth 100000 in
theorem kd_moin_349 : decode kc_moin 349 = .ok (.getfield 47, 3) := by decide +kernel
set_option maxRecDepth 100000 in
theorem kd_moin_352 : decode kc_moin 352 = .ok (.bipush 19, 2) := by decide +kernel
set_option maxRecDepth 100000 in
theorem kd_moin_354 : decode kc_moin 354 = .ok (.ldc2_w 131, 3) := by decide +kernel
set_option maxRecDepth 100000 in
theorem kd_moin_357 : decode kc_moin 357 = .ok (.lastore, 1) := by decide +kernel
set_option maxRecDepth 100000 in
theorem kd_moin_358 : decode kc_moin 358 = .ok (.aload_n 0, 1) := by decide +kernel
set_option maxRecDepth 100000 in
theorem kd_moin_359 : decode kc_moin 359 = .ok (.getfield 47, 3) := by decide +kernel
set_option maxRecDepth 100000 in
theorem kd_moin_362 : decode kc_moin 362 = .ok (.bipush 20, 2) := by decide +kernel
set_option maxRecDepth 100000 in
theorem kd_moin_364 : decode kc_moin 364 = .ok (.ldc2_w 133, 3) := by decide +kernel
set_option maxRecDepth 100000 in
theorem kd_moin_367 : decode kc_moin 367 = .ok (.lastore, 1) := by decide +kernel
set_option maxRecDepth 100000 in
theorem kd_moin_368 : decode kc_moin 368 = .ok (.aload_n 0, 1) := by decide +kernel
set_option maxRecDepth 100000 in
theorem kd_moin_369 : decode kc_moin 369 = .ok (.getfield 47, 3) := by decide +kernel
set_option maxRecDepth 100000 in
theorem kd_moin_372 : decode kc_moin 372 = .ok (.bipush 21, 2) := by decide +kernel
set_option maxRecDepth 100000 in
theorem kd_moin_374 : decode kc_moin 374 = .ok (.ldc2_w 135, 3) := by decide +kernel
set_option maxRecDepth 100000 in
theorem kd_moin_377 : decode kc_moin 377 = .ok (.lastore, 1) := by decide +kernel
set_option maxRecDepth 100000 in
theorem kd_moin_378 : decode kc_moin 378 = .ok (.aload_n 0, 1) := by decide +kernel
set_option maxRecDepth 100000 in
theorem kd_moin_379 : decode kc_moin 379 = .ok (.getfield 47, 3) := by decide +kernel
set_option maxRecDepth 100000 in
theorem kd_moin_382 : decode kc_moin 382 = .ok (.bipush 22, 2) := by decide +kernel
set_option maxRecDepth 100000 in
theorem kd_moin_384 : decode kc_moin 384 = .ok (.ldc2_w 137, 3) := by decide +kernel
set_option maxRecDepth 100000 in
theorem kd_moin_387 : decode kc_moin 387 = .ok (.lastore, 1) := by decide +kernel
set_option maxRecDepth 100000 in
theorem kd_moin_388 : decode kc_moin 388 = .ok (.aload_n 0, 1) := by decide +kernel
set_option maxRecDepth 100000 in
theorem kd_moin_389 : decode kc_moin 389 = .ok (.getfield 47, 3) := by decide +kernel
set_option maxRecDepth 100000 in
theorem kd_moin_392 : decode kc_moin 392 = .ok (.bipush 23, 2) := by decide +kernel
set_option maxRecDepth 100000 in
theorem kd_moin_394 : decode kc_moin 394 = .ok (.ldc2_w 139, 3) := by decide +kernel
set_option maxRecDepth 100000 in
theorem kd_moin_397 : decode kc_moin 397 = .ok (.lastore, 1) := by decide +kernel
set_option maxRecDepth 100000 in
theorem kd_moin_398 : decode kc_moin 398 = .ok (.aload_n 0, 1) := by decide +kernel
set_option maxRecDepth 100000 in
theorem kd_moin_399 : decode kc_moin 399 = .ok (.getfield 47, 3) := by decide +kernel
set_option maxRecDepth 100000 in
theorem kd_moin_402 : decode kc_moin 402 = .ok (.bipush 24, 2) := by decide +kernel
set_option maxRecDepth 100000 in
theorem kd_moin_404 : decode kc_moin 404 = .ok (.ldc2_w 141, 3) := by decide +kernel
set_option maxRecDepth 100000 in
theorem kd_moin_407 : decode kc_moin 407 = .ok (.lastore, 1) := by decide +kernel
set_option maxRecDepth 100000 in
theorem kd_moin_408 : decode kc_moin 408 = .ok (.aload_n 0, 1) := by decide +kernel
set_option maxRecDepth 100000 in
theorem kd_moin_409 : decode kc_moin 409 = .ok (.getfield 47, 3) := by decide +kernel
set_option maxRecDepth 100000 in
theorem kd_moin_412 : decode kc_moin 412 = .ok (.bipush 25, 2) := by decide +kernel
set_option maxRecDepth 100000 in
theorem kd_moin_414 : decode kc_moin 414 = .ok (.ldc2_w 143, 3) := by decide +kernel
set_option maxRecDepth 100000 in
theorem kd_moin_417 : decode kc_moin 417 = .ok (.lastore, 1) := by decide +kernel
set_option maxRecDepth 100000 in
theorem kd_moin_418 : decode kc_moin 418 = .ok (.aload_n 0, 1) := by decide +kernel
set_option maxRecDepth 100000 in
theorem kd_moin_419 : decode kc_moin 419 = .ok (.invokevirtual 145, 3) := by decide +kernel
set_option maxRecDepth 100000 in
theorem kd_moin_422 : decode kc_moin 422 = .ok (.iconst 0, 1) := by decide +kernel
set_option maxRecDepth 100000 in
theorem kd_moin_423 : decode kc_moin 423 = .ok (.istore_n 1, 1) := by decide +kernel
set_option maxRecDepth 100000 in
theorem kd_moin_424 : decode kc_moin 424 = .ok (.iload_n 1, 1) := by decide +kernel
set_option maxRecDepth 100000 in
theorem kd_moin_425 : decode kc_moin 425 = .ok (.bipush 90, 2) := by decide +kernel
set_option maxRecDepth 100000 in
theorem kd_moin_427 : decode kc_moin 427 = .ok (.if_icmp .ge 21, 3) := by decide +kernel
set_option maxRecDepth 100000 in
theorem kd_moin_430 : decode kc_moin 430 = .ok (.aload_n 0, 1) := by decide +kernel
set_option maxRecDepth 100000 in
theorem kd_moin_431 : decode kc_moin 431 = .ok (.getfield 33, 3) := by decide +kernel
set_option maxRecDepth 100000 in
theorem kd_moin_434 : decode kc_moin 434 = .ok (.iload_n 1, 1) := by decide +kernel
set_option maxRecDepth 100000 in
theorem kd_moin_435 : decode kc_moin 435 = .ok (.aload_n 0, 1) := by decide +kernel
set_option maxRecDepth 100000 in
theorem kd_moin_436 : decode kc_moin 436 = .ok (.getfield 37, 3) := by decide +kernel
set_option maxRecDepth 100000 in
theorem kd_moin_439 : decode kc_moin 439 = .ok (.iload_n 1, 1) := by decide +kernel
set_option maxRecDepth 100000 in
theorem kd_moin_440 : decode kc_moin 440 = .ok (.iaload, 1) := by decide +kernel
set_option maxRecDepth 100000 in
theorem kd_moin_441 : decode kc_moin 441 = .ok (.iastore, 1) := by decide +kernel
set_option maxRecDepth 100000 in
theorem kd_moin_442 : decode kc_moin 442 = .ok (.iinc 1 1, 3) := by decide +kernel
set_option maxRecDepth 100000 in
theorem kd_moin_445 : decode kc_moin 445 = .ok (.goto (-21), 3) := by decide +kernel
set_option maxRecDepth 100000 in
theorem kd_moin_448 : decode kc_moin 448 = .ok (.iconst 0, 1) := by decide +kernel
set_option maxRecDepth 100000 in
theorem kd_moin_449 : decode kc_moin 449 = .ok (.istore_n 1, 1) := by decide +kernel
set_option maxRecDepth 100000 in
theorem kd_moin_450 : decode kc_moin 450 = .ok (.iload_n 1, 1) := by decide +kernel
set_option maxRecDepth 100000 in
theorem kd_moin_451 : decode kc_moin 451 = .ok (.bipush 64, 2) := by decide +kernel
set_option maxRecDepth 100000 in
theorem kd_moin_453 : decode kc_moin 453 = .ok (.if_icmp .ge 27, 3) := by decide +kernel
set_option maxRecDepth 100000 in
theorem kd_moin_456 : decode kc_moin 456 = .ok (.aload_n 0, 1) := by decide +kernel
set_option maxRecDepth 100000 in
theorem kd_moin_457 : decode kc_moin 457 = .ok (.getfield 33, 3) := by decide +kernel
set_option maxRecDepth 100000 in
theorem kd_moin_460 : decode kc_moin 460 = .ok (.bipush 96, 2) := by decide +kernel
set_option maxRecDepth 100000 in
theorem kd_moin_462 : decode kc_moin 462 = .ok (.iload_n 1, 1) := by decide +kernel
set_option maxRecDepth 100000 in
theorem kd_moin_463 : decode kc_moin 463 = .ok (.iadd, 1) := by decide +kernel
set_option maxRecDepth 100000 in
theorem kd_moin_464 : decode kc_moin 464 = .ok (.aload_n 0, 1) := by decide +kernel
set_option maxRecDepth 100000 in
theorem kd_moin_465 : decode kc_moin 465 = .ok (.getfield 37, 3) := by decide +kernel
set_option maxRecDepth 100000 in
theorem kd_moin_468 : decode kc_moin 468 = .ok (.bipush 8, 2) := by decide +kernel
set_option maxRecDepth 100000 in
theorem kd_moin_470 : decode kc_moin 470 = .ok (.iload_n 1, 1) := by decide +kernel
set_option maxRecDepth 100000 in
theorem kd_moin_471 : decode kc_moin 471 = .ok (.iadd, 1) := by decide +kernel
set_option maxRecDepth 100000 in
theorem kd_moin_472 : decode kc_moin 472 = .ok (.iaload, 1) := by decide +kernel
set_option maxRecDepth 100000 in
theorem kd_moin_473 : decode kc_moin 473 = .ok (.iastore, 1) := by decide +kernel
set_option maxRecDepth 100000 in
theorem kd_moin_474 : decode kc_moin 474 = .ok (.iinc 1 1, 3) := by decide +kernel
set_option maxRecDepth 100000 in
theorem kd_moin_477 : decode kc_moin 477 = .ok (.goto (-27), 3) := by decide +kernel
set_option maxRecDepth 100000 in
theorem kd_moin_480 : decode kc_moin 480 = .ok (.return_, 1) := by decide +kernel
theorem lk_0 : ∀ k, k < 359 → lkS dl0 k = if k < 90 then dl0 k else if 96 ≤ k ∧ k < 160 then dl0 (k - 88) else 0 := by decide +kernel
theorem InC_0 : InC M0 := ⟨⟨rfl, rfl, rfl, rfl, rfl, rfl, rfl, rfl⟩, ⟨rfl, rfl, rfl, rfl, rfl, rfl⟩, fun _ _ => rfl, ⟨rfl, rfl, fun _ _ => rfl⟩, ⟨rfl, rfl, rfl, rfl⟩, rfl, rfl, ⟨rfl, rfl⟩, ⟨rfl, rfl⟩⟩
theorem InC_of {M : Mm} (e : ∀ p, p < 114 → M.1 p = M0.1 p ∧ M.2.2 p = M0.2.2 p) : InC M := by
  have h := InC_0
  unfold InC at h ⊢
  rw [(e 3 (by decide)).1, (e 6 (by decide)).1, (e 7 (by decide)).1, (e 35 (by decide)).1, (e 36 (by decide)).2, (e 0 (by decide)).1, (e 83 (by decide)).1, (e 11 (by decide)).1, (e 28 (by decide)).2, (e 29 (by decide)).1]
  exact h
section MOI
variable {l : Launch} {κ : Nat → Nat} {D : va_G} {tA : Nat → ClassId} {p : Program} {e : Env} {s : State} {m : MethodId} {args : Array Value} {below : List Frame} {meth : Method} {c : Code} {A : Nat → Prop} {b ρ : Nat → Nat} {M : Mm} {g26 : Nat → Int64} {cells slots : Nat}
def QMo (a : Nat) (b : Nat → Nat) (tA : Nat → ClassId) : Option Value → va_W → Prop := fun r w => ∃ (ρ : Nat → Nat) (M : Mm), ρ 114 = a ∧ (∀ i, i < 114 → ρ i = b i) ∧ (∀ i, 134 ≤ i → ρ i = b i) ∧ InC M ∧ InM M ∧ r = none ∧ w = wl ρ tA M
/-- how far the reference's row s is filled: i of the first loop, j of the second -/
def FilM (M M2 : Mm) (i j : Nat) : Prop := (∀ k, k < 90 → M2.1 117 k = nI (dl0 k)) ∧ (∀ k, M2.1 116 k = if k < i then nI (dl0 k) else if 96 ≤ k ∧ k < 96 + j then nI (dl0 (k - 88)) else 0) ∧ Fr [116, 117] M M2
set_option maxHeartbeats 4000000 in
set_option maxRecDepth 100000 in
theorem moin_4 (C0 : Kf κ "IceMannersModel" kc_moin 2 p s m args c D tA A) (hr : meth.sig.returnType = none) (hlocks : meth.locks = false) (CL : Lw "IceMannersModel" kc_moin 2 p s m args c D tA ρ A) (r1 : ∀ i, i < 114 → ρ i = b i) (r2 : ∀ i, 134 ≤ i → ρ i = b i) (hG : ∀ j, j < 26 → g26 j = Int64.ofInt (kcodes.getD (10 + j) 0)) (hM1 : M.2.1 120 = g26 ∧ (∀ p, p < 114 → M.1 p = M0.1 p ∧ M.2.2 p = M0.2.2 p) ∧ M.1 114 = (fun k => if k = 30 then -1 else 0) ∧ M.1 116 = (fun _ => 0) ∧ M.1 133 = (fun _ => 0)) (hcs : cells ≤ 40 ∧ slots ≤ 6000) :
    ∀ (N j : Nat) (M2 : Mm) (H : Heap) (locs : List Loc) (ls : Array Slot), 64 - j < N → j ≤ 64 → FilM M M2 90 j → va_P D cls (wl ρ tA M2) H → va_S A s.heap H locs → lv_has ls 2 [(1, .int (nI j)), (0, .ref (ρ 114))] → W p l e (rmc 6 40 6000) s m args below meth c H locs cells slots (Ke D (QMo (ρ 114) b tA) A below args s 40 6000) (F0 m 450 ls []) := by
  have hx := C0.1
  have hb := C0.2.1
  intro N
  induction N with
  | zero => intro j M2 H locs ls h9; omega
  | succ N ih =>
    intro j M2 H locs ls hN hj hF hP hS hl
    refine lv_iload_n hx hb kd_moin_450 rfl (lv_at hl 0 rfl) ?_
    refine lv_bipush (v := 64) hx hb kd_moin_451 (by decide) ?_
    refine lv_icmp_ge (tgt := 480) hx hb kd_moin_453 (by decide) (fun h9 => ?_) (fun h9 => ?_)
    · have e9 : j = 64 := by have := (nI_leI (a := 64) (by decide) (by omega)).mp h9; omega
      subst e9
      obtain ⟨f1, f2, f3⟩ := hF
      have fr : ∀ p, p ≠ 116 → p ≠ 117 → M2.1 p = M.1 p ∧ M2.2.1 p = M.2.1 p ∧ M2.2.2 p = M.2.2 p := fun p h1 h2 => f3 p (by simp [h1, h2])
      obtain ⟨q1, q2, q3, q4, q5⟩ := hM1
      refine k_vret C0 hr hlocks (ws := wl ρ tA M2) hP.up (CL.2.2.2.2.2.2.1 M2) hS ⟨ρ, M2, rfl, r1, r2, InC_of (fun p hp => ?_), ?_, rfl, rfl⟩ hcs kd_moin_480
      · rw [(fr p (by omega) (by omega)).1, (fr p (by omega) (by omega)).2.2]
        exact q2 p hp
      · have e114 : M2.1 114 = fun k => if k = 30 then -1 else 0 := (fr 114 (by decide) (by decide)).1.trans q3
        have e133 : M2.1 133 = fun _ => 0 := (fr 133 (by decide) (by decide)).1.trans q5
        refine ⟨fun k hk => ?_, ⟨by rw [e114]; rfl, by rw [e114]; rfl, by rw [e114]; rfl, by rw [e114]; rfl, by rw [e114]; rfl, by rw [e114]; rfl, by rw [e114]; rfl⟩, fun k hk => ?_, by rw [e133]; rfl, by rw [e133]; rfl⟩
        · rw [f2 k, lk_0 k hk]
          by_cases h1 : k < 90
          · rw [if_pos h1, if_pos h1]
          · rw [if_neg h1, if_neg h1]
            by_cases h2 : 96 ≤ k ∧ k < 160
            · rw [if_pos h2, if_pos h2]
            · rw [if_neg h2, if_neg h2]; rfl
        · rw [(fr 120 (by decide) (by decide)).2.1, q1]
          exact hG k hk
    · have h9 : j < 64 := by have := mt (nI_leI (a := 64) (by decide) (by omega)).mpr h9; omega
      refine lv_aload_n hx hb kd_moin_456 rfl (lv_at hl 1 rfl) ?_
      refine lg_get (ci := 10) (k := 6) (q := (5, 116)) (n9 := 1574) CL hP (by decide +kernel) rfl rfl kd_moin_457 ?_
      refine lv_bipush (v := 96) hx hb kd_moin_460 (by decide) ?_
      refine lv_iload_n hx hb kd_moin_462 rfl (lv_at hl 0 rfl) ?_
      refine lv_iadd hx hb kd_moin_463 ?_
      refine lv_aload_n hx hb kd_moin_464 rfl (lv_at hl 1 rfl) ?_
      refine lg_get (ci := 10) (k := 7) (q := (5, 117)) (n9 := 1575) CL hP (by decide +kernel) rfl rfl kd_moin_465 ?_
      refine lv_bipush (v := 8) hx hb kd_moin_468 (by decide) ?_
      refine lv_iload_n hx hb kd_moin_470 rfl (lv_at hl 0 rfl) ?_
      refine lv_iadd hx hb kd_moin_471 ?_
      refine lg_iald (pl := 117) (n := 90) (k := 8 + j) CL hP rfl (nI_add 8 j) (by omega) (by decide) kd_moin_472 ?_
      refine lg_iast (pl := 116) (n := 359) (k := 96 + j) CL hP hS rfl (nI_add 96 j) (by omega) (by decide) kd_moin_473 (fun H locs hP hS => ?_)
      refine lv_iinc (v := nI (j + 1)) (lv' := [(1, .int (nI (j + 1))), (0, .ref (ρ 114))]) hx hb kd_moin_474 hl (k := 0) rfl (by rw [← nI_1]; rfl) (by decide) rfl (fun ls hl => ?_)
      refine lv_goto (tgt := 450) hx hb kd_moin_477 (by decide) ?_
      refine ih (j + 1) _ H locs ls (by omega) (by omega) ?_ hP hS hl
      obtain ⟨f1, f2, f3⟩ := hF
      refine ⟨fun k hk => ?_, fun k => ?_, fun p hp => ?_⟩
      · rw [(mI_off M2 116 _ 117 (by decide)).1]
        exact f1 k hk
      · show va_up M2.1 116 (upd (M2.1 116) (96 + j) (M2.1 117 (8 + j))) 116 k = _
        unfold va_up upd
        rw [if_pos rfl, f1 (8 + j) (by omega)]
        by_cases h1 : k = 96 + j
        · subst h1
          rw [if_pos rfl, if_neg (by omega), if_pos ⟨by omega, by omega⟩, show 96 + j - 88 = 8 + j from by omega]
        · rw [if_neg h1, f2 k]
          by_cases h2 : k < 90
          · rw [if_pos h2, if_pos h2]
          · rw [if_neg h2, if_neg h2]
            by_cases h3 : 96 ≤ k ∧ k < 96 + j
            · rw [if_pos h3, if_pos ⟨h3.1, by omega⟩]
            · rw [if_neg h3, if_neg (by omega)]
      · have hp1 : p ≠ 116 := fun h => hp (by simp [h])
        obtain ⟨g1, g2, g3⟩ := mI_off M2 116 (upd (M2.1 116) (96 + j) (M2.1 117 (8 + j))) p hp1
        obtain ⟨k1, k2, k3⟩ := f3 p hp
        exact ⟨g1.trans k1, g2.trans k2, g3.trans k3⟩
set_option maxHeartbeats 4000000 in
set_option maxRecDepth 100000 in
theorem moin_3 (C0 : Kf κ "IceMannersModel" kc_moin 2 p s m args c D tA A) (hr : meth.sig.returnType = none) (hlocks : meth.locks = false) (CL : Lw "IceMannersModel" kc_moin 2 p s m args c D tA ρ A) (r1 : ∀ i, i < 114 → ρ i = b i) (r2 : ∀ i, 134 ≤ i → ρ i = b i) (hG : ∀ j, j < 26 → g26 j = Int64.ofInt (kcodes.getD (10 + j) 0)) (hM1 : M.2.1 120 = g26 ∧ (∀ p, p < 114 → M.1 p = M0.1 p ∧ M.2.2 p = M0.2.2 p) ∧ M.1 114 = (fun k => if k = 30 then -1 else 0) ∧ M.1 116 = (fun _ => 0) ∧ M.1 133 = (fun _ => 0)) (hcs : cells ≤ 40 ∧ slots ≤ 6000) :
    ∀ (N i : Nat) (M2 : Mm) (H : Heap) (locs : List Loc) (ls : Array Slot), 90 - i < N → i ≤ 90 → FilM M M2 i 0 → va_P D cls (wl ρ tA M2) H → va_S A s.heap H locs → lv_has ls 2 [(1, .int (nI i)), (0, .ref (ρ 114))] → W p l e (rmc 6 40 6000) s m args below meth c H locs cells slots (Ke D (QMo (ρ 114) b tA) A below args s 40 6000) (F0 m 424 ls []) := by
  have hx := C0.1
  have hb := C0.2.1
  intro N
  induction N with
  | zero => intro i M2 H locs ls h9; omega
  | succ N ih =>
    intro i M2 H locs ls hN hi hF hP hS hl
    refine lv_iload_n hx hb kd_moin_424 rfl (lv_at hl 0 rfl) ?_
    refine lv_bipush (v := 90) hx hb kd_moin_425 (by decide) ?_
    refine lv_icmp_ge (tgt := 448) hx hb kd_moin_427 (by decide) (fun h9 => ?_) (fun h9 => ?_)
    · have e9 : i = 90 := by have := (nI_leI (a := 90) (by decide) (by omega)).mp h9; omega
      subst e9
      refine lv_iconst (v := 0) hx hb kd_moin_448 (by decide) ?_
      refine lv_istore_n (lv' := [(1, .int 0), (0, .ref (ρ 114))]) hx hb kd_moin_449 rfl hl (by decide) rfl (fun ls hl => ?_)
      exact moin_4 C0 hr hlocks CL r1 r2 hG hM1 hcs 65 0 M2 H locs ls (by omega) (by omega) hF hP hS hl
    · have h9 : i < 90 := by have := mt (nI_leI (a := 90) (by decide) (by omega)).mpr h9; omega
      refine lv_aload_n hx hb kd_moin_430 rfl (lv_at hl 1 rfl) ?_
      refine lg_get (ci := 10) (k := 6) (q := (5, 116)) (n9 := 1574) CL hP (by decide +kernel) rfl rfl kd_moin_431 ?_
      refine lv_iload_n hx hb kd_moin_434 rfl (lv_at hl 0 rfl) ?_
      refine lv_aload_n hx hb kd_moin_435 rfl (lv_at hl 1 rfl) ?_
      refine lg_get (ci := 10) (k := 7) (q := (5, 117)) (n9 := 1575) CL hP (by decide +kernel) rfl rfl kd_moin_436 ?_
      refine lv_iload_n hx hb kd_moin_439 rfl (lv_at hl 0 rfl) ?_
      refine lg_iald (pl := 117) (n := 90) (k := i) CL hP rfl rfl (by omega) (by decide) kd_moin_440 ?_
      refine lg_iast (pl := 116) (n := 359) (k := i) CL hP hS rfl rfl (by omega) (by decide) kd_moin_441 (fun H locs hP hS => ?_)
      refine lv_iinc (v := nI (i + 1)) (lv' := [(1, .int (nI (i + 1))), (0, .ref (ρ 114))]) hx hb kd_moin_442 hl (k := 0) rfl (by rw [← nI_1]; rfl) (by decide) rfl (fun ls hl => ?_)
      refine lv_goto (tgt := 424) hx hb kd_moin_445 (by decide) ?_
      refine ih (i + 1) _ H locs ls (by omega) (by omega) ?_ hP hS hl
      obtain ⟨f1, f2, f3⟩ := hF
      refine ⟨fun k hk => ?_, fun k => ?_, fun p hp => ?_⟩
      · rw [(mI_off M2 116 _ 117 (by decide)).1]
        exact f1 k hk
      · show va_up M2.1 116 (upd (M2.1 116) i (M2.1 117 i)) 116 k = _
        unfold va_up upd
        rw [if_pos rfl, f1 i h9]
        by_cases h1 : k = i
        · subst h1
          rw [if_pos rfl, if_pos (by omega)]
        · rw [if_neg h1, f2 k]
          by_cases h2 : k < i
          · rw [if_pos h2, if_pos (by omega)]
          · rw [if_neg h2, if_neg (by omega), if_neg (by omega)]
            try rw [if_neg (by omega)]
      · have hp1 : p ≠ 116 := fun h => hp (by simp [h])
        obtain ⟨g1, g2, g3⟩ := mI_off M2 116 (upd (M2.1 116) i (M2.1 117 i)) p hp1
        obtain ⟨k1, k2, k3⟩ := f3 p hp
        exact ⟨g1.trans k1, g2.trans k2, g3.trans k3⟩
set_option maxHeartbeats 4000000 in
set_option maxRecDepth 100000 in
theorem moin_2 {a : Nat} {H : Heap} {locs : List Loc} {ls : Array Slot} (C0 : Kf κ "IceMannersModel" kc_moin 2 p s m args c D tA A) (hr : meth.sig.returnType = none) (hlocks : meth.locks = false) (hl : lv_has ls 2 [(0, .ref a)]) (hP : va_P D cls (wl ρ tA M) H) (hS : va_S A s.heap H locs) (CL : Lw "IceMannersModel" kc_moin 2 p s m args c D tA ρ A) (r1 : ∀ i, i < 114 → ρ i = b i) (r2 : ∀ i, 134 ≤ i → ρ i = b i) (ea : a = ρ 114) (hG : ∀ j, j < 26 → g26 j = Int64.ofInt (kcodes.getD (10 + j) 0)) (hM1 : M.2.1 120 = g26 ∧ (∀ p, p < 114 → M.1 p = M0.1 p ∧ M.2.2 p = M0.2.2 p) ∧ M.1 114 = (fun k => if k = 30 then -1 else 0) ∧ M.1 116 = (fun _ => 0) ∧ M.1 133 = (fun _ => 0)) (hcs : cells ≤ 40 ∧ slots ≤ 6000) : W p l e (rmc 6 40 6000) s m args below meth c H locs cells slots (Ke D (QMo a b tA) A below args s 40 6000) (F0 m 418 ls []) := by
  subst ea
  have hx := C0.1
  have hb := C0.2.1
  refine lv_aload_n hx hb kd_moin_418 rfl (lv_at hl 0 rfl) ?_
  refine law_call (d := 1) (p0 := 114) (st := []) (As := []) 52 145 1560 10 CL (by decide) (by decide +kernel) (by decide +kernel) (by decide +kernel) (by decide +kernel) rfl (by decide +kernel) (Nat.zero_le _) ⟨Nat.le_of_ble_eq_true rfl, ?_⟩ hcs kd_moin_419 rfl hl.1 hP hS (c_m_clears 0 M) (fun r M' H locs hq hP hS _ => ?_)
  · have h9 := (mok_sp 52 (by decide)).1.2.2.2.1
    show 8 + (mL 52 + 11) + 200 * 4 ≤ 1200
    omega
  obtain ⟨rfl, h1, h2⟩ := hq
  refine lv_iconst (v := 0) hx hb kd_moin_422 (by decide) ?_
  refine lv_istore_n (lv' := [(1, .int 0), (0, .ref (ρ 114))]) hx hb kd_moin_423 rfl hl (by decide) rfl (fun ls hl => ?_)
  refine moin_3 C0 hr hlocks CL r1 r2 hG hM1 hcs 91 0 M' H locs ls (by omega) (by omega) ⟨h1, fun k => ?_, fun p hp => h2 p (fun h => hp (by simp at h; simp [h]))⟩ hP hS hl
  rw [(h2 116 (by decide)).1, hM1.2.2.2.1, if_neg (Nat.not_lt_zero _), if_neg (by omega)]
end MOI
