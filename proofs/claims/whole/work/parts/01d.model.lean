theorem dX8_init_0 : decode cX8_init 0 = .ok (.aload_n 0, 1) := by decide +kernel
theorem dX8_init_1 : decode cX8_init 1 = .ok (.invokespecial 1, 3) := by decide +kernel
theorem dX8_init_4 : decode cX8_init 4 = .ok (.aload_n 0, 1) := by decide +kernel
theorem dX8_init_5 : decode cX8_init 5 = .ok (.bipush 8, 2) := by decide +kernel
theorem dX8_init_7 : decode cX8_init 7 = .ok (.newarray .int, 2) := by decide +kernel
theorem dX8_init_9 : decode cX8_init 9 = .ok (.putfield 7, 3) := by decide +kernel
theorem dX8_init_12 : decode cX8_init 12 = .ok (.aload_n 0, 1) := by decide +kernel
theorem dX8_init_13 : decode cX8_init 13 = .ok (.sipush 160, 3) := by decide +kernel
theorem dX8_init_16 : decode cX8_init 16 = .ok (.newarray .int, 2) := by decide +kernel
theorem dX8_init_18 : decode cX8_init 18 = .ok (.putfield 13, 3) := by decide +kernel
theorem dX8_init_21 : decode cX8_init 21 = .ok (.aload_n 0, 1) := by decide +kernel
theorem dX8_init_22 : decode cX8_init 22 = .ok (.sipush 160, 3) := by decide +kernel
theorem dX8_init_25 : decode cX8_init 25 = .ok (.newarray .int, 2) := by decide +kernel
theorem dX8_init_27 : decode cX8_init 27 = .ok (.putfield 16, 3) := by decide +kernel
theorem dX8_init_30 : decode cX8_init 30 = .ok (.aload_n 0, 1) := by decide +kernel
theorem dX8_init_31 : decode cX8_init 31 = .ok (.bipush 24, 2) := by decide +kernel
theorem dX8_init_33 : decode cX8_init 33 = .ok (.newarray .int, 2) := by decide +kernel
theorem dX8_init_35 : decode cX8_init 35 = .ok (.putfield 19, 3) := by decide +kernel
theorem dX8_init_38 : decode cX8_init 38 = .ok (.aload_n 0, 1) := by decide +kernel
theorem dX8_init_39 : decode cX8_init 39 = .ok (.sipush 480, 3) := by decide +kernel
theorem dX8_init_42 : decode cX8_init 42 = .ok (.newarray .int, 2) := by decide +kernel
theorem dX8_init_44 : decode cX8_init 44 = .ok (.putfield 22, 3) := by decide +kernel
theorem dX8_init_47 : decode cX8_init 47 = .ok (.aload_n 0, 1) := by decide +kernel
theorem dX8_init_48 : decode cX8_init 48 = .ok (.sipush 480, 3) := by decide +kernel
theorem dX8_init_51 : decode cX8_init 51 = .ok (.newarray .int, 2) := by decide +kernel
theorem dX8_init_53 : decode cX8_init 53 = .ok (.putfield 25, 3) := by decide +kernel
theorem dX8_init_56 : decode cX8_init 56 = .ok (.aload_n 0, 1) := by decide +kernel
theorem dX8_init_57 : decode cX8_init 57 = .ok (.bipush 24, 2) := by decide +kernel
theorem dX8_init_59 : decode cX8_init 59 = .ok (.newarray .int, 2) := by decide +kernel
theorem dX8_init_61 : decode cX8_init 61 = .ok (.putfield 28, 3) := by decide +kernel
theorem dX8_init_64 : decode cX8_init 64 = .ok (.aload_n 0, 1) := by decide +kernel
theorem dX8_init_65 : decode cX8_init 65 = .ok (.bipush 24, 2) := by decide +kernel
theorem dX8_init_67 : decode cX8_init 67 = .ok (.newarray .int, 2) := by decide +kernel
theorem dX8_init_69 : decode cX8_init 69 = .ok (.putfield 31, 3) := by decide +kernel
theorem dX8_init_72 : decode cX8_init 72 = .ok (.aload_n 0, 1) := by decide +kernel
theorem dX8_init_73 : decode cX8_init 73 = .ok (.bipush 6, 2) := by decide +kernel
theorem dX8_init_75 : decode cX8_init 75 = .ok (.newarray .boolean, 2) := by decide +kernel
theorem dX8_init_77 : decode cX8_init 77 = .ok (.putfield 34, 3) := by decide +kernel
theorem dX8_init_80 : decode cX8_init 80 = .ok (.aload_n 0, 1) := by decide +kernel
theorem dX8_init_81 : decode cX8_init 81 = .ok (.bipush 6, 2) := by decide +kernel
theorem dX8_init_83 : decode cX8_init 83 = .ok (.newarray .boolean, 2) := by decide +kernel
theorem dX8_init_85 : decode cX8_init 85 = .ok (.putfield 38, 3) := by decide +kernel
theorem dX8_init_88 : decode cX8_init 88 = .ok (.aload_n 0, 1) := by decide +kernel
theorem dX8_init_89 : decode cX8_init 89 = .ok (.bipush 6, 2) := by decide +kernel
theorem dX8_init_91 : decode cX8_init 91 = .ok (.newarray .boolean, 2) := by decide +kernel
theorem dX8_init_93 : decode cX8_init 93 = .ok (.putfield 41, 3) := by decide +kernel
theorem dX8_init_96 : decode cX8_init 96 = .ok (.aload_n 0, 1) := by decide +kernel
theorem dX8_init_97 : decode cX8_init 97 = .ok (.bipush 6, 2) := by decide +kernel
theorem dX8_init_99 : decode cX8_init 99 = .ok (.newarray .int, 2) := by decide +kernel
theorem dX8_init_101 : decode cX8_init 101 = .ok (.putfield 44, 3) := by decide +kernel
theorem dX8_init_104 : decode cX8_init 104 = .ok (.aload_n 0, 1) := by decide +kernel
theorem dX8_init_105 : decode cX8_init 105 = .ok (.bipush 6, 2) := by decide +kernel
theorem dX8_init_107 : decode cX8_init 107 = .ok (.newarray .int, 2) := by decide +kernel
theorem dX8_init_109 : decode cX8_init 109 = .ok (.putfield 47, 3) := by decide +kernel
theorem dX8_init_112 : decode cX8_init 112 = .ok (.aload_n 0, 1) := by decide +kernel
theorem dX8_init_113 : decode cX8_init 113 = .ok (.bipush 6, 2) := by decide +kernel
theorem dX8_init_115 : decode cX8_init 115 = .ok (.newarray .int, 2) := by decide +kernel
theorem dX8_init_117 : decode cX8_init 117 = .ok (.putfield 50, 3) := by decide +kernel
theorem dX8_init_120 : decode cX8_init 120 = .ok (.aload_n 0, 1) := by decide +kernel
theorem dX8_init_121 : decode cX8_init 121 = .ok (.bipush 6, 2) := by decide +kernel
theorem dX8_init_123 : decode cX8_init 123 = .ok (.newarray .int, 2) := by decide +kernel
theorem dX8_init_125 : decode cX8_init 125 = .ok (.putfield 53, 3) := by decide +kernel
theorem dX8_init_128 : decode cX8_init 128 = .ok (.aload_n 0, 1) := by decide +kernel
theorem dX8_init_129 : decode cX8_init 129 = .ok (.bipush 6, 2) := by decide +kernel
theorem dX8_init_131 : decode cX8_init 131 = .ok (.newarray .int, 2) := by decide +kernel
theorem dX8_init_133 : decode cX8_init 133 = .ok (.putfield 56, 3) := by decide +kernel
theorem dX8_init_136 : decode cX8_init 136 = .ok (.aload_n 0, 1) := by decide +kernel
theorem dX8_init_137 : decode cX8_init 137 = .ok (.bipush 6, 2) := by decide +kernel
theorem dX8_init_139 : decode cX8_init 139 = .ok (.newarray .int, 2) := by decide +kernel
theorem dX8_init_141 : decode cX8_init 141 = .ok (.putfield 59, 3) := by decide +kernel
theorem dX8_init_144 : decode cX8_init 144 = .ok (.aload_n 0, 1) := by decide +kernel
theorem dX8_init_145 : decode cX8_init 145 = .ok (.bipush 6, 2) := by decide +kernel
theorem dX8_init_147 : decode cX8_init 147 = .ok (.newarray .int, 2) := by decide +kernel
theorem dX8_init_149 : decode cX8_init 149 = .ok (.putfield 62, 3) := by decide +kernel
theorem dX8_init_152 : decode cX8_init 152 = .ok (.aload_n 0, 1) := by decide +kernel
theorem dX8_init_153 : decode cX8_init 153 = .ok (.bipush 36, 2) := by decide +kernel
theorem dX8_init_155 : decode cX8_init 155 = .ok (.newarray .int, 2) := by decide +kernel
theorem dX8_init_157 : decode cX8_init 157 = .ok (.putfield 65, 3) := by decide +kernel
theorem dX8_init_160 : decode cX8_init 160 = .ok (.aload_n 0, 1) := by decide +kernel
theorem dX8_init_161 : decode cX8_init 161 = .ok (.bipush 6, 2) := by decide +kernel
theorem dX8_init_163 : decode cX8_init 163 = .ok (.newarray .int, 2) := by decide +kernel
theorem dX8_init_165 : decode cX8_init 165 = .ok (.putfield 68, 3) := by decide +kernel
theorem dX8_init_168 : decode cX8_init 168 = .ok (.aload_n 0, 1) := by decide +kernel
theorem dX8_init_169 : decode cX8_init 169 = .ok (.bipush 6, 2) := by decide +kernel
theorem dX8_init_171 : decode cX8_init 171 = .ok (.newarray .int, 2) := by decide +kernel
theorem dX8_init_173 : decode cX8_init 173 = .ok (.putfield 71, 3) := by decide +kernel
theorem dX8_init_176 : decode cX8_init 176 = .ok (.aload_n 0, 1) := by decide +kernel
theorem dX8_init_177 : decode cX8_init 177 = .ok (.bipush 36, 2) := by decide +kernel
theorem dX8_init_179 : decode cX8_init 179 = .ok (.newarray .int, 2) := by decide +kernel
theorem dX8_init_181 : decode cX8_init 181 = .ok (.putfield 74, 3) := by decide +kernel
theorem dX8_init_184 : decode cX8_init 184 = .ok (.aload_n 0, 1) := by decide +kernel
theorem dX8_init_185 : decode cX8_init 185 = .ok (.bipush 6, 2) := by decide +kernel
theorem dX8_init_187 : decode cX8_init 187 = .ok (.newarray .int, 2) := by decide +kernel
theorem dX8_init_189 : decode cX8_init 189 = .ok (.putfield 77, 3) := by decide +kernel
theorem dX8_init_192 : decode cX8_init 192 = .ok (.aload_n 0, 1) := by decide +kernel
theorem dX8_init_193 : decode cX8_init 193 = .ok (.sipush 1000, 3) := by decide +kernel
theorem dX8_init_196 : decode cX8_init 196 = .ok (.newarray .int, 2) := by decide +kernel
theorem dX8_init_198 : decode cX8_init 198 = .ok (.putfield 80, 3) := by decide +kernel
theorem dX8_init_201 : decode cX8_init 201 = .ok (.aload_n 0, 1) := by decide +kernel
theorem dX8_init_202 : decode cX8_init 202 = .ok (.bipush 10, 2) := by decide +kernel
theorem dX8_init_204 : decode cX8_init 204 = .ok (.newarray .int, 2) := by decide +kernel
theorem dX8_init_206 : decode cX8_init 206 = .ok (.putfield 83, 3) := by decide +kernel
theorem dX8_init_209 : decode cX8_init 209 = .ok (.aload_n 0, 1) := by decide +kernel
theorem dX8_init_210 : decode cX8_init 210 = .ok (.sipush 1000, 3) := by decide +kernel
theorem dX8_init_213 : decode cX8_init 213 = .ok (.newarray .boolean, 2) := by decide +kernel
theorem dX8_init_215 : decode cX8_init 215 = .ok (.putfield 86, 3) := by decide +kernel
theorem dX8_init_218 : decode cX8_init 218 = .ok (.iconst 0, 1) := by decide +kernel
theorem dX8_init_219 : decode cX8_init 219 = .ok (.istore_n 1, 1) := by decide +kernel
theorem dX8_init_220 : decode cX8_init 220 = .ok (.iload_n 1, 1) := by decide +kernel
theorem dX8_init_221 : decode cX8_init 221 = .ok (.bipush 6, 2) := by decide +kernel
theorem dX8_init_223 : decode cX8_init 223 = .ok (.if_icmp .ge 37, 3) := by decide +kernel
theorem dX8_init_226 : decode cX8_init 226 = .ok (.aload_n 0, 1) := by decide +kernel
theorem dX8_init_227 : decode cX8_init 227 = .ok (.getfield 47, 3) := by decide +kernel
theorem dX8_init_230 : decode cX8_init 230 = .ok (.iload_n 1, 1) := by decide +kernel
theorem dX8_init_231 : decode cX8_init 231 = .ok (.iconst (-1), 1) := by decide +kernel
theorem dX8_init_232 : decode cX8_init 232 = .ok (.iastore, 1) := by decide +kernel
theorem dX8_init_233 : decode cX8_init 233 = .ok (.aload_n 0, 1) := by decide +kernel
theorem dX8_init_234 : decode cX8_init 234 = .ok (.getfield 56, 3) := by decide +kernel
theorem dX8_init_237 : decode cX8_init 237 = .ok (.iload_n 1, 1) := by decide +kernel
theorem dX8_init_238 : decode cX8_init 238 = .ok (.iconst (-1), 1) := by decide +kernel
theorem dX8_init_239 : decode cX8_init 239 = .ok (.iastore, 1) := by decide +kernel
theorem dX8_init_240 : decode cX8_init 240 = .ok (.aload_n 0, 1) := by decide +kernel
theorem dX8_init_241 : decode cX8_init 241 = .ok (.getfield 62, 3) := by decide +kernel
theorem dX8_init_244 : decode cX8_init 244 = .ok (.iload_n 1, 1) := by decide +kernel
theorem dX8_init_245 : decode cX8_init 245 = .ok (.iconst (-1), 1) := by decide +kernel
theorem dX8_init_246 : decode cX8_init 246 = .ok (.iastore, 1) := by decide +kernel
theorem dX8_init_247 : decode cX8_init 247 = .ok (.aload_n 0, 1) := by decide +kernel
theorem dX8_init_248 : decode cX8_init 248 = .ok (.getfield 71, 3) := by decide +kernel
theorem dX8_init_251 : decode cX8_init 251 = .ok (.iload_n 1, 1) := by decide +kernel
theorem dX8_init_252 : decode cX8_init 252 = .ok (.iconst (-1), 1) := by decide +kernel
theorem dX8_init_253 : decode cX8_init 253 = .ok (.iastore, 1) := by decide +kernel
theorem dX8_init_254 : decode cX8_init 254 = .ok (.iinc 1 1, 3) := by decide +kernel
theorem dX8_init_257 : decode cX8_init 257 = .ok (.goto (-37), 3) := by decide +kernel
theorem dX8_init_260 : decode cX8_init 260 = .ok (.iconst 0, 1) := by decide +kernel
theorem dX8_init_261 : decode cX8_init 261 = .ok (.istore_n 1, 1) := by decide +kernel
theorem dX8_init_262 : decode cX8_init 262 = .ok (.iload_n 1, 1) := by decide +kernel
theorem dX8_init_263 : decode cX8_init 263 = .ok (.bipush 10, 2) := by decide +kernel
theorem dX8_init_265 : decode cX8_init 265 = .ok (.if_icmp .ge 16, 3) := by decide +kernel
theorem dX8_init_268 : decode cX8_init 268 = .ok (.aload_n 0, 1) := by decide +kernel
theorem dX8_init_269 : decode cX8_init 269 = .ok (.getfield 83, 3) := by decide +kernel
theorem dX8_init_272 : decode cX8_init 272 = .ok (.iload_n 1, 1) := by decide +kernel
theorem dX8_init_273 : decode cX8_init 273 = .ok (.iconst (-1), 1) := by decide +kernel
theorem dX8_init_274 : decode cX8_init 274 = .ok (.iastore, 1) := by decide +kernel
theorem dX8_init_275 : decode cX8_init 275 = .ok (.iinc 1 1, 3) := by decide +kernel
theorem dX8_init_278 : decode cX8_init 278 = .ok (.goto (-16), 3) := by decide +kernel
theorem dX8_init_281 : decode cX8_init 281 = .ok (.return_, 1) := by decide +kernel
theorem dX8_thrown_0 : decode cX8_thrown 0 = .ok (.aload_n 0, 1) := by decide +kernel
theorem dX8_thrown_1 : decode cX8_thrown 1 = .ok (.getfield 89, 3) := by decide +kernel
theorem dX8_thrown_4 : decode cX8_thrown 4 = .ok (.ireturn, 1) := by decide +kernel
theorem dX8_isIn_0 : decode cX8_isIn 0 = .ok (.iload_n 0, 1) := by decide +kernel
theorem dX8_isIn_1 : decode cX8_isIn 1 = .ok (.iload_n 1, 1) := by decide +kernel
theorem dX8_isIn_2 : decode cX8_isIn 2 = .ok (.if_icmp .lt 12, 3) := by decide +kernel
theorem dX8_isIn_5 : decode cX8_isIn 5 = .ok (.iload_n 0, 1) := by decide +kernel
theorem dX8_isIn_6 : decode cX8_isIn 6 = .ok (.iload_n 2, 1) := by decide +kernel
theorem dX8_isIn_7 : decode cX8_isIn 7 = .ok (.if_icmp .gt 7, 3) := by decide +kernel
theorem dX8_isIn_10 : decode cX8_isIn 10 = .ok (.iconst 1, 1) := by decide +kernel
theorem dX8_isIn_11 : decode cX8_isIn 11 = .ok (.goto 4, 3) := by decide +kernel
theorem dX8_isIn_14 : decode cX8_isIn 14 = .ok (.iconst 0, 1) := by decide +kernel
theorem dX8_isIn_15 : decode cX8_isIn 15 = .ok (.ireturn, 1) := by decide +kernel
theorem dX8_isThrown_0 : decode cX8_isThrown 0 = .ok (.aload_n 0, 1) := by decide +kernel
theorem dX8_isThrown_1 : decode cX8_isThrown 1 = .ok (.iload_n 1, 1) := by decide +kernel
theorem dX8_isThrown_2 : decode cX8_isThrown 2 = .ok (.ifCond .eq 7, 3) := by decide +kernel
theorem dX8_isThrown_5 : decode cX8_isThrown 5 = .ok (.iload_n 2, 1) := by decide +kernel
theorem dX8_isThrown_6 : decode cX8_isThrown 6 = .ok (.goto 4, 3) := by decide +kernel
theorem dX8_isThrown_9 : decode cX8_isThrown 9 = .ok (.iconst 0, 1) := by decide +kernel
theorem dX8_isThrown_10 : decode cX8_isThrown 10 = .ok (.putfield 89, 3) := by decide +kernel
theorem dX8_isThrown_13 : decode cX8_isThrown 13 = .ok (.iload_n 1, 1) := by decide +kernel
theorem dX8_isThrown_14 : decode cX8_isThrown 14 = .ok (.ireturn, 1) := by decide +kernel
theorem dX8_apart_0 : decode cX8_apart 0 = .ok (.iload_n 0, 1) := by decide +kernel
theorem dX8_apart_1 : decode cX8_apart 1 = .ok (.iload_n 1, 1) := by decide +kernel
theorem dX8_apart_2 : decode cX8_apart 2 = .ok (.if_icmp .le 9, 3) := by decide +kernel
theorem dX8_apart_5 : decode cX8_apart 5 = .ok (.iload_n 0, 1) := by decide +kernel
theorem dX8_apart_6 : decode cX8_apart 6 = .ok (.iload_n 1, 1) := by decide +kernel
theorem dX8_apart_7 : decode cX8_apart 7 = .ok (.isub, 1) := by decide +kernel
theorem dX8_apart_8 : decode cX8_apart 8 = .ok (.goto 6, 3) := by decide +kernel
theorem dX8_apart_11 : decode cX8_apart 11 = .ok (.iload_n 1, 1) := by decide +kernel
theorem dX8_apart_12 : decode cX8_apart 12 = .ok (.iload_n 0, 1) := by decide +kernel
theorem dX8_apart_13 : decode cX8_apart 13 = .ok (.isub, 1) := by decide +kernel
theorem dX8_apart_14 : decode cX8_apart 14 = .ok (.ireturn, 1) := by decide +kernel
set_option maxRecDepth 20000 in
theorem ggX8_isList_X8_isIn : GoodIn wsX8_isList wsX8_isIn := goodIn_r _ [5] (by decide +kernel) (by decide +kernel)
set_option maxRecDepth 20000 in
theorem gX8_isList_X8_isIn : GoodIn wsX8_isList (va_wsS RX8 96 yX8_isIn wsX8_isIn) := goodIn_app (goodIn_of _ (by decide +kernel)) ggX8_isList_X8_isIn
theorem dX8_isList_0 : decode cX8_isList 0 = .ok (.iload_n 1, 1) := by decide +kernel
theorem dX8_isList_1 : decode cX8_isList 1 = .ok (.iconst 0, 1) := by decide +kernel
theorem dX8_isList_2 : decode cX8_isList 2 = .ok (.aload_n 0, 1) := by decide +kernel
theorem dX8_isList_3 : decode cX8_isList 3 = .ok (.getfield 93, 3) := by decide +kernel
theorem dX8_isList_6 : decode cX8_isList 6 = .ok (.iconst 1, 1) := by decide +kernel
theorem dX8_isList_7 : decode cX8_isList 7 = .ok (.isub, 1) := by decide +kernel
theorem dX8_isList_8 : decode cX8_isList 8 = .ok (.invokestatic 96, 3) := by decide +kernel
theorem dX8_isList_11 : decode cX8_isList 11 = .ok (.ireturn, 1) := by decide +kernel
set_option maxRecDepth 20000 in
theorem ggX8_isKiosk_X8_isIn : GoodIn wsX8_isKiosk wsX8_isIn := goodIn_r _ [5] (by decide +kernel) (by decide +kernel)
set_option maxRecDepth 20000 in
theorem gX8_isKiosk_X8_isIn : GoodIn wsX8_isKiosk (va_wsS RX8 96 yX8_isIn wsX8_isIn) := goodIn_app (goodIn_of _ (by decide +kernel)) ggX8_isKiosk_X8_isIn
theorem dX8_isKiosk_0 : decode cX8_isKiosk 0 = .ok (.iload_n 1, 1) := by decide +kernel
theorem dX8_isKiosk_1 : decode cX8_isKiosk 1 = .ok (.iconst 0, 1) := by decide +kernel
theorem dX8_isKiosk_2 : decode cX8_isKiosk 2 = .ok (.aload_n 0, 1) := by decide +kernel
theorem dX8_isKiosk_3 : decode cX8_isKiosk 3 = .ok (.getfield 100, 3) := by decide +kernel
theorem dX8_isKiosk_6 : decode cX8_isKiosk 6 = .ok (.iconst 1, 1) := by decide +kernel
theorem dX8_isKiosk_7 : decode cX8_isKiosk 7 = .ok (.isub, 1) := by decide +kernel
theorem dX8_isKiosk_8 : decode cX8_isKiosk 8 = .ok (.invokestatic 96, 3) := by decide +kernel
theorem dX8_isKiosk_11 : decode cX8_isKiosk 11 = .ok (.ireturn, 1) := by decide +kernel
set_option maxRecDepth 20000 in
theorem ggX8_list_X8_isThrown : GoodIn wsX8_list wsX8_isThrown := goodIn_r _ [6, 7, 8, 9, 10, 11, 12, 13, 14, 15, 16, 17, 18, 19, 20, 21, 22, 23, 24, 25, 26, 27, 28, 29, 30, 31, 32, 33, 34, 35, 36, 37, 38, 39] (by decide +kernel) (by decide +kernel)
set_option maxRecDepth 20000 in
theorem gX8_list_X8_isThrown : GoodIn wsX8_list (wsV RX8 103 RX8 yX8_isThrown wsX8_isThrown) := goodIn_app (goodIn_of _ (by decide +kernel)) ggX8_list_X8_isThrown
theorem dX8_list_0 : decode cX8_list 0 = .ok (.aload_n 0, 1) := by decide +kernel
theorem dX8_list_1 : decode cX8_list 1 = .ok (.aload_n 0, 1) := by decide +kernel
theorem dX8_list_2 : decode cX8_list 2 = .ok (.getfield 93, 3) := by decide +kernel
theorem dX8_list_5 : decode cX8_list 5 = .ok (.bipush 8, 2) := by decide +kernel
theorem dX8_list_7 : decode cX8_list 7 = .ok (.if_icmp .ne 7, 3) := by decide +kernel
theorem dX8_list_10 : decode cX8_list 10 = .ok (.iconst 1, 1) := by decide +kernel
theorem dX8_list_11 : decode cX8_list 11 = .ok (.goto 4, 3) := by decide +kernel
theorem dX8_list_14 : decode cX8_list 14 = .ok (.iconst 0, 1) := by decide +kernel
theorem dX8_list_15 : decode cX8_list 15 = .ok (.iconst 1, 1) := by decide +kernel
theorem dX8_list_16 : decode cX8_list 16 = .ok (.invokevirtual 103, 3) := by decide +kernel
theorem dX8_list_19 : decode cX8_list 19 = .ok (.ifCond .eq 5, 3) := by decide +kernel
theorem dX8_list_22 : decode cX8_list 22 = .ok (.iconst 0, 1) := by decide +kernel
theorem dX8_list_23 : decode cX8_list 23 = .ok (.ireturn, 1) := by decide +kernel
theorem dX8_list_24 : decode cX8_list 24 = .ok (.aload_n 0, 1) := by decide +kernel
theorem dX8_list_25 : decode cX8_list 25 = .ok (.dup, 1) := by decide +kernel
theorem dX8_list_26 : decode cX8_list 26 = .ok (.getfield 93, 3) := by decide +kernel
theorem dX8_list_29 : decode cX8_list 29 = .ok (.iconst 1, 1) := by decide +kernel
theorem dX8_list_30 : decode cX8_list 30 = .ok (.iadd, 1) := by decide +kernel
theorem dX8_list_31 : decode cX8_list 31 = .ok (.putfield 93, 3) := by decide +kernel
theorem dX8_list_34 : decode cX8_list 34 = .ok (.aload_n 0, 1) := by decide +kernel
theorem dX8_list_35 : decode cX8_list 35 = .ok (.getfield 93, 3) := by decide +kernel
theorem dX8_list_38 : decode cX8_list 38 = .ok (.iconst 1, 1) := by decide +kernel
theorem dX8_list_39 : decode cX8_list 39 = .ok (.isub, 1) := by decide +kernel
theorem dX8_list_40 : decode cX8_list 40 = .ok (.ireturn, 1) := by decide +kernel
theorem dX8_isKind_0 : decode cX8_isKind 0 = .ok (.iload_n 0, 1) := by decide +kernel
theorem dX8_isKind_1 : decode cX8_isKind 1 = .ok (.bipush 115, 2) := by decide +kernel
theorem dX8_isKind_3 : decode cX8_isKind 3 = .ok (.if_icmp .eq 51, 3) := by decide +kernel
theorem dX8_isKind_6 : decode cX8_isKind 6 = .ok (.iload_n 0, 1) := by decide +kernel
theorem dX8_isKind_7 : decode cX8_isKind 7 = .ok (.bipush 119, 2) := by decide +kernel
theorem dX8_isKind_9 : decode cX8_isKind 9 = .ok (.if_icmp .eq 45, 3) := by decide +kernel
theorem dX8_isKind_12 : decode cX8_isKind 12 = .ok (.iload_n 0, 1) := by decide +kernel
theorem dX8_isKind_13 : decode cX8_isKind 13 = .ok (.bipush 100, 2) := by decide +kernel
theorem dX8_isKind_15 : decode cX8_isKind 15 = .ok (.if_icmp .eq 39, 3) := by decide +kernel
theorem dX8_isKind_18 : decode cX8_isKind 18 = .ok (.iload_n 0, 1) := by decide +kernel
theorem dX8_isKind_19 : decode cX8_isKind 19 = .ok (.bipush 102, 2) := by decide +kernel
theorem dX8_isKind_21 : decode cX8_isKind 21 = .ok (.if_icmp .eq 33, 3) := by decide +kernel
theorem dX8_isKind_24 : decode cX8_isKind 24 = .ok (.iload_n 0, 1) := by decide +kernel
theorem dX8_isKind_25 : decode cX8_isKind 25 = .ok (.bipush 103, 2) := by decide +kernel
theorem dX8_isKind_27 : decode cX8_isKind 27 = .ok (.if_icmp .eq 27, 3) := by decide +kernel
theorem dX8_isKind_30 : decode cX8_isKind 30 = .ok (.iload_n 0, 1) := by decide +kernel
theorem dX8_isKind_31 : decode cX8_isKind 31 = .ok (.bipush 118, 2) := by decide +kernel
theorem dX8_isKind_33 : decode cX8_isKind 33 = .ok (.if_icmp .eq 21, 3) := by decide +kernel
theorem dX8_isKind_36 : decode cX8_isKind 36 = .ok (.iload_n 0, 1) := by decide +kernel
theorem dX8_isKind_37 : decode cX8_isKind 37 = .ok (.bipush 108, 2) := by decide +kernel
theorem dX8_isKind_39 : decode cX8_isKind 39 = .ok (.if_icmp .eq 15, 3) := by decide +kernel
theorem dX8_isKind_42 : decode cX8_isKind 42 = .ok (.iload_n 0, 1) := by decide +kernel
theorem dX8_isKind_43 : decode cX8_isKind 43 = .ok (.bipush 99, 2) := by decide +kernel
theorem dX8_isKind_45 : decode cX8_isKind 45 = .ok (.if_icmp .eq 9, 3) := by decide +kernel
theorem dX8_isKind_48 : decode cX8_isKind 48 = .ok (.iload_n 0, 1) := by decide +kernel
theorem dX8_isKind_49 : decode cX8_isKind 49 = .ok (.bipush 112, 2) := by decide +kernel
theorem dX8_isKind_51 : decode cX8_isKind 51 = .ok (.if_icmp .ne 7, 3) := by decide +kernel
theorem dX8_isKind_54 : decode cX8_isKind 54 = .ok (.iconst 1, 1) := by decide +kernel
theorem dX8_isKind_55 : decode cX8_isKind 55 = .ok (.goto 4, 3) := by decide +kernel
theorem dX8_isKind_58 : decode cX8_isKind 58 = .ok (.iconst 0, 1) := by decide +kernel
theorem dX8_isKind_59 : decode cX8_isKind 59 = .ok (.ireturn, 1) := by decide +kernel
set_option maxRecDepth 20000 in
theorem ggX8_isNumber_X8_isIn : GoodIn wsX8_isNumber wsX8_isIn := goodIn_r _ [4] (by decide +kernel) (by decide +kernel)
set_option maxRecDepth 20000 in
theorem gX8_isNumber_X8_isIn : GoodIn wsX8_isNumber (va_wsS RX8 96 yX8_isIn wsX8_isIn) := goodIn_app (goodIn_of _ (by decide +kernel)) ggX8_isNumber_X8_isIn
theorem dX8_isNumber_0 : decode cX8_isNumber 0 = .ok (.iload_n 0, 1) := by decide +kernel
theorem dX8_isNumber_1 : decode cX8_isNumber 1 = .ok (.bipush 119, 2) := by decide +kernel
theorem dX8_isNumber_3 : decode cX8_isNumber 3 = .ok (.if_icmp .ne 7, 3) := by decide +kernel
theorem dX8_isNumber_6 : decode cX8_isNumber 6 = .ok (.iconst 1, 1) := by decide +kernel
theorem dX8_isNumber_7 : decode cX8_isNumber 7 = .ok (.goto 4, 3) := by decide +kernel
theorem dX8_isNumber_10 : decode cX8_isNumber 10 = .ok (.iconst 0, 1) := by decide +kernel
theorem dX8_isNumber_11 : decode cX8_isNumber 11 = .ok (.istore_n 2, 1) := by decide +kernel
theorem dX8_isNumber_12 : decode cX8_isNumber 12 = .ok (.iload_n 0, 1) := by decide +kernel
theorem dX8_isNumber_13 : decode cX8_isNumber 13 = .ok (.bipush 115, 2) := by decide +kernel
theorem dX8_isNumber_15 : decode cX8_isNumber 15 = .ok (.if_icmp .eq 9, 3) := by decide +kernel
theorem dX8_isNumber_18 : decode cX8_isNumber 18 = .ok (.iload_n 0, 1) := by decide +kernel
theorem dX8_isNumber_19 : decode cX8_isNumber 19 = .ok (.bipush 99, 2) := by decide +kernel
theorem dX8_isNumber_21 : decode cX8_isNumber 21 = .ok (.if_icmp .ne 8, 3) := by decide +kernel
theorem dX8_isNumber_24 : decode cX8_isNumber 24 = .ok (.bipush 99, 2) := by decide +kernel
theorem dX8_isNumber_26 : decode cX8_isNumber 26 = .ok (.goto 32, 3) := by decide +kernel
theorem dX8_isNumber_29 : decode cX8_isNumber 29 = .ok (.iload_n 0, 1) := by decide +kernel
theorem dX8_isNumber_30 : decode cX8_isNumber 30 = .ok (.bipush 100, 2) := by decide +kernel
theorem dX8_isNumber_32 : decode cX8_isNumber 32 = .ok (.if_icmp .eq 9, 3) := by decide +kernel
theorem dX8_isNumber_35 : decode cX8_isNumber 35 = .ok (.iload_n 0, 1) := by decide +kernel
theorem dX8_isNumber_36 : decode cX8_isNumber 36 = .ok (.bipush 102, 2) := by decide +kernel
theorem dX8_isNumber_38 : decode cX8_isNumber 38 = .ok (.if_icmp .ne 7, 3) := by decide +kernel
theorem dX8_isNumber_41 : decode cX8_isNumber 41 = .ok (.iconst 5, 1) := by decide +kernel
theorem dX8_isNumber_42 : decode cX8_isNumber 42 = .ok (.goto 16, 3) := by decide +kernel
theorem dX8_isNumber_45 : decode cX8_isNumber 45 = .ok (.iload_n 0, 1) := by decide +kernel
theorem dX8_isNumber_46 : decode cX8_isNumber 46 = .ok (.bipush 112, 2) := by decide +kernel
theorem dX8_isNumber_48 : decode cX8_isNumber 48 = .ok (.if_icmp .ne 8, 3) := by decide +kernel
theorem dX8_isNumber_51 : decode cX8_isNumber 51 = .ok (.bipush 7, 2) := by decide +kernel
theorem dX8_isNumber_53 : decode cX8_isNumber 53 = .ok (.goto 5, 3) := by decide +kernel
theorem dX8_isNumber_56 : decode cX8_isNumber 56 = .ok (.bipush 20, 2) := by decide +kernel
theorem dX8_isNumber_58 : decode cX8_isNumber 58 = .ok (.istore_n 3, 1) := by decide +kernel
theorem dX8_isNumber_59 : decode cX8_isNumber 59 = .ok (.iload_n 1, 1) := by decide +kernel
theorem dX8_isNumber_60 : decode cX8_isNumber 60 = .ok (.iload_n 2, 1) := by decide +kernel
theorem dX8_isNumber_61 : decode cX8_isNumber 61 = .ok (.iload_n 3, 1) := by decide +kernel
theorem dX8_isNumber_62 : decode cX8_isNumber 62 = .ok (.invokestatic 96, 3) := by decide +kernel
theorem dX8_isNumber_65 : decode cX8_isNumber 65 = .ok (.ireturn, 1) := by decide +kernel
set_option maxRecDepth 20000 in
theorem ggX8_line_X8_isList : GoodIn wsX8_line wsX8_isList := goodIn_r _ [8, 9, 10, 11, 7, 12, 24, 25, 26, 27, 28, 29, 30, 31, 32, 33, 34, 35, 36, 37, 38, 39, 40, 41, 42, 43, 44, 45, 46, 47, 48, 49, 50, 51, 52, 53, 54, 55] (by decide +kernel) (by decide +kernel)
set_option maxRecDepth 20000 in
theorem gX8_line_X8_isList : GoodIn wsX8_line (wsV RX8 107 RX8 yX8_isList wsX8_isList) := goodIn_app (goodIn_of _ (by decide +kernel)) ggX8_line_X8_isList
set_option maxRecDepth 20000 in
theorem ggX8_line_X8_isIn : GoodIn wsX8_line wsX8_isIn := goodIn_r _ [12] (by decide +kernel) (by decide +kernel)
set_option maxRecDepth 20000 in
theorem gX8_line_X8_isIn : GoodIn wsX8_line (va_wsS RX8 96 yX8_isIn wsX8_isIn) := goodIn_app (goodIn_of _ (by decide +kernel)) ggX8_line_X8_isIn
set_option maxRecDepth 20000 in
theorem ggX8_line_X8_isThrown : GoodIn wsX8_line wsX8_isThrown := goodIn_r _ [16, 17, 24, 25, 26, 27, 28, 29, 30, 31, 32, 33, 34, 35, 36, 37, 38, 39, 40, 41, 42, 43, 44, 45, 46, 47, 48, 49, 50, 51, 52, 53, 54, 55] (by decide +kernel) (by decide +kernel)
set_option maxRecDepth 20000 in
theorem gX8_line_X8_isThrown : GoodIn wsX8_line (wsV RX8 103 RX8 yX8_isThrown wsX8_isThrown) := goodIn_app (goodIn_of _ (by decide +kernel)) ggX8_line_X8_isThrown
set_option maxRecDepth 20000 in
theorem ggX8_line_X8_isKind : GoodIn wsX8_line wsX8_isKind := goodIn_r _ [20] (by decide +kernel) (by decide +kernel)
set_option maxRecDepth 20000 in
theorem gX8_line_X8_isKind : GoodIn wsX8_line (va_wsS RX8 111 yX8_isKind wsX8_isKind) := goodIn_app (goodIn_of _ (by decide +kernel)) ggX8_line_X8_isKind
set_option maxRecDepth 20000 in
theorem ggX8_line_X8_isNumber : GoodIn wsX8_line wsX8_isNumber := goodIn_r _ [23, 10, 11, 7, 12] (by decide +kernel) (by decide +kernel)
set_option maxRecDepth 20000 in
theorem gX8_line_X8_isNumber : GoodIn wsX8_line (va_wsS RX8 115 yX8_isNumber wsX8_isNumber) := goodIn_app (goodIn_of _ (by decide +kernel)) ggX8_line_X8_isNumber
theorem dX8_line_0 : decode cX8_line 0 = .ok (.aload_n 0, 1) := by decide +kernel
theorem dX8_line_1 : decode cX8_line 1 = .ok (.aload_n 0, 1) := by decide +kernel
theorem dX8_line_2 : decode cX8_line 2 = .ok (.iload_n 1, 1) := by decide +kernel
theorem dX8_line_3 : decode cX8_line 3 = .ok (.invokevirtual 107, 3) := by decide +kernel
theorem dX8_line_6 : decode cX8_line 6 = .ok (.ifCond .eq 17, 3) := by decide +kernel
theorem dX8_line_9 : decode cX8_line 9 = .ok (.iload_n 2, 1) := by decide +kernel
theorem dX8_line_10 : decode cX8_line 10 = .ok (.iconst 0, 1) := by decide +kernel
theorem dX8_line_11 : decode cX8_line 11 = .ok (.aload_n 0, 1) := by decide +kernel
theorem dX8_line_12 : decode cX8_line 12 = .ok (.getfield 7, 3) := by decide +kernel
theorem dX8_line_15 : decode cX8_line 15 = .ok (.iload_n 1, 1) := by decide +kernel
theorem dX8_line_16 : decode cX8_line 16 = .ok (.iaload, 1) := by decide +kernel
theorem dX8_line_17 : decode cX8_line 17 = .ok (.invokestatic 96, 3) := by decide +kernel
theorem dX8_line_20 : decode cX8_line 20 = .ok (.ifCond .ne 7, 3) := by decide +kernel
theorem dX8_line_23 : decode cX8_line 23 = .ok (.iconst 1, 1) := by decide +kernel
theorem dX8_line_24 : decode cX8_line 24 = .ok (.goto 4, 3) := by decide +kernel
theorem dX8_line_27 : decode cX8_line 27 = .ok (.iconst 0, 1) := by decide +kernel
theorem dX8_line_28 : decode cX8_line 28 = .ok (.iconst 1, 1) := by decide +kernel
theorem dX8_line_29 : decode cX8_line 29 = .ok (.invokevirtual 103, 3) := by decide +kernel
theorem dX8_line_32 : decode cX8_line 32 = .ok (.ifCond .ne 56, 3) := by decide +kernel
theorem dX8_line_35 : decode cX8_line 35 = .ok (.aload_n 0, 1) := by decide +kernel
theorem dX8_line_36 : decode cX8_line 36 = .ok (.iload_n 3, 1) := by decide +kernel
theorem dX8_line_37 : decode cX8_line 37 = .ok (.invokestatic 111, 3) := by decide +kernel
theorem dX8_line_40 : decode cX8_line 40 = .ok (.ifCond .eq 12, 3) := by decide +kernel
theorem dX8_line_43 : decode cX8_line 43 = .ok (.iload_n 3, 1) := by decide +kernel
theorem dX8_line_44 : decode cX8_line 44 = .ok (.iload 4, 2) := by decide +kernel
theorem dX8_line_46 : decode cX8_line 46 = .ok (.invokestatic 115, 3) := by decide +kernel
theorem dX8_line_49 : decode cX8_line 49 = .ok (.ifCond .ne 7, 3) := by decide +kernel
theorem dX8_line_52 : decode cX8_line 52 = .ok (.iconst 1, 1) := by decide +kernel
theorem dX8_line_53 : decode cX8_line 53 = .ok (.goto 4, 3) := by decide +kernel
theorem dX8_line_56 : decode cX8_line 56 = .ok (.iconst 0, 1) := by decide +kernel
theorem dX8_line_57 : decode cX8_line 57 = .ok (.iconst 2, 1) := by decide +kernel
theorem dX8_line_58 : decode cX8_line 58 = .ok (.invokevirtual 103, 3) := by decide +kernel
theorem dX8_line_61 : decode cX8_line 61 = .ok (.ifCond .ne 27, 3) := by decide +kernel
theorem dX8_line_64 : decode cX8_line 64 = .ok (.aload_n 0, 1) := by decide +kernel
theorem dX8_line_65 : decode cX8_line 65 = .ok (.aload_n 0, 1) := by decide +kernel
theorem dX8_line_66 : decode cX8_line 66 = .ok (.getfield 7, 3) := by decide +kernel
theorem dX8_line_69 : decode cX8_line 69 = .ok (.iload_n 1, 1) := by decide +kernel
theorem dX8_line_70 : decode cX8_line 70 = .ok (.iaload, 1) := by decide +kernel
theorem dX8_line_71 : decode cX8_line 71 = .ok (.bipush 20, 2) := by decide +kernel
theorem dX8_line_73 : decode cX8_line 73 = .ok (.if_icmp .ne 7, 3) := by decide +kernel
theorem dX8_line_76 : decode cX8_line 76 = .ok (.iconst 1, 1) := by decide +kernel
theorem dX8_line_77 : decode cX8_line 77 = .ok (.goto 4, 3) := by decide +kernel
theorem dX8_line_80 : decode cX8_line 80 = .ok (.iconst 0, 1) := by decide +kernel
theorem dX8_line_81 : decode cX8_line 81 = .ok (.iconst 3, 1) := by decide +kernel
theorem dX8_line_82 : decode cX8_line 82 = .ok (.invokevirtual 103, 3) := by decide +kernel
theorem dX8_line_85 : decode cX8_line 85 = .ok (.ifCond .eq 5, 3) := by decide +kernel
theorem dX8_line_88 : decode cX8_line 88 = .ok (.iconst 0, 1) := by decide +kernel
theorem dX8_line_89 : decode cX8_line 89 = .ok (.ireturn, 1) := by decide +kernel
theorem dX8_line_90 : decode cX8_line 90 = .ok (.bipush 20, 2) := by decide +kernel
theorem dX8_line_92 : decode cX8_line 92 = .ok (.iload_n 1, 1) := by decide +kernel
theorem dX8_line_93 : decode cX8_line 93 = .ok (.imul, 1) := by decide +kernel
theorem dX8_line_94 : decode cX8_line 94 = .ok (.aload_n 0, 1) := by decide +kernel
theorem dX8_line_95 : decode cX8_line 95 = .ok (.getfield 7, 3) := by decide +kernel
theorem dX8_line_98 : decode cX8_line 98 = .ok (.iload_n 1, 1) := by decide +kernel
theorem dX8_line_99 : decode cX8_line 99 = .ok (.iaload, 1) := by decide +kernel
theorem dX8_line_100 : decode cX8_line 100 = .ok (.iadd, 1) := by decide +kernel
theorem dX8_line_101 : decode cX8_line 101 = .ok (.istore 5, 2) := by decide +kernel
theorem dX8_line_103 : decode cX8_line 103 = .ok (.iload 5, 2) := by decide +kernel
theorem dX8_line_105 : decode cX8_line 105 = .ok (.bipush 20, 2) := by decide +kernel
theorem dX8_line_107 : decode cX8_line 107 = .ok (.iload_n 1, 1) := by decide +kernel
theorem dX8_line_108 : decode cX8_line 108 = .ok (.imul, 1) := by decide +kernel
theorem dX8_line_109 : decode cX8_line 109 = .ok (.iload_n 2, 1) := by decide +kernel
theorem dX8_line_110 : decode cX8_line 110 = .ok (.iadd, 1) := by decide +kernel
theorem dX8_line_111 : decode cX8_line 111 = .ok (.if_icmp .le 41, 3) := by decide +kernel
theorem dX8_line_114 : decode cX8_line 114 = .ok (.aload_n 0, 1) := by decide +kernel
theorem dX8_line_115 : decode cX8_line 115 = .ok (.getfield 13, 3) := by decide +kernel
theorem dX8_line_118 : decode cX8_line 118 = .ok (.iload 5, 2) := by decide +kernel
theorem dX8_line_120 : decode cX8_line 120 = .ok (.aload_n 0, 1) := by decide +kernel
theorem dX8_line_121 : decode cX8_line 121 = .ok (.getfield 13, 3) := by decide +kernel
theorem dX8_line_124 : decode cX8_line 124 = .ok (.iload 5, 2) := by decide +kernel
theorem dX8_line_126 : decode cX8_line 126 = .ok (.iconst 1, 1) := by decide +kernel
theorem dX8_line_127 : decode cX8_line 127 = .ok (.isub, 1) := by decide +kernel
theorem dX8_line_128 : decode cX8_line 128 = .ok (.iaload, 1) := by decide +kernel
theorem dX8_line_129 : decode cX8_line 129 = .ok (.iastore, 1) := by decide +kernel
theorem dX8_line_130 : decode cX8_line 130 = .ok (.aload_n 0, 1) := by decide +kernel
theorem dX8_line_131 : decode cX8_line 131 = .ok (.getfield 16, 3) := by decide +kernel
theorem dX8_line_134 : decode cX8_line 134 = .ok (.iload 5, 2) := by decide +kernel
theorem dX8_line_136 : decode cX8_line 136 = .ok (.aload_n 0, 1) := by decide +kernel
theorem dX8_line_137 : decode cX8_line 137 = .ok (.getfield 16, 3) := by decide +kernel
theorem dX8_line_140 : decode cX8_line 140 = .ok (.iload 5, 2) := by decide +kernel
theorem dX8_line_142 : decode cX8_line 142 = .ok (.iconst 1, 1) := by decide +kernel
theorem dX8_line_143 : decode cX8_line 143 = .ok (.isub, 1) := by decide +kernel
theorem dX8_line_144 : decode cX8_line 144 = .ok (.iaload, 1) := by decide +kernel
theorem dX8_line_145 : decode cX8_line 145 = .ok (.iastore, 1) := by decide +kernel
theorem dX8_line_146 : decode cX8_line 146 = .ok (.iinc 5 (-1), 3) := by decide +kernel
theorem dX8_line_149 : decode cX8_line 149 = .ok (.goto (-46), 3) := by decide +kernel
theorem dX8_line_152 : decode cX8_line 152 = .ok (.aload_n 0, 1) := by decide +kernel
theorem dX8_line_153 : decode cX8_line 153 = .ok (.getfield 13, 3) := by decide +kernel
theorem dX8_line_156 : decode cX8_line 156 = .ok (.bipush 20, 2) := by decide +kernel
theorem dX8_line_158 : decode cX8_line 158 = .ok (.iload_n 1, 1) := by decide +kernel
theorem dX8_line_159 : decode cX8_line 159 = .ok (.imul, 1) := by decide +kernel
theorem dX8_line_160 : decode cX8_line 160 = .ok (.iload_n 2, 1) := by decide +kernel
theorem dX8_line_161 : decode cX8_line 161 = .ok (.iadd, 1) := by decide +kernel
theorem dX8_line_162 : decode cX8_line 162 = .ok (.iload_n 3, 1) := by decide +kernel
theorem dX8_line_163 : decode cX8_line 163 = .ok (.iastore, 1) := by decide +kernel
theorem dX8_line_164 : decode cX8_line 164 = .ok (.aload_n 0, 1) := by decide +kernel
theorem dX8_line_165 : decode cX8_line 165 = .ok (.getfield 16, 3) := by decide +kernel
theorem dX8_line_168 : decode cX8_line 168 = .ok (.bipush 20, 2) := by decide +kernel
theorem dX8_line_170 : decode cX8_line 170 = .ok (.iload_n 1, 1) := by decide +kernel
theorem dX8_line_171 : decode cX8_line 171 = .ok (.imul, 1) := by decide +kernel
theorem dX8_line_172 : decode cX8_line 172 = .ok (.iload_n 2, 1) := by decide +kernel
theorem dX8_line_173 : decode cX8_line 173 = .ok (.iadd, 1) := by decide +kernel
theorem dX8_line_174 : decode cX8_line 174 = .ok (.iload 4, 2) := by decide +kernel
theorem dX8_line_176 : decode cX8_line 176 = .ok (.iastore, 1) := by decide +kernel
theorem dX8_line_177 : decode cX8_line 177 = .ok (.aload_n 0, 1) := by decide +kernel
theorem dX8_line_178 : decode cX8_line 178 = .ok (.getfield 7, 3) := by decide +kernel
theorem dX8_line_181 : decode cX8_line 181 = .ok (.iload_n 1, 1) := by decide +kernel
theorem dX8_line_182 : decode cX8_line 182 = .ok (.dup2, 1) := by decide +kernel
theorem dX8_line_183 : decode cX8_line 183 = .ok (.iaload, 1) := by decide +kernel
theorem dX8_line_184 : decode cX8_line 184 = .ok (.iconst 1, 1) := by decide +kernel
theorem dX8_line_185 : decode cX8_line 185 = .ok (.iadd, 1) := by decide +kernel
theorem dX8_line_186 : decode cX8_line 186 = .ok (.iastore, 1) := by decide +kernel
theorem dX8_line_187 : decode cX8_line 187 = .ok (.aload_n 0, 1) := by decide +kernel
theorem dX8_line_188 : decode cX8_line 188 = .ok (.getfield 7, 3) := by decide +kernel
theorem dX8_line_191 : decode cX8_line 191 = .ok (.iload_n 1, 1) := by decide +kernel
theorem dX8_line_192 : decode cX8_line 192 = .ok (.iaload, 1) := by decide +kernel
theorem dX8_line_193 : decode cX8_line 193 = .ok (.ireturn, 1) := by decide +kernel
set_option maxRecDepth 20000 in
theorem ggX8_cut_X8_isList : GoodIn wsX8_cut wsX8_isList := goodIn_r _ [8, 9, 10, 11, 7, 12, 18, 19, 20, 21, 22, 23, 24, 25, 26, 27, 28, 29, 30, 31, 32, 33, 34, 35, 36, 37, 38, 39, 40, 41, 42, 43, 44, 45, 46, 47, 48, 49] (by decide +kernel) (by decide +kernel)
set_option maxRecDepth 20000 in
theorem gX8_cut_X8_isList : GoodIn wsX8_cut (wsV RX8 107 RX8 yX8_isList wsX8_isList) := goodIn_app (goodIn_of _ (by decide +kernel)) ggX8_cut_X8_isList
set_option maxRecDepth 20000 in
theorem ggX8_cut_X8_isIn : GoodIn wsX8_cut wsX8_isIn := goodIn_r _ [12] (by decide +kernel) (by decide +kernel)
set_option maxRecDepth 20000 in
theorem gX8_cut_X8_isIn : GoodIn wsX8_cut (va_wsS RX8 96 yX8_isIn wsX8_isIn) := goodIn_app (goodIn_of _ (by decide +kernel)) ggX8_cut_X8_isIn
set_option maxRecDepth 20000 in
theorem ggX8_cut_X8_isThrown : GoodIn wsX8_cut wsX8_isThrown := goodIn_r _ [16, 17, 18, 19, 20, 21, 22, 23, 24, 25, 26, 27, 28, 29, 30, 31, 32, 33, 34, 35, 36, 37, 38, 39, 40, 41, 42, 43, 44, 45, 46, 47, 48, 49] (by decide +kernel) (by decide +kernel)
set_option maxRecDepth 20000 in
theorem gX8_cut_X8_isThrown : GoodIn wsX8_cut (wsV RX8 103 RX8 yX8_isThrown wsX8_isThrown) := goodIn_app (goodIn_of _ (by decide +kernel)) ggX8_cut_X8_isThrown
theorem dX8_cut_0 : decode cX8_cut 0 = .ok (.aload_n 0, 1) := by decide +kernel
theorem dX8_cut_1 : decode cX8_cut 1 = .ok (.aload_n 0, 1) := by decide +kernel
theorem dX8_cut_2 : decode cX8_cut 2 = .ok (.iload_n 1, 1) := by decide +kernel
theorem dX8_cut_3 : decode cX8_cut 3 = .ok (.invokevirtual 107, 3) := by decide +kernel
theorem dX8_cut_6 : decode cX8_cut 6 = .ok (.ifCond .eq 19, 3) := by decide +kernel
theorem dX8_cut_9 : decode cX8_cut 9 = .ok (.iload_n 2, 1) := by decide +kernel
theorem dX8_cut_10 : decode cX8_cut 10 = .ok (.iconst 0, 1) := by decide +kernel
theorem dX8_cut_11 : decode cX8_cut 11 = .ok (.aload_n 0, 1) := by decide +kernel
theorem dX8_cut_12 : decode cX8_cut 12 = .ok (.getfield 7, 3) := by decide +kernel
theorem dX8_cut_15 : decode cX8_cut 15 = .ok (.iload_n 1, 1) := by decide +kernel
theorem dX8_cut_16 : decode cX8_cut 16 = .ok (.iaload, 1) := by decide +kernel
theorem dX8_cut_17 : decode cX8_cut 17 = .ok (.iconst 1, 1) := by decide +kernel
theorem dX8_cut_18 : decode cX8_cut 18 = .ok (.isub, 1) := by decide +kernel
theorem dX8_cut_19 : decode cX8_cut 19 = .ok (.invokestatic 96, 3) := by decide +kernel
theorem dX8_cut_22 : decode cX8_cut 22 = .ok (.ifCond .ne 7, 3) := by decide +kernel
theorem dX8_cut_25 : decode cX8_cut 25 = .ok (.iconst 1, 1) := by decide +kernel
theorem dX8_cut_26 : decode cX8_cut 26 = .ok (.goto 4, 3) := by decide +kernel
theorem dX8_cut_29 : decode cX8_cut 29 = .ok (.iconst 0, 1) := by decide +kernel
theorem dX8_cut_30 : decode cX8_cut 30 = .ok (.iconst 1, 1) := by decide +kernel
theorem dX8_cut_31 : decode cX8_cut 31 = .ok (.invokevirtual 103, 3) := by decide +kernel
theorem dX8_cut_34 : decode cX8_cut 34 = .ok (.ifCond .eq 6, 3) := by decide +kernel
theorem dX8_cut_37 : decode cX8_cut 37 = .ok (.bipush 45, 2) := by decide +kernel
theorem dX8_cut_39 : decode cX8_cut 39 = .ok (.ireturn, 1) := by decide +kernel
theorem dX8_cut_40 : decode cX8_cut 40 = .ok (.aload_n 0, 1) := by decide +kernel
theorem dX8_cut_41 : decode cX8_cut 41 = .ok (.getfield 13, 3) := by decide +kernel
theorem dX8_cut_44 : decode cX8_cut 44 = .ok (.bipush 20, 2) := by decide +kernel
theorem dX8_cut_46 : decode cX8_cut 46 = .ok (.iload_n 1, 1) := by decide +kernel
theorem dX8_cut_47 : decode cX8_cut 47 = .ok (.imul, 1) := by decide +kernel
theorem dX8_cut_48 : decode cX8_cut 48 = .ok (.iload_n 2, 1) := by decide +kernel
theorem dX8_cut_49 : decode cX8_cut 49 = .ok (.iadd, 1) := by decide +kernel
theorem dX8_cut_50 : decode cX8_cut 50 = .ok (.iaload, 1) := by decide +kernel
theorem dX8_cut_51 : decode cX8_cut 51 = .ok (.i2c, 1) := by decide +kernel
theorem dX8_cut_52 : decode cX8_cut 52 = .ok (.istore_n 3, 1) := by decide +kernel
theorem dX8_cut_53 : decode cX8_cut 53 = .ok (.aload_n 0, 1) := by decide +kernel
theorem dX8_cut_54 : decode cX8_cut 54 = .ok (.getfield 7, 3) := by decide +kernel
theorem dX8_cut_57 : decode cX8_cut 57 = .ok (.iload_n 1, 1) := by decide +kernel
theorem dX8_cut_58 : decode cX8_cut 58 = .ok (.dup2, 1) := by decide +kernel
theorem dX8_cut_59 : decode cX8_cut 59 = .ok (.iaload, 1) := by decide +kernel
theorem dX8_cut_60 : decode cX8_cut 60 = .ok (.iconst 1, 1) := by decide +kernel
theorem dX8_cut_61 : decode cX8_cut 61 = .ok (.isub, 1) := by decide +kernel
theorem dX8_cut_62 : decode cX8_cut 62 = .ok (.iastore, 1) := by decide +kernel
theorem dX8_cut_63 : decode cX8_cut 63 = .ok (.bipush 20, 2) := by decide +kernel
theorem dX8_cut_65 : decode cX8_cut 65 = .ok (.iload_n 1, 1) := by decide +kernel
theorem dX8_cut_66 : decode cX8_cut 66 = .ok (.imul, 1) := by decide +kernel
theorem dX8_cut_67 : decode cX8_cut 67 = .ok (.iload_n 2, 1) := by decide +kernel
theorem dX8_cut_68 : decode cX8_cut 68 = .ok (.iadd, 1) := by decide +kernel
theorem dX8_cut_69 : decode cX8_cut 69 = .ok (.istore 4, 2) := by decide +kernel
theorem dX8_cut_71 : decode cX8_cut 71 = .ok (.iload 4, 2) := by decide +kernel
theorem dX8_cut_73 : decode cX8_cut 73 = .ok (.bipush 20, 2) := by decide +kernel
theorem dX8_cut_75 : decode cX8_cut 75 = .ok (.iload_n 1, 1) := by decide +kernel
theorem dX8_cut_76 : decode cX8_cut 76 = .ok (.imul, 1) := by decide +kernel
theorem dX8_cut_77 : decode cX8_cut 77 = .ok (.aload_n 0, 1) := by decide +kernel
theorem dX8_cut_78 : decode cX8_cut 78 = .ok (.getfield 7, 3) := by decide +kernel
theorem dX8_cut_81 : decode cX8_cut 81 = .ok (.iload_n 1, 1) := by decide +kernel
theorem dX8_cut_82 : decode cX8_cut 82 = .ok (.iaload, 1) := by decide +kernel
theorem dX8_cut_83 : decode cX8_cut 83 = .ok (.iadd, 1) := by decide +kernel
theorem dX8_cut_84 : decode cX8_cut 84 = .ok (.if_icmp .ge 41, 3) := by decide +kernel
theorem dX8_cut_87 : decode cX8_cut 87 = .ok (.aload_n 0, 1) := by decide +kernel
theorem dX8_cut_88 : decode cX8_cut 88 = .ok (.getfield 13, 3) := by decide +kernel
theorem dX8_cut_91 : decode cX8_cut 91 = .ok (.iload 4, 2) := by decide +kernel
theorem dX8_cut_93 : decode cX8_cut 93 = .ok (.aload_n 0, 1) := by decide +kernel
theorem dX8_cut_94 : decode cX8_cut 94 = .ok (.getfield 13, 3) := by decide +kernel
theorem dX8_cut_97 : decode cX8_cut 97 = .ok (.iload 4, 2) := by decide +kernel
theorem dX8_cut_99 : decode cX8_cut 99 = .ok (.iconst 1, 1) := by decide +kernel
theorem dX8_cut_100 : decode cX8_cut 100 = .ok (.iadd, 1) := by decide +kernel
theorem dX8_cut_101 : decode cX8_cut 101 = .ok (.iaload, 1) := by decide +kernel
theorem dX8_cut_102 : decode cX8_cut 102 = .ok (.iastore, 1) := by decide +kernel
theorem dX8_cut_103 : decode cX8_cut 103 = .ok (.aload_n 0, 1) := by decide +kernel
theorem dX8_cut_104 : decode cX8_cut 104 = .ok (.getfield 16, 3) := by decide +kernel
theorem dX8_cut_107 : decode cX8_cut 107 = .ok (.iload 4, 2) := by decide +kernel
theorem dX8_cut_109 : decode cX8_cut 109 = .ok (.aload_n 0, 1) := by decide +kernel
theorem dX8_cut_110 : decode cX8_cut 110 = .ok (.getfield 16, 3) := by decide +kernel
theorem dX8_cut_113 : decode cX8_cut 113 = .ok (.iload 4, 2) := by decide +kernel
theorem dX8_cut_115 : decode cX8_cut 115 = .ok (.iconst 1, 1) := by decide +kernel
theorem dX8_cut_116 : decode cX8_cut 116 = .ok (.iadd, 1) := by decide +kernel
theorem dX8_cut_117 : decode cX8_cut 117 = .ok (.iaload, 1) := by decide +kernel
theorem dX8_cut_118 : decode cX8_cut 118 = .ok (.iastore, 1) := by decide +kernel
theorem dX8_cut_119 : decode cX8_cut 119 = .ok (.iinc 4 1, 3) := by decide +kernel
theorem dX8_cut_122 : decode cX8_cut 122 = .ok (.goto (-51), 3) := by decide +kernel
theorem dX8_cut_125 : decode cX8_cut 125 = .ok (.iload_n 3, 1) := by decide +kernel
theorem dX8_cut_126 : decode cX8_cut 126 = .ok (.ireturn, 1) := by decide +kernel
set_option maxRecDepth 20000 in
theorem ggX8_lines_X8_isList : GoodIn wsX8_lines wsX8_isList := goodIn_r _ [7, 8, 9, 10, 6, 11, 20, 21, 22, 23, 24, 25, 26, 27, 28, 29, 30, 31, 32, 33, 34, 35, 36, 37, 38, 39, 40, 41, 42, 43, 44, 45, 46, 47, 48, 49, 50, 51] (by decide +kernel) (by decide +kernel)
set_option maxRecDepth 20000 in
theorem gX8_lines_X8_isList : GoodIn wsX8_lines (wsV RX8 107 RX8 yX8_isList wsX8_isList) := goodIn_app (goodIn_of _ (by decide +kernel)) ggX8_lines_X8_isList
set_option maxRecDepth 20000 in
theorem ggX8_lines_X8_isThrown : GoodIn wsX8_lines wsX8_isThrown := goodIn_r _ [15, 16, 20, 21, 22, 23, 24, 25, 26, 27, 28, 29, 30, 31, 32, 33, 34, 35, 36, 37, 38, 39, 40, 41, 42, 43, 44, 45, 46, 47, 48, 49, 50, 51] (by decide +kernel) (by decide +kernel)
set_option maxRecDepth 20000 in
theorem gX8_lines_X8_isThrown : GoodIn wsX8_lines (wsV RX8 103 RX8 yX8_isThrown wsX8_isThrown) := goodIn_app (goodIn_of _ (by decide +kernel)) ggX8_lines_X8_isThrown
set_option maxRecDepth 20000 in
theorem ggX8_lines_X8_isKind : GoodIn wsX8_lines wsX8_isKind := goodIn_r _ [19] (by decide +kernel) (by decide +kernel)
set_option maxRecDepth 20000 in
theorem gX8_lines_X8_isKind : GoodIn wsX8_lines (va_wsS RX8 111 yX8_isKind wsX8_isKind) := goodIn_app (goodIn_of _ (by decide +kernel)) ggX8_lines_X8_isKind
theorem dX8_lines_0 : decode cX8_lines 0 = .ok (.aload_n 0, 1) := by decide +kernel
theorem dX8_lines_1 : decode cX8_lines 1 = .ok (.aload_n 0, 1) := by decide +kernel
theorem dX8_lines_2 : decode cX8_lines 2 = .ok (.iload_n 1, 1) := by decide +kernel
theorem dX8_lines_3 : decode cX8_lines 3 = .ok (.invokevirtual 107, 3) := by decide +kernel
theorem dX8_lines_6 : decode cX8_lines 6 = .ok (.ifCond .ne 7, 3) := by decide +kernel
theorem dX8_lines_9 : decode cX8_lines 9 = .ok (.iconst 1, 1) := by decide +kernel
theorem dX8_lines_10 : decode cX8_lines 10 = .ok (.goto 4, 3) := by decide +kernel
theorem dX8_lines_13 : decode cX8_lines 13 = .ok (.iconst 0, 1) := by decide +kernel
theorem dX8_lines_14 : decode cX8_lines 14 = .ok (.iconst 1, 1) := by decide +kernel
theorem dX8_lines_15 : decode cX8_lines 15 = .ok (.invokevirtual 103, 3) := by decide +kernel
theorem dX8_lines_18 : decode cX8_lines 18 = .ok (.ifCond .ne 23, 3) := by decide +kernel
theorem dX8_lines_21 : decode cX8_lines 21 = .ok (.aload_n 0, 1) := by decide +kernel
theorem dX8_lines_22 : decode cX8_lines 22 = .ok (.iload_n 2, 1) := by decide +kernel
theorem dX8_lines_23 : decode cX8_lines 23 = .ok (.invokestatic 111, 3) := by decide +kernel
theorem dX8_lines_26 : decode cX8_lines 26 = .ok (.ifCond .ne 7, 3) := by decide +kernel
theorem dX8_lines_29 : decode cX8_lines 29 = .ok (.iconst 1, 1) := by decide +kernel
theorem dX8_lines_30 : decode cX8_lines 30 = .ok (.goto 4, 3) := by decide +kernel
theorem dX8_lines_33 : decode cX8_lines 33 = .ok (.iconst 0, 1) := by decide +kernel
theorem dX8_lines_34 : decode cX8_lines 34 = .ok (.iconst 2, 1) := by decide +kernel
theorem dX8_lines_35 : decode cX8_lines 35 = .ok (.invokevirtual 103, 3) := by decide +kernel
theorem dX8_lines_38 : decode cX8_lines 38 = .ok (.ifCond .eq 5, 3) := by decide +kernel
theorem dX8_lines_41 : decode cX8_lines 41 = .ok (.iconst 0, 1) := by decide +kernel
theorem dX8_lines_42 : decode cX8_lines 42 = .ok (.ireturn, 1) := by decide +kernel
theorem dX8_lines_43 : decode cX8_lines 43 = .ok (.iconst 0, 1) := by decide +kernel
theorem dX8_lines_44 : decode cX8_lines 44 = .ok (.istore_n 3, 1) := by decide +kernel
theorem dX8_lines_45 : decode cX8_lines 45 = .ok (.iconst 0, 1) := by decide +kernel
theorem dX8_lines_46 : decode cX8_lines 46 = .ok (.istore 4, 2) := by decide +kernel
theorem dX8_lines_48 : decode cX8_lines 48 = .ok (.iload 4, 2) := by decide +kernel
theorem dX8_lines_50 : decode cX8_lines 50 = .ok (.aload_n 0, 1) := by decide +kernel
theorem dX8_lines_51 : decode cX8_lines 51 = .ok (.getfield 7, 3) := by decide +kernel
theorem dX8_lines_54 : decode cX8_lines 54 = .ok (.iload_n 1, 1) := by decide +kernel
theorem dX8_lines_55 : decode cX8_lines 55 = .ok (.iaload, 1) := by decide +kernel
theorem dX8_lines_56 : decode cX8_lines 56 = .ok (.if_icmp .ge 33, 3) := by decide +kernel
theorem dX8_lines_59 : decode cX8_lines 59 = .ok (.iload_n 3, 1) := by decide +kernel
theorem dX8_lines_60 : decode cX8_lines 60 = .ok (.aload_n 0, 1) := by decide +kernel
theorem dX8_lines_61 : decode cX8_lines 61 = .ok (.getfield 13, 3) := by decide +kernel
theorem dX8_lines_64 : decode cX8_lines 64 = .ok (.bipush 20, 2) := by decide +kernel
theorem dX8_lines_66 : decode cX8_lines 66 = .ok (.iload_n 1, 1) := by decide +kernel
theorem dX8_lines_67 : decode cX8_lines 67 = .ok (.imul, 1) := by decide +kernel
theorem dX8_lines_68 : decode cX8_lines 68 = .ok (.iload 4, 2) := by decide +kernel
theorem dX8_lines_70 : decode cX8_lines 70 = .ok (.iadd, 1) := by decide +kernel
theorem dX8_lines_71 : decode cX8_lines 71 = .ok (.iaload, 1) := by decide +kernel
theorem dX8_lines_72 : decode cX8_lines 72 = .ok (.iload_n 2, 1) := by decide +kernel
theorem dX8_lines_73 : decode cX8_lines 73 = .ok (.if_icmp .ne 7, 3) := by decide +kernel
theorem dX8_lines_76 : decode cX8_lines 76 = .ok (.iconst 1, 1) := by decide +kernel
theorem dX8_lines_77 : decode cX8_lines 77 = .ok (.goto 4, 3) := by decide +kernel
theorem dX8_lines_80 : decode cX8_lines 80 = .ok (.iconst 0, 1) := by decide +kernel
theorem dX8_lines_81 : decode cX8_lines 81 = .ok (.iadd, 1) := by decide +kernel
theorem dX8_lines_82 : decode cX8_lines 82 = .ok (.istore_n 3, 1) := by decide +kernel
theorem dX8_lines_83 : decode cX8_lines 83 = .ok (.iinc 4 1, 3) := by decide +kernel
theorem dX8_lines_86 : decode cX8_lines 86 = .ok (.goto (-38), 3) := by decide +kernel
theorem dX8_lines_89 : decode cX8_lines 89 = .ok (.iload_n 3, 1) := by decide +kernel
theorem dX8_lines_90 : decode cX8_lines 90 = .ok (.ireturn, 1) := by decide +kernel
theorem dX8_copies_0 : decode cX8_copies 0 = .ok (.aload_n 0, 1) := by decide +kernel
theorem dX8_copies_1 : decode cX8_copies 1 = .ok (.getfield 28, 3) := by decide +kernel
theorem dX8_copies_4 : decode cX8_copies 4 = .ok (.iload_n 2, 1) := by decide +kernel
theorem dX8_copies_5 : decode cX8_copies 5 = .ok (.iload_n 1, 1) := by decide +kernel
theorem dX8_copies_6 : decode cX8_copies 6 = .ok (.iastore, 1) := by decide +kernel
theorem dX8_copies_7 : decode cX8_copies 7 = .ok (.aload_n 0, 1) := by decide +kernel
theorem dX8_copies_8 : decode cX8_copies 8 = .ok (.getfield 31, 3) := by decide +kernel
theorem dX8_copies_11 : decode cX8_copies 11 = .ok (.iload_n 2, 1) := by decide +kernel
theorem dX8_copies_12 : decode cX8_copies 12 = .ok (.iconst 0, 1) := by decide +kernel
theorem dX8_copies_13 : decode cX8_copies 13 = .ok (.iastore, 1) := by decide +kernel
theorem dX8_copies_14 : decode cX8_copies 14 = .ok (.aload_n 0, 1) := by decide +kernel
theorem dX8_copies_15 : decode cX8_copies 15 = .ok (.getfield 19, 3) := by decide +kernel
theorem dX8_copies_18 : decode cX8_copies 18 = .ok (.iload_n 2, 1) := by decide +kernel
theorem dX8_copies_19 : decode cX8_copies 19 = .ok (.aload_n 0, 1) := by decide +kernel
theorem dX8_copies_20 : decode cX8_copies 20 = .ok (.getfield 7, 3) := by decide +kernel
theorem dX8_copies_23 : decode cX8_copies 23 = .ok (.iload_n 1, 1) := by decide +kernel
theorem dX8_copies_24 : decode cX8_copies 24 = .ok (.iaload, 1) := by decide +kernel
theorem dX8_copies_25 : decode cX8_copies 25 = .ok (.iastore, 1) := by decide +kernel
theorem dX8_copies_26 : decode cX8_copies 26 = .ok (.iconst 0, 1) := by decide +kernel
theorem dX8_copies_27 : decode cX8_copies 27 = .ok (.istore_n 3, 1) := by decide +kernel
theorem dX8_copies_28 : decode cX8_copies 28 = .ok (.iload_n 3, 1) := by decide +kernel
theorem dX8_copies_29 : decode cX8_copies 29 = .ok (.aload_n 0, 1) := by decide +kernel
theorem dX8_copies_30 : decode cX8_copies 30 = .ok (.getfield 7, 3) := by decide +kernel
theorem dX8_copies_33 : decode cX8_copies 33 = .ok (.iload_n 1, 1) := by decide +kernel
theorem dX8_copies_34 : decode cX8_copies 34 = .ok (.iaload, 1) := by decide +kernel
theorem dX8_copies_35 : decode cX8_copies 35 = .ok (.if_icmp .ge 53, 3) := by decide +kernel
theorem dX8_copies_38 : decode cX8_copies 38 = .ok (.aload_n 0, 1) := by decide +kernel
theorem dX8_copies_39 : decode cX8_copies 39 = .ok (.getfield 22, 3) := by decide +kernel
theorem dX8_copies_42 : decode cX8_copies 42 = .ok (.bipush 20, 2) := by decide +kernel
theorem dX8_copies_44 : decode cX8_copies 44 = .ok (.iload_n 2, 1) := by decide +kernel
theorem dX8_copies_45 : decode cX8_copies 45 = .ok (.imul, 1) := by decide +kernel
theorem dX8_copies_46 : decode cX8_copies 46 = .ok (.iload_n 3, 1) := by decide +kernel
theorem dX8_copies_47 : decode cX8_copies 47 = .ok (.iadd, 1) := by decide +kernel
theorem dX8_copies_48 : decode cX8_copies 48 = .ok (.aload_n 0, 1) := by decide +kernel
theorem dX8_copies_49 : decode cX8_copies 49 = .ok (.getfield 13, 3) := by decide +kernel
theorem dX8_copies_52 : decode cX8_copies 52 = .ok (.bipush 20, 2) := by decide +kernel
theorem dX8_copies_54 : decode cX8_copies 54 = .ok (.iload_n 1, 1) := by decide +kernel
theorem dX8_copies_55 : decode cX8_copies 55 = .ok (.imul, 1) := by decide +kernel
theorem dX8_copies_56 : decode cX8_copies 56 = .ok (.iload_n 3, 1) := by decide +kernel
theorem dX8_copies_57 : decode cX8_copies 57 = .ok (.iadd, 1) := by decide +kernel
theorem dX8_copies_58 : decode cX8_copies 58 = .ok (.iaload, 1) := by decide +kernel
theorem dX8_copies_59 : decode cX8_copies 59 = .ok (.iastore, 1) := by decide +kernel
theorem dX8_copies_60 : decode cX8_copies 60 = .ok (.aload_n 0, 1) := by decide +kernel
theorem dX8_copies_61 : decode cX8_copies 61 = .ok (.getfield 25, 3) := by decide +kernel
theorem dX8_copies_64 : decode cX8_copies 64 = .ok (.bipush 20, 2) := by decide +kernel
theorem dX8_copies_66 : decode cX8_copies 66 = .ok (.iload_n 2, 1) := by decide +kernel
theorem dX8_copies_67 : decode cX8_copies 67 = .ok (.imul, 1) := by decide +kernel
theorem dX8_copies_68 : decode cX8_copies 68 = .ok (.iload_n 3, 1) := by decide +kernel
theorem dX8_copies_69 : decode cX8_copies 69 = .ok (.iadd, 1) := by decide +kernel
theorem dX8_copies_70 : decode cX8_copies 70 = .ok (.aload_n 0, 1) := by decide +kernel
theorem dX8_copies_71 : decode cX8_copies 71 = .ok (.getfield 16, 3) := by decide +kernel
theorem dX8_copies_74 : decode cX8_copies 74 = .ok (.bipush 20, 2) := by decide +kernel
theorem dX8_copies_76 : decode cX8_copies 76 = .ok (.iload_n 1, 1) := by decide +kernel
theorem dX8_copies_77 : decode cX8_copies 77 = .ok (.imul, 1) := by decide +kernel
theorem dX8_copies_78 : decode cX8_copies 78 = .ok (.iload_n 3, 1) := by decide +kernel
theorem dX8_copies_79 : decode cX8_copies 79 = .ok (.iadd, 1) := by decide +kernel
theorem dX8_copies_80 : decode cX8_copies 80 = .ok (.iaload, 1) := by decide +kernel
theorem dX8_copies_81 : decode cX8_copies 81 = .ok (.iastore, 1) := by decide +kernel
theorem dX8_copies_82 : decode cX8_copies 82 = .ok (.iinc 3 1, 3) := by decide +kernel
theorem dX8_copies_85 : decode cX8_copies 85 = .ok (.goto (-57), 3) := by decide +kernel
theorem dX8_copies_88 : decode cX8_copies 88 = .ok (.return_, 1) := by decide +kernel
set_option maxRecDepth 20000 in
theorem ggX8_kiosk_X8_isThrown : GoodIn wsX8_kiosk wsX8_isThrown := goodIn_r _ [6, 7, 8, 9, 10, 11, 12, 13, 14, 15, 16, 17, 18, 19, 20, 21, 22, 23, 24, 25, 26, 27, 28, 29, 30, 31, 32, 33, 34, 35, 36, 37, 38, 39] (by decide +kernel) (by decide +kernel)
set_option maxRecDepth 20000 in
theorem gX8_kiosk_X8_isThrown : GoodIn wsX8_kiosk (wsV RX8 103 RX8 yX8_isThrown wsX8_isThrown) := goodIn_app (goodIn_of _ (by decide +kernel)) ggX8_kiosk_X8_isThrown
theorem dX8_kiosk_0 : decode cX8_kiosk 0 = .ok (.aload_n 0, 1) := by decide +kernel
theorem dX8_kiosk_1 : decode cX8_kiosk 1 = .ok (.aload_n 0, 1) := by decide +kernel
theorem dX8_kiosk_2 : decode cX8_kiosk 2 = .ok (.getfield 100, 3) := by decide +kernel
theorem dX8_kiosk_5 : decode cX8_kiosk 5 = .ok (.bipush 6, 2) := by decide +kernel
theorem dX8_kiosk_7 : decode cX8_kiosk 7 = .ok (.if_icmp .ne 7, 3) := by decide +kernel
theorem dX8_kiosk_10 : decode cX8_kiosk 10 = .ok (.iconst 1, 1) := by decide +kernel
theorem dX8_kiosk_11 : decode cX8_kiosk 11 = .ok (.goto 4, 3) := by decide +kernel
theorem dX8_kiosk_14 : decode cX8_kiosk 14 = .ok (.iconst 0, 1) := by decide +kernel
theorem dX8_kiosk_15 : decode cX8_kiosk 15 = .ok (.iconst 1, 1) := by decide +kernel
theorem dX8_kiosk_16 : decode cX8_kiosk 16 = .ok (.invokevirtual 103, 3) := by decide +kernel
theorem dX8_kiosk_19 : decode cX8_kiosk 19 = .ok (.ifCond .eq 5, 3) := by decide +kernel
theorem dX8_kiosk_22 : decode cX8_kiosk 22 = .ok (.iconst 0, 1) := by decide +kernel
theorem dX8_kiosk_23 : decode cX8_kiosk 23 = .ok (.ireturn, 1) := by decide +kernel
theorem dX8_kiosk_24 : decode cX8_kiosk 24 = .ok (.aload_n 0, 1) := by decide +kernel
theorem dX8_kiosk_25 : decode cX8_kiosk 25 = .ok (.dup, 1) := by decide +kernel
theorem dX8_kiosk_26 : decode cX8_kiosk 26 = .ok (.getfield 100, 3) := by decide +kernel
theorem dX8_kiosk_29 : decode cX8_kiosk 29 = .ok (.iconst 1, 1) := by decide +kernel
theorem dX8_kiosk_30 : decode cX8_kiosk 30 = .ok (.iadd, 1) := by decide +kernel
theorem dX8_kiosk_31 : decode cX8_kiosk 31 = .ok (.putfield 100, 3) := by decide +kernel
theorem dX8_kiosk_34 : decode cX8_kiosk 34 = .ok (.aload_n 0, 1) := by decide +kernel
theorem dX8_kiosk_35 : decode cX8_kiosk 35 = .ok (.getfield 100, 3) := by decide +kernel
theorem dX8_kiosk_38 : decode cX8_kiosk 38 = .ok (.iconst 1, 1) := by decide +kernel
theorem dX8_kiosk_39 : decode cX8_kiosk 39 = .ok (.isub, 1) := by decide +kernel
theorem dX8_kiosk_40 : decode cX8_kiosk 40 = .ok (.ireturn, 1) := by decide +kernel
set_option maxRecDepth 20000 in
theorem ggX8_nearest_X8_apart : GoodIn wsX8_nearest wsX8_apart := goodIn_r _ [6] (by decide +kernel) (by decide +kernel)
set_option maxRecDepth 20000 in
theorem gX8_nearest_X8_apart : GoodIn wsX8_nearest (va_wsS RX8 119 yX8_apart wsX8_apart) := goodIn_app (goodIn_of _ (by decide +kernel)) ggX8_nearest_X8_apart
theorem dX8_nearest_0 : decode cX8_nearest 0 = .ok (.iconst (-1), 1) := by decide +kernel
theorem dX8_nearest_1 : decode cX8_nearest 1 = .ok (.istore_n 2, 1) := by decide +kernel
theorem dX8_nearest_2 : decode cX8_nearest 2 = .ok (.iconst 0, 1) := by decide +kernel
theorem dX8_nearest_3 : decode cX8_nearest 3 = .ok (.istore_n 3, 1) := by decide +kernel
theorem dX8_nearest_4 : decode cX8_nearest 4 = .ok (.iload_n 3, 1) := by decide +kernel
theorem dX8_nearest_5 : decode cX8_nearest 5 = .ok (.aload_n 0, 1) := by decide +kernel
theorem dX8_nearest_6 : decode cX8_nearest 6 = .ok (.getfield 100, 3) := by decide +kernel
theorem dX8_nearest_9 : decode cX8_nearest 9 = .ok (.if_icmp .ge 41, 3) := by decide +kernel
theorem dX8_nearest_12 : decode cX8_nearest 12 = .ok (.aload_n 0, 1) := by decide +kernel
theorem dX8_nearest_13 : decode cX8_nearest 13 = .ok (.getfield 41, 3) := by decide +kernel
theorem dX8_nearest_16 : decode cX8_nearest 16 = .ok (.iload_n 3, 1) := by decide +kernel
theorem dX8_nearest_17 : decode cX8_nearest 17 = .ok (.baload, 1) := by decide +kernel
theorem dX8_nearest_18 : decode cX8_nearest 18 = .ok (.ifCond .ne 24, 3) := by decide +kernel
theorem dX8_nearest_21 : decode cX8_nearest 21 = .ok (.iload_n 2, 1) := by decide +kernel
theorem dX8_nearest_22 : decode cX8_nearest 22 = .ok (.ifCond .lt 16, 3) := by decide +kernel
theorem dX8_nearest_25 : decode cX8_nearest 25 = .ok (.iload_n 3, 1) := by decide +kernel
theorem dX8_nearest_26 : decode cX8_nearest 26 = .ok (.iload_n 1, 1) := by decide +kernel
theorem dX8_nearest_27 : decode cX8_nearest 27 = .ok (.invokestatic 119, 3) := by decide +kernel
theorem dX8_nearest_30 : decode cX8_nearest 30 = .ok (.iload_n 2, 1) := by decide +kernel
theorem dX8_nearest_31 : decode cX8_nearest 31 = .ok (.iload_n 1, 1) := by decide +kernel
theorem dX8_nearest_32 : decode cX8_nearest 32 = .ok (.invokestatic 119, 3) := by decide +kernel
theorem dX8_nearest_35 : decode cX8_nearest 35 = .ok (.if_icmp .ge 7, 3) := by decide +kernel
theorem dX8_nearest_38 : decode cX8_nearest 38 = .ok (.iload_n 3, 1) := by decide +kernel
theorem dX8_nearest_39 : decode cX8_nearest 39 = .ok (.goto 4, 3) := by decide +kernel
theorem dX8_nearest_42 : decode cX8_nearest 42 = .ok (.iload_n 2, 1) := by decide +kernel
theorem dX8_nearest_43 : decode cX8_nearest 43 = .ok (.istore_n 2, 1) := by decide +kernel
theorem dX8_nearest_44 : decode cX8_nearest 44 = .ok (.iinc 3 1, 3) := by decide +kernel
theorem dX8_nearest_47 : decode cX8_nearest 47 = .ok (.goto (-43), 3) := by decide +kernel
theorem dX8_nearest_50 : decode cX8_nearest 50 = .ok (.iload_n 2, 1) := by decide +kernel
theorem dX8_nearest_51 : decode cX8_nearest 51 = .ok (.ireturn, 1) := by decide +kernel
theorem dX8_comesTo_0 : decode cX8_comesTo 0 = .ok (.aload_n 0, 1) := by decide +kernel
theorem dX8_comesTo_1 : decode cX8_comesTo 1 = .ok (.getfield 47, 3) := by decide +kernel
theorem dX8_comesTo_4 : decode cX8_comesTo 4 = .ok (.iload_n 1, 1) := by decide +kernel
theorem dX8_comesTo_5 : decode cX8_comesTo 5 = .ok (.iload_n 2, 1) := by decide +kernel
theorem dX8_comesTo_6 : decode cX8_comesTo 6 = .ok (.iastore, 1) := by decide +kernel
theorem dX8_comesTo_7 : decode cX8_comesTo 7 = .ok (.iload_n 2, 1) := by decide +kernel
theorem dX8_comesTo_8 : decode cX8_comesTo 8 = .ok (.ifCond .lt 65, 3) := by decide +kernel
theorem dX8_comesTo_11 : decode cX8_comesTo 11 = .ok (.bipush 6, 2) := by decide +kernel
theorem dX8_comesTo_13 : decode cX8_comesTo 13 = .ok (.iload_n 2, 1) := by decide +kernel
theorem dX8_comesTo_14 : decode cX8_comesTo 14 = .ok (.imul, 1) := by decide +kernel
theorem dX8_comesTo_15 : decode cX8_comesTo 15 = .ok (.aload_n 0, 1) := by decide +kernel
theorem dX8_comesTo_16 : decode cX8_comesTo 16 = .ok (.getfield 68, 3) := by decide +kernel
theorem dX8_comesTo_19 : decode cX8_comesTo 19 = .ok (.iload_n 2, 1) := by decide +kernel
theorem dX8_comesTo_20 : decode cX8_comesTo 20 = .ok (.iaload, 1) := by decide +kernel
theorem dX8_comesTo_21 : decode cX8_comesTo 21 = .ok (.iadd, 1) := by decide +kernel
theorem dX8_comesTo_22 : decode cX8_comesTo 22 = .ok (.istore_n 3, 1) := by decide +kernel
theorem dX8_comesTo_23 : decode cX8_comesTo 23 = .ok (.iload_n 1, 1) := by decide +kernel
theorem dX8_comesTo_24 : decode cX8_comesTo 24 = .ok (.iload_n 2, 1) := by decide +kernel
theorem dX8_comesTo_25 : decode cX8_comesTo 25 = .ok (.if_icmp .ne 31, 3) := by decide +kernel
theorem dX8_comesTo_28 : decode cX8_comesTo 28 = .ok (.iload_n 3, 1) := by decide +kernel
theorem dX8_comesTo_29 : decode cX8_comesTo 29 = .ok (.bipush 6, 2) := by decide +kernel
theorem dX8_comesTo_31 : decode cX8_comesTo 31 = .ok (.iload_n 2, 1) := by decide +kernel
theorem dX8_comesTo_32 : decode cX8_comesTo 32 = .ok (.imul, 1) := by decide +kernel
theorem dX8_comesTo_33 : decode cX8_comesTo 33 = .ok (.if_icmp .le 23, 3) := by decide +kernel
theorem dX8_comesTo_36 : decode cX8_comesTo 36 = .ok (.aload_n 0, 1) := by decide +kernel
theorem dX8_comesTo_37 : decode cX8_comesTo 37 = .ok (.getfield 65, 3) := by decide +kernel
theorem dX8_comesTo_40 : decode cX8_comesTo 40 = .ok (.iload_n 3, 1) := by decide +kernel
theorem dX8_comesTo_41 : decode cX8_comesTo 41 = .ok (.aload_n 0, 1) := by decide +kernel
theorem dX8_comesTo_42 : decode cX8_comesTo 42 = .ok (.getfield 65, 3) := by decide +kernel
theorem dX8_comesTo_45 : decode cX8_comesTo 45 = .ok (.iload_n 3, 1) := by decide +kernel
theorem dX8_comesTo_46 : decode cX8_comesTo 46 = .ok (.iconst 1, 1) := by decide +kernel
theorem dX8_comesTo_47 : decode cX8_comesTo 47 = .ok (.isub, 1) := by decide +kernel
theorem dX8_comesTo_48 : decode cX8_comesTo 48 = .ok (.iaload, 1) := by decide +kernel
theorem dX8_comesTo_49 : decode cX8_comesTo 49 = .ok (.iastore, 1) := by decide +kernel
theorem dX8_comesTo_50 : decode cX8_comesTo 50 = .ok (.iinc 3 (-1), 3) := by decide +kernel
theorem dX8_comesTo_53 : decode cX8_comesTo 53 = .ok (.goto (-30), 3) := by decide +kernel
theorem dX8_comesTo_56 : decode cX8_comesTo 56 = .ok (.aload_n 0, 1) := by decide +kernel
theorem dX8_comesTo_57 : decode cX8_comesTo 57 = .ok (.getfield 65, 3) := by decide +kernel
theorem dX8_comesTo_60 : decode cX8_comesTo 60 = .ok (.iload_n 3, 1) := by decide +kernel
theorem dX8_comesTo_61 : decode cX8_comesTo 61 = .ok (.iload_n 1, 1) := by decide +kernel
theorem dX8_comesTo_62 : decode cX8_comesTo 62 = .ok (.iastore, 1) := by decide +kernel
theorem dX8_comesTo_63 : decode cX8_comesTo 63 = .ok (.aload_n 0, 1) := by decide +kernel
theorem dX8_comesTo_64 : decode cX8_comesTo 64 = .ok (.getfield 68, 3) := by decide +kernel
theorem dX8_comesTo_67 : decode cX8_comesTo 67 = .ok (.iload_n 2, 1) := by decide +kernel
theorem dX8_comesTo_68 : decode cX8_comesTo 68 = .ok (.dup2, 1) := by decide +kernel
theorem dX8_comesTo_69 : decode cX8_comesTo 69 = .ok (.iaload, 1) := by decide +kernel
theorem dX8_comesTo_70 : decode cX8_comesTo 70 = .ok (.iconst 1, 1) := by decide +kernel
theorem dX8_comesTo_71 : decode cX8_comesTo 71 = .ok (.iadd, 1) := by decide +kernel
theorem dX8_comesTo_72 : decode cX8_comesTo 72 = .ok (.iastore, 1) := by decide +kernel
theorem dX8_comesTo_73 : decode cX8_comesTo 73 = .ok (.return_, 1) := by decide +kernel
theorem dX8_leaves_0 : decode cX8_leaves 0 = .ok (.aload_n 0, 1) := by decide +kernel
theorem dX8_leaves_1 : decode cX8_leaves 1 = .ok (.getfield 47, 3) := by decide +kernel
theorem dX8_leaves_4 : decode cX8_leaves 4 = .ok (.iload_n 1, 1) := by decide +kernel
theorem dX8_leaves_5 : decode cX8_leaves 5 = .ok (.iaload, 1) := by decide +kernel
theorem dX8_leaves_6 : decode cX8_leaves 6 = .ok (.ifCond .lt 83, 3) := by decide +kernel
theorem dX8_leaves_9 : decode cX8_leaves 9 = .ok (.bipush 6, 2) := by decide +kernel
theorem dX8_leaves_11 : decode cX8_leaves 11 = .ok (.aload_n 0, 1) := by decide +kernel
theorem dX8_leaves_12 : decode cX8_leaves 12 = .ok (.getfield 47, 3) := by decide +kernel
theorem dX8_leaves_15 : decode cX8_leaves 15 = .ok (.iload_n 1, 1) := by decide +kernel
theorem dX8_leaves_16 : decode cX8_leaves 16 = .ok (.iaload, 1) := by decide +kernel
theorem dX8_leaves_17 : decode cX8_leaves 17 = .ok (.imul, 1) := by decide +kernel
theorem dX8_leaves_18 : decode cX8_leaves 18 = .ok (.istore_n 2, 1) := by decide +kernel
theorem dX8_leaves_19 : decode cX8_leaves 19 = .ok (.iload_n 2, 1) := by decide +kernel
theorem dX8_leaves_20 : decode cX8_leaves 20 = .ok (.istore_n 3, 1) := by decide +kernel
theorem dX8_leaves_21 : decode cX8_leaves 21 = .ok (.aload_n 0, 1) := by decide +kernel
theorem dX8_leaves_22 : decode cX8_leaves 22 = .ok (.getfield 65, 3) := by decide +kernel
theorem dX8_leaves_25 : decode cX8_leaves 25 = .ok (.iload_n 3, 1) := by decide +kernel
theorem dX8_leaves_26 : decode cX8_leaves 26 = .ok (.iaload, 1) := by decide +kernel
theorem dX8_leaves_27 : decode cX8_leaves 27 = .ok (.iload_n 1, 1) := by decide +kernel
theorem dX8_leaves_28 : decode cX8_leaves 28 = .ok (.if_icmp .eq 9, 3) := by decide +kernel
theorem dX8_leaves_31 : decode cX8_leaves 31 = .ok (.iinc 3 1, 3) := by decide +kernel
theorem dX8_leaves_34 : decode cX8_leaves 34 = .ok (.goto (-13), 3) := by decide +kernel
theorem dX8_leaves_37 : decode cX8_leaves 37 = .ok (.aload_n 0, 1) := by decide +kernel
theorem dX8_leaves_38 : decode cX8_leaves 38 = .ok (.getfield 68, 3) := by decide +kernel
theorem dX8_leaves_41 : decode cX8_leaves 41 = .ok (.aload_n 0, 1) := by decide +kernel
theorem dX8_leaves_42 : decode cX8_leaves 42 = .ok (.getfield 47, 3) := by decide +kernel
theorem dX8_leaves_45 : decode cX8_leaves 45 = .ok (.iload_n 1, 1) := by decide +kernel
theorem dX8_leaves_46 : decode cX8_leaves 46 = .ok (.iaload, 1) := by decide +kernel
theorem dX8_leaves_47 : decode cX8_leaves 47 = .ok (.dup2, 1) := by decide +kernel
theorem dX8_leaves_48 : decode cX8_leaves 48 = .ok (.iaload, 1) := by decide +kernel
theorem dX8_leaves_49 : decode cX8_leaves 49 = .ok (.iconst 1, 1) := by decide +kernel
theorem dX8_leaves_50 : decode cX8_leaves 50 = .ok (.isub, 1) := by decide +kernel
theorem dX8_leaves_51 : decode cX8_leaves 51 = .ok (.iastore, 1) := by decide +kernel
theorem dX8_leaves_52 : decode cX8_leaves 52 = .ok (.iload_n 3, 1) := by decide +kernel
theorem dX8_leaves_53 : decode cX8_leaves 53 = .ok (.iload_n 2, 1) := by decide +kernel
theorem dX8_leaves_54 : decode cX8_leaves 54 = .ok (.aload_n 0, 1) := by decide +kernel
theorem dX8_leaves_55 : decode cX8_leaves 55 = .ok (.getfield 68, 3) := by decide +kernel
theorem dX8_leaves_58 : decode cX8_leaves 58 = .ok (.aload_n 0, 1) := by decide +kernel
theorem dX8_leaves_59 : decode cX8_leaves 59 = .ok (.getfield 47, 3) := by decide +kernel
theorem dX8_leaves_62 : decode cX8_leaves 62 = .ok (.iload_n 1, 1) := by decide +kernel
theorem dX8_leaves_63 : decode cX8_leaves 63 = .ok (.iaload, 1) := by decide +kernel
theorem dX8_leaves_64 : decode cX8_leaves 64 = .ok (.iaload, 1) := by decide +kernel
theorem dX8_leaves_65 : decode cX8_leaves 65 = .ok (.iadd, 1) := by decide +kernel
theorem dX8_leaves_66 : decode cX8_leaves 66 = .ok (.if_icmp .ge 23, 3) := by decide +kernel
theorem dX8_leaves_69 : decode cX8_leaves 69 = .ok (.aload_n 0, 1) := by decide +kernel
theorem dX8_leaves_70 : decode cX8_leaves 70 = .ok (.getfield 65, 3) := by decide +kernel
theorem dX8_leaves_73 : decode cX8_leaves 73 = .ok (.iload_n 3, 1) := by decide +kernel
theorem dX8_leaves_74 : decode cX8_leaves 74 = .ok (.aload_n 0, 1) := by decide +kernel
theorem dX8_leaves_75 : decode cX8_leaves 75 = .ok (.getfield 65, 3) := by decide +kernel
theorem dX8_leaves_78 : decode cX8_leaves 78 = .ok (.iload_n 3, 1) := by decide +kernel
theorem dX8_leaves_79 : decode cX8_leaves 79 = .ok (.iconst 1, 1) := by decide +kernel
theorem dX8_leaves_80 : decode cX8_leaves 80 = .ok (.iadd, 1) := by decide +kernel
theorem dX8_leaves_81 : decode cX8_leaves 81 = .ok (.iaload, 1) := by decide +kernel
theorem dX8_leaves_82 : decode cX8_leaves 82 = .ok (.iastore, 1) := by decide +kernel
theorem dX8_leaves_83 : decode cX8_leaves 83 = .ok (.iinc 3 1, 3) := by decide +kernel
theorem dX8_leaves_86 : decode cX8_leaves 86 = .ok (.goto (-34), 3) := by decide +kernel
theorem dX8_leaves_89 : decode cX8_leaves 89 = .ok (.return_, 1) := by decide +kernel
set_option maxRecDepth 20000 in
theorem ggX8_start_X8_isKiosk : GoodIn wsX8_start wsX8_isKiosk := goodIn_r _ [11, 12, 13, 14, 10, 15, 52, 53, 54, 55, 56, 57, 58, 59, 60, 61, 62, 63, 64, 65, 66, 67, 68, 69, 70, 71, 72, 73, 74, 75, 76, 77, 78, 79, 80, 81, 82, 83] (by decide +kernel) (by decide +kernel)
set_option maxRecDepth 20000 in
theorem gX8_start_X8_isKiosk : GoodIn wsX8_start (wsV RX8 123 RX8 yX8_isKiosk wsX8_isKiosk) := goodIn_app (goodIn_of _ (by decide +kernel)) ggX8_start_X8_isKiosk
set_option maxRecDepth 20000 in
theorem ggX8_start_X8_isList : GoodIn wsX8_start wsX8_isList := goodIn_r _ [19, 20, 13, 14, 10, 15, 52, 53, 54, 55, 56, 57, 58, 59, 60, 61, 62, 63, 64, 65, 66, 67, 68, 69, 70, 71, 72, 73, 74, 75, 76, 77, 78, 79, 80, 81, 82, 83] (by decide +kernel) (by decide +kernel)
set_option maxRecDepth 20000 in
theorem gX8_start_X8_isList : GoodIn wsX8_start (wsV RX8 107 RX8 yX8_isList wsX8_isList) := goodIn_app (goodIn_of _ (by decide +kernel)) ggX8_start_X8_isList
set_option maxRecDepth 20000 in
theorem ggX8_start_X8_isThrown : GoodIn wsX8_start wsX8_isThrown := goodIn_r _ [24, 25, 52, 53, 54, 55, 56, 57, 58, 59, 60, 61, 62, 63, 64, 65, 66, 67, 68, 69, 70, 71, 72, 73, 74, 75, 76, 77, 78, 79, 80, 81, 82, 83] (by decide +kernel) (by decide +kernel)
set_option maxRecDepth 20000 in
theorem gX8_start_X8_isThrown : GoodIn wsX8_start (wsV RX8 103 RX8 yX8_isThrown wsX8_isThrown) := goodIn_app (goodIn_of _ (by decide +kernel)) ggX8_start_X8_isThrown
set_option maxRecDepth 20000 in
theorem ggX8_start_X8_copies : GoodIn wsX8_start wsX8_copies := goodIn_ca (goodIn_r _ [29, 30, 31, 32, 33, 34, 35, 36, 37, 52, 53, 54, 55, 56, 57, 58, 59, 60, 61, 62, 63, 64, 65, 66, 67, 68, 69, 70, 71, 72, 73, 74, 75, 76, 77, 78, 79, 80, 81, 82, 83] (by decide +kernel) (by decide +kernel)) (goodIn_sub (fun _ h => List.mem_cons_of_mem _ (List.mem_append_right _ h)) (by decide +kernel))
set_option maxRecDepth 20000 in
theorem gX8_start_X8_copies : GoodIn wsX8_start (wsV RX8 126 RX8 yX8_copies wsX8_copies) := goodIn_app (goodIn_of _ (by decide +kernel)) ggX8_start_X8_copies
set_option maxRecDepth 20000 in
theorem ggX8_start_X8_nearest : GoodIn wsX8_start wsX8_nearest := goodIn_ca (goodIn_r _ [41, 12, 42, 43, 44, 10, 45, 52, 53, 54, 55, 56, 57, 58, 59, 60, 61, 62, 63, 64, 65, 66, 67, 68, 69, 70, 71, 72, 73, 74, 75, 76, 77, 78, 79, 80, 81, 82, 83] (by decide +kernel) (by decide +kernel)) (goodIn_sub (fun _ h => List.mem_cons_of_mem _ (List.mem_append_right _ h)) (by decide +kernel))
set_option maxRecDepth 20000 in
theorem gX8_start_X8_nearest : GoodIn wsX8_start (wsV RX8 130 RX8 yX8_nearest wsX8_nearest) := goodIn_app (goodIn_of _ (by decide +kernel)) ggX8_start_X8_nearest
set_option maxRecDepth 20000 in
theorem ggX8_start_X8_comesTo : GoodIn wsX8_start wsX8_comesTo := goodIn_ca (goodIn_r _ [49, 6, 50, 51, 52, 53, 54, 55, 56, 57, 58, 59, 60, 61, 62, 63, 64, 65, 66, 67, 68, 69, 70, 71, 72, 73, 74, 75, 76, 77, 78, 79, 80, 81, 82, 83] (by decide +kernel) (by decide +kernel)) (goodIn_sub (fun _ h => List.mem_cons_of_mem _ (List.mem_append_right _ h)) (by decide +kernel))
set_option maxRecDepth 20000 in
theorem gX8_start_X8_comesTo : GoodIn wsX8_start (wsV RX8 134 RX8 yX8_comesTo wsX8_comesTo) := goodIn_app (goodIn_of _ (by decide +kernel)) ggX8_start_X8_comesTo
theorem dX8_start_0 : decode cX8_start 0 = .ok (.aload_n 0, 1) := by decide +kernel
theorem dX8_start_1 : decode cX8_start 1 = .ok (.aload_n 0, 1) := by decide +kernel
theorem dX8_start_2 : decode cX8_start 2 = .ok (.iload_n 1, 1) := by decide +kernel
theorem dX8_start_3 : decode cX8_start 3 = .ok (.invokevirtual 123, 3) := by decide +kernel
theorem dX8_start_6 : decode cX8_start 6 = .ok (.ifCond .eq 11, 3) := by decide +kernel
theorem dX8_start_9 : decode cX8_start 9 = .ok (.aload_n 0, 1) := by decide +kernel
theorem dX8_start_10 : decode cX8_start 10 = .ok (.iload_n 2, 1) := by decide +kernel
theorem dX8_start_11 : decode cX8_start 11 = .ok (.invokevirtual 107, 3) := by decide +kernel
theorem dX8_start_14 : decode cX8_start 14 = .ok (.ifCond .ne 7, 3) := by decide +kernel
theorem dX8_start_17 : decode cX8_start 17 = .ok (.iconst 1, 1) := by decide +kernel
theorem dX8_start_18 : decode cX8_start 18 = .ok (.goto 4, 3) := by decide +kernel
theorem dX8_start_21 : decode cX8_start 21 = .ok (.iconst 0, 1) := by decide +kernel
theorem dX8_start_22 : decode cX8_start 22 = .ok (.iconst 1, 1) := by decide +kernel
theorem dX8_start_23 : decode cX8_start 23 = .ok (.invokevirtual 103, 3) := by decide +kernel
theorem dX8_start_26 : decode cX8_start 26 = .ok (.ifCond .ne 17, 3) := by decide +kernel
theorem dX8_start_29 : decode cX8_start 29 = .ok (.aload_n 0, 1) := by decide +kernel
theorem dX8_start_30 : decode cX8_start 30 = .ok (.aload_n 0, 1) := by decide +kernel
theorem dX8_start_31 : decode cX8_start 31 = .ok (.getfield 34, 3) := by decide +kernel
theorem dX8_start_34 : decode cX8_start 34 = .ok (.iload_n 1, 1) := by decide +kernel
theorem dX8_start_35 : decode cX8_start 35 = .ok (.baload, 1) := by decide +kernel
theorem dX8_start_36 : decode cX8_start 36 = .ok (.iconst 2, 1) := by decide +kernel
theorem dX8_start_37 : decode cX8_start 37 = .ok (.invokevirtual 103, 3) := by decide +kernel
theorem dX8_start_40 : decode cX8_start 40 = .ok (.ifCond .eq 5, 3) := by decide +kernel
theorem dX8_start_43 : decode cX8_start 43 = .ok (.iconst 0, 1) := by decide +kernel
theorem dX8_start_44 : decode cX8_start 44 = .ok (.ireturn, 1) := by decide +kernel
theorem dX8_start_45 : decode cX8_start 45 = .ok (.aload_n 0, 1) := by decide +kernel
theorem dX8_start_46 : decode cX8_start 46 = .ok (.getfield 34, 3) := by decide +kernel
theorem dX8_start_49 : decode cX8_start 49 = .ok (.iload_n 1, 1) := by decide +kernel
theorem dX8_start_50 : decode cX8_start 50 = .ok (.iconst 1, 1) := by decide +kernel
theorem dX8_start_51 : decode cX8_start 51 = .ok (.bastore, 1) := by decide +kernel
theorem dX8_start_52 : decode cX8_start 52 = .ok (.aload_n 0, 1) := by decide +kernel
theorem dX8_start_53 : decode cX8_start 53 = .ok (.getfield 44, 3) := by decide +kernel
theorem dX8_start_56 : decode cX8_start 56 = .ok (.iload_n 1, 1) := by decide +kernel
theorem dX8_start_57 : decode cX8_start 57 = .ok (.iconst 1, 1) := by decide +kernel
theorem dX8_start_58 : decode cX8_start 58 = .ok (.iastore, 1) := by decide +kernel
theorem dX8_start_59 : decode cX8_start 59 = .ok (.aload_n 0, 1) := by decide +kernel
theorem dX8_start_60 : decode cX8_start 60 = .ok (.getfield 50, 3) := by decide +kernel
theorem dX8_start_63 : decode cX8_start 63 = .ok (.iload_n 1, 1) := by decide +kernel
theorem dX8_start_64 : decode cX8_start 64 = .ok (.iconst 0, 1) := by decide +kernel
theorem dX8_start_65 : decode cX8_start 65 = .ok (.iastore, 1) := by decide +kernel
theorem dX8_start_66 : decode cX8_start 66 = .ok (.aload_n 0, 1) := by decide +kernel
theorem dX8_start_67 : decode cX8_start 67 = .ok (.getfield 53, 3) := by decide +kernel
theorem dX8_start_70 : decode cX8_start 70 = .ok (.iload_n 1, 1) := by decide +kernel
theorem dX8_start_71 : decode cX8_start 71 = .ok (.iconst 0, 1) := by decide +kernel
theorem dX8_start_72 : decode cX8_start 72 = .ok (.iastore, 1) := by decide +kernel
theorem dX8_start_73 : decode cX8_start 73 = .ok (.aload_n 0, 1) := by decide +kernel
theorem dX8_start_74 : decode cX8_start 74 = .ok (.getfield 56, 3) := by decide +kernel
theorem dX8_start_77 : decode cX8_start 77 = .ok (.iload_n 1, 1) := by decide +kernel
theorem dX8_start_78 : decode cX8_start 78 = .ok (.iconst (-1), 1) := by decide +kernel
theorem dX8_start_79 : decode cX8_start 79 = .ok (.iastore, 1) := by decide +kernel
theorem dX8_start_80 : decode cX8_start 80 = .ok (.aload_n 0, 1) := by decide +kernel
theorem dX8_start_81 : decode cX8_start 81 = .ok (.iload_n 2, 1) := by decide +kernel
theorem dX8_start_82 : decode cX8_start 82 = .ok (.iconst 4, 1) := by decide +kernel
theorem dX8_start_83 : decode cX8_start 83 = .ok (.iload_n 1, 1) := by decide +kernel
theorem dX8_start_84 : decode cX8_start 84 = .ok (.imul, 1) := by decide +kernel
theorem dX8_start_85 : decode cX8_start 85 = .ok (.invokevirtual 126, 3) := by decide +kernel
theorem dX8_start_88 : decode cX8_start 88 = .ok (.aload_n 0, 1) := by decide +kernel
theorem dX8_start_89 : decode cX8_start 89 = .ok (.iload_n 1, 1) := by decide +kernel
theorem dX8_start_90 : decode cX8_start 90 = .ok (.aload_n 0, 1) := by decide +kernel
theorem dX8_start_91 : decode cX8_start 91 = .ok (.iload_n 1, 1) := by decide +kernel
theorem dX8_start_92 : decode cX8_start 92 = .ok (.invokevirtual 130, 3) := by decide +kernel
theorem dX8_start_95 : decode cX8_start 95 = .ok (.invokevirtual 134, 3) := by decide +kernel
theorem dX8_start_98 : decode cX8_start 98 = .ok (.aload_n 0, 1) := by decide +kernel
theorem dX8_start_99 : decode cX8_start 99 = .ok (.getfield 47, 3) := by decide +kernel
theorem dX8_start_102 : decode cX8_start 102 = .ok (.iload_n 1, 1) := by decide +kernel
theorem dX8_start_103 : decode cX8_start 103 = .ok (.iaload, 1) := by decide +kernel
theorem dX8_start_104 : decode cX8_start 104 = .ok (.ireturn, 1) := by decide +kernel
set_option maxRecDepth 20000 in
theorem ggX8_isNone_X8_isKiosk : GoodIn wsX8_isNone wsX8_isKiosk := goodIn_r _ [6, 7, 8, 9, 5, 10, 16, 17, 18, 19, 20, 21, 22, 23, 24, 25, 26, 27, 28, 29, 30, 31, 32, 33, 34, 35, 36, 37, 38, 39, 40, 41, 42, 43, 44, 45, 46, 47] (by decide +kernel) (by decide +kernel)
set_option maxRecDepth 20000 in
theorem gX8_isNone_X8_isKiosk : GoodIn wsX8_isNone (wsV RX8 123 RX8 yX8_isKiosk wsX8_isKiosk) := goodIn_app (goodIn_of _ (by decide +kernel)) ggX8_isNone_X8_isKiosk
set_option maxRecDepth 20000 in
theorem ggX8_isNone_X8_isThrown : GoodIn wsX8_isNone wsX8_isThrown := goodIn_r _ [14, 15, 16, 17, 18, 19, 20, 21, 22, 23, 24, 25, 26, 27, 28, 29, 30, 31, 32, 33, 34, 35, 36, 37, 38, 39, 40, 41, 42, 43, 44, 45, 46, 47] (by decide +kernel) (by decide +kernel)
set_option maxRecDepth 20000 in
theorem gX8_isNone_X8_isThrown : GoodIn wsX8_isNone (wsV RX8 103 RX8 yX8_isThrown wsX8_isThrown) := goodIn_app (goodIn_of _ (by decide +kernel)) ggX8_isNone_X8_isThrown
theorem dX8_isNone_0 : decode cX8_isNone 0 = .ok (.aload_n 0, 1) := by decide +kernel
theorem dX8_isNone_1 : decode cX8_isNone 1 = .ok (.aload_n 0, 1) := by decide +kernel
theorem dX8_isNone_2 : decode cX8_isNone 2 = .ok (.iload_n 1, 1) := by decide +kernel
theorem dX8_isNone_3 : decode cX8_isNone 3 = .ok (.invokevirtual 123, 3) := by decide +kernel
theorem dX8_isNone_6 : decode cX8_isNone 6 = .ok (.ifCond .ne 7, 3) := by decide +kernel
theorem dX8_isNone_9 : decode cX8_isNone 9 = .ok (.iconst 1, 1) := by decide +kernel
theorem dX8_isNone_10 : decode cX8_isNone 10 = .ok (.goto 4, 3) := by decide +kernel
theorem dX8_isNone_13 : decode cX8_isNone 13 = .ok (.iconst 0, 1) := by decide +kernel
theorem dX8_isNone_14 : decode cX8_isNone 14 = .ok (.iconst 1, 1) := by decide +kernel
theorem dX8_isNone_15 : decode cX8_isNone 15 = .ok (.invokevirtual 103, 3) := by decide +kernel
theorem dX8_isNone_18 : decode cX8_isNone 18 = .ok (.ifCond .ne 25, 3) := by decide +kernel
theorem dX8_isNone_21 : decode cX8_isNone 21 = .ok (.aload_n 0, 1) := by decide +kernel
theorem dX8_isNone_22 : decode cX8_isNone 22 = .ok (.aload_n 0, 1) := by decide +kernel
theorem dX8_isNone_23 : decode cX8_isNone 23 = .ok (.getfield 34, 3) := by decide +kernel
theorem dX8_isNone_26 : decode cX8_isNone 26 = .ok (.iload_n 1, 1) := by decide +kernel
theorem dX8_isNone_27 : decode cX8_isNone 27 = .ok (.baload, 1) := by decide +kernel
theorem dX8_isNone_28 : decode cX8_isNone 28 = .ok (.ifCond .ne 7, 3) := by decide +kernel
theorem dX8_isNone_31 : decode cX8_isNone 31 = .ok (.iconst 1, 1) := by decide +kernel
theorem dX8_isNone_32 : decode cX8_isNone 32 = .ok (.goto 4, 3) := by decide +kernel
theorem dX8_isNone_35 : decode cX8_isNone 35 = .ok (.iconst 0, 1) := by decide +kernel
theorem dX8_isNone_36 : decode cX8_isNone 36 = .ok (.iconst 2, 1) := by decide +kernel
theorem dX8_isNone_37 : decode cX8_isNone 37 = .ok (.invokevirtual 103, 3) := by decide +kernel
theorem dX8_isNone_40 : decode cX8_isNone 40 = .ok (.ifCond .eq 7, 3) := by decide +kernel
theorem dX8_isNone_43 : decode cX8_isNone 43 = .ok (.iconst 1, 1) := by decide +kernel
theorem dX8_isNone_44 : decode cX8_isNone 44 = .ok (.goto 4, 3) := by decide +kernel
theorem dX8_isNone_47 : decode cX8_isNone 47 = .ok (.iconst 0, 1) := by decide +kernel
theorem dX8_isNone_48 : decode cX8_isNone 48 = .ok (.ireturn, 1) := by decide +kernel
theorem dX8_held_0 : decode cX8_held 0 = .ok (.iconst 0, 1) := by decide +kernel
theorem dX8_held_1 : decode cX8_held 1 = .ok (.istore_n 2, 1) := by decide +kernel
theorem dX8_held_2 : decode cX8_held 2 = .ok (.iconst 0, 1) := by decide +kernel
theorem dX8_held_3 : decode cX8_held 3 = .ok (.istore_n 3, 1) := by decide +kernel
theorem dX8_held_4 : decode cX8_held 4 = .ok (.iload_n 3, 1) := by decide +kernel
theorem dX8_held_5 : decode cX8_held 5 = .ok (.bipush 6, 2) := by decide +kernel
theorem dX8_held_7 : decode cX8_held 7 = .ok (.if_icmp .ge 27, 3) := by decide +kernel
theorem dX8_held_10 : decode cX8_held 10 = .ok (.iload_n 2, 1) := by decide +kernel
theorem dX8_held_11 : decode cX8_held 11 = .ok (.aload_n 0, 1) := by decide +kernel
theorem dX8_held_12 : decode cX8_held 12 = .ok (.getfield 71, 3) := by decide +kernel
theorem dX8_held_15 : decode cX8_held 15 = .ok (.iload_n 3, 1) := by decide +kernel
theorem dX8_held_16 : decode cX8_held 16 = .ok (.iaload, 1) := by decide +kernel
theorem dX8_held_17 : decode cX8_held 17 = .ok (.iload_n 1, 1) := by decide +kernel
theorem dX8_held_18 : decode cX8_held 18 = .ok (.if_icmp .ne 7, 3) := by decide +kernel
theorem dX8_held_21 : decode cX8_held 21 = .ok (.iconst 1, 1) := by decide +kernel
theorem dX8_held_22 : decode cX8_held 22 = .ok (.goto 4, 3) := by decide +kernel
theorem dX8_held_25 : decode cX8_held 25 = .ok (.iconst 0, 1) := by decide +kernel
theorem dX8_held_26 : decode cX8_held 26 = .ok (.iadd, 1) := by decide +kernel
theorem dX8_held_27 : decode cX8_held 27 = .ok (.istore_n 2, 1) := by decide +kernel
theorem dX8_held_28 : decode cX8_held 28 = .ok (.iinc 3 1, 3) := by decide +kernel
theorem dX8_held_31 : decode cX8_held 31 = .ok (.goto (-27), 3) := by decide +kernel
theorem dX8_held_34 : decode cX8_held 34 = .ok (.iload_n 2, 1) := by decide +kernel
theorem dX8_held_35 : decode cX8_held 35 = .ok (.ireturn, 1) := by decide +kernel
theorem dX8_outOf_0 : decode cX8_outOf 0 = .ok (.bipush 6, 2) := by decide +kernel
theorem dX8_outOf_2 : decode cX8_outOf 2 = .ok (.iload_n 1, 1) := by decide +kernel
theorem dX8_outOf_3 : decode cX8_outOf 3 = .ok (.imul, 1) := by decide +kernel
theorem dX8_outOf_4 : decode cX8_outOf 4 = .ok (.istore_n 3, 1) := by decide +kernel
theorem dX8_outOf_5 : decode cX8_outOf 5 = .ok (.aload_n 0, 1) := by decide +kernel
theorem dX8_outOf_6 : decode cX8_outOf 6 = .ok (.getfield 74, 3) := by decide +kernel
theorem dX8_outOf_9 : decode cX8_outOf 9 = .ok (.iload_n 3, 1) := by decide +kernel
theorem dX8_outOf_10 : decode cX8_outOf 10 = .ok (.iload_n 2, 1) := by decide +kernel
theorem dX8_outOf_11 : decode cX8_outOf 11 = .ok (.iadd, 1) := by decide +kernel
theorem dX8_outOf_12 : decode cX8_outOf 12 = .ok (.iaload, 1) := by decide +kernel
theorem dX8_outOf_13 : decode cX8_outOf 13 = .ok (.istore 4, 2) := by decide +kernel
theorem dX8_outOf_15 : decode cX8_outOf 15 = .ok (.aload_n 0, 1) := by decide +kernel
theorem dX8_outOf_16 : decode cX8_outOf 16 = .ok (.getfield 77, 3) := by decide +kernel
theorem dX8_outOf_19 : decode cX8_outOf 19 = .ok (.iload_n 1, 1) := by decide +kernel
theorem dX8_outOf_20 : decode cX8_outOf 20 = .ok (.dup2, 1) := by decide +kernel
theorem dX8_outOf_21 : decode cX8_outOf 21 = .ok (.iaload, 1) := by decide +kernel
theorem dX8_outOf_22 : decode cX8_outOf 22 = .ok (.iconst 1, 1) := by decide +kernel
theorem dX8_outOf_23 : decode cX8_outOf 23 = .ok (.isub, 1) := by decide +kernel
theorem dX8_outOf_24 : decode cX8_outOf 24 = .ok (.iastore, 1) := by decide +kernel
theorem dX8_outOf_25 : decode cX8_outOf 25 = .ok (.iload_n 3, 1) := by decide +kernel
theorem dX8_outOf_26 : decode cX8_outOf 26 = .ok (.iload_n 2, 1) := by decide +kernel
theorem dX8_outOf_27 : decode cX8_outOf 27 = .ok (.iadd, 1) := by decide +kernel
theorem dX8_outOf_28 : decode cX8_outOf 28 = .ok (.istore 5, 2) := by decide +kernel
theorem dX8_outOf_30 : decode cX8_outOf 30 = .ok (.iload 5, 2) := by decide +kernel
theorem dX8_outOf_32 : decode cX8_outOf 32 = .ok (.iload_n 3, 1) := by decide +kernel
theorem dX8_outOf_33 : decode cX8_outOf 33 = .ok (.aload_n 0, 1) := by decide +kernel
theorem dX8_outOf_34 : decode cX8_outOf 34 = .ok (.getfield 77, 3) := by decide +kernel
theorem dX8_outOf_37 : decode cX8_outOf 37 = .ok (.iload_n 1, 1) := by decide +kernel
theorem dX8_outOf_38 : decode cX8_outOf 38 = .ok (.iaload, 1) := by decide +kernel
theorem dX8_outOf_39 : decode cX8_outOf 39 = .ok (.iadd, 1) := by decide +kernel
theorem dX8_outOf_40 : decode cX8_outOf 40 = .ok (.if_icmp .ge 25, 3) := by decide +kernel
theorem dX8_outOf_43 : decode cX8_outOf 43 = .ok (.aload_n 0, 1) := by decide +kernel
theorem dX8_outOf_44 : decode cX8_outOf 44 = .ok (.getfield 74, 3) := by decide +kernel
theorem dX8_outOf_47 : decode cX8_outOf 47 = .ok (.iload 5, 2) := by decide +kernel
theorem dX8_outOf_49 : decode cX8_outOf 49 = .ok (.aload_n 0, 1) := by decide +kernel
theorem dX8_outOf_50 : decode cX8_outOf 50 = .ok (.getfield 74, 3) := by decide +kernel
theorem dX8_outOf_53 : decode cX8_outOf 53 = .ok (.iload 5, 2) := by decide +kernel
theorem dX8_outOf_55 : decode cX8_outOf 55 = .ok (.iconst 1, 1) := by decide +kernel
theorem dX8_outOf_56 : decode cX8_outOf 56 = .ok (.iadd, 1) := by decide +kernel
theorem dX8_outOf_57 : decode cX8_outOf 57 = .ok (.iaload, 1) := by decide +kernel
theorem dX8_outOf_58 : decode cX8_outOf 58 = .ok (.iastore, 1) := by decide +kernel
theorem dX8_outOf_59 : decode cX8_outOf 59 = .ok (.iinc 5 1, 3) := by decide +kernel
theorem dX8_outOf_62 : decode cX8_outOf 62 = .ok (.goto (-32), 3) := by decide +kernel
theorem dX8_outOf_65 : decode cX8_outOf 65 = .ok (.aload_n 0, 1) := by decide +kernel
theorem dX8_outOf_66 : decode cX8_outOf 66 = .ok (.getfield 56, 3) := by decide +kernel
theorem dX8_outOf_69 : decode cX8_outOf 69 = .ok (.iload 4, 2) := by decide +kernel
theorem dX8_outOf_71 : decode cX8_outOf 71 = .ok (.iconst (-1), 1) := by decide +kernel
theorem dX8_outOf_72 : decode cX8_outOf 72 = .ok (.iastore, 1) := by decide +kernel
theorem dX8_outOf_73 : decode cX8_outOf 73 = .ok (.iload 4, 2) := by decide +kernel
theorem dX8_outOf_75 : decode cX8_outOf 75 = .ok (.ireturn, 1) := by decide +kernel
set_option maxRecDepth 20000 in
theorem ggX8_frees_X8_outOf : GoodIn wsX8_frees wsX8_outOf := goodIn_ca (goodIn_r _ [7, 8, 2, 9, 10, 11, 12, 13, 14, 15, 16, 17, 18, 19, 20, 21, 22, 23, 24, 25, 26, 27, 28, 29, 30, 31, 32, 33, 34, 35, 36, 37, 38, 39, 40, 41] (by decide +kernel) (by decide +kernel)) (goodIn_sub (fun _ h => List.mem_cons_of_mem _ (List.mem_append_right _ h)) (by decide +kernel))
set_option maxRecDepth 20000 in
theorem gX8_frees_X8_outOf : GoodIn wsX8_frees (wsV RX8 137 RX8 yX8_outOf wsX8_outOf) := goodIn_app (goodIn_of _ (by decide +kernel)) ggX8_frees_X8_outOf
theorem dX8_frees_0 : decode cX8_frees 0 = .ok (.aload_n 0, 1) := by decide +kernel
theorem dX8_frees_1 : decode cX8_frees 1 = .ok (.getfield 71, 3) := by decide +kernel
theorem dX8_frees_4 : decode cX8_frees 4 = .ok (.iload_n 1, 1) := by decide +kernel
theorem dX8_frees_5 : decode cX8_frees 5 = .ok (.aload_n 0, 1) := by decide +kernel
theorem dX8_frees_6 : decode cX8_frees 6 = .ok (.getfield 77, 3) := by decide +kernel
theorem dX8_frees_9 : decode cX8_frees 9 = .ok (.iload_n 1, 1) := by decide +kernel
theorem dX8_frees_10 : decode cX8_frees 10 = .ok (.iaload, 1) := by decide +kernel
theorem dX8_frees_11 : decode cX8_frees 11 = .ok (.ifCond .ne 7, 3) := by decide +kernel
theorem dX8_frees_14 : decode cX8_frees 14 = .ok (.iconst (-1), 1) := by decide +kernel
theorem dX8_frees_15 : decode cX8_frees 15 = .ok (.goto 9, 3) := by decide +kernel
theorem dX8_frees_18 : decode cX8_frees 18 = .ok (.aload_n 0, 1) := by decide +kernel
theorem dX8_frees_19 : decode cX8_frees 19 = .ok (.iload_n 1, 1) := by decide +kernel
theorem dX8_frees_20 : decode cX8_frees 20 = .ok (.iconst 0, 1) := by decide +kernel
theorem dX8_frees_21 : decode cX8_frees 21 = .ok (.invokevirtual 137, 3) := by decide +kernel
theorem dX8_frees_24 : decode cX8_frees 24 = .ok (.iastore, 1) := by decide +kernel
theorem dX8_frees_25 : decode cX8_frees 25 = .ok (.return_, 1) := by decide +kernel
set_option maxRecDepth 20000 in
theorem ggX8_stop_X8_isNone : GoodIn wsX8_stop wsX8_isNone := goodIn_ca (goodIn_r _ [11, 5, 12, 13, 14, 10, 15, 16, 17, 18, 19, 20, 21, 22, 23, 24, 43, 44, 45, 46, 47, 48, 49, 50, 51, 52, 53, 54, 55, 56, 57, 58, 59, 60, 61, 62, 63, 64, 65, 66, 67, 68, 69, 70, 71, 72, 73, 74] (by decide +kernel) (by decide +kernel)) (goodIn_sub (fun _ h => List.mem_cons_of_mem _ (List.mem_append_right _ h)) (by decide +kernel))
set_option maxRecDepth 20000 in
theorem gX8_stop_X8_isNone : GoodIn wsX8_stop (wsV RX8 140 RX8 yX8_isNone wsX8_isNone) := goodIn_app (goodIn_of _ (by decide +kernel)) ggX8_stop_X8_isNone
set_option maxRecDepth 20000 in
theorem ggX8_stop_X8_held : GoodIn wsX8_stop wsX8_held := goodIn_ca (goodIn_r _ [28, 4, 43, 44, 45, 46, 47, 48, 49, 50, 51, 52, 53, 54, 55, 56, 57, 58, 59, 60, 61, 62, 63, 64, 65, 66, 67, 68, 69, 70, 71, 72, 73, 74] (by decide +kernel) (by decide +kernel)) (goodIn_sub (fun _ h => List.mem_cons_of_mem _ (List.mem_append_right _ h)) (by decide +kernel))
set_option maxRecDepth 20000 in
theorem gX8_stop_X8_held : GoodIn wsX8_stop (wsV RX8 143 RX8 yX8_held wsX8_held) := goodIn_app (goodIn_of _ (by decide +kernel)) ggX8_stop_X8_held
set_option maxRecDepth 20000 in
theorem ggX8_stop_X8_outOf : GoodIn wsX8_stop wsX8_outOf := goodIn_ca (goodIn_r _ [32, 3, 2, 1, 43, 44, 45, 46, 47, 48, 49, 50, 51, 52, 53, 54, 55, 56, 57, 58, 59, 60, 61, 62, 63, 64, 65, 66, 67, 68, 69, 70, 71, 72, 73, 74] (by decide +kernel) (by decide +kernel)) (goodIn_sub (fun _ h => List.mem_cons_of_mem _ (List.mem_append_right _ h)) (by decide +kernel))
set_option maxRecDepth 20000 in
theorem gX8_stop_X8_outOf : GoodIn wsX8_stop (wsV RX8 137 RX8 yX8_outOf wsX8_outOf) := goodIn_app (goodIn_of _ (by decide +kernel)) ggX8_stop_X8_outOf
set_option maxRecDepth 20000 in
theorem ggX8_stop_X8_frees : GoodIn wsX8_stop wsX8_frees := goodIn_ca (goodIn_r _ [36, 4, 2, 29, 30, 31, 10, 32, 3, 1, 43, 44, 45, 46, 47, 48, 49, 50, 51, 52, 53, 54, 55, 56, 57, 58, 59, 60, 61, 62, 63, 64, 65, 66, 67, 68, 69, 70, 71, 72, 73, 74] (by decide +kernel) (by decide +kernel)) (goodIn_sub (fun _ h => List.mem_cons_of_mem _ (List.mem_append_right _ h)) (by decide +kernel))
set_option maxRecDepth 20000 in
theorem gX8_stop_X8_frees : GoodIn wsX8_stop (wsV RX8 146 RX8 yX8_frees wsX8_frees) := goodIn_app (goodIn_of _ (by decide +kernel)) ggX8_stop_X8_frees
set_option maxRecDepth 20000 in
theorem ggX8_stop_X8_leaves : GoodIn wsX8_stop wsX8_leaves := goodIn_ca (goodIn_r _ [40, 6, 41, 42, 43, 44, 45, 46, 47, 48, 49, 50, 51, 52, 53, 54, 55, 56, 57, 58, 59, 60, 61, 62, 63, 64, 65, 66, 67, 68, 69, 70, 71, 72, 73, 74] (by decide +kernel) (by decide +kernel)) (goodIn_sub (fun _ h => List.mem_cons_of_mem _ (List.mem_append_right _ h)) (by decide +kernel))
set_option maxRecDepth 20000 in
theorem gX8_stop_X8_leaves : GoodIn wsX8_stop (wsV RX8 150 RX8 yX8_leaves wsX8_leaves) := goodIn_app (goodIn_of _ (by decide +kernel)) ggX8_stop_X8_leaves
theorem dX8_stop_0 : decode cX8_stop 0 = .ok (.aload_n 0, 1) := by decide +kernel
theorem dX8_stop_1 : decode cX8_stop 1 = .ok (.iload_n 1, 1) := by decide +kernel
theorem dX8_stop_2 : decode cX8_stop 2 = .ok (.invokevirtual 140, 3) := by decide +kernel
theorem dX8_stop_5 : decode cX8_stop 5 = .ok (.ifCond .eq 5, 3) := by decide +kernel
theorem dX8_stop_8 : decode cX8_stop 8 = .ok (.iconst 0, 1) := by decide +kernel
theorem dX8_stop_9 : decode cX8_stop 9 = .ok (.ireturn, 1) := by decide +kernel
theorem dX8_stop_10 : decode cX8_stop 10 = .ok (.aload_n 0, 1) := by decide +kernel
theorem dX8_stop_11 : decode cX8_stop 11 = .ok (.iload_n 1, 1) := by decide +kernel
theorem dX8_stop_12 : decode cX8_stop 12 = .ok (.invokevirtual 143, 3) := by decide +kernel
theorem dX8_stop_15 : decode cX8_stop 15 = .ok (.istore_n 2, 1) := by decide +kernel
theorem dX8_stop_16 : decode cX8_stop 16 = .ok (.aload_n 0, 1) := by decide +kernel
theorem dX8_stop_17 : decode cX8_stop 17 = .ok (.getfield 56, 3) := by decide +kernel
theorem dX8_stop_20 : decode cX8_stop 20 = .ok (.iload_n 1, 1) := by decide +kernel
theorem dX8_stop_21 : decode cX8_stop 21 = .ok (.iaload, 1) := by decide +kernel
theorem dX8_stop_22 : decode cX8_stop 22 = .ok (.istore_n 3, 1) := by decide +kernel
theorem dX8_stop_23 : decode cX8_stop 23 = .ok (.iload_n 3, 1) := by decide +kernel
theorem dX8_stop_24 : decode cX8_stop 24 = .ok (.ifCond .ge 7, 3) := by decide +kernel
theorem dX8_stop_27 : decode cX8_stop 27 = .ok (.iconst (-1), 1) := by decide +kernel
theorem dX8_stop_28 : decode cX8_stop 28 = .ok (.goto 11, 3) := by decide +kernel
theorem dX8_stop_31 : decode cX8_stop 31 = .ok (.aload_n 0, 1) := by decide +kernel
theorem dX8_stop_32 : decode cX8_stop 32 = .ok (.getfield 77, 3) := by decide +kernel
theorem dX8_stop_35 : decode cX8_stop 35 = .ok (.iload_n 3, 1) := by decide +kernel
theorem dX8_stop_36 : decode cX8_stop 36 = .ok (.iaload, 1) := by decide +kernel
theorem dX8_stop_37 : decode cX8_stop 37 = .ok (.iconst 1, 1) := by decide +kernel
theorem dX8_stop_38 : decode cX8_stop 38 = .ok (.isub, 1) := by decide +kernel
theorem dX8_stop_39 : decode cX8_stop 39 = .ok (.istore 4, 2) := by decide +kernel
theorem dX8_stop_41 : decode cX8_stop 41 = .ok (.iload 4, 2) := by decide +kernel
theorem dX8_stop_43 : decode cX8_stop 43 = .ok (.ifCond .lt 38, 3) := by decide +kernel
theorem dX8_stop_46 : decode cX8_stop 46 = .ok (.aload_n 0, 1) := by decide +kernel
theorem dX8_stop_47 : decode cX8_stop 47 = .ok (.getfield 74, 3) := by decide +kernel
theorem dX8_stop_50 : decode cX8_stop 50 = .ok (.bipush 6, 2) := by decide +kernel
theorem dX8_stop_52 : decode cX8_stop 52 = .ok (.iload_n 3, 1) := by decide +kernel
theorem dX8_stop_53 : decode cX8_stop 53 = .ok (.imul, 1) := by decide +kernel
theorem dX8_stop_54 : decode cX8_stop 54 = .ok (.iload 4, 2) := by decide +kernel
theorem dX8_stop_56 : decode cX8_stop 56 = .ok (.iadd, 1) := by decide +kernel
theorem dX8_stop_57 : decode cX8_stop 57 = .ok (.iaload, 1) := by decide +kernel
theorem dX8_stop_58 : decode cX8_stop 58 = .ok (.iload_n 1, 1) := by decide +kernel
theorem dX8_stop_59 : decode cX8_stop 59 = .ok (.if_icmp .ne 13, 3) := by decide +kernel
theorem dX8_stop_62 : decode cX8_stop 62 = .ok (.aload_n 0, 1) := by decide +kernel
theorem dX8_stop_63 : decode cX8_stop 63 = .ok (.iload_n 3, 1) := by decide +kernel
theorem dX8_stop_64 : decode cX8_stop 64 = .ok (.iload 4, 2) := by decide +kernel
theorem dX8_stop_66 : decode cX8_stop 66 = .ok (.invokevirtual 137, 3) := by decide +kernel
theorem dX8_stop_69 : decode cX8_stop 69 = .ok (.goto 4, 3) := by decide +kernel
theorem dX8_stop_72 : decode cX8_stop 72 = .ok (.iconst (-1), 1) := by decide +kernel
theorem dX8_stop_73 : decode cX8_stop 73 = .ok (.istore 5, 2) := by decide +kernel
theorem dX8_stop_75 : decode cX8_stop 75 = .ok (.iinc 4 (-1), 3) := by decide +kernel
theorem dX8_stop_78 : decode cX8_stop 78 = .ok (.goto (-37), 3) := by decide +kernel
theorem dX8_stop_81 : decode cX8_stop 81 = .ok (.iconst 0, 1) := by decide +kernel
theorem dX8_stop_82 : decode cX8_stop 82 = .ok (.istore 4, 2) := by decide +kernel
theorem dX8_stop_84 : decode cX8_stop 84 = .ok (.iload 4, 2) := by decide +kernel
theorem dX8_stop_86 : decode cX8_stop 86 = .ok (.bipush 6, 2) := by decide +kernel
theorem dX8_stop_88 : decode cX8_stop 88 = .ok (.if_icmp .ge 26, 3) := by decide +kernel
theorem dX8_stop_91 : decode cX8_stop 91 = .ok (.aload_n 0, 1) := by decide +kernel
theorem dX8_stop_92 : decode cX8_stop 92 = .ok (.getfield 71, 3) := by decide +kernel
theorem dX8_stop_95 : decode cX8_stop 95 = .ok (.iload 4, 2) := by decide +kernel
theorem dX8_stop_97 : decode cX8_stop 97 = .ok (.iaload, 1) := by decide +kernel
theorem dX8_stop_98 : decode cX8_stop 98 = .ok (.iload_n 1, 1) := by decide +kernel
theorem dX8_stop_99 : decode cX8_stop 99 = .ok (.if_icmp .ne 9, 3) := by decide +kernel
theorem dX8_stop_102 : decode cX8_stop 102 = .ok (.aload_n 0, 1) := by decide +kernel
theorem dX8_stop_103 : decode cX8_stop 103 = .ok (.iload 4, 2) := by decide +kernel
theorem dX8_stop_105 : decode cX8_stop 105 = .ok (.invokevirtual 146, 3) := by decide +kernel
theorem dX8_stop_108 : decode cX8_stop 108 = .ok (.iinc 4 1, 3) := by decide +kernel
theorem dX8_stop_111 : decode cX8_stop 111 = .ok (.goto (-27), 3) := by decide +kernel
theorem dX8_stop_114 : decode cX8_stop 114 = .ok (.aload_n 0, 1) := by decide +kernel
theorem dX8_stop_115 : decode cX8_stop 115 = .ok (.iload_n 1, 1) := by decide +kernel
theorem dX8_stop_116 : decode cX8_stop 116 = .ok (.invokevirtual 150, 3) := by decide +kernel
theorem dX8_stop_119 : decode cX8_stop 119 = .ok (.aload_n 0, 1) := by decide +kernel
theorem dX8_stop_120 : decode cX8_stop 120 = .ok (.getfield 34, 3) := by decide +kernel
theorem dX8_stop_123 : decode cX8_stop 123 = .ok (.iload_n 1, 1) := by decide +kernel
theorem dX8_stop_124 : decode cX8_stop 124 = .ok (.iconst 0, 1) := by decide +kernel
theorem dX8_stop_125 : decode cX8_stop 125 = .ok (.bastore, 1) := by decide +kernel
theorem dX8_stop_126 : decode cX8_stop 126 = .ok (.aload_n 0, 1) := by decide +kernel
theorem dX8_stop_127 : decode cX8_stop 127 = .ok (.getfield 47, 3) := by decide +kernel
theorem dX8_stop_130 : decode cX8_stop 130 = .ok (.iload_n 1, 1) := by decide +kernel
theorem dX8_stop_131 : decode cX8_stop 131 = .ok (.iconst (-1), 1) := by decide +kernel
theorem dX8_stop_132 : decode cX8_stop 132 = .ok (.iastore, 1) := by decide +kernel
theorem dX8_stop_133 : decode cX8_stop 133 = .ok (.iload_n 2, 1) := by decide +kernel
theorem dX8_stop_134 : decode cX8_stop 134 = .ok (.ireturn, 1) := by decide +kernel
set_option maxRecDepth 20000 in
theorem ggX8_freeze_X8_isKiosk : GoodIn wsX8_freeze wsX8_isKiosk := goodIn_r _ [6, 7, 8, 9, 5, 10, 16, 17, 18, 19, 20, 21, 22, 23, 24, 25, 26, 27, 28, 29, 30, 31, 32, 33, 34, 35, 36, 37, 38, 39, 40, 41, 42, 43, 44, 45, 46, 47] (by decide +kernel) (by decide +kernel)
set_option maxRecDepth 20000 in
theorem gX8_freeze_X8_isKiosk : GoodIn wsX8_freeze (wsV RX8 123 RX8 yX8_isKiosk wsX8_isKiosk) := goodIn_app (goodIn_of _ (by decide +kernel)) ggX8_freeze_X8_isKiosk
set_option maxRecDepth 20000 in
theorem ggX8_freeze_X8_isThrown : GoodIn wsX8_freeze wsX8_isThrown := goodIn_r _ [14, 15, 16, 17, 18, 19, 20, 21, 22, 23, 24, 25, 26, 27, 28, 29, 30, 31, 32, 33, 34, 35, 36, 37, 38, 39, 40, 41, 42, 43, 44, 45, 46, 47] (by decide +kernel) (by decide +kernel)
set_option maxRecDepth 20000 in
theorem gX8_freeze_X8_isThrown : GoodIn wsX8_freeze (wsV RX8 103 RX8 yX8_isThrown wsX8_isThrown) := goodIn_app (goodIn_of _ (by decide +kernel)) ggX8_freeze_X8_isThrown
theorem dX8_freeze_0 : decode cX8_freeze 0 = .ok (.aload_n 0, 1) := by decide +kernel
theorem dX8_freeze_1 : decode cX8_freeze 1 = .ok (.aload_n 0, 1) := by decide +kernel
theorem dX8_freeze_2 : decode cX8_freeze 2 = .ok (.iload_n 1, 1) := by decide +kernel
theorem dX8_freeze_3 : decode cX8_freeze 3 = .ok (.invokevirtual 123, 3) := by decide +kernel
theorem dX8_freeze_6 : decode cX8_freeze 6 = .ok (.ifCond .ne 7, 3) := by decide +kernel
theorem dX8_freeze_9 : decode cX8_freeze 9 = .ok (.iconst 1, 1) := by decide +kernel
theorem dX8_freeze_10 : decode cX8_freeze 10 = .ok (.goto 4, 3) := by decide +kernel
theorem dX8_freeze_13 : decode cX8_freeze 13 = .ok (.iconst 0, 1) := by decide +kernel
theorem dX8_freeze_14 : decode cX8_freeze 14 = .ok (.iconst 1, 1) := by decide +kernel
theorem dX8_freeze_15 : decode cX8_freeze 15 = .ok (.invokevirtual 103, 3) := by decide +kernel
theorem dX8_freeze_18 : decode cX8_freeze 18 = .ok (.ifCond .eq 5, 3) := by decide +kernel
theorem dX8_freeze_21 : decode cX8_freeze 21 = .ok (.iconst 0, 1) := by decide +kernel
theorem dX8_freeze_22 : decode cX8_freeze 22 = .ok (.ireturn, 1) := by decide +kernel
theorem dX8_freeze_23 : decode cX8_freeze 23 = .ok (.aload_n 0, 1) := by decide +kernel
theorem dX8_freeze_24 : decode cX8_freeze 24 = .ok (.getfield 38, 3) := by decide +kernel
theorem dX8_freeze_27 : decode cX8_freeze 27 = .ok (.iload_n 1, 1) := by decide +kernel
theorem dX8_freeze_28 : decode cX8_freeze 28 = .ok (.baload, 1) := by decide +kernel
theorem dX8_freeze_29 : decode cX8_freeze 29 = .ok (.istore_n 2, 1) := by decide +kernel
theorem dX8_freeze_30 : decode cX8_freeze 30 = .ok (.aload_n 0, 1) := by decide +kernel
theorem dX8_freeze_31 : decode cX8_freeze 31 = .ok (.getfield 38, 3) := by decide +kernel
theorem dX8_freeze_34 : decode cX8_freeze 34 = .ok (.iload_n 1, 1) := by decide +kernel
theorem dX8_freeze_35 : decode cX8_freeze 35 = .ok (.iconst 1, 1) := by decide +kernel
theorem dX8_freeze_36 : decode cX8_freeze 36 = .ok (.bastore, 1) := by decide +kernel
theorem dX8_freeze_37 : decode cX8_freeze 37 = .ok (.iload_n 2, 1) := by decide +kernel
theorem dX8_freeze_38 : decode cX8_freeze 38 = .ok (.ifCond .ne 7, 3) := by decide +kernel
theorem dX8_freeze_41 : decode cX8_freeze 41 = .ok (.iconst 1, 1) := by decide +kernel
theorem dX8_freeze_42 : decode cX8_freeze 42 = .ok (.goto 4, 3) := by decide +kernel
theorem dX8_freeze_45 : decode cX8_freeze 45 = .ok (.iconst 0, 1) := by decide +kernel
theorem dX8_freeze_46 : decode cX8_freeze 46 = .ok (.ireturn, 1) := by decide +kernel
set_option maxRecDepth 20000 in
theorem ggX8_thaw_X8_isKiosk : GoodIn wsX8_thaw wsX8_isKiosk := goodIn_r _ [11, 5, 12, 13, 10, 14, 30, 31, 32, 33, 34, 35, 36, 37, 38, 39, 40, 41, 42, 43, 44, 45, 46, 47, 48, 49, 50, 51, 52, 53, 54, 55, 56, 57, 58, 59, 60, 61] (by decide +kernel) (by decide +kernel)
set_option maxRecDepth 20000 in
theorem gX8_thaw_X8_isKiosk : GoodIn wsX8_thaw (wsV RX8 123 RX8 yX8_isKiosk wsX8_isKiosk) := goodIn_app (goodIn_of _ (by decide +kernel)) ggX8_thaw_X8_isKiosk
set_option maxRecDepth 20000 in
theorem ggX8_thaw_X8_isThrown : GoodIn wsX8_thaw wsX8_isThrown := goodIn_r _ [18, 19, 30, 31, 32, 33, 34, 35, 36, 37, 38, 39, 40, 41, 42, 43, 44, 45, 46, 47, 48, 49, 50, 51, 52, 53, 54, 55, 56, 57, 58, 59, 60, 61] (by decide +kernel) (by decide +kernel)
set_option maxRecDepth 20000 in
theorem gX8_thaw_X8_isThrown : GoodIn wsX8_thaw (wsV RX8 103 RX8 yX8_isThrown wsX8_isThrown) := goodIn_app (goodIn_of _ (by decide +kernel)) ggX8_thaw_X8_isThrown
set_option maxRecDepth 20000 in
theorem ggX8_thaw_X8_leaves : GoodIn wsX8_thaw wsX8_leaves := goodIn_ca (goodIn_r _ [23, 6, 24, 25, 30, 31, 32, 33, 34, 35, 36, 37, 38, 39, 40, 41, 42, 43, 44, 45, 46, 47, 48, 49, 50, 51, 52, 53, 54, 55, 56, 57, 58, 59, 60, 61] (by decide +kernel) (by decide +kernel)) (goodIn_sub (fun _ h => List.mem_cons_of_mem _ (List.mem_append_right _ h)) (by decide +kernel))
set_option maxRecDepth 20000 in
theorem gX8_thaw_X8_leaves : GoodIn wsX8_thaw (wsV RX8 150 RX8 yX8_leaves wsX8_leaves) := goodIn_app (goodIn_of _ (by decide +kernel)) ggX8_thaw_X8_leaves
set_option maxRecDepth 20000 in
theorem ggX8_thaw_X8_comesTo : GoodIn wsX8_thaw wsX8_comesTo := goodIn_ca (goodIn_r _ [29, 6, 25, 24, 30, 31, 32, 33, 34, 35, 36, 37, 38, 39, 40, 41, 42, 43, 44, 45, 46, 47, 48, 49, 50, 51, 52, 53, 54, 55, 56, 57, 58, 59, 60, 61] (by decide +kernel) (by decide +kernel)) (goodIn_sub (fun _ h => List.mem_cons_of_mem _ (List.mem_append_right _ h)) (by decide +kernel))
set_option maxRecDepth 20000 in
theorem gX8_thaw_X8_comesTo : GoodIn wsX8_thaw (wsV RX8 134 RX8 yX8_comesTo wsX8_comesTo) := goodIn_app (goodIn_of _ (by decide +kernel)) ggX8_thaw_X8_comesTo
theorem dX8_thaw_0 : decode cX8_thaw 0 = .ok (.aload_n 0, 1) := by decide +kernel
theorem dX8_thaw_1 : decode cX8_thaw 1 = .ok (.aload_n 0, 1) := by decide +kernel
theorem dX8_thaw_2 : decode cX8_thaw 2 = .ok (.iload_n 1, 1) := by decide +kernel
theorem dX8_thaw_3 : decode cX8_thaw 3 = .ok (.invokevirtual 123, 3) := by decide +kernel
theorem dX8_thaw_6 : decode cX8_thaw 6 = .ok (.ifCond .ne 7, 3) := by decide +kernel
theorem dX8_thaw_9 : decode cX8_thaw 9 = .ok (.iconst 1, 1) := by decide +kernel
theorem dX8_thaw_10 : decode cX8_thaw 10 = .ok (.goto 4, 3) := by decide +kernel
theorem dX8_thaw_13 : decode cX8_thaw 13 = .ok (.iconst 0, 1) := by decide +kernel
theorem dX8_thaw_14 : decode cX8_thaw 14 = .ok (.iconst 1, 1) := by decide +kernel
theorem dX8_thaw_15 : decode cX8_thaw 15 = .ok (.invokevirtual 103, 3) := by decide +kernel
theorem dX8_thaw_18 : decode cX8_thaw 18 = .ok (.ifCond .eq 5, 3) := by decide +kernel
theorem dX8_thaw_21 : decode cX8_thaw 21 = .ok (.iconst 0, 1) := by decide +kernel
theorem dX8_thaw_22 : decode cX8_thaw 22 = .ok (.ireturn, 1) := by decide +kernel
theorem dX8_thaw_23 : decode cX8_thaw 23 = .ok (.aload_n 0, 1) := by decide +kernel
theorem dX8_thaw_24 : decode cX8_thaw 24 = .ok (.getfield 41, 3) := by decide +kernel
theorem dX8_thaw_27 : decode cX8_thaw 27 = .ok (.iload_n 1, 1) := by decide +kernel
theorem dX8_thaw_28 : decode cX8_thaw 28 = .ok (.baload, 1) := by decide +kernel
theorem dX8_thaw_29 : decode cX8_thaw 29 = .ok (.istore_n 2, 1) := by decide +kernel
theorem dX8_thaw_30 : decode cX8_thaw 30 = .ok (.aload_n 0, 1) := by decide +kernel
theorem dX8_thaw_31 : decode cX8_thaw 31 = .ok (.getfield 38, 3) := by decide +kernel
theorem dX8_thaw_34 : decode cX8_thaw 34 = .ok (.iload_n 1, 1) := by decide +kernel
theorem dX8_thaw_35 : decode cX8_thaw 35 = .ok (.iconst 0, 1) := by decide +kernel
theorem dX8_thaw_36 : decode cX8_thaw 36 = .ok (.bastore, 1) := by decide +kernel
theorem dX8_thaw_37 : decode cX8_thaw 37 = .ok (.aload_n 0, 1) := by decide +kernel
theorem dX8_thaw_38 : decode cX8_thaw 38 = .ok (.getfield 41, 3) := by decide +kernel
theorem dX8_thaw_41 : decode cX8_thaw 41 = .ok (.iload_n 1, 1) := by decide +kernel
theorem dX8_thaw_42 : decode cX8_thaw 42 = .ok (.iconst 0, 1) := by decide +kernel
theorem dX8_thaw_43 : decode cX8_thaw 43 = .ok (.bastore, 1) := by decide +kernel
theorem dX8_thaw_44 : decode cX8_thaw 44 = .ok (.aload_n 0, 1) := by decide +kernel
theorem dX8_thaw_45 : decode cX8_thaw 45 = .ok (.getfield 59, 3) := by decide +kernel
theorem dX8_thaw_48 : decode cX8_thaw 48 = .ok (.iload_n 1, 1) := by decide +kernel
theorem dX8_thaw_49 : decode cX8_thaw 49 = .ok (.iconst 0, 1) := by decide +kernel
theorem dX8_thaw_50 : decode cX8_thaw 50 = .ok (.iastore, 1) := by decide +kernel
theorem dX8_thaw_51 : decode cX8_thaw 51 = .ok (.iconst 0, 1) := by decide +kernel
theorem dX8_thaw_52 : decode cX8_thaw 52 = .ok (.istore_n 3, 1) := by decide +kernel
theorem dX8_thaw_53 : decode cX8_thaw 53 = .ok (.iload_n 2, 1) := by decide +kernel
theorem dX8_thaw_54 : decode cX8_thaw 54 = .ok (.ifCond .eq 26, 3) := by decide +kernel
theorem dX8_thaw_57 : decode cX8_thaw 57 = .ok (.aload_n 0, 1) := by decide +kernel
theorem dX8_thaw_58 : decode cX8_thaw 58 = .ok (.getfield 34, 3) := by decide +kernel
theorem dX8_thaw_61 : decode cX8_thaw 61 = .ok (.iload_n 1, 1) := by decide +kernel
theorem dX8_thaw_62 : decode cX8_thaw 62 = .ok (.baload, 1) := by decide +kernel
theorem dX8_thaw_63 : decode cX8_thaw 63 = .ok (.ifCond .eq 17, 3) := by decide +kernel
theorem dX8_thaw_66 : decode cX8_thaw 66 = .ok (.aload_n 0, 1) := by decide +kernel
theorem dX8_thaw_67 : decode cX8_thaw 67 = .ok (.iload_n 1, 1) := by decide +kernel
theorem dX8_thaw_68 : decode cX8_thaw 68 = .ok (.invokevirtual 150, 3) := by decide +kernel
theorem dX8_thaw_71 : decode cX8_thaw 71 = .ok (.aload_n 0, 1) := by decide +kernel
theorem dX8_thaw_72 : decode cX8_thaw 72 = .ok (.iload_n 1, 1) := by decide +kernel
theorem dX8_thaw_73 : decode cX8_thaw 73 = .ok (.iload_n 1, 1) := by decide +kernel
theorem dX8_thaw_74 : decode cX8_thaw 74 = .ok (.invokevirtual 134, 3) := by decide +kernel
theorem dX8_thaw_77 : decode cX8_thaw 77 = .ok (.iinc 3 1, 3) := by decide +kernel
theorem dX8_thaw_80 : decode cX8_thaw 80 = .ok (.iconst 0, 1) := by decide +kernel
theorem dX8_thaw_81 : decode cX8_thaw 81 = .ok (.istore 4, 2) := by decide +kernel
theorem dX8_thaw_83 : decode cX8_thaw 83 = .ok (.iload 4, 2) := by decide +kernel
theorem dX8_thaw_85 : decode cX8_thaw 85 = .ok (.aload_n 0, 1) := by decide +kernel
theorem dX8_thaw_86 : decode cX8_thaw 86 = .ok (.getfield 100, 3) := by decide +kernel
theorem dX8_thaw_89 : decode cX8_thaw 89 = .ok (.if_icmp .ge 43, 3) := by decide +kernel
theorem dX8_thaw_92 : decode cX8_thaw 92 = .ok (.iload_n 2, 1) := by decide +kernel
theorem dX8_thaw_93 : decode cX8_thaw 93 = .ok (.ifCond .eq 39, 3) := by decide +kernel
theorem dX8_thaw_96 : decode cX8_thaw 96 = .ok (.aload_n 0, 1) := by decide +kernel
theorem dX8_thaw_97 : decode cX8_thaw 97 = .ok (.getfield 34, 3) := by decide +kernel
theorem dX8_thaw_100 : decode cX8_thaw 100 = .ok (.iload 4, 2) := by decide +kernel
theorem dX8_thaw_102 : decode cX8_thaw 102 = .ok (.baload, 1) := by decide +kernel
theorem dX8_thaw_103 : decode cX8_thaw 103 = .ok (.ifCond .eq 23, 3) := by decide +kernel
theorem dX8_thaw_106 : decode cX8_thaw 106 = .ok (.aload_n 0, 1) := by decide +kernel
theorem dX8_thaw_107 : decode cX8_thaw 107 = .ok (.getfield 47, 3) := by decide +kernel
theorem dX8_thaw_110 : decode cX8_thaw 110 = .ok (.iload 4, 2) := by decide +kernel
theorem dX8_thaw_112 : decode cX8_thaw 112 = .ok (.iaload, 1) := by decide +kernel
theorem dX8_thaw_113 : decode cX8_thaw 113 = .ok (.ifCond .ge 13, 3) := by decide +kernel
theorem dX8_thaw_116 : decode cX8_thaw 116 = .ok (.aload_n 0, 1) := by decide +kernel
theorem dX8_thaw_117 : decode cX8_thaw 117 = .ok (.iload 4, 2) := by decide +kernel
theorem dX8_thaw_119 : decode cX8_thaw 119 = .ok (.iload_n 1, 1) := by decide +kernel
theorem dX8_thaw_120 : decode cX8_thaw 120 = .ok (.invokevirtual 134, 3) := by decide +kernel
theorem dX8_thaw_123 : decode cX8_thaw 123 = .ok (.iinc 3 1, 3) := by decide +kernel
theorem dX8_thaw_126 : decode cX8_thaw 126 = .ok (.iinc 4 1, 3) := by decide +kernel
theorem dX8_thaw_129 : decode cX8_thaw 129 = .ok (.goto (-46), 3) := by decide +kernel
theorem dX8_thaw_132 : decode cX8_thaw 132 = .ok (.iload_n 3, 1) := by decide +kernel
theorem dX8_thaw_133 : decode cX8_thaw 133 = .ok (.ireturn, 1) := by decide +kernel
set_option maxRecDepth 20000 in
theorem ggX8_state_X8_isKiosk : GoodIn wsX8_state wsX8_isKiosk := goodIn_r _ [7, 8, 9, 10, 6, 11, 17, 18, 19, 20, 21, 22, 23, 24, 25, 26, 27, 28, 29, 30, 31, 32, 33, 34, 35, 36, 37, 38, 39, 40, 41, 42, 43, 44, 45, 46, 47, 48] (by decide +kernel) (by decide +kernel)
set_option maxRecDepth 20000 in
theorem gX8_state_X8_isKiosk : GoodIn wsX8_state (wsV RX8 123 RX8 yX8_isKiosk wsX8_isKiosk) := goodIn_app (goodIn_of _ (by decide +kernel)) ggX8_state_X8_isKiosk
set_option maxRecDepth 20000 in
theorem ggX8_state_X8_isThrown : GoodIn wsX8_state wsX8_isThrown := goodIn_r _ [15, 16, 17, 18, 19, 20, 21, 22, 23, 24, 25, 26, 27, 28, 29, 30, 31, 32, 33, 34, 35, 36, 37, 38, 39, 40, 41, 42, 43, 44, 45, 46, 47, 48] (by decide +kernel) (by decide +kernel)
set_option maxRecDepth 20000 in
theorem gX8_state_X8_isThrown : GoodIn wsX8_state (wsV RX8 103 RX8 yX8_isThrown wsX8_isThrown) := goodIn_app (goodIn_of _ (by decide +kernel)) ggX8_state_X8_isThrown
theorem dX8_state_0 : decode cX8_state 0 = .ok (.aload_n 0, 1) := by decide +kernel
theorem dX8_state_1 : decode cX8_state 1 = .ok (.aload_n 0, 1) := by decide +kernel
theorem dX8_state_2 : decode cX8_state 2 = .ok (.iload_n 1, 1) := by decide +kernel
theorem dX8_state_3 : decode cX8_state 3 = .ok (.invokevirtual 123, 3) := by decide +kernel
theorem dX8_state_6 : decode cX8_state 6 = .ok (.ifCond .ne 7, 3) := by decide +kernel
theorem dX8_state_9 : decode cX8_state 9 = .ok (.iconst 1, 1) := by decide +kernel
theorem dX8_state_10 : decode cX8_state 10 = .ok (.goto 4, 3) := by decide +kernel
theorem dX8_state_13 : decode cX8_state 13 = .ok (.iconst 0, 1) := by decide +kernel
theorem dX8_state_14 : decode cX8_state 14 = .ok (.iconst 1, 1) := by decide +kernel
theorem dX8_state_15 : decode cX8_state 15 = .ok (.invokevirtual 103, 3) := by decide +kernel
theorem dX8_state_18 : decode cX8_state 18 = .ok (.ifCond .eq 8, 3) := by decide +kernel
theorem dX8_state_21 : decode cX8_state 21 = .ok (.bipush 45, 2) := by decide +kernel
theorem dX8_state_23 : decode cX8_state 23 = .ok (.goto 33, 3) := by decide +kernel
theorem dX8_state_26 : decode cX8_state 26 = .ok (.aload_n 0, 1) := by decide +kernel
theorem dX8_state_27 : decode cX8_state 27 = .ok (.getfield 41, 3) := by decide +kernel
theorem dX8_state_30 : decode cX8_state 30 = .ok (.iload_n 1, 1) := by decide +kernel
theorem dX8_state_31 : decode cX8_state 31 = .ok (.baload, 1) := by decide +kernel
theorem dX8_state_32 : decode cX8_state 32 = .ok (.ifCond .eq 8, 3) := by decide +kernel
theorem dX8_state_35 : decode cX8_state 35 = .ok (.bipush 111, 2) := by decide +kernel
theorem dX8_state_37 : decode cX8_state 37 = .ok (.goto 19, 3) := by decide +kernel
theorem dX8_state_40 : decode cX8_state 40 = .ok (.aload_n 0, 1) := by decide +kernel
theorem dX8_state_41 : decode cX8_state 41 = .ok (.getfield 38, 3) := by decide +kernel
theorem dX8_state_44 : decode cX8_state 44 = .ok (.iload_n 1, 1) := by decide +kernel
theorem dX8_state_45 : decode cX8_state 45 = .ok (.baload, 1) := by decide +kernel
theorem dX8_state_46 : decode cX8_state 46 = .ok (.ifCond .eq 8, 3) := by decide +kernel
theorem dX8_state_49 : decode cX8_state 49 = .ok (.bipush 102, 2) := by decide +kernel
theorem dX8_state_51 : decode cX8_state 51 = .ok (.goto 5, 3) := by decide +kernel
theorem dX8_state_54 : decode cX8_state 54 = .ok (.bipush 112, 2) := by decide +kernel
theorem dX8_state_56 : decode cX8_state 56 = .ok (.ireturn, 1) := by decide +kernel
set_option maxRecDepth 20000 in
theorem ggX8_plays_X8_isNone : GoodIn wsX8_plays wsX8_isNone := goodIn_ca (goodIn_r _ [6, 7, 8, 9, 10, 5, 11, 12, 13, 14, 15, 16, 17, 18, 19, 20, 21, 22, 23, 24, 25, 26, 27, 28, 29, 30, 31, 32, 33, 34, 35, 36, 37, 38, 39, 40, 41, 42, 43, 44, 45, 46, 47, 48, 49, 50, 51, 52] (by decide +kernel) (by decide +kernel)) (goodIn_sub (fun _ h => List.mem_cons_of_mem _ (List.mem_append_right _ h)) (by decide +kernel))
set_option maxRecDepth 20000 in
theorem gX8_plays_X8_isNone : GoodIn wsX8_plays (wsV RX8 140 RX8 yX8_isNone wsX8_isNone) := goodIn_app (goodIn_of _ (by decide +kernel)) ggX8_plays_X8_isNone
theorem dX8_plays_0 : decode cX8_plays 0 = .ok (.aload_n 0, 1) := by decide +kernel
theorem dX8_plays_1 : decode cX8_plays 1 = .ok (.iload_n 1, 1) := by decide +kernel
theorem dX8_plays_2 : decode cX8_plays 2 = .ok (.invokevirtual 140, 3) := by decide +kernel
theorem dX8_plays_5 : decode cX8_plays 5 = .ok (.ifCond .eq 7, 3) := by decide +kernel
theorem dX8_plays_8 : decode cX8_plays 8 = .ok (.iconst 0, 1) := by decide +kernel
theorem dX8_plays_9 : decode cX8_plays 9 = .ok (.goto 9, 3) := by decide +kernel
theorem dX8_plays_12 : decode cX8_plays 12 = .ok (.aload_n 0, 1) := by decide +kernel
theorem dX8_plays_13 : decode cX8_plays 13 = .ok (.getfield 47, 3) := by decide +kernel
theorem dX8_plays_16 : decode cX8_plays 16 = .ok (.iload_n 1, 1) := by decide +kernel
theorem dX8_plays_17 : decode cX8_plays 17 = .ok (.iaload, 1) := by decide +kernel
theorem dX8_plays_18 : decode cX8_plays 18 = .ok (.ireturn, 1) := by decide +kernel
set_option maxRecDepth 20000 in
theorem ggX8_playerAt_X8_isKiosk : GoodIn wsX8_playerAt wsX8_isKiosk := goodIn_r _ [7, 8, 9, 10, 6, 11, 17, 18, 19, 20, 21, 22, 23, 24, 25, 26, 27, 28, 29, 30, 31, 32, 33, 34, 35, 36, 37, 38, 39, 40, 41, 42, 43, 44, 45, 46, 47, 48] (by decide +kernel) (by decide +kernel)
set_option maxRecDepth 20000 in
theorem gX8_playerAt_X8_isKiosk : GoodIn wsX8_playerAt (wsV RX8 123 RX8 yX8_isKiosk wsX8_isKiosk) := goodIn_app (goodIn_of _ (by decide +kernel)) ggX8_playerAt_X8_isKiosk
set_option maxRecDepth 20000 in
theorem ggX8_playerAt_X8_isThrown : GoodIn wsX8_playerAt wsX8_isThrown := goodIn_r _ [15, 16, 17, 18, 19, 20, 21, 22, 23, 24, 25, 26, 27, 28, 29, 30, 31, 32, 33, 34, 35, 36, 37, 38, 39, 40, 41, 42, 43, 44, 45, 46, 47, 48] (by decide +kernel) (by decide +kernel)
set_option maxRecDepth 20000 in
theorem gX8_playerAt_X8_isThrown : GoodIn wsX8_playerAt (wsV RX8 103 RX8 yX8_isThrown wsX8_isThrown) := goodIn_app (goodIn_of _ (by decide +kernel)) ggX8_playerAt_X8_isThrown
set_option maxRecDepth 20000 in
theorem ggX8_playerAt_X8_isIn : GoodIn wsX8_playerAt wsX8_isIn := goodIn_r _ [11] (by decide +kernel) (by decide +kernel)
set_option maxRecDepth 20000 in
theorem gX8_playerAt_X8_isIn : GoodIn wsX8_playerAt (va_wsS RX8 96 yX8_isIn wsX8_isIn) := goodIn_app (goodIn_of _ (by decide +kernel)) ggX8_playerAt_X8_isIn
theorem dX8_playerAt_0 : decode cX8_playerAt 0 = .ok (.aload_n 0, 1) := by decide +kernel
theorem dX8_playerAt_1 : decode cX8_playerAt 1 = .ok (.aload_n 0, 1) := by decide +kernel
theorem dX8_playerAt_2 : decode cX8_playerAt 2 = .ok (.iload_n 1, 1) := by decide +kernel
theorem dX8_playerAt_3 : decode cX8_playerAt 3 = .ok (.invokevirtual 123, 3) := by decide +kernel
theorem dX8_playerAt_6 : decode cX8_playerAt 6 = .ok (.ifCond .ne 7, 3) := by decide +kernel
theorem dX8_playerAt_9 : decode cX8_playerAt 9 = .ok (.iconst 1, 1) := by decide +kernel
theorem dX8_playerAt_10 : decode cX8_playerAt 10 = .ok (.goto 4, 3) := by decide +kernel
theorem dX8_playerAt_13 : decode cX8_playerAt 13 = .ok (.iconst 0, 1) := by decide +kernel
theorem dX8_playerAt_14 : decode cX8_playerAt 14 = .ok (.iconst 1, 1) := by decide +kernel
theorem dX8_playerAt_15 : decode cX8_playerAt 15 = .ok (.invokevirtual 103, 3) := by decide +kernel
theorem dX8_playerAt_18 : decode cX8_playerAt 18 = .ok (.ifCond .ne 32, 3) := by decide +kernel
theorem dX8_playerAt_21 : decode cX8_playerAt 21 = .ok (.aload_n 0, 1) := by decide +kernel
theorem dX8_playerAt_22 : decode cX8_playerAt 22 = .ok (.iload_n 2, 1) := by decide +kernel
theorem dX8_playerAt_23 : decode cX8_playerAt 23 = .ok (.iconst 0, 1) := by decide +kernel
theorem dX8_playerAt_24 : decode cX8_playerAt 24 = .ok (.aload_n 0, 1) := by decide +kernel
theorem dX8_playerAt_25 : decode cX8_playerAt 25 = .ok (.getfield 68, 3) := by decide +kernel
theorem dX8_playerAt_28 : decode cX8_playerAt 28 = .ok (.iload_n 1, 1) := by decide +kernel
theorem dX8_playerAt_29 : decode cX8_playerAt 29 = .ok (.iaload, 1) := by decide +kernel
theorem dX8_playerAt_30 : decode cX8_playerAt 30 = .ok (.iconst 1, 1) := by decide +kernel
theorem dX8_playerAt_31 : decode cX8_playerAt 31 = .ok (.isub, 1) := by decide +kernel
theorem dX8_playerAt_32 : decode cX8_playerAt 32 = .ok (.invokestatic 96, 3) := by decide +kernel
theorem dX8_playerAt_35 : decode cX8_playerAt 35 = .ok (.ifCond .ne 7, 3) := by decide +kernel
theorem dX8_playerAt_38 : decode cX8_playerAt 38 = .ok (.iconst 1, 1) := by decide +kernel
theorem dX8_playerAt_39 : decode cX8_playerAt 39 = .ok (.goto 4, 3) := by decide +kernel
theorem dX8_playerAt_42 : decode cX8_playerAt 42 = .ok (.iconst 0, 1) := by decide +kernel
theorem dX8_playerAt_43 : decode cX8_playerAt 43 = .ok (.iconst 2, 1) := by decide +kernel
theorem dX8_playerAt_44 : decode cX8_playerAt 44 = .ok (.invokevirtual 103, 3) := by decide +kernel
theorem dX8_playerAt_47 : decode cX8_playerAt 47 = .ok (.ifCond .eq 5, 3) := by decide +kernel
theorem dX8_playerAt_50 : decode cX8_playerAt 50 = .ok (.iconst 0, 1) := by decide +kernel
theorem dX8_playerAt_51 : decode cX8_playerAt 51 = .ok (.ireturn, 1) := by decide +kernel
theorem dX8_playerAt_52 : decode cX8_playerAt 52 = .ok (.aload_n 0, 1) := by decide +kernel
theorem dX8_playerAt_53 : decode cX8_playerAt 53 = .ok (.getfield 65, 3) := by decide +kernel
theorem dX8_playerAt_56 : decode cX8_playerAt 56 = .ok (.bipush 6, 2) := by decide +kernel
theorem dX8_playerAt_58 : decode cX8_playerAt 58 = .ok (.iload_n 1, 1) := by decide +kernel
theorem dX8_playerAt_59 : decode cX8_playerAt 59 = .ok (.imul, 1) := by decide +kernel
theorem dX8_playerAt_60 : decode cX8_playerAt 60 = .ok (.iload_n 2, 1) := by decide +kernel
theorem dX8_playerAt_61 : decode cX8_playerAt 61 = .ok (.iadd, 1) := by decide +kernel
theorem dX8_playerAt_62 : decode cX8_playerAt 62 = .ok (.iaload, 1) := by decide +kernel
theorem dX8_playerAt_63 : decode cX8_playerAt 63 = .ok (.ireturn, 1) := by decide +kernel
set_option maxRecDepth 20000 in
theorem ggX8_next_X8_isNone : GoodIn wsX8_next wsX8_isNone := goodIn_ca (goodIn_r _ [7, 8, 9, 10, 11, 6, 12, 13, 14, 15, 16, 17, 18, 19, 20, 21, 26, 27, 28, 29, 30, 31, 32, 33, 34, 35, 36, 37, 38, 39, 40, 41, 42, 43, 44, 45, 46, 47, 48, 49, 50, 51, 52, 53, 54, 55, 56, 57] (by decide +kernel) (by decide +kernel)) (goodIn_sub (fun _ h => List.mem_cons_of_mem _ (List.mem_append_right _ h)) (by decide +kernel))
set_option maxRecDepth 20000 in
theorem gX8_next_X8_isNone : GoodIn wsX8_next (wsV RX8 140 RX8 yX8_isNone wsX8_isNone) := goodIn_app (goodIn_of _ (by decide +kernel)) ggX8_next_X8_isNone
set_option maxRecDepth 20000 in
theorem ggX8_next_X8_top : GoodIn wsX8_next wsX8_top := goodIn_ca (goodIn_r _ [25, 1, 26, 27, 28, 29, 30, 31, 32, 33, 34, 35, 36, 37, 38, 39, 40, 41, 42, 43, 44, 45, 46, 47, 48, 49, 50, 51, 52, 53, 54, 55, 56, 57] (by decide +kernel) (by decide +kernel)) (goodIn_sub (fun _ h => List.mem_cons_of_mem _ (List.mem_append_right _ h)) (by decide +kernel))
set_option maxRecDepth 20000 in
theorem gX8_next_X8_top : GoodIn wsX8_next (wsV RX8 153 RX8 yX8_top wsX8_top) := goodIn_app (goodIn_of _ (by decide +kernel)) ggX8_next_X8_top
theorem dX8_next_0 : decode cX8_next 0 = .ok (.aload_n 0, 1) := by decide +kernel
theorem dX8_next_1 : decode cX8_next 1 = .ok (.iload_n 1, 1) := by decide +kernel
theorem dX8_next_2 : decode cX8_next 2 = .ok (.invokevirtual 140, 3) := by decide +kernel
theorem dX8_next_5 : decode cX8_next 5 = .ok (.ifCond .eq 7, 3) := by decide +kernel
theorem dX8_next_8 : decode cX8_next 8 = .ok (.iconst 0, 1) := by decide +kernel
theorem dX8_next_9 : decode cX8_next 9 = .ok (.goto 23, 3) := by decide +kernel
theorem dX8_next_12 : decode cX8_next 12 = .ok (.bipush 100, 2) := by decide +kernel
theorem dX8_next_14 : decode cX8_next 14 = .ok (.aload_n 0, 1) := by decide +kernel
theorem dX8_next_15 : decode cX8_next 15 = .ok (.getfield 44, 3) := by decide +kernel
theorem dX8_next_18 : decode cX8_next 18 = .ok (.iload_n 1, 1) := by decide +kernel
theorem dX8_next_19 : decode cX8_next 19 = .ok (.iaload, 1) := by decide +kernel
theorem dX8_next_20 : decode cX8_next 20 = .ok (.imul, 1) := by decide +kernel
theorem dX8_next_21 : decode cX8_next 21 = .ok (.aload_n 0, 1) := by decide +kernel
theorem dX8_next_22 : decode cX8_next 22 = .ok (.getfield 31, 3) := by decide +kernel
theorem dX8_next_25 : decode cX8_next 25 = .ok (.aload_n 0, 1) := by decide +kernel
theorem dX8_next_26 : decode cX8_next 26 = .ok (.iload_n 1, 1) := by decide +kernel
theorem dX8_next_27 : decode cX8_next 27 = .ok (.invokevirtual 153, 3) := by decide +kernel
theorem dX8_next_30 : decode cX8_next 30 = .ok (.iaload, 1) := by decide +kernel
theorem dX8_next_31 : decode cX8_next 31 = .ok (.iadd, 1) := by decide +kernel
theorem dX8_next_32 : decode cX8_next 32 = .ok (.ireturn, 1) := by decide +kernel
set_option maxRecDepth 20000 in
theorem ggX8_count_X8_isNone : GoodIn wsX8_count wsX8_isNone := goodIn_ca (goodIn_r _ [6, 7, 8, 9, 10, 5, 11, 12, 13, 14, 15, 16, 17, 18, 19, 20, 21, 22, 23, 24, 25, 26, 27, 28, 29, 30, 31, 32, 33, 34, 35, 36, 37, 38, 39, 40, 41, 42, 43, 44, 45, 46, 47, 48, 49, 50, 51, 52] (by decide +kernel) (by decide +kernel)) (goodIn_sub (fun _ h => List.mem_cons_of_mem _ (List.mem_append_right _ h)) (by decide +kernel))
set_option maxRecDepth 20000 in
theorem gX8_count_X8_isNone : GoodIn wsX8_count (wsV RX8 140 RX8 yX8_isNone wsX8_isNone) := goodIn_app (goodIn_of _ (by decide +kernel)) ggX8_count_X8_isNone
theorem dX8_count_0 : decode cX8_count 0 = .ok (.aload_n 0, 1) := by decide +kernel
theorem dX8_count_1 : decode cX8_count 1 = .ok (.iload_n 1, 1) := by decide +kernel
theorem dX8_count_2 : decode cX8_count 2 = .ok (.invokevirtual 140, 3) := by decide +kernel
theorem dX8_count_5 : decode cX8_count 5 = .ok (.ifCond .eq 7, 3) := by decide +kernel
theorem dX8_count_8 : decode cX8_count 8 = .ok (.iconst 0, 1) := by decide +kernel
theorem dX8_count_9 : decode cX8_count 9 = .ok (.goto 9, 3) := by decide +kernel
theorem dX8_count_12 : decode cX8_count 12 = .ok (.aload_n 0, 1) := by decide +kernel
theorem dX8_count_13 : decode cX8_count 13 = .ok (.getfield 50, 3) := by decide +kernel
theorem dX8_count_16 : decode cX8_count 16 = .ok (.iload_n 1, 1) := by decide +kernel
theorem dX8_count_17 : decode cX8_count 17 = .ok (.iaload, 1) := by decide +kernel
theorem dX8_count_18 : decode cX8_count 18 = .ok (.ireturn, 1) := by decide +kernel
set_option maxRecDepth 20000 in
theorem ggX8_waits_X8_isNone : GoodIn wsX8_waits wsX8_isNone := goodIn_ca (goodIn_r _ [7, 8, 9, 10, 11, 6, 12, 13, 14, 15, 16, 17, 18, 19, 20, 21, 22, 23, 24, 25, 26, 27, 28, 29, 30, 31, 32, 33, 34, 35, 36, 37, 38, 39, 40, 41, 42, 43, 44, 45, 46, 47, 48, 49, 50, 51, 52, 53] (by decide +kernel) (by decide +kernel)) (goodIn_sub (fun _ h => List.mem_cons_of_mem _ (List.mem_append_right _ h)) (by decide +kernel))
set_option maxRecDepth 20000 in
theorem gX8_waits_X8_isNone : GoodIn wsX8_waits (wsV RX8 140 RX8 yX8_isNone wsX8_isNone) := goodIn_app (goodIn_of _ (by decide +kernel)) ggX8_waits_X8_isNone
theorem dX8_waits_0 : decode cX8_waits 0 = .ok (.aload_n 0, 1) := by decide +kernel
theorem dX8_waits_1 : decode cX8_waits 1 = .ok (.iload_n 1, 1) := by decide +kernel
theorem dX8_waits_2 : decode cX8_waits 2 = .ok (.invokevirtual 140, 3) := by decide +kernel
theorem dX8_waits_5 : decode cX8_waits 5 = .ok (.ifCond .eq 7, 3) := by decide +kernel
theorem dX8_waits_8 : decode cX8_waits 8 = .ok (.iconst 0, 1) := by decide +kernel
theorem dX8_waits_9 : decode cX8_waits 9 = .ok (.goto 23, 3) := by decide +kernel
theorem dX8_waits_12 : decode cX8_waits 12 = .ok (.aload_n 0, 1) := by decide +kernel
theorem dX8_waits_13 : decode cX8_waits 13 = .ok (.getfield 56, 3) := by decide +kernel
theorem dX8_waits_16 : decode cX8_waits 16 = .ok (.iload_n 1, 1) := by decide +kernel
theorem dX8_waits_17 : decode cX8_waits 17 = .ok (.iaload, 1) := by decide +kernel
theorem dX8_waits_18 : decode cX8_waits 18 = .ok (.ifCond .lt 8, 3) := by decide +kernel
theorem dX8_waits_21 : decode cX8_waits 21 = .ok (.bipush 100, 2) := by decide +kernel
theorem dX8_waits_23 : decode cX8_waits 23 = .ok (.goto 9, 3) := by decide +kernel
theorem dX8_waits_26 : decode cX8_waits 26 = .ok (.aload_n 0, 1) := by decide +kernel
theorem dX8_waits_27 : decode cX8_waits 27 = .ok (.getfield 53, 3) := by decide +kernel
theorem dX8_waits_30 : decode cX8_waits 30 = .ok (.iload_n 1, 1) := by decide +kernel
theorem dX8_waits_31 : decode cX8_waits 31 = .ok (.iaload, 1) := by decide +kernel
theorem dX8_waits_32 : decode cX8_waits 32 = .ok (.ireturn, 1) := by decide +kernel
theorem dX8_top_0 : decode cX8_top 0 = .ok (.iconst 4, 1) := by decide +kernel
theorem dX8_top_1 : decode cX8_top 1 = .ok (.iload_n 1, 1) := by decide +kernel
theorem dX8_top_2 : decode cX8_top 2 = .ok (.imul, 1) := by decide +kernel
theorem dX8_top_3 : decode cX8_top 3 = .ok (.aload_n 0, 1) := by decide +kernel
theorem dX8_top_4 : decode cX8_top 4 = .ok (.getfield 44, 3) := by decide +kernel
theorem dX8_top_7 : decode cX8_top 7 = .ok (.iload_n 1, 1) := by decide +kernel
theorem dX8_top_8 : decode cX8_top 8 = .ok (.iaload, 1) := by decide +kernel
theorem dX8_top_9 : decode cX8_top 9 = .ok (.iadd, 1) := by decide +kernel
theorem dX8_top_10 : decode cX8_top 10 = .ok (.iconst 1, 1) := by decide +kernel
theorem dX8_top_11 : decode cX8_top 11 = .ok (.isub, 1) := by decide +kernel
theorem dX8_top_12 : decode cX8_top 12 = .ok (.ireturn, 1) := by decide +kernel
set_option maxRecDepth 20000 in
theorem ggX8_turn_X8_top : GoodIn wsX8_turn wsX8_top := goodIn_ca (goodIn_r _ [12, 5, 73, 74, 75, 76, 77, 78, 79, 80, 81, 82, 83, 84, 85, 86, 87, 88, 89, 90, 91, 92, 93, 94, 95, 96, 97, 98, 99, 100, 101, 102, 103, 104] (by decide +kernel) (by decide +kernel)) (goodIn_sub (fun _ h => List.mem_cons_of_mem _ (List.mem_append_right _ h)) (by decide +kernel))
set_option maxRecDepth 20000 in
theorem gX8_turn_X8_top : GoodIn wsX8_turn (wsV RX8 153 RX8 yX8_top wsX8_top) := goodIn_app (goodIn_of _ (by decide +kernel)) ggX8_turn_X8_top
set_option maxRecDepth 20000 in
theorem ggX8_turn_X8_copies : GoodIn wsX8_turn wsX8_copies := goodIn_ca (goodIn_r _ [16, 7, 3, 4, 17, 18, 19, 20, 21, 73, 74, 75, 76, 77, 78, 79, 80, 81, 82, 83, 84, 85, 86, 87, 88, 89, 90, 91, 92, 93, 94, 95, 96, 97, 98, 99, 100, 101, 102, 103, 104] (by decide +kernel) (by decide +kernel)) (goodIn_sub (fun _ h => List.mem_cons_of_mem _ (List.mem_append_right _ h)) (by decide +kernel))
set_option maxRecDepth 20000 in
theorem gX8_turn_X8_copies : GoodIn wsX8_turn (wsV RX8 126 RX8 yX8_copies wsX8_copies) := goodIn_app (goodIn_of _ (by decide +kernel)) ggX8_turn_X8_copies
set_option maxRecDepth 20000 in
theorem ggX8_turn_X8_does : GoodIn wsX8_turn wsX8_does := goodIn_ca (goodIn_r _ [25, 3, 20, 18, 26, 1, 27, 28, 5, 29, 30, 31, 11, 32, 33, 34, 35, 36, 37, 38, 39, 40, 41, 42, 43, 44, 45, 46, 47, 48, 49, 50, 51, 52, 2, 53, 54, 55, 56, 57, 58, 59, 60, 61, 62, 63, 64, 65, 66, 67, 68, 69, 70, 71, 72, 13, 14, 15, 16, 7, 4, 17, 19, 21, 73, 74, 75, 76, 77, 78, 79, 80, 81, 82, 83, 84, 85, 86, 87, 88, 89, 90, 91, 92, 93, 94, 95, 96, 97, 98, 99, 100, 101, 102, 103, 104] (by decide +kernel) (by decide +kernel)) (goodIn_sub (fun _ h => List.mem_cons_of_mem _ (List.mem_append_right _ h)) (by decide +kernel))
set_option maxRecDepth 20000 in
theorem gX8_turn_X8_does : GoodIn wsX8_turn (wsV RX8 160 RX8 yX8_does wsX8_does) := goodIn_app (goodIn_of _ (by decide +kernel)) ggX8_turn_X8_does
theorem dX8_turn_0 : decode cX8_turn 0 = .ok (.aload_n 0, 1) := by decide +kernel
theorem dX8_turn_1 : decode cX8_turn 1 = .ok (.getfield 53, 3) := by decide +kernel
theorem dX8_turn_4 : decode cX8_turn 4 = .ok (.iload_n 1, 1) := by decide +kernel
theorem dX8_turn_5 : decode cX8_turn 5 = .ok (.iaload, 1) := by decide +kernel
theorem dX8_turn_6 : decode cX8_turn 6 = .ok (.ifCond .le 14, 3) := by decide +kernel
theorem dX8_turn_9 : decode cX8_turn 9 = .ok (.aload_n 0, 1) := by decide +kernel
theorem dX8_turn_10 : decode cX8_turn 10 = .ok (.getfield 53, 3) := by decide +kernel
theorem dX8_turn_13 : decode cX8_turn 13 = .ok (.iload_n 1, 1) := by decide +kernel
theorem dX8_turn_14 : decode cX8_turn 14 = .ok (.dup2, 1) := by decide +kernel
theorem dX8_turn_15 : decode cX8_turn 15 = .ok (.iaload, 1) := by decide +kernel
theorem dX8_turn_16 : decode cX8_turn 16 = .ok (.iconst 1, 1) := by decide +kernel
theorem dX8_turn_17 : decode cX8_turn 17 = .ok (.isub, 1) := by decide +kernel
theorem dX8_turn_18 : decode cX8_turn 18 = .ok (.iastore, 1) := by decide +kernel
theorem dX8_turn_19 : decode cX8_turn 19 = .ok (.return_, 1) := by decide +kernel
theorem dX8_turn_20 : decode cX8_turn 20 = .ok (.iconst 0, 1) := by decide +kernel
theorem dX8_turn_21 : decode cX8_turn 21 = .ok (.istore_n 2, 1) := by decide +kernel
theorem dX8_turn_22 : decode cX8_turn 22 = .ok (.aload_n 0, 1) := by decide +kernel
theorem dX8_turn_23 : decode cX8_turn 23 = .ok (.getfield 56, 3) := by decide +kernel
theorem dX8_turn_26 : decode cX8_turn 26 = .ok (.iload_n 1, 1) := by decide +kernel
theorem dX8_turn_27 : decode cX8_turn 27 = .ok (.iaload, 1) := by decide +kernel
theorem dX8_turn_28 : decode cX8_turn 28 = .ok (.ifCond .ge 7, 3) := by decide +kernel
theorem dX8_turn_31 : decode cX8_turn 31 = .ok (.iconst 1, 1) := by decide +kernel
theorem dX8_turn_32 : decode cX8_turn 32 = .ok (.goto 4, 3) := by decide +kernel
theorem dX8_turn_35 : decode cX8_turn 35 = .ok (.iconst 0, 1) := by decide +kernel
theorem dX8_turn_36 : decode cX8_turn 36 = .ok (.istore_n 3, 1) := by decide +kernel
theorem dX8_turn_37 : decode cX8_turn 37 = .ok (.iload_n 3, 1) := by decide +kernel
theorem dX8_turn_38 : decode cX8_turn 38 = .ok (.ifCond .eq 113, 3) := by decide +kernel
theorem dX8_turn_41 : decode cX8_turn 41 = .ok (.iload_n 2, 1) := by decide +kernel
theorem dX8_turn_42 : decode cX8_turn 42 = .ok (.bipush 8, 2) := by decide +kernel
theorem dX8_turn_44 : decode cX8_turn 44 = .ok (.if_icmp .ge 107, 3) := by decide +kernel
theorem dX8_turn_47 : decode cX8_turn 47 = .ok (.aload_n 0, 1) := by decide +kernel
theorem dX8_turn_48 : decode cX8_turn 48 = .ok (.iload_n 1, 1) := by decide +kernel
theorem dX8_turn_49 : decode cX8_turn 49 = .ok (.invokevirtual 153, 3) := by decide +kernel
theorem dX8_turn_52 : decode cX8_turn 52 = .ok (.istore 4, 2) := by decide +kernel
theorem dX8_turn_54 : decode cX8_turn 54 = .ok (.aload_n 0, 1) := by decide +kernel
theorem dX8_turn_55 : decode cX8_turn 55 = .ok (.getfield 31, 3) := by decide +kernel
theorem dX8_turn_58 : decode cX8_turn 58 = .ok (.iload 4, 2) := by decide +kernel
theorem dX8_turn_60 : decode cX8_turn 60 = .ok (.iaload, 1) := by decide +kernel
theorem dX8_turn_61 : decode cX8_turn 61 = .ok (.aload_n 0, 1) := by decide +kernel
theorem dX8_turn_62 : decode cX8_turn 62 = .ok (.getfield 19, 3) := by decide +kernel
theorem dX8_turn_65 : decode cX8_turn 65 = .ok (.iload 4, 2) := by decide +kernel
theorem dX8_turn_67 : decode cX8_turn 67 = .ok (.iaload, 1) := by decide +kernel
theorem dX8_turn_68 : decode cX8_turn 68 = .ok (.if_icmp .lt 7, 3) := by decide +kernel
theorem dX8_turn_71 : decode cX8_turn 71 = .ok (.iconst 1, 1) := by decide +kernel
theorem dX8_turn_72 : decode cX8_turn 72 = .ok (.goto 4, 3) := by decide +kernel
theorem dX8_turn_75 : decode cX8_turn 75 = .ok (.iconst 0, 1) := by decide +kernel
theorem dX8_turn_76 : decode cX8_turn 76 = .ok (.istore 5, 2) := by decide +kernel
theorem dX8_turn_78 : decode cX8_turn 78 = .ok (.iload 5, 2) := by decide +kernel
theorem dX8_turn_80 : decode cX8_turn 80 = .ok (.ifCond .eq 26, 3) := by decide +kernel
theorem dX8_turn_83 : decode cX8_turn 83 = .ok (.aload_n 0, 1) := by decide +kernel
theorem dX8_turn_84 : decode cX8_turn 84 = .ok (.getfield 44, 3) := by decide +kernel
theorem dX8_turn_87 : decode cX8_turn 87 = .ok (.iload_n 1, 1) := by decide +kernel
theorem dX8_turn_88 : decode cX8_turn 88 = .ok (.iaload, 1) := by decide +kernel
theorem dX8_turn_89 : decode cX8_turn 89 = .ok (.iconst 1, 1) := by decide +kernel
theorem dX8_turn_90 : decode cX8_turn 90 = .ok (.if_icmp .le 16, 3) := by decide +kernel
theorem dX8_turn_93 : decode cX8_turn 93 = .ok (.aload_n 0, 1) := by decide +kernel
theorem dX8_turn_94 : decode cX8_turn 94 = .ok (.getfield 44, 3) := by decide +kernel
theorem dX8_turn_97 : decode cX8_turn 97 = .ok (.iload_n 1, 1) := by decide +kernel
theorem dX8_turn_98 : decode cX8_turn 98 = .ok (.dup2, 1) := by decide +kernel
theorem dX8_turn_99 : decode cX8_turn 99 = .ok (.iaload, 1) := by decide +kernel
theorem dX8_turn_100 : decode cX8_turn 100 = .ok (.iconst 1, 1) := by decide +kernel
theorem dX8_turn_101 : decode cX8_turn 101 = .ok (.isub, 1) := by decide +kernel
theorem dX8_turn_102 : decode cX8_turn 102 = .ok (.iastore, 1) := by decide +kernel
theorem dX8_turn_103 : decode cX8_turn 103 = .ok (.goto 45, 3) := by decide +kernel
theorem dX8_turn_106 : decode cX8_turn 106 = .ok (.iinc 2 1, 3) := by decide +kernel
theorem dX8_turn_109 : decode cX8_turn 109 = .ok (.aload_n 0, 1) := by decide +kernel
theorem dX8_turn_110 : decode cX8_turn 110 = .ok (.dup, 1) := by decide +kernel
theorem dX8_turn_111 : decode cX8_turn 111 = .ok (.getfield 156, 3) := by decide +kernel
theorem dX8_turn_114 : decode cX8_turn 114 = .ok (.lconst 1, 1) := by decide +kernel
theorem dX8_turn_115 : decode cX8_turn 115 = .ok (.ladd, 1) := by decide +kernel
theorem dX8_turn_116 : decode cX8_turn 116 = .ok (.putfield 156, 3) := by decide +kernel
theorem dX8_turn_119 : decode cX8_turn 119 = .ok (.iload 5, 2) := by decide +kernel
theorem dX8_turn_121 : decode cX8_turn 121 = .ok (.ifCond .eq 19, 3) := by decide +kernel
theorem dX8_turn_124 : decode cX8_turn 124 = .ok (.aload_n 0, 1) := by decide +kernel
theorem dX8_turn_125 : decode cX8_turn 125 = .ok (.aload_n 0, 1) := by decide +kernel
theorem dX8_turn_126 : decode cX8_turn 126 = .ok (.getfield 28, 3) := by decide +kernel
theorem dX8_turn_129 : decode cX8_turn 129 = .ok (.iload 4, 2) := by decide +kernel
theorem dX8_turn_131 : decode cX8_turn 131 = .ok (.iaload, 1) := by decide +kernel
theorem dX8_turn_132 : decode cX8_turn 132 = .ok (.iload 4, 2) := by decide +kernel
theorem dX8_turn_134 : decode cX8_turn 134 = .ok (.invokevirtual 126, 3) := by decide +kernel
theorem dX8_turn_137 : decode cX8_turn 137 = .ok (.goto 11, 3) := by decide +kernel
theorem dX8_turn_140 : decode cX8_turn 140 = .ok (.aload_n 0, 1) := by decide +kernel
theorem dX8_turn_141 : decode cX8_turn 141 = .ok (.iload_n 1, 1) := by decide +kernel
theorem dX8_turn_142 : decode cX8_turn 142 = .ok (.iload 4, 2) := by decide +kernel
theorem dX8_turn_144 : decode cX8_turn 144 = .ok (.invokevirtual 160, 3) := by decide +kernel
theorem dX8_turn_147 : decode cX8_turn 147 = .ok (.istore_n 3, 1) := by decide +kernel
theorem dX8_turn_148 : decode cX8_turn 148 = .ok (.goto (-111), 3) := by decide +kernel
theorem dX8_turn_151 : decode cX8_turn 151 = .ok (.return_, 1) := by decide +kernel
set_option maxRecDepth 20000 in
theorem ggX8_does_X8_shows : GoodIn wsX8_does wsX8_shows := goodIn_ca (goodIn_r _ [13, 14, 15, 16, 17, 18, 19, 20, 21, 12, 22, 23, 24, 25, 26, 27, 64, 65, 66, 67, 68, 69, 70, 71, 72, 73, 74, 75, 76, 77, 78, 79, 80, 81, 82, 83, 84, 85, 86, 87, 88, 89, 90, 91, 92, 93, 94, 95] (by decide +kernel) (by decide +kernel)) (goodIn_sub (fun _ h => List.mem_cons_of_mem _ (List.mem_append_right _ h)) (by decide +kernel))
set_option maxRecDepth 20000 in
theorem gX8_does_X8_shows : GoodIn wsX8_does (wsV RX8 164 RX8 yX8_shows wsX8_shows) := goodIn_app (goodIn_of _ (by decide +kernel)) ggX8_does_X8_shows
set_option maxRecDepth 20000 in
theorem ggX8_does_X8_takes : GoodIn wsX8_does wsX8_takes := goodIn_ca (goodIn_r _ [31, 6, 32, 33, 34, 35, 36, 37, 12, 38, 64, 65, 66, 67, 68, 69, 70, 71, 72, 73, 74, 75, 76, 77, 78, 79, 80, 81, 82, 83, 84, 85, 86, 87, 88, 89, 90, 91, 92, 93, 94, 95] (by decide +kernel) (by decide +kernel)) (goodIn_sub (fun _ h => List.mem_cons_of_mem _ (List.mem_append_right _ h)) (by decide +kernel))
set_option maxRecDepth 20000 in
theorem gX8_does_X8_takes : GoodIn wsX8_does (wsV RX8 167 RX8 yX8_takes wsX8_takes) := goodIn_app (goodIn_of _ (by decide +kernel)) ggX8_does_X8_takes
set_option maxRecDepth 20000 in
theorem ggX8_does_X8_frees : GoodIn wsX8_does wsX8_frees := goodIn_ca (goodIn_r _ [42, 6, 33, 43, 44, 45, 12, 46, 32, 34, 64, 65, 66, 67, 68, 69, 70, 71, 72, 73, 74, 75, 76, 77, 78, 79, 80, 81, 82, 83, 84, 85, 86, 87, 88, 89, 90, 91, 92, 93, 94, 95] (by decide +kernel) (by decide +kernel)) (goodIn_sub (fun _ h => List.mem_cons_of_mem _ (List.mem_append_right _ h)) (by decide +kernel))
set_option maxRecDepth 20000 in
theorem gX8_does_X8_frees : GoodIn wsX8_does (wsV RX8 146 RX8 yX8_frees wsX8_frees) := goodIn_app (goodIn_of _ (by decide +kernel)) ggX8_does_X8_frees
set_option maxRecDepth 20000 in
theorem ggX8_does_X8_present : GoodIn wsX8_does wsX8_present := goodIn_ca (goodIn_r _ [27, 14, 23, 64, 65, 66, 67, 68, 69, 70, 71, 72, 73, 74, 75, 76, 77, 78, 79, 80, 81, 82, 83, 84, 85, 86, 87, 88, 89, 90, 91, 92, 93, 94, 95] (by decide +kernel) (by decide +kernel)) (goodIn_sub (fun _ h => List.mem_cons_of_mem _ (List.mem_append_right _ h)) (by decide +kernel))
set_option maxRecDepth 20000 in
theorem gX8_does_X8_present : GoodIn wsX8_does (wsV RX8 170 RX8 yX8_present wsX8_present) := goodIn_app (goodIn_of _ (by decide +kernel)) ggX8_does_X8_present
set_option maxRecDepth 20000 in
theorem ggX8_does_X8_isList : GoodIn wsX8_does wsX8_isList := goodIn_r _ [50, 51, 52, 53, 12, 54, 64, 65, 66, 67, 68, 69, 70, 71, 72, 73, 74, 75, 76, 77, 78, 79, 80, 81, 82, 83, 84, 85, 86, 87, 88, 89, 90, 91, 92, 93, 94, 95] (by decide +kernel) (by decide +kernel)
set_option maxRecDepth 20000 in
theorem gX8_does_X8_isList : GoodIn wsX8_does (wsV RX8 107 RX8 yX8_isList wsX8_isList) := goodIn_app (goodIn_of _ (by decide +kernel)) ggX8_does_X8_isList
set_option maxRecDepth 20000 in
theorem ggX8_does_X8_copies : GoodIn wsX8_does wsX8_copies := goodIn_ca (goodIn_r _ [58, 59, 1, 60, 61, 3, 62, 2, 63, 64, 65, 66, 67, 68, 69, 70, 71, 72, 73, 74, 75, 76, 77, 78, 79, 80, 81, 82, 83, 84, 85, 86, 87, 88, 89, 90, 91, 92, 93, 94, 95] (by decide +kernel) (by decide +kernel)) (goodIn_sub (fun _ h => List.mem_cons_of_mem _ (List.mem_append_right _ h)) (by decide +kernel))
set_option maxRecDepth 20000 in
theorem gX8_does_X8_copies : GoodIn wsX8_does (wsV RX8 126 RX8 yX8_copies wsX8_copies) := goodIn_app (goodIn_of _ (by decide +kernel)) ggX8_does_X8_copies
theorem dX8_does_0 : decode cX8_does 0 = .ok (.bipush 20, 2) := by decide +kernel
theorem dX8_does_2 : decode cX8_does 2 = .ok (.iload_n 2, 1) := by decide +kernel
theorem dX8_does_3 : decode cX8_does 3 = .ok (.imul, 1) := by decide +kernel
theorem dX8_does_4 : decode cX8_does 4 = .ok (.aload_n 0, 1) := by decide +kernel
theorem dX8_does_5 : decode cX8_does 5 = .ok (.getfield 31, 3) := by decide +kernel
theorem dX8_does_8 : decode cX8_does 8 = .ok (.iload_n 2, 1) := by decide +kernel
theorem dX8_does_9 : decode cX8_does 9 = .ok (.iaload, 1) := by decide +kernel
theorem dX8_does_10 : decode cX8_does 10 = .ok (.iadd, 1) := by decide +kernel
theorem dX8_does_11 : decode cX8_does 11 = .ok (.istore_n 3, 1) := by decide +kernel
theorem dX8_does_12 : decode cX8_does 12 = .ok (.aload_n 0, 1) := by decide +kernel
theorem dX8_does_13 : decode cX8_does 13 = .ok (.getfield 25, 3) := by decide +kernel
theorem dX8_does_16 : decode cX8_does 16 = .ok (.iload_n 3, 1) := by decide +kernel
theorem dX8_does_17 : decode cX8_does 17 = .ok (.iaload, 1) := by decide +kernel
theorem dX8_does_18 : decode cX8_does 18 = .ok (.istore 4, 2) := by decide +kernel
theorem dX8_does_20 : decode cX8_does 20 = .ok (.aload_n 0, 1) := by decide +kernel
theorem dX8_does_21 : decode cX8_does 21 = .ok (.getfield 31, 3) := by decide +kernel
theorem dX8_does_24 : decode cX8_does 24 = .ok (.iload_n 2, 1) := by decide +kernel
theorem dX8_does_25 : decode cX8_does 25 = .ok (.dup2, 1) := by decide +kernel
theorem dX8_does_26 : decode cX8_does 26 = .ok (.iaload, 1) := by decide +kernel
theorem dX8_does_27 : decode cX8_does 27 = .ok (.iconst 1, 1) := by decide +kernel
theorem dX8_does_28 : decode cX8_does 28 = .ok (.iadd, 1) := by decide +kernel
theorem dX8_does_29 : decode cX8_does 29 = .ok (.iastore, 1) := by decide +kernel
theorem dX8_does_30 : decode cX8_does 30 = .ok (.aload_n 0, 1) := by decide +kernel
theorem dX8_does_31 : decode cX8_does 31 = .ok (.getfield 22, 3) := by decide +kernel
theorem dX8_does_34 : decode cX8_does 34 = .ok (.iload_n 3, 1) := by decide +kernel
theorem dX8_does_35 : decode cX8_does 35 = .ok (.iaload, 1) := by decide +kernel
theorem dX8_does_36 : decode cX8_does 36 = .ok (.tableswitch 267 99 119 #[257, 133, 267, 141, 160, 267, 267, 267, 267, 202, 267, 267, 267, 267, 267, 267, 100, 267, 267, 170, 121], 100) := by decide +kernel
theorem dX8_does_136 : decode cX8_does 136 = .ok (.aload_n 0, 1) := by decide +kernel
theorem dX8_does_137 : decode cX8_does 137 = .ok (.aload_n 0, 1) := by decide +kernel
theorem dX8_does_138 : decode cX8_does 138 = .ok (.getfield 47, 3) := by decide +kernel
theorem dX8_does_141 : decode cX8_does 141 = .ok (.iload_n 1, 1) := by decide +kernel
theorem dX8_does_142 : decode cX8_does 142 = .ok (.iaload, 1) := by decide +kernel
theorem dX8_does_143 : decode cX8_does 143 = .ok (.iload 4, 2) := by decide +kernel
theorem dX8_does_145 : decode cX8_does 145 = .ok (.invokevirtual 164, 3) := by decide +kernel
theorem dX8_does_148 : decode cX8_does 148 = .ok (.ifCond .ne 7, 3) := by decide +kernel
theorem dX8_does_151 : decode cX8_does 151 = .ok (.iconst 1, 1) := by decide +kernel
theorem dX8_does_152 : decode cX8_does 152 = .ok (.goto 4, 3) := by decide +kernel
theorem dX8_does_155 : decode cX8_does 155 = .ok (.iconst 0, 1) := by decide +kernel
theorem dX8_does_156 : decode cX8_does 156 = .ok (.ireturn, 1) := by decide +kernel
theorem dX8_does_157 : decode cX8_does 157 = .ok (.aload_n 0, 1) := by decide +kernel
theorem dX8_does_158 : decode cX8_does 158 = .ok (.getfield 53, 3) := by decide +kernel
theorem dX8_does_161 : decode cX8_does 161 = .ok (.iload_n 1, 1) := by decide +kernel
theorem dX8_does_162 : decode cX8_does 162 = .ok (.iload 4, 2) := by decide +kernel
theorem dX8_does_164 : decode cX8_does 164 = .ok (.iconst 1, 1) := by decide +kernel
theorem dX8_does_165 : decode cX8_does 165 = .ok (.isub, 1) := by decide +kernel
theorem dX8_does_166 : decode cX8_does 166 = .ok (.iastore, 1) := by decide +kernel
theorem dX8_does_167 : decode cX8_does 167 = .ok (.iconst 0, 1) := by decide +kernel
theorem dX8_does_168 : decode cX8_does 168 = .ok (.ireturn, 1) := by decide +kernel
theorem dX8_does_169 : decode cX8_does 169 = .ok (.aload_n 0, 1) := by decide +kernel
theorem dX8_does_170 : decode cX8_does 170 = .ok (.iload_n 1, 1) := by decide +kernel
theorem dX8_does_171 : decode cX8_does 171 = .ok (.iload 4, 2) := by decide +kernel
theorem dX8_does_173 : decode cX8_does 173 = .ok (.invokevirtual 167, 3) := by decide +kernel
theorem dX8_does_176 : decode cX8_does 176 = .ok (.ireturn, 1) := by decide +kernel
theorem dX8_does_177 : decode cX8_does 177 = .ok (.aload_n 0, 1) := by decide +kernel
theorem dX8_does_178 : decode cX8_does 178 = .ok (.getfield 71, 3) := by decide +kernel
theorem dX8_does_181 : decode cX8_does 181 = .ok (.iload 4, 2) := by decide +kernel
theorem dX8_does_183 : decode cX8_does 183 = .ok (.iaload, 1) := by decide +kernel
theorem dX8_does_184 : decode cX8_does 184 = .ok (.iload_n 1, 1) := by decide +kernel
theorem dX8_does_185 : decode cX8_does 185 = .ok (.if_icmp .ne 9, 3) := by decide +kernel
theorem dX8_does_188 : decode cX8_does 188 = .ok (.aload_n 0, 1) := by decide +kernel
theorem dX8_does_189 : decode cX8_does 189 = .ok (.iload 4, 2) := by decide +kernel
theorem dX8_does_191 : decode cX8_does 191 = .ok (.invokevirtual 146, 3) := by decide +kernel
theorem dX8_does_194 : decode cX8_does 194 = .ok (.iconst 1, 1) := by decide +kernel
theorem dX8_does_195 : decode cX8_does 195 = .ok (.ireturn, 1) := by decide +kernel
theorem dX8_does_196 : decode cX8_does 196 = .ok (.aload_n 0, 1) := by decide +kernel
theorem dX8_does_197 : decode cX8_does 197 = .ok (.getfield 31, 3) := by decide +kernel
theorem dX8_does_200 : decode cX8_does 200 = .ok (.iload_n 2, 1) := by decide +kernel
theorem dX8_does_201 : decode cX8_does 201 = .ok (.iload 4, 2) := by decide +kernel
theorem dX8_does_203 : decode cX8_does 203 = .ok (.iastore, 1) := by decide +kernel
theorem dX8_does_204 : decode cX8_does 204 = .ok (.iconst 1, 1) := by decide +kernel
theorem dX8_does_205 : decode cX8_does 205 = .ok (.ireturn, 1) := by decide +kernel
theorem dX8_does_206 : decode cX8_does 206 = .ok (.aload_n 0, 1) := by decide +kernel
theorem dX8_does_207 : decode cX8_does 207 = .ok (.getfield 31, 3) := by decide +kernel
theorem dX8_does_210 : decode cX8_does 210 = .ok (.iload_n 2, 1) := by decide +kernel
theorem dX8_does_211 : decode cX8_does 211 = .ok (.aload_n 0, 1) := by decide +kernel
theorem dX8_does_212 : decode cX8_does 212 = .ok (.aload_n 0, 1) := by decide +kernel
theorem dX8_does_213 : decode cX8_does 213 = .ok (.getfield 47, 3) := by decide +kernel
theorem dX8_does_216 : decode cX8_does 216 = .ok (.iload_n 1, 1) := by decide +kernel
theorem dX8_does_217 : decode cX8_does 217 = .ok (.iaload, 1) := by decide +kernel
theorem dX8_does_218 : decode cX8_does 218 = .ok (.invokevirtual 170, 3) := by decide +kernel
theorem dX8_does_221 : decode cX8_does 221 = .ok (.ifCond .le 12, 3) := by decide +kernel
theorem dX8_does_224 : decode cX8_does 224 = .ok (.aload_n 0, 1) := by decide +kernel
theorem dX8_does_225 : decode cX8_does 225 = .ok (.getfield 31, 3) := by decide +kernel
theorem dX8_does_228 : decode cX8_does 228 = .ok (.iload_n 2, 1) := by decide +kernel
theorem dX8_does_229 : decode cX8_does 229 = .ok (.iaload, 1) := by decide +kernel
theorem dX8_does_230 : decode cX8_does 230 = .ok (.goto 5, 3) := by decide +kernel
theorem dX8_does_233 : decode cX8_does 233 = .ok (.iload 4, 2) := by decide +kernel
theorem dX8_does_235 : decode cX8_does 235 = .ok (.iastore, 1) := by decide +kernel
theorem dX8_does_236 : decode cX8_does 236 = .ok (.iconst 1, 1) := by decide +kernel
theorem dX8_does_237 : decode cX8_does 237 = .ok (.ireturn, 1) := by decide +kernel
theorem dX8_does_238 : decode cX8_does 238 = .ok (.aload_n 0, 1) := by decide +kernel
theorem dX8_does_239 : decode cX8_does 239 = .ok (.getfield 31, 3) := by decide +kernel
theorem dX8_does_242 : decode cX8_does 242 = .ok (.iload_n 2, 1) := by decide +kernel
theorem dX8_does_243 : decode cX8_does 243 = .ok (.aload_n 0, 1) := by decide +kernel
theorem dX8_does_244 : decode cX8_does 244 = .ok (.getfield 50, 3) := by decide +kernel
theorem dX8_does_247 : decode cX8_does 247 = .ok (.iload_n 1, 1) := by decide +kernel
theorem dX8_does_248 : decode cX8_does 248 = .ok (.iaload, 1) := by decide +kernel
theorem dX8_does_249 : decode cX8_does 249 = .ok (.ifCond .ne 8, 3) := by decide +kernel
theorem dX8_does_252 : decode cX8_does 252 = .ok (.iload 4, 2) := by decide +kernel
theorem dX8_does_254 : decode cX8_does 254 = .ok (.goto 9, 3) := by decide +kernel
theorem dX8_does_257 : decode cX8_does 257 = .ok (.aload_n 0, 1) := by decide +kernel
theorem dX8_does_258 : decode cX8_does 258 = .ok (.getfield 31, 3) := by decide +kernel
theorem dX8_does_261 : decode cX8_does 261 = .ok (.iload_n 2, 1) := by decide +kernel
theorem dX8_does_262 : decode cX8_does 262 = .ok (.iaload, 1) := by decide +kernel
theorem dX8_does_263 : decode cX8_does 263 = .ok (.iastore, 1) := by decide +kernel
theorem dX8_does_264 : decode cX8_does 264 = .ok (.aload_n 0, 1) := by decide +kernel
theorem dX8_does_265 : decode cX8_does 265 = .ok (.getfield 50, 3) := by decide +kernel
theorem dX8_does_268 : decode cX8_does 268 = .ok (.iload_n 1, 1) := by decide +kernel
theorem dX8_does_269 : decode cX8_does 269 = .ok (.aload_n 0, 1) := by decide +kernel
theorem dX8_does_270 : decode cX8_does 270 = .ok (.getfield 50, 3) := by decide +kernel
theorem dX8_does_273 : decode cX8_does 273 = .ok (.iload_n 1, 1) := by decide +kernel
theorem dX8_does_274 : decode cX8_does 274 = .ok (.iaload, 1) := by decide +kernel
theorem dX8_does_275 : decode cX8_does 275 = .ok (.ifCond .ne 7, 3) := by decide +kernel
theorem dX8_does_278 : decode cX8_does 278 = .ok (.iconst 0, 1) := by decide +kernel
theorem dX8_does_279 : decode cX8_does 279 = .ok (.goto 11, 3) := by decide +kernel
theorem dX8_does_282 : decode cX8_does 282 = .ok (.aload_n 0, 1) := by decide +kernel
theorem dX8_does_283 : decode cX8_does 283 = .ok (.getfield 50, 3) := by decide +kernel
theorem dX8_does_286 : decode cX8_does 286 = .ok (.iload_n 1, 1) := by decide +kernel
theorem dX8_does_287 : decode cX8_does 287 = .ok (.iaload, 1) := by decide +kernel
theorem dX8_does_288 : decode cX8_does 288 = .ok (.iconst 1, 1) := by decide +kernel
theorem dX8_does_289 : decode cX8_does 289 = .ok (.isub, 1) := by decide +kernel
theorem dX8_does_290 : decode cX8_does 290 = .ok (.iastore, 1) := by decide +kernel
theorem dX8_does_291 : decode cX8_does 291 = .ok (.iconst 1, 1) := by decide +kernel
theorem dX8_does_292 : decode cX8_does 292 = .ok (.ireturn, 1) := by decide +kernel
theorem dX8_does_293 : decode cX8_does 293 = .ok (.aload_n 0, 1) := by decide +kernel
theorem dX8_does_294 : decode cX8_does 294 = .ok (.getfield 50, 3) := by decide +kernel
theorem dX8_does_297 : decode cX8_does 297 = .ok (.iload_n 1, 1) := by decide +kernel
theorem dX8_does_298 : decode cX8_does 298 = .ok (.iload 4, 2) := by decide +kernel
theorem dX8_does_300 : decode cX8_does 300 = .ok (.iastore, 1) := by decide +kernel
theorem dX8_does_301 : decode cX8_does 301 = .ok (.iconst 1, 1) := by decide +kernel
theorem dX8_does_302 : decode cX8_does 302 = .ok (.ireturn, 1) := by decide +kernel
theorem dX8_does_303 : decode cX8_does 303 = .ok (.aload_n 0, 1) := by decide +kernel
theorem dX8_does_304 : decode cX8_does 304 = .ok (.iload 4, 2) := by decide +kernel
theorem dX8_does_306 : decode cX8_does 306 = .ok (.invokevirtual 107, 3) := by decide +kernel
theorem dX8_does_309 : decode cX8_does 309 = .ok (.ifCond .eq 32, 3) := by decide +kernel
theorem dX8_does_312 : decode cX8_does 312 = .ok (.aload_n 0, 1) := by decide +kernel
theorem dX8_does_313 : decode cX8_does 313 = .ok (.getfield 44, 3) := by decide +kernel
theorem dX8_does_316 : decode cX8_does 316 = .ok (.iload_n 1, 1) := by decide +kernel
theorem dX8_does_317 : decode cX8_does 317 = .ok (.iaload, 1) := by decide +kernel
theorem dX8_does_318 : decode cX8_does 318 = .ok (.iconst 4, 1) := by decide +kernel
theorem dX8_does_319 : decode cX8_does 319 = .ok (.if_icmp .ge 22, 3) := by decide +kernel
theorem dX8_does_322 : decode cX8_does 322 = .ok (.aload_n 0, 1) := by decide +kernel
theorem dX8_does_323 : decode cX8_does 323 = .ok (.getfield 44, 3) := by decide +kernel
theorem dX8_does_326 : decode cX8_does 326 = .ok (.iload_n 1, 1) := by decide +kernel
theorem dX8_does_327 : decode cX8_does 327 = .ok (.dup2, 1) := by decide +kernel
theorem dX8_does_328 : decode cX8_does 328 = .ok (.iaload, 1) := by decide +kernel
theorem dX8_does_329 : decode cX8_does 329 = .ok (.iconst 1, 1) := by decide +kernel
theorem dX8_does_330 : decode cX8_does 330 = .ok (.iadd, 1) := by decide +kernel
theorem dX8_does_331 : decode cX8_does 331 = .ok (.iastore, 1) := by decide +kernel
theorem dX8_does_332 : decode cX8_does 332 = .ok (.aload_n 0, 1) := by decide +kernel
theorem dX8_does_333 : decode cX8_does 333 = .ok (.iload 4, 2) := by decide +kernel
theorem dX8_does_335 : decode cX8_does 335 = .ok (.iload_n 2, 1) := by decide +kernel
theorem dX8_does_336 : decode cX8_does 336 = .ok (.iconst 1, 1) := by decide +kernel
theorem dX8_does_337 : decode cX8_does 337 = .ok (.iadd, 1) := by decide +kernel
theorem dX8_does_338 : decode cX8_does 338 = .ok (.invokevirtual 126, 3) := by decide +kernel
theorem dX8_does_341 : decode cX8_does 341 = .ok (.iconst 1, 1) := by decide +kernel
theorem dX8_does_342 : decode cX8_does 342 = .ok (.ireturn, 1) := by decide +kernel
theorem dX8_present_0 : decode cX8_present 0 = .ok (.iconst 0, 1) := by decide +kernel
theorem dX8_present_1 : decode cX8_present 1 = .ok (.istore_n 2, 1) := by decide +kernel
theorem dX8_present_2 : decode cX8_present 2 = .ok (.iconst 0, 1) := by decide +kernel
theorem dX8_present_3 : decode cX8_present 3 = .ok (.istore_n 3, 1) := by decide +kernel
theorem dX8_present_4 : decode cX8_present 4 = .ok (.iload_n 3, 1) := by decide +kernel
theorem dX8_present_5 : decode cX8_present 5 = .ok (.aload_n 0, 1) := by decide +kernel
theorem dX8_present_6 : decode cX8_present 6 = .ok (.getfield 173, 3) := by decide +kernel
theorem dX8_present_9 : decode cX8_present 9 = .ok (.if_icmp .ge 27, 3) := by decide +kernel
theorem dX8_present_12 : decode cX8_present 12 = .ok (.iload_n 2, 1) := by decide +kernel
theorem dX8_present_13 : decode cX8_present 13 = .ok (.aload_n 0, 1) := by decide +kernel
theorem dX8_present_14 : decode cX8_present 14 = .ok (.getfield 83, 3) := by decide +kernel
theorem dX8_present_17 : decode cX8_present 17 = .ok (.iload_n 3, 1) := by decide +kernel
theorem dX8_present_18 : decode cX8_present 18 = .ok (.iaload, 1) := by decide +kernel
theorem dX8_present_19 : decode cX8_present 19 = .ok (.iload_n 1, 1) := by decide +kernel
theorem dX8_present_20 : decode cX8_present 20 = .ok (.if_icmp .ne 7, 3) := by decide +kernel
theorem dX8_present_23 : decode cX8_present 23 = .ok (.iconst 1, 1) := by decide +kernel
theorem dX8_present_24 : decode cX8_present 24 = .ok (.goto 4, 3) := by decide +kernel
theorem dX8_present_27 : decode cX8_present 27 = .ok (.iconst 0, 1) := by decide +kernel
theorem dX8_present_28 : decode cX8_present 28 = .ok (.iadd, 1) := by decide +kernel
theorem dX8_present_29 : decode cX8_present 29 = .ok (.istore_n 2, 1) := by decide +kernel
theorem dX8_present_30 : decode cX8_present 30 = .ok (.iinc 3 1, 3) := by decide +kernel
theorem dX8_present_33 : decode cX8_present 33 = .ok (.goto (-29), 3) := by decide +kernel
theorem dX8_present_36 : decode cX8_present 36 = .ok (.iload_n 2, 1) := by decide +kernel
theorem dX8_present_37 : decode cX8_present 37 = .ok (.ireturn, 1) := by decide +kernel
theorem dX8_sees_0 : decode cX8_sees 0 = .ok (.bipush 100, 2) := by decide +kernel
theorem dX8_sees_2 : decode cX8_sees 2 = .ok (.iload_n 1, 1) := by decide +kernel
theorem dX8_sees_3 : decode cX8_sees 3 = .ok (.imul, 1) := by decide +kernel
theorem dX8_sees_4 : decode cX8_sees 4 = .ok (.iload_n 3, 1) := by decide +kernel
theorem dX8_sees_5 : decode cX8_sees 5 = .ok (.iadd, 1) := by decide +kernel
theorem dX8_sees_6 : decode cX8_sees 6 = .ok (.istore 4, 2) := by decide +kernel
theorem dX8_sees_8 : decode cX8_sees 8 = .ok (.aload_n 0, 1) := by decide +kernel
theorem dX8_sees_9 : decode cX8_sees 9 = .ok (.getfield 83, 3) := by decide +kernel
theorem dX8_sees_12 : decode cX8_sees 12 = .ok (.iload_n 1, 1) := by decide +kernel
theorem dX8_sees_13 : decode cX8_sees 13 = .ok (.iaload, 1) := by decide +kernel
theorem dX8_sees_14 : decode cX8_sees 14 = .ok (.iload_n 2, 1) := by decide +kernel
theorem dX8_sees_15 : decode cX8_sees 15 = .ok (.if_icmp .ne 27, 3) := by decide +kernel
theorem dX8_sees_18 : decode cX8_sees 18 = .ok (.aload_n 0, 1) := by decide +kernel
theorem dX8_sees_19 : decode cX8_sees 19 = .ok (.getfield 80, 3) := by decide +kernel
theorem dX8_sees_22 : decode cX8_sees 22 = .ok (.iload 4, 2) := by decide +kernel
theorem dX8_sees_24 : decode cX8_sees 24 = .ok (.iaload, 1) := by decide +kernel
theorem dX8_sees_25 : decode cX8_sees 25 = .ok (.ifCond .eq 13, 3) := by decide +kernel
theorem dX8_sees_28 : decode cX8_sees 28 = .ok (.aload_n 0, 1) := by decide +kernel
theorem dX8_sees_29 : decode cX8_sees 29 = .ok (.getfield 86, 3) := by decide +kernel
theorem dX8_sees_32 : decode cX8_sees 32 = .ok (.iload 4, 2) := by decide +kernel
theorem dX8_sees_34 : decode cX8_sees 34 = .ok (.baload, 1) := by decide +kernel
theorem dX8_sees_35 : decode cX8_sees 35 = .ok (.ifCond .eq 7, 3) := by decide +kernel
theorem dX8_sees_38 : decode cX8_sees 38 = .ok (.iconst 1, 1) := by decide +kernel
theorem dX8_sees_39 : decode cX8_sees 39 = .ok (.goto 4, 3) := by decide +kernel
theorem dX8_sees_42 : decode cX8_sees 42 = .ok (.iconst 0, 1) := by decide +kernel
theorem dX8_sees_43 : decode cX8_sees 43 = .ok (.ireturn, 1) := by decide +kernel
set_option maxRecDepth 20000 in
theorem ggX8_shows_X8_sees : GoodIn wsX8_shows wsX8_sees := goodIn_ca (goodIn_r _ [10, 11, 4, 5, 16, 17, 18, 19, 20, 21, 22, 23, 24, 25, 26, 27, 28, 29, 30, 31, 32, 33, 34, 35, 36, 37, 38, 39, 40, 41, 42, 43, 44, 45, 46, 47] (by decide +kernel) (by decide +kernel)) (goodIn_sub (fun _ h => List.mem_cons_of_mem _ (List.mem_append_right _ h)) (by decide +kernel))
set_option maxRecDepth 20000 in
theorem gX8_shows_X8_sees : GoodIn wsX8_shows (wsV RX8 176 RX8 yX8_sees wsX8_sees) := goodIn_app (goodIn_of _ (by decide +kernel)) ggX8_shows_X8_sees
set_option maxRecDepth 20000 in
theorem ggX8_shows_X8_present : GoodIn wsX8_shows wsX8_present := goodIn_ca (goodIn_r _ [15, 1, 11, 16, 17, 18, 19, 20, 21, 22, 23, 24, 25, 26, 27, 28, 29, 30, 31, 32, 33, 34, 35, 36, 37, 38, 39, 40, 41, 42, 43, 44, 45, 46, 47] (by decide +kernel) (by decide +kernel)) (goodIn_sub (fun _ h => List.mem_cons_of_mem _ (List.mem_append_right _ h)) (by decide +kernel))
set_option maxRecDepth 20000 in
theorem gX8_shows_X8_present : GoodIn wsX8_shows (wsV RX8 170 RX8 yX8_present wsX8_present) := goodIn_app (goodIn_of _ (by decide +kernel)) ggX8_shows_X8_present
theorem dX8_shows_0 : decode cX8_shows 0 = .ok (.iconst 0, 1) := by decide +kernel
theorem dX8_shows_1 : decode cX8_shows 1 = .ok (.istore_n 3, 1) := by decide +kernel
theorem dX8_shows_2 : decode cX8_shows 2 = .ok (.iconst 0, 1) := by decide +kernel
theorem dX8_shows_3 : decode cX8_shows 3 = .ok (.istore 4, 2) := by decide +kernel
theorem dX8_shows_5 : decode cX8_shows 5 = .ok (.iload 4, 2) := by decide +kernel
theorem dX8_shows_7 : decode cX8_shows 7 = .ok (.aload_n 0, 1) := by decide +kernel
theorem dX8_shows_8 : decode cX8_shows 8 = .ok (.getfield 173, 3) := by decide +kernel
theorem dX8_shows_11 : decode cX8_shows 11 = .ok (.if_icmp .ge 28, 3) := by decide +kernel
theorem dX8_shows_14 : decode cX8_shows 14 = .ok (.iload_n 3, 1) := by decide +kernel
theorem dX8_shows_15 : decode cX8_shows 15 = .ok (.aload_n 0, 1) := by decide +kernel
theorem dX8_shows_16 : decode cX8_shows 16 = .ok (.iload 4, 2) := by decide +kernel
theorem dX8_shows_18 : decode cX8_shows 18 = .ok (.iload_n 1, 1) := by decide +kernel
theorem dX8_shows_19 : decode cX8_shows 19 = .ok (.iload_n 2, 1) := by decide +kernel
theorem dX8_shows_20 : decode cX8_shows 20 = .ok (.invokevirtual 176, 3) := by decide +kernel
theorem dX8_shows_23 : decode cX8_shows 23 = .ok (.ifCond .eq 7, 3) := by decide +kernel
theorem dX8_shows_26 : decode cX8_shows 26 = .ok (.iconst 1, 1) := by decide +kernel
theorem dX8_shows_27 : decode cX8_shows 27 = .ok (.goto 4, 3) := by decide +kernel
theorem dX8_shows_30 : decode cX8_shows 30 = .ok (.iconst 0, 1) := by decide +kernel
theorem dX8_shows_31 : decode cX8_shows 31 = .ok (.iadd, 1) := by decide +kernel
theorem dX8_shows_32 : decode cX8_shows 32 = .ok (.istore_n 3, 1) := by decide +kernel
theorem dX8_shows_33 : decode cX8_shows 33 = .ok (.iinc 4 1, 3) := by decide +kernel
theorem dX8_shows_36 : decode cX8_shows 36 = .ok (.goto (-31), 3) := by decide +kernel
theorem dX8_shows_39 : decode cX8_shows 39 = .ok (.iload_n 3, 1) := by decide +kernel
theorem dX8_shows_40 : decode cX8_shows 40 = .ok (.ifCond .ne 13, 3) := by decide +kernel
theorem dX8_shows_43 : decode cX8_shows 43 = .ok (.aload_n 0, 1) := by decide +kernel
theorem dX8_shows_44 : decode cX8_shows 44 = .ok (.iload_n 1, 1) := by decide +kernel
theorem dX8_shows_45 : decode cX8_shows 45 = .ok (.invokevirtual 170, 3) := by decide +kernel
theorem dX8_shows_48 : decode cX8_shows 48 = .ok (.ifCond .le 5, 3) := by decide +kernel
theorem dX8_shows_51 : decode cX8_shows 51 = .ok (.iconst 0, 1) := by decide +kernel
theorem dX8_shows_52 : decode cX8_shows 52 = .ok (.ireturn, 1) := by decide +kernel
theorem dX8_shows_53 : decode cX8_shows 53 = .ok (.aload_n 0, 1) := by decide +kernel
theorem dX8_shows_54 : decode cX8_shows 54 = .ok (.getfield 62, 3) := by decide +kernel
theorem dX8_shows_57 : decode cX8_shows 57 = .ok (.iload_n 1, 1) := by decide +kernel
theorem dX8_shows_58 : decode cX8_shows 58 = .ok (.iload_n 2, 1) := by decide +kernel
theorem dX8_shows_59 : decode cX8_shows 59 = .ok (.iastore, 1) := by decide +kernel
theorem dX8_shows_60 : decode cX8_shows 60 = .ok (.aload_n 0, 1) := by decide +kernel
theorem dX8_shows_61 : decode cX8_shows 61 = .ok (.dup, 1) := by decide +kernel
theorem dX8_shows_62 : decode cX8_shows 62 = .ok (.getfield 179, 3) := by decide +kernel
theorem dX8_shows_65 : decode cX8_shows 65 = .ok (.iconst 1, 1) := by decide +kernel
theorem dX8_shows_66 : decode cX8_shows 66 = .ok (.iadd, 1) := by decide +kernel
theorem dX8_shows_67 : decode cX8_shows 67 = .ok (.putfield 179, 3) := by decide +kernel
theorem dX8_shows_70 : decode cX8_shows 70 = .ok (.iconst 0, 1) := by decide +kernel
theorem dX8_shows_71 : decode cX8_shows 71 = .ok (.istore 4, 2) := by decide +kernel
theorem dX8_shows_73 : decode cX8_shows 73 = .ok (.iload 4, 2) := by decide +kernel
theorem dX8_shows_75 : decode cX8_shows 75 = .ok (.aload_n 0, 1) := by decide +kernel
theorem dX8_shows_76 : decode cX8_shows 76 = .ok (.getfield 173, 3) := by decide +kernel
theorem dX8_shows_79 : decode cX8_shows 79 = .ok (.if_icmp .ge 49, 3) := by decide +kernel
theorem dX8_shows_82 : decode cX8_shows 82 = .ok (.aload_n 0, 1) := by decide +kernel
theorem dX8_shows_83 : decode cX8_shows 83 = .ok (.iload 4, 2) := by decide +kernel
theorem dX8_shows_85 : decode cX8_shows 85 = .ok (.iload_n 1, 1) := by decide +kernel
theorem dX8_shows_86 : decode cX8_shows 86 = .ok (.iload_n 2, 1) := by decide +kernel
theorem dX8_shows_87 : decode cX8_shows 87 = .ok (.invokevirtual 176, 3) := by decide +kernel
theorem dX8_shows_90 : decode cX8_shows 90 = .ok (.ifCond .eq 32, 3) := by decide +kernel
theorem dX8_shows_93 : decode cX8_shows 93 = .ok (.aload_n 0, 1) := by decide +kernel
theorem dX8_shows_94 : decode cX8_shows 94 = .ok (.getfield 80, 3) := by decide +kernel
theorem dX8_shows_97 : decode cX8_shows 97 = .ok (.bipush 100, 2) := by decide +kernel
theorem dX8_shows_99 : decode cX8_shows 99 = .ok (.iload 4, 2) := by decide +kernel
theorem dX8_shows_101 : decode cX8_shows 101 = .ok (.imul, 1) := by decide +kernel
theorem dX8_shows_102 : decode cX8_shows 102 = .ok (.iload_n 2, 1) := by decide +kernel
theorem dX8_shows_103 : decode cX8_shows 103 = .ok (.iadd, 1) := by decide +kernel
theorem dX8_shows_104 : decode cX8_shows 104 = .ok (.dup2, 1) := by decide +kernel
theorem dX8_shows_105 : decode cX8_shows 105 = .ok (.iaload, 1) := by decide +kernel
theorem dX8_shows_106 : decode cX8_shows 106 = .ok (.iconst 1, 1) := by decide +kernel
theorem dX8_shows_107 : decode cX8_shows 107 = .ok (.iadd, 1) := by decide +kernel
theorem dX8_shows_108 : decode cX8_shows 108 = .ok (.iastore, 1) := by decide +kernel
theorem dX8_shows_109 : decode cX8_shows 109 = .ok (.aload_n 0, 1) := by decide +kernel
theorem dX8_shows_110 : decode cX8_shows 110 = .ok (.getfield 86, 3) := by decide +kernel
theorem dX8_shows_113 : decode cX8_shows 113 = .ok (.bipush 100, 2) := by decide +kernel
theorem dX8_shows_115 : decode cX8_shows 115 = .ok (.iload 4, 2) := by decide +kernel
theorem dX8_shows_117 : decode cX8_shows 117 = .ok (.imul, 1) := by decide +kernel
theorem dX8_shows_118 : decode cX8_shows 118 = .ok (.iload_n 2, 1) := by decide +kernel
theorem dX8_shows_119 : decode cX8_shows 119 = .ok (.iadd, 1) := by decide +kernel
theorem dX8_shows_120 : decode cX8_shows 120 = .ok (.iconst 0, 1) := by decide +kernel
theorem dX8_shows_121 : decode cX8_shows 121 = .ok (.bastore, 1) := by decide +kernel
theorem dX8_shows_122 : decode cX8_shows 122 = .ok (.iinc 4 1, 3) := by decide +kernel
theorem dX8_shows_125 : decode cX8_shows 125 = .ok (.goto (-52), 3) := by decide +kernel
theorem dX8_shows_128 : decode cX8_shows 128 = .ok (.iconst 1, 1) := by decide +kernel
theorem dX8_shows_129 : decode cX8_shows 129 = .ok (.ireturn, 1) := by decide +kernel
set_option maxRecDepth 20000 in
theorem ggX8_takes_X8_held : GoodIn wsX8_takes wsX8_held := goodIn_ca (goodIn_r _ [9, 1, 10, 11, 12, 13, 14, 15, 16, 17, 18, 19, 20, 21, 22, 23, 24, 25, 26, 27, 28, 29, 30, 31, 32, 33, 34, 35, 36, 37, 38, 39, 40, 41] (by decide +kernel) (by decide +kernel)) (goodIn_sub (fun _ h => List.mem_cons_of_mem _ (List.mem_append_right _ h)) (by decide +kernel))
set_option maxRecDepth 20000 in
theorem gX8_takes_X8_held : GoodIn wsX8_takes (wsV RX8 143 RX8 yX8_held wsX8_held) := goodIn_app (goodIn_of _ (by decide +kernel)) ggX8_takes_X8_held
theorem dX8_takes_0 : decode cX8_takes 0 = .ok (.aload_n 0, 1) := by decide +kernel
theorem dX8_takes_1 : decode cX8_takes 1 = .ok (.getfield 71, 3) := by decide +kernel
theorem dX8_takes_4 : decode cX8_takes 4 = .ok (.iload_n 2, 1) := by decide +kernel
theorem dX8_takes_5 : decode cX8_takes 5 = .ok (.iaload, 1) := by decide +kernel
theorem dX8_takes_6 : decode cX8_takes 6 = .ok (.iload_n 1, 1) := by decide +kernel
theorem dX8_takes_7 : decode cX8_takes 7 = .ok (.if_icmp .eq 12, 3) := by decide +kernel
theorem dX8_takes_10 : decode cX8_takes 10 = .ok (.aload_n 0, 1) := by decide +kernel
theorem dX8_takes_11 : decode cX8_takes 11 = .ok (.iload_n 1, 1) := by decide +kernel
theorem dX8_takes_12 : decode cX8_takes 12 = .ok (.invokevirtual 143, 3) := by decide +kernel
theorem dX8_takes_15 : decode cX8_takes 15 = .ok (.iconst 3, 1) := by decide +kernel
theorem dX8_takes_16 : decode cX8_takes 16 = .ok (.if_icmp .ne 5, 3) := by decide +kernel
theorem dX8_takes_19 : decode cX8_takes 19 = .ok (.iconst 1, 1) := by decide +kernel
theorem dX8_takes_20 : decode cX8_takes 20 = .ok (.ireturn, 1) := by decide +kernel
theorem dX8_takes_21 : decode cX8_takes 21 = .ok (.aload_n 0, 1) := by decide +kernel
theorem dX8_takes_22 : decode cX8_takes 22 = .ok (.getfield 71, 3) := by decide +kernel
theorem dX8_takes_25 : decode cX8_takes 25 = .ok (.iload_n 2, 1) := by decide +kernel
theorem dX8_takes_26 : decode cX8_takes 26 = .ok (.iaload, 1) := by decide +kernel
theorem dX8_takes_27 : decode cX8_takes 27 = .ok (.ifCond .ge 12, 3) := by decide +kernel
theorem dX8_takes_30 : decode cX8_takes 30 = .ok (.aload_n 0, 1) := by decide +kernel
theorem dX8_takes_31 : decode cX8_takes 31 = .ok (.getfield 71, 3) := by decide +kernel
theorem dX8_takes_34 : decode cX8_takes 34 = .ok (.iload_n 2, 1) := by decide +kernel
theorem dX8_takes_35 : decode cX8_takes 35 = .ok (.iload_n 1, 1) := by decide +kernel
theorem dX8_takes_36 : decode cX8_takes 36 = .ok (.iastore, 1) := by decide +kernel
theorem dX8_takes_37 : decode cX8_takes 37 = .ok (.iconst 1, 1) := by decide +kernel
theorem dX8_takes_38 : decode cX8_takes 38 = .ok (.ireturn, 1) := by decide +kernel
theorem dX8_takes_39 : decode cX8_takes 39 = .ok (.aload_n 0, 1) := by decide +kernel
theorem dX8_takes_40 : decode cX8_takes 40 = .ok (.getfield 74, 3) := by decide +kernel
theorem dX8_takes_43 : decode cX8_takes 43 = .ok (.bipush 6, 2) := by decide +kernel
theorem dX8_takes_45 : decode cX8_takes 45 = .ok (.iload_n 2, 1) := by decide +kernel
theorem dX8_takes_46 : decode cX8_takes 46 = .ok (.imul, 1) := by decide +kernel
theorem dX8_takes_47 : decode cX8_takes 47 = .ok (.aload_n 0, 1) := by decide +kernel
theorem dX8_takes_48 : decode cX8_takes 48 = .ok (.getfield 77, 3) := by decide +kernel
theorem dX8_takes_51 : decode cX8_takes 51 = .ok (.iload_n 2, 1) := by decide +kernel
theorem dX8_takes_52 : decode cX8_takes 52 = .ok (.iaload, 1) := by decide +kernel
theorem dX8_takes_53 : decode cX8_takes 53 = .ok (.iadd, 1) := by decide +kernel
theorem dX8_takes_54 : decode cX8_takes 54 = .ok (.iload_n 1, 1) := by decide +kernel
theorem dX8_takes_55 : decode cX8_takes 55 = .ok (.iastore, 1) := by decide +kernel
theorem dX8_takes_56 : decode cX8_takes 56 = .ok (.aload_n 0, 1) := by decide +kernel
theorem dX8_takes_57 : decode cX8_takes 57 = .ok (.getfield 77, 3) := by decide +kernel
theorem dX8_takes_60 : decode cX8_takes 60 = .ok (.iload_n 2, 1) := by decide +kernel
theorem dX8_takes_61 : decode cX8_takes 61 = .ok (.dup2, 1) := by decide +kernel
theorem dX8_takes_62 : decode cX8_takes 62 = .ok (.iaload, 1) := by decide +kernel
theorem dX8_takes_63 : decode cX8_takes 63 = .ok (.iconst 1, 1) := by decide +kernel
theorem dX8_takes_64 : decode cX8_takes 64 = .ok (.iadd, 1) := by decide +kernel
theorem dX8_takes_65 : decode cX8_takes 65 = .ok (.iastore, 1) := by decide +kernel
theorem dX8_takes_66 : decode cX8_takes 66 = .ok (.aload_n 0, 1) := by decide +kernel
theorem dX8_takes_67 : decode cX8_takes 67 = .ok (.getfield 56, 3) := by decide +kernel
theorem dX8_takes_70 : decode cX8_takes 70 = .ok (.iload_n 1, 1) := by decide +kernel
theorem dX8_takes_71 : decode cX8_takes 71 = .ok (.iload_n 2, 1) := by decide +kernel
theorem dX8_takes_72 : decode cX8_takes 72 = .ok (.iastore, 1) := by decide +kernel
theorem dX8_takes_73 : decode cX8_takes 73 = .ok (.iconst 0, 1) := by decide +kernel
theorem dX8_takes_74 : decode cX8_takes 74 = .ok (.ireturn, 1) := by decide +kernel
set_option maxRecDepth 20000 in
theorem ggX8_watches_X8_leaves : GoodIn wsX8_watches wsX8_leaves := goodIn_ca (goodIn_r _ [11, 12, 6, 5, 24, 25, 26, 27, 28, 29, 30, 31, 32, 33, 34, 35, 36, 37, 38, 39, 40, 41, 42, 43, 44, 45, 46, 47, 48, 49, 50, 51, 52, 53, 54, 55] (by decide +kernel) (by decide +kernel)) (goodIn_sub (fun _ h => List.mem_cons_of_mem _ (List.mem_append_right _ h)) (by decide +kernel))
set_option maxRecDepth 20000 in
theorem gX8_watches_X8_leaves : GoodIn wsX8_watches (wsV RX8 150 RX8 yX8_leaves wsX8_leaves) := goodIn_app (goodIn_of _ (by decide +kernel)) ggX8_watches_X8_leaves
set_option maxRecDepth 20000 in
theorem ggX8_watches_X8_nearest : GoodIn wsX8_watches wsX8_nearest := goodIn_ca (goodIn_r _ [16, 1, 4, 17, 18, 10, 19, 24, 25, 26, 27, 28, 29, 30, 31, 32, 33, 34, 35, 36, 37, 38, 39, 40, 41, 42, 43, 44, 45, 46, 47, 48, 49, 50, 51, 52, 53, 54, 55] (by decide +kernel) (by decide +kernel)) (goodIn_sub (fun _ h => List.mem_cons_of_mem _ (List.mem_append_right _ h)) (by decide +kernel))
set_option maxRecDepth 20000 in
theorem gX8_watches_X8_nearest : GoodIn wsX8_watches (wsV RX8 130 RX8 yX8_nearest wsX8_nearest) := goodIn_app (goodIn_of _ (by decide +kernel)) ggX8_watches_X8_nearest
set_option maxRecDepth 20000 in
theorem ggX8_watches_X8_comesTo : GoodIn wsX8_watches wsX8_comesTo := goodIn_ca (goodIn_r _ [23, 12, 5, 6, 24, 25, 26, 27, 28, 29, 30, 31, 32, 33, 34, 35, 36, 37, 38, 39, 40, 41, 42, 43, 44, 45, 46, 47, 48, 49, 50, 51, 52, 53, 54, 55] (by decide +kernel) (by decide +kernel)) (goodIn_sub (fun _ h => List.mem_cons_of_mem _ (List.mem_append_right _ h)) (by decide +kernel))
set_option maxRecDepth 20000 in
theorem gX8_watches_X8_comesTo : GoodIn wsX8_watches (wsV RX8 134 RX8 yX8_comesTo wsX8_comesTo) := goodIn_app (goodIn_of _ (by decide +kernel)) ggX8_watches_X8_comesTo
theorem dX8_watches_0 : decode cX8_watches 0 = .ok (.iconst 0, 1) := by decide +kernel
theorem dX8_watches_1 : decode cX8_watches 1 = .ok (.istore_n 1, 1) := by decide +kernel
theorem dX8_watches_2 : decode cX8_watches 2 = .ok (.iload_n 1, 1) := by decide +kernel
theorem dX8_watches_3 : decode cX8_watches 3 = .ok (.aload_n 0, 1) := by decide +kernel
theorem dX8_watches_4 : decode cX8_watches 4 = .ok (.getfield 100, 3) := by decide +kernel
theorem dX8_watches_7 : decode cX8_watches 7 = .ok (.if_icmp .ge 95, 3) := by decide +kernel
theorem dX8_watches_10 : decode cX8_watches 10 = .ok (.aload_n 0, 1) := by decide +kernel
theorem dX8_watches_11 : decode cX8_watches 11 = .ok (.getfield 59, 3) := by decide +kernel
theorem dX8_watches_14 : decode cX8_watches 14 = .ok (.iload_n 1, 1) := by decide +kernel
theorem dX8_watches_15 : decode cX8_watches 15 = .ok (.dup2, 1) := by decide +kernel
theorem dX8_watches_16 : decode cX8_watches 16 = .ok (.iaload, 1) := by decide +kernel
theorem dX8_watches_17 : decode cX8_watches 17 = .ok (.aload_n 0, 1) := by decide +kernel
theorem dX8_watches_18 : decode cX8_watches 18 = .ok (.getfield 38, 3) := by decide +kernel
theorem dX8_watches_21 : decode cX8_watches 21 = .ok (.iload_n 1, 1) := by decide +kernel
theorem dX8_watches_22 : decode cX8_watches 22 = .ok (.baload, 1) := by decide +kernel
theorem dX8_watches_23 : decode cX8_watches 23 = .ok (.ifCond .eq 7, 3) := by decide +kernel
theorem dX8_watches_26 : decode cX8_watches 26 = .ok (.iconst 1, 1) := by decide +kernel
theorem dX8_watches_27 : decode cX8_watches 27 = .ok (.goto 4, 3) := by decide +kernel
theorem dX8_watches_30 : decode cX8_watches 30 = .ok (.iconst 0, 1) := by decide +kernel
theorem dX8_watches_31 : decode cX8_watches 31 = .ok (.iadd, 1) := by decide +kernel
theorem dX8_watches_32 : decode cX8_watches 32 = .ok (.iastore, 1) := by decide +kernel
theorem dX8_watches_33 : decode cX8_watches 33 = .ok (.aload_n 0, 1) := by decide +kernel
theorem dX8_watches_34 : decode cX8_watches 34 = .ok (.getfield 59, 3) := by decide +kernel
theorem dX8_watches_37 : decode cX8_watches 37 = .ok (.iload_n 1, 1) := by decide +kernel
theorem dX8_watches_38 : decode cX8_watches 38 = .ok (.iaload, 1) := by decide +kernel
theorem dX8_watches_39 : decode cX8_watches 39 = .ok (.iconst 5, 1) := by decide +kernel
theorem dX8_watches_40 : decode cX8_watches 40 = .ok (.if_icmp .ne 56, 3) := by decide +kernel
theorem dX8_watches_43 : decode cX8_watches 43 = .ok (.aload_n 0, 1) := by decide +kernel
theorem dX8_watches_44 : decode cX8_watches 44 = .ok (.getfield 41, 3) := by decide +kernel
theorem dX8_watches_47 : decode cX8_watches 47 = .ok (.iload_n 1, 1) := by decide +kernel
theorem dX8_watches_48 : decode cX8_watches 48 = .ok (.baload, 1) := by decide +kernel
theorem dX8_watches_49 : decode cX8_watches 49 = .ok (.ifCond .ne 47, 3) := by decide +kernel
theorem dX8_watches_52 : decode cX8_watches 52 = .ok (.aload_n 0, 1) := by decide +kernel
theorem dX8_watches_53 : decode cX8_watches 53 = .ok (.getfield 41, 3) := by decide +kernel
theorem dX8_watches_56 : decode cX8_watches 56 = .ok (.iload_n 1, 1) := by decide +kernel
theorem dX8_watches_57 : decode cX8_watches 57 = .ok (.iconst 1, 1) := by decide +kernel
theorem dX8_watches_58 : decode cX8_watches 58 = .ok (.bastore, 1) := by decide +kernel
theorem dX8_watches_59 : decode cX8_watches 59 = .ok (.aload_n 0, 1) := by decide +kernel
theorem dX8_watches_60 : decode cX8_watches 60 = .ok (.getfield 68, 3) := by decide +kernel
theorem dX8_watches_63 : decode cX8_watches 63 = .ok (.iload_n 1, 1) := by decide +kernel
theorem dX8_watches_64 : decode cX8_watches 64 = .ok (.iaload, 1) := by decide +kernel
theorem dX8_watches_65 : decode cX8_watches 65 = .ok (.ifCond .le 31, 3) := by decide +kernel
theorem dX8_watches_68 : decode cX8_watches 68 = .ok (.aload_n 0, 1) := by decide +kernel
theorem dX8_watches_69 : decode cX8_watches 69 = .ok (.getfield 65, 3) := by decide +kernel
theorem dX8_watches_72 : decode cX8_watches 72 = .ok (.bipush 6, 2) := by decide +kernel
theorem dX8_watches_74 : decode cX8_watches 74 = .ok (.iload_n 1, 1) := by decide +kernel
theorem dX8_watches_75 : decode cX8_watches 75 = .ok (.imul, 1) := by decide +kernel
theorem dX8_watches_76 : decode cX8_watches 76 = .ok (.iaload, 1) := by decide +kernel
theorem dX8_watches_77 : decode cX8_watches 77 = .ok (.istore_n 2, 1) := by decide +kernel
theorem dX8_watches_78 : decode cX8_watches 78 = .ok (.aload_n 0, 1) := by decide +kernel
theorem dX8_watches_79 : decode cX8_watches 79 = .ok (.iload_n 2, 1) := by decide +kernel
theorem dX8_watches_80 : decode cX8_watches 80 = .ok (.invokevirtual 150, 3) := by decide +kernel
theorem dX8_watches_83 : decode cX8_watches 83 = .ok (.aload_n 0, 1) := by decide +kernel
theorem dX8_watches_84 : decode cX8_watches 84 = .ok (.iload_n 2, 1) := by decide +kernel
theorem dX8_watches_85 : decode cX8_watches 85 = .ok (.aload_n 0, 1) := by decide +kernel
theorem dX8_watches_86 : decode cX8_watches 86 = .ok (.iload_n 1, 1) := by decide +kernel
theorem dX8_watches_87 : decode cX8_watches 87 = .ok (.invokevirtual 130, 3) := by decide +kernel
theorem dX8_watches_90 : decode cX8_watches 90 = .ok (.invokevirtual 134, 3) := by decide +kernel
theorem dX8_watches_93 : decode cX8_watches 93 = .ok (.goto (-34), 3) := by decide +kernel
theorem dX8_watches_96 : decode cX8_watches 96 = .ok (.iinc 1 1, 3) := by decide +kernel
theorem dX8_watches_99 : decode cX8_watches 99 = .ok (.goto (-97), 3) := by decide +kernel
theorem dX8_watches_102 : decode cX8_watches 102 = .ok (.return_, 1) := by decide +kernel
set_option maxRecDepth 20000 in
theorem ggX8_tick_X8_isIn : GoodIn wsX8_tick wsX8_isIn := goodIn_r _ [9] (by decide +kernel) (by decide +kernel)
set_option maxRecDepth 20000 in
theorem gX8_tick_X8_isIn : GoodIn wsX8_tick (va_wsS RX8 96 yX8_isIn wsX8_isIn) := goodIn_app (goodIn_of _ (by decide +kernel)) ggX8_tick_X8_isIn
set_option maxRecDepth 20000 in
theorem ggX8_tick_X8_isThrown : GoodIn wsX8_tick wsX8_isThrown := goodIn_r _ [13, 14, 107, 108, 109, 110, 111, 112, 113, 114, 115, 116, 117, 118, 119, 120, 121, 122, 123, 124, 125, 126, 127, 128, 129, 130, 131, 132, 133, 134, 135, 136, 137, 138] (by decide +kernel) (by decide +kernel)
set_option maxRecDepth 20000 in
theorem gX8_tick_X8_isThrown : GoodIn wsX8_tick (wsV RX8 103 RX8 yX8_isThrown wsX8_isThrown) := goodIn_app (goodIn_of _ (by decide +kernel)) ggX8_tick_X8_isThrown
set_option maxRecDepth 20000 in
theorem ggX8_tick_X8_turn : GoodIn wsX8_tick wsX8_turn := goodIn_ca (goodIn_r _ [18, 19, 20, 21, 22, 23, 24, 25, 26, 27, 28, 8, 29, 30, 31, 32, 33, 34, 35, 36, 37, 38, 39, 40, 41, 42, 43, 44, 45, 46, 47, 48, 49, 50, 51, 1, 52, 53, 54, 55, 56, 57, 58, 59, 60, 61, 62, 63, 64, 65, 66, 67, 68, 69, 70, 71, 72, 73, 74, 75, 76, 77, 78, 79, 80, 81, 82, 83, 84, 85, 6, 7, 9, 107, 108, 109, 110, 111, 112, 113, 114, 115, 116, 117, 118, 119, 120, 121, 122, 123, 124, 125, 126, 127, 128, 129, 130, 131, 132, 133, 134, 135, 136, 137, 138] (by decide +kernel) (by decide +kernel)) (goodIn_sub (fun _ h => List.mem_cons_of_mem _ (List.mem_append_right _ h)) (by decide +kernel))
set_option maxRecDepth 20000 in
theorem gX8_tick_X8_turn : GoodIn wsX8_tick (wsV RX8 182 RX8 yX8_turn wsX8_turn) := goodIn_app (goodIn_of _ (by decide +kernel)) ggX8_tick_X8_turn
set_option maxRecDepth 20000 in
theorem ggX8_tick_X8_watches : GoodIn wsX8_tick wsX8_watches := goodIn_ca (goodIn_r _ [89, 2, 90, 4, 91, 3, 5, 92, 93, 94, 8, 95, 43, 96, 97, 98, 99, 100, 101, 102, 103, 104, 105, 106, 107, 108, 109, 110, 111, 112, 113, 114, 115, 116, 117, 118, 119, 120, 121, 122, 123, 124, 125, 126, 127, 128, 129, 130, 131, 132, 133, 134, 135, 136, 137, 138] (by decide +kernel) (by decide +kernel)) (goodIn_sub (fun _ h => List.mem_cons_of_mem _ (List.mem_append_right _ h)) (by decide +kernel))
set_option maxRecDepth 20000 in
theorem gX8_tick_X8_watches : GoodIn wsX8_tick (wsV RX8 185 RX8 yX8_watches wsX8_watches) := goodIn_app (goodIn_of _ (by decide +kernel)) ggX8_tick_X8_watches
theorem dX8_tick_0 : decode cX8_tick 0 = .ok (.aload_n 0, 1) := by decide +kernel
theorem dX8_tick_1 : decode cX8_tick 1 = .ok (.iload_n 1, 1) := by decide +kernel
theorem dX8_tick_2 : decode cX8_tick 2 = .ok (.iconst 1, 1) := by decide +kernel
theorem dX8_tick_3 : decode cX8_tick 3 = .ok (.bipush 50, 2) := by decide +kernel
theorem dX8_tick_5 : decode cX8_tick 5 = .ok (.invokestatic 96, 3) := by decide +kernel
theorem dX8_tick_8 : decode cX8_tick 8 = .ok (.ifCond .ne 7, 3) := by decide +kernel
theorem dX8_tick_11 : decode cX8_tick 11 = .ok (.iconst 1, 1) := by decide +kernel
theorem dX8_tick_12 : decode cX8_tick 12 = .ok (.goto 4, 3) := by decide +kernel
theorem dX8_tick_15 : decode cX8_tick 15 = .ok (.iconst 0, 1) := by decide +kernel
theorem dX8_tick_16 : decode cX8_tick 16 = .ok (.iconst 1, 1) := by decide +kernel
theorem dX8_tick_17 : decode cX8_tick 17 = .ok (.invokevirtual 103, 3) := by decide +kernel
theorem dX8_tick_20 : decode cX8_tick 20 = .ok (.ifCond .eq 5, 3) := by decide +kernel
theorem dX8_tick_23 : decode cX8_tick 23 = .ok (.iconst 0, 1) := by decide +kernel
theorem dX8_tick_24 : decode cX8_tick 24 = .ok (.ireturn, 1) := by decide +kernel
theorem dX8_tick_25 : decode cX8_tick 25 = .ok (.aload_n 0, 1) := by decide +kernel
theorem dX8_tick_26 : decode cX8_tick 26 = .ok (.iconst 0, 1) := by decide +kernel
theorem dX8_tick_27 : decode cX8_tick 27 = .ok (.putfield 179, 3) := by decide +kernel
theorem dX8_tick_30 : decode cX8_tick 30 = .ok (.iconst 0, 1) := by decide +kernel
theorem dX8_tick_31 : decode cX8_tick 31 = .ok (.istore_n 2, 1) := by decide +kernel
theorem dX8_tick_32 : decode cX8_tick 32 = .ok (.iload_n 2, 1) := by decide +kernel
theorem dX8_tick_33 : decode cX8_tick 33 = .ok (.iload_n 1, 1) := by decide +kernel
theorem dX8_tick_34 : decode cX8_tick 34 = .ok (.if_icmp .ge 74, 3) := by decide +kernel
theorem dX8_tick_37 : decode cX8_tick 37 = .ok (.iconst 0, 1) := by decide +kernel
theorem dX8_tick_38 : decode cX8_tick 38 = .ok (.istore_n 3, 1) := by decide +kernel
theorem dX8_tick_39 : decode cX8_tick 39 = .ok (.iload_n 3, 1) := by decide +kernel
theorem dX8_tick_40 : decode cX8_tick 40 = .ok (.aload_n 0, 1) := by decide +kernel
theorem dX8_tick_41 : decode cX8_tick 41 = .ok (.getfield 100, 3) := by decide +kernel
theorem dX8_tick_44 : decode cX8_tick 44 = .ok (.if_icmp .ge 54, 3) := by decide +kernel
theorem dX8_tick_47 : decode cX8_tick 47 = .ok (.iconst 0, 1) := by decide +kernel
theorem dX8_tick_48 : decode cX8_tick 48 = .ok (.istore 4, 2) := by decide +kernel
theorem dX8_tick_50 : decode cX8_tick 50 = .ok (.iload 4, 2) := by decide +kernel
theorem dX8_tick_52 : decode cX8_tick 52 = .ok (.aload_n 0, 1) := by decide +kernel
theorem dX8_tick_53 : decode cX8_tick 53 = .ok (.getfield 68, 3) := by decide +kernel
theorem dX8_tick_56 : decode cX8_tick 56 = .ok (.iload_n 3, 1) := by decide +kernel
theorem dX8_tick_57 : decode cX8_tick 57 = .ok (.iaload, 1) := by decide +kernel
theorem dX8_tick_58 : decode cX8_tick 58 = .ok (.if_icmp .ge 34, 3) := by decide +kernel
theorem dX8_tick_61 : decode cX8_tick 61 = .ok (.aload_n 0, 1) := by decide +kernel
theorem dX8_tick_62 : decode cX8_tick 62 = .ok (.getfield 38, 3) := by decide +kernel
theorem dX8_tick_65 : decode cX8_tick 65 = .ok (.iload_n 3, 1) := by decide +kernel
theorem dX8_tick_66 : decode cX8_tick 66 = .ok (.baload, 1) := by decide +kernel
theorem dX8_tick_67 : decode cX8_tick 67 = .ok (.ifCond .ne 25, 3) := by decide +kernel
theorem dX8_tick_70 : decode cX8_tick 70 = .ok (.aload_n 0, 1) := by decide +kernel
theorem dX8_tick_71 : decode cX8_tick 71 = .ok (.aload_n 0, 1) := by decide +kernel
theorem dX8_tick_72 : decode cX8_tick 72 = .ok (.getfield 65, 3) := by decide +kernel
theorem dX8_tick_75 : decode cX8_tick 75 = .ok (.bipush 6, 2) := by decide +kernel
theorem dX8_tick_77 : decode cX8_tick 77 = .ok (.iload_n 3, 1) := by decide +kernel
theorem dX8_tick_78 : decode cX8_tick 78 = .ok (.imul, 1) := by decide +kernel
theorem dX8_tick_79 : decode cX8_tick 79 = .ok (.iload 4, 2) := by decide +kernel
theorem dX8_tick_81 : decode cX8_tick 81 = .ok (.iadd, 1) := by decide +kernel
theorem dX8_tick_82 : decode cX8_tick 82 = .ok (.iaload, 1) := by decide +kernel
theorem dX8_tick_83 : decode cX8_tick 83 = .ok (.invokevirtual 182, 3) := by decide +kernel
theorem dX8_tick_86 : decode cX8_tick 86 = .ok (.iinc 4 1, 3) := by decide +kernel
theorem dX8_tick_89 : decode cX8_tick 89 = .ok (.goto (-39), 3) := by decide +kernel
theorem dX8_tick_92 : decode cX8_tick 92 = .ok (.iinc 3 1, 3) := by decide +kernel
theorem dX8_tick_95 : decode cX8_tick 95 = .ok (.goto (-56), 3) := by decide +kernel
theorem dX8_tick_98 : decode cX8_tick 98 = .ok (.aload_n 0, 1) := by decide +kernel
theorem dX8_tick_99 : decode cX8_tick 99 = .ok (.invokevirtual 185, 3) := by decide +kernel
theorem dX8_tick_102 : decode cX8_tick 102 = .ok (.iinc 2 1, 3) := by decide +kernel
theorem dX8_tick_105 : decode cX8_tick 105 = .ok (.goto (-73), 3) := by decide +kernel
theorem dX8_tick_108 : decode cX8_tick 108 = .ok (.aload_n 0, 1) := by decide +kernel
theorem dX8_tick_109 : decode cX8_tick 109 = .ok (.getfield 179, 3) := by decide +kernel
theorem dX8_tick_112 : decode cX8_tick 112 = .ok (.ireturn, 1) := by decide +kernel
set_option maxRecDepth 20000 in
theorem ggX8_slide_X8_isKiosk : GoodIn wsX8_slide wsX8_isKiosk := goodIn_r _ [6, 7, 8, 9, 5, 10, 16, 17, 18, 19, 20, 21, 22, 23, 24, 25, 26, 27, 28, 29, 30, 31, 32, 33, 34, 35, 36, 37, 38, 39, 40, 41, 42, 43, 44, 45, 46, 47] (by decide +kernel) (by decide +kernel)
set_option maxRecDepth 20000 in
theorem gX8_slide_X8_isKiosk : GoodIn wsX8_slide (wsV RX8 123 RX8 yX8_isKiosk wsX8_isKiosk) := goodIn_app (goodIn_of _ (by decide +kernel)) ggX8_slide_X8_isKiosk
set_option maxRecDepth 20000 in
theorem ggX8_slide_X8_isThrown : GoodIn wsX8_slide wsX8_isThrown := goodIn_r _ [14, 15, 16, 17, 18, 19, 20, 21, 22, 23, 24, 25, 26, 27, 28, 29, 30, 31, 32, 33, 34, 35, 36, 37, 38, 39, 40, 41, 42, 43, 44, 45, 46, 47] (by decide +kernel) (by decide +kernel)
set_option maxRecDepth 20000 in
theorem gX8_slide_X8_isThrown : GoodIn wsX8_slide (wsV RX8 103 RX8 yX8_isThrown wsX8_isThrown) := goodIn_app (goodIn_of _ (by decide +kernel)) ggX8_slide_X8_isThrown
theorem dX8_slide_0 : decode cX8_slide 0 = .ok (.aload_n 0, 1) := by decide +kernel
theorem dX8_slide_1 : decode cX8_slide 1 = .ok (.aload_n 0, 1) := by decide +kernel
theorem dX8_slide_2 : decode cX8_slide 2 = .ok (.iload_n 1, 1) := by decide +kernel
theorem dX8_slide_3 : decode cX8_slide 3 = .ok (.invokevirtual 123, 3) := by decide +kernel
theorem dX8_slide_6 : decode cX8_slide 6 = .ok (.ifCond .ne 7, 3) := by decide +kernel
theorem dX8_slide_9 : decode cX8_slide 9 = .ok (.iconst 1, 1) := by decide +kernel
theorem dX8_slide_10 : decode cX8_slide 10 = .ok (.goto 4, 3) := by decide +kernel
theorem dX8_slide_13 : decode cX8_slide 13 = .ok (.iconst 0, 1) := by decide +kernel
theorem dX8_slide_14 : decode cX8_slide 14 = .ok (.iconst 1, 1) := by decide +kernel
theorem dX8_slide_15 : decode cX8_slide 15 = .ok (.invokevirtual 103, 3) := by decide +kernel
theorem dX8_slide_18 : decode cX8_slide 18 = .ok (.ifCond .ne 25, 3) := by decide +kernel
theorem dX8_slide_21 : decode cX8_slide 21 = .ok (.aload_n 0, 1) := by decide +kernel
theorem dX8_slide_22 : decode cX8_slide 22 = .ok (.aload_n 0, 1) := by decide +kernel
theorem dX8_slide_23 : decode cX8_slide 23 = .ok (.getfield 62, 3) := by decide +kernel
theorem dX8_slide_26 : decode cX8_slide 26 = .ok (.iload_n 1, 1) := by decide +kernel
theorem dX8_slide_27 : decode cX8_slide 27 = .ok (.iaload, 1) := by decide +kernel
theorem dX8_slide_28 : decode cX8_slide 28 = .ok (.ifCond .ge 7, 3) := by decide +kernel
theorem dX8_slide_31 : decode cX8_slide 31 = .ok (.iconst 1, 1) := by decide +kernel
theorem dX8_slide_32 : decode cX8_slide 32 = .ok (.goto 4, 3) := by decide +kernel
theorem dX8_slide_35 : decode cX8_slide 35 = .ok (.iconst 0, 1) := by decide +kernel
theorem dX8_slide_36 : decode cX8_slide 36 = .ok (.iconst 2, 1) := by decide +kernel
theorem dX8_slide_37 : decode cX8_slide 37 = .ok (.invokevirtual 103, 3) := by decide +kernel
theorem dX8_slide_40 : decode cX8_slide 40 = .ok (.ifCond .eq 7, 3) := by decide +kernel
theorem dX8_slide_43 : decode cX8_slide 43 = .ok (.iconst 0, 1) := by decide +kernel
theorem dX8_slide_44 : decode cX8_slide 44 = .ok (.goto 9, 3) := by decide +kernel
theorem dX8_slide_47 : decode cX8_slide 47 = .ok (.aload_n 0, 1) := by decide +kernel
theorem dX8_slide_48 : decode cX8_slide 48 = .ok (.getfield 62, 3) := by decide +kernel
theorem dX8_slide_51 : decode cX8_slide 51 = .ok (.iload_n 1, 1) := by decide +kernel
theorem dX8_slide_52 : decode cX8_slide 52 = .ok (.iaload, 1) := by decide +kernel
theorem dX8_slide_53 : decode cX8_slide 53 = .ok (.ireturn, 1) := by decide +kernel
set_option maxRecDepth 20000 in
theorem ggX8_isDevice_X8_isIn : GoodIn wsX8_isDevice wsX8_isIn := goodIn_r _ [4] (by decide +kernel) (by decide +kernel)
set_option maxRecDepth 20000 in
theorem gX8_isDevice_X8_isIn : GoodIn wsX8_isDevice (va_wsS RX8 96 yX8_isIn wsX8_isIn) := goodIn_app (goodIn_of _ (by decide +kernel)) ggX8_isDevice_X8_isIn
theorem dX8_isDevice_0 : decode cX8_isDevice 0 = .ok (.iload_n 0, 1) := by decide +kernel
theorem dX8_isDevice_1 : decode cX8_isDevice 1 = .ok (.iconst 0, 1) := by decide +kernel
theorem dX8_isDevice_2 : decode cX8_isDevice 2 = .ok (.iconst 5, 1) := by decide +kernel
theorem dX8_isDevice_3 : decode cX8_isDevice 3 = .ok (.invokestatic 96, 3) := by decide +kernel
theorem dX8_isDevice_6 : decode cX8_isDevice 6 = .ok (.ireturn, 1) := by decide +kernel
set_option maxRecDepth 20000 in
theorem ggX8_holder_X8_isDevice : GoodIn wsX8_holder wsX8_isDevice := goodIn_r _ [5, 6, 7, 4, 8] (by decide +kernel) (by decide +kernel)
set_option maxRecDepth 20000 in
theorem gX8_holder_X8_isDevice : GoodIn wsX8_holder (va_wsS RX8 188 yX8_isDevice wsX8_isDevice) := goodIn_app (goodIn_of _ (by decide +kernel)) ggX8_holder_X8_isDevice
set_option maxRecDepth 20000 in
theorem ggX8_holder_X8_isThrown : GoodIn wsX8_holder wsX8_isThrown := goodIn_r _ [12, 13, 14, 15, 16, 17, 18, 19, 20, 21, 22, 23, 24, 25, 26, 27, 28, 29, 30, 31, 32, 33, 34, 35, 36, 37, 38, 39, 40, 41, 42, 43, 44, 45] (by decide +kernel) (by decide +kernel)
set_option maxRecDepth 20000 in
theorem gX8_holder_X8_isThrown : GoodIn wsX8_holder (wsV RX8 103 RX8 yX8_isThrown wsX8_isThrown) := goodIn_app (goodIn_of _ (by decide +kernel)) ggX8_holder_X8_isThrown
theorem dX8_holder_0 : decode cX8_holder 0 = .ok (.aload_n 0, 1) := by decide +kernel
theorem dX8_holder_1 : decode cX8_holder 1 = .ok (.iload_n 1, 1) := by decide +kernel
theorem dX8_holder_2 : decode cX8_holder 2 = .ok (.invokestatic 188, 3) := by decide +kernel
theorem dX8_holder_5 : decode cX8_holder 5 = .ok (.ifCond .ne 7, 3) := by decide +kernel
theorem dX8_holder_8 : decode cX8_holder 8 = .ok (.iconst 1, 1) := by decide +kernel
theorem dX8_holder_9 : decode cX8_holder 9 = .ok (.goto 4, 3) := by decide +kernel
theorem dX8_holder_12 : decode cX8_holder 12 = .ok (.iconst 0, 1) := by decide +kernel
theorem dX8_holder_13 : decode cX8_holder 13 = .ok (.iconst 1, 1) := by decide +kernel
theorem dX8_holder_14 : decode cX8_holder 14 = .ok (.invokevirtual 103, 3) := by decide +kernel
theorem dX8_holder_17 : decode cX8_holder 17 = .ok (.ifCond .ne 25, 3) := by decide +kernel
theorem dX8_holder_20 : decode cX8_holder 20 = .ok (.aload_n 0, 1) := by decide +kernel
theorem dX8_holder_21 : decode cX8_holder 21 = .ok (.aload_n 0, 1) := by decide +kernel
theorem dX8_holder_22 : decode cX8_holder 22 = .ok (.getfield 71, 3) := by decide +kernel
theorem dX8_holder_25 : decode cX8_holder 25 = .ok (.iload_n 1, 1) := by decide +kernel
theorem dX8_holder_26 : decode cX8_holder 26 = .ok (.iaload, 1) := by decide +kernel
theorem dX8_holder_27 : decode cX8_holder 27 = .ok (.ifCond .ge 7, 3) := by decide +kernel
theorem dX8_holder_30 : decode cX8_holder 30 = .ok (.iconst 1, 1) := by decide +kernel
theorem dX8_holder_31 : decode cX8_holder 31 = .ok (.goto 4, 3) := by decide +kernel
theorem dX8_holder_34 : decode cX8_holder 34 = .ok (.iconst 0, 1) := by decide +kernel
theorem dX8_holder_35 : decode cX8_holder 35 = .ok (.iconst 2, 1) := by decide +kernel
theorem dX8_holder_36 : decode cX8_holder 36 = .ok (.invokevirtual 103, 3) := by decide +kernel
theorem dX8_holder_39 : decode cX8_holder 39 = .ok (.ifCond .eq 7, 3) := by decide +kernel
theorem dX8_holder_42 : decode cX8_holder 42 = .ok (.iconst 0, 1) := by decide +kernel
theorem dX8_holder_43 : decode cX8_holder 43 = .ok (.goto 9, 3) := by decide +kernel
theorem dX8_holder_46 : decode cX8_holder 46 = .ok (.aload_n 0, 1) := by decide +kernel
theorem dX8_holder_47 : decode cX8_holder 47 = .ok (.getfield 71, 3) := by decide +kernel
theorem dX8_holder_50 : decode cX8_holder 50 = .ok (.iload_n 1, 1) := by decide +kernel
theorem dX8_holder_51 : decode cX8_holder 51 = .ok (.iaload, 1) := by decide +kernel
theorem dX8_holder_52 : decode cX8_holder 52 = .ok (.ireturn, 1) := by decide +kernel
set_option maxRecDepth 20000 in
theorem ggX8_queued_X8_isDevice : GoodIn wsX8_queued wsX8_isDevice := goodIn_r _ [6, 7, 8, 5, 9] (by decide +kernel) (by decide +kernel)
set_option maxRecDepth 20000 in
theorem gX8_queued_X8_isDevice : GoodIn wsX8_queued (va_wsS RX8 188 yX8_isDevice wsX8_isDevice) := goodIn_app (goodIn_of _ (by decide +kernel)) ggX8_queued_X8_isDevice
set_option maxRecDepth 20000 in
theorem ggX8_queued_X8_isThrown : GoodIn wsX8_queued wsX8_isThrown := goodIn_r _ [13, 14, 15, 16, 17, 18, 19, 20, 21, 22, 23, 24, 25, 26, 27, 28, 29, 30, 31, 32, 33, 34, 35, 36, 37, 38, 39, 40, 41, 42, 43, 44, 45, 46] (by decide +kernel) (by decide +kernel)
set_option maxRecDepth 20000 in
theorem gX8_queued_X8_isThrown : GoodIn wsX8_queued (wsV RX8 103 RX8 yX8_isThrown wsX8_isThrown) := goodIn_app (goodIn_of _ (by decide +kernel)) ggX8_queued_X8_isThrown
set_option maxRecDepth 20000 in
theorem ggX8_queued_X8_isIn : GoodIn wsX8_queued wsX8_isIn := goodIn_r _ [9] (by decide +kernel) (by decide +kernel)
set_option maxRecDepth 20000 in
theorem gX8_queued_X8_isIn : GoodIn wsX8_queued (va_wsS RX8 96 yX8_isIn wsX8_isIn) := goodIn_app (goodIn_of _ (by decide +kernel)) ggX8_queued_X8_isIn
theorem dX8_queued_0 : decode cX8_queued 0 = .ok (.aload_n 0, 1) := by decide +kernel
theorem dX8_queued_1 : decode cX8_queued 1 = .ok (.iload_n 1, 1) := by decide +kernel
theorem dX8_queued_2 : decode cX8_queued 2 = .ok (.invokestatic 188, 3) := by decide +kernel
theorem dX8_queued_5 : decode cX8_queued 5 = .ok (.ifCond .ne 7, 3) := by decide +kernel
theorem dX8_queued_8 : decode cX8_queued 8 = .ok (.iconst 1, 1) := by decide +kernel
theorem dX8_queued_9 : decode cX8_queued 9 = .ok (.goto 4, 3) := by decide +kernel
theorem dX8_queued_12 : decode cX8_queued 12 = .ok (.iconst 0, 1) := by decide +kernel
theorem dX8_queued_13 : decode cX8_queued 13 = .ok (.iconst 1, 1) := by decide +kernel
theorem dX8_queued_14 : decode cX8_queued 14 = .ok (.invokevirtual 103, 3) := by decide +kernel
theorem dX8_queued_17 : decode cX8_queued 17 = .ok (.ifCond .ne 32, 3) := by decide +kernel
theorem dX8_queued_20 : decode cX8_queued 20 = .ok (.aload_n 0, 1) := by decide +kernel
theorem dX8_queued_21 : decode cX8_queued 21 = .ok (.iload_n 2, 1) := by decide +kernel
theorem dX8_queued_22 : decode cX8_queued 22 = .ok (.iconst 0, 1) := by decide +kernel
theorem dX8_queued_23 : decode cX8_queued 23 = .ok (.aload_n 0, 1) := by decide +kernel
theorem dX8_queued_24 : decode cX8_queued 24 = .ok (.getfield 77, 3) := by decide +kernel
theorem dX8_queued_27 : decode cX8_queued 27 = .ok (.iload_n 1, 1) := by decide +kernel
theorem dX8_queued_28 : decode cX8_queued 28 = .ok (.iaload, 1) := by decide +kernel
theorem dX8_queued_29 : decode cX8_queued 29 = .ok (.iconst 1, 1) := by decide +kernel
theorem dX8_queued_30 : decode cX8_queued 30 = .ok (.isub, 1) := by decide +kernel
theorem dX8_queued_31 : decode cX8_queued 31 = .ok (.invokestatic 96, 3) := by decide +kernel
theorem dX8_queued_34 : decode cX8_queued 34 = .ok (.ifCond .ne 7, 3) := by decide +kernel
theorem dX8_queued_37 : decode cX8_queued 37 = .ok (.iconst 1, 1) := by decide +kernel
theorem dX8_queued_38 : decode cX8_queued 38 = .ok (.goto 4, 3) := by decide +kernel
theorem dX8_queued_41 : decode cX8_queued 41 = .ok (.iconst 0, 1) := by decide +kernel
theorem dX8_queued_42 : decode cX8_queued 42 = .ok (.iconst 2, 1) := by decide +kernel
theorem dX8_queued_43 : decode cX8_queued 43 = .ok (.invokevirtual 103, 3) := by decide +kernel
theorem dX8_queued_46 : decode cX8_queued 46 = .ok (.ifCond .eq 7, 3) := by decide +kernel
theorem dX8_queued_49 : decode cX8_queued 49 = .ok (.iconst 0, 1) := by decide +kernel
theorem dX8_queued_50 : decode cX8_queued 50 = .ok (.goto 14, 3) := by decide +kernel
theorem dX8_queued_53 : decode cX8_queued 53 = .ok (.aload_n 0, 1) := by decide +kernel
theorem dX8_queued_54 : decode cX8_queued 54 = .ok (.getfield 74, 3) := by decide +kernel
theorem dX8_queued_57 : decode cX8_queued 57 = .ok (.bipush 6, 2) := by decide +kernel
theorem dX8_queued_59 : decode cX8_queued 59 = .ok (.iload_n 1, 1) := by decide +kernel
theorem dX8_queued_60 : decode cX8_queued 60 = .ok (.imul, 1) := by decide +kernel
theorem dX8_queued_61 : decode cX8_queued 61 = .ok (.iload_n 2, 1) := by decide +kernel
theorem dX8_queued_62 : decode cX8_queued 62 = .ok (.iadd, 1) := by decide +kernel
theorem dX8_queued_63 : decode cX8_queued 63 = .ok (.iaload, 1) := by decide +kernel
theorem dX8_queued_64 : decode cX8_queued 64 = .ok (.ireturn, 1) := by decide +kernel
set_option maxRecDepth 20000 in
theorem ggX8_visitor_X8_isThrown : GoodIn wsX8_visitor wsX8_isThrown := goodIn_r _ [6, 7, 8, 9, 10, 11, 12, 13, 14, 15, 16, 17, 18, 19, 20, 21, 22, 23, 24, 25, 26, 27, 28, 29, 30, 31, 32, 33, 34, 35, 36, 37, 38, 39] (by decide +kernel) (by decide +kernel)
set_option maxRecDepth 20000 in
theorem gX8_visitor_X8_isThrown : GoodIn wsX8_visitor (wsV RX8 103 RX8 yX8_isThrown wsX8_isThrown) := goodIn_app (goodIn_of _ (by decide +kernel)) ggX8_visitor_X8_isThrown
theorem dX8_visitor_0 : decode cX8_visitor 0 = .ok (.aload_n 0, 1) := by decide +kernel
theorem dX8_visitor_1 : decode cX8_visitor 1 = .ok (.aload_n 0, 1) := by decide +kernel
theorem dX8_visitor_2 : decode cX8_visitor 2 = .ok (.getfield 173, 3) := by decide +kernel
theorem dX8_visitor_5 : decode cX8_visitor 5 = .ok (.bipush 10, 2) := by decide +kernel
theorem dX8_visitor_7 : decode cX8_visitor 7 = .ok (.if_icmp .ne 7, 3) := by decide +kernel
theorem dX8_visitor_10 : decode cX8_visitor 10 = .ok (.iconst 1, 1) := by decide +kernel
theorem dX8_visitor_11 : decode cX8_visitor 11 = .ok (.goto 4, 3) := by decide +kernel
theorem dX8_visitor_14 : decode cX8_visitor 14 = .ok (.iconst 0, 1) := by decide +kernel
theorem dX8_visitor_15 : decode cX8_visitor 15 = .ok (.iconst 1, 1) := by decide +kernel
theorem dX8_visitor_16 : decode cX8_visitor 16 = .ok (.invokevirtual 103, 3) := by decide +kernel
theorem dX8_visitor_19 : decode cX8_visitor 19 = .ok (.ifCond .eq 5, 3) := by decide +kernel
theorem dX8_visitor_22 : decode cX8_visitor 22 = .ok (.iconst 0, 1) := by decide +kernel
theorem dX8_visitor_23 : decode cX8_visitor 23 = .ok (.ireturn, 1) := by decide +kernel
theorem dX8_visitor_24 : decode cX8_visitor 24 = .ok (.aload_n 0, 1) := by decide +kernel
theorem dX8_visitor_25 : decode cX8_visitor 25 = .ok (.dup, 1) := by decide +kernel
theorem dX8_visitor_26 : decode cX8_visitor 26 = .ok (.getfield 173, 3) := by decide +kernel
theorem dX8_visitor_29 : decode cX8_visitor 29 = .ok (.iconst 1, 1) := by decide +kernel
theorem dX8_visitor_30 : decode cX8_visitor 30 = .ok (.iadd, 1) := by decide +kernel
theorem dX8_visitor_31 : decode cX8_visitor 31 = .ok (.putfield 173, 3) := by decide +kernel
theorem dX8_visitor_34 : decode cX8_visitor 34 = .ok (.aload_n 0, 1) := by decide +kernel
theorem dX8_visitor_35 : decode cX8_visitor 35 = .ok (.getfield 173, 3) := by decide +kernel
theorem dX8_visitor_38 : decode cX8_visitor 38 = .ok (.iconst 1, 1) := by decide +kernel
theorem dX8_visitor_39 : decode cX8_visitor 39 = .ok (.isub, 1) := by decide +kernel
theorem dX8_visitor_40 : decode cX8_visitor 40 = .ok (.ireturn, 1) := by decide +kernel
set_option maxRecDepth 20000 in
theorem ggX8_isNoVisitor_X8_isIn : GoodIn wsX8_isNoVisitor wsX8_isIn := goodIn_r _ [5] (by decide +kernel) (by decide +kernel)
set_option maxRecDepth 20000 in
theorem gX8_isNoVisitor_X8_isIn : GoodIn wsX8_isNoVisitor (va_wsS RX8 96 yX8_isIn wsX8_isIn) := goodIn_app (goodIn_of _ (by decide +kernel)) ggX8_isNoVisitor_X8_isIn
set_option maxRecDepth 20000 in
theorem ggX8_isNoVisitor_X8_isThrown : GoodIn wsX8_isNoVisitor wsX8_isThrown := goodIn_r _ [9, 10, 11, 12, 13, 14, 15, 16, 17, 18, 19, 20, 21, 22, 23, 24, 25, 26, 27, 28, 29, 30, 31, 32, 33, 34, 35, 36, 37, 38, 39, 40, 41, 42] (by decide +kernel) (by decide +kernel)
set_option maxRecDepth 20000 in
theorem gX8_isNoVisitor_X8_isThrown : GoodIn wsX8_isNoVisitor (wsV RX8 103 RX8 yX8_isThrown wsX8_isThrown) := goodIn_app (goodIn_of _ (by decide +kernel)) ggX8_isNoVisitor_X8_isThrown
theorem dX8_isNoVisitor_0 : decode cX8_isNoVisitor 0 = .ok (.aload_n 0, 1) := by decide +kernel
theorem dX8_isNoVisitor_1 : decode cX8_isNoVisitor 1 = .ok (.iload_n 1, 1) := by decide +kernel
theorem dX8_isNoVisitor_2 : decode cX8_isNoVisitor 2 = .ok (.iconst 0, 1) := by decide +kernel
theorem dX8_isNoVisitor_3 : decode cX8_isNoVisitor 3 = .ok (.aload_n 0, 1) := by decide +kernel
theorem dX8_isNoVisitor_4 : decode cX8_isNoVisitor 4 = .ok (.getfield 173, 3) := by decide +kernel
theorem dX8_isNoVisitor_7 : decode cX8_isNoVisitor 7 = .ok (.iconst 1, 1) := by decide +kernel
theorem dX8_isNoVisitor_8 : decode cX8_isNoVisitor 8 = .ok (.isub, 1) := by decide +kernel
theorem dX8_isNoVisitor_9 : decode cX8_isNoVisitor 9 = .ok (.invokestatic 96, 3) := by decide +kernel
theorem dX8_isNoVisitor_12 : decode cX8_isNoVisitor 12 = .ok (.ifCond .ne 7, 3) := by decide +kernel
theorem dX8_isNoVisitor_15 : decode cX8_isNoVisitor 15 = .ok (.iconst 1, 1) := by decide +kernel
theorem dX8_isNoVisitor_16 : decode cX8_isNoVisitor 16 = .ok (.goto 4, 3) := by decide +kernel
theorem dX8_isNoVisitor_19 : decode cX8_isNoVisitor 19 = .ok (.iconst 0, 1) := by decide +kernel
theorem dX8_isNoVisitor_20 : decode cX8_isNoVisitor 20 = .ok (.iconst 1, 1) := by decide +kernel
theorem dX8_isNoVisitor_21 : decode cX8_isNoVisitor 21 = .ok (.invokevirtual 103, 3) := by decide +kernel
theorem dX8_isNoVisitor_24 : decode cX8_isNoVisitor 24 = .ok (.ireturn, 1) := by decide +kernel
set_option maxRecDepth 20000 in
theorem ggX8_go_X8_isNoVisitor : GoodIn wsX8_go wsX8_isNoVisitor := goodIn_r _ [6, 7, 8, 9, 5, 10, 11, 12, 13, 14, 15, 21, 22, 23, 24, 25, 26, 27, 28, 29, 30, 31, 32, 33, 34, 35, 36, 37, 38, 39, 40, 41, 42, 43, 44, 45, 46, 47, 48, 49, 50, 51, 52] (by decide +kernel) (by decide +kernel)
set_option maxRecDepth 20000 in
theorem gX8_go_X8_isNoVisitor : GoodIn wsX8_go (wsV RX8 191 RX8 yX8_isNoVisitor wsX8_isNoVisitor) := goodIn_app (goodIn_of _ (by decide +kernel)) ggX8_go_X8_isNoVisitor
set_option maxRecDepth 20000 in
theorem ggX8_go_X8_isKiosk : GoodIn wsX8_go wsX8_isKiosk := goodIn_r _ [19, 20, 8, 9, 5, 10, 21, 22, 23, 24, 25, 26, 27, 28, 29, 30, 31, 32, 33, 34, 35, 36, 37, 38, 39, 40, 41, 42, 43, 44, 45, 46, 47, 48, 49, 50, 51, 52] (by decide +kernel) (by decide +kernel)
set_option maxRecDepth 20000 in
theorem gX8_go_X8_isKiosk : GoodIn wsX8_go (wsV RX8 123 RX8 yX8_isKiosk wsX8_isKiosk) := goodIn_app (goodIn_of _ (by decide +kernel)) ggX8_go_X8_isKiosk
set_option maxRecDepth 20000 in
theorem ggX8_go_X8_isThrown : GoodIn wsX8_go wsX8_isThrown := goodIn_r _ [14, 15, 21, 22, 23, 24, 25, 26, 27, 28, 29, 30, 31, 32, 33, 34, 35, 36, 37, 38, 39, 40, 41, 42, 43, 44, 45, 46, 47, 48, 49, 50, 51, 52] (by decide +kernel) (by decide +kernel)
set_option maxRecDepth 20000 in
theorem gX8_go_X8_isThrown : GoodIn wsX8_go (wsV RX8 103 RX8 yX8_isThrown wsX8_isThrown) := goodIn_app (goodIn_of _ (by decide +kernel)) ggX8_go_X8_isThrown
theorem dX8_go_0 : decode cX8_go 0 = .ok (.aload_n 0, 1) := by decide +kernel
theorem dX8_go_1 : decode cX8_go 1 = .ok (.iload_n 1, 1) := by decide +kernel
theorem dX8_go_2 : decode cX8_go 2 = .ok (.invokevirtual 191, 3) := by decide +kernel
theorem dX8_go_5 : decode cX8_go 5 = .ok (.ifCond .ne 29, 3) := by decide +kernel
theorem dX8_go_8 : decode cX8_go 8 = .ok (.aload_n 0, 1) := by decide +kernel
theorem dX8_go_9 : decode cX8_go 9 = .ok (.iload_n 2, 1) := by decide +kernel
theorem dX8_go_10 : decode cX8_go 10 = .ok (.iconst (-1), 1) := by decide +kernel
theorem dX8_go_11 : decode cX8_go 11 = .ok (.if_icmp .eq 15, 3) := by decide +kernel
theorem dX8_go_14 : decode cX8_go 14 = .ok (.aload_n 0, 1) := by decide +kernel
theorem dX8_go_15 : decode cX8_go 15 = .ok (.iload_n 2, 1) := by decide +kernel
theorem dX8_go_16 : decode cX8_go 16 = .ok (.invokevirtual 123, 3) := by decide +kernel
theorem dX8_go_19 : decode cX8_go 19 = .ok (.ifCond .ne 7, 3) := by decide +kernel
theorem dX8_go_22 : decode cX8_go 22 = .ok (.iconst 1, 1) := by decide +kernel
theorem dX8_go_23 : decode cX8_go 23 = .ok (.goto 4, 3) := by decide +kernel
theorem dX8_go_26 : decode cX8_go 26 = .ok (.iconst 0, 1) := by decide +kernel
theorem dX8_go_27 : decode cX8_go 27 = .ok (.iconst 1, 1) := by decide +kernel
theorem dX8_go_28 : decode cX8_go 28 = .ok (.invokevirtual 103, 3) := by decide +kernel
theorem dX8_go_31 : decode cX8_go 31 = .ok (.ifCond .eq 5, 3) := by decide +kernel
theorem dX8_go_34 : decode cX8_go 34 = .ok (.iconst 0, 1) := by decide +kernel
theorem dX8_go_35 : decode cX8_go 35 = .ok (.ireturn, 1) := by decide +kernel
theorem dX8_go_36 : decode cX8_go 36 = .ok (.aload_n 0, 1) := by decide +kernel
theorem dX8_go_37 : decode cX8_go 37 = .ok (.getfield 83, 3) := by decide +kernel
theorem dX8_go_40 : decode cX8_go 40 = .ok (.iload_n 1, 1) := by decide +kernel
theorem dX8_go_41 : decode cX8_go 41 = .ok (.iaload, 1) := by decide +kernel
theorem dX8_go_42 : decode cX8_go 42 = .ok (.istore_n 3, 1) := by decide +kernel
theorem dX8_go_43 : decode cX8_go 43 = .ok (.aload_n 0, 1) := by decide +kernel
theorem dX8_go_44 : decode cX8_go 44 = .ok (.getfield 83, 3) := by decide +kernel
theorem dX8_go_47 : decode cX8_go 47 = .ok (.iload_n 1, 1) := by decide +kernel
theorem dX8_go_48 : decode cX8_go 48 = .ok (.iload_n 2, 1) := by decide +kernel
theorem dX8_go_49 : decode cX8_go 49 = .ok (.iastore, 1) := by decide +kernel
theorem dX8_go_50 : decode cX8_go 50 = .ok (.iload_n 3, 1) := by decide +kernel
theorem dX8_go_51 : decode cX8_go 51 = .ok (.ireturn, 1) := by decide +kernel
set_option maxRecDepth 20000 in
theorem ggX8_ask_X8_isNoVisitor : GoodIn wsX8_ask wsX8_isNoVisitor := goodIn_r _ [7, 8, 9, 10, 6, 11, 12, 13, 14, 15, 16, 17, 18, 19, 20, 21, 22, 23, 24, 25, 26, 27, 28, 29, 30, 31, 32, 33, 34, 35, 36, 37, 38, 39, 40, 41, 42, 43, 44, 45, 46, 47, 48] (by decide +kernel) (by decide +kernel)
set_option maxRecDepth 20000 in
theorem gX8_ask_X8_isNoVisitor : GoodIn wsX8_ask (wsV RX8 191 RX8 yX8_isNoVisitor wsX8_isNoVisitor) := goodIn_app (goodIn_of _ (by decide +kernel)) ggX8_ask_X8_isNoVisitor
set_option maxRecDepth 20000 in
theorem ggX8_ask_X8_isIn : GoodIn wsX8_ask wsX8_isIn := goodIn_r _ [11] (by decide +kernel) (by decide +kernel)
set_option maxRecDepth 20000 in
theorem gX8_ask_X8_isIn : GoodIn wsX8_ask (va_wsS RX8 96 yX8_isIn wsX8_isIn) := goodIn_app (goodIn_of _ (by decide +kernel)) ggX8_ask_X8_isIn
set_option maxRecDepth 20000 in
theorem ggX8_ask_X8_isThrown : GoodIn wsX8_ask wsX8_isThrown := goodIn_r _ [15, 16, 17, 18, 19, 20, 21, 22, 23, 24, 25, 26, 27, 28, 29, 30, 31, 32, 33, 34, 35, 36, 37, 38, 39, 40, 41, 42, 43, 44, 45, 46, 47, 48] (by decide +kernel) (by decide +kernel)
set_option maxRecDepth 20000 in
theorem gX8_ask_X8_isThrown : GoodIn wsX8_ask (wsV RX8 103 RX8 yX8_isThrown wsX8_isThrown) := goodIn_app (goodIn_of _ (by decide +kernel)) ggX8_ask_X8_isThrown
theorem dX8_ask_0 : decode cX8_ask 0 = .ok (.aload_n 0, 1) := by decide +kernel
theorem dX8_ask_1 : decode cX8_ask 1 = .ok (.iload_n 1, 1) := by decide +kernel
theorem dX8_ask_2 : decode cX8_ask 2 = .ok (.invokevirtual 191, 3) := by decide +kernel
theorem dX8_ask_5 : decode cX8_ask 5 = .ok (.ifCond .ne 26, 3) := by decide +kernel
theorem dX8_ask_8 : decode cX8_ask 8 = .ok (.aload_n 0, 1) := by decide +kernel
theorem dX8_ask_9 : decode cX8_ask 9 = .ok (.iload_n 2, 1) := by decide +kernel
theorem dX8_ask_10 : decode cX8_ask 10 = .ok (.iconst 0, 1) := by decide +kernel
theorem dX8_ask_11 : decode cX8_ask 11 = .ok (.bipush 99, 2) := by decide +kernel
theorem dX8_ask_13 : decode cX8_ask 13 = .ok (.invokestatic 96, 3) := by decide +kernel
theorem dX8_ask_16 : decode cX8_ask 16 = .ok (.ifCond .ne 7, 3) := by decide +kernel
theorem dX8_ask_19 : decode cX8_ask 19 = .ok (.iconst 1, 1) := by decide +kernel
theorem dX8_ask_20 : decode cX8_ask 20 = .ok (.goto 4, 3) := by decide +kernel
theorem dX8_ask_23 : decode cX8_ask 23 = .ok (.iconst 0, 1) := by decide +kernel
theorem dX8_ask_24 : decode cX8_ask 24 = .ok (.iconst 2, 1) := by decide +kernel
theorem dX8_ask_25 : decode cX8_ask 25 = .ok (.invokevirtual 103, 3) := by decide +kernel
theorem dX8_ask_28 : decode cX8_ask 28 = .ok (.ifCond .eq 5, 3) := by decide +kernel
theorem dX8_ask_31 : decode cX8_ask 31 = .ok (.iconst 0, 1) := by decide +kernel
theorem dX8_ask_32 : decode cX8_ask 32 = .ok (.ireturn, 1) := by decide +kernel
theorem dX8_ask_33 : decode cX8_ask 33 = .ok (.aload_n 0, 1) := by decide +kernel
theorem dX8_ask_34 : decode cX8_ask 34 = .ok (.getfield 86, 3) := by decide +kernel
theorem dX8_ask_37 : decode cX8_ask 37 = .ok (.bipush 100, 2) := by decide +kernel
theorem dX8_ask_39 : decode cX8_ask 39 = .ok (.iload_n 1, 1) := by decide +kernel
theorem dX8_ask_40 : decode cX8_ask 40 = .ok (.imul, 1) := by decide +kernel
theorem dX8_ask_41 : decode cX8_ask 41 = .ok (.iload_n 2, 1) := by decide +kernel
theorem dX8_ask_42 : decode cX8_ask 42 = .ok (.iadd, 1) := by decide +kernel
theorem dX8_ask_43 : decode cX8_ask 43 = .ok (.iconst 1, 1) := by decide +kernel
theorem dX8_ask_44 : decode cX8_ask 44 = .ok (.bastore, 1) := by decide +kernel
theorem dX8_ask_45 : decode cX8_ask 45 = .ok (.aload_n 0, 1) := by decide +kernel
theorem dX8_ask_46 : decode cX8_ask 46 = .ok (.getfield 80, 3) := by decide +kernel
theorem dX8_ask_49 : decode cX8_ask 49 = .ok (.bipush 100, 2) := by decide +kernel
theorem dX8_ask_51 : decode cX8_ask 51 = .ok (.iload_n 1, 1) := by decide +kernel
theorem dX8_ask_52 : decode cX8_ask 52 = .ok (.imul, 1) := by decide +kernel
theorem dX8_ask_53 : decode cX8_ask 53 = .ok (.iload_n 2, 1) := by decide +kernel
theorem dX8_ask_54 : decode cX8_ask 54 = .ok (.iadd, 1) := by decide +kernel
theorem dX8_ask_55 : decode cX8_ask 55 = .ok (.iaload, 1) := by decide +kernel
theorem dX8_ask_56 : decode cX8_ask 56 = .ok (.ifCond .le 7, 3) := by decide +kernel
theorem dX8_ask_59 : decode cX8_ask 59 = .ok (.iconst 1, 1) := by decide +kernel
theorem dX8_ask_60 : decode cX8_ask 60 = .ok (.goto 4, 3) := by decide +kernel
theorem dX8_ask_63 : decode cX8_ask 63 = .ok (.iconst 0, 1) := by decide +kernel
theorem dX8_ask_64 : decode cX8_ask 64 = .ok (.ireturn, 1) := by decide +kernel
set_option maxRecDepth 20000 in
theorem ggX8_saw_X8_isNoVisitor : GoodIn wsX8_saw wsX8_isNoVisitor := goodIn_r _ [6, 7, 8, 9, 5, 10, 11, 12, 13, 14, 15, 16, 17, 18, 19, 20, 21, 22, 23, 24, 25, 26, 27, 28, 29, 30, 31, 32, 33, 34, 35, 36, 37, 38, 39, 40, 41, 42, 43, 44, 45, 46, 47] (by decide +kernel) (by decide +kernel)
set_option maxRecDepth 20000 in
theorem gX8_saw_X8_isNoVisitor : GoodIn wsX8_saw (wsV RX8 191 RX8 yX8_isNoVisitor wsX8_isNoVisitor) := goodIn_app (goodIn_of _ (by decide +kernel)) ggX8_saw_X8_isNoVisitor
set_option maxRecDepth 20000 in
theorem ggX8_saw_X8_isIn : GoodIn wsX8_saw wsX8_isIn := goodIn_r _ [10] (by decide +kernel) (by decide +kernel)
set_option maxRecDepth 20000 in
theorem gX8_saw_X8_isIn : GoodIn wsX8_saw (va_wsS RX8 96 yX8_isIn wsX8_isIn) := goodIn_app (goodIn_of _ (by decide +kernel)) ggX8_saw_X8_isIn
set_option maxRecDepth 20000 in
theorem ggX8_saw_X8_isThrown : GoodIn wsX8_saw wsX8_isThrown := goodIn_r _ [14, 15, 16, 17, 18, 19, 20, 21, 22, 23, 24, 25, 26, 27, 28, 29, 30, 31, 32, 33, 34, 35, 36, 37, 38, 39, 40, 41, 42, 43, 44, 45, 46, 47] (by decide +kernel) (by decide +kernel)
set_option maxRecDepth 20000 in
theorem gX8_saw_X8_isThrown : GoodIn wsX8_saw (wsV RX8 103 RX8 yX8_isThrown wsX8_isThrown) := goodIn_app (goodIn_of _ (by decide +kernel)) ggX8_saw_X8_isThrown
theorem dX8_saw_0 : decode cX8_saw 0 = .ok (.aload_n 0, 1) := by decide +kernel
theorem dX8_saw_1 : decode cX8_saw 1 = .ok (.iload_n 1, 1) := by decide +kernel
theorem dX8_saw_2 : decode cX8_saw 2 = .ok (.invokevirtual 191, 3) := by decide +kernel
theorem dX8_saw_5 : decode cX8_saw 5 = .ok (.ifCond .ne 26, 3) := by decide +kernel
theorem dX8_saw_8 : decode cX8_saw 8 = .ok (.aload_n 0, 1) := by decide +kernel
theorem dX8_saw_9 : decode cX8_saw 9 = .ok (.iload_n 2, 1) := by decide +kernel
theorem dX8_saw_10 : decode cX8_saw 10 = .ok (.iconst 0, 1) := by decide +kernel
theorem dX8_saw_11 : decode cX8_saw 11 = .ok (.bipush 99, 2) := by decide +kernel
theorem dX8_saw_13 : decode cX8_saw 13 = .ok (.invokestatic 96, 3) := by decide +kernel
theorem dX8_saw_16 : decode cX8_saw 16 = .ok (.ifCond .ne 7, 3) := by decide +kernel
theorem dX8_saw_19 : decode cX8_saw 19 = .ok (.iconst 1, 1) := by decide +kernel
theorem dX8_saw_20 : decode cX8_saw 20 = .ok (.goto 4, 3) := by decide +kernel
theorem dX8_saw_23 : decode cX8_saw 23 = .ok (.iconst 0, 1) := by decide +kernel
theorem dX8_saw_24 : decode cX8_saw 24 = .ok (.iconst 2, 1) := by decide +kernel
theorem dX8_saw_25 : decode cX8_saw 25 = .ok (.invokevirtual 103, 3) := by decide +kernel
theorem dX8_saw_28 : decode cX8_saw 28 = .ok (.ifCond .eq 7, 3) := by decide +kernel
theorem dX8_saw_31 : decode cX8_saw 31 = .ok (.iconst 0, 1) := by decide +kernel
theorem dX8_saw_32 : decode cX8_saw 32 = .ok (.goto 14, 3) := by decide +kernel
theorem dX8_saw_35 : decode cX8_saw 35 = .ok (.aload_n 0, 1) := by decide +kernel
theorem dX8_saw_36 : decode cX8_saw 36 = .ok (.getfield 80, 3) := by decide +kernel
theorem dX8_saw_39 : decode cX8_saw 39 = .ok (.bipush 100, 2) := by decide +kernel
theorem dX8_saw_41 : decode cX8_saw 41 = .ok (.iload_n 1, 1) := by decide +kernel
theorem dX8_saw_42 : decode cX8_saw 42 = .ok (.imul, 1) := by decide +kernel
theorem dX8_saw_43 : decode cX8_saw 43 = .ok (.iload_n 2, 1) := by decide +kernel
theorem dX8_saw_44 : decode cX8_saw 44 = .ok (.iadd, 1) := by decide +kernel
theorem dX8_saw_45 : decode cX8_saw 45 = .ok (.iaload, 1) := by decide +kernel
theorem dX8_saw_46 : decode cX8_saw 46 = .ok (.ireturn, 1) := by decide +kernel
theorem dX8_done_0 : decode cX8_done 0 = .ok (.aload_n 0, 1) := by decide +kernel
theorem dX8_done_1 : decode cX8_done 1 = .ok (.iconst 0, 1) := by decide +kernel
theorem dX8_done_2 : decode cX8_done 2 = .ok (.putfield 89, 3) := by decide +kernel
theorem dX8_done_5 : decode cX8_done 5 = .ok (.aload_n 0, 1) := by decide +kernel
theorem dX8_done_6 : decode cX8_done 6 = .ok (.getfield 156, 3) := by decide +kernel
theorem dX8_done_9 : decode cX8_done 9 = .ok (.lreturn, 1) := by decide +kernel
set_option maxRecDepth 20000 in
theorem ggX8_heldShare_X8_held : GoodIn wsX8_heldShare wsX8_held := goodIn_ca (goodIn_r _ [7, 8, 9, 10, 11, 12, 13, 14, 15, 16, 17, 18, 19, 20, 21, 22, 23, 24, 25, 26, 27, 28, 29, 30, 31, 32, 33, 34, 35, 36, 37, 38, 39, 40] (by decide +kernel) (by decide +kernel)) (goodIn_sub (fun _ h => List.mem_cons_of_mem _ (List.mem_append_right _ h)) (by decide +kernel))
set_option maxRecDepth 20000 in
theorem gX8_heldShare_X8_held : GoodIn wsX8_heldShare (wsV RX8 143 RX8 yX8_held wsX8_held) := goodIn_app (goodIn_of _ (by decide +kernel)) ggX8_heldShare_X8_held
theorem dX8_heldShare_0 : decode cX8_heldShare 0 = .ok (.aload_n 0, 1) := by decide +kernel
theorem dX8_heldShare_1 : decode cX8_heldShare 1 = .ok (.iconst 0, 1) := by decide +kernel
theorem dX8_heldShare_2 : decode cX8_heldShare 2 = .ok (.putfield 89, 3) := by decide +kernel
theorem dX8_heldShare_5 : decode cX8_heldShare 5 = .ok (.bipush 6, 2) := by decide +kernel
theorem dX8_heldShare_7 : decode cX8_heldShare 7 = .ok (.aload_n 0, 1) := by decide +kernel
theorem dX8_heldShare_8 : decode cX8_heldShare 8 = .ok (.iconst (-1), 1) := by decide +kernel
theorem dX8_heldShare_9 : decode cX8_heldShare 9 = .ok (.invokevirtual 143, 3) := by decide +kernel
theorem dX8_heldShare_12 : decode cX8_heldShare 12 = .ok (.isub, 1) := by decide +kernel
theorem dX8_heldShare_13 : decode cX8_heldShare 13 = .ok (.i2f, 1) := by decide +kernel
theorem dX8_heldShare_14 : decode cX8_heldShare 14 = .ok (.ldc 194, 2) := by decide +kernel
theorem dX8_heldShare_16 : decode cX8_heldShare 16 = .ok (.fdiv, 1) := by decide +kernel
theorem dX8_heldShare_17 : decode cX8_heldShare 17 = .ok (.freturn, 1) := by decide +kernel
set_option maxRecDepth 20000 in
theorem ggX8_heldBits_X8_heldShare : GoodIn wsX8_heldBits wsX8_heldShare := goodIn_ca (goodIn_r _ [5, 6, 7, 8, 9, 10, 4, 11, 12, 25, 26, 27, 28, 29, 30, 31, 32, 33, 34, 35, 36, 37, 38, 39, 40, 41, 42, 43, 44, 45, 46, 47, 48, 49, 50, 51, 52, 53, 54, 55, 56] (by decide +kernel) (by decide +kernel)) (goodIn_sub (fun _ h => List.mem_cons_of_mem _ (List.mem_append_right _ h)) (by decide +kernel))
set_option maxRecDepth 20000 in
theorem gX8_heldBits_X8_heldShare : GoodIn wsX8_heldBits (wsV RX8 195 RX8 yX8_heldShare wsX8_heldShare) := goodIn_app (goodIn_of _ (by decide +kernel)) ggX8_heldBits_X8_heldShare
set_option maxRecDepth 20000 in
theorem ggX8_heldBits_Jxf58ca_floatToIntBits_5c35a : GoodIn wsX8_heldBits wsJxf58ca_floatToIntBits_5c35a := goodIn_r _ [16, 17, 18, 19, 20, 21, 22, 23, 15, 24] (by decide +kernel) (by decide +kernel)
set_option maxRecDepth 20000 in
theorem gX8_heldBits_Jxf58ca_floatToIntBits_5c35a : GoodIn wsX8_heldBits (va_wsS RX8 199 yJxf58ca_floatToIntBits_5c35a wsJxf58ca_floatToIntBits_5c35a) := goodIn_app (goodIn_of _ (by decide +kernel)) ggX8_heldBits_Jxf58ca_floatToIntBits_5c35a
theorem dX8_heldBits_0 : decode cX8_heldBits 0 = .ok (.aload_n 0, 1) := by decide +kernel
theorem dX8_heldBits_1 : decode cX8_heldBits 1 = .ok (.invokevirtual 195, 3) := by decide +kernel
theorem dX8_heldBits_4 : decode cX8_heldBits 4 = .ok (.invokestatic 199, 3) := by decide +kernel
theorem dX8_heldBits_7 : decode cX8_heldBits 7 = .ok (.ireturn, 1) := by decide +kernel
set_option maxRecDepth 20000 in
theorem ggX8_meanSeen_X8_isThrown : GoodIn wsX8_meanSeen wsX8_isThrown := goodIn_r _ [7, 8, 9, 10, 11, 12, 13, 14, 15, 16, 17, 18, 19, 20, 21, 22, 23, 24, 25, 26, 27, 28, 29, 30, 31, 32, 33, 34, 35, 36, 37, 38, 39, 40] (by decide +kernel) (by decide +kernel)
set_option maxRecDepth 20000 in
theorem gX8_meanSeen_X8_isThrown : GoodIn wsX8_meanSeen (wsV RX8 103 RX8 yX8_isThrown wsX8_isThrown) := goodIn_app (goodIn_of _ (by decide +kernel)) ggX8_meanSeen_X8_isThrown
theorem dX8_meanSeen_0 : decode cX8_meanSeen 0 = .ok (.lconst 0, 1) := by decide +kernel
theorem dX8_meanSeen_1 : decode cX8_meanSeen 1 = .ok (.lstore_n 1, 1) := by decide +kernel
theorem dX8_meanSeen_2 : decode cX8_meanSeen 2 = .ok (.iconst 0, 1) := by decide +kernel
theorem dX8_meanSeen_3 : decode cX8_meanSeen 3 = .ok (.istore_n 3, 1) := by decide +kernel
theorem dX8_meanSeen_4 : decode cX8_meanSeen 4 = .ok (.iload_n 3, 1) := by decide +kernel
theorem dX8_meanSeen_5 : decode cX8_meanSeen 5 = .ok (.bipush 100, 2) := by decide +kernel
theorem dX8_meanSeen_7 : decode cX8_meanSeen 7 = .ok (.aload_n 0, 1) := by decide +kernel
theorem dX8_meanSeen_8 : decode cX8_meanSeen 8 = .ok (.getfield 173, 3) := by decide +kernel
theorem dX8_meanSeen_11 : decode cX8_meanSeen 11 = .ok (.imul, 1) := by decide +kernel
theorem dX8_meanSeen_12 : decode cX8_meanSeen 12 = .ok (.if_icmp .ge 19, 3) := by decide +kernel
theorem dX8_meanSeen_15 : decode cX8_meanSeen 15 = .ok (.lload_n 1, 1) := by decide +kernel
theorem dX8_meanSeen_16 : decode cX8_meanSeen 16 = .ok (.aload_n 0, 1) := by decide +kernel
theorem dX8_meanSeen_17 : decode cX8_meanSeen 17 = .ok (.getfield 80, 3) := by decide +kernel
theorem dX8_meanSeen_20 : decode cX8_meanSeen 20 = .ok (.iload_n 3, 1) := by decide +kernel
theorem dX8_meanSeen_21 : decode cX8_meanSeen 21 = .ok (.iaload, 1) := by decide +kernel
theorem dX8_meanSeen_22 : decode cX8_meanSeen 22 = .ok (.i2l, 1) := by decide +kernel
theorem dX8_meanSeen_23 : decode cX8_meanSeen 23 = .ok (.ladd, 1) := by decide +kernel
theorem dX8_meanSeen_24 : decode cX8_meanSeen 24 = .ok (.lstore_n 1, 1) := by decide +kernel
theorem dX8_meanSeen_25 : decode cX8_meanSeen 25 = .ok (.iinc 3 1, 3) := by decide +kernel
theorem dX8_meanSeen_28 : decode cX8_meanSeen 28 = .ok (.goto (-24), 3) := by decide +kernel
theorem dX8_meanSeen_31 : decode cX8_meanSeen 31 = .ok (.aload_n 0, 1) := by decide +kernel
theorem dX8_meanSeen_32 : decode cX8_meanSeen 32 = .ok (.aload_n 0, 1) := by decide +kernel
theorem dX8_meanSeen_33 : decode cX8_meanSeen 33 = .ok (.getfield 173, 3) := by decide +kernel
theorem dX8_meanSeen_36 : decode cX8_meanSeen 36 = .ok (.ifCond .ne 7, 3) := by decide +kernel
theorem dX8_meanSeen_39 : decode cX8_meanSeen 39 = .ok (.iconst 1, 1) := by decide +kernel
theorem dX8_meanSeen_40 : decode cX8_meanSeen 40 = .ok (.goto 4, 3) := by decide +kernel
theorem dX8_meanSeen_43 : decode cX8_meanSeen 43 = .ok (.iconst 0, 1) := by decide +kernel
theorem dX8_meanSeen_44 : decode cX8_meanSeen 44 = .ok (.iconst 1, 1) := by decide +kernel
theorem dX8_meanSeen_45 : decode cX8_meanSeen 45 = .ok (.invokevirtual 103, 3) := by decide +kernel
theorem dX8_meanSeen_48 : decode cX8_meanSeen 48 = .ok (.ifCond .eq 7, 3) := by decide +kernel
theorem dX8_meanSeen_51 : decode cX8_meanSeen 51 = .ok (.dconst 0, 1) := by decide +kernel
theorem dX8_meanSeen_52 : decode cX8_meanSeen 52 = .ok (.goto 11, 3) := by decide +kernel
theorem dX8_meanSeen_55 : decode cX8_meanSeen 55 = .ok (.lload_n 1, 1) := by decide +kernel
theorem dX8_meanSeen_56 : decode cX8_meanSeen 56 = .ok (.l2d, 1) := by decide +kernel
theorem dX8_meanSeen_57 : decode cX8_meanSeen 57 = .ok (.aload_n 0, 1) := by decide +kernel
theorem dX8_meanSeen_58 : decode cX8_meanSeen 58 = .ok (.getfield 173, 3) := by decide +kernel
theorem dX8_meanSeen_61 : decode cX8_meanSeen 61 = .ok (.i2d, 1) := by decide +kernel
theorem dX8_meanSeen_62 : decode cX8_meanSeen 62 = .ok (.ddiv, 1) := by decide +kernel
theorem dX8_meanSeen_63 : decode cX8_meanSeen 63 = .ok (.dreturn, 1) := by decide +kernel
theorem dX8_isSound_0 : decode cX8_isSound 0 = .ok (.aload_n 0, 1) := by decide +kernel
theorem dX8_isSound_1 : decode cX8_isSound 1 = .ok (.iconst 0, 1) := by decide +kernel
theorem dX8_isSound_2 : decode cX8_isSound 2 = .ok (.putfield 89, 3) := by decide +kernel
theorem dX8_isSound_5 : decode cX8_isSound 5 = .ok (.iconst 1, 1) := by decide +kernel
theorem dX8_isSound_6 : decode cX8_isSound 6 = .ok (.ireturn, 1) := by decide +kernel
theorem dJx00060_init_a7421_0 : decode cJx00060_init_a7421 0 = .ok (.aload_n 0, 1) := by decide +kernel
theorem dJx00060_init_a7421_1 : decode cJx00060_init_a7421 1 = .ok (.aload_n 1, 1) := by decide +kernel
theorem dJx00060_init_a7421_2 : decode cJx00060_init_a7421 2 = .ok (.invokespecial 7, 3) := by decide +kernel
theorem dJx00060_init_a7421_5 : decode cJx00060_init_a7421 5 = .ok (.return_, 1) := by decide +kernel
theorem dJxf58ca_isNaN_12338_0 : decode cJxf58ca_isNaN_12338 0 = .ok (.fload_n 0, 1) := by decide +kernel
theorem dJxf58ca_isNaN_12338_1 : decode cJxf58ca_isNaN_12338 1 = .ok (.fload_n 0, 1) := by decide +kernel
theorem dJxf58ca_isNaN_12338_2 : decode cJxf58ca_isNaN_12338 2 = .ok (.fcmp .l, 1) := by decide +kernel
theorem dJxf58ca_isNaN_12338_3 : decode cJxf58ca_isNaN_12338 3 = .ok (.ifCond .eq 7, 3) := by decide +kernel
theorem dJxf58ca_isNaN_12338_6 : decode cJxf58ca_isNaN_12338 6 = .ok (.iconst 1, 1) := by decide +kernel
theorem dJxf58ca_isNaN_12338_7 : decode cJxf58ca_isNaN_12338 7 = .ok (.goto 4, 3) := by decide +kernel
theorem dJxf58ca_isNaN_12338_10 : decode cJxf58ca_isNaN_12338 10 = .ok (.iconst 0, 1) := by decide +kernel
theorem dJxf58ca_isNaN_12338_11 : decode cJxf58ca_isNaN_12338 11 = .ok (.ireturn, 1) := by decide +kernel
set_option maxRecDepth 20000 in
theorem ggJxf58ca_floatToIntBits_5c35a_Jxf58ca_isNaN_12338 : GoodIn wsJxf58ca_floatToIntBits_5c35a wsJxf58ca_isNaN_12338 := goodIn_r _ [9] (by decide +kernel) (by decide +kernel)
set_option maxRecDepth 20000 in
theorem gJxf58ca_floatToIntBits_5c35a_Jxf58ca_isNaN_12338 : GoodIn wsJxf58ca_floatToIntBits_5c35a (va_wsS RJxf58ca 59 yJxf58ca_isNaN_12338 wsJxf58ca_isNaN_12338) := goodIn_app (goodIn_of _ (by decide +kernel)) ggJxf58ca_floatToIntBits_5c35a_Jxf58ca_isNaN_12338
theorem dJxf58ca_floatToIntBits_5c35a_0 : decode cJxf58ca_floatToIntBits_5c35a 0 = .ok (.fload_n 0, 1) := by decide +kernel
theorem dJxf58ca_floatToIntBits_5c35a_1 : decode cJxf58ca_floatToIntBits_5c35a 1 = .ok (.invokestatic 59, 3) := by decide +kernel
theorem dJxf58ca_floatToIntBits_5c35a_4 : decode cJxf58ca_floatToIntBits_5c35a 4 = .ok (.ifCond .ne 8, 3) := by decide +kernel
theorem dJxf58ca_floatToIntBits_5c35a_7 : decode cJxf58ca_floatToIntBits_5c35a 7 = .ok (.fload_n 0, 1) := by decide +kernel
theorem dJxf58ca_floatToIntBits_5c35a_8 : decode cJxf58ca_floatToIntBits_5c35a 8 = .ok (.invokestatic 74, 3) := by decide +kernel
theorem dJxf58ca_floatToIntBits_5c35a_11 : decode cJxf58ca_floatToIntBits_5c35a 11 = .ok (.ireturn, 1) := by decide +kernel
theorem dJxf58ca_floatToIntBits_5c35a_12 : decode cJxf58ca_floatToIntBits_5c35a 12 = .ok (.ldc 77, 2) := by decide +kernel
theorem dJxf58ca_floatToIntBits_5c35a_14 : decode cJxf58ca_floatToIntBits_5c35a 14 = .ok (.ireturn, 1) := by decide +kernel
