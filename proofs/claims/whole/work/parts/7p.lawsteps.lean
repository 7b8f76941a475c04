/-! The law, step by step (written by wip/whole/lawseg.py). -/
theorem zk_18 (L : Nat) (xs : Nat → Int32) : zlook (tL_law L xs) 18 = some (a_iload 19 3) := rfl
theorem zk_19 (L : Nat) (xs : Nat → Int32) : zlook (tL_law L xs) 19 = some (a_aload 20 0) := rfl
theorem zk_20 (L : Nat) (xs : Nat → Int32) : zlook (tL_law L xs) 20 = some (a_slen 21 L) := rfl
theorem zk_21 (L : Nat) (xs : Nat → Int32) : zlook (tL_law L xs) 21 = some (a_push 23 (.inl 9)) := rfl
theorem zk_23 (L : Nat) (xs : Nat → Int32) : zlook (tL_law L xs) 23 = some (a_bin 24 (fun x y => x - y)) := rfl
theorem zk_24 (L : Nat) (xs : Nat → Int32) : zlook (tL_law L xs) 24 = some (a_c_gt 27 569) := rfl
theorem zk_27 (L : Nat) (xs : Nat → Int32) : zlook (tL_law L xs) 27 = some (a_aload 28 0) := rfl
theorem zk_28 (L : Nat) (xs : Nat → Int32) : zlook (tL_law L xs) 28 = some (a_iload 29 3) := rfl
theorem zk_29 (L : Nat) (xs : Nat → Int32) : zlook (tL_law L xs) 29 = some (a_sald 30 L xs) := rfl
theorem zk_30 (L : Nat) (xs : Nat → Int32) : zlook (tL_law L xs) 30 = some (a_push 32 (.inl 15)) := rfl
theorem zk_32 (L : Nat) (xs : Nat → Int32) : zlook (tL_law L xs) 32 = some (a_bin 33 (fun x y => x &&& y)) := rfl
theorem zk_33 (L : Nat) (xs : Nat → Int32) : zlook (tL_law L xs) 33 = some (a_switch [(0, 100), (1, 185), (2, 300), (3, 343), (4, 386), (5, 399), (6, 432), (7, 445), (8, 458), (9, 481), (10, 504), (11, 537), (12, 550)] 563) := rfl
theorem zk_100 (L : Nat) (xs : Nat → Int32) : zlook (tL_law L xs) 100 = some (a_aload 101 1) := rfl
theorem zk_101 (L : Nat) (xs : Nat → Int32) : zlook (tL_law L xs) 101 = some (a_aload 102 0) := rfl
theorem zk_102 (L : Nat) (xs : Nat → Int32) : zlook (tL_law L xs) 102 = some (a_iload 103 3) := rfl
theorem zk_103 (L : Nat) (xs : Nat → Int32) : zlook (tL_law L xs) 103 = some (a_push 104 (.inl 1)) := rfl
theorem zk_104 (L : Nat) (xs : Nat → Int32) : zlook (tL_law L xs) 104 = some (a_bin 105 (fun x y => x + y)) := rfl
theorem zk_105 (L : Nat) (xs : Nat → Int32) : zlook (tL_law L xs) 105 = some (a_sald 106 L xs) := rfl
theorem zk_106 (L : Nat) (xs : Nat → Int32) : zlook (tL_law L xs) 106 = some (a_aload 107 0) := rfl
theorem zk_107 (L : Nat) (xs : Nat → Int32) : zlook (tL_law L xs) 107 = some (a_iload 108 3) := rfl
theorem zk_108 (L : Nat) (xs : Nat → Int32) : zlook (tL_law L xs) 108 = some (a_push 109 (.inl 2)) := rfl
theorem zk_109 (L : Nat) (xs : Nat → Int32) : zlook (tL_law L xs) 109 = some (a_bin 110 (fun x y => x + y)) := rfl
theorem zk_110 (L : Nat) (xs : Nat → Int32) : zlook (tL_law L xs) 110 = some (a_sald 111 L xs) := rfl
theorem zk_111 (L : Nat) (xs : Nat → Int32) : zlook (tL_law L xs) 111 = some (a_aload 112 0) := rfl
theorem zk_112 (L : Nat) (xs : Nat → Int32) : zlook (tL_law L xs) 112 = some (a_iload 113 3) := rfl
theorem zk_113 (L : Nat) (xs : Nat → Int32) : zlook (tL_law L xs) 113 = some (a_push 114 (.inl 3)) := rfl
theorem zk_114 (L : Nat) (xs : Nat → Int32) : zlook (tL_law L xs) 114 = some (a_bin 115 (fun x y => x + y)) := rfl
theorem zk_115 (L : Nat) (xs : Nat → Int32) : zlook (tL_law L xs) 115 = some (a_sald 116 L xs) := rfl
theorem zk_116 (L : Nat) (xs : Nat → Int32) : zlook (tL_law L xs) 116 = some (a_if_eq 119 123) := rfl
theorem zk_119 (L : Nat) (xs : Nat → Int32) : zlook (tL_law L xs) 119 = some (a_push 120 (.inl 1)) := rfl
theorem zk_120 (L : Nat) (xs : Nat → Int32) : zlook (tL_law L xs) 120 = some (a_goto 124) := rfl
theorem zk_123 (L : Nat) (xs : Nat → Int32) : zlook (tL_law L xs) 123 = some (a_push 124 (.inl 0)) := rfl
theorem zk_124 (L : Nat) (xs : Nat → Int32) : zlook (tL_law L xs) 124 = some (a_aload 125 0) := rfl
theorem zk_125 (L : Nat) (xs : Nat → Int32) : zlook (tL_law L xs) 125 = some (a_iload 126 3) := rfl
theorem zk_126 (L : Nat) (xs : Nat → Int32) : zlook (tL_law L xs) 126 = some (a_push 127 (.inl 4)) := rfl
theorem zk_127 (L : Nat) (xs : Nat → Int32) : zlook (tL_law L xs) 127 = some (a_bin 128 (fun x y => x + y)) := rfl
theorem zk_128 (L : Nat) (xs : Nat → Int32) : zlook (tL_law L xs) 128 = some (a_sald 129 L xs) := rfl
theorem zk_129 (L : Nat) (xs : Nat → Int32) : zlook (tL_law L xs) 129 = some (a_if_eq 132 136) := rfl
theorem zk_132 (L : Nat) (xs : Nat → Int32) : zlook (tL_law L xs) 132 = some (a_push 133 (.inl 1)) := rfl
theorem zk_133 (L : Nat) (xs : Nat → Int32) : zlook (tL_law L xs) 133 = some (a_goto 137) := rfl
theorem zk_136 (L : Nat) (xs : Nat → Int32) : zlook (tL_law L xs) 136 = some (a_push 137 (.inl 0)) := rfl
theorem zk_137 (L : Nat) (xs : Nat → Int32) : zlook (tL_law L xs) 137 = some (a_callV 140 4 8 mX9_digits) := rfl
theorem zk_140 (L : Nat) (xs : Nat → Int32) : zlook (tL_law L xs) 140 = some (a_aload 141 2) := rfl
theorem zk_141 (L : Nat) (xs : Nat → Int32) : zlook (tL_law L xs) 141 = some (a_aload 142 0) := rfl
theorem zk_142 (L : Nat) (xs : Nat → Int32) : zlook (tL_law L xs) 142 = some (a_iload 143 3) := rfl
theorem zk_143 (L : Nat) (xs : Nat → Int32) : zlook (tL_law L xs) 143 = some (a_push 144 (.inl 1)) := rfl
theorem zk_144 (L : Nat) (xs : Nat → Int32) : zlook (tL_law L xs) 144 = some (a_bin 145 (fun x y => x + y)) := rfl
theorem zk_145 (L : Nat) (xs : Nat → Int32) : zlook (tL_law L xs) 145 = some (a_sald 146 L xs) := rfl
theorem zk_146 (L : Nat) (xs : Nat → Int32) : zlook (tL_law L xs) 146 = some (a_aload 147 0) := rfl
theorem zk_147 (L : Nat) (xs : Nat → Int32) : zlook (tL_law L xs) 147 = some (a_iload 148 3) := rfl
theorem zk_148 (L : Nat) (xs : Nat → Int32) : zlook (tL_law L xs) 148 = some (a_push 149 (.inl 2)) := rfl
theorem zk_149 (L : Nat) (xs : Nat → Int32) : zlook (tL_law L xs) 149 = some (a_bin 150 (fun x y => x + y)) := rfl
theorem zk_150 (L : Nat) (xs : Nat → Int32) : zlook (tL_law L xs) 150 = some (a_sald 151 L xs) := rfl
theorem zk_151 (L : Nat) (xs : Nat → Int32) : zlook (tL_law L xs) 151 = some (a_aload 152 0) := rfl
theorem zk_152 (L : Nat) (xs : Nat → Int32) : zlook (tL_law L xs) 152 = some (a_iload 153 3) := rfl
theorem zk_153 (L : Nat) (xs : Nat → Int32) : zlook (tL_law L xs) 153 = some (a_push 154 (.inl 3)) := rfl
theorem zk_154 (L : Nat) (xs : Nat → Int32) : zlook (tL_law L xs) 154 = some (a_bin 155 (fun x y => x + y)) := rfl
theorem zk_155 (L : Nat) (xs : Nat → Int32) : zlook (tL_law L xs) 155 = some (a_sald 156 L xs) := rfl
theorem zk_156 (L : Nat) (xs : Nat → Int32) : zlook (tL_law L xs) 156 = some (a_if_eq 159 163) := rfl
theorem zk_159 (L : Nat) (xs : Nat → Int32) : zlook (tL_law L xs) 159 = some (a_push 160 (.inl 1)) := rfl
theorem zk_160 (L : Nat) (xs : Nat → Int32) : zlook (tL_law L xs) 160 = some (a_goto 164) := rfl
theorem zk_163 (L : Nat) (xs : Nat → Int32) : zlook (tL_law L xs) 163 = some (a_push 164 (.inl 0)) := rfl
theorem zk_164 (L : Nat) (xs : Nat → Int32) : zlook (tL_law L xs) 164 = some (a_aload 165 0) := rfl
theorem zk_165 (L : Nat) (xs : Nat → Int32) : zlook (tL_law L xs) 165 = some (a_iload 166 3) := rfl
theorem zk_166 (L : Nat) (xs : Nat → Int32) : zlook (tL_law L xs) 166 = some (a_push 167 (.inl 4)) := rfl
theorem zk_167 (L : Nat) (xs : Nat → Int32) : zlook (tL_law L xs) 167 = some (a_bin 168 (fun x y => x + y)) := rfl
theorem zk_168 (L : Nat) (xs : Nat → Int32) : zlook (tL_law L xs) 168 = some (a_sald 169 L xs) := rfl
theorem zk_169 (L : Nat) (xs : Nat → Int32) : zlook (tL_law L xs) 169 = some (a_if_eq 172 176) := rfl
theorem zk_172 (L : Nat) (xs : Nat → Int32) : zlook (tL_law L xs) 172 = some (a_push 173 (.inl 1)) := rfl
theorem zk_173 (L : Nat) (xs : Nat → Int32) : zlook (tL_law L xs) 173 = some (a_goto 177) := rfl
theorem zk_176 (L : Nat) (xs : Nat → Int32) : zlook (tL_law L xs) 176 = some (a_push 177 (.inl 0)) := rfl
theorem zk_177 (L : Nat) (xs : Nat → Int32) : zlook (tL_law L xs) 177 = some (a_callV 180 4 9 mX10_digits) := rfl
theorem zk_180 (L : Nat) (xs : Nat → Int32) : zlook (tL_law L xs) 180 = some (a_c_eq 183 563) := rfl
theorem zk_183 (L : Nat) (xs : Nat → Int32) : zlook (tL_law L xs) 183 = some (a_push 184 (.inl 0)) := rfl
theorem zk_184 (L : Nat) (xs : Nat → Int32) : zlook (tL_law L xs) 184 = some (a_lret) := rfl
theorem zk_185 (L : Nat) (xs : Nat → Int32) : zlook (tL_law L xs) 185 = some (a_aload 186 1) := rfl
theorem zk_186 (L : Nat) (xs : Nat → Int32) : zlook (tL_law L xs) 186 = some (a_aload 187 0) := rfl
theorem zk_187 (L : Nat) (xs : Nat → Int32) : zlook (tL_law L xs) 187 = some (a_iload 188 3) := rfl
theorem zk_188 (L : Nat) (xs : Nat → Int32) : zlook (tL_law L xs) 188 = some (a_push 189 (.inl 1)) := rfl
theorem zk_189 (L : Nat) (xs : Nat → Int32) : zlook (tL_law L xs) 189 = some (a_bin 190 (fun x y => x + y)) := rfl
theorem zk_190 (L : Nat) (xs : Nat → Int32) : zlook (tL_law L xs) 190 = some (a_sald 191 L xs) := rfl
theorem zk_191 (L : Nat) (xs : Nat → Int32) : zlook (tL_law L xs) 191 = some (a_aload 192 0) := rfl
theorem zk_192 (L : Nat) (xs : Nat → Int32) : zlook (tL_law L xs) 192 = some (a_iload 193 3) := rfl
theorem zk_193 (L : Nat) (xs : Nat → Int32) : zlook (tL_law L xs) 193 = some (a_push 194 (.inl 2)) := rfl
theorem zk_194 (L : Nat) (xs : Nat → Int32) : zlook (tL_law L xs) 194 = some (a_bin 195 (fun x y => x + y)) := rfl
theorem zk_195 (L : Nat) (xs : Nat → Int32) : zlook (tL_law L xs) 195 = some (a_sald 196 L xs) := rfl
theorem zk_196 (L : Nat) (xs : Nat → Int32) : zlook (tL_law L xs) 196 = some (a_if_eq 199 203) := rfl
theorem zk_199 (L : Nat) (xs : Nat → Int32) : zlook (tL_law L xs) 199 = some (a_push 200 (.inl 1)) := rfl
theorem zk_200 (L : Nat) (xs : Nat → Int32) : zlook (tL_law L xs) 200 = some (a_goto 204) := rfl
theorem zk_203 (L : Nat) (xs : Nat → Int32) : zlook (tL_law L xs) 203 = some (a_push 204 (.inl 0)) := rfl
theorem zk_204 (L : Nat) (xs : Nat → Int32) : zlook (tL_law L xs) 204 = some (a_aload 205 0) := rfl
theorem zk_205 (L : Nat) (xs : Nat → Int32) : zlook (tL_law L xs) 205 = some (a_iload 206 3) := rfl
theorem zk_206 (L : Nat) (xs : Nat → Int32) : zlook (tL_law L xs) 206 = some (a_push 207 (.inl 3)) := rfl
theorem zk_207 (L : Nat) (xs : Nat → Int32) : zlook (tL_law L xs) 207 = some (a_bin 208 (fun x y => x + y)) := rfl
theorem zk_208 (L : Nat) (xs : Nat → Int32) : zlook (tL_law L xs) 208 = some (a_sald 209 L xs) := rfl
theorem zk_209 (L : Nat) (xs : Nat → Int32) : zlook (tL_law L xs) 209 = some (a_aload 210 0) := rfl
theorem zk_210 (L : Nat) (xs : Nat → Int32) : zlook (tL_law L xs) 210 = some (a_iload 211 3) := rfl
theorem zk_211 (L : Nat) (xs : Nat → Int32) : zlook (tL_law L xs) 211 = some (a_push 212 (.inl 4)) := rfl
theorem zk_212 (L : Nat) (xs : Nat → Int32) : zlook (tL_law L xs) 212 = some (a_bin 213 (fun x y => x + y)) := rfl
theorem zk_213 (L : Nat) (xs : Nat → Int32) : zlook (tL_law L xs) 213 = some (a_sald 214 L xs) := rfl
theorem zk_214 (L : Nat) (xs : Nat → Int32) : zlook (tL_law L xs) 214 = some (a_aload 215 0) := rfl
theorem zk_215 (L : Nat) (xs : Nat → Int32) : zlook (tL_law L xs) 215 = some (a_iload 216 3) := rfl
theorem zk_216 (L : Nat) (xs : Nat → Int32) : zlook (tL_law L xs) 216 = some (a_push 217 (.inl 5)) := rfl
theorem zk_217 (L : Nat) (xs : Nat → Int32) : zlook (tL_law L xs) 217 = some (a_bin 218 (fun x y => x + y)) := rfl
theorem zk_218 (L : Nat) (xs : Nat → Int32) : zlook (tL_law L xs) 218 = some (a_sald 219 L xs) := rfl
theorem zk_219 (L : Nat) (xs : Nat → Int32) : zlook (tL_law L xs) 219 = some (a_aload 220 0) := rfl
theorem zk_220 (L : Nat) (xs : Nat → Int32) : zlook (tL_law L xs) 220 = some (a_iload 221 3) := rfl
theorem zk_221 (L : Nat) (xs : Nat → Int32) : zlook (tL_law L xs) 221 = some (a_push 223 (.inl 6)) := rfl
theorem zk_223 (L : Nat) (xs : Nat → Int32) : zlook (tL_law L xs) 223 = some (a_bin 224 (fun x y => x + y)) := rfl
theorem zk_224 (L : Nat) (xs : Nat → Int32) : zlook (tL_law L xs) 224 = some (a_sald 225 L xs) := rfl
theorem zk_225 (L : Nat) (xs : Nat → Int32) : zlook (tL_law L xs) 225 = some (a_aload 226 0) := rfl
theorem zk_226 (L : Nat) (xs : Nat → Int32) : zlook (tL_law L xs) 226 = some (a_iload 227 3) := rfl
theorem zk_227 (L : Nat) (xs : Nat → Int32) : zlook (tL_law L xs) 227 = some (a_push 229 (.inl 7)) := rfl
theorem zk_229 (L : Nat) (xs : Nat → Int32) : zlook (tL_law L xs) 229 = some (a_bin 230 (fun x y => x + y)) := rfl
theorem zk_230 (L : Nat) (xs : Nat → Int32) : zlook (tL_law L xs) 230 = some (a_sald 231 L xs) := rfl
theorem zk_231 (L : Nat) (xs : Nat → Int32) : zlook (tL_law L xs) 231 = some (a_aload 232 0) := rfl
theorem zk_232 (L : Nat) (xs : Nat → Int32) : zlook (tL_law L xs) 232 = some (a_iload 233 3) := rfl
theorem zk_233 (L : Nat) (xs : Nat → Int32) : zlook (tL_law L xs) 233 = some (a_push 235 (.inl 8)) := rfl
theorem zk_235 (L : Nat) (xs : Nat → Int32) : zlook (tL_law L xs) 235 = some (a_bin 236 (fun x y => x + y)) := rfl
theorem zk_236 (L : Nat) (xs : Nat → Int32) : zlook (tL_law L xs) 236 = some (a_sald 237 L xs) := rfl
theorem zk_237 (L : Nat) (xs : Nat → Int32) : zlook (tL_law L xs) 237 = some (a_callV 240 8 8 mX9_choice) := rfl
theorem zk_240 (L : Nat) (xs : Nat → Int32) : zlook (tL_law L xs) 240 = some (a_aload 241 2) := rfl
theorem zk_241 (L : Nat) (xs : Nat → Int32) : zlook (tL_law L xs) 241 = some (a_aload 242 0) := rfl
theorem zk_242 (L : Nat) (xs : Nat → Int32) : zlook (tL_law L xs) 242 = some (a_iload 243 3) := rfl
theorem zk_243 (L : Nat) (xs : Nat → Int32) : zlook (tL_law L xs) 243 = some (a_push 244 (.inl 1)) := rfl
theorem zk_244 (L : Nat) (xs : Nat → Int32) : zlook (tL_law L xs) 244 = some (a_bin 245 (fun x y => x + y)) := rfl
theorem zk_245 (L : Nat) (xs : Nat → Int32) : zlook (tL_law L xs) 245 = some (a_sald 246 L xs) := rfl
theorem zk_246 (L : Nat) (xs : Nat → Int32) : zlook (tL_law L xs) 246 = some (a_aload 247 0) := rfl
theorem zk_247 (L : Nat) (xs : Nat → Int32) : zlook (tL_law L xs) 247 = some (a_iload 248 3) := rfl
theorem zk_248 (L : Nat) (xs : Nat → Int32) : zlook (tL_law L xs) 248 = some (a_push 249 (.inl 2)) := rfl
theorem zk_249 (L : Nat) (xs : Nat → Int32) : zlook (tL_law L xs) 249 = some (a_bin 250 (fun x y => x + y)) := rfl
theorem zk_250 (L : Nat) (xs : Nat → Int32) : zlook (tL_law L xs) 250 = some (a_sald 251 L xs) := rfl
theorem zk_251 (L : Nat) (xs : Nat → Int32) : zlook (tL_law L xs) 251 = some (a_if_eq 254 258) := rfl
theorem zk_254 (L : Nat) (xs : Nat → Int32) : zlook (tL_law L xs) 254 = some (a_push 255 (.inl 1)) := rfl
theorem zk_255 (L : Nat) (xs : Nat → Int32) : zlook (tL_law L xs) 255 = some (a_goto 259) := rfl
theorem zk_258 (L : Nat) (xs : Nat → Int32) : zlook (tL_law L xs) 258 = some (a_push 259 (.inl 0)) := rfl
theorem zk_259 (L : Nat) (xs : Nat → Int32) : zlook (tL_law L xs) 259 = some (a_aload 260 0) := rfl
theorem zk_260 (L : Nat) (xs : Nat → Int32) : zlook (tL_law L xs) 260 = some (a_iload 261 3) := rfl
theorem zk_261 (L : Nat) (xs : Nat → Int32) : zlook (tL_law L xs) 261 = some (a_push 262 (.inl 3)) := rfl
theorem zk_262 (L : Nat) (xs : Nat → Int32) : zlook (tL_law L xs) 262 = some (a_bin 263 (fun x y => x + y)) := rfl
theorem zk_263 (L : Nat) (xs : Nat → Int32) : zlook (tL_law L xs) 263 = some (a_sald 264 L xs) := rfl
theorem zk_264 (L : Nat) (xs : Nat → Int32) : zlook (tL_law L xs) 264 = some (a_aload 265 0) := rfl
theorem zk_265 (L : Nat) (xs : Nat → Int32) : zlook (tL_law L xs) 265 = some (a_iload 266 3) := rfl
theorem zk_266 (L : Nat) (xs : Nat → Int32) : zlook (tL_law L xs) 266 = some (a_push 267 (.inl 4)) := rfl
theorem zk_267 (L : Nat) (xs : Nat → Int32) : zlook (tL_law L xs) 267 = some (a_bin 268 (fun x y => x + y)) := rfl
theorem zk_268 (L : Nat) (xs : Nat → Int32) : zlook (tL_law L xs) 268 = some (a_sald 269 L xs) := rfl
theorem zk_269 (L : Nat) (xs : Nat → Int32) : zlook (tL_law L xs) 269 = some (a_aload 270 0) := rfl
theorem zk_270 (L : Nat) (xs : Nat → Int32) : zlook (tL_law L xs) 270 = some (a_iload 271 3) := rfl
theorem zk_271 (L : Nat) (xs : Nat → Int32) : zlook (tL_law L xs) 271 = some (a_push 272 (.inl 5)) := rfl
theorem zk_272 (L : Nat) (xs : Nat → Int32) : zlook (tL_law L xs) 272 = some (a_bin 273 (fun x y => x + y)) := rfl
theorem zk_273 (L : Nat) (xs : Nat → Int32) : zlook (tL_law L xs) 273 = some (a_sald 274 L xs) := rfl
theorem zk_274 (L : Nat) (xs : Nat → Int32) : zlook (tL_law L xs) 274 = some (a_aload 275 0) := rfl
theorem zk_275 (L : Nat) (xs : Nat → Int32) : zlook (tL_law L xs) 275 = some (a_iload 276 3) := rfl
theorem zk_276 (L : Nat) (xs : Nat → Int32) : zlook (tL_law L xs) 276 = some (a_push 278 (.inl 6)) := rfl
theorem zk_278 (L : Nat) (xs : Nat → Int32) : zlook (tL_law L xs) 278 = some (a_bin 279 (fun x y => x + y)) := rfl
theorem zk_279 (L : Nat) (xs : Nat → Int32) : zlook (tL_law L xs) 279 = some (a_sald 280 L xs) := rfl
theorem zk_280 (L : Nat) (xs : Nat → Int32) : zlook (tL_law L xs) 280 = some (a_aload 281 0) := rfl
theorem zk_281 (L : Nat) (xs : Nat → Int32) : zlook (tL_law L xs) 281 = some (a_iload 282 3) := rfl
theorem zk_282 (L : Nat) (xs : Nat → Int32) : zlook (tL_law L xs) 282 = some (a_push 284 (.inl 7)) := rfl
theorem zk_284 (L : Nat) (xs : Nat → Int32) : zlook (tL_law L xs) 284 = some (a_bin 285 (fun x y => x + y)) := rfl
theorem zk_285 (L : Nat) (xs : Nat → Int32) : zlook (tL_law L xs) 285 = some (a_sald 286 L xs) := rfl
theorem zk_286 (L : Nat) (xs : Nat → Int32) : zlook (tL_law L xs) 286 = some (a_aload 287 0) := rfl
theorem zk_287 (L : Nat) (xs : Nat → Int32) : zlook (tL_law L xs) 287 = some (a_iload 288 3) := rfl
theorem zk_288 (L : Nat) (xs : Nat → Int32) : zlook (tL_law L xs) 288 = some (a_push 290 (.inl 8)) := rfl
theorem zk_290 (L : Nat) (xs : Nat → Int32) : zlook (tL_law L xs) 290 = some (a_bin 291 (fun x y => x + y)) := rfl
theorem zk_291 (L : Nat) (xs : Nat → Int32) : zlook (tL_law L xs) 291 = some (a_sald 292 L xs) := rfl
theorem zk_292 (L : Nat) (xs : Nat → Int32) : zlook (tL_law L xs) 292 = some (a_callV 295 8 9 mX10_choice) := rfl
theorem zk_295 (L : Nat) (xs : Nat → Int32) : zlook (tL_law L xs) 295 = some (a_c_eq 298 563) := rfl
theorem zk_298 (L : Nat) (xs : Nat → Int32) : zlook (tL_law L xs) 298 = some (a_push 299 (.inl 0)) := rfl
theorem zk_299 (L : Nat) (xs : Nat → Int32) : zlook (tL_law L xs) 299 = some (a_lret) := rfl
theorem zk_300 (L : Nat) (xs : Nat → Int32) : zlook (tL_law L xs) 300 = some (a_aload 301 1) := rfl
theorem zk_301 (L : Nat) (xs : Nat → Int32) : zlook (tL_law L xs) 301 = some (a_aload 302 0) := rfl
theorem zk_302 (L : Nat) (xs : Nat → Int32) : zlook (tL_law L xs) 302 = some (a_iload 303 3) := rfl
theorem zk_303 (L : Nat) (xs : Nat → Int32) : zlook (tL_law L xs) 303 = some (a_push 304 (.inl 1)) := rfl
theorem zk_304 (L : Nat) (xs : Nat → Int32) : zlook (tL_law L xs) 304 = some (a_bin 305 (fun x y => x + y)) := rfl
theorem zk_305 (L : Nat) (xs : Nat → Int32) : zlook (tL_law L xs) 305 = some (a_sald 306 L xs) := rfl
theorem zk_306 (L : Nat) (xs : Nat → Int32) : zlook (tL_law L xs) 306 = some (a_aload 307 0) := rfl
theorem zk_307 (L : Nat) (xs : Nat → Int32) : zlook (tL_law L xs) 307 = some (a_iload 308 3) := rfl
theorem zk_308 (L : Nat) (xs : Nat → Int32) : zlook (tL_law L xs) 308 = some (a_push 309 (.inl 2)) := rfl
theorem zk_309 (L : Nat) (xs : Nat → Int32) : zlook (tL_law L xs) 309 = some (a_bin 310 (fun x y => x + y)) := rfl
theorem zk_310 (L : Nat) (xs : Nat → Int32) : zlook (tL_law L xs) 310 = some (a_sald 311 L xs) := rfl
theorem zk_311 (L : Nat) (xs : Nat → Int32) : zlook (tL_law L xs) 311 = some (a_aload 312 0) := rfl
theorem zk_312 (L : Nat) (xs : Nat → Int32) : zlook (tL_law L xs) 312 = some (a_iload 313 3) := rfl
theorem zk_313 (L : Nat) (xs : Nat → Int32) : zlook (tL_law L xs) 313 = some (a_push 314 (.inl 3)) := rfl
theorem zk_314 (L : Nat) (xs : Nat → Int32) : zlook (tL_law L xs) 314 = some (a_bin 315 (fun x y => x + y)) := rfl
theorem zk_315 (L : Nat) (xs : Nat → Int32) : zlook (tL_law L xs) 315 = some (a_sald 316 L xs) := rfl
theorem zk_316 (L : Nat) (xs : Nat → Int32) : zlook (tL_law L xs) 316 = some (a_callV 319 3 8 mX9_needs) := rfl
theorem zk_319 (L : Nat) (xs : Nat → Int32) : zlook (tL_law L xs) 319 = some (a_aload 320 2) := rfl
theorem zk_320 (L : Nat) (xs : Nat → Int32) : zlook (tL_law L xs) 320 = some (a_aload 321 0) := rfl
theorem zk_321 (L : Nat) (xs : Nat → Int32) : zlook (tL_law L xs) 321 = some (a_iload 322 3) := rfl
theorem zk_322 (L : Nat) (xs : Nat → Int32) : zlook (tL_law L xs) 322 = some (a_push 323 (.inl 1)) := rfl
theorem zk_323 (L : Nat) (xs : Nat → Int32) : zlook (tL_law L xs) 323 = some (a_bin 324 (fun x y => x + y)) := rfl
theorem zk_324 (L : Nat) (xs : Nat → Int32) : zlook (tL_law L xs) 324 = some (a_sald 325 L xs) := rfl
theorem zk_325 (L : Nat) (xs : Nat → Int32) : zlook (tL_law L xs) 325 = some (a_aload 326 0) := rfl
theorem zk_326 (L : Nat) (xs : Nat → Int32) : zlook (tL_law L xs) 326 = some (a_iload 327 3) := rfl
theorem zk_327 (L : Nat) (xs : Nat → Int32) : zlook (tL_law L xs) 327 = some (a_push 328 (.inl 2)) := rfl
theorem zk_328 (L : Nat) (xs : Nat → Int32) : zlook (tL_law L xs) 328 = some (a_bin 329 (fun x y => x + y)) := rfl
theorem zk_329 (L : Nat) (xs : Nat → Int32) : zlook (tL_law L xs) 329 = some (a_sald 330 L xs) := rfl
theorem zk_330 (L : Nat) (xs : Nat → Int32) : zlook (tL_law L xs) 330 = some (a_aload 331 0) := rfl
theorem zk_331 (L : Nat) (xs : Nat → Int32) : zlook (tL_law L xs) 331 = some (a_iload 332 3) := rfl
theorem zk_332 (L : Nat) (xs : Nat → Int32) : zlook (tL_law L xs) 332 = some (a_push 333 (.inl 3)) := rfl
theorem zk_333 (L : Nat) (xs : Nat → Int32) : zlook (tL_law L xs) 333 = some (a_bin 334 (fun x y => x + y)) := rfl
theorem zk_334 (L : Nat) (xs : Nat → Int32) : zlook (tL_law L xs) 334 = some (a_sald 335 L xs) := rfl
theorem zk_335 (L : Nat) (xs : Nat → Int32) : zlook (tL_law L xs) 335 = some (a_callV 338 3 9 mX10_needs) := rfl
theorem zk_338 (L : Nat) (xs : Nat → Int32) : zlook (tL_law L xs) 338 = some (a_c_eq 341 563) := rfl
theorem zk_341 (L : Nat) (xs : Nat → Int32) : zlook (tL_law L xs) 341 = some (a_push 342 (.inl 0)) := rfl
theorem zk_342 (L : Nat) (xs : Nat → Int32) : zlook (tL_law L xs) 342 = some (a_lret) := rfl
theorem zk_343 (L : Nat) (xs : Nat → Int32) : zlook (tL_law L xs) 343 = some (a_aload 344 1) := rfl
theorem zk_344 (L : Nat) (xs : Nat → Int32) : zlook (tL_law L xs) 344 = some (a_aload 345 0) := rfl
theorem zk_345 (L : Nat) (xs : Nat → Int32) : zlook (tL_law L xs) 345 = some (a_iload 346 3) := rfl
theorem zk_346 (L : Nat) (xs : Nat → Int32) : zlook (tL_law L xs) 346 = some (a_push 347 (.inl 1)) := rfl
theorem zk_347 (L : Nat) (xs : Nat → Int32) : zlook (tL_law L xs) 347 = some (a_bin 348 (fun x y => x + y)) := rfl
theorem zk_348 (L : Nat) (xs : Nat → Int32) : zlook (tL_law L xs) 348 = some (a_sald 349 L xs) := rfl
theorem zk_349 (L : Nat) (xs : Nat → Int32) : zlook (tL_law L xs) 349 = some (a_aload 350 0) := rfl
theorem zk_350 (L : Nat) (xs : Nat → Int32) : zlook (tL_law L xs) 350 = some (a_iload 351 3) := rfl
theorem zk_351 (L : Nat) (xs : Nat → Int32) : zlook (tL_law L xs) 351 = some (a_push 352 (.inl 2)) := rfl
theorem zk_352 (L : Nat) (xs : Nat → Int32) : zlook (tL_law L xs) 352 = some (a_bin 353 (fun x y => x + y)) := rfl
theorem zk_353 (L : Nat) (xs : Nat → Int32) : zlook (tL_law L xs) 353 = some (a_sald 354 L xs) := rfl
theorem zk_354 (L : Nat) (xs : Nat → Int32) : zlook (tL_law L xs) 354 = some (a_aload 355 0) := rfl
theorem zk_355 (L : Nat) (xs : Nat → Int32) : zlook (tL_law L xs) 355 = some (a_iload 356 3) := rfl
theorem zk_356 (L : Nat) (xs : Nat → Int32) : zlook (tL_law L xs) 356 = some (a_push 357 (.inl 3)) := rfl
theorem zk_357 (L : Nat) (xs : Nat → Int32) : zlook (tL_law L xs) 357 = some (a_bin 358 (fun x y => x + y)) := rfl
theorem zk_358 (L : Nat) (xs : Nat → Int32) : zlook (tL_law L xs) 358 = some (a_sald 359 L xs) := rfl
theorem zk_359 (L : Nat) (xs : Nat → Int32) : zlook (tL_law L xs) 359 = some (a_callV 362 3 8 mX9_costs) := rfl
theorem zk_362 (L : Nat) (xs : Nat → Int32) : zlook (tL_law L xs) 362 = some (a_aload 363 2) := rfl
theorem zk_363 (L : Nat) (xs : Nat → Int32) : zlook (tL_law L xs) 363 = some (a_aload 364 0) := rfl
theorem zk_364 (L : Nat) (xs : Nat → Int32) : zlook (tL_law L xs) 364 = some (a_iload 365 3) := rfl
theorem zk_365 (L : Nat) (xs : Nat → Int32) : zlook (tL_law L xs) 365 = some (a_push 366 (.inl 1)) := rfl
theorem zk_366 (L : Nat) (xs : Nat → Int32) : zlook (tL_law L xs) 366 = some (a_bin 367 (fun x y => x + y)) := rfl
theorem zk_367 (L : Nat) (xs : Nat → Int32) : zlook (tL_law L xs) 367 = some (a_sald 368 L xs) := rfl
theorem zk_368 (L : Nat) (xs : Nat → Int32) : zlook (tL_law L xs) 368 = some (a_aload 369 0) := rfl
theorem zk_369 (L : Nat) (xs : Nat → Int32) : zlook (tL_law L xs) 369 = some (a_iload 370 3) := rfl
theorem zk_370 (L : Nat) (xs : Nat → Int32) : zlook (tL_law L xs) 370 = some (a_push 371 (.inl 2)) := rfl
theorem zk_371 (L : Nat) (xs : Nat → Int32) : zlook (tL_law L xs) 371 = some (a_bin 372 (fun x y => x + y)) := rfl
theorem zk_372 (L : Nat) (xs : Nat → Int32) : zlook (tL_law L xs) 372 = some (a_sald 373 L xs) := rfl
theorem zk_373 (L : Nat) (xs : Nat → Int32) : zlook (tL_law L xs) 373 = some (a_aload 374 0) := rfl
theorem zk_374 (L : Nat) (xs : Nat → Int32) : zlook (tL_law L xs) 374 = some (a_iload 375 3) := rfl
theorem zk_375 (L : Nat) (xs : Nat → Int32) : zlook (tL_law L xs) 375 = some (a_push 376 (.inl 3)) := rfl
theorem zk_376 (L : Nat) (xs : Nat → Int32) : zlook (tL_law L xs) 376 = some (a_bin 377 (fun x y => x + y)) := rfl
theorem zk_377 (L : Nat) (xs : Nat → Int32) : zlook (tL_law L xs) 377 = some (a_sald 378 L xs) := rfl
theorem zk_378 (L : Nat) (xs : Nat → Int32) : zlook (tL_law L xs) 378 = some (a_callV 381 3 9 mX10_costs) := rfl
theorem zk_381 (L : Nat) (xs : Nat → Int32) : zlook (tL_law L xs) 381 = some (a_c_eq 384 563) := rfl
theorem zk_384 (L : Nat) (xs : Nat → Int32) : zlook (tL_law L xs) 384 = some (a_push 385 (.inl 0)) := rfl
theorem zk_385 (L : Nat) (xs : Nat → Int32) : zlook (tL_law L xs) 385 = some (a_lret) := rfl
theorem zk_386 (L : Nat) (xs : Nat → Int32) : zlook (tL_law L xs) 386 = some (a_aload 387 1) := rfl
theorem zk_387 (L : Nat) (xs : Nat → Int32) : zlook (tL_law L xs) 387 = some (a_callV 390 0 8 mX9_place) := rfl
theorem zk_390 (L : Nat) (xs : Nat → Int32) : zlook (tL_law L xs) 390 = some (a_aload 391 2) := rfl
theorem zk_391 (L : Nat) (xs : Nat → Int32) : zlook (tL_law L xs) 391 = some (a_callV 394 0 9 mX10_place) := rfl
theorem zk_394 (L : Nat) (xs : Nat → Int32) : zlook (tL_law L xs) 394 = some (a_c_eq 397 563) := rfl
theorem zk_397 (L : Nat) (xs : Nat → Int32) : zlook (tL_law L xs) 397 = some (a_push 398 (.inl 0)) := rfl
theorem zk_398 (L : Nat) (xs : Nat → Int32) : zlook (tL_law L xs) 398 = some (a_lret) := rfl
theorem zk_399 (L : Nat) (xs : Nat → Int32) : zlook (tL_law L xs) 399 = some (a_aload 400 1) := rfl
theorem zk_400 (L : Nat) (xs : Nat → Int32) : zlook (tL_law L xs) 400 = some (a_aload 401 0) := rfl
theorem zk_401 (L : Nat) (xs : Nat → Int32) : zlook (tL_law L xs) 401 = some (a_iload 402 3) := rfl
theorem zk_402 (L : Nat) (xs : Nat → Int32) : zlook (tL_law L xs) 402 = some (a_push 403 (.inl 1)) := rfl
theorem zk_403 (L : Nat) (xs : Nat → Int32) : zlook (tL_law L xs) 403 = some (a_bin 404 (fun x y => x + y)) := rfl
theorem zk_404 (L : Nat) (xs : Nat → Int32) : zlook (tL_law L xs) 404 = some (a_sald 405 L xs) := rfl
theorem zk_405 (L : Nat) (xs : Nat → Int32) : zlook (tL_law L xs) 405 = some (a_aload 406 0) := rfl
theorem zk_406 (L : Nat) (xs : Nat → Int32) : zlook (tL_law L xs) 406 = some (a_iload 407 3) := rfl
theorem zk_407 (L : Nat) (xs : Nat → Int32) : zlook (tL_law L xs) 407 = some (a_push 408 (.inl 2)) := rfl
theorem zk_408 (L : Nat) (xs : Nat → Int32) : zlook (tL_law L xs) 408 = some (a_bin 409 (fun x y => x + y)) := rfl
theorem zk_409 (L : Nat) (xs : Nat → Int32) : zlook (tL_law L xs) 409 = some (a_sald 410 L xs) := rfl
theorem zk_410 (L : Nat) (xs : Nat → Int32) : zlook (tL_law L xs) 410 = some (a_callV 413 2 8 mX9_word) := rfl
theorem zk_413 (L : Nat) (xs : Nat → Int32) : zlook (tL_law L xs) 413 = some (a_aload 414 2) := rfl
theorem zk_414 (L : Nat) (xs : Nat → Int32) : zlook (tL_law L xs) 414 = some (a_aload 415 0) := rfl
theorem zk_415 (L : Nat) (xs : Nat → Int32) : zlook (tL_law L xs) 415 = some (a_iload 416 3) := rfl
theorem zk_416 (L : Nat) (xs : Nat → Int32) : zlook (tL_law L xs) 416 = some (a_push 417 (.inl 1)) := rfl
theorem zk_417 (L : Nat) (xs : Nat → Int32) : zlook (tL_law L xs) 417 = some (a_bin 418 (fun x y => x + y)) := rfl
theorem zk_418 (L : Nat) (xs : Nat → Int32) : zlook (tL_law L xs) 418 = some (a_sald 419 L xs) := rfl
theorem zk_419 (L : Nat) (xs : Nat → Int32) : zlook (tL_law L xs) 419 = some (a_aload 420 0) := rfl
theorem zk_420 (L : Nat) (xs : Nat → Int32) : zlook (tL_law L xs) 420 = some (a_iload 421 3) := rfl
theorem zk_421 (L : Nat) (xs : Nat → Int32) : zlook (tL_law L xs) 421 = some (a_push 422 (.inl 2)) := rfl
theorem zk_422 (L : Nat) (xs : Nat → Int32) : zlook (tL_law L xs) 422 = some (a_bin 423 (fun x y => x + y)) := rfl
theorem zk_423 (L : Nat) (xs : Nat → Int32) : zlook (tL_law L xs) 423 = some (a_sald 424 L xs) := rfl
theorem zk_424 (L : Nat) (xs : Nat → Int32) : zlook (tL_law L xs) 424 = some (a_callV 427 2 9 mX10_word) := rfl
theorem zk_427 (L : Nat) (xs : Nat → Int32) : zlook (tL_law L xs) 427 = some (a_c_eq 430 563) := rfl
theorem zk_430 (L : Nat) (xs : Nat → Int32) : zlook (tL_law L xs) 430 = some (a_push 431 (.inl 0)) := rfl
theorem zk_431 (L : Nat) (xs : Nat → Int32) : zlook (tL_law L xs) 431 = some (a_lret) := rfl
theorem zk_432 (L : Nat) (xs : Nat → Int32) : zlook (tL_law L xs) 432 = some (a_aload 433 1) := rfl
theorem zk_433 (L : Nat) (xs : Nat → Int32) : zlook (tL_law L xs) 433 = some (a_callV 436 0 8 mX9_say) := rfl
theorem zk_436 (L : Nat) (xs : Nat → Int32) : zlook (tL_law L xs) 436 = some (a_aload 437 2) := rfl
theorem zk_437 (L : Nat) (xs : Nat → Int32) : zlook (tL_law L xs) 437 = some (a_callV 440 0 9 mX10_say) := rfl
theorem zk_440 (L : Nat) (xs : Nat → Int32) : zlook (tL_law L xs) 440 = some (a_c_eq 443 563) := rfl
theorem zk_443 (L : Nat) (xs : Nat → Int32) : zlook (tL_law L xs) 443 = some (a_push 444 (.inl 0)) := rfl
theorem zk_444 (L : Nat) (xs : Nat → Int32) : zlook (tL_law L xs) 444 = some (a_lret) := rfl
theorem zk_445 (L : Nat) (xs : Nat → Int32) : zlook (tL_law L xs) 445 = some (a_aload 446 1) := rfl
theorem zk_446 (L : Nat) (xs : Nat → Int32) : zlook (tL_law L xs) 446 = some (a_callV 449 0 8 mX9_goOn) := rfl
theorem zk_449 (L : Nat) (xs : Nat → Int32) : zlook (tL_law L xs) 449 = some (a_aload 450 2) := rfl
theorem zk_450 (L : Nat) (xs : Nat → Int32) : zlook (tL_law L xs) 450 = some (a_callV 453 0 9 mX10_goOn) := rfl
theorem zk_453 (L : Nat) (xs : Nat → Int32) : zlook (tL_law L xs) 453 = some (a_c_eq 456 563) := rfl
theorem zk_456 (L : Nat) (xs : Nat → Int32) : zlook (tL_law L xs) 456 = some (a_push 457 (.inl 0)) := rfl
theorem zk_457 (L : Nat) (xs : Nat → Int32) : zlook (tL_law L xs) 457 = some (a_lret) := rfl
theorem zk_458 (L : Nat) (xs : Nat → Int32) : zlook (tL_law L xs) 458 = some (a_aload 459 1) := rfl
theorem zk_459 (L : Nat) (xs : Nat → Int32) : zlook (tL_law L xs) 459 = some (a_aload 460 0) := rfl
theorem zk_460 (L : Nat) (xs : Nat → Int32) : zlook (tL_law L xs) 460 = some (a_iload 461 3) := rfl
theorem zk_461 (L : Nat) (xs : Nat → Int32) : zlook (tL_law L xs) 461 = some (a_push 462 (.inl 1)) := rfl
theorem zk_462 (L : Nat) (xs : Nat → Int32) : zlook (tL_law L xs) 462 = some (a_bin 463 (fun x y => x + y)) := rfl
theorem zk_463 (L : Nat) (xs : Nat → Int32) : zlook (tL_law L xs) 463 = some (a_sald 464 L xs) := rfl
theorem zk_464 (L : Nat) (xs : Nat → Int32) : zlook (tL_law L xs) 464 = some (a_callV 467 1 8 mX9_told) := rfl
theorem zk_467 (L : Nat) (xs : Nat → Int32) : zlook (tL_law L xs) 467 = some (a_aload 468 2) := rfl
theorem zk_468 (L : Nat) (xs : Nat → Int32) : zlook (tL_law L xs) 468 = some (a_aload 469 0) := rfl
theorem zk_469 (L : Nat) (xs : Nat → Int32) : zlook (tL_law L xs) 469 = some (a_iload 470 3) := rfl
theorem zk_470 (L : Nat) (xs : Nat → Int32) : zlook (tL_law L xs) 470 = some (a_push 471 (.inl 1)) := rfl
theorem zk_471 (L : Nat) (xs : Nat → Int32) : zlook (tL_law L xs) 471 = some (a_bin 472 (fun x y => x + y)) := rfl
theorem zk_472 (L : Nat) (xs : Nat → Int32) : zlook (tL_law L xs) 472 = some (a_sald 473 L xs) := rfl
theorem zk_473 (L : Nat) (xs : Nat → Int32) : zlook (tL_law L xs) 473 = some (a_callV 476 1 9 mX10_told) := rfl
theorem zk_476 (L : Nat) (xs : Nat → Int32) : zlook (tL_law L xs) 476 = some (a_c_eq 479 563) := rfl
theorem zk_479 (L : Nat) (xs : Nat → Int32) : zlook (tL_law L xs) 479 = some (a_push 480 (.inl 0)) := rfl
theorem zk_480 (L : Nat) (xs : Nat → Int32) : zlook (tL_law L xs) 480 = some (a_lret) := rfl
theorem zk_481 (L : Nat) (xs : Nat → Int32) : zlook (tL_law L xs) 481 = some (a_aload 482 1) := rfl
theorem zk_482 (L : Nat) (xs : Nat → Int32) : zlook (tL_law L xs) 482 = some (a_aload 483 0) := rfl
theorem zk_483 (L : Nat) (xs : Nat → Int32) : zlook (tL_law L xs) 483 = some (a_iload 484 3) := rfl
theorem zk_484 (L : Nat) (xs : Nat → Int32) : zlook (tL_law L xs) 484 = some (a_push 485 (.inl 1)) := rfl
theorem zk_485 (L : Nat) (xs : Nat → Int32) : zlook (tL_law L xs) 485 = some (a_bin 486 (fun x y => x + y)) := rfl
theorem zk_486 (L : Nat) (xs : Nat → Int32) : zlook (tL_law L xs) 486 = some (a_sald 487 L xs) := rfl
theorem zk_487 (L : Nat) (xs : Nat → Int32) : zlook (tL_law L xs) 487 = some (a_callV 490 1 8 mX9_about) := rfl
theorem zk_490 (L : Nat) (xs : Nat → Int32) : zlook (tL_law L xs) 490 = some (a_aload 491 2) := rfl
theorem zk_491 (L : Nat) (xs : Nat → Int32) : zlook (tL_law L xs) 491 = some (a_aload 492 0) := rfl
theorem zk_492 (L : Nat) (xs : Nat → Int32) : zlook (tL_law L xs) 492 = some (a_iload 493 3) := rfl
theorem zk_493 (L : Nat) (xs : Nat → Int32) : zlook (tL_law L xs) 493 = some (a_push 494 (.inl 1)) := rfl
theorem zk_494 (L : Nat) (xs : Nat → Int32) : zlook (tL_law L xs) 494 = some (a_bin 495 (fun x y => x + y)) := rfl
theorem zk_495 (L : Nat) (xs : Nat → Int32) : zlook (tL_law L xs) 495 = some (a_sald 496 L xs) := rfl
theorem zk_496 (L : Nat) (xs : Nat → Int32) : zlook (tL_law L xs) 496 = some (a_callV 499 1 9 mX10_about) := rfl
theorem zk_499 (L : Nat) (xs : Nat → Int32) : zlook (tL_law L xs) 499 = some (a_c_eq 502 563) := rfl
theorem zk_502 (L : Nat) (xs : Nat → Int32) : zlook (tL_law L xs) 502 = some (a_push 503 (.inl 0)) := rfl
theorem zk_503 (L : Nat) (xs : Nat → Int32) : zlook (tL_law L xs) 503 = some (a_lret) := rfl
theorem zk_504 (L : Nat) (xs : Nat → Int32) : zlook (tL_law L xs) 504 = some (a_aload 505 1) := rfl
theorem zk_505 (L : Nat) (xs : Nat → Int32) : zlook (tL_law L xs) 505 = some (a_aload 506 0) := rfl
theorem zk_506 (L : Nat) (xs : Nat → Int32) : zlook (tL_law L xs) 506 = some (a_iload 507 3) := rfl
theorem zk_507 (L : Nat) (xs : Nat → Int32) : zlook (tL_law L xs) 507 = some (a_push 508 (.inl 1)) := rfl
theorem zk_508 (L : Nat) (xs : Nat → Int32) : zlook (tL_law L xs) 508 = some (a_bin 509 (fun x y => x + y)) := rfl
theorem zk_509 (L : Nat) (xs : Nat → Int32) : zlook (tL_law L xs) 509 = some (a_sald 510 L xs) := rfl
theorem zk_510 (L : Nat) (xs : Nat → Int32) : zlook (tL_law L xs) 510 = some (a_aload 511 0) := rfl
theorem zk_511 (L : Nat) (xs : Nat → Int32) : zlook (tL_law L xs) 511 = some (a_iload 512 3) := rfl
theorem zk_512 (L : Nat) (xs : Nat → Int32) : zlook (tL_law L xs) 512 = some (a_push 513 (.inl 2)) := rfl
theorem zk_513 (L : Nat) (xs : Nat → Int32) : zlook (tL_law L xs) 513 = some (a_bin 514 (fun x y => x + y)) := rfl
theorem zk_514 (L : Nat) (xs : Nat → Int32) : zlook (tL_law L xs) 514 = some (a_sald 515 L xs) := rfl
theorem zk_515 (L : Nat) (xs : Nat → Int32) : zlook (tL_law L xs) 515 = some (a_callV 518 2 8 mX9_field) := rfl
theorem zk_518 (L : Nat) (xs : Nat → Int32) : zlook (tL_law L xs) 518 = some (a_aload 519 2) := rfl
theorem zk_519 (L : Nat) (xs : Nat → Int32) : zlook (tL_law L xs) 519 = some (a_aload 520 0) := rfl
theorem zk_520 (L : Nat) (xs : Nat → Int32) : zlook (tL_law L xs) 520 = some (a_iload 521 3) := rfl
theorem zk_521 (L : Nat) (xs : Nat → Int32) : zlook (tL_law L xs) 521 = some (a_push 522 (.inl 1)) := rfl
theorem zk_522 (L : Nat) (xs : Nat → Int32) : zlook (tL_law L xs) 522 = some (a_bin 523 (fun x y => x + y)) := rfl
theorem zk_523 (L : Nat) (xs : Nat → Int32) : zlook (tL_law L xs) 523 = some (a_sald 524 L xs) := rfl
theorem zk_524 (L : Nat) (xs : Nat → Int32) : zlook (tL_law L xs) 524 = some (a_aload 525 0) := rfl
theorem zk_525 (L : Nat) (xs : Nat → Int32) : zlook (tL_law L xs) 525 = some (a_iload 526 3) := rfl
theorem zk_526 (L : Nat) (xs : Nat → Int32) : zlook (tL_law L xs) 526 = some (a_push 527 (.inl 2)) := rfl
theorem zk_527 (L : Nat) (xs : Nat → Int32) : zlook (tL_law L xs) 527 = some (a_bin 528 (fun x y => x + y)) := rfl
theorem zk_528 (L : Nat) (xs : Nat → Int32) : zlook (tL_law L xs) 528 = some (a_sald 529 L xs) := rfl
theorem zk_529 (L : Nat) (xs : Nat → Int32) : zlook (tL_law L xs) 529 = some (a_callV 532 2 9 mX10_field) := rfl
theorem zk_532 (L : Nat) (xs : Nat → Int32) : zlook (tL_law L xs) 532 = some (a_c_eq 535 563) := rfl
theorem zk_535 (L : Nat) (xs : Nat → Int32) : zlook (tL_law L xs) 535 = some (a_push 536 (.inl 0)) := rfl
theorem zk_536 (L : Nat) (xs : Nat → Int32) : zlook (tL_law L xs) 536 = some (a_lret) := rfl
theorem zk_537 (L : Nat) (xs : Nat → Int32) : zlook (tL_law L xs) 537 = some (a_aload 538 1) := rfl
theorem zk_538 (L : Nat) (xs : Nat → Int32) : zlook (tL_law L xs) 538 = some (a_callV 541 0 8 mX9_hearBack) := rfl
theorem zk_541 (L : Nat) (xs : Nat → Int32) : zlook (tL_law L xs) 541 = some (a_aload 542 2) := rfl
theorem zk_542 (L : Nat) (xs : Nat → Int32) : zlook (tL_law L xs) 542 = some (a_callV 545 0 9 mX10_hearBack) := rfl
theorem zk_545 (L : Nat) (xs : Nat → Int32) : zlook (tL_law L xs) 545 = some (a_c_eq 548 563) := rfl
theorem zk_548 (L : Nat) (xs : Nat → Int32) : zlook (tL_law L xs) 548 = some (a_push 549 (.inl 0)) := rfl
theorem zk_549 (L : Nat) (xs : Nat → Int32) : zlook (tL_law L xs) 549 = some (a_lret) := rfl
theorem zk_550 (L : Nat) (xs : Nat → Int32) : zlook (tL_law L xs) 550 = some (a_aload 551 1) := rfl
theorem zk_551 (L : Nat) (xs : Nat → Int32) : zlook (tL_law L xs) 551 = some (a_callV 554 0 8 mX9_send) := rfl
theorem zk_554 (L : Nat) (xs : Nat → Int32) : zlook (tL_law L xs) 554 = some (a_aload 555 2) := rfl
theorem zk_555 (L : Nat) (xs : Nat → Int32) : zlook (tL_law L xs) 555 = some (a_callV 558 0 9 mX10_send) := rfl
theorem zk_558 (L : Nat) (xs : Nat → Int32) : zlook (tL_law L xs) 558 = some (a_c_eq 561 563) := rfl
theorem zk_561 (L : Nat) (xs : Nat → Int32) : zlook (tL_law L xs) 561 = some (a_push 562 (.inl 0)) := rfl
theorem zk_562 (L : Nat) (xs : Nat → Int32) : zlook (tL_law L xs) 562 = some (a_lret) := rfl
theorem zk_563 (L : Nat) (xs : Nat → Int32) : zlook (tL_law L xs) 563 = some (a_iinc 566 3 9) := rfl
theorem zk_566 (L : Nat) (xs : Nat → Int32) : zlook (tL_law L xs) 566 = some (a_goto 18) := rfl
theorem zk_569 (L : Nat) (xs : Nat → Int32) : zlook (tL_law L xs) 569 = some (a_push 570 (.inl 1)) := rfl
theorem zk_570 (L : Nat) (xs : Nat → Int32) : zlook (tL_law L xs) 570 = some (a_lret) := rfl
theorem cont_slen (nx L : Nat) : Cont (a_slen nx L) := by
  intro k r ls st M h
  unfold a_slen at h
  split at h
  · split at h
    · rename_i g
      refine Or.inl ⟨_, _, _, _, h, fun k' h' => ?_⟩
      unfold a_slen
      dsimp only
      rw [if_pos g]
      exact h'
    · cases h
  · cases h
theorem cont_sald (nx L : Nat) (xs : Nat → Int32) : Cont (a_sald nx L xs) := by
  intro k r ls st M h
  unfold a_sald at h
  split at h
  · split at h
    · rename_i g
      split at h
      · cases h
      · rename_i g1
        refine Or.inl ⟨_, _, _, _, h, fun k' h' => ?_⟩
        unfold a_sald
        dsimp only
        rw [if_pos g, if_neg g1]
        exact h'
    · cases h
  · cases h
set_option maxRecDepth 100000 in
theorem ctL (L : Nat) (xs : Nat → Int32) : ∀ q ∈ tL_law L xs, Cont q.2 := by
  refine ccons (cont_iload _ _) ?_
  refine ccons (cont_aload _ _) ?_
  refine ccons (cont_slen _ _) ?_
  refine ccons (cont_push _ _) ?_
  refine ccons (cont_bin _ _) ?_
  refine ccons (cont_c_gt _ _) ?_
  refine ccons (cont_aload _ _) ?_
  refine ccons (cont_iload _ _) ?_
  refine ccons (cont_sald _ _ _) ?_
  refine ccons (cont_push _ _) ?_
  refine ccons (cont_bin _ _) ?_
  refine ccons (cont_switch _ _) ?_
  refine ccons (cont_aload _ _) ?_
  refine ccons (cont_aload _ _) ?_
  refine ccons (cont_iload _ _) ?_
  refine ccons (cont_push _ _) ?_
  refine ccons (cont_bin _ _) ?_
  refine ccons (cont_sald _ _ _) ?_
  refine ccons (cont_aload _ _) ?_
  refine ccons (cont_iload _ _) ?_
  refine ccons (cont_push _ _) ?_
  refine ccons (cont_bin _ _) ?_
  refine ccons (cont_sald _ _ _) ?_
  refine ccons (cont_aload _ _) ?_
  refine ccons (cont_iload _ _) ?_
  refine ccons (cont_push _ _) ?_
  refine ccons (cont_bin _ _) ?_
  refine ccons (cont_sald _ _ _) ?_
  refine ccons (cont_if_eq _ _) ?_
  refine ccons (cont_push _ _) ?_
  refine ccons (cont_goto _) ?_
  refine ccons (cont_push _ _) ?_
  refine ccons (cont_aload _ _) ?_
  refine ccons (cont_iload _ _) ?_
  refine ccons (cont_push _ _) ?_
  refine ccons (cont_bin _ _) ?_
  refine ccons (cont_sald _ _ _) ?_
  refine ccons (cont_if_eq _ _) ?_
  refine ccons (cont_push _ _) ?_
  refine ccons (cont_goto _) ?_
  refine ccons (cont_push _ _) ?_
  refine ccons (cont_callV _ _ _ _) ?_
  refine ccons (cont_aload _ _) ?_
  refine ccons (cont_aload _ _) ?_
  refine ccons (cont_iload _ _) ?_
  refine ccons (cont_push _ _) ?_
  refine ccons (cont_bin _ _) ?_
  refine ccons (cont_sald _ _ _) ?_
  refine ccons (cont_aload _ _) ?_
  refine ccons (cont_iload _ _) ?_
  refine ccons (cont_push _ _) ?_
  refine ccons (cont_bin _ _) ?_
  refine ccons (cont_sald _ _ _) ?_
  refine ccons (cont_aload _ _) ?_
  refine ccons (cont_iload _ _) ?_
  refine ccons (cont_push _ _) ?_
  refine ccons (cont_bin _ _) ?_
  refine ccons (cont_sald _ _ _) ?_
  refine ccons (cont_if_eq _ _) ?_
  refine ccons (cont_push _ _) ?_
  refine ccons (cont_goto _) ?_
  refine ccons (cont_push _ _) ?_
  refine ccons (cont_aload _ _) ?_
  refine ccons (cont_iload _ _) ?_
  refine ccons (cont_push _ _) ?_
  refine ccons (cont_bin _ _) ?_
  refine ccons (cont_sald _ _ _) ?_
  refine ccons (cont_if_eq _ _) ?_
  refine ccons (cont_push _ _) ?_
  refine ccons (cont_goto _) ?_
  refine ccons (cont_push _ _) ?_
  refine ccons (cont_callV _ _ _ _) ?_
  refine ccons (cont_c_eq _ _) ?_
  refine ccons (cont_push _ _) ?_
  refine ccons (cont_lret) ?_
  refine ccons (cont_aload _ _) ?_
  refine ccons (cont_aload _ _) ?_
  refine ccons (cont_iload _ _) ?_
  refine ccons (cont_push _ _) ?_
  refine ccons (cont_bin _ _) ?_
  refine ccons (cont_sald _ _ _) ?_
  refine ccons (cont_aload _ _) ?_
  refine ccons (cont_iload _ _) ?_
  refine ccons (cont_push _ _) ?_
  refine ccons (cont_bin _ _) ?_
  refine ccons (cont_sald _ _ _) ?_
  refine ccons (cont_if_eq _ _) ?_
  refine ccons (cont_push _ _) ?_
  refine ccons (cont_goto _) ?_
  refine ccons (cont_push _ _) ?_
  refine ccons (cont_aload _ _) ?_
  refine ccons (cont_iload _ _) ?_
  refine ccons (cont_push _ _) ?_
  refine ccons (cont_bin _ _) ?_
  refine ccons (cont_sald _ _ _) ?_
  refine ccons (cont_aload _ _) ?_
  refine ccons (cont_iload _ _) ?_
  refine ccons (cont_push _ _) ?_
  refine ccons (cont_bin _ _) ?_
  refine ccons (cont_sald _ _ _) ?_
  refine ccons (cont_aload _ _) ?_
  refine ccons (cont_iload _ _) ?_
  refine ccons (cont_push _ _) ?_
  refine ccons (cont_bin _ _) ?_
  refine ccons (cont_sald _ _ _) ?_
  refine ccons (cont_aload _ _) ?_
  refine ccons (cont_iload _ _) ?_
  refine ccons (cont_push _ _) ?_
  refine ccons (cont_bin _ _) ?_
  refine ccons (cont_sald _ _ _) ?_
  refine ccons (cont_aload _ _) ?_
  refine ccons (cont_iload _ _) ?_
  refine ccons (cont_push _ _) ?_
  refine ccons (cont_bin _ _) ?_
  refine ccons (cont_sald _ _ _) ?_
  refine ccons (cont_aload _ _) ?_
  refine ccons (cont_iload _ _) ?_
  refine ccons (cont_push _ _) ?_
  refine ccons (cont_bin _ _) ?_
  refine ccons (cont_sald _ _ _) ?_
  refine ccons (cont_callV _ _ _ _) ?_
  refine ccons (cont_aload _ _) ?_
  refine ccons (cont_aload _ _) ?_
  refine ccons (cont_iload _ _) ?_
  refine ccons (cont_push _ _) ?_
  refine ccons (cont_bin _ _) ?_
  refine ccons (cont_sald _ _ _) ?_
  refine ccons (cont_aload _ _) ?_
  refine ccons (cont_iload _ _) ?_
  refine ccons (cont_push _ _) ?_
  refine ccons (cont_bin _ _) ?_
  refine ccons (cont_sald _ _ _) ?_
  refine ccons (cont_if_eq _ _) ?_
  refine ccons (cont_push _ _) ?_
  refine ccons (cont_goto _) ?_
  refine ccons (cont_push _ _) ?_
  refine ccons (cont_aload _ _) ?_
  refine ccons (cont_iload _ _) ?_
  refine ccons (cont_push _ _) ?_
  refine ccons (cont_bin _ _) ?_
  refine ccons (cont_sald _ _ _) ?_
  refine ccons (cont_aload _ _) ?_
  refine ccons (cont_iload _ _) ?_
  refine ccons (cont_push _ _) ?_
  refine ccons (cont_bin _ _) ?_
  refine ccons (cont_sald _ _ _) ?_
  refine ccons (cont_aload _ _) ?_
  refine ccons (cont_iload _ _) ?_
  refine ccons (cont_push _ _) ?_
  refine ccons (cont_bin _ _) ?_
  refine ccons (cont_sald _ _ _) ?_
  refine ccons (cont_aload _ _) ?_
  refine ccons (cont_iload _ _) ?_
  refine ccons (cont_push _ _) ?_
  refine ccons (cont_bin _ _) ?_
  refine ccons (cont_sald _ _ _) ?_
  refine ccons (cont_aload _ _) ?_
  refine ccons (cont_iload _ _) ?_
  refine ccons (cont_push _ _) ?_
  refine ccons (cont_bin _ _) ?_
  refine ccons (cont_sald _ _ _) ?_
  refine ccons (cont_aload _ _) ?_
  refine ccons (cont_iload _ _) ?_
  refine ccons (cont_push _ _) ?_
  refine ccons (cont_bin _ _) ?_
  refine ccons (cont_sald _ _ _) ?_
  refine ccons (cont_callV _ _ _ _) ?_
  refine ccons (cont_c_eq _ _) ?_
  refine ccons (cont_push _ _) ?_
  refine ccons (cont_lret) ?_
  refine ccons (cont_aload _ _) ?_
  refine ccons (cont_aload _ _) ?_
  refine ccons (cont_iload _ _) ?_
  refine ccons (cont_push _ _) ?_
  refine ccons (cont_bin _ _) ?_
  refine ccons (cont_sald _ _ _) ?_
  refine ccons (cont_aload _ _) ?_
  refine ccons (cont_iload _ _) ?_
  refine ccons (cont_push _ _) ?_
  refine ccons (cont_bin _ _) ?_
  refine ccons (cont_sald _ _ _) ?_
  refine ccons (cont_aload _ _) ?_
  refine ccons (cont_iload _ _) ?_
  refine ccons (cont_push _ _) ?_
  refine ccons (cont_bin _ _) ?_
  refine ccons (cont_sald _ _ _) ?_
  refine ccons (cont_callV _ _ _ _) ?_
  refine ccons (cont_aload _ _) ?_
  refine ccons (cont_aload _ _) ?_
  refine ccons (cont_iload _ _) ?_
  refine ccons (cont_push _ _) ?_
  refine ccons (cont_bin _ _) ?_
  refine ccons (cont_sald _ _ _) ?_
  refine ccons (cont_aload _ _) ?_
  refine ccons (cont_iload _ _) ?_
  refine ccons (cont_push _ _) ?_
  refine ccons (cont_bin _ _) ?_
  refine ccons (cont_sald _ _ _) ?_
  refine ccons (cont_aload _ _) ?_
  refine ccons (cont_iload _ _) ?_
  refine ccons (cont_push _ _) ?_
  refine ccons (cont_bin _ _) ?_
  refine ccons (cont_sald _ _ _) ?_
  refine ccons (cont_callV _ _ _ _) ?_
  refine ccons (cont_c_eq _ _) ?_
  refine ccons (cont_push _ _) ?_
  refine ccons (cont_lret) ?_
  refine ccons (cont_aload _ _) ?_
  refine ccons (cont_aload _ _) ?_
  refine ccons (cont_iload _ _) ?_
  refine ccons (cont_push _ _) ?_
  refine ccons (cont_bin _ _) ?_
  refine ccons (cont_sald _ _ _) ?_
  refine ccons (cont_aload _ _) ?_
  refine ccons (cont_iload _ _) ?_
  refine ccons (cont_push _ _) ?_
  refine ccons (cont_bin _ _) ?_
  refine ccons (cont_sald _ _ _) ?_
  refine ccons (cont_aload _ _) ?_
  refine ccons (cont_iload _ _) ?_
  refine ccons (cont_push _ _) ?_
  refine ccons (cont_bin _ _) ?_
  refine ccons (cont_sald _ _ _) ?_
  refine ccons (cont_callV _ _ _ _) ?_
  refine ccons (cont_aload _ _) ?_
  refine ccons (cont_aload _ _) ?_
  refine ccons (cont_iload _ _) ?_
  refine ccons (cont_push _ _) ?_
  refine ccons (cont_bin _ _) ?_
  refine ccons (cont_sald _ _ _) ?_
  refine ccons (cont_aload _ _) ?_
  refine ccons (cont_iload _ _) ?_
  refine ccons (cont_push _ _) ?_
  refine ccons (cont_bin _ _) ?_
  refine ccons (cont_sald _ _ _) ?_
  refine ccons (cont_aload _ _) ?_
  refine ccons (cont_iload _ _) ?_
  refine ccons (cont_push _ _) ?_
  refine ccons (cont_bin _ _) ?_
  refine ccons (cont_sald _ _ _) ?_
  refine ccons (cont_callV _ _ _ _) ?_
  refine ccons (cont_c_eq _ _) ?_
  refine ccons (cont_push _ _) ?_
  refine ccons (cont_lret) ?_
  refine ccons (cont_aload _ _) ?_
  refine ccons (cont_callV _ _ _ _) ?_
  refine ccons (cont_aload _ _) ?_
  refine ccons (cont_callV _ _ _ _) ?_
  refine ccons (cont_c_eq _ _) ?_
  refine ccons (cont_push _ _) ?_
  refine ccons (cont_lret) ?_
  refine ccons (cont_aload _ _) ?_
  refine ccons (cont_aload _ _) ?_
  refine ccons (cont_iload _ _) ?_
  refine ccons (cont_push _ _) ?_
  refine ccons (cont_bin _ _) ?_
  refine ccons (cont_sald _ _ _) ?_
  refine ccons (cont_aload _ _) ?_
  refine ccons (cont_iload _ _) ?_
  refine ccons (cont_push _ _) ?_
  refine ccons (cont_bin _ _) ?_
  refine ccons (cont_sald _ _ _) ?_
  refine ccons (cont_callV _ _ _ _) ?_
  refine ccons (cont_aload _ _) ?_
  refine ccons (cont_aload _ _) ?_
  refine ccons (cont_iload _ _) ?_
  refine ccons (cont_push _ _) ?_
  refine ccons (cont_bin _ _) ?_
  refine ccons (cont_sald _ _ _) ?_
  refine ccons (cont_aload _ _) ?_
  refine ccons (cont_iload _ _) ?_
  refine ccons (cont_push _ _) ?_
  refine ccons (cont_bin _ _) ?_
  refine ccons (cont_sald _ _ _) ?_
  refine ccons (cont_callV _ _ _ _) ?_
  refine ccons (cont_c_eq _ _) ?_
  refine ccons (cont_push _ _) ?_
  refine ccons (cont_lret) ?_
  refine ccons (cont_aload _ _) ?_
  refine ccons (cont_callV _ _ _ _) ?_
  refine ccons (cont_aload _ _) ?_
  refine ccons (cont_callV _ _ _ _) ?_
  refine ccons (cont_c_eq _ _) ?_
  refine ccons (cont_push _ _) ?_
  refine ccons (cont_lret) ?_
  refine ccons (cont_aload _ _) ?_
  refine ccons (cont_callV _ _ _ _) ?_
  refine ccons (cont_aload _ _) ?_
  refine ccons (cont_callV _ _ _ _) ?_
  refine ccons (cont_c_eq _ _) ?_
  refine ccons (cont_push _ _) ?_
  refine ccons (cont_lret) ?_
  refine ccons (cont_aload _ _) ?_
  refine ccons (cont_aload _ _) ?_
  refine ccons (cont_iload _ _) ?_
  refine ccons (cont_push _ _) ?_
  refine ccons (cont_bin _ _) ?_
  refine ccons (cont_sald _ _ _) ?_
  refine ccons (cont_callV _ _ _ _) ?_
  refine ccons (cont_aload _ _) ?_
  refine ccons (cont_aload _ _) ?_
  refine ccons (cont_iload _ _) ?_
  refine ccons (cont_push _ _) ?_
  refine ccons (cont_bin _ _) ?_
  refine ccons (cont_sald _ _ _) ?_
  refine ccons (cont_callV _ _ _ _) ?_
  refine ccons (cont_c_eq _ _) ?_
  refine ccons (cont_push _ _) ?_
  refine ccons (cont_lret) ?_
  refine ccons (cont_aload _ _) ?_
  refine ccons (cont_aload _ _) ?_
  refine ccons (cont_iload _ _) ?_
  refine ccons (cont_push _ _) ?_
  refine ccons (cont_bin _ _) ?_
  refine ccons (cont_sald _ _ _) ?_
  refine ccons (cont_callV _ _ _ _) ?_
  refine ccons (cont_aload _ _) ?_
  refine ccons (cont_aload _ _) ?_
  refine ccons (cont_iload _ _) ?_
  refine ccons (cont_push _ _) ?_
  refine ccons (cont_bin _ _) ?_
  refine ccons (cont_sald _ _ _) ?_
  refine ccons (cont_callV _ _ _ _) ?_
  refine ccons (cont_c_eq _ _) ?_
  refine ccons (cont_push _ _) ?_
  refine ccons (cont_lret) ?_
  refine ccons (cont_aload _ _) ?_
  refine ccons (cont_aload _ _) ?_
  refine ccons (cont_iload _ _) ?_
  refine ccons (cont_push _ _) ?_
  refine ccons (cont_bin _ _) ?_
  refine ccons (cont_sald _ _ _) ?_
  refine ccons (cont_aload _ _) ?_
  refine ccons (cont_iload _ _) ?_
  refine ccons (cont_push _ _) ?_
  refine ccons (cont_bin _ _) ?_
  refine ccons (cont_sald _ _ _) ?_
  refine ccons (cont_callV _ _ _ _) ?_
  refine ccons (cont_aload _ _) ?_
  refine ccons (cont_aload _ _) ?_
  refine ccons (cont_iload _ _) ?_
  refine ccons (cont_push _ _) ?_
  refine ccons (cont_bin _ _) ?_
  refine ccons (cont_sald _ _ _) ?_
  refine ccons (cont_aload _ _) ?_
  refine ccons (cont_iload _ _) ?_
  refine ccons (cont_push _ _) ?_
  refine ccons (cont_bin _ _) ?_
  refine ccons (cont_sald _ _ _) ?_
  refine ccons (cont_callV _ _ _ _) ?_
  refine ccons (cont_c_eq _ _) ?_
  refine ccons (cont_push _ _) ?_
  refine ccons (cont_lret) ?_
  refine ccons (cont_aload _ _) ?_
  refine ccons (cont_callV _ _ _ _) ?_
  refine ccons (cont_aload _ _) ?_
  refine ccons (cont_callV _ _ _ _) ?_
  refine ccons (cont_c_eq _ _) ?_
  refine ccons (cont_push _ _) ?_
  refine ccons (cont_lret) ?_
  refine ccons (cont_aload _ _) ?_
  refine ccons (cont_callV _ _ _ _) ?_
  refine ccons (cont_aload _ _) ?_
  refine ccons (cont_callV _ _ _ _) ?_
  refine ccons (cont_c_eq _ _) ?_
  refine ccons (cont_push _ _) ?_
  refine ccons (cont_lret) ?_
  refine ccons (cont_iinc _ _ _) ?_
  refine ccons (cont_goto _) ?_
  refine ccons (cont_push _ _) ?_
  refine ccons (cont_lret) ?_
  exact cnil
noncomputable def gL (L : Nat) (xs : Nat → Int32) : KT := mev (zlook (tL_law L xs))
theorem gl_step (L : Nat) (xs : Nat → Int32) (pc : Nat) (ls : List (Option AV)) (st : List AV) (M : MM) : gL L xs pc ls st M = match zlook (tL_law L xs) pc with
  | some a => a (gL L xs) ls st M
  | none => none := mev_step (ctab (ctL L xs)) pc ls st M
theorem gl_by {L : Nat} {xs : Nat → Int32} {pc : Nat} {ls : List (Option AV)} {st : List AV} {M : MM} {a : AI} (h : zlook (tL_law L xs) pc = some a) : gL L xs pc ls st M = a (gL L xs) ls st M := by
  rw [gl_step, h]
def lsL (a : Nat) : List (Option AV) := [some (.inr (some 100)), some (.inr (some 0)), some (.inr (some 19)), some (.inl (nI a))]
theorem gl_al1 {L a pc nx : Nat} {xs : Nat → Int32} {st : List AV} {M : MM} (h : zlook (tL_law L xs) pc = some (a_aload nx 1)) : gL L xs pc (lsL a) st M = gL L xs nx (lsL a) (.inr (some 0) :: st) M := gl_by h
theorem gl_al2 {L a pc nx : Nat} {xs : Nat → Int32} {st : List AV} {M : MM} (h : zlook (tL_law L xs) pc = some (a_aload nx 2)) : gL L xs pc (lsL a) st M = gL L xs nx (lsL a) (.inr (some 19) :: st) M := gl_by h
theorem gl_al0 {L a pc nx : Nat} {xs : Nat → Int32} {st : List AV} {M : MM} (h : zlook (tL_law L xs) pc = some (a_aload nx 0)) : gL L xs pc (lsL a) st M = gL L xs nx (lsL a) (.inr (some 100) :: st) M := gl_by h
theorem gl_il {L a pc nx : Nat} {xs : Nat → Int32} {st : List AV} {M : MM} (h : zlook (tL_law L xs) pc = some (a_iload nx 3)) : gL L xs pc (lsL a) st M = gL L xs nx (lsL a) (.inl (nI a) :: st) M := gl_by h
theorem gl_sa {L a i pc nx : Nat} {xs : Nat → Int32} {st : List AV} {M : MM} (h : zlook (tL_law L xs) pc = some (a_sald nx L xs)) (hi : i < L) (hL : L ≤ 4608) : gL L xs pc (lsL a) (.inl (nI i) :: .inr (some 100) :: st) M = gL L xs nx (lsL a) (.inl (xs i) :: st) M := by
  have g := gI (c := i) (N := L) hi (by omega)
  rw [gl_by h]
  show (if 100 = 100 then (if nI i < 0 ∨ L ≤ (nI i).toNatClampNeg then none else gL L xs nx (lsL a) (.inl (xs (nI i).toNatClampNeg) :: st) M) else none) = _
  rw [if_pos rfl, q_cl (by omega), if_neg g]
theorem gl_ld {L a c p0 p1 p2 p3 p4 nx : Nat} {xs : Nat → Int32} {st : List AV} {M : MM} (h0 : zlook (tL_law L xs) p0 = some (a_aload p1 0)) (h1 : zlook (tL_law L xs) p1 = some (a_iload p2 3)) (h2 : zlook (tL_law L xs) p2 = some (a_push p3 (.inl (nI c)))) (h3 : zlook (tL_law L xs) p3 = some (a_bin p4 (fun x y => x + y))) (h4 : zlook (tL_law L xs) p4 = some (a_sald nx L xs)) (hc : a + c < L) (hL : L ≤ 4608) : gL L xs p0 (lsL a) st M = gL L xs nx (lsL a) (.inl (xs (a + c)) :: st) M := by
  rw [gl_al0 h0, gl_il h1, gl_by h2]
  show gL L xs p3 (lsL a) (.inl (nI c) :: .inl (nI a) :: .inr (some 100) :: st) M = _
  rw [gl_by h3]
  show gL L xs p4 (lsL a) (.inl (nI a + nI c) :: .inr (some 100) :: st) M = _
  rw [q_add]
  exact gl_sa h4 hc hL
theorem gl_bo {L p0 p1 p2 tg nx : Nat} {xs : Nat → Int32} {ls : List (Option AV)} {st : List AV} {M : MM} {x : Int32} (h0 : zlook (tL_law L xs) p0 = some (a_if_eq p1 tg)) (h1 : zlook (tL_law L xs) p1 = some (a_push p2 (.inl 1))) (h2 : zlook (tL_law L xs) p2 = some (a_goto nx)) (h3 : zlook (tL_law L xs) tg = some (a_push nx (.inl 0))) : gL L xs p0 ls (.inl x :: st) M = gL L xs nx ls (.inl (if x = 0 then 0 else 1) :: st) M := by
  rw [gl_by h0]
  show (if x = 0 then gL L xs tg ls st M else gL L xs p1 ls st M) = _
  by_cases h : x = 0
  · rw [if_pos h, if_pos h]
    exact gl_by h3
  · rw [if_neg h, if_neg h, gl_by h1]
    exact gl_by h2
theorem gl_call {L pc nx n ci c : Nat} {xs : Nat → Int32} {ls : List (Option AV)} {st st' : List AV} {M M1 : MM} {v : Int32} {sem : List AV → MM → Option AR} (h : zlook (tL_law L xs) pc = some (a_callV nx n ci sem)) (hs : sem (.inr (some c) :: (st.take n).reverse) M = some (some (.inl v), M1)) (hz : zkd c = ci) (hd : st.drop n = .inr (some c) :: st') (hl : st'.length ≤ 8) : gL L xs pc ls st M = gL L xs nx ls (.inl v :: st') M1 := by
  rw [gl_by h]
  unfold a_callV
  rw [hd]
  dsimp only
  rw [if_pos hz, if_pos hl, hs]
  rfl
theorem gl_eq {L pc nx t : Nat} {xs : Nat → Int32} {ls : List (Option AV)} {st : List AV} {M : MM} {v : Int32} (h : zlook (tL_law L xs) pc = some (a_c_eq nx t)) : gL L xs pc ls (.inl v :: .inl v :: st) M = gL L xs t ls st M := by
  rw [gl_by h]
  show (if v = v then _ else _) = _
  rw [if_pos rfl]
theorem law_digits {L a : Nat} {xs : Nat → Int32} {M M1 M2 : MM} {v : Int32} (hL : L ≤ 4608) (ha : a + 9 ≤ L) (h9 : mX9_digits [.inr (some 0), .inl (xs (a + 1)), .inl (xs (a + 2)), .inl (if xs (a + 3) = 0 then 0 else 1), .inl (if xs (a + 4) = 0 then 0 else 1)] M = some (some (.inl v), M1)) (h10 : mX10_digits [.inr (some 19), .inl (xs (a + 1)), .inl (xs (a + 2)), .inl (if xs (a + 3) = 0 then 0 else 1), .inl (if xs (a + 4) = 0 then 0 else 1)] M1 = some (some (.inl v), M2)) : gL L xs 100 (lsL a) [] M = gL L xs 563 (lsL a) [] M2 := by
  rw [gl_al1 (zk_100 L xs)]
  rw [gl_ld (c := 1) (zk_101 L xs) (zk_102 L xs) (zk_103 L xs) (zk_104 L xs) (zk_105 L xs) (show a + 1 < L by omega) hL]
  rw [gl_ld (c := 2) (zk_106 L xs) (zk_107 L xs) (zk_108 L xs) (zk_109 L xs) (zk_110 L xs) (show a + 2 < L by omega) hL]
  rw [gl_ld (c := 3) (zk_111 L xs) (zk_112 L xs) (zk_113 L xs) (zk_114 L xs) (zk_115 L xs) (show a + 3 < L by omega) hL]
  rw [gl_bo (zk_116 L xs) (zk_119 L xs) (zk_120 L xs) (zk_123 L xs)]
  rw [gl_ld (c := 4) (zk_124 L xs) (zk_125 L xs) (zk_126 L xs) (zk_127 L xs) (zk_128 L xs) (show a + 4 < L by omega) hL]
  rw [gl_bo (zk_129 L xs) (zk_132 L xs) (zk_133 L xs) (zk_136 L xs)]
  rw [gl_call (st := [.inl (if xs (a + 4) = 0 then 0 else 1), .inl (if xs (a + 3) = 0 then 0 else 1), .inl (xs (a + 2)), .inl (xs (a + 1)), .inr (some 0)]) (st' := []) (zk_137 L xs) h9 (show zkd 0 = 8 from rfl) rfl (Nat.le_of_ble_eq_true rfl)]
  rw [gl_al2 (zk_140 L xs)]
  rw [gl_ld (c := 1) (zk_141 L xs) (zk_142 L xs) (zk_143 L xs) (zk_144 L xs) (zk_145 L xs) (show a + 1 < L by omega) hL]
  rw [gl_ld (c := 2) (zk_146 L xs) (zk_147 L xs) (zk_148 L xs) (zk_149 L xs) (zk_150 L xs) (show a + 2 < L by omega) hL]
  rw [gl_ld (c := 3) (zk_151 L xs) (zk_152 L xs) (zk_153 L xs) (zk_154 L xs) (zk_155 L xs) (show a + 3 < L by omega) hL]
  rw [gl_bo (zk_156 L xs) (zk_159 L xs) (zk_160 L xs) (zk_163 L xs)]
  rw [gl_ld (c := 4) (zk_164 L xs) (zk_165 L xs) (zk_166 L xs) (zk_167 L xs) (zk_168 L xs) (show a + 4 < L by omega) hL]
  rw [gl_bo (zk_169 L xs) (zk_172 L xs) (zk_173 L xs) (zk_176 L xs)]
  rw [gl_call (st := [.inl (if xs (a + 4) = 0 then 0 else 1), .inl (if xs (a + 3) = 0 then 0 else 1), .inl (xs (a + 2)), .inl (xs (a + 1)), .inr (some 19), .inl v]) (st' := [.inl v]) (zk_177 L xs) h10 (show zkd 19 = 9 from rfl) rfl (Nat.le_of_ble_eq_true rfl)]
  rw [gl_eq (zk_180 L xs)]
theorem law_choice {L a : Nat} {xs : Nat → Int32} {M M1 M2 : MM} {v : Int32} (hL : L ≤ 4608) (ha : a + 9 ≤ L) (h9 : mX9_choice [.inr (some 0), .inl (xs (a + 1)), .inl (if xs (a + 2) = 0 then 0 else 1), .inl (xs (a + 3)), .inl (xs (a + 4)), .inl (xs (a + 5)), .inl (xs (a + 6)), .inl (xs (a + 7)), .inl (xs (a + 8))] M = some (some (.inl v), M1)) (h10 : mX10_choice [.inr (some 19), .inl (xs (a + 1)), .inl (if xs (a + 2) = 0 then 0 else 1), .inl (xs (a + 3)), .inl (xs (a + 4)), .inl (xs (a + 5)), .inl (xs (a + 6)), .inl (xs (a + 7)), .inl (xs (a + 8))] M1 = some (some (.inl v), M2)) : gL L xs 185 (lsL a) [] M = gL L xs 563 (lsL a) [] M2 := by
  rw [gl_al1 (zk_185 L xs)]
  rw [gl_ld (c := 1) (zk_186 L xs) (zk_187 L xs) (zk_188 L xs) (zk_189 L xs) (zk_190 L xs) (show a + 1 < L by omega) hL]
  rw [gl_ld (c := 2) (zk_191 L xs) (zk_192 L xs) (zk_193 L xs) (zk_194 L xs) (zk_195 L xs) (show a + 2 < L by omega) hL]
  rw [gl_bo (zk_196 L xs) (zk_199 L xs) (zk_200 L xs) (zk_203 L xs)]
  rw [gl_ld (c := 3) (zk_204 L xs) (zk_205 L xs) (zk_206 L xs) (zk_207 L xs) (zk_208 L xs) (show a + 3 < L by omega) hL]
  rw [gl_ld (c := 4) (zk_209 L xs) (zk_210 L xs) (zk_211 L xs) (zk_212 L xs) (zk_213 L xs) (show a + 4 < L by omega) hL]
  rw [gl_ld (c := 5) (zk_214 L xs) (zk_215 L xs) (zk_216 L xs) (zk_217 L xs) (zk_218 L xs) (show a + 5 < L by omega) hL]
  rw [gl_ld (c := 6) (zk_219 L xs) (zk_220 L xs) (zk_221 L xs) (zk_223 L xs) (zk_224 L xs) (show a + 6 < L by omega) hL]
  rw [gl_ld (c := 7) (zk_225 L xs) (zk_226 L xs) (zk_227 L xs) (zk_229 L xs) (zk_230 L xs) (show a + 7 < L by omega) hL]
  rw [gl_ld (c := 8) (zk_231 L xs) (zk_232 L xs) (zk_233 L xs) (zk_235 L xs) (zk_236 L xs) (show a + 8 < L by omega) hL]
  rw [gl_call (st := [.inl (xs (a + 8)), .inl (xs (a + 7)), .inl (xs (a + 6)), .inl (xs (a + 5)), .inl (xs (a + 4)), .inl (xs (a + 3)), .inl (if xs (a + 2) = 0 then 0 else 1), .inl (xs (a + 1)), .inr (some 0)]) (st' := []) (zk_237 L xs) h9 (show zkd 0 = 8 from rfl) rfl (Nat.le_of_ble_eq_true rfl)]
  rw [gl_al2 (zk_240 L xs)]
  rw [gl_ld (c := 1) (zk_241 L xs) (zk_242 L xs) (zk_243 L xs) (zk_244 L xs) (zk_245 L xs) (show a + 1 < L by omega) hL]
  rw [gl_ld (c := 2) (zk_246 L xs) (zk_247 L xs) (zk_248 L xs) (zk_249 L xs) (zk_250 L xs) (show a + 2 < L by omega) hL]
  rw [gl_bo (zk_251 L xs) (zk_254 L xs) (zk_255 L xs) (zk_258 L xs)]
  rw [gl_ld (c := 3) (zk_259 L xs) (zk_260 L xs) (zk_261 L xs) (zk_262 L xs) (zk_263 L xs) (show a + 3 < L by omega) hL]
  rw [gl_ld (c := 4) (zk_264 L xs) (zk_265 L xs) (zk_266 L xs) (zk_267 L xs) (zk_268 L xs) (show a + 4 < L by omega) hL]
  rw [gl_ld (c := 5) (zk_269 L xs) (zk_270 L xs) (zk_271 L xs) (zk_272 L xs) (zk_273 L xs) (show a + 5 < L by omega) hL]
  rw [gl_ld (c := 6) (zk_274 L xs) (zk_275 L xs) (zk_276 L xs) (zk_278 L xs) (zk_279 L xs) (show a + 6 < L by omega) hL]
  rw [gl_ld (c := 7) (zk_280 L xs) (zk_281 L xs) (zk_282 L xs) (zk_284 L xs) (zk_285 L xs) (show a + 7 < L by omega) hL]
  rw [gl_ld (c := 8) (zk_286 L xs) (zk_287 L xs) (zk_288 L xs) (zk_290 L xs) (zk_291 L xs) (show a + 8 < L by omega) hL]
  rw [gl_call (st := [.inl (xs (a + 8)), .inl (xs (a + 7)), .inl (xs (a + 6)), .inl (xs (a + 5)), .inl (xs (a + 4)), .inl (xs (a + 3)), .inl (if xs (a + 2) = 0 then 0 else 1), .inl (xs (a + 1)), .inr (some 19), .inl v]) (st' := [.inl v]) (zk_292 L xs) h10 (show zkd 19 = 9 from rfl) rfl (Nat.le_of_ble_eq_true rfl)]
  rw [gl_eq (zk_295 L xs)]
theorem law_needs {L a : Nat} {xs : Nat → Int32} {M M1 M2 : MM} {v : Int32} (hL : L ≤ 4608) (ha : a + 9 ≤ L) (h9 : mX9_needs [.inr (some 0), .inl (xs (a + 1)), .inl (xs (a + 2)), .inl (xs (a + 3))] M = some (some (.inl v), M1)) (h10 : mX10_needs [.inr (some 19), .inl (xs (a + 1)), .inl (xs (a + 2)), .inl (xs (a + 3))] M1 = some (some (.inl v), M2)) : gL L xs 300 (lsL a) [] M = gL L xs 563 (lsL a) [] M2 := by
  rw [gl_al1 (zk_300 L xs)]
  rw [gl_ld (c := 1) (zk_301 L xs) (zk_302 L xs) (zk_303 L xs) (zk_304 L xs) (zk_305 L xs) (show a + 1 < L by omega) hL]
  rw [gl_ld (c := 2) (zk_306 L xs) (zk_307 L xs) (zk_308 L xs) (zk_309 L xs) (zk_310 L xs) (show a + 2 < L by omega) hL]
  rw [gl_ld (c := 3) (zk_311 L xs) (zk_312 L xs) (zk_313 L xs) (zk_314 L xs) (zk_315 L xs) (show a + 3 < L by omega) hL]
  rw [gl_call (st := [.inl (xs (a + 3)), .inl (xs (a + 2)), .inl (xs (a + 1)), .inr (some 0)]) (st' := []) (zk_316 L xs) h9 (show zkd 0 = 8 from rfl) rfl (Nat.le_of_ble_eq_true rfl)]
  rw [gl_al2 (zk_319 L xs)]
  rw [gl_ld (c := 1) (zk_320 L xs) (zk_321 L xs) (zk_322 L xs) (zk_323 L xs) (zk_324 L xs) (show a + 1 < L by omega) hL]
  rw [gl_ld (c := 2) (zk_325 L xs) (zk_326 L xs) (zk_327 L xs) (zk_328 L xs) (zk_329 L xs) (show a + 2 < L by omega) hL]
  rw [gl_ld (c := 3) (zk_330 L xs) (zk_331 L xs) (zk_332 L xs) (zk_333 L xs) (zk_334 L xs) (show a + 3 < L by omega) hL]
  rw [gl_call (st := [.inl (xs (a + 3)), .inl (xs (a + 2)), .inl (xs (a + 1)), .inr (some 19), .inl v]) (st' := [.inl v]) (zk_335 L xs) h10 (show zkd 19 = 9 from rfl) rfl (Nat.le_of_ble_eq_true rfl)]
  rw [gl_eq (zk_338 L xs)]
theorem law_costs {L a : Nat} {xs : Nat → Int32} {M M1 M2 : MM} {v : Int32} (hL : L ≤ 4608) (ha : a + 9 ≤ L) (h9 : mX9_costs [.inr (some 0), .inl (xs (a + 1)), .inl (xs (a + 2)), .inl (xs (a + 3))] M = some (some (.inl v), M1)) (h10 : mX10_costs [.inr (some 19), .inl (xs (a + 1)), .inl (xs (a + 2)), .inl (xs (a + 3))] M1 = some (some (.inl v), M2)) : gL L xs 343 (lsL a) [] M = gL L xs 563 (lsL a) [] M2 := by
  rw [gl_al1 (zk_343 L xs)]
  rw [gl_ld (c := 1) (zk_344 L xs) (zk_345 L xs) (zk_346 L xs) (zk_347 L xs) (zk_348 L xs) (show a + 1 < L by omega) hL]
  rw [gl_ld (c := 2) (zk_349 L xs) (zk_350 L xs) (zk_351 L xs) (zk_352 L xs) (zk_353 L xs) (show a + 2 < L by omega) hL]
  rw [gl_ld (c := 3) (zk_354 L xs) (zk_355 L xs) (zk_356 L xs) (zk_357 L xs) (zk_358 L xs) (show a + 3 < L by omega) hL]
  rw [gl_call (st := [.inl (xs (a + 3)), .inl (xs (a + 2)), .inl (xs (a + 1)), .inr (some 0)]) (st' := []) (zk_359 L xs) h9 (show zkd 0 = 8 from rfl) rfl (Nat.le_of_ble_eq_true rfl)]
  rw [gl_al2 (zk_362 L xs)]
  rw [gl_ld (c := 1) (zk_363 L xs) (zk_364 L xs) (zk_365 L xs) (zk_366 L xs) (zk_367 L xs) (show a + 1 < L by omega) hL]
  rw [gl_ld (c := 2) (zk_368 L xs) (zk_369 L xs) (zk_370 L xs) (zk_371 L xs) (zk_372 L xs) (show a + 2 < L by omega) hL]
  rw [gl_ld (c := 3) (zk_373 L xs) (zk_374 L xs) (zk_375 L xs) (zk_376 L xs) (zk_377 L xs) (show a + 3 < L by omega) hL]
  rw [gl_call (st := [.inl (xs (a + 3)), .inl (xs (a + 2)), .inl (xs (a + 1)), .inr (some 19), .inl v]) (st' := [.inl v]) (zk_378 L xs) h10 (show zkd 19 = 9 from rfl) rfl (Nat.le_of_ble_eq_true rfl)]
  rw [gl_eq (zk_381 L xs)]
theorem law_place {L a : Nat} {xs : Nat → Int32} {M M1 M2 : MM} {v : Int32} (hL : L ≤ 4608) (ha : a + 9 ≤ L) (h9 : mX9_place [.inr (some 0)] M = some (some (.inl v), M1)) (h10 : mX10_place [.inr (some 19)] M1 = some (some (.inl v), M2)) : gL L xs 386 (lsL a) [] M = gL L xs 563 (lsL a) [] M2 := by
  rw [gl_al1 (zk_386 L xs)]
  rw [gl_call (st := [.inr (some 0)]) (st' := []) (zk_387 L xs) h9 (show zkd 0 = 8 from rfl) rfl (Nat.le_of_ble_eq_true rfl)]
  rw [gl_al2 (zk_390 L xs)]
  rw [gl_call (st := [.inr (some 19), .inl v]) (st' := [.inl v]) (zk_391 L xs) h10 (show zkd 19 = 9 from rfl) rfl (Nat.le_of_ble_eq_true rfl)]
  rw [gl_eq (zk_394 L xs)]
theorem law_word {L a : Nat} {xs : Nat → Int32} {M M1 M2 : MM} {v : Int32} (hL : L ≤ 4608) (ha : a + 9 ≤ L) (h9 : mX9_word [.inr (some 0), .inl (xs (a + 1)), .inl (xs (a + 2))] M = some (some (.inl v), M1)) (h10 : mX10_word [.inr (some 19), .inl (xs (a + 1)), .inl (xs (a + 2))] M1 = some (some (.inl v), M2)) : gL L xs 399 (lsL a) [] M = gL L xs 563 (lsL a) [] M2 := by
  rw [gl_al1 (zk_399 L xs)]
  rw [gl_ld (c := 1) (zk_400 L xs) (zk_401 L xs) (zk_402 L xs) (zk_403 L xs) (zk_404 L xs) (show a + 1 < L by omega) hL]
  rw [gl_ld (c := 2) (zk_405 L xs) (zk_406 L xs) (zk_407 L xs) (zk_408 L xs) (zk_409 L xs) (show a + 2 < L by omega) hL]
  rw [gl_call (st := [.inl (xs (a + 2)), .inl (xs (a + 1)), .inr (some 0)]) (st' := []) (zk_410 L xs) h9 (show zkd 0 = 8 from rfl) rfl (Nat.le_of_ble_eq_true rfl)]
  rw [gl_al2 (zk_413 L xs)]
  rw [gl_ld (c := 1) (zk_414 L xs) (zk_415 L xs) (zk_416 L xs) (zk_417 L xs) (zk_418 L xs) (show a + 1 < L by omega) hL]
  rw [gl_ld (c := 2) (zk_419 L xs) (zk_420 L xs) (zk_421 L xs) (zk_422 L xs) (zk_423 L xs) (show a + 2 < L by omega) hL]
  rw [gl_call (st := [.inl (xs (a + 2)), .inl (xs (a + 1)), .inr (some 19), .inl v]) (st' := [.inl v]) (zk_424 L xs) h10 (show zkd 19 = 9 from rfl) rfl (Nat.le_of_ble_eq_true rfl)]
  rw [gl_eq (zk_427 L xs)]
theorem law_say {L a : Nat} {xs : Nat → Int32} {M M1 M2 : MM} {v : Int32} (hL : L ≤ 4608) (ha : a + 9 ≤ L) (h9 : mX9_say [.inr (some 0)] M = some (some (.inl v), M1)) (h10 : mX10_say [.inr (some 19)] M1 = some (some (.inl v), M2)) : gL L xs 432 (lsL a) [] M = gL L xs 563 (lsL a) [] M2 := by
  rw [gl_al1 (zk_432 L xs)]
  rw [gl_call (st := [.inr (some 0)]) (st' := []) (zk_433 L xs) h9 (show zkd 0 = 8 from rfl) rfl (Nat.le_of_ble_eq_true rfl)]
  rw [gl_al2 (zk_436 L xs)]
  rw [gl_call (st := [.inr (some 19), .inl v]) (st' := [.inl v]) (zk_437 L xs) h10 (show zkd 19 = 9 from rfl) rfl (Nat.le_of_ble_eq_true rfl)]
  rw [gl_eq (zk_440 L xs)]
theorem law_goOn {L a : Nat} {xs : Nat → Int32} {M M1 M2 : MM} {v : Int32} (hL : L ≤ 4608) (ha : a + 9 ≤ L) (h9 : mX9_goOn [.inr (some 0)] M = some (some (.inl v), M1)) (h10 : mX10_goOn [.inr (some 19)] M1 = some (some (.inl v), M2)) : gL L xs 445 (lsL a) [] M = gL L xs 563 (lsL a) [] M2 := by
  rw [gl_al1 (zk_445 L xs)]
  rw [gl_call (st := [.inr (some 0)]) (st' := []) (zk_446 L xs) h9 (show zkd 0 = 8 from rfl) rfl (Nat.le_of_ble_eq_true rfl)]
  rw [gl_al2 (zk_449 L xs)]
  rw [gl_call (st := [.inr (some 19), .inl v]) (st' := [.inl v]) (zk_450 L xs) h10 (show zkd 19 = 9 from rfl) rfl (Nat.le_of_ble_eq_true rfl)]
  rw [gl_eq (zk_453 L xs)]
theorem law_told {L a : Nat} {xs : Nat → Int32} {M M1 M2 : MM} {v : Int32} (hL : L ≤ 4608) (ha : a + 9 ≤ L) (h9 : mX9_told [.inr (some 0), .inl (xs (a + 1))] M = some (some (.inl v), M1)) (h10 : mX10_told [.inr (some 19), .inl (xs (a + 1))] M1 = some (some (.inl v), M2)) : gL L xs 458 (lsL a) [] M = gL L xs 563 (lsL a) [] M2 := by
  rw [gl_al1 (zk_458 L xs)]
  rw [gl_ld (c := 1) (zk_459 L xs) (zk_460 L xs) (zk_461 L xs) (zk_462 L xs) (zk_463 L xs) (show a + 1 < L by omega) hL]
  rw [gl_call (st := [.inl (xs (a + 1)), .inr (some 0)]) (st' := []) (zk_464 L xs) h9 (show zkd 0 = 8 from rfl) rfl (Nat.le_of_ble_eq_true rfl)]
  rw [gl_al2 (zk_467 L xs)]
  rw [gl_ld (c := 1) (zk_468 L xs) (zk_469 L xs) (zk_470 L xs) (zk_471 L xs) (zk_472 L xs) (show a + 1 < L by omega) hL]
  rw [gl_call (st := [.inl (xs (a + 1)), .inr (some 19), .inl v]) (st' := [.inl v]) (zk_473 L xs) h10 (show zkd 19 = 9 from rfl) rfl (Nat.le_of_ble_eq_true rfl)]
  rw [gl_eq (zk_476 L xs)]
theorem law_about {L a : Nat} {xs : Nat → Int32} {M M1 M2 : MM} {v : Int32} (hL : L ≤ 4608) (ha : a + 9 ≤ L) (h9 : mX9_about [.inr (some 0), .inl (xs (a + 1))] M = some (some (.inl v), M1)) (h10 : mX10_about [.inr (some 19), .inl (xs (a + 1))] M1 = some (some (.inl v), M2)) : gL L xs 481 (lsL a) [] M = gL L xs 563 (lsL a) [] M2 := by
  rw [gl_al1 (zk_481 L xs)]
  rw [gl_ld (c := 1) (zk_482 L xs) (zk_483 L xs) (zk_484 L xs) (zk_485 L xs) (zk_486 L xs) (show a + 1 < L by omega) hL]
  rw [gl_call (st := [.inl (xs (a + 1)), .inr (some 0)]) (st' := []) (zk_487 L xs) h9 (show zkd 0 = 8 from rfl) rfl (Nat.le_of_ble_eq_true rfl)]
  rw [gl_al2 (zk_490 L xs)]
  rw [gl_ld (c := 1) (zk_491 L xs) (zk_492 L xs) (zk_493 L xs) (zk_494 L xs) (zk_495 L xs) (show a + 1 < L by omega) hL]
  rw [gl_call (st := [.inl (xs (a + 1)), .inr (some 19), .inl v]) (st' := [.inl v]) (zk_496 L xs) h10 (show zkd 19 = 9 from rfl) rfl (Nat.le_of_ble_eq_true rfl)]
  rw [gl_eq (zk_499 L xs)]
theorem law_field {L a : Nat} {xs : Nat → Int32} {M M1 M2 : MM} {v : Int32} (hL : L ≤ 4608) (ha : a + 9 ≤ L) (h9 : mX9_field [.inr (some 0), .inl (xs (a + 1)), .inl (xs (a + 2))] M = some (some (.inl v), M1)) (h10 : mX10_field [.inr (some 19), .inl (xs (a + 1)), .inl (xs (a + 2))] M1 = some (some (.inl v), M2)) : gL L xs 504 (lsL a) [] M = gL L xs 563 (lsL a) [] M2 := by
  rw [gl_al1 (zk_504 L xs)]
  rw [gl_ld (c := 1) (zk_505 L xs) (zk_506 L xs) (zk_507 L xs) (zk_508 L xs) (zk_509 L xs) (show a + 1 < L by omega) hL]
  rw [gl_ld (c := 2) (zk_510 L xs) (zk_511 L xs) (zk_512 L xs) (zk_513 L xs) (zk_514 L xs) (show a + 2 < L by omega) hL]
  rw [gl_call (st := [.inl (xs (a + 2)), .inl (xs (a + 1)), .inr (some 0)]) (st' := []) (zk_515 L xs) h9 (show zkd 0 = 8 from rfl) rfl (Nat.le_of_ble_eq_true rfl)]
  rw [gl_al2 (zk_518 L xs)]
  rw [gl_ld (c := 1) (zk_519 L xs) (zk_520 L xs) (zk_521 L xs) (zk_522 L xs) (zk_523 L xs) (show a + 1 < L by omega) hL]
  rw [gl_ld (c := 2) (zk_524 L xs) (zk_525 L xs) (zk_526 L xs) (zk_527 L xs) (zk_528 L xs) (show a + 2 < L by omega) hL]
  rw [gl_call (st := [.inl (xs (a + 2)), .inl (xs (a + 1)), .inr (some 19), .inl v]) (st' := [.inl v]) (zk_529 L xs) h10 (show zkd 19 = 9 from rfl) rfl (Nat.le_of_ble_eq_true rfl)]
  rw [gl_eq (zk_532 L xs)]
theorem law_hearBack {L a : Nat} {xs : Nat → Int32} {M M1 M2 : MM} {v : Int32} (hL : L ≤ 4608) (ha : a + 9 ≤ L) (h9 : mX9_hearBack [.inr (some 0)] M = some (some (.inl v), M1)) (h10 : mX10_hearBack [.inr (some 19)] M1 = some (some (.inl v), M2)) : gL L xs 537 (lsL a) [] M = gL L xs 563 (lsL a) [] M2 := by
  rw [gl_al1 (zk_537 L xs)]
  rw [gl_call (st := [.inr (some 0)]) (st' := []) (zk_538 L xs) h9 (show zkd 0 = 8 from rfl) rfl (Nat.le_of_ble_eq_true rfl)]
  rw [gl_al2 (zk_541 L xs)]
  rw [gl_call (st := [.inr (some 19), .inl v]) (st' := [.inl v]) (zk_542 L xs) h10 (show zkd 19 = 9 from rfl) rfl (Nat.le_of_ble_eq_true rfl)]
  rw [gl_eq (zk_545 L xs)]
theorem law_send {L a : Nat} {xs : Nat → Int32} {M M1 M2 : MM} {v : Int32} (hL : L ≤ 4608) (ha : a + 9 ≤ L) (h9 : mX9_send [.inr (some 0)] M = some (some (.inl v), M1)) (h10 : mX10_send [.inr (some 19)] M1 = some (some (.inl v), M2)) : gL L xs 550 (lsL a) [] M = gL L xs 563 (lsL a) [] M2 := by
  rw [gl_al1 (zk_550 L xs)]
  rw [gl_call (st := [.inr (some 0)]) (st' := []) (zk_551 L xs) h9 (show zkd 0 = 8 from rfl) rfl (Nat.le_of_ble_eq_true rfl)]
  rw [gl_al2 (zk_554 L xs)]
  rw [gl_call (st := [.inr (some 19), .inl v]) (st' := [.inl v]) (zk_555 L xs) h10 (show zkd 19 = 9 from rfl) rfl (Nat.le_of_ble_eq_true rfl)]
  rw [gl_eq (zk_558 L xs)]
