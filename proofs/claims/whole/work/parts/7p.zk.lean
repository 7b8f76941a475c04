/-! The law, step by step (written by wip/whole/lawseg.py). -/
set_option maxRecDepth 100000 in
theorem zk_18 (L : Nat) (xs : Nat → Int32) : zlook (tL_law L xs) 18 = some (a_iload 19 3) := rfl
set_option maxRecDepth 100000 in
theorem zk_19 (L : Nat) (xs : Nat → Int32) : zlook (tL_law L xs) 19 = some (a_aload 20 0) := rfl
set_option maxRecDepth 100000 in
theorem zk_20 (L : Nat) (xs : Nat → Int32) : zlook (tL_law L xs) 20 = some (a_slen 21 L) := rfl
set_option maxRecDepth 100000 in
theorem zk_21 (L : Nat) (xs : Nat → Int32) : zlook (tL_law L xs) 21 = some (a_push 23 (.inl 9)) := rfl
set_option maxRecDepth 100000 in
theorem zk_23 (L : Nat) (xs : Nat → Int32) : zlook (tL_law L xs) 23 = some (a_bin 24 (fun x y => x - y)) := rfl
set_option maxRecDepth 100000 in
theorem zk_24 (L : Nat) (xs : Nat → Int32) : zlook (tL_law L xs) 24 = some (a_c_gt 27 569) := rfl
set_option maxRecDepth 100000 in
theorem zk_27 (L : Nat) (xs : Nat → Int32) : zlook (tL_law L xs) 27 = some (a_aload 28 0) := rfl
set_option maxRecDepth 100000 in
theorem zk_28 (L : Nat) (xs : Nat → Int32) : zlook (tL_law L xs) 28 = some (a_iload 29 3) := rfl
set_option maxRecDepth 100000 in
theorem zk_29 (L : Nat) (xs : Nat → Int32) : zlook (tL_law L xs) 29 = some (a_sald 30 L xs) := rfl
set_option maxRecDepth 100000 in
theorem zk_30 (L : Nat) (xs : Nat → Int32) : zlook (tL_law L xs) 30 = some (a_push 32 (.inl 15)) := rfl
set_option maxRecDepth 100000 in
theorem zk_32 (L : Nat) (xs : Nat → Int32) : zlook (tL_law L xs) 32 = some (a_bin 33 (fun x y => x &&& y)) := rfl
set_option maxRecDepth 100000 in
theorem zk_33 (L : Nat) (xs : Nat → Int32) : zlook (tL_law L xs) 33 = some (a_switch [(0, 100), (1, 185), (2, 300), (3, 343), (4, 386), (5, 399), (6, 432), (7, 445), (8, 458), (9, 481), (10, 504), (11, 537), (12, 550)] 563) := rfl
set_option maxRecDepth 100000 in
theorem zk_100 (L : Nat) (xs : Nat → Int32) : zlook (tL_law L xs) 100 = some (a_aload 101 1) := rfl
set_option maxRecDepth 100000 in
theorem zk_101 (L : Nat) (xs : Nat → Int32) : zlook (tL_law L xs) 101 = some (a_aload 102 0) := rfl
set_option maxRecDepth 100000 in
theorem zk_102 (L : Nat) (xs : Nat → Int32) : zlook (tL_law L xs) 102 = some (a_iload 103 3) := rfl
set_option maxRecDepth 100000 in
theorem zk_103 (L : Nat) (xs : Nat → Int32) : zlook (tL_law L xs) 103 = some (a_push 104 (.inl 1)) := rfl
set_option maxRecDepth 100000 in
theorem zk_104 (L : Nat) (xs : Nat → Int32) : zlook (tL_law L xs) 104 = some (a_bin 105 (fun x y => x + y)) := rfl
set_option maxRecDepth 100000 in
theorem zk_105 (L : Nat) (xs : Nat → Int32) : zlook (tL_law L xs) 105 = some (a_sald 106 L xs) := rfl
set_option maxRecDepth 100000 in
theorem zk_106 (L : Nat) (xs : Nat → Int32) : zlook (tL_law L xs) 106 = some (a_aload 107 0) := rfl
set_option maxRecDepth 100000 in
theorem zk_107 (L : Nat) (xs : Nat → Int32) : zlook (tL_law L xs) 107 = some (a_iload 108 3) := rfl
set_option maxRecDepth 100000 in
theorem zk_108 (L : Nat) (xs : Nat → Int32) : zlook (tL_law L xs) 108 = some (a_push 109 (.inl 2)) := rfl
set_option maxRecDepth 100000 in
theorem zk_109 (L : Nat) (xs : Nat → Int32) : zlook (tL_law L xs) 109 = some (a_bin 110 (fun x y => x + y)) := rfl
set_option maxRecDepth 100000 in
theorem zk_110 (L : Nat) (xs : Nat → Int32) : zlook (tL_law L xs) 110 = some (a_sald 111 L xs) := rfl
set_option maxRecDepth 100000 in
theorem zk_111 (L : Nat) (xs : Nat → Int32) : zlook (tL_law L xs) 111 = some (a_aload 112 0) := rfl
set_option maxRecDepth 100000 in
theorem zk_112 (L : Nat) (xs : Nat → Int32) : zlook (tL_law L xs) 112 = some (a_iload 113 3) := rfl
set_option maxRecDepth 100000 in
theorem zk_113 (L : Nat) (xs : Nat → Int32) : zlook (tL_law L xs) 113 = some (a_push 114 (.inl 3)) := rfl
set_option maxRecDepth 100000 in
theorem zk_114 (L : Nat) (xs : Nat → Int32) : zlook (tL_law L xs) 114 = some (a_bin 115 (fun x y => x + y)) := rfl
set_option maxRecDepth 100000 in
theorem zk_115 (L : Nat) (xs : Nat → Int32) : zlook (tL_law L xs) 115 = some (a_sald 116 L xs) := rfl
set_option maxRecDepth 100000 in
theorem zk_116 (L : Nat) (xs : Nat → Int32) : zlook (tL_law L xs) 116 = some (a_if_eq 119 123) := rfl
set_option maxRecDepth 100000 in
theorem zk_119 (L : Nat) (xs : Nat → Int32) : zlook (tL_law L xs) 119 = some (a_push 120 (.inl 1)) := rfl
set_option maxRecDepth 100000 in
theorem zk_120 (L : Nat) (xs : Nat → Int32) : zlook (tL_law L xs) 120 = some (a_goto 124) := rfl
set_option maxRecDepth 100000 in
theorem zk_123 (L : Nat) (xs : Nat → Int32) : zlook (tL_law L xs) 123 = some (a_push 124 (.inl 0)) := rfl
set_option maxRecDepth 100000 in
theorem zk_124 (L : Nat) (xs : Nat → Int32) : zlook (tL_law L xs) 124 = some (a_aload 125 0) := rfl
set_option maxRecDepth 100000 in
theorem zk_125 (L : Nat) (xs : Nat → Int32) : zlook (tL_law L xs) 125 = some (a_iload 126 3) := rfl
set_option maxRecDepth 100000 in
theorem zk_126 (L : Nat) (xs : Nat → Int32) : zlook (tL_law L xs) 126 = some (a_push 127 (.inl 4)) := rfl
set_option maxRecDepth 100000 in
theorem zk_127 (L : Nat) (xs : Nat → Int32) : zlook (tL_law L xs) 127 = some (a_bin 128 (fun x y => x + y)) := rfl
set_option maxRecDepth 100000 in
theorem zk_128 (L : Nat) (xs : Nat → Int32) : zlook (tL_law L xs) 128 = some (a_sald 129 L xs) := rfl
set_option maxRecDepth 100000 in
theorem zk_129 (L : Nat) (xs : Nat → Int32) : zlook (tL_law L xs) 129 = some (a_if_eq 132 136) := rfl
set_option maxRecDepth 100000 in
theorem zk_132 (L : Nat) (xs : Nat → Int32) : zlook (tL_law L xs) 132 = some (a_push 133 (.inl 1)) := rfl
set_option maxRecDepth 100000 in
theorem zk_133 (L : Nat) (xs : Nat → Int32) : zlook (tL_law L xs) 133 = some (a_goto 137) := rfl
set_option maxRecDepth 100000 in
theorem zk_136 (L : Nat) (xs : Nat → Int32) : zlook (tL_law L xs) 136 = some (a_push 137 (.inl 0)) := rfl
set_option maxRecDepth 100000 in
theorem zk_137 (L : Nat) (xs : Nat → Int32) : zlook (tL_law L xs) 137 = some (a_callV 140 4 8 mX9_digits) := rfl
set_option maxRecDepth 100000 in
theorem zk_140 (L : Nat) (xs : Nat → Int32) : zlook (tL_law L xs) 140 = some (a_aload 141 2) := rfl
set_option maxRecDepth 100000 in
theorem zk_141 (L : Nat) (xs : Nat → Int32) : zlook (tL_law L xs) 141 = some (a_aload 142 0) := rfl
set_option maxRecDepth 100000 in
theorem zk_142 (L : Nat) (xs : Nat → Int32) : zlook (tL_law L xs) 142 = some (a_iload 143 3) := rfl
set_option maxRecDepth 100000 in
theorem zk_143 (L : Nat) (xs : Nat → Int32) : zlook (tL_law L xs) 143 = some (a_push 144 (.inl 1)) := rfl
set_option maxRecDepth 100000 in
theorem zk_144 (L : Nat) (xs : Nat → Int32) : zlook (tL_law L xs) 144 = some (a_bin 145 (fun x y => x + y)) := rfl
set_option maxRecDepth 100000 in
theorem zk_145 (L : Nat) (xs : Nat → Int32) : zlook (tL_law L xs) 145 = some (a_sald 146 L xs) := rfl
set_option maxRecDepth 100000 in
theorem zk_146 (L : Nat) (xs : Nat → Int32) : zlook (tL_law L xs) 146 = some (a_aload 147 0) := rfl
set_option maxRecDepth 100000 in
theorem zk_147 (L : Nat) (xs : Nat → Int32) : zlook (tL_law L xs) 147 = some (a_iload 148 3) := rfl
set_option maxRecDepth 100000 in
theorem zk_148 (L : Nat) (xs : Nat → Int32) : zlook (tL_law L xs) 148 = some (a_push 149 (.inl 2)) := rfl
set_option maxRecDepth 100000 in
theorem zk_149 (L : Nat) (xs : Nat → Int32) : zlook (tL_law L xs) 149 = some (a_bin 150 (fun x y => x + y)) := rfl
set_option maxRecDepth 100000 in
theorem zk_150 (L : Nat) (xs : Nat → Int32) : zlook (tL_law L xs) 150 = some (a_sald 151 L xs) := rfl
set_option maxRecDepth 100000 in
theorem zk_151 (L : Nat) (xs : Nat → Int32) : zlook (tL_law L xs) 151 = some (a_aload 152 0) := rfl
set_option maxRecDepth 100000 in
theorem zk_152 (L : Nat) (xs : Nat → Int32) : zlook (tL_law L xs) 152 = some (a_iload 153 3) := rfl
set_option maxRecDepth 100000 in
theorem zk_153 (L : Nat) (xs : Nat → Int32) : zlook (tL_law L xs) 153 = some (a_push 154 (.inl 3)) := rfl
set_option maxRecDepth 100000 in
theorem zk_154 (L : Nat) (xs : Nat → Int32) : zlook (tL_law L xs) 154 = some (a_bin 155 (fun x y => x + y)) := rfl
set_option maxRecDepth 100000 in
theorem zk_155 (L : Nat) (xs : Nat → Int32) : zlook (tL_law L xs) 155 = some (a_sald 156 L xs) := rfl
set_option maxRecDepth 100000 in
theorem zk_156 (L : Nat) (xs : Nat → Int32) : zlook (tL_law L xs) 156 = some (a_if_eq 159 163) := rfl
set_option maxRecDepth 100000 in
theorem zk_159 (L : Nat) (xs : Nat → Int32) : zlook (tL_law L xs) 159 = some (a_push 160 (.inl 1)) := rfl
set_option maxRecDepth 100000 in
theorem zk_160 (L : Nat) (xs : Nat → Int32) : zlook (tL_law L xs) 160 = some (a_goto 164) := rfl
set_option maxRecDepth 100000 in
theorem zk_163 (L : Nat) (xs : Nat → Int32) : zlook (tL_law L xs) 163 = some (a_push 164 (.inl 0)) := rfl
set_option maxRecDepth 100000 in
theorem zk_164 (L : Nat) (xs : Nat → Int32) : zlook (tL_law L xs) 164 = some (a_aload 165 0) := rfl
set_option maxRecDepth 100000 in
theorem zk_165 (L : Nat) (xs : Nat → Int32) : zlook (tL_law L xs) 165 = some (a_iload 166 3) := rfl
set_option maxRecDepth 100000 in
theorem zk_166 (L : Nat) (xs : Nat → Int32) : zlook (tL_law L xs) 166 = some (a_push 167 (.inl 4)) := rfl
set_option maxRecDepth 100000 in
theorem zk_167 (L : Nat) (xs : Nat → Int32) : zlook (tL_law L xs) 167 = some (a_bin 168 (fun x y => x + y)) := rfl
set_option maxRecDepth 100000 in
theorem zk_168 (L : Nat) (xs : Nat → Int32) : zlook (tL_law L xs) 168 = some (a_sald 169 L xs) := rfl
set_option maxRecDepth 100000 in
theorem zk_169 (L : Nat) (xs : Nat → Int32) : zlook (tL_law L xs) 169 = some (a_if_eq 172 176) := rfl
set_option maxRecDepth 100000 in
theorem zk_172 (L : Nat) (xs : Nat → Int32) : zlook (tL_law L xs) 172 = some (a_push 173 (.inl 1)) := rfl
set_option maxRecDepth 100000 in
theorem zk_173 (L : Nat) (xs : Nat → Int32) : zlook (tL_law L xs) 173 = some (a_goto 177) := rfl
set_option maxRecDepth 100000 in
theorem zk_176 (L : Nat) (xs : Nat → Int32) : zlook (tL_law L xs) 176 = some (a_push 177 (.inl 0)) := rfl
set_option maxRecDepth 100000 in
theorem zk_177 (L : Nat) (xs : Nat → Int32) : zlook (tL_law L xs) 177 = some (a_callV 180 4 9 mX10_digits) := rfl
set_option maxRecDepth 100000 in
theorem zk_180 (L : Nat) (xs : Nat → Int32) : zlook (tL_law L xs) 180 = some (a_c_eq 183 563) := rfl
set_option maxRecDepth 100000 in
theorem zk_183 (L : Nat) (xs : Nat → Int32) : zlook (tL_law L xs) 183 = some (a_push 184 (.inl 0)) := rfl
set_option maxRecDepth 100000 in
theorem zk_184 (L : Nat) (xs : Nat → Int32) : zlook (tL_law L xs) 184 = some (a_lret) := rfl
set_option maxRecDepth 100000 in
theorem zk_185 (L : Nat) (xs : Nat → Int32) : zlook (tL_law L xs) 185 = some (a_aload 186 1) := rfl
set_option maxRecDepth 100000 in
theorem zk_186 (L : Nat) (xs : Nat → Int32) : zlook (tL_law L xs) 186 = some (a_aload 187 0) := rfl
set_option maxRecDepth 100000 in
theorem zk_187 (L : Nat) (xs : Nat → Int32) : zlook (tL_law L xs) 187 = some (a_iload 188 3) := rfl
set_option maxRecDepth 100000 in
theorem zk_188 (L : Nat) (xs : Nat → Int32) : zlook (tL_law L xs) 188 = some (a_push 189 (.inl 1)) := rfl
set_option maxRecDepth 100000 in
theorem zk_189 (L : Nat) (xs : Nat → Int32) : zlook (tL_law L xs) 189 = some (a_bin 190 (fun x y => x + y)) := rfl
set_option maxRecDepth 100000 in
theorem zk_190 (L : Nat) (xs : Nat → Int32) : zlook (tL_law L xs) 190 = some (a_sald 191 L xs) := rfl
set_option maxRecDepth 100000 in
theorem zk_191 (L : Nat) (xs : Nat → Int32) : zlook (tL_law L xs) 191 = some (a_aload 192 0) := rfl
set_option maxRecDepth 100000 in
theorem zk_192 (L : Nat) (xs : Nat → Int32) : zlook (tL_law L xs) 192 = some (a_iload 193 3) := rfl
set_option maxRecDepth 100000 in
theorem zk_193 (L : Nat) (xs : Nat → Int32) : zlook (tL_law L xs) 193 = some (a_push 194 (.inl 2)) := rfl
set_option maxRecDepth 100000 in
theorem zk_194 (L : Nat) (xs : Nat → Int32) : zlook (tL_law L xs) 194 = some (a_bin 195 (fun x y => x + y)) := rfl
set_option maxRecDepth 100000 in
theorem zk_195 (L : Nat) (xs : Nat → Int32) : zlook (tL_law L xs) 195 = some (a_sald 196 L xs) := rfl
set_option maxRecDepth 100000 in
theorem zk_196 (L : Nat) (xs : Nat → Int32) : zlook (tL_law L xs) 196 = some (a_if_eq 199 203) := rfl
set_option maxRecDepth 100000 in
theorem zk_199 (L : Nat) (xs : Nat → Int32) : zlook (tL_law L xs) 199 = some (a_push 200 (.inl 1)) := rfl
set_option maxRecDepth 100000 in
theorem zk_200 (L : Nat) (xs : Nat → Int32) : zlook (tL_law L xs) 200 = some (a_goto 204) := rfl
set_option maxRecDepth 100000 in
theorem zk_203 (L : Nat) (xs : Nat → Int32) : zlook (tL_law L xs) 203 = some (a_push 204 (.inl 0)) := rfl
set_option maxRecDepth 100000 in
theorem zk_204 (L : Nat) (xs : Nat → Int32) : zlook (tL_law L xs) 204 = some (a_aload 205 0) := rfl
set_option maxRecDepth 100000 in
theorem zk_205 (L : Nat) (xs : Nat → Int32) : zlook (tL_law L xs) 205 = some (a_iload 206 3) := rfl
set_option maxRecDepth 100000 in
theorem zk_206 (L : Nat) (xs : Nat → Int32) : zlook (tL_law L xs) 206 = some (a_push 207 (.inl 3)) := rfl
set_option maxRecDepth 100000 in
theorem zk_207 (L : Nat) (xs : Nat → Int32) : zlook (tL_law L xs) 207 = some (a_bin 208 (fun x y => x + y)) := rfl
set_option maxRecDepth 100000 in
theorem zk_208 (L : Nat) (xs : Nat → Int32) : zlook (tL_law L xs) 208 = some (a_sald 209 L xs) := rfl
set_option maxRecDepth 100000 in
theorem zk_209 (L : Nat) (xs : Nat → Int32) : zlook (tL_law L xs) 209 = some (a_aload 210 0) := rfl
set_option maxRecDepth 100000 in
theorem zk_210 (L : Nat) (xs : Nat → Int32) : zlook (tL_law L xs) 210 = some (a_iload 211 3) := rfl
set_option maxRecDepth 100000 in
theorem zk_211 (L : Nat) (xs : Nat → Int32) : zlook (tL_law L xs) 211 = some (a_push 212 (.inl 4)) := rfl
set_option maxRecDepth 100000 in
theorem zk_212 (L : Nat) (xs : Nat → Int32) : zlook (tL_law L xs) 212 = some (a_bin 213 (fun x y => x + y)) := rfl
set_option maxRecDepth 100000 in
theorem zk_213 (L : Nat) (xs : Nat → Int32) : zlook (tL_law L xs) 213 = some (a_sald 214 L xs) := rfl
set_option maxRecDepth 100000 in
theorem zk_214 (L : Nat) (xs : Nat → Int32) : zlook (tL_law L xs) 214 = some (a_aload 215 0) := rfl
set_option maxRecDepth 100000 in
theorem zk_215 (L : Nat) (xs : Nat → Int32) : zlook (tL_law L xs) 215 = some (a_iload 216 3) := rfl
set_option maxRecDepth 100000 in
theorem zk_216 (L : Nat) (xs : Nat → Int32) : zlook (tL_law L xs) 216 = some (a_push 217 (.inl 5)) := rfl
set_option maxRecDepth 100000 in
theorem zk_217 (L : Nat) (xs : Nat → Int32) : zlook (tL_law L xs) 217 = some (a_bin 218 (fun x y => x + y)) := rfl
set_option maxRecDepth 100000 in
theorem zk_218 (L : Nat) (xs : Nat → Int32) : zlook (tL_law L xs) 218 = some (a_sald 219 L xs) := rfl
set_option maxRecDepth 100000 in
theorem zk_219 (L : Nat) (xs : Nat → Int32) : zlook (tL_law L xs) 219 = some (a_aload 220 0) := rfl
set_option maxRecDepth 100000 in
theorem zk_220 (L : Nat) (xs : Nat → Int32) : zlook (tL_law L xs) 220 = some (a_iload 221 3) := rfl
set_option maxRecDepth 100000 in
theorem zk_221 (L : Nat) (xs : Nat → Int32) : zlook (tL_law L xs) 221 = some (a_push 223 (.inl 6)) := rfl
set_option maxRecDepth 100000 in
theorem zk_223 (L : Nat) (xs : Nat → Int32) : zlook (tL_law L xs) 223 = some (a_bin 224 (fun x y => x + y)) := rfl
set_option maxRecDepth 100000 in
theorem zk_224 (L : Nat) (xs : Nat → Int32) : zlook (tL_law L xs) 224 = some (a_sald 225 L xs) := rfl
set_option maxRecDepth 100000 in
theorem zk_225 (L : Nat) (xs : Nat → Int32) : zlook (tL_law L xs) 225 = some (a_aload 226 0) := rfl
set_option maxRecDepth 100000 in
theorem zk_226 (L : Nat) (xs : Nat → Int32) : zlook (tL_law L xs) 226 = some (a_iload 227 3) := rfl
set_option maxRecDepth 100000 in
theorem zk_227 (L : Nat) (xs : Nat → Int32) : zlook (tL_law L xs) 227 = some (a_push 229 (.inl 7)) := rfl
set_option maxRecDepth 100000 in
theorem zk_229 (L : Nat) (xs : Nat → Int32) : zlook (tL_law L xs) 229 = some (a_bin 230 (fun x y => x + y)) := rfl
set_option maxRecDepth 100000 in
theorem zk_230 (L : Nat) (xs : Nat → Int32) : zlook (tL_law L xs) 230 = some (a_sald 231 L xs) := rfl
set_option maxRecDepth 100000 in
theorem zk_231 (L : Nat) (xs : Nat → Int32) : zlook (tL_law L xs) 231 = some (a_aload 232 0) := rfl
set_option maxRecDepth 100000 in
theorem zk_232 (L : Nat) (xs : Nat → Int32) : zlook (tL_law L xs) 232 = some (a_iload 233 3) := rfl
set_option maxRecDepth 100000 in
theorem zk_233 (L : Nat) (xs : Nat → Int32) : zlook (tL_law L xs) 233 = some (a_push 235 (.inl 8)) := rfl
set_option maxRecDepth 100000 in
theorem zk_235 (L : Nat) (xs : Nat → Int32) : zlook (tL_law L xs) 235 = some (a_bin 236 (fun x y => x + y)) := rfl
set_option maxRecDepth 100000 in
theorem zk_236 (L : Nat) (xs : Nat → Int32) : zlook (tL_law L xs) 236 = some (a_sald 237 L xs) := rfl
set_option maxRecDepth 100000 in
theorem zk_237 (L : Nat) (xs : Nat → Int32) : zlook (tL_law L xs) 237 = some (a_callV 240 8 8 mX9_choice) := rfl
set_option maxRecDepth 100000 in
theorem zk_240 (L : Nat) (xs : Nat → Int32) : zlook (tL_law L xs) 240 = some (a_aload 241 2) := rfl
set_option maxRecDepth 100000 in
theorem zk_241 (L : Nat) (xs : Nat → Int32) : zlook (tL_law L xs) 241 = some (a_aload 242 0) := rfl
set_option maxRecDepth 100000 in
theorem zk_242 (L : Nat) (xs : Nat → Int32) : zlook (tL_law L xs) 242 = some (a_iload 243 3) := rfl
set_option maxRecDepth 100000 in
theorem zk_243 (L : Nat) (xs : Nat → Int32) : zlook (tL_law L xs) 243 = some (a_push 244 (.inl 1)) := rfl
set_option maxRecDepth 100000 in
theorem zk_244 (L : Nat) (xs : Nat → Int32) : zlook (tL_law L xs) 244 = some (a_bin 245 (fun x y => x + y)) := rfl
set_option maxRecDepth 100000 in
theorem zk_245 (L : Nat) (xs : Nat → Int32) : zlook (tL_law L xs) 245 = some (a_sald 246 L xs) := rfl
set_option maxRecDepth 100000 in
theorem zk_246 (L : Nat) (xs : Nat → Int32) : zlook (tL_law L xs) 246 = some (a_aload 247 0) := rfl
set_option maxRecDepth 100000 in
theorem zk_247 (L : Nat) (xs : Nat → Int32) : zlook (tL_law L xs) 247 = some (a_iload 248 3) := rfl
set_option maxRecDepth 100000 in
theorem zk_248 (L : Nat) (xs : Nat → Int32) : zlook (tL_law L xs) 248 = some (a_push 249 (.inl 2)) := rfl
set_option maxRecDepth 100000 in
theorem zk_249 (L : Nat) (xs : Nat → Int32) : zlook (tL_law L xs) 249 = some (a_bin 250 (fun x y => x + y)) := rfl
set_option maxRecDepth 100000 in
theorem zk_250 (L : Nat) (xs : Nat → Int32) : zlook (tL_law L xs) 250 = some (a_sald 251 L xs) := rfl
set_option maxRecDepth 100000 in
theorem zk_251 (L : Nat) (xs : Nat → Int32) : zlook (tL_law L xs) 251 = some (a_if_eq 254 258) := rfl
set_option maxRecDepth 100000 in
theorem zk_254 (L : Nat) (xs : Nat → Int32) : zlook (tL_law L xs) 254 = some (a_push 255 (.inl 1)) := rfl
set_option maxRecDepth 100000 in
theorem zk_255 (L : Nat) (xs : Nat → Int32) : zlook (tL_law L xs) 255 = some (a_goto 259) := rfl
set_option maxRecDepth 100000 in
theorem zk_258 (L : Nat) (xs : Nat → Int32) : zlook (tL_law L xs) 258 = some (a_push 259 (.inl 0)) := rfl
set_option maxRecDepth 100000 in
theorem zk_259 (L : Nat) (xs : Nat → Int32) : zlook (tL_law L xs) 259 = some (a_aload 260 0) := rfl
set_option maxRecDepth 100000 in
theorem zk_260 (L : Nat) (xs : Nat → Int32) : zlook (tL_law L xs) 260 = some (a_iload 261 3) := rfl
set_option maxRecDepth 100000 in
theorem zk_261 (L : Nat) (xs : Nat → Int32) : zlook (tL_law L xs) 261 = some (a_push 262 (.inl 3)) := rfl
set_option maxRecDepth 100000 in
theorem zk_262 (L : Nat) (xs : Nat → Int32) : zlook (tL_law L xs) 262 = some (a_bin 263 (fun x y => x + y)) := rfl
set_option maxRecDepth 100000 in
theorem zk_263 (L : Nat) (xs : Nat → Int32) : zlook (tL_law L xs) 263 = some (a_sald 264 L xs) := rfl
set_option maxRecDepth 100000 in
theorem zk_264 (L : Nat) (xs : Nat → Int32) : zlook (tL_law L xs) 264 = some (a_aload 265 0) := rfl
set_option maxRecDepth 100000 in
theorem zk_265 (L : Nat) (xs : Nat → Int32) : zlook (tL_law L xs) 265 = some (a_iload 266 3) := rfl
set_option maxRecDepth 100000 in
theorem zk_266 (L : Nat) (xs : Nat → Int32) : zlook (tL_law L xs) 266 = some (a_push 267 (.inl 4)) := rfl
set_option maxRecDepth 100000 in
theorem zk_267 (L : Nat) (xs : Nat → Int32) : zlook (tL_law L xs) 267 = some (a_bin 268 (fun x y => x + y)) := rfl
set_option maxRecDepth 100000 in
theorem zk_268 (L : Nat) (xs : Nat → Int32) : zlook (tL_law L xs) 268 = some (a_sald 269 L xs) := rfl
set_option maxRecDepth 100000 in
theorem zk_269 (L : Nat) (xs : Nat → Int32) : zlook (tL_law L xs) 269 = some (a_aload 270 0) := rfl
set_option maxRecDepth 100000 in
theorem zk_270 (L : Nat) (xs : Nat → Int32) : zlook (tL_law L xs) 270 = some (a_iload 271 3) := rfl
set_option maxRecDepth 100000 in
theorem zk_271 (L : Nat) (xs : Nat → Int32) : zlook (tL_law L xs) 271 = some (a_push 272 (.inl 5)) := rfl
set_option maxRecDepth 100000 in
theorem zk_272 (L : Nat) (xs : Nat → Int32) : zlook (tL_law L xs) 272 = some (a_bin 273 (fun x y => x + y)) := rfl
set_option maxRecDepth 100000 in
theorem zk_273 (L : Nat) (xs : Nat → Int32) : zlook (tL_law L xs) 273 = some (a_sald 274 L xs) := rfl
set_option maxRecDepth 100000 in
theorem zk_274 (L : Nat) (xs : Nat → Int32) : zlook (tL_law L xs) 274 = some (a_aload 275 0) := rfl
set_option maxRecDepth 100000 in
theorem zk_275 (L : Nat) (xs : Nat → Int32) : zlook (tL_law L xs) 275 = some (a_iload 276 3) := rfl
set_option maxRecDepth 100000 in
theorem zk_276 (L : Nat) (xs : Nat → Int32) : zlook (tL_law L xs) 276 = some (a_push 278 (.inl 6)) := rfl
set_option maxRecDepth 100000 in
theorem zk_278 (L : Nat) (xs : Nat → Int32) : zlook (tL_law L xs) 278 = some (a_bin 279 (fun x y => x + y)) := rfl
set_option maxRecDepth 100000 in
theorem zk_279 (L : Nat) (xs : Nat → Int32) : zlook (tL_law L xs) 279 = some (a_sald 280 L xs) := rfl
set_option maxRecDepth 100000 in
theorem zk_280 (L : Nat) (xs : Nat → Int32) : zlook (tL_law L xs) 280 = some (a_aload 281 0) := rfl
set_option maxRecDepth 100000 in
theorem zk_281 (L : Nat) (xs : Nat → Int32) : zlook (tL_law L xs) 281 = some (a_iload 282 3) := rfl
set_option maxRecDepth 100000 in
theorem zk_282 (L : Nat) (xs : Nat → Int32) : zlook (tL_law L xs) 282 = some (a_push 284 (.inl 7)) := rfl
set_option maxRecDepth 100000 in
theorem zk_284 (L : Nat) (xs : Nat → Int32) : zlook (tL_law L xs) 284 = some (a_bin 285 (fun x y => x + y)) := rfl
set_option maxRecDepth 100000 in
theorem zk_285 (L : Nat) (xs : Nat → Int32) : zlook (tL_law L xs) 285 = some (a_sald 286 L xs) := rfl
set_option maxRecDepth 100000 in
theorem zk_286 (L : Nat) (xs : Nat → Int32) : zlook (tL_law L xs) 286 = some (a_aload 287 0) := rfl
set_option maxRecDepth 100000 in
theorem zk_287 (L : Nat) (xs : Nat → Int32) : zlook (tL_law L xs) 287 = some (a_iload 288 3) := rfl
set_option maxRecDepth 100000 in
theorem zk_288 (L : Nat) (xs : Nat → Int32) : zlook (tL_law L xs) 288 = some (a_push 290 (.inl 8)) := rfl
set_option maxRecDepth 100000 in
theorem zk_290 (L : Nat) (xs : Nat → Int32) : zlook (tL_law L xs) 290 = some (a_bin 291 (fun x y => x + y)) := rfl
set_option maxRecDepth 100000 in
theorem zk_291 (L : Nat) (xs : Nat → Int32) : zlook (tL_law L xs) 291 = some (a_sald 292 L xs) := rfl
set_option maxRecDepth 100000 in
theorem zk_292 (L : Nat) (xs : Nat → Int32) : zlook (tL_law L xs) 292 = some (a_callV 295 8 9 mX10_choice) := rfl
set_option maxRecDepth 100000 in
theorem zk_295 (L : Nat) (xs : Nat → Int32) : zlook (tL_law L xs) 295 = some (a_c_eq 298 563) := rfl
set_option maxRecDepth 100000 in
theorem zk_298 (L : Nat) (xs : Nat → Int32) : zlook (tL_law L xs) 298 = some (a_push 299 (.inl 0)) := rfl
set_option maxRecDepth 100000 in
theorem zk_299 (L : Nat) (xs : Nat → Int32) : zlook (tL_law L xs) 299 = some (a_lret) := rfl
set_option maxRecDepth 100000 in
theorem zk_300 (L : Nat) (xs : Nat → Int32) : zlook (tL_law L xs) 300 = some (a_aload 301 1) := rfl
set_option maxRecDepth 100000 in
theorem zk_301 (L : Nat) (xs : Nat → Int32) : zlook (tL_law L xs) 301 = some (a_aload 302 0) := rfl
set_option maxRecDepth 100000 in
theorem zk_302 (L : Nat) (xs : Nat → Int32) : zlook (tL_law L xs) 302 = some (a_iload 303 3) := rfl
set_option maxRecDepth 100000 in
theorem zk_303 (L : Nat) (xs : Nat → Int32) : zlook (tL_law L xs) 303 = some (a_push 304 (.inl 1)) := rfl
set_option maxRecDepth 100000 in
theorem zk_304 (L : Nat) (xs : Nat → Int32) : zlook (tL_law L xs) 304 = some (a_bin 305 (fun x y => x + y)) := rfl
set_option maxRecDepth 100000 in
theorem zk_305 (L : Nat) (xs : Nat → Int32) : zlook (tL_law L xs) 305 = some (a_sald 306 L xs) := rfl
set_option maxRecDepth 100000 in
theorem zk_306 (L : Nat) (xs : Nat → Int32) : zlook (tL_law L xs) 306 = some (a_aload 307 0) := rfl
set_option maxRecDepth 100000 in
theorem zk_307 (L : Nat) (xs : Nat → Int32) : zlook (tL_law L xs) 307 = some (a_iload 308 3) := rfl
set_option maxRecDepth 100000 in
theorem zk_308 (L : Nat) (xs : Nat → Int32) : zlook (tL_law L xs) 308 = some (a_push 309 (.inl 2)) := rfl
set_option maxRecDepth 100000 in
theorem zk_309 (L : Nat) (xs : Nat → Int32) : zlook (tL_law L xs) 309 = some (a_bin 310 (fun x y => x + y)) := rfl
set_option maxRecDepth 100000 in
theorem zk_310 (L : Nat) (xs : Nat → Int32) : zlook (tL_law L xs) 310 = some (a_sald 311 L xs) := rfl
set_option maxRecDepth 100000 in
theorem zk_311 (L : Nat) (xs : Nat → Int32) : zlook (tL_law L xs) 311 = some (a_aload 312 0) := rfl
set_option maxRecDepth 100000 in
theorem zk_312 (L : Nat) (xs : Nat → Int32) : zlook (tL_law L xs) 312 = some (a_iload 313 3) := rfl
set_option maxRecDepth 100000 in
theorem zk_313 (L : Nat) (xs : Nat → Int32) : zlook (tL_law L xs) 313 = some (a_push 314 (.inl 3)) := rfl
set_option maxRecDepth 100000 in
theorem zk_314 (L : Nat) (xs : Nat → Int32) : zlook (tL_law L xs) 314 = some (a_bin 315 (fun x y => x + y)) := rfl
set_option maxRecDepth 100000 in
theorem zk_315 (L : Nat) (xs : Nat → Int32) : zlook (tL_law L xs) 315 = some (a_sald 316 L xs) := rfl
set_option maxRecDepth 100000 in
theorem zk_316 (L : Nat) (xs : Nat → Int32) : zlook (tL_law L xs) 316 = some (a_callV 319 3 8 mX9_needs) := rfl
set_option maxRecDepth 100000 in
theorem zk_319 (L : Nat) (xs : Nat → Int32) : zlook (tL_law L xs) 319 = some (a_aload 320 2) := rfl
set_option maxRecDepth 100000 in
theorem zk_320 (L : Nat) (xs : Nat → Int32) : zlook (tL_law L xs) 320 = some (a_aload 321 0) := rfl
set_option maxRecDepth 100000 in
theorem zk_321 (L : Nat) (xs : Nat → Int32) : zlook (tL_law L xs) 321 = some (a_iload 322 3) := rfl
set_option maxRecDepth 100000 in
theorem zk_322 (L : Nat) (xs : Nat → Int32) : zlook (tL_law L xs) 322 = some (a_push 323 (.inl 1)) := rfl
set_option maxRecDepth 100000 in
theorem zk_323 (L : Nat) (xs : Nat → Int32) : zlook (tL_law L xs) 323 = some (a_bin 324 (fun x y => x + y)) := rfl
set_option maxRecDepth 100000 in
theorem zk_324 (L : Nat) (xs : Nat → Int32) : zlook (tL_law L xs) 324 = some (a_sald 325 L xs) := rfl
set_option maxRecDepth 100000 in
theorem zk_325 (L : Nat) (xs : Nat → Int32) : zlook (tL_law L xs) 325 = some (a_aload 326 0) := rfl
set_option maxRecDepth 100000 in
theorem zk_326 (L : Nat) (xs : Nat → Int32) : zlook (tL_law L xs) 326 = some (a_iload 327 3) := rfl
set_option maxRecDepth 100000 in
theorem zk_327 (L : Nat) (xs : Nat → Int32) : zlook (tL_law L xs) 327 = some (a_push 328 (.inl 2)) := rfl
set_option maxRecDepth 100000 in
theorem zk_328 (L : Nat) (xs : Nat → Int32) : zlook (tL_law L xs) 328 = some (a_bin 329 (fun x y => x + y)) := rfl
set_option maxRecDepth 100000 in
theorem zk_329 (L : Nat) (xs : Nat → Int32) : zlook (tL_law L xs) 329 = some (a_sald 330 L xs) := rfl
set_option maxRecDepth 100000 in
theorem zk_330 (L : Nat) (xs : Nat → Int32) : zlook (tL_law L xs) 330 = some (a_aload 331 0) := rfl
set_option maxRecDepth 100000 in
theorem zk_331 (L : Nat) (xs : Nat → Int32) : zlook (tL_law L xs) 331 = some (a_iload 332 3) := rfl
set_option maxRecDepth 100000 in
theorem zk_332 (L : Nat) (xs : Nat → Int32) : zlook (tL_law L xs) 332 = some (a_push 333 (.inl 3)) := rfl
set_option maxRecDepth 100000 in
theorem zk_333 (L : Nat) (xs : Nat → Int32) : zlook (tL_law L xs) 333 = some (a_bin 334 (fun x y => x + y)) := rfl
set_option maxRecDepth 100000 in
theorem zk_334 (L : Nat) (xs : Nat → Int32) : zlook (tL_law L xs) 334 = some (a_sald 335 L xs) := rfl
set_option maxRecDepth 100000 in
theorem zk_335 (L : Nat) (xs : Nat → Int32) : zlook (tL_law L xs) 335 = some (a_callV 338 3 9 mX10_needs) := rfl
set_option maxRecDepth 100000 in
theorem zk_338 (L : Nat) (xs : Nat → Int32) : zlook (tL_law L xs) 338 = some (a_c_eq 341 563) := rfl
set_option maxRecDepth 100000 in
theorem zk_341 (L : Nat) (xs : Nat → Int32) : zlook (tL_law L xs) 341 = some (a_push 342 (.inl 0)) := rfl
set_option maxRecDepth 100000 in
theorem zk_342 (L : Nat) (xs : Nat → Int32) : zlook (tL_law L xs) 342 = some (a_lret) := rfl
set_option maxRecDepth 100000 in
theorem zk_343 (L : Nat) (xs : Nat → Int32) : zlook (tL_law L xs) 343 = some (a_aload 344 1) := rfl
set_option maxRecDepth 100000 in
theorem zk_344 (L : Nat) (xs : Nat → Int32) : zlook (tL_law L xs) 344 = some (a_aload 345 0) := rfl
set_option maxRecDepth 100000 in
theorem zk_345 (L : Nat) (xs : Nat → Int32) : zlook (tL_law L xs) 345 = some (a_iload 346 3) := rfl
set_option maxRecDepth 100000 in
theorem zk_346 (L : Nat) (xs : Nat → Int32) : zlook (tL_law L xs) 346 = some (a_push 347 (.inl 1)) := rfl
set_option maxRecDepth 100000 in
theorem zk_347 (L : Nat) (xs : Nat → Int32) : zlook (tL_law L xs) 347 = some (a_bin 348 (fun x y => x + y)) := rfl
set_option maxRecDepth 100000 in
theorem zk_348 (L : Nat) (xs : Nat → Int32) : zlook (tL_law L xs) 348 = some (a_sald 349 L xs) := rfl
set_option maxRecDepth 100000 in
theorem zk_349 (L : Nat) (xs : Nat → Int32) : zlook (tL_law L xs) 349 = some (a_aload 350 0) := rfl
set_option maxRecDepth 100000 in
theorem zk_350 (L : Nat) (xs : Nat → Int32) : zlook (tL_law L xs) 350 = some (a_iload 351 3) := rfl
set_option maxRecDepth 100000 in
theorem zk_351 (L : Nat) (xs : Nat → Int32) : zlook (tL_law L xs) 351 = some (a_push 352 (.inl 2)) := rfl
set_option maxRecDepth 100000 in
theorem zk_352 (L : Nat) (xs : Nat → Int32) : zlook (tL_law L xs) 352 = some (a_bin 353 (fun x y => x + y)) := rfl
set_option maxRecDepth 100000 in
theorem zk_353 (L : Nat) (xs : Nat → Int32) : zlook (tL_law L xs) 353 = some (a_sald 354 L xs) := rfl
set_option maxRecDepth 100000 in
theorem zk_354 (L : Nat) (xs : Nat → Int32) : zlook (tL_law L xs) 354 = some (a_aload 355 0) := rfl
set_option maxRecDepth 100000 in
theorem zk_355 (L : Nat) (xs : Nat → Int32) : zlook (tL_law L xs) 355 = some (a_iload 356 3) := rfl
set_option maxRecDepth 100000 in
theorem zk_356 (L : Nat) (xs : Nat → Int32) : zlook (tL_law L xs) 356 = some (a_push 357 (.inl 3)) := rfl
set_option maxRecDepth 100000 in
theorem zk_357 (L : Nat) (xs : Nat → Int32) : zlook (tL_law L xs) 357 = some (a_bin 358 (fun x y => x + y)) := rfl
set_option maxRecDepth 100000 in
theorem zk_358 (L : Nat) (xs : Nat → Int32) : zlook (tL_law L xs) 358 = some (a_sald 359 L xs) := rfl
set_option maxRecDepth 100000 in
theorem zk_359 (L : Nat) (xs : Nat → Int32) : zlook (tL_law L xs) 359 = some (a_callV 362 3 8 mX9_costs) := rfl
set_option maxRecDepth 100000 in
theorem zk_362 (L : Nat) (xs : Nat → Int32) : zlook (tL_law L xs) 362 = some (a_aload 363 2) := rfl
set_option maxRecDepth 100000 in
theorem zk_363 (L : Nat) (xs : Nat → Int32) : zlook (tL_law L xs) 363 = some (a_aload 364 0) := rfl
set_option maxRecDepth 100000 in
theorem zk_364 (L : Nat) (xs : Nat → Int32) : zlook (tL_law L xs) 364 = some (a_iload 365 3) := rfl
set_option maxRecDepth 100000 in
theorem zk_365 (L : Nat) (xs : Nat → Int32) : zlook (tL_law L xs) 365 = some (a_push 366 (.inl 1)) := rfl
set_option maxRecDepth 100000 in
theorem zk_366 (L : Nat) (xs : Nat → Int32) : zlook (tL_law L xs) 366 = some (a_bin 367 (fun x y => x + y)) := rfl
set_option maxRecDepth 100000 in
theorem zk_367 (L : Nat) (xs : Nat → Int32) : zlook (tL_law L xs) 367 = some (a_sald 368 L xs) := rfl
set_option maxRecDepth 100000 in
theorem zk_368 (L : Nat) (xs : Nat → Int32) : zlook (tL_law L xs) 368 = some (a_aload 369 0) := rfl
set_option maxRecDepth 100000 in
theorem zk_369 (L : Nat) (xs : Nat → Int32) : zlook (tL_law L xs) 369 = some (a_iload 370 3) := rfl
set_option maxRecDepth 100000 in
theorem zk_370 (L : Nat) (xs : Nat → Int32) : zlook (tL_law L xs) 370 = some (a_push 371 (.inl 2)) := rfl
set_option maxRecDepth 100000 in
theorem zk_371 (L : Nat) (xs : Nat → Int32) : zlook (tL_law L xs) 371 = some (a_bin 372 (fun x y => x + y)) := rfl
set_option maxRecDepth 100000 in
theorem zk_372 (L : Nat) (xs : Nat → Int32) : zlook (tL_law L xs) 372 = some (a_sald 373 L xs) := rfl
set_option maxRecDepth 100000 in
theorem zk_373 (L : Nat) (xs : Nat → Int32) : zlook (tL_law L xs) 373 = some (a_aload 374 0) := rfl
set_option maxRecDepth 100000 in
theorem zk_374 (L : Nat) (xs : Nat → Int32) : zlook (tL_law L xs) 374 = some (a_iload 375 3) := rfl
set_option maxRecDepth 100000 in
theorem zk_375 (L : Nat) (xs : Nat → Int32) : zlook (tL_law L xs) 375 = some (a_push 376 (.inl 3)) := rfl
set_option maxRecDepth 100000 in
theorem zk_376 (L : Nat) (xs : Nat → Int32) : zlook (tL_law L xs) 376 = some (a_bin 377 (fun x y => x + y)) := rfl
set_option maxRecDepth 100000 in
theorem zk_377 (L : Nat) (xs : Nat → Int32) : zlook (tL_law L xs) 377 = some (a_sald 378 L xs) := rfl
set_option maxRecDepth 100000 in
theorem zk_378 (L : Nat) (xs : Nat → Int32) : zlook (tL_law L xs) 378 = some (a_callV 381 3 9 mX10_costs) := rfl
set_option maxRecDepth 100000 in
theorem zk_381 (L : Nat) (xs : Nat → Int32) : zlook (tL_law L xs) 381 = some (a_c_eq 384 563) := rfl
set_option maxRecDepth 100000 in
theorem zk_384 (L : Nat) (xs : Nat → Int32) : zlook (tL_law L xs) 384 = some (a_push 385 (.inl 0)) := rfl
set_option maxRecDepth 100000 in
theorem zk_385 (L : Nat) (xs : Nat → Int32) : zlook (tL_law L xs) 385 = some (a_lret) := rfl
set_option maxRecDepth 100000 in
theorem zk_386 (L : Nat) (xs : Nat → Int32) : zlook (tL_law L xs) 386 = some (a_aload 387 1) := rfl
set_option maxRecDepth 100000 in
theorem zk_387 (L : Nat) (xs : Nat → Int32) : zlook (tL_law L xs) 387 = some (a_callV 390 0 8 mX9_place) := rfl
set_option maxRecDepth 100000 in
theorem zk_390 (L : Nat) (xs : Nat → Int32) : zlook (tL_law L xs) 390 = some (a_aload 391 2) := rfl
set_option maxRecDepth 100000 in
theorem zk_391 (L : Nat) (xs : Nat → Int32) : zlook (tL_law L xs) 391 = some (a_callV 394 0 9 mX10_place) := rfl
set_option maxRecDepth 100000 in
theorem zk_394 (L : Nat) (xs : Nat → Int32) : zlook (tL_law L xs) 394 = some (a_c_eq 397 563) := rfl
set_option maxRecDepth 100000 in
theorem zk_397 (L : Nat) (xs : Nat → Int32) : zlook (tL_law L xs) 397 = some (a_push 398 (.inl 0)) := rfl
set_option maxRecDepth 100000 in
theorem zk_398 (L : Nat) (xs : Nat → Int32) : zlook (tL_law L xs) 398 = some (a_lret) := rfl
set_option maxRecDepth 100000 in
theorem zk_399 (L : Nat) (xs : Nat → Int32) : zlook (tL_law L xs) 399 = some (a_aload 400 1) := rfl
set_option maxRecDepth 100000 in
theorem zk_400 (L : Nat) (xs : Nat → Int32) : zlook (tL_law L xs) 400 = some (a_aload 401 0) := rfl
set_option maxRecDepth 100000 in
theorem zk_401 (L : Nat) (xs : Nat → Int32) : zlook (tL_law L xs) 401 = some (a_iload 402 3) := rfl
set_option maxRecDepth 100000 in
theorem zk_402 (L : Nat) (xs : Nat → Int32) : zlook (tL_law L xs) 402 = some (a_push 403 (.inl 1)) := rfl
set_option maxRecDepth 100000 in
theorem zk_403 (L : Nat) (xs : Nat → Int32) : zlook (tL_law L xs) 403 = some (a_bin 404 (fun x y => x + y)) := rfl
set_option maxRecDepth 100000 in
theorem zk_404 (L : Nat) (xs : Nat → Int32) : zlook (tL_law L xs) 404 = some (a_sald 405 L xs) := rfl
set_option maxRecDepth 100000 in
theorem zk_405 (L : Nat) (xs : Nat → Int32) : zlook (tL_law L xs) 405 = some (a_aload 406 0) := rfl
set_option maxRecDepth 100000 in
theorem zk_406 (L : Nat) (xs : Nat → Int32) : zlook (tL_law L xs) 406 = some (a_iload 407 3) := rfl
set_option maxRecDepth 100000 in
theorem zk_407 (L : Nat) (xs : Nat → Int32) : zlook (tL_law L xs) 407 = some (a_push 408 (.inl 2)) := rfl
set_option maxRecDepth 100000 in
theorem zk_408 (L : Nat) (xs : Nat → Int32) : zlook (tL_law L xs) 408 = some (a_bin 409 (fun x y => x + y)) := rfl
set_option maxRecDepth 100000 in
theorem zk_409 (L : Nat) (xs : Nat → Int32) : zlook (tL_law L xs) 409 = some (a_sald 410 L xs) := rfl
set_option maxRecDepth 100000 in
theorem zk_410 (L : Nat) (xs : Nat → Int32) : zlook (tL_law L xs) 410 = some (a_callV 413 2 8 mX9_word) := rfl
set_option maxRecDepth 100000 in
theorem zk_413 (L : Nat) (xs : Nat → Int32) : zlook (tL_law L xs) 413 = some (a_aload 414 2) := rfl
set_option maxRecDepth 100000 in
theorem zk_414 (L : Nat) (xs : Nat → Int32) : zlook (tL_law L xs) 414 = some (a_aload 415 0) := rfl
set_option maxRecDepth 100000 in
theorem zk_415 (L : Nat) (xs : Nat → Int32) : zlook (tL_law L xs) 415 = some (a_iload 416 3) := rfl
set_option maxRecDepth 100000 in
theorem zk_416 (L : Nat) (xs : Nat → Int32) : zlook (tL_law L xs) 416 = some (a_push 417 (.inl 1)) := rfl
set_option maxRecDepth 100000 in
theorem zk_417 (L : Nat) (xs : Nat → Int32) : zlook (tL_law L xs) 417 = some (a_bin 418 (fun x y => x + y)) := rfl
set_option maxRecDepth 100000 in
theorem zk_418 (L : Nat) (xs : Nat → Int32) : zlook (tL_law L xs) 418 = some (a_sald 419 L xs) := rfl
set_option maxRecDepth 100000 in
theorem zk_419 (L : Nat) (xs : Nat → Int32) : zlook (tL_law L xs) 419 = some (a_aload 420 0) := rfl
set_option maxRecDepth 100000 in
theorem zk_420 (L : Nat) (xs : Nat → Int32) : zlook (tL_law L xs) 420 = some (a_iload 421 3) := rfl
set_option maxRecDepth 100000 in
theorem zk_421 (L : Nat) (xs : Nat → Int32) : zlook (tL_law L xs) 421 = some (a_push 422 (.inl 2)) := rfl
set_option maxRecDepth 100000 in
theorem zk_422 (L : Nat) (xs : Nat → Int32) : zlook (tL_law L xs) 422 = some (a_bin 423 (fun x y => x + y)) := rfl
set_option maxRecDepth 100000 in
theorem zk_423 (L : Nat) (xs : Nat → Int32) : zlook (tL_law L xs) 423 = some (a_sald 424 L xs) := rfl
set_option maxRecDepth 100000 in
theorem zk_424 (L : Nat) (xs : Nat → Int32) : zlook (tL_law L xs) 424 = some (a_callV 427 2 9 mX10_word) := rfl
set_option maxRecDepth 100000 in
theorem zk_427 (L : Nat) (xs : Nat → Int32) : zlook (tL_law L xs) 427 = some (a_c_eq 430 563) := rfl
set_option maxRecDepth 100000 in
theorem zk_430 (L : Nat) (xs : Nat → Int32) : zlook (tL_law L xs) 430 = some (a_push 431 (.inl 0)) := rfl
set_option maxRecDepth 100000 in
theorem zk_431 (L : Nat) (xs : Nat → Int32) : zlook (tL_law L xs) 431 = some (a_lret) := rfl
set_option maxRecDepth 100000 in
theorem zk_432 (L : Nat) (xs : Nat → Int32) : zlook (tL_law L xs) 432 = some (a_aload 433 1) := rfl
set_option maxRecDepth 100000 in
theorem zk_433 (L : Nat) (xs : Nat → Int32) : zlook (tL_law L xs) 433 = some (a_callV 436 0 8 mX9_say) := rfl
set_option maxRecDepth 100000 in
theorem zk_436 (L : Nat) (xs : Nat → Int32) : zlook (tL_law L xs) 436 = some (a_aload 437 2) := rfl
set_option maxRecDepth 100000 in
theorem zk_437 (L : Nat) (xs : Nat → Int32) : zlook (tL_law L xs) 437 = some (a_callV 440 0 9 mX10_say) := rfl
set_option maxRecDepth 100000 in
theorem zk_440 (L : Nat) (xs : Nat → Int32) : zlook (tL_law L xs) 440 = some (a_c_eq 443 563) := rfl
set_option maxRecDepth 100000 in
theorem zk_443 (L : Nat) (xs : Nat → Int32) : zlook (tL_law L xs) 443 = some (a_push 444 (.inl 0)) := rfl
set_option maxRecDepth 100000 in
theorem zk_444 (L : Nat) (xs : Nat → Int32) : zlook (tL_law L xs) 444 = some (a_lret) := rfl
set_option maxRecDepth 100000 in
theorem zk_445 (L : Nat) (xs : Nat → Int32) : zlook (tL_law L xs) 445 = some (a_aload 446 1) := rfl
set_option maxRecDepth 100000 in
theorem zk_446 (L : Nat) (xs : Nat → Int32) : zlook (tL_law L xs) 446 = some (a_callV 449 0 8 mX9_goOn) := rfl
set_option maxRecDepth 100000 in
theorem zk_449 (L : Nat) (xs : Nat → Int32) : zlook (tL_law L xs) 449 = some (a_aload 450 2) := rfl
set_option maxRecDepth 100000 in
theorem zk_450 (L : Nat) (xs : Nat → Int32) : zlook (tL_law L xs) 450 = some (a_callV 453 0 9 mX10_goOn) := rfl
set_option maxRecDepth 100000 in
theorem zk_453 (L : Nat) (xs : Nat → Int32) : zlook (tL_law L xs) 453 = some (a_c_eq 456 563) := rfl
set_option maxRecDepth 100000 in
theorem zk_456 (L : Nat) (xs : Nat → Int32) : zlook (tL_law L xs) 456 = some (a_push 457 (.inl 0)) := rfl
set_option maxRecDepth 100000 in
theorem zk_457 (L : Nat) (xs : Nat → Int32) : zlook (tL_law L xs) 457 = some (a_lret) := rfl
set_option maxRecDepth 100000 in
theorem zk_458 (L : Nat) (xs : Nat → Int32) : zlook (tL_law L xs) 458 = some (a_aload 459 1) := rfl
set_option maxRecDepth 100000 in
theorem zk_459 (L : Nat) (xs : Nat → Int32) : zlook (tL_law L xs) 459 = some (a_aload 460 0) := rfl
set_option maxRecDepth 100000 in
theorem zk_460 (L : Nat) (xs : Nat → Int32) : zlook (tL_law L xs) 460 = some (a_iload 461 3) := rfl
set_option maxRecDepth 100000 in
theorem zk_461 (L : Nat) (xs : Nat → Int32) : zlook (tL_law L xs) 461 = some (a_push 462 (.inl 1)) := rfl
set_option maxRecDepth 100000 in
theorem zk_462 (L : Nat) (xs : Nat → Int32) : zlook (tL_law L xs) 462 = some (a_bin 463 (fun x y => x + y)) := rfl
set_option maxRecDepth 100000 in
theorem zk_463 (L : Nat) (xs : Nat → Int32) : zlook (tL_law L xs) 463 = some (a_sald 464 L xs) := rfl
set_option maxRecDepth 100000 in
theorem zk_464 (L : Nat) (xs : Nat → Int32) : zlook (tL_law L xs) 464 = some (a_callV 467 1 8 mX9_told) := rfl
set_option maxRecDepth 100000 in
theorem zk_467 (L : Nat) (xs : Nat → Int32) : zlook (tL_law L xs) 467 = some (a_aload 468 2) := rfl
set_option maxRecDepth 100000 in
theorem zk_468 (L : Nat) (xs : Nat → Int32) : zlook (tL_law L xs) 468 = some (a_aload 469 0) := rfl
set_option maxRecDepth 100000 in
theorem zk_469 (L : Nat) (xs : Nat → Int32) : zlook (tL_law L xs) 469 = some (a_iload 470 3) := rfl
set_option maxRecDepth 100000 in
theorem zk_470 (L : Nat) (xs : Nat → Int32) : zlook (tL_law L xs) 470 = some (a_push 471 (.inl 1)) := rfl
set_option maxRecDepth 100000 in
theorem zk_471 (L : Nat) (xs : Nat → Int32) : zlook (tL_law L xs) 471 = some (a_bin 472 (fun x y => x + y)) := rfl
set_option maxRecDepth 100000 in
theorem zk_472 (L : Nat) (xs : Nat → Int32) : zlook (tL_law L xs) 472 = some (a_sald 473 L xs) := rfl
set_option maxRecDepth 100000 in
theorem zk_473 (L : Nat) (xs : Nat → Int32) : zlook (tL_law L xs) 473 = some (a_callV 476 1 9 mX10_told) := rfl
set_option maxRecDepth 100000 in
theorem zk_476 (L : Nat) (xs : Nat → Int32) : zlook (tL_law L xs) 476 = some (a_c_eq 479 563) := rfl
set_option maxRecDepth 100000 in
theorem zk_479 (L : Nat) (xs : Nat → Int32) : zlook (tL_law L xs) 479 = some (a_push 480 (.inl 0)) := rfl
set_option maxRecDepth 100000 in
theorem zk_480 (L : Nat) (xs : Nat → Int32) : zlook (tL_law L xs) 480 = some (a_lret) := rfl
set_option maxRecDepth 100000 in
theorem zk_481 (L : Nat) (xs : Nat → Int32) : zlook (tL_law L xs) 481 = some (a_aload 482 1) := rfl
set_option maxRecDepth 100000 in
theorem zk_482 (L : Nat) (xs : Nat → Int32) : zlook (tL_law L xs) 482 = some (a_aload 483 0) := rfl
set_option maxRecDepth 100000 in
theorem zk_483 (L : Nat) (xs : Nat → Int32) : zlook (tL_law L xs) 483 = some (a_iload 484 3) := rfl
set_option maxRecDepth 100000 in
theorem zk_484 (L : Nat) (xs : Nat → Int32) : zlook (tL_law L xs) 484 = some (a_push 485 (.inl 1)) := rfl
set_option maxRecDepth 100000 in
theorem zk_485 (L : Nat) (xs : Nat → Int32) : zlook (tL_law L xs) 485 = some (a_bin 486 (fun x y => x + y)) := rfl
set_option maxRecDepth 100000 in
theorem zk_486 (L : Nat) (xs : Nat → Int32) : zlook (tL_law L xs) 486 = some (a_sald 487 L xs) := rfl
set_option maxRecDepth 100000 in
theorem zk_487 (L : Nat) (xs : Nat → Int32) : zlook (tL_law L xs) 487 = some (a_callV 490 1 8 mX9_about) := rfl
set_option maxRecDepth 100000 in
theorem zk_490 (L : Nat) (xs : Nat → Int32) : zlook (tL_law L xs) 490 = some (a_aload 491 2) := rfl
set_option maxRecDepth 100000 in
theorem zk_491 (L : Nat) (xs : Nat → Int32) : zlook (tL_law L xs) 491 = some (a_aload 492 0) := rfl
set_option maxRecDepth 100000 in
theorem zk_492 (L : Nat) (xs : Nat → Int32) : zlook (tL_law L xs) 492 = some (a_iload 493 3) := rfl
set_option maxRecDepth 100000 in
theorem zk_493 (L : Nat) (xs : Nat → Int32) : zlook (tL_law L xs) 493 = some (a_push 494 (.inl 1)) := rfl
set_option maxRecDepth 100000 in
theorem zk_494 (L : Nat) (xs : Nat → Int32) : zlook (tL_law L xs) 494 = some (a_bin 495 (fun x y => x + y)) := rfl
set_option maxRecDepth 100000 in
theorem zk_495 (L : Nat) (xs : Nat → Int32) : zlook (tL_law L xs) 495 = some (a_sald 496 L xs) := rfl
set_option maxRecDepth 100000 in
theorem zk_496 (L : Nat) (xs : Nat → Int32) : zlook (tL_law L xs) 496 = some (a_callV 499 1 9 mX10_about) := rfl
set_option maxRecDepth 100000 in
theorem zk_499 (L : Nat) (xs : Nat → Int32) : zlook (tL_law L xs) 499 = some (a_c_eq 502 563) := rfl
set_option maxRecDepth 100000 in
theorem zk_502 (L : Nat) (xs : Nat → Int32) : zlook (tL_law L xs) 502 = some (a_push 503 (.inl 0)) := rfl
set_option maxRecDepth 100000 in
theorem zk_503 (L : Nat) (xs : Nat → Int32) : zlook (tL_law L xs) 503 = some (a_lret) := rfl
set_option maxRecDepth 100000 in
theorem zk_504 (L : Nat) (xs : Nat → Int32) : zlook (tL_law L xs) 504 = some (a_aload 505 1) := rfl
set_option maxRecDepth 100000 in
theorem zk_505 (L : Nat) (xs : Nat → Int32) : zlook (tL_law L xs) 505 = some (a_aload 506 0) := rfl
set_option maxRecDepth 100000 in
theorem zk_506 (L : Nat) (xs : Nat → Int32) : zlook (tL_law L xs) 506 = some (a_iload 507 3) := rfl
set_option maxRecDepth 100000 in
theorem zk_507 (L : Nat) (xs : Nat → Int32) : zlook (tL_law L xs) 507 = some (a_push 508 (.inl 1)) := rfl
set_option maxRecDepth 100000 in
theorem zk_508 (L : Nat) (xs : Nat → Int32) : zlook (tL_law L xs) 508 = some (a_bin 509 (fun x y => x + y)) := rfl
set_option maxRecDepth 100000 in
theorem zk_509 (L : Nat) (xs : Nat → Int32) : zlook (tL_law L xs) 509 = some (a_sald 510 L xs) := rfl
set_option maxRecDepth 100000 in
theorem zk_510 (L : Nat) (xs : Nat → Int32) : zlook (tL_law L xs) 510 = some (a_aload 511 0) := rfl
set_option maxRecDepth 100000 in
theorem zk_511 (L : Nat) (xs : Nat → Int32) : zlook (tL_law L xs) 511 = some (a_iload 512 3) := rfl
set_option maxRecDepth 100000 in
theorem zk_512 (L : Nat) (xs : Nat → Int32) : zlook (tL_law L xs) 512 = some (a_push 513 (.inl 2)) := rfl
set_option maxRecDepth 100000 in
theorem zk_513 (L : Nat) (xs : Nat → Int32) : zlook (tL_law L xs) 513 = some (a_bin 514 (fun x y => x + y)) := rfl
set_option maxRecDepth 100000 in
theorem zk_514 (L : Nat) (xs : Nat → Int32) : zlook (tL_law L xs) 514 = some (a_sald 515 L xs) := rfl
set_option maxRecDepth 100000 in
theorem zk_515 (L : Nat) (xs : Nat → Int32) : zlook (tL_law L xs) 515 = some (a_callV 518 2 8 mX9_field) := rfl
set_option maxRecDepth 100000 in
theorem zk_518 (L : Nat) (xs : Nat → Int32) : zlook (tL_law L xs) 518 = some (a_aload 519 2) := rfl
set_option maxRecDepth 100000 in
theorem zk_519 (L : Nat) (xs : Nat → Int32) : zlook (tL_law L xs) 519 = some (a_aload 520 0) := rfl
set_option maxRecDepth 100000 in
theorem zk_520 (L : Nat) (xs : Nat → Int32) : zlook (tL_law L xs) 520 = some (a_iload 521 3) := rfl
set_option maxRecDepth 100000 in
theorem zk_521 (L : Nat) (xs : Nat → Int32) : zlook (tL_law L xs) 521 = some (a_push 522 (.inl 1)) := rfl
set_option maxRecDepth 100000 in
theorem zk_522 (L : Nat) (xs : Nat → Int32) : zlook (tL_law L xs) 522 = some (a_bin 523 (fun x y => x + y)) := rfl
set_option maxRecDepth 100000 in
theorem zk_523 (L : Nat) (xs : Nat → Int32) : zlook (tL_law L xs) 523 = some (a_sald 524 L xs) := rfl
set_option maxRecDepth 100000 in
theorem zk_524 (L : Nat) (xs : Nat → Int32) : zlook (tL_law L xs) 524 = some (a_aload 525 0) := rfl
set_option maxRecDepth 100000 in
theorem zk_525 (L : Nat) (xs : Nat → Int32) : zlook (tL_law L xs) 525 = some (a_iload 526 3) := rfl
set_option maxRecDepth 100000 in
theorem zk_526 (L : Nat) (xs : Nat → Int32) : zlook (tL_law L xs) 526 = some (a_push 527 (.inl 2)) := rfl
set_option maxRecDepth 100000 in
theorem zk_527 (L : Nat) (xs : Nat → Int32) : zlook (tL_law L xs) 527 = some (a_bin 528 (fun x y => x + y)) := rfl
set_option maxRecDepth 100000 in
theorem zk_528 (L : Nat) (xs : Nat → Int32) : zlook (tL_law L xs) 528 = some (a_sald 529 L xs) := rfl
set_option maxRecDepth 100000 in
theorem zk_529 (L : Nat) (xs : Nat → Int32) : zlook (tL_law L xs) 529 = some (a_callV 532 2 9 mX10_field) := rfl
set_option maxRecDepth 100000 in
theorem zk_532 (L : Nat) (xs : Nat → Int32) : zlook (tL_law L xs) 532 = some (a_c_eq 535 563) := rfl
set_option maxRecDepth 100000 in
theorem zk_535 (L : Nat) (xs : Nat → Int32) : zlook (tL_law L xs) 535 = some (a_push 536 (.inl 0)) := rfl
set_option maxRecDepth 100000 in
theorem zk_536 (L : Nat) (xs : Nat → Int32) : zlook (tL_law L xs) 536 = some (a_lret) := rfl
set_option maxRecDepth 100000 in
theorem zk_537 (L : Nat) (xs : Nat → Int32) : zlook (tL_law L xs) 537 = some (a_aload 538 1) := rfl
set_option maxRecDepth 100000 in
theorem zk_538 (L : Nat) (xs : Nat → Int32) : zlook (tL_law L xs) 538 = some (a_callV 541 0 8 mX9_hearBack) := rfl
set_option maxRecDepth 100000 in
theorem zk_541 (L : Nat) (xs : Nat → Int32) : zlook (tL_law L xs) 541 = some (a_aload 542 2) := rfl
set_option maxRecDepth 100000 in
theorem zk_542 (L : Nat) (xs : Nat → Int32) : zlook (tL_law L xs) 542 = some (a_callV 545 0 9 mX10_hearBack) := rfl
set_option maxRecDepth 100000 in
theorem zk_545 (L : Nat) (xs : Nat → Int32) : zlook (tL_law L xs) 545 = some (a_c_eq 548 563) := rfl
set_option maxRecDepth 100000 in
theorem zk_548 (L : Nat) (xs : Nat → Int32) : zlook (tL_law L xs) 548 = some (a_push 549 (.inl 0)) := rfl
set_option maxRecDepth 100000 in
theorem zk_549 (L : Nat) (xs : Nat → Int32) : zlook (tL_law L xs) 549 = some (a_lret) := rfl
set_option maxRecDepth 100000 in
theorem zk_550 (L : Nat) (xs : Nat → Int32) : zlook (tL_law L xs) 550 = some (a_aload 551 1) := rfl
set_option maxRecDepth 100000 in
theorem zk_551 (L : Nat) (xs : Nat → Int32) : zlook (tL_law L xs) 551 = some (a_callV 554 0 8 mX9_send) := rfl
set_option maxRecDepth 100000 in
theorem zk_554 (L : Nat) (xs : Nat → Int32) : zlook (tL_law L xs) 554 = some (a_aload 555 2) := rfl
set_option maxRecDepth 100000 in
theorem zk_555 (L : Nat) (xs : Nat → Int32) : zlook (tL_law L xs) 555 = some (a_callV 558 0 9 mX10_send) := rfl
set_option maxRecDepth 100000 in
theorem zk_558 (L : Nat) (xs : Nat → Int32) : zlook (tL_law L xs) 558 = some (a_c_eq 561 563) := rfl
set_option maxRecDepth 100000 in
theorem zk_561 (L : Nat) (xs : Nat → Int32) : zlook (tL_law L xs) 561 = some (a_push 562 (.inl 0)) := rfl
set_option maxRecDepth 100000 in
theorem zk_562 (L : Nat) (xs : Nat → Int32) : zlook (tL_law L xs) 562 = some (a_lret) := rfl
set_option maxRecDepth 100000 in
theorem zk_563 (L : Nat) (xs : Nat → Int32) : zlook (tL_law L xs) 563 = some (a_iinc 566 3 9) := rfl
set_option maxRecDepth 100000 in
theorem zk_566 (L : Nat) (xs : Nat → Int32) : zlook (tL_law L xs) 566 = some (a_goto 18) := rfl
set_option maxRecDepth 100000 in
theorem zk_569 (L : Nat) (xs : Nat → Int32) : zlook (tL_law L xs) 569 = some (a_push 570 (.inl 1)) := rfl
set_option maxRecDepth 100000 in
theorem zk_570 (L : Nat) (xs : Nat → Int32) : zlook (tL_law L xs) 570 = some (a_lret) := rfl
