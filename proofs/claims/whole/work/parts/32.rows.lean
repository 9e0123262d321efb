/-! ===== the rows by their numbers ===== -/
set_option maxRecDepth 10000 in
theorem s_100 : rShp 100 = some (oS 10 [fR 101, fR 103, fR 107, fR 160, fR 161, fR 164, fR 171, fR 177, fR 181, fV, fV, fV, fV, fV, fN, fN, fN, fN]) := rfl
set_option maxRecDepth 10000 in
theorem s_101 : rShp 101 = some (oS 6 [fR 102, fN, fN, fN, fN, fN]) := rfl
set_option maxRecDepth 10000 in
theorem s_102 : rShp 102 = some (aS 0 600 0 0) := rfl
set_option maxRecDepth 10000 in
theorem s_103 : rShp 103 = some (oS 8 [fR 104, fR 105, fR 106, fN, fN, fN, fN]) := rfl
set_option maxRecDepth 10000 in
theorem s_104 : rShp 104 = some (aS 5 150 0 0) := rfl
set_option maxRecDepth 10000 in
theorem s_105 : rShp 105 = some (aS 0 450 0 0) := rfl
set_option maxRecDepth 10000 in
theorem s_106 : rShp 106 = some (aS 0 150 0 0) := rfl
set_option maxRecDepth 10000 in
theorem s_107 : rShp 107 = some (oS 3 [fR 108, fR 111, fN]) := rfl
set_option maxRecDepth 10000 in
theorem s_108 : rShp 108 = some (oS 1 [fN, fN, fN, fN, fN, fN, fN, fN, fN, fR 109, fR 110]) := rfl
set_option maxRecDepth 10000 in
theorem s_109 : rShp 109 = some (aS 0 7 0 0) := rfl
set_option maxRecDepth 10000 in
theorem s_110 : rShp 110 = some (aS 0 28 0 0) := rfl
set_option maxRecDepth 10000 in
theorem s_111 : rShp 111 = some (aS 4 16 112 3) := rfl
set_option maxRecDepth 10000 in
theorem s_112 : rShp 112 = some (oS 1 [fN, fN, fN, fN, fN, fN, fN, fN, fN, fR 113, fR 114]) := rfl
set_option maxRecDepth 10000 in
theorem s_113 : rShp 113 = some (aS 0 7 0 0) := rfl
set_option maxRecDepth 10000 in
theorem s_114 : rShp 114 = some (aS 0 28 0 0) := rfl
set_option maxRecDepth 10000 in
theorem s_115 : rShp 115 = some (oS 1 [fN, fN, fN, fN, fN, fN, fN, fN, fN, fR 116, fR 117]) := rfl
set_option maxRecDepth 10000 in
theorem s_116 : rShp 116 = some (aS 0 7 0 0) := rfl
set_option maxRecDepth 10000 in
theorem s_117 : rShp 117 = some (aS 0 28 0 0) := rfl
set_option maxRecDepth 10000 in
theorem s_118 : rShp 118 = some (oS 1 [fN, fN, fN, fN, fN, fN, fN, fN, fN, fR 119, fR 120]) := rfl
set_option maxRecDepth 10000 in
theorem s_119 : rShp 119 = some (aS 0 7 0 0) := rfl
set_option maxRecDepth 10000 in
theorem s_120 : rShp 120 = some (aS 0 28 0 0) := rfl
set_option maxRecDepth 10000 in
theorem s_121 : rShp 121 = some (oS 1 [fN, fN, fN, fN, fN, fN, fN, fN, fN, fR 122, fR 123]) := rfl
set_option maxRecDepth 10000 in
theorem s_122 : rShp 122 = some (aS 0 7 0 0) := rfl
set_option maxRecDepth 10000 in
theorem s_123 : rShp 123 = some (aS 0 28 0 0) := rfl
set_option maxRecDepth 10000 in
theorem s_124 : rShp 124 = some (oS 1 [fN, fN, fN, fN, fN, fN, fN, fN, fN, fR 125, fR 126]) := rfl
set_option maxRecDepth 10000 in
theorem s_125 : rShp 125 = some (aS 0 7 0 0) := rfl
set_option maxRecDepth 10000 in
theorem s_126 : rShp 126 = some (aS 0 28 0 0) := rfl
set_option maxRecDepth 10000 in
theorem s_127 : rShp 127 = some (oS 1 [fN, fN, fN, fN, fN, fN, fN, fN, fN, fR 128, fR 129]) := rfl
set_option maxRecDepth 10000 in
theorem s_128 : rShp 128 = some (aS 0 7 0 0) := rfl
set_option maxRecDepth 10000 in
theorem s_129 : rShp 129 = some (aS 0 28 0 0) := rfl
set_option maxRecDepth 10000 in
theorem s_130 : rShp 130 = some (oS 1 [fN, fN, fN, fN, fN, fN, fN, fN, fN, fR 131, fR 132]) := rfl
set_option maxRecDepth 10000 in
theorem s_131 : rShp 131 = some (aS 0 7 0 0) := rfl
set_option maxRecDepth 10000 in
theorem s_132 : rShp 132 = some (aS 0 28 0 0) := rfl
set_option maxRecDepth 10000 in
theorem s_133 : rShp 133 = some (oS 1 [fN, fN, fN, fN, fN, fN, fN, fN, fN, fR 134, fR 135]) := rfl
set_option maxRecDepth 10000 in
theorem s_134 : rShp 134 = some (aS 0 7 0 0) := rfl
set_option maxRecDepth 10000 in
theorem s_135 : rShp 135 = some (aS 0 28 0 0) := rfl
set_option maxRecDepth 10000 in
theorem s_136 : rShp 136 = some (oS 1 [fN, fN, fN, fN, fN, fN, fN, fN, fN, fR 137, fR 138]) := rfl
set_option maxRecDepth 10000 in
theorem s_137 : rShp 137 = some (aS 0 7 0 0) := rfl
set_option maxRecDepth 10000 in
theorem s_138 : rShp 138 = some (aS 0 28 0 0) := rfl
set_option maxRecDepth 10000 in
theorem s_139 : rShp 139 = some (oS 1 [fN, fN, fN, fN, fN, fN, fN, fN, fN, fR 140, fR 141]) := rfl
set_option maxRecDepth 10000 in
theorem s_140 : rShp 140 = some (aS 0 7 0 0) := rfl
set_option maxRecDepth 10000 in
theorem s_141 : rShp 141 = some (aS 0 28 0 0) := rfl
set_option maxRecDepth 10000 in
theorem s_142 : rShp 142 = some (oS 1 [fN, fN, fN, fN, fN, fN, fN, fN, fN, fR 143, fR 144]) := rfl
set_option maxRecDepth 10000 in
theorem s_143 : rShp 143 = some (aS 0 7 0 0) := rfl
set_option maxRecDepth 10000 in
theorem s_144 : rShp 144 = some (aS 0 28 0 0) := rfl
set_option maxRecDepth 10000 in
theorem s_145 : rShp 145 = some (oS 1 [fN, fN, fN, fN, fN, fN, fN, fN, fN, fR 146, fR 147]) := rfl
set_option maxRecDepth 10000 in
theorem s_146 : rShp 146 = some (aS 0 7 0 0) := rfl
set_option maxRecDepth 10000 in
theorem s_147 : rShp 147 = some (aS 0 28 0 0) := rfl
set_option maxRecDepth 10000 in
theorem s_148 : rShp 148 = some (oS 1 [fN, fN, fN, fN, fN, fN, fN, fN, fN, fR 149, fR 150]) := rfl
set_option maxRecDepth 10000 in
theorem s_149 : rShp 149 = some (aS 0 7 0 0) := rfl
set_option maxRecDepth 10000 in
theorem s_150 : rShp 150 = some (aS 0 28 0 0) := rfl
set_option maxRecDepth 10000 in
theorem s_151 : rShp 151 = some (oS 1 [fN, fN, fN, fN, fN, fN, fN, fN, fN, fR 152, fR 153]) := rfl
set_option maxRecDepth 10000 in
theorem s_152 : rShp 152 = some (aS 0 7 0 0) := rfl
set_option maxRecDepth 10000 in
theorem s_153 : rShp 153 = some (aS 0 28 0 0) := rfl
set_option maxRecDepth 10000 in
theorem s_154 : rShp 154 = some (oS 1 [fN, fN, fN, fN, fN, fN, fN, fN, fN, fR 155, fR 156]) := rfl
set_option maxRecDepth 10000 in
theorem s_155 : rShp 155 = some (aS 0 7 0 0) := rfl
set_option maxRecDepth 10000 in
theorem s_156 : rShp 156 = some (aS 0 28 0 0) := rfl
set_option maxRecDepth 10000 in
theorem s_157 : rShp 157 = some (oS 1 [fN, fN, fN, fN, fN, fN, fN, fN, fN, fR 158, fR 159]) := rfl
set_option maxRecDepth 10000 in
theorem s_158 : rShp 158 = some (aS 0 7 0 0) := rfl
set_option maxRecDepth 10000 in
theorem s_159 : rShp 159 = some (aS 0 28 0 0) := rfl
set_option maxRecDepth 10000 in
theorem s_160 : rShp 160 = some (aS 2 3 200 53) := rfl
set_option maxRecDepth 10000 in
theorem s_161 : rShp 161 = some (oS 1 [fN, fN, fN, fN, fN, fN, fN, fN, fN, fR 162, fR 163]) := rfl
set_option maxRecDepth 10000 in
theorem s_162 : rShp 162 = some (aS 0 7 0 0) := rfl
set_option maxRecDepth 10000 in
theorem s_163 : rShp 163 = some (aS 0 28 0 0) := rfl
set_option maxRecDepth 10000 in
theorem s_164 : rShp 164 = some (oS 7 [fR 165, fN, fR 168, fR 169, fR 170, fN]) := rfl
set_option maxRecDepth 10000 in
theorem s_165 : rShp 165 = some (oS 1 [fN, fN, fN, fN, fN, fN, fN, fN, fN, fR 166, fR 167]) := rfl
set_option maxRecDepth 10000 in
theorem s_166 : rShp 166 = some (aS 0 7 0 0) := rfl
set_option maxRecDepth 10000 in
theorem s_167 : rShp 167 = some (aS 0 28 0 0) := rfl
set_option maxRecDepth 10000 in
theorem s_168 : rShp 168 = some (aS 0 49 0 0) := rfl
set_option maxRecDepth 10000 in
theorem s_169 : rShp 169 = some (aS 0 128 0 0) := rfl
set_option maxRecDepth 10000 in
theorem s_170 : rShp 170 = some (aS 0 7 0 0) := rfl
set_option maxRecDepth 10000 in
theorem s_171 : rShp 171 = some (oS 2 [fR 172, fR 175, fR 176, fN, fN, fN]) := rfl
set_option maxRecDepth 10000 in
theorem s_172 : rShp 172 = some (oS 1 [fN, fN, fN, fN, fN, fN, fN, fN, fN, fR 173, fR 174]) := rfl
set_option maxRecDepth 10000 in
theorem s_173 : rShp 173 = some (aS 0 7 0 0) := rfl
set_option maxRecDepth 10000 in
theorem s_174 : rShp 174 = some (aS 0 28 0 0) := rfl
set_option maxRecDepth 10000 in
theorem s_175 : rShp 175 = some (aS 0 28 0 0) := rfl
set_option maxRecDepth 10000 in
theorem s_176 : rShp 176 = some (aS 0 16 0 0) := rfl
set_option maxRecDepth 10000 in
theorem s_177 : rShp 177 = some (oS 9 [fR 178, fN, fN]) := rfl
set_option maxRecDepth 10000 in
theorem s_178 : rShp 178 = some (oS 1 [fN, fN, fN, fN, fN, fN, fN, fN, fN, fR 179, fR 180]) := rfl
set_option maxRecDepth 10000 in
theorem s_179 : rShp 179 = some (aS 0 7 0 0) := rfl
set_option maxRecDepth 10000 in
theorem s_180 : rShp 180 = some (aS 0 28 0 0) := rfl
set_option maxRecDepth 10000 in
theorem s_181 : rShp 181 = some (aS 3 2 0 0) := rfl
set_option maxRecDepth 10000 in
theorem s_182 : rShp 182 = some (oS 4 [fR 183, fR 184, fR 185, fN]) := rfl
set_option maxRecDepth 10000 in
theorem s_183 : rShp 183 = some (aS 0 150 0 0) := rfl
set_option maxRecDepth 10000 in
theorem s_184 : rShp 184 = some (aS 0 150 0 0) := rfl
set_option maxRecDepth 10000 in
theorem s_185 : rShp 185 = some (aS 0 7 0 0) := rfl
set_option maxRecDepth 10000 in
theorem s_186 : rShp 186 = some (oS 4 [fR 187, fR 188, fR 189, fN]) := rfl
set_option maxRecDepth 10000 in
theorem s_187 : rShp 187 = some (aS 0 150 0 0) := rfl
set_option maxRecDepth 10000 in
theorem s_188 : rShp 188 = some (aS 0 150 0 0) := rfl
set_option maxRecDepth 10000 in
theorem s_189 : rShp 189 = some (aS 0 7 0 0) := rfl
set_option maxRecDepth 10000 in
theorem s_190 : rShp 190 = some (oS 5 [fR 191, fN]) := rfl
set_option maxRecDepth 10000 in
theorem s_191 : rShp 191 = some (aS 0 7 0 0) := rfl
set_option maxRecDepth 10000 in
theorem s_192 : rShp 192 = some (oS 0 [fR 193, fR 194, fR 195, fN]) := rfl
set_option maxRecDepth 10000 in
theorem s_193 : rShp 193 = some (aS 0 7 0 0) := rfl
set_option maxRecDepth 10000 in
theorem s_194 : rShp 194 = some (aS 0 7 0 0) := rfl
set_option maxRecDepth 10000 in
theorem s_195 : rShp 195 = some (aS 0 7 0 0) := rfl
set_option maxRecDepth 10000 in
theorem s_196 : rShp 196 = some (oS 0 [fR 197, fR 198, fR 199, fN]) := rfl
set_option maxRecDepth 10000 in
theorem s_197 : rShp 197 = some (aS 0 7 0 0) := rfl
set_option maxRecDepth 10000 in
theorem s_198 : rShp 198 = some (aS 0 7 0 0) := rfl
set_option maxRecDepth 10000 in
theorem s_199 : rShp 199 = some (aS 0 7 0 0) := rfl
set_option maxRecDepth 10000 in
theorem s_200 : rShp 200 = some (oS 3 [fR 201, fR 204, fN]) := rfl
set_option maxRecDepth 10000 in
theorem s_201 : rShp 201 = some (oS 1 [fN, fN, fN, fN, fN, fN, fN, fN, fN, fR 202, fR 203]) := rfl
set_option maxRecDepth 10000 in
theorem s_202 : rShp 202 = some (aS 0 7 0 0) := rfl
set_option maxRecDepth 10000 in
theorem s_203 : rShp 203 = some (aS 0 28 0 0) := rfl
set_option maxRecDepth 10000 in
theorem s_204 : rShp 204 = some (aS 4 16 205 3) := rfl
set_option maxRecDepth 10000 in
theorem s_205 : rShp 205 = some (oS 1 [fN, fN, fN, fN, fN, fN, fN, fN, fN, fR 206, fR 207]) := rfl
set_option maxRecDepth 10000 in
theorem s_206 : rShp 206 = some (aS 0 7 0 0) := rfl
set_option maxRecDepth 10000 in
theorem s_207 : rShp 207 = some (aS 0 28 0 0) := rfl
set_option maxRecDepth 10000 in
theorem s_208 : rShp 208 = some (oS 1 [fN, fN, fN, fN, fN, fN, fN, fN, fN, fR 209, fR 210]) := rfl
set_option maxRecDepth 10000 in
theorem s_209 : rShp 209 = some (aS 0 7 0 0) := rfl
set_option maxRecDepth 10000 in
theorem s_210 : rShp 210 = some (aS 0 28 0 0) := rfl
set_option maxRecDepth 10000 in
theorem s_211 : rShp 211 = some (oS 1 [fN, fN, fN, fN, fN, fN, fN, fN, fN, fR 212, fR 213]) := rfl
set_option maxRecDepth 10000 in
theorem s_212 : rShp 212 = some (aS 0 7 0 0) := rfl
set_option maxRecDepth 10000 in
theorem s_213 : rShp 213 = some (aS 0 28 0 0) := rfl
set_option maxRecDepth 10000 in
theorem s_214 : rShp 214 = some (oS 1 [fN, fN, fN, fN, fN, fN, fN, fN, fN, fR 215, fR 216]) := rfl
set_option maxRecDepth 10000 in
theorem s_215 : rShp 215 = some (aS 0 7 0 0) := rfl
set_option maxRecDepth 10000 in
theorem s_216 : rShp 216 = some (aS 0 28 0 0) := rfl
set_option maxRecDepth 10000 in
theorem s_217 : rShp 217 = some (oS 1 [fN, fN, fN, fN, fN, fN, fN, fN, fN, fR 218, fR 219]) := rfl
set_option maxRecDepth 10000 in
theorem s_218 : rShp 218 = some (aS 0 7 0 0) := rfl
set_option maxRecDepth 10000 in
theorem s_219 : rShp 219 = some (aS 0 28 0 0) := rfl
set_option maxRecDepth 10000 in
theorem s_220 : rShp 220 = some (oS 1 [fN, fN, fN, fN, fN, fN, fN, fN, fN, fR 221, fR 222]) := rfl
set_option maxRecDepth 10000 in
theorem s_221 : rShp 221 = some (aS 0 7 0 0) := rfl
set_option maxRecDepth 10000 in
theorem s_222 : rShp 222 = some (aS 0 28 0 0) := rfl
set_option maxRecDepth 10000 in
theorem s_223 : rShp 223 = some (oS 1 [fN, fN, fN, fN, fN, fN, fN, fN, fN, fR 224, fR 225]) := rfl
set_option maxRecDepth 10000 in
theorem s_224 : rShp 224 = some (aS 0 7 0 0) := rfl
set_option maxRecDepth 10000 in
theorem s_225 : rShp 225 = some (aS 0 28 0 0) := rfl
set_option maxRecDepth 10000 in
theorem s_226 : rShp 226 = some (oS 1 [fN, fN, fN, fN, fN, fN, fN, fN, fN, fR 227, fR 228]) := rfl
set_option maxRecDepth 10000 in
theorem s_227 : rShp 227 = some (aS 0 7 0 0) := rfl
set_option maxRecDepth 10000 in
theorem s_228 : rShp 228 = some (aS 0 28 0 0) := rfl
set_option maxRecDepth 10000 in
theorem s_229 : rShp 229 = some (oS 1 [fN, fN, fN, fN, fN, fN, fN, fN, fN, fR 230, fR 231]) := rfl
set_option maxRecDepth 10000 in
theorem s_230 : rShp 230 = some (aS 0 7 0 0) := rfl
set_option maxRecDepth 10000 in
theorem s_231 : rShp 231 = some (aS 0 28 0 0) := rfl
set_option maxRecDepth 10000 in
theorem s_232 : rShp 232 = some (oS 1 [fN, fN, fN, fN, fN, fN, fN, fN, fN, fR 233, fR 234]) := rfl
set_option maxRecDepth 10000 in
theorem s_233 : rShp 233 = some (aS 0 7 0 0) := rfl
set_option maxRecDepth 10000 in
theorem s_234 : rShp 234 = some (aS 0 28 0 0) := rfl
set_option maxRecDepth 10000 in
theorem s_235 : rShp 235 = some (oS 1 [fN, fN, fN, fN, fN, fN, fN, fN, fN, fR 236, fR 237]) := rfl
set_option maxRecDepth 10000 in
theorem s_236 : rShp 236 = some (aS 0 7 0 0) := rfl
set_option maxRecDepth 10000 in
theorem s_237 : rShp 237 = some (aS 0 28 0 0) := rfl
set_option maxRecDepth 10000 in
theorem s_238 : rShp 238 = some (oS 1 [fN, fN, fN, fN, fN, fN, fN, fN, fN, fR 239, fR 240]) := rfl
set_option maxRecDepth 10000 in
theorem s_239 : rShp 239 = some (aS 0 7 0 0) := rfl
set_option maxRecDepth 10000 in
theorem s_240 : rShp 240 = some (aS 0 28 0 0) := rfl
set_option maxRecDepth 10000 in
theorem s_241 : rShp 241 = some (oS 1 [fN, fN, fN, fN, fN, fN, fN, fN, fN, fR 242, fR 243]) := rfl
set_option maxRecDepth 10000 in
theorem s_242 : rShp 242 = some (aS 0 7 0 0) := rfl
set_option maxRecDepth 10000 in
theorem s_243 : rShp 243 = some (aS 0 28 0 0) := rfl
set_option maxRecDepth 10000 in
theorem s_244 : rShp 244 = some (oS 1 [fN, fN, fN, fN, fN, fN, fN, fN, fN, fR 245, fR 246]) := rfl
set_option maxRecDepth 10000 in
theorem s_245 : rShp 245 = some (aS 0 7 0 0) := rfl
set_option maxRecDepth 10000 in
theorem s_246 : rShp 246 = some (aS 0 28 0 0) := rfl
set_option maxRecDepth 10000 in
theorem s_247 : rShp 247 = some (oS 1 [fN, fN, fN, fN, fN, fN, fN, fN, fN, fR 248, fR 249]) := rfl
set_option maxRecDepth 10000 in
theorem s_248 : rShp 248 = some (aS 0 7 0 0) := rfl
set_option maxRecDepth 10000 in
theorem s_249 : rShp 249 = some (aS 0 28 0 0) := rfl
set_option maxRecDepth 10000 in
theorem s_250 : rShp 250 = some (oS 1 [fN, fN, fN, fN, fN, fN, fN, fN, fN, fR 251, fR 252]) := rfl
set_option maxRecDepth 10000 in
theorem s_251 : rShp 251 = some (aS 0 7 0 0) := rfl
set_option maxRecDepth 10000 in
theorem s_252 : rShp 252 = some (aS 0 28 0 0) := rfl
set_option maxRecDepth 10000 in
theorem s_253 : rShp 253 = some (oS 3 [fR 254, fR 257, fN]) := rfl
set_option maxRecDepth 10000 in
theorem s_254 : rShp 254 = some (oS 1 [fN, fN, fN, fN, fN, fN, fN, fN, fN, fR 255, fR 256]) := rfl
set_option maxRecDepth 10000 in
theorem s_255 : rShp 255 = some (aS 0 7 0 0) := rfl
set_option maxRecDepth 10000 in
theorem s_256 : rShp 256 = some (aS 0 28 0 0) := rfl
set_option maxRecDepth 10000 in
theorem s_257 : rShp 257 = some (aS 4 16 258 3) := rfl
set_option maxRecDepth 10000 in
theorem s_258 : rShp 258 = some (oS 1 [fN, fN, fN, fN, fN, fN, fN, fN, fN, fR 259, fR 260]) := rfl
set_option maxRecDepth 10000 in
theorem s_259 : rShp 259 = some (aS 0 7 0 0) := rfl
set_option maxRecDepth 10000 in
theorem s_260 : rShp 260 = some (aS 0 28 0 0) := rfl
set_option maxRecDepth 10000 in
theorem s_261 : rShp 261 = some (oS 1 [fN, fN, fN, fN, fN, fN, fN, fN, fN, fR 262, fR 263]) := rfl
set_option maxRecDepth 10000 in
theorem s_262 : rShp 262 = some (aS 0 7 0 0) := rfl
set_option maxRecDepth 10000 in
theorem s_263 : rShp 263 = some (aS 0 28 0 0) := rfl
set_option maxRecDepth 10000 in
theorem s_264 : rShp 264 = some (oS 1 [fN, fN, fN, fN, fN, fN, fN, fN, fN, fR 265, fR 266]) := rfl
set_option maxRecDepth 10000 in
theorem s_265 : rShp 265 = some (aS 0 7 0 0) := rfl
set_option maxRecDepth 10000 in
theorem s_266 : rShp 266 = some (aS 0 28 0 0) := rfl
set_option maxRecDepth 10000 in
theorem s_267 : rShp 267 = some (oS 1 [fN, fN, fN, fN, fN, fN, fN, fN, fN, fR 268, fR 269]) := rfl
set_option maxRecDepth 10000 in
theorem s_268 : rShp 268 = some (aS 0 7 0 0) := rfl
set_option maxRecDepth 10000 in
theorem s_269 : rShp 269 = some (aS 0 28 0 0) := rfl
set_option maxRecDepth 10000 in
theorem s_270 : rShp 270 = some (oS 1 [fN, fN, fN, fN, fN, fN, fN, fN, fN, fR 271, fR 272]) := rfl
set_option maxRecDepth 10000 in
theorem s_271 : rShp 271 = some (aS 0 7 0 0) := rfl
set_option maxRecDepth 10000 in
theorem s_272 : rShp 272 = some (aS 0 28 0 0) := rfl
set_option maxRecDepth 10000 in
theorem s_273 : rShp 273 = some (oS 1 [fN, fN, fN, fN, fN, fN, fN, fN, fN, fR 274, fR 275]) := rfl
set_option maxRecDepth 10000 in
theorem s_274 : rShp 274 = some (aS 0 7 0 0) := rfl
set_option maxRecDepth 10000 in
theorem s_275 : rShp 275 = some (aS 0 28 0 0) := rfl
set_option maxRecDepth 10000 in
theorem s_276 : rShp 276 = some (oS 1 [fN, fN, fN, fN, fN, fN, fN, fN, fN, fR 277, fR 278]) := rfl
set_option maxRecDepth 10000 in
theorem s_277 : rShp 277 = some (aS 0 7 0 0) := rfl
set_option maxRecDepth 10000 in
theorem s_278 : rShp 278 = some (aS 0 28 0 0) := rfl
set_option maxRecDepth 10000 in
theorem s_279 : rShp 279 = some (oS 1 [fN, fN, fN, fN, fN, fN, fN, fN, fN, fR 280, fR 281]) := rfl
set_option maxRecDepth 10000 in
theorem s_280 : rShp 280 = some (aS 0 7 0 0) := rfl
set_option maxRecDepth 10000 in
theorem s_281 : rShp 281 = some (aS 0 28 0 0) := rfl
set_option maxRecDepth 10000 in
theorem s_282 : rShp 282 = some (oS 1 [fN, fN, fN, fN, fN, fN, fN, fN, fN, fR 283, fR 284]) := rfl
set_option maxRecDepth 10000 in
theorem s_283 : rShp 283 = some (aS 0 7 0 0) := rfl
set_option maxRecDepth 10000 in
theorem s_284 : rShp 284 = some (aS 0 28 0 0) := rfl
set_option maxRecDepth 10000 in
theorem s_285 : rShp 285 = some (oS 1 [fN, fN, fN, fN, fN, fN, fN, fN, fN, fR 286, fR 287]) := rfl
set_option maxRecDepth 10000 in
theorem s_286 : rShp 286 = some (aS 0 7 0 0) := rfl
set_option maxRecDepth 10000 in
theorem s_287 : rShp 287 = some (aS 0 28 0 0) := rfl
set_option maxRecDepth 10000 in
theorem s_288 : rShp 288 = some (oS 1 [fN, fN, fN, fN, fN, fN, fN, fN, fN, fR 289, fR 290]) := rfl
set_option maxRecDepth 10000 in
theorem s_289 : rShp 289 = some (aS 0 7 0 0) := rfl
set_option maxRecDepth 10000 in
theorem s_290 : rShp 290 = some (aS 0 28 0 0) := rfl
set_option maxRecDepth 10000 in
theorem s_291 : rShp 291 = some (oS 1 [fN, fN, fN, fN, fN, fN, fN, fN, fN, fR 292, fR 293]) := rfl
set_option maxRecDepth 10000 in
theorem s_292 : rShp 292 = some (aS 0 7 0 0) := rfl
set_option maxRecDepth 10000 in
theorem s_293 : rShp 293 = some (aS 0 28 0 0) := rfl
set_option maxRecDepth 10000 in
theorem s_294 : rShp 294 = some (oS 1 [fN, fN, fN, fN, fN, fN, fN, fN, fN, fR 295, fR 296]) := rfl
set_option maxRecDepth 10000 in
theorem s_295 : rShp 295 = some (aS 0 7 0 0) := rfl
set_option maxRecDepth 10000 in
theorem s_296 : rShp 296 = some (aS 0 28 0 0) := rfl
set_option maxRecDepth 10000 in
theorem s_297 : rShp 297 = some (oS 1 [fN, fN, fN, fN, fN, fN, fN, fN, fN, fR 298, fR 299]) := rfl
set_option maxRecDepth 10000 in
theorem s_298 : rShp 298 = some (aS 0 7 0 0) := rfl
set_option maxRecDepth 10000 in
theorem s_299 : rShp 299 = some (aS 0 28 0 0) := rfl
set_option maxRecDepth 10000 in
theorem s_300 : rShp 300 = some (oS 1 [fN, fN, fN, fN, fN, fN, fN, fN, fN, fR 301, fR 302]) := rfl
set_option maxRecDepth 10000 in
theorem s_301 : rShp 301 = some (aS 0 7 0 0) := rfl
set_option maxRecDepth 10000 in
theorem s_302 : rShp 302 = some (aS 0 28 0 0) := rfl
set_option maxRecDepth 10000 in
theorem s_303 : rShp 303 = some (oS 1 [fN, fN, fN, fN, fN, fN, fN, fN, fN, fR 304, fR 305]) := rfl
set_option maxRecDepth 10000 in
theorem s_304 : rShp 304 = some (aS 0 7 0 0) := rfl
set_option maxRecDepth 10000 in
theorem s_305 : rShp 305 = some (aS 0 28 0 0) := rfl
set_option maxRecDepth 10000 in
theorem s_306 : rShp 306 = some (oS 3 [fR 307, fR 310, fN]) := rfl
set_option maxRecDepth 10000 in
theorem s_307 : rShp 307 = some (oS 1 [fN, fN, fN, fN, fN, fN, fN, fN, fN, fR 308, fR 309]) := rfl
set_option maxRecDepth 10000 in
theorem s_308 : rShp 308 = some (aS 0 7 0 0) := rfl
set_option maxRecDepth 10000 in
theorem s_309 : rShp 309 = some (aS 0 28 0 0) := rfl
set_option maxRecDepth 10000 in
theorem s_310 : rShp 310 = some (aS 4 16 311 3) := rfl
set_option maxRecDepth 10000 in
theorem s_311 : rShp 311 = some (oS 1 [fN, fN, fN, fN, fN, fN, fN, fN, fN, fR 312, fR 313]) := rfl
set_option maxRecDepth 10000 in
theorem s_312 : rShp 312 = some (aS 0 7 0 0) := rfl
set_option maxRecDepth 10000 in
theorem s_313 : rShp 313 = some (aS 0 28 0 0) := rfl
set_option maxRecDepth 10000 in
theorem s_314 : rShp 314 = some (oS 1 [fN, fN, fN, fN, fN, fN, fN, fN, fN, fR 315, fR 316]) := rfl
set_option maxRecDepth 10000 in
theorem s_315 : rShp 315 = some (aS 0 7 0 0) := rfl
set_option maxRecDepth 10000 in
theorem s_316 : rShp 316 = some (aS 0 28 0 0) := rfl
set_option maxRecDepth 10000 in
theorem s_317 : rShp 317 = some (oS 1 [fN, fN, fN, fN, fN, fN, fN, fN, fN, fR 318, fR 319]) := rfl
set_option maxRecDepth 10000 in
theorem s_318 : rShp 318 = some (aS 0 7 0 0) := rfl
set_option maxRecDepth 10000 in
theorem s_319 : rShp 319 = some (aS 0 28 0 0) := rfl
set_option maxRecDepth 10000 in
theorem s_320 : rShp 320 = some (oS 1 [fN, fN, fN, fN, fN, fN, fN, fN, fN, fR 321, fR 322]) := rfl
set_option maxRecDepth 10000 in
theorem s_321 : rShp 321 = some (aS 0 7 0 0) := rfl
set_option maxRecDepth 10000 in
theorem s_322 : rShp 322 = some (aS 0 28 0 0) := rfl
set_option maxRecDepth 10000 in
theorem s_323 : rShp 323 = some (oS 1 [fN, fN, fN, fN, fN, fN, fN, fN, fN, fR 324, fR 325]) := rfl
set_option maxRecDepth 10000 in
theorem s_324 : rShp 324 = some (aS 0 7 0 0) := rfl
set_option maxRecDepth 10000 in
theorem s_325 : rShp 325 = some (aS 0 28 0 0) := rfl
set_option maxRecDepth 10000 in
theorem s_326 : rShp 326 = some (oS 1 [fN, fN, fN, fN, fN, fN, fN, fN, fN, fR 327, fR 328]) := rfl
set_option maxRecDepth 10000 in
theorem s_327 : rShp 327 = some (aS 0 7 0 0) := rfl
set_option maxRecDepth 10000 in
theorem s_328 : rShp 328 = some (aS 0 28 0 0) := rfl
set_option maxRecDepth 10000 in
theorem s_329 : rShp 329 = some (oS 1 [fN, fN, fN, fN, fN, fN, fN, fN, fN, fR 330, fR 331]) := rfl
set_option maxRecDepth 10000 in
theorem s_330 : rShp 330 = some (aS 0 7 0 0) := rfl
set_option maxRecDepth 10000 in
theorem s_331 : rShp 331 = some (aS 0 28 0 0) := rfl
set_option maxRecDepth 10000 in
theorem s_332 : rShp 332 = some (oS 1 [fN, fN, fN, fN, fN, fN, fN, fN, fN, fR 333, fR 334]) := rfl
set_option maxRecDepth 10000 in
theorem s_333 : rShp 333 = some (aS 0 7 0 0) := rfl
set_option maxRecDepth 10000 in
theorem s_334 : rShp 334 = some (aS 0 28 0 0) := rfl
set_option maxRecDepth 10000 in
theorem s_335 : rShp 335 = some (oS 1 [fN, fN, fN, fN, fN, fN, fN, fN, fN, fR 336, fR 337]) := rfl
set_option maxRecDepth 10000 in
theorem s_336 : rShp 336 = some (aS 0 7 0 0) := rfl
set_option maxRecDepth 10000 in
theorem s_337 : rShp 337 = some (aS 0 28 0 0) := rfl
set_option maxRecDepth 10000 in
theorem s_338 : rShp 338 = some (oS 1 [fN, fN, fN, fN, fN, fN, fN, fN, fN, fR 339, fR 340]) := rfl
set_option maxRecDepth 10000 in
theorem s_339 : rShp 339 = some (aS 0 7 0 0) := rfl
set_option maxRecDepth 10000 in
theorem s_340 : rShp 340 = some (aS 0 28 0 0) := rfl
set_option maxRecDepth 10000 in
theorem s_341 : rShp 341 = some (oS 1 [fN, fN, fN, fN, fN, fN, fN, fN, fN, fR 342, fR 343]) := rfl
set_option maxRecDepth 10000 in
theorem s_342 : rShp 342 = some (aS 0 7 0 0) := rfl
set_option maxRecDepth 10000 in
theorem s_343 : rShp 343 = some (aS 0 28 0 0) := rfl
set_option maxRecDepth 10000 in
theorem s_344 : rShp 344 = some (oS 1 [fN, fN, fN, fN, fN, fN, fN, fN, fN, fR 345, fR 346]) := rfl
set_option maxRecDepth 10000 in
theorem s_345 : rShp 345 = some (aS 0 7 0 0) := rfl
set_option maxRecDepth 10000 in
theorem s_346 : rShp 346 = some (aS 0 28 0 0) := rfl
set_option maxRecDepth 10000 in
theorem s_347 : rShp 347 = some (oS 1 [fN, fN, fN, fN, fN, fN, fN, fN, fN, fR 348, fR 349]) := rfl
set_option maxRecDepth 10000 in
theorem s_348 : rShp 348 = some (aS 0 7 0 0) := rfl
set_option maxRecDepth 10000 in
theorem s_349 : rShp 349 = some (aS 0 28 0 0) := rfl
set_option maxRecDepth 10000 in
theorem s_350 : rShp 350 = some (oS 1 [fN, fN, fN, fN, fN, fN, fN, fN, fN, fR 351, fR 352]) := rfl
set_option maxRecDepth 10000 in
theorem s_351 : rShp 351 = some (aS 0 7 0 0) := rfl
set_option maxRecDepth 10000 in
theorem s_352 : rShp 352 = some (aS 0 28 0 0) := rfl
set_option maxRecDepth 10000 in
theorem s_353 : rShp 353 = some (oS 1 [fN, fN, fN, fN, fN, fN, fN, fN, fN, fR 354, fR 355]) := rfl
set_option maxRecDepth 10000 in
theorem s_354 : rShp 354 = some (aS 0 7 0 0) := rfl
set_option maxRecDepth 10000 in
theorem s_355 : rShp 355 = some (aS 0 28 0 0) := rfl
set_option maxRecDepth 10000 in
theorem s_356 : rShp 356 = some (oS 1 [fN, fN, fN, fN, fN, fN, fN, fN, fN, fR 357, fR 358]) := rfl
set_option maxRecDepth 10000 in
theorem s_357 : rShp 357 = some (aS 0 7 0 0) := rfl
set_option maxRecDepth 10000 in
theorem s_358 : rShp 358 = some (aS 0 28 0 0) := rfl
set_option maxRecDepth 10000 in
theorem s_359 : rShp 359 = some (oS 5 [fR 360, fN]) := rfl
set_option maxRecDepth 10000 in
theorem s_360 : rShp 360 = some (aS 0 7 0 0) := rfl
set_option maxRecDepth 10000 in
theorem s_361 : rShp 361 = some (oS 5 [fR 362, fN]) := rfl
set_option maxRecDepth 10000 in
theorem s_362 : rShp 362 = some (aS 0 7 0 0) := rfl
set_option maxRecDepth 10000 in
theorem s_363 : rShp 363 = some (oS 11 [fN, fR 364, fN, fN, fN, fN, fN, fN, fN, fR 365, fR 366, fR 367, fN, fN, fN, fN, fN, fN, fR 368, fR 369, fR 370, fR 371, fR 372, fN, fN, fR 373, fR 374, fR 375, fN, fN, fN, fN, fN, fN, fR 376, fR 377, fR 378, fR 379, fR 380, fR 381, fR 382, fR 383, fN, fR 384, fR 385, fR 386, fR 387, fR 388, fN, fR 389, fN, fR 390, fN]) := rfl
set_option maxRecDepth 10000 in
theorem s_364 : rShp 364 = some (aS 0 2 0 0) := rfl
set_option maxRecDepth 10000 in
theorem s_365 : rShp 365 = some (aS 0 600 0 0) := rfl
set_option maxRecDepth 10000 in
theorem s_366 : rShp 366 = some (aS 0 28 0 0) := rfl
set_option maxRecDepth 10000 in
theorem s_367 : rShp 367 = some (aS 0 28 0 0) := rfl
set_option maxRecDepth 10000 in
theorem s_368 : rShp 368 = some (aS 0 150 0 0) := rfl
set_option maxRecDepth 10000 in
theorem s_369 : rShp 369 = some (aS 0 150 0 0) := rfl
set_option maxRecDepth 10000 in
theorem s_370 : rShp 370 = some (aS 0 150 0 0) := rfl
set_option maxRecDepth 10000 in
theorem s_371 : rShp 371 = some (aS 0 150 0 0) := rfl
set_option maxRecDepth 10000 in
theorem s_372 : rShp 372 = some (aS 0 150 0 0) := rfl
set_option maxRecDepth 10000 in
theorem s_373 : rShp 373 = some (aS 0 7 0 0) := rfl
set_option maxRecDepth 10000 in
theorem s_374 : rShp 374 = some (aS 0 200 0 0) := rfl
set_option maxRecDepth 10000 in
theorem s_375 : rShp 375 = some (aS 0 200 0 0) := rfl
set_option maxRecDepth 10000 in
theorem s_376 : rShp 376 = some (aS 0 48 0 0) := rfl
set_option maxRecDepth 10000 in
theorem s_377 : rShp 377 = some (aS 0 48 0 0) := rfl
set_option maxRecDepth 10000 in
theorem s_378 : rShp 378 = some (aS 0 768 0 0) := rfl
set_option maxRecDepth 10000 in
theorem s_379 : rShp 379 = some (aS 0 7 0 0) := rfl
set_option maxRecDepth 10000 in
theorem s_380 : rShp 380 = some (aS 0 14 0 0) := rfl
set_option maxRecDepth 10000 in
theorem s_381 : rShp 381 = some (aS 0 2 0 0) := rfl
set_option maxRecDepth 10000 in
theorem s_382 : rShp 382 = some (aS 0 21 0 0) := rfl
set_option maxRecDepth 10000 in
theorem s_383 : rShp 383 = some (aS 0 21 0 0) := rfl
set_option maxRecDepth 10000 in
theorem s_384 : rShp 384 = some (aS 0 128 0 0) := rfl
set_option maxRecDepth 10000 in
theorem s_385 : rShp 385 = some (aS 0 7 0 0) := rfl
set_option maxRecDepth 10000 in
theorem s_386 : rShp 386 = some (aS 0 7 0 0) := rfl
set_option maxRecDepth 10000 in
theorem s_387 : rShp 387 = some (aS 0 784 0 0) := rfl
set_option maxRecDepth 10000 in
theorem s_388 : rShp 388 = some (aS 0 28 0 0) := rfl
set_option maxRecDepth 10000 in
theorem s_389 : rShp 389 = some (aS 0 16 0 0) := rfl
set_option maxRecDepth 10000 in
theorem s_390 : rShp 390 = some (aS 0 2451 0 0) := rfl
def rR0 : rRow := (yX1_init, cX1_init, 1, none, 1, 1, [], 2, (396, 111, 395, 0), rI0)
set_option maxRecDepth 10000 in
theorem q_0 : rMs[0]? = some rR0 := rfl
def rR1 : rRow := (yX8_isFaulty, cX8_isFaulty, 1, (some .boolean), 8, 1, [], 1, (673, 102, 671, 672), rI1)
set_option maxRecDepth 10000 in
theorem q_1 : rMs[1]? = some rR1 := rfl
def rR2 : rRow := (yX8_next, cX8_next, 1, (some .int), 8, 1, [], 1, (677, 102, 675, 676), rI2)
set_option maxRecDepth 10000 in
theorem q_2 : rMs[2]? = some rR2 := rfl
def rR3 : rRow := (yX8_isFrom, cX8_isFrom, 4, (some .boolean), 8, 4, [], 1, (681, 102, 680, 4), rI3)
set_option maxRecDepth 10000 in
theorem q_3 : rMs[3]? = some rR3 := rfl
def rR4 : rRow := (yX8_startsNumber, cX8_startsNumber, 1, (some .boolean), 8, 1, [], 1, (808, 102, 806, 807), rI4)
set_option maxRecDepth 10000 in
theorem q_4 : rMs[4]? = some rR4 := rfl
def rR5 : rRow := (yX8_blame, cX8_blame, 3, none, 8, 3, [], 1, (745, 102, 743, 744), rI5)
set_option maxRecDepth 10000 in
theorem q_5 : rMs[5]? = some rR5 := rfl
def rR6 : rRow := (yX12_isWithin, cX12_isWithin, 3, (some .boolean), 12, 3, [], 0, (520, 101, 519, 0), rI6)
set_option maxRecDepth 10000 in
theorem q_6 : rMs[6]? = some rR6 := rfl
def rR7 : rRow := (yX8_number, cX8_number, 5, (some .int), 8, 3, [], 1, (753, 102, 751, 752), rI7)
set_option maxRecDepth 10000 in
theorem q_7 : rMs[7]? = some rR7 := rfl
def rR8 : rRow := (yX8_takes, cX8_takes, 2, (some .boolean), 8, 2, [], 1, (817, 102, 815, 816), rI8)
set_option maxRecDepth 10000 in
theorem q_8 : rMs[8]? = some rR8 := rfl
def rR9 : rRow := (yX8_expect, cX8_expect, 3, none, 8, 2, [], 1, (763, 102, 761, 762), rI9)
set_option maxRecDepth 10000 in
theorem q_9 : rMs[9]? = some rR9 := rfl
def rR10 : rRow := (yX1_readFrom, cX1_readFrom, 5, none, 1, 2, [], 1, (1000, 111, 998, 999), rI10)
set_option maxRecDepth 10000 in
theorem q_10 : rMs[10]? = some rR10 := rfl
def rR11 : rRow := (yX1_tellsOf, cX1_tellsOf, 4, (some .boolean), 1, 3, [], 1, (1294, 111, 1292, 1293), rI11)
set_option maxRecDepth 10000 in
theorem q_11 : rMs[11]? = some rR11 := rfl
def rR12 : rRow := (yX2_placeIn, cX2_placeIn, 3, (some .int), 2, 3, [], 1, (513, 105, 511, 512), rI12)
set_option maxRecDepth 10000 in
theorem q_12 : rMs[12]? = some rR12 := rfl
def rR13 : rRow := (yX2_isPlace, cX2_isPlace, 2, (some .boolean), 2, 2, [], 1, (517, 105, 515, 516), rI13)
set_option maxRecDepth 10000 in
theorem q_13 : rMs[13]? = some rR13 := rfl
def rR14 : rRow := (yX2_isOver, cX2_isOver, 2, (some .boolean), 2, 2, [], 1, (532, 105, 530, 531), rI14)
set_option maxRecDepth 10000 in
theorem q_14 : rMs[14]? = some rR14 := rfl
def rR15 : rRow := (yX2_toldHalf, cX2_toldHalf, 3, (some .int), 2, 3, [], 1, (528, 105, 527, 0), rI15)
set_option maxRecDepth 10000 in
theorem q_15 : rMs[15]? = some rR15 := rfl
def rR16 : rRow := (yX2_isHalf, cX2_isHalf, 2, (some .boolean), 2, 2, [], 0, (539, 105, 538, 0), rI16)
set_option maxRecDepth 10000 in
theorem q_16 : rMs[16]? = some rR16 := rfl
def rR17 : rRow := (yX2_toldMark, cX2_toldMark, 3, (some .int), 2, 3, [], 1, (536, 105, 534, 535), rI17)
set_option maxRecDepth 10000 in
theorem q_17 : rMs[17]? = some rR17 := rfl
def rR18 : rRow := (yX2_lyingMark, cX2_lyingMark, 3, (some .int), 2, 3, [], 1, (524, 105, 522, 523), rI18)
set_option maxRecDepth 10000 in
theorem q_18 : rMs[18]? = some rR18 := rfl
def rR19 : rRow := (yX2_markIn, cX2_markIn, 4, (some .int), 2, 3, [], 1, (509, 105, 507, 508), rI19)
set_option maxRecDepth 10000 in
theorem q_19 : rMs[19]? = some rR19 := rfl
def rR20 : rRow := (yX1_isRightFor, cX1_isRightFor, 3, (some .boolean), 1, 2, [], 1, (1274, 111, 1272, 1273), rI20)
set_option maxRecDepth 10000 in
theorem q_20 : rMs[20]? = some rR20 := rfl
def rR21 : rRow := (yX2_init, cX2_init, 1, none, 2, 1, [], 2, (207, 105, 206, 0), rI21)
set_option maxRecDepth 10000 in
theorem q_21 : rMs[21]? = some rR21 := rfl
def rR22 : rRow := (yX2_become, cX2_become, 2, none, 2, 2, [], 1, (494, 105, 492, 493), rI22)
set_option maxRecDepth 10000 in
theorem q_22 : rMs[22]? = some rR22 := rfl
def rR23 : rRow := (yX2_isShut, cX2_isShut, 1, (some .boolean), 2, 1, [], 1, (665, 105, 663, 664), rI23)
set_option maxRecDepth 10000 in
theorem q_23 : rMs[23]? = some rR23 := rfl
def rR24 : rRow := (yX2_shut, cX2_shut, 1, (some .boolean), 2, 1, [], 1, (661, 105, 659, 660), rI24)
set_option maxRecDepth 10000 in
theorem q_24 : rMs[24]? = some rR24 := rfl
def rR25 : rRow := (yX2_clear, cX2_clear, 2, none, 2, 1, [], 1, (657, 105, 656, 3), rI25)
set_option maxRecDepth 10000 in
theorem q_25 : rMs[25]? = some rR25 := rfl
def rR26 : rRow := (yX8_startsWord, cX8_startsWord, 1, (some .boolean), 8, 1, [], 1, (669, 102, 667, 668), rI26)
set_option maxRecDepth 10000 in
theorem q_26 : rMs[26]? = some rR26 := rfl
def rR27 : rRow := (yX8_takesWord, cX8_takesWord, 5, (some .boolean), 8, 2, [], 1, (691, 102, 689, 690), rI27)
set_option maxRecDepth 10000 in
theorem q_27 : rMs[27]? = some rR27 := rfl
def rR28 : rRow := (yX2_setToldMark, cX2_setToldMark, 4, none, 2, 4, [], 1, (759, 105, 758, 7), rI28)
set_option maxRecDepth 10000 in
theorem q_28 : rMs[28]? = some rR28 := rfl
def rR29 : rRow := (yX2_readStick, cX2_readStick, 3, none, 2, 2, [], 1, (749, 105, 748, 6), rI29)
set_option maxRecDepth 10000 in
theorem q_29 : rMs[29]? = some rR29 := rfl
def rR30 : rRow := (yX2_readClause, cX2_readClause, 7, none, 2, 3, [], 1, (685, 105, 684, 5), rI30)
set_option maxRecDepth 10000 in
theorem q_30 : rMs[30]? = some rR30 := rfl
def rR31 : rRow := (yX2_readFrom, cX2_readFrom, 4, none, 2, 2, [], 1, (653, 105, 651, 652), rI31)
set_option maxRecDepth 10000 in
theorem q_31 : rMs[31]? = some rR31 := rfl
def rR32 : rRow := (yX2_placeOf, cX2_placeOf, 3, (some .int), 2, 2, [], 1, (1048, 105, 1046, 1047), rI32)
set_option maxRecDepth 10000 in
theorem q_32 : rMs[32]? = some rR32 := rfl
def rR33 : rRow := (yX2_isStick, cX2_isStick, 2, (some .boolean), 2, 2, [], 1, (1024, 105, 1022, 1023), rI33)
set_option maxRecDepth 10000 in
theorem q_33 : rMs[33]? = some rR33 := rfl
def rR34 : rRow := (yX2_readsAlike, cX2_readsAlike, 3, (some .boolean), 2, 2, [], 1, (505, 105, 503, 504), rI34)
set_option maxRecDepth 10000 in
theorem q_34 : rMs[34]? = some rR34 := rfl
def rR35 : rRow := (yX2_liesAlike, cX2_liesAlike, 4, (some .boolean), 2, 3, [], 1, (1057, 105, 1056, 22), rI35)
set_option maxRecDepth 10000 in
theorem q_35 : rMs[35]? = some rR35 := rfl
def rR36 : rRow := (yX2_twinsOf, cX2_twinsOf, 4, (some .int), 2, 2, [], 1, (1053, 105, 1051, 1052), rI36)
set_option maxRecDepth 10000 in
theorem q_36 : rMs[36]? = some rR36 := rfl
def rR37 : rRow := (yX5_tellOpening, cX5_tellOpening, 3, none, 5, 3, [], 1, (920, 109, 918, 919), rI37)
set_option maxRecDepth 10000 in
theorem q_37 : rMs[37]? = some rR37 := rfl
def rR38 : rRow := (yJ6_bitCount_0f7a4, cJ6_bitCount_0f7a4, 1, (some .int), 15, 1, [], 0, (923, 126, 922, 0), rI38)
set_option maxRecDepth 10000 in
theorem q_38 : rMs[38]? = some rR38 := rfl
def rR39 : rRow := (yX5_tellState, cX5_tellState, 6, none, 5, 6, [], 1, (930, 109, 928, 929), rI39)
set_option maxRecDepth 10000 in
theorem q_39 : rMs[39]? = some rR39 := rfl
def rR40 : rRow := (yX5_join, cX5_join, 3, (some .int), 5, 3, [], 0, (937, 109, 936, 0), rI40)
set_option maxRecDepth 10000 in
theorem q_40 : rMs[40]? = some rR40 := rfl
def rR41 : rRow := (yX5_fact, cX5_fact, 3, (some .int), 5, 2, [], 1, (945, 109, 944, 20), rI41)
set_option maxRecDepth 10000 in
theorem q_41 : rMs[41]? = some rR41 := rfl
def rR42 : rRow := (yX5_strainAsTold, cX5_strainAsTold, 5, (some .int), 5, 1, [], 1, (934, 109, 932, 933), rI42)
set_option maxRecDepth 10000 in
theorem q_42 : rMs[42]? = some rR42 := rfl
def rR43 : rRow := (yX5_strainOf, cX5_strainOf, 4, (some .int), 5, 4, [], 1, (916, 109, 914, 915), rI43)
set_option maxRecDepth 10000 in
theorem q_43 : rMs[43]? = some rR43 := rfl
def rR44 : rRow := (yX2_open, cX2_open, 5, (some .boolean), 2, 4, [], 1, (912, 105, 910, 911), rI44)
set_option maxRecDepth 10000 in
theorem q_44 : rMs[44]? = some rR44 := rfl
def rR45 : rRow := (yX2_swap, cX2_swap, 4, (some .boolean), 2, 3, [], 1, (950, 105, 948, 949), rI45)
set_option maxRecDepth 10000 in
theorem q_45 : rMs[45]? = some rR45 := rfl
def rR46 : rRow := (yX2_turn, cX2_turn, 2, (some .boolean), 2, 2, [], 1, (954, 105, 952, 953), rI46)
set_option maxRecDepth 10000 in
theorem q_46 : rMs[46]? = some rR46 := rfl
def rR47 : rRow := (yX2_paint, cX2_paint, 5, (some .boolean), 2, 4, [], 1, (958, 105, 956, 957), rI47)
set_option maxRecDepth 10000 in
theorem q_47 : rMs[47]? = some rR47 := rfl
def rR48 : rRow := (yX2_oil, cX2_oil, 1, (some .boolean), 2, 1, [], 1, (962, 105, 960, 961), rI48)
set_option maxRecDepth 10000 in
theorem q_48 : rMs[48]? = some rR48 := rfl
def rR49 : rRow := (yX2_passSeason, cX2_passSeason, 1, none, 2, 1, [], 1, (970, 105, 968, 969), rI49)
set_option maxRecDepth 10000 in
theorem q_49 : rMs[49]? = some rR49 := rfl
def rR50 : rRow := (yX2_endSeason, cX2_endSeason, 1, (some .boolean), 2, 1, [], 1, (966, 105, 964, 965), rI50)
set_option maxRecDepth 10000 in
theorem q_50 : rMs[50]? = some rR50 := rfl
def rR51 : rRow := (yX3_init, cX3_init, 1, none, 3, 1, [], 2, (311, 107, 310, 0), rI51)
set_option maxRecDepth 10000 in
theorem q_51 : rMs[51]? = some rR51 := rfl
def rR52 : rRow := (yX3_make, cX3_make, 2, none, 3, 2, [], 1, (1268, 107, 1267, 29), rI52)
set_option maxRecDepth 10000 in
theorem q_52 : rMs[52]? = some rR52 := rfl
def rR53 : rRow := (yX3_keepIfRight, cX3_keepIfRight, 4, none, 3, 3, [], 1, (1264, 107, 1263, 28), rI53)
set_option maxRecDepth 10000 in
theorem q_53 : rMs[53]? = some rR53 := rfl
def rR54 : rRow := (yX3_find, cX3_find, 5, none, 3, 3, [], 1, (1258, 107, 1256, 1257), rI54)
set_option maxRecDepth 10000 in
theorem q_54 : rMs[54]? = some rR54 := rfl
def rR55 : rRow := (yX3_first, cX3_first, 1, (some .int), 3, 1, [], 1, (1279, 107, 1277, 1278), rI55)
set_option maxRecDepth 10000 in
theorem q_55 : rMs[55]? = some rR55 := rfl
def rR56 : rRow := (yJ7_fill_53178, cJ7_fill_53178, 4, none, 17, 2, [], 0, (1149, 128, 1148, 0), rI56)
set_option maxRecDepth 10000 in
theorem q_56 : rMs[56]? = some rR56 := rfl
def rR57 : rRow := (yX3_leftAtWorst, cX3_leftAtWorst, 6, (some .int), 3, 3, [], 1, (1298, 107, 1297, 30), rI57)
set_option maxRecDepth 10000 in
theorem q_57 : rMs[57]? = some rR57 := rfl
def rR58 : rRow := (yX3_findLook, cX3_findLook, 5, none, 3, 2, [], 1, (1290, 107, 1288, 1289), rI58)
set_option maxRecDepth 10000 in
theorem q_58 : rMs[58]? = some rR58 := rfl
def rR59 : rRow := (yX4_init, cX4_init, 2, none, 4, 1, [], 2, (201, 104, 200, 0), rI59)
set_option maxRecDepth 10000 in
theorem q_59 : rMs[59]? = some rR59 := rfl
def rR60 : rRow := (yX4_become, cX4_become, 3, none, 4, 2, [], 1, (547, 104, 545, 546), rI60)
set_option maxRecDepth 10000 in
theorem q_60 : rMs[60]? = some rR60 := rfl
def rR61 : rRow := (yX4_remember, cX4_remember, 1, none, 4, 1, [], 1, (882, 104, 880, 881), rI61)
set_option maxRecDepth 10000 in
theorem q_61 : rMs[61]? = some rR61 := rfl
def rR62 : rRow := (yX4_takeBack, cX4_takeBack, 1, (some .boolean), 4, 1, [], 1, (490, 104, 488, 489), rI62)
set_option maxRecDepth 10000 in
theorem q_62 : rMs[62]? = some rR62 := rfl
def rR63 : rRow := (yX5_init, cX5_init, 1, none, 5, 1, [], 2, (363, 109, 362, 0), rI63)
set_option maxRecDepth 10000 in
theorem q_63 : rMs[63]? = some rR63 := rfl
def rR64 : rRow := (yX5_clear, cX5_clear, 1, none, 5, 1, [], 1, (780, 109, 778, 779), rI64)
set_option maxRecDepth 10000 in
theorem q_64 : rMs[64]? = some rR64 := rfl
def rR65 : rRow := (yX5_add, cX5_add, 2, none, 5, 2, [], 1, (813, 109, 812, 11), rI65)
set_option maxRecDepth 10000 in
theorem q_65 : rMs[65]? = some rR65 := rfl
def rR66 : rRow := (yX5_readFact, cX5_readFact, 4, none, 5, 3, [], 1, (834, 109, 833, 14), rI66)
set_option maxRecDepth 10000 in
theorem q_66 : rMs[66]? = some rR66 := rfl
def rR67 : rRow := (yX5_readBracket, cX5_readBracket, 4, none, 5, 4, [], 1, (821, 109, 820, 12), rI67)
set_option maxRecDepth 10000 in
theorem q_67 : rMs[67]? = some rR67 := rfl
def rR68 : rRow := (yX5_readPair, cX5_readPair, 5, none, 5, 5, [], 1, (829, 109, 828, 13), rI68)
set_option maxRecDepth 10000 in
theorem q_68 : rMs[68]? = some rR68 := rfl
def rR69 : rRow := (yX5_readProduct, cX5_readProduct, 5, none, 5, 3, [], 1, (799, 109, 798, 9), rI69)
set_option maxRecDepth 10000 in
theorem q_69 : rMs[69]? = some rR69 := rfl
def rR70 : rRow := (yX5_readSum, cX5_readSum, 5, none, 5, 3, [], 1, (795, 109, 794, 8), rI70)
set_option maxRecDepth 10000 in
theorem q_70 : rMs[70]? = some rR70 := rfl
def rR71 : rRow := (yX5_readUnit, cX5_readUnit, 4, none, 5, 3, [], 1, (803, 109, 802, 10), rI71)
set_option maxRecDepth 10000 in
theorem q_71 : rMs[71]? = some rR71 := rfl
def rR72 : rRow := (yX5_readFrom, cX5_readFrom, 2, none, 5, 2, [], 1, (791, 109, 789, 790), rI72)
set_option maxRecDepth 10000 in
theorem q_72 : rMs[72]? = some rR72 := rfl
def rR73 : rRow := (yX6_init, cX6_init, 1, none, 6, 1, [], 2, (381, 110, 380, 0), rI73)
set_option maxRecDepth 10000 in
theorem q_73 : rMs[73]? = some rR73 := rfl
def rR74 : rRow := (yX6_readFrom, cX6_readFrom, 5, none, 6, 2, [], 1, (984, 110, 982, 983), rI74)
set_option maxRecDepth 10000 in
theorem q_74 : rMs[74]? = some rR74 := rfl
def rR75 : rRow := (yX6_markAt, cX6_markAt, 2, (some .int), 6, 2, [], 1, (1129, 110, 1127, 1128), rI75)
set_option maxRecDepth 10000 in
theorem q_75 : rMs[75]? = some rR75 := rfl
def rR76 : rRow := (yX6_unlikeIn, cX6_unlikeIn, 6, (some .int), 6, 3, [], 1, (1125, 110, 1123, 1124), rI76)
set_option maxRecDepth 10000 in
theorem q_76 : rMs[76]? = some rR76 := rfl
def rR77 : rRow := (yX6_isShownBy, cX6_isShownBy, 3, (some .boolean), 6, 3, [], 1, (1121, 110, 1119, 1120), rI77)
set_option maxRecDepth 10000 in
theorem q_77 : rMs[77]? = some rR77 := rfl
def rR78 : rRow := (yX7_takenFrom, cX7_takenFrom, 2, (some (.object "FanHouse$Step")), 7, 1, [], 0, (865, 124, 864, 0), rI78)
set_option maxRecDepth 10000 in
theorem q_78 : rMs[78]? = some rR78 := rfl
def rR79 : rRow := (yX8_init, cX8_init, 1, none, 8, 1, [], 2, (141, 102, 140, 0), rI79)
set_option maxRecDepth 10000 in
theorem q_79 : rMs[79]? = some rR79 := rfl
def rR80 : rRow := (yX8_hasRoom, cX8_hasRoom, 1, (some .boolean), 8, 1, [], 1, (474, 102, 472, 473), rI80)
set_option maxRecDepth 10000 in
theorem q_80 : rMs[80]? = some rR80 := rfl
def rR81 : rRow := (yX8_put, cX8_put, 3, none, 8, 2, [], 1, (478, 102, 476, 477), rI81)
set_option maxRecDepth 10000 in
theorem q_81 : rMs[81]? = some rR81 := rfl
def rR82 : rRow := (yX8_holds, cX8_holds, 3, (some .boolean), 8, 3, [], 1, (571, 102, 569, 570), rI82)
set_option maxRecDepth 10000 in
theorem q_82 : rMs[82]? = some rR82 := rfl
def rR83 : rRow := (yX8_begin, cX8_begin, 2, none, 8, 2, [], 1, (646, 102, 644, 645), rI83)
set_option maxRecDepth 10000 in
theorem q_83 : rMs[83]? = some rR83 := rfl
def rR84 : rRow := (yX8_isAtEnd, cX8_isAtEnd, 1, (some .boolean), 8, 1, [], 1, (771, 102, 769, 770), rI84)
set_option maxRecDepth 10000 in
theorem q_84 : rMs[84]? = some rR84 := rfl
def rR85 : rRow := (yX8_finish, cX8_finish, 1, (some .boolean), 8, 1, [], 1, (767, 102, 765, 766), rI85)
set_option maxRecDepth 10000 in
theorem q_85 : rMs[85]? = some rR85 := rfl
def rR86 : rRow := (yX8_faultAnswer, cX8_faultAnswer, 1, (some .int), 8, 1, [], 1, (775, 102, 773, 774), rI86)
set_option maxRecDepth 10000 in
theorem q_86 : rMs[86]? = some rR86 := rfl
def rR87 : rRow := (yX9_init, cX9_init, 1, none, 9, 1, [], 2, (284, 106, 283, 0), rI87)
set_option maxRecDepth 10000 in
theorem q_87 : rMs[87]? = some rR87 := rfl
def rR88 : rRow := (yX9_begin, cX9_begin, 2, none, 9, 2, [], 1, (1145, 106, 1143, 1144), rI88)
set_option maxRecDepth 10000 in
theorem q_88 : rMs[88]? = some rR88 := rfl
def rR89 : rRow := (yX9_fitting, cX9_fitting, 6, (some .int), 9, 4, [], 1, (1160, 106, 1159, 24), rI89)
set_option maxRecDepth 10000 in
theorem q_89 : rMs[89]? = some rR89 := rfl
def rR90 : rRow := (yX9_narrow, cX9_narrow, 7, (some .boolean), 9, 3, [], 1, (1153, 106, 1151, 1152), rI90)
set_option maxRecDepth 10000 in
theorem q_90 : rMs[90]? = some rR90 := rfl
def rR91 : rRow := (yX9_allowedAt, cX9_allowedAt, 4, (some .int), 9, 3, [], 1, (1170, 106, 1169, 25), rI91)
set_option maxRecDepth 10000 in
theorem q_91 : rMs[91]? = some rR91 := rfl
def rR92 : rRow := (yX9_total, cX9_total, 6, (some .int), 9, 1, [], 1, (1165, 106, 1163, 1164), rI92)
set_option maxRecDepth 10000 in
theorem q_92 : rMs[92]? = some rR92 := rfl
def rR93 : rRow := (yX9_firstStick, cX9_firstStick, 5, (some .int), 9, 3, [], 1, (1185, 106, 1184, 26), rI93)
set_option maxRecDepth 10000 in
theorem q_93 : rMs[93]? = some rR93 := rfl
def rR94 : rRow := (yX9_firstAt, cX9_firstAt, 5, (some .int), 9, 2, [], 1, (1181, 106, 1179, 1180), rI94)
set_option maxRecDepth 10000 in
theorem q_94 : rMs[94]? = some rR94 := rfl
def rR95 : rRow := (yX9_fewestHalves, cX9_fewestHalves, 7, (some .int), 9, 1, [], 1, (1203, 106, 1201, 1202), rI95)
set_option maxRecDepth 10000 in
theorem q_95 : rMs[95]? = some rR95 := rfl
def rR96 : rRow := (yX9_search, cX9_search, 9, none, 9, 3, [], 1, (1220, 106, 1219, 27), rI96)
set_option maxRecDepth 10000 in
theorem q_96 : rMs[96]? = some rR96 := rfl
def rR97 : rRow := (yX9_fewestMoves, cX9_fewestMoves, 1, (some .int), 9, 1, [], 1, (1215, 106, 1213, 1214), rI97)
set_option maxRecDepth 10000 in
theorem q_97 : rMs[97]? = some rR97 := rfl
def rR98 : rRow := (yX10_init, cX10_init, 1, none, 10, 1, [], 2, (169, 103, 168, 0), rI98)
set_option maxRecDepth 10000 in
theorem q_98 : rMs[98]? = some rR98 := rfl
def rR99 : rRow := (yX10_readNumber, cX10_readNumber, 3, (some .int), 10, 3, [], 0, (876, 103, 875, 0), rI99)
set_option maxRecDepth 10000 in
theorem q_99 : rMs[99]? = some rR99 := rfl
def rR100 : rRow := (yX10_readStep, cX10_readStep, 8, none, 10, 4, [], 1, (861, 103, 860, 16), rI100)
set_option maxRecDepth 10000 in
theorem q_100 : rMs[100]? = some rR100 := rfl
def rR101 : rRow := (yX10_readSteps, cX10_readSteps, 5, none, 10, 4, [], 1, (856, 103, 855, 15), rI101)
set_option maxRecDepth 10000 in
theorem q_101 : rMs[101]? = some rR101 := rfl
def rR102 : rRow := (yX10_readFrom, cX10_readFrom, 3, none, 10, 3, [], 1, (852, 103, 850, 851), rI102)
set_option maxRecDepth 10000 in
theorem q_102 : rMs[102]? = some rR102 := rfl
def rR103 : rRow := (yX10_doStep, cX10_doStep, 7, (some .boolean), 10, 5, [], 1, (899, 103, 898, 19), rI103)
set_option maxRecDepth 10000 in
theorem q_103 : rMs[103]? = some rR103 := rfl
def rR104 : rRow := (yX10_doAgain, cX10_doAgain, 7, none, 10, 5, [], 1, (895, 103, 894, 18), rI104)
set_option maxRecDepth 10000 in
theorem q_104 : rMs[104]? = some rR104 := rfl
def rR105 : rRow := (yX10_doSteps, cX10_doSteps, 9, none, 10, 6, [], 1, (890, 103, 889, 17), rI105)
set_option maxRecDepth 10000 in
theorem q_105 : rMs[105]? = some rR105 := rfl
def rR106 : rRow := (yX10_doAll, cX10_doAll, 3, none, 10, 3, [], 1, (886, 103, 884, 885), rI106)
set_option maxRecDepth 10000 in
theorem q_106 : rMs[106]? = some rR106 := rfl
def rR107 : rRow := (yX11_init, cX11_init, 1, none, 11, 1, [], 2, (341, 108, 340, 0), rI107)
set_option maxRecDepth 10000 in
theorem q_107 : rMs[107]? = some rR107 := rfl
def rR108 : rRow := (yX11_draw, cX11_draw, 2, (some .int), 11, 2, [], 1, (1348, 108, 1347, 31), rI108)
set_option maxRecDepth 10000 in
theorem q_108 : rMs[108]? = some rR108 := rfl
def rR109 : rRow := (yX11_drawOpen, cX11_drawOpen, 4, none, 11, 2, [], 1, (1357, 108, 1356, 33), rI109)
set_option maxRecDepth 10000 in
theorem q_109 : rMs[109]? = some rR109 := rfl
def rR110 : rRow := (yX11_drawSwap, cX11_drawSwap, 3, none, 11, 1, [], 1, (1363, 108, 1362, 34), rI110)
set_option maxRecDepth 10000 in
theorem q_110 : rMs[110]? = some rR110 := rfl
def rR111 : rRow := (yX11_drawPaint, cX11_drawPaint, 4, none, 11, 1, [], 1, (1369, 108, 1368, 35), rI111)
set_option maxRecDepth 10000 in
theorem q_111 : rMs[111]? = some rR111 := rfl
def rR112 : rRow := (yX11_act, cX11_act, 2, none, 11, 2, [], 1, (1353, 108, 1352, 32), rI112)
set_option maxRecDepth 10000 in
theorem q_112 : rMs[112]? = some rR112 := rfl
def rR113 : rRow := (yX11_live, cX11_live, 8, none, 11, 6, [], 1, (1343, 108, 1341, 1342), rI113)
set_option maxRecDepth 10000 in
theorem q_113 : rMs[113]? = some rR113 := rfl
def rR114 : rRow := (yX12_init, cX12_init, 2, none, 12, 1, [], 2, (133, 101, 132, 0), rI114)
set_option maxRecDepth 10000 in
theorem q_114 : rMs[114]? = some rR114 := rfl
def rR115 : rRow := (yX12_feed, cX12_feed, 6, (some .int), 12, 6, [], 1, (470, 101, 468, 469), rI115)
set_option maxRecDepth 10000 in
theorem q_115 : rMs[115]? = some rR115 := rfl
def rR116 : rRow := (yX12_allow, cX12_allow, 2, none, 12, 2, [], 1, (575, 101, 574, 1), rI116)
set_option maxRecDepth 10000 in
theorem q_116 : rMs[116]? = some rR116 := rfl
def rR117 : rRow := (yX12_fan, cX12_fan, 2, (some .int), 12, 2, [], 1, (567, 101, 565, 566), rI117)
set_option maxRecDepth 10000 in
theorem q_117 : rMs[117]? = some rR117 := rfl
def rR118 : rRow := (yX12_law, cX12_law, 3, (some .int), 12, 2, [], 1, (787, 101, 785, 786), rI118)
set_option maxRecDepth 10000 in
theorem q_118 : rMs[118]? = some rR118 := rfl
def rR119 : rRow := (yX12_work, cX12_work, 2, (some .int), 12, 2, [], 1, (848, 101, 846, 847), rI119)
set_option maxRecDepth 10000 in
theorem q_119 : rMs[119]? = some rR119 := rfl
def rR120 : rRow := (yX12_picture, cX12_picture, 4, (some .int), 12, 3, [], 1, (979, 101, 977, 978), rI120)
set_option maxRecDepth 10000 in
theorem q_120 : rMs[120]? = some rR120 := rfl
def rR121 : rRow := (yX12_book, cX12_book, 3, (some .int), 12, 2, [], 1, (996, 101, 994, 995), rI121)
set_option maxRecDepth 10000 in
theorem q_121 : rMs[121]? = some rR121 := rfl
def rR122 : rRow := (yX12_fault, cX12_fault, 1, (some .int), 12, 1, [], 1, (482, 101, 480, 481), rI122)
set_option maxRecDepth 10000 in
theorem q_122 : rMs[122]? = some rR122 := rfl
def rR123 : rRow := (yX12_undo, cX12_undo, 1, (some .int), 12, 1, [], 1, (486, 101, 484, 485), rI123)
set_option maxRecDepth 10000 in
theorem q_123 : rMs[123]? = some rR123 := rfl
def rR124 : rRow := (yX12_told, cX12_told, 3, (some .int), 12, 2, [], 1, (1012, 101, 1010, 1011), rI124)
set_option maxRecDepth 10000 in
theorem q_124 : rMs[124]? = some rR124 := rfl
def rR125 : rRow := (yX12_demand, cX12_demand, 2, none, 12, 2, [], 1, (1028, 101, 1027, 21), rI125)
set_option maxRecDepth 10000 in
theorem q_125 : rMs[125]? = some rR125 := rfl
def rR126 : rRow := (yX12_stick, cX12_stick, 3, (some .int), 12, 3, [], 1, (1020, 101, 1018, 1019), rI126)
set_option maxRecDepth 10000 in
theorem q_126 : rMs[126]? = some rR126 := rfl
def rR127 : rRow := (yX12_at, cX12_at, 2, (some .int), 12, 2, [], 1, (1065, 101, 1063, 1064), rI127)
set_option maxRecDepth 10000 in
theorem q_127 : rMs[127]? = some rR127 := rfl
def rR128 : rRow := (yX12_isView, cX12_isView, 1, (some .boolean), 12, 1, [], 0, (1076, 101, 1075, 0), rI128)
set_option maxRecDepth 10000 in
theorem q_128 : rMs[128]? = some rR128 := rfl
def rR129 : rRow := (yX12_strain, cX12_strain, 3, (some .int), 12, 3, [], 1, (1073, 101, 1071, 1072), rI129)
set_option maxRecDepth 10000 in
theorem q_129 : rMs[129]? = some rR129 := rfl
def rR130 : rRow := (yX12_would, cX12_would, 8, (some .int), 12, 8, [], 1, (1084, 101, 1082, 1083), rI130)
set_option maxRecDepth 10000 in
theorem q_130 : rMs[130]? = some rR130 := rfl
def rR131 : rRow := (yX12_mark, cX12_mark, 3, (some .int), 12, 3, [], 1, (1094, 101, 1092, 1093), rI131)
set_option maxRecDepth 10000 in
theorem q_131 : rMs[131]? = some rR131 := rfl
def rR132 : rRow := (yX12_seen, cX12_seen, 3, (some .int), 12, 2, [], 1, (1102, 101, 1100, 1101), rI132)
set_option maxRecDepth 10000 in
theorem q_132 : rMs[132]? = some rR132 := rfl
def rR133 : rRow := (yX12_marks, cX12_marks, 4, (some .int), 12, 2, [], 1, (1110, 101, 1108, 1109), rI133)
set_option maxRecDepth 10000 in
theorem q_133 : rMs[133]? = some rR133 := rfl
def rR134 : rRow := (yX12_shows, cX12_shows, 2, (some .boolean), 12, 2, [], 1, (1117, 101, 1115, 1116), rI134)
set_option maxRecDepth 10000 in
theorem q_134 : rMs[134]? = some rR134 := rfl
def rR135 : rRow := (yX12_countLays, cX12_countLays, 2, (some .int), 12, 2, [], 1, (1141, 101, 1140, 23), rI135)
set_option maxRecDepth 10000 in
theorem q_135 : rMs[135]? = some rR135 := rfl
def rR136 : rRow := (yX12_lays, cX12_lays, 2, (some .int), 12, 2, [], 1, (1137, 101, 1135, 1136), rI136)
set_option maxRecDepth 10000 in
theorem q_136 : rMs[136]? = some rR136 := rfl
def rR137 : rRow := (yX12_laid, cX12_laid, 3, (some .int), 12, 3, [], 1, (1177, 101, 1175, 1176), rI137)
set_option maxRecDepth 10000 in
theorem q_137 : rMs[137]? = some rR137 := rfl
def rR138 : rRow := (yX12_both, cX12_both, 3, (some .int), 12, 3, [], 1, (1192, 101, 1190, 1191), rI138)
set_option maxRecDepth 10000 in
theorem q_138 : rMs[138]? = some rR138 := rfl
def rR139 : rRow := (yX12_brush, cX12_brush, 2, (some .int), 12, 2, [], 1, (1199, 101, 1197, 1198), rI139)
set_option maxRecDepth 10000 in
theorem q_139 : rMs[139]? = some rR139 := rfl
def rR140 : rRow := (yX12_near, cX12_near, 2, (some .int), 12, 2, [], 1, (1211, 101, 1209, 1210), rI140)
set_option maxRecDepth 10000 in
theorem q_140 : rMs[140]? = some rR140 := rfl
def rR141 : rRow := (yX12_greatestDivisor, cX12_greatestDivisor, 6, (some .int), 12, 2, [], 0, (1231, 101, 1230, 0), rI141)
set_option maxRecDepth 10000 in
theorem q_141 : rMs[141]? = some rR141 := rfl
def rR142 : rRow := (yX12_lot, cX12_lot, 6, (some .int), 12, 3, [], 1, (1228, 101, 1226, 1227), rI142)
set_option maxRecDepth 10000 in
theorem q_142 : rMs[142]? = some rR142 := rfl
def rR143 : rRow := (yX12_off, cX12_off, 2, (some .int), 12, 2, [], 1, (1239, 101, 1237, 1238), rI143)
set_option maxRecDepth 10000 in
theorem q_143 : rMs[143]? = some rR143 := rfl
def rR144 : rRow := (yX12_run, cX12_run, 9, (some .int), 12, 3, [], 1, (1247, 101, 1245, 1246), rI144)
set_option maxRecDepth 10000 in
theorem q_144 : rMs[144]? = some rR144 := rfl
def rR145 : rRow := (yX12_even, cX12_even, 3, (some .int), 12, 1, [], 1, (501, 101, 499, 500), rI145)
set_option maxRecDepth 10000 in
theorem q_145 : rMs[145]? = some rR145 := rfl
def rR146 : rRow := (yX12_fits, cX12_fits, 2, (some .int), 12, 2, [], 1, (1254, 101, 1252, 1253), rI146)
set_option maxRecDepth 10000 in
theorem q_146 : rMs[146]? = some rR146 := rfl
def rR147 : rRow := (yX12_look, cX12_look, 2, (some .int), 12, 2, [], 1, (1286, 101, 1284, 1285), rI147)
set_option maxRecDepth 10000 in
theorem q_147 : rMs[147]? = some rR147 := rfl
def rR148 : rRow := (yX12_ahead, cX12_ahead, 4, (some .int), 12, 3, [], 1, (1309, 101, 1307, 1308), rI148)
set_option maxRecDepth 10000 in
theorem q_148 : rMs[148]? = some rR148 := rfl
def rR149 : rRow := (yX12_lasts, cX12_lasts, 3, (some .int), 12, 2, [], 1, (1317, 101, 1315, 1316), rI149)
set_option maxRecDepth 10000 in
theorem q_149 : rMs[149]? = some rR149 := rfl
def rR150 : rRow := (yX12_gain, cX12_gain, 4, (some .int), 12, 4, [], 0, (1332, 101, 1331, 0), rI150)
set_option maxRecDepth 10000 in
theorem q_150 : rMs[150]? = some rR150 := rfl
def rR151 : rRow := (yX12_rests, cX12_rests, 4, (some .boolean), 12, 4, [], 0, (1329, 101, 1328, 0), rI151)
set_option maxRecDepth 10000 in
theorem q_151 : rMs[151]? = some rR151 := rfl
def rR152 : rRow := (yX12_sellers, cX12_sellers, 10, (some .int), 12, 4, [], 1, (1326, 101, 1324, 1325), rI152)
set_option maxRecDepth 10000 in
theorem q_152 : rMs[152]? = some rR152 := rfl
def rR153 : rRow := (yX12_year, cX12_year, 5, (some .int), 12, 5, [], 1, (1339, 101, 1337, 1338), rI153)
set_option maxRecDepth 10000 in
theorem q_153 : rMs[153]? = some rR153 := rfl
def rR154 : rRow := (yX12_span, cX12_span, 10, (some .int), 12, 6, [], 1, (1379, 101, 1377, 1378), rI154)
set_option maxRecDepth 10000 in
theorem q_154 : rMs[154]? = some rR154 := rfl
def rR155 : rRow := (yX12_image, cX12_image, 1, (some .int), 12, 1, [], 1, (543, 101, 541, 542), rI155)
set_option maxRecDepth 10000 in
theorem q_155 : rMs[155]? = some rR155 := rfl
def rR156 : rRow := (yX12_restore, cX12_restore, 1, (some .int), 12, 1, [], 1, (551, 101, 549, 550), rI156)
set_option maxRecDepth 10000 in
theorem q_156 : rMs[156]? = some rR156 := rfl
def rR157 : rRow := (yX12_status, cX12_status, 2, (some .int), 12, 2, [], 1, (555, 101, 553, 554), rI157)
set_option maxRecDepth 10000 in
theorem q_157 : rMs[157]? = some rR157 := rfl
def rR158 : rRow := (yX12_count, cX12_count, 2, (some .int), 12, 2, [], 1, (559, 101, 557, 558), rI158)
set_option maxRecDepth 10000 in
theorem q_158 : rMs[158]? = some rR158 := rfl
def rR159 : rRow := (yX13_thrown, cX13_thrown, 1, (some .int), 13, 1, [], 1, (1385, 112, 1383, 1384), rI159)
set_option maxRecDepth 10000 in
theorem q_159 : rMs[159]? = some rR159 := rfl
def rR160 : rRow := (yX13_may, cX13_may, 4, (some .boolean), 13, 4, [], 1, (1579, 112, 1578, 39), rI160)
set_option maxRecDepth 10000 in
theorem q_160 : rMs[160]? = some rR160 := rfl
def rR161 : rRow := (yX13_within, cX13_within, 3, (some .boolean), 13, 3, [], 0, (1788, 112, 1787, 0), rI161)
set_option maxRecDepth 10000 in
theorem q_161 : rMs[161]? = some rR161 := rfl
def rR162 : rRow := (yX13_clears, cX13_clears, 1, none, 13, 1, [], 1, (1395, 112, 1394, 36), rI162)
set_option maxRecDepth 10000 in
theorem q_162 : rMs[162]? = some rR162 := rfl
def rR163 : rRow := (yX13_copies, cX13_copies, 5, none, 13, 4, [], 1, (1403, 112, 1402, 38), rI163)
set_option maxRecDepth 10000 in
theorem q_163 : rMs[163]? = some rR163 := rfl
def rR164 : rRow := (yX13_sets, cX13_sets, 2, none, 13, 1, [], 1, (1399, 112, 1398, 37), rI164)
set_option maxRecDepth 10000 in
theorem q_164 : rMs[164]? = some rR164 := rfl
def rR165 : rRow := (yX13_init, cX13_init, 1, none, 13, 1, [], 2, (1390, 112, 1389, 0), rI165)
set_option maxRecDepth 10000 in
theorem q_165 : rMs[165]? = some rR165 := rfl
def rR166 : rRow := (yX13_feed, cX13_feed, 8, (some .int), 13, 6, [], 1, (1567, 112, 1565, 1566), rI166)
set_option maxRecDepth 10000 in
theorem q_166 : rMs[166]? = some rR166 := rfl
def rR167 : rRow := (yX13_fine, cX13_fine, 1, (some .boolean), 13, 1, [], 1, (1587, 112, 1586, 41), rI167)
set_option maxRecDepth 10000 in
theorem q_167 : rMs[167]? = some rR167 := rfl
def rR168 : rRow := (yX13_wrong, cX13_wrong, 3, none, 13, 3, [], 1, (1617, 112, 1616, 45), rI168)
set_option maxRecDepth 10000 in
theorem q_168 : rMs[168]? = some rR168 := rfl
def rR169 : rRow := (yX13_here, cX13_here, 1, (some .int), 13, 1, [], 1, (1595, 112, 1594, 43), rI169)
set_option maxRecDepth 10000 in
theorem q_169 : rMs[169]? = some rR169 := rfl
def rR170 : rRow := (yX13_isSmall, cX13_isSmall, 1, (some .boolean), 13, 1, [], 0, (1602, 112, 1601, 0), rI170)
set_option maxRecDepth 10000 in
theorem q_170 : rMs[170]? = some rR170 := rfl
def rR171 : rRow := (yX13_isDigit, cX13_isDigit, 1, (some .boolean), 13, 1, [], 0, (1632, 112, 1631, 0), rI171)
set_option maxRecDepth 10000 in
theorem q_171 : rMs[171]? = some rR171 := rfl
def rR172 : rRow := (yX13_word, cX13_word, 4, (some .int), 13, 1, [], 1, (1599, 112, 1598, 44), rI172)
set_option maxRecDepth 10000 in
theorem q_172 : rMs[172]? = some rR172 := rfl
def rR173 : rRow := (yX13_of, cX13_of, 3, (some .int), 13, 1, [], 0, (1609, 112, 1608, 0), rI173)
set_option maxRecDepth 10000 in
theorem q_173 : rMs[173]? = some rR173 := rfl
def rR174 : rRow := (yX13_pass, cX13_pass, 1, none, 13, 1, [], 1, (1621, 112, 1620, 46), rI174)
set_option maxRecDepth 10000 in
theorem q_174 : rMs[174]? = some rR174 := rfl
def rR175 : rRow := (yX13_readNumber, cX13_readNumber, 6, (some .int), 13, 3, [], 1, (1629, 112, 1628, 48), rI175)
set_option maxRecDepth 10000 in
theorem q_175 : rMs[175]? = some rR175 := rfl
def rR176 : rRow := (yX13_sign, cX13_sign, 2, none, 13, 2, [], 1, (1636, 112, 1635, 49), rI176)
set_option maxRecDepth 10000 in
theorem q_176 : rMs[176]? = some rR176 := rfl
def rR177 : rRow := (yX13_isMore, cX13_isMore, 1, (some .boolean), 13, 1, [], 1, (1591, 112, 1590, 42), rI177)
set_option maxRecDepth 10000 in
theorem q_177 : rMs[177]? = some rR177 := rfl
def rR178 : rRow := (yX13_begins, cX13_begins, 2, none, 13, 2, [], 1, (1583, 112, 1582, 40), rI178)
set_option maxRecDepth 10000 in
theorem q_178 : rMs[178]? = some rR178 := rfl
def rR179 : rRow := (yX13_result, cX13_result, 2, (some .int), 13, 2, [], 1, (1640, 112, 1639, 50), rI179)
set_option maxRecDepth 10000 in
theorem q_179 : rMs[179]? = some rR179 := rfl
def rR180 : rRow := (yX13_fault, cX13_fault, 1, (some .int), 13, 1, [], 1, (1571, 112, 1569, 1570), rI180)
set_option maxRecDepth 10000 in
theorem q_180 : rMs[180]? = some rR180 := rfl
def rR181 : rRow := (yX13_isRow, cX13_isRow, 1, (some .boolean), 13, 1, [], 0, (1605, 112, 1604, 0), rI181)
set_option maxRecDepth 10000 in
theorem q_181 : rMs[181]? = some rR181 := rfl
def rR182 : rRow := (yX13_readRow, cX13_readRow, 3, none, 13, 2, [], 1, (1625, 112, 1624, 47), rI182)
set_option maxRecDepth 10000 in
theorem q_182 : rMs[182]? = some rR182 := rfl
def rR183 : rRow := (yX13_fan, cX13_fan, 4, (some .int), 13, 2, [], 1, (1575, 112, 1573, 1574), rI183)
set_option maxRecDepth 10000 in
theorem q_183 : rMs[183]? = some rR183 := rfl
def rR184 : rRow := (yX13_emit, cX13_emit, 3, none, 13, 3, [], 1, (1664, 112, 1663, 55), rI184)
set_option maxRecDepth 10000 in
theorem q_184 : rMs[184]? = some rR184 := rfl
def rR185 : rRow := (yX13_opensOne, cX13_opensOne, 2, none, 13, 2, [], 1, (1660, 112, 1659, 54), rI185)
set_option maxRecDepth 10000 in
theorem q_185 : rMs[185]? = some rR185 := rfl
def rR186 : rRow := (yX13_factHere, cX13_factHere, 2, (some .int), 13, 1, [], 1, (1674, 112, 1673, 57), rI186)
set_option maxRecDepth 10000 in
theorem q_186 : rMs[186]? = some rR186 := rfl
def rR187 : rRow := (yX13_readProduct, cX13_readProduct, 2, none, 13, 1, [], 1, (1652, 112, 1651, 52), rI187)
set_option maxRecDepth 10000 in
theorem q_187 : rMs[187]? = some rR187 := rfl
def rR188 : rRow := (yX13_readSum, cX13_readSum, 2, none, 13, 1, [], 1, (1648, 112, 1647, 51), rI188)
set_option maxRecDepth 10000 in
theorem q_188 : rMs[188]? = some rR188 := rfl
def rR189 : rRow := (yX13_readTwo, cX13_readTwo, 3, none, 13, 3, [], 1, (1669, 112, 1668, 56), rI189)
set_option maxRecDepth 10000 in
theorem q_189 : rMs[189]? = some rR189 := rfl
def rR190 : rRow := (yX13_readUnit, cX13_readUnit, 2, none, 13, 1, [], 1, (1656, 112, 1655, 53), rI190)
set_option maxRecDepth 10000 in
theorem q_190 : rMs[190]? = some rR190 := rfl
def rR191 : rRow := (yX13_law, cX13_law, 3, (some .int), 13, 2, [], 1, (1644, 112, 1642, 1643), rI191)
set_option maxRecDepth 10000 in
theorem q_191 : rMs[191]? = some rR191 := rfl
def rR192 : rRow := (yX13_bothOf, cX13_bothOf, 3, (some .int), 13, 3, [], 0, (1749, 112, 1748, 0), rI192)
set_option maxRecDepth 10000 in
theorem q_192 : rMs[192]? = some rR192 := rfl
def rR193 : rRow := (yX13_valueNow, cX13_valueNow, 4, (some .int), 13, 1, [], 1, (1746, 112, 1745, 70), rI193)
set_option maxRecDepth 10000 in
theorem q_193 : rMs[193]? = some rR193 := rfl
def rR194 : rRow := (yX13_strainNow, cX13_strainNow, 2, (some .int), 13, 1, [], 1, (1742, 112, 1741, 69), rI194)
set_option maxRecDepth 10000 in
theorem q_194 : rMs[194]? = some rR194 := rfl
def rR195 : rRow := (yX13_tellsStep, cX13_tellsStep, 5, none, 13, 5, [], 1, (1706, 112, 1705, 60), rI195)
set_option maxRecDepth 10000 in
theorem q_195 : rMs[195]? = some rR195 := rfl
def rR196 : rRow := (yX13_stepOf, cX13_stepOf, 1, (some .int), 13, 1, [], 0, (1692, 112, 1691, 0), rI196)
set_option maxRecDepth 10000 in
theorem q_196 : rMs[196]? = some rR196 := rfl
def rR197 : rRow := (yX13_readPlace, cX13_readPlace, 1, (some .int), 13, 1, [], 1, (1710, 112, 1709, 61), rI197)
set_option maxRecDepth 10000 in
theorem q_197 : rMs[197]? = some rR197 := rfl
def rR198 : rRow := (yX13_readAgain, cX13_readAgain, 3, none, 13, 1, [], 1, (1702, 112, 1701, 59), rI198)
set_option maxRecDepth 10000 in
theorem q_198 : rMs[198]? = some rR198 := rfl
def rR199 : rRow := (yX13_readStep, cX13_readStep, 4, none, 13, 1, [], 1, (1689, 112, 1688, 58), rI199)
set_option maxRecDepth 10000 in
theorem q_199 : rMs[199]? = some rR199 := rfl
def rR200 : rRow := (yX13_take, cX13_take, 1, none, 13, 1, [], 1, (1714, 112, 1713, 62), rI200)
set_option maxRecDepth 10000 in
theorem q_200 : rMs[200]? = some rR200 := rfl
def rR201 : rRow := (yX13_turnedMany, cX13_turnedMany, 3, (some .int), 13, 1, [], 1, (1734, 112, 1733, 67), rI201)
set_option maxRecDepth 10000 in
theorem q_201 : rMs[201]? = some rR201 := rfl
def rR202 : rRow := (yX13_strainOf, cX13_strainOf, 8, (some .int), 13, 8, [], 1, (1738, 112, 1737, 68), rI202)
set_option maxRecDepth 10000 in
theorem q_202 : rMs[202]? = some rR202 := rfl
def rR203 : rRow := (yX13_strainBy, cX13_strainBy, 3, (some .int), 13, 3, [], 1, (1730, 112, 1729, 66), rI203)
set_option maxRecDepth 10000 in
theorem q_203 : rMs[203]? = some rR203 := rfl
def rR204 : rRow := (yX13_isOpened, cX13_isOpened, 3, (some .boolean), 13, 3, [], 1, (1726, 112, 1725, 65), rI204)
set_option maxRecDepth 10000 in
theorem q_204 : rMs[204]? = some rR204 := rfl
def rR205 : rRow := (yX13_isShut, cX13_isShut, 1, (some .boolean), 13, 1, [], 1, (1753, 112, 1752, 71), rI205)
set_option maxRecDepth 10000 in
theorem q_205 : rMs[205]? = some rR205 := rfl
def rR206 : rRow := (yX13_isSwapped, cX13_isSwapped, 4, (some .boolean), 13, 3, [], 1, (1757, 112, 1756, 72), rI206)
set_option maxRecDepth 10000 in
theorem q_206 : rMs[206]? = some rR206 := rfl
def rR207 : rRow := (yX13_isTurned, cX13_isTurned, 2, (some .boolean), 13, 2, [], 1, (1761, 112, 1760, 73), rI207)
set_option maxRecDepth 10000 in
theorem q_207 : rMs[207]? = some rR207 := rfl
def rR208 : rRow := (yX13_markBy, cX13_markBy, 4, (some .int), 13, 4, [], 1, (1773, 112, 1772, 76), rI208)
set_option maxRecDepth 10000 in
theorem q_208 : rMs[208]? = some rR208 := rfl
def rR209 : rRow := (yX13_markOf, cX13_markOf, 3, (some .int), 13, 3, [], 1, (1769, 112, 1768, 75), rI209)
set_option maxRecDepth 10000 in
theorem q_209 : rMs[209]? = some rR209 := rfl
def rR210 : rRow := (yX13_isPainted, cX13_isPainted, 5, (some .boolean), 13, 4, [], 1, (1765, 112, 1764, 74), rI210)
set_option maxRecDepth 10000 in
theorem q_210 : rMs[210]? = some rR210 := rfl
def rR211 : rRow := (yX13_isOiled, cX13_isOiled, 1, (some .boolean), 13, 1, [], 1, (1777, 112, 1776, 77), rI211)
set_option maxRecDepth 10000 in
theorem q_211 : rMs[211]? = some rR211 := rfl
def rR212 : rRow := (yX13_passes, cX13_passes, 1, none, 13, 1, [], 1, (1781, 112, 1780, 78), rI212)
set_option maxRecDepth 10000 in
theorem q_212 : rMs[212]? = some rR212 := rfl
def rR213 : rRow := (yX13_isDone, cX13_isDone, 5, (some .boolean), 13, 5, [], 1, (1722, 112, 1721, 64), rI213)
set_option maxRecDepth 10000 in
theorem q_213 : rMs[213]? = some rR213 := rfl
def rR214 : rRow := (yX13_goesSteps, cX13_goesSteps, 6, none, 13, 3, [], 1, (1718, 112, 1717, 63), rI214)
set_option maxRecDepth 10000 in
theorem q_214 : rMs[214]? = some rR214 := rfl
def rR215 : rRow := (yX13_work, cX13_work, 4, (some .int), 13, 2, [], 1, (1685, 112, 1683, 1684), rI215)
set_option maxRecDepth 10000 in
theorem q_215 : rMs[215]? = some rR215 := rfl
def rR216 : rRow := (yX13_placeIn, cX13_placeIn, 3, (some .int), 13, 3, [], 1, (1843, 112, 1842, 83), rI216)
set_option maxRecDepth 10000 in
theorem q_216 : rMs[216]? = some rR216 := rfl
def rR217 : rRow := (yX13_markIn, cX13_markIn, 3, (some .int), 13, 3, [], 1, (1839, 112, 1838, 82), rI217)
set_option maxRecDepth 10000 in
theorem q_217 : rMs[217]? = some rR217 := rfl
def rR218 : rRow := (yX13_picture, cX13_picture, 6, (some .int), 13, 3, [], 1, (1785, 112, 1783, 1784), rI218)
set_option maxRecDepth 10000 in
theorem q_218 : rMs[218]? = some rR218 := rfl
def rR219 : rRow := (yX13_book, cX13_book, 7, (some .int), 13, 2, [], 1, (1792, 112, 1790, 1791), rI219)
set_option maxRecDepth 10000 in
theorem q_219 : rMs[219]? = some rR219 := rfl
def rR220 : rRow := (yX13_undo, cX13_undo, 2, (some .int), 13, 1, [], 1, (1796, 112, 1794, 1795), rI220)
set_option maxRecDepth 10000 in
theorem q_220 : rMs[220]? = some rR220 := rfl
def rR221 : rRow := (yX13_turnedBits, cX13_turnedBits, 3, (some .int), 13, 1, [], 1, (1804, 112, 1803, 79), rI221)
set_option maxRecDepth 10000 in
theorem q_221 : rMs[221]? = some rR221 := rfl
def rR222 : rRow := (yX13_told, cX13_told, 2, (some .int), 13, 2, [], 1, (1800, 112, 1798, 1799), rI222)
set_option maxRecDepth 10000 in
theorem q_222 : rMs[222]? = some rR222 := rfl
def rR223 : rRow := (yX13_isPlace, cX13_isPlace, 2, (some .boolean), 13, 2, [], 1, (1812, 112, 1811, 80), rI223)
set_option maxRecDepth 10000 in
theorem q_223 : rMs[223]? = some rR223 := rfl
def rR224 : rRow := (yX13_isView, cX13_isView, 1, (some .boolean), 13, 1, [], 0, (1827, 112, 1826, 0), rI224)
set_option maxRecDepth 10000 in
theorem q_224 : rMs[224]? = some rR224 := rfl
def rR225 : rRow := (yX13_areAlike, cX13_areAlike, 5, (some .boolean), 13, 3, [], 1, (1816, 112, 1815, 81), rI225)
set_option maxRecDepth 10000 in
theorem q_225 : rMs[225]? = some rR225 := rfl
def rR226 : rRow := (yX13_stick, cX13_stick, 6, (some .int), 13, 3, [], 1, (1808, 112, 1806, 1807), rI226)
set_option maxRecDepth 10000 in
theorem q_226 : rMs[226]? = some rR226 := rfl
def rR227 : rRow := (yX13_at, cX13_at, 2, (some .int), 13, 2, [], 1, (1820, 112, 1818, 1819), rI227)
set_option maxRecDepth 10000 in
theorem q_227 : rMs[227]? = some rR227 := rfl
def rR228 : rRow := (yX13_strain, cX13_strain, 3, (some .int), 13, 3, [], 1, (1824, 112, 1822, 1823), rI228)
set_option maxRecDepth 10000 in
theorem q_228 : rMs[228]? = some rR228 := rfl
def rR229 : rRow := (yX13_would, cX13_would, 8, (some .int), 13, 8, [], 1, (1831, 112, 1829, 1830), rI229)
set_option maxRecDepth 10000 in
theorem q_229 : rMs[229]? = some rR229 := rfl
def rR230 : rRow := (yX13_mark, cX13_mark, 3, (some .int), 13, 3, [], 1, (1835, 112, 1833, 1834), rI230)
set_option maxRecDepth 10000 in
theorem q_230 : rMs[230]? = some rR230 := rfl
def rR231 : rRow := (yX13_seen, cX13_seen, 2, (some .int), 13, 2, [], 1, (1847, 112, 1845, 1846), rI231)
set_option maxRecDepth 10000 in
theorem q_231 : rMs[231]? = some rR231 := rfl
def rR232 : rRow := (yX13_marks, cX13_marks, 4, (some .int), 13, 2, [], 1, (1851, 112, 1849, 1850), rI232)
set_option maxRecDepth 10000 in
theorem q_232 : rMs[232]? = some rR232 := rfl
def rR233 : rRow := (yX13_wantedAt, cX13_wantedAt, 5, (some .int), 13, 4, [], 1, (1863, 112, 1862, 85), rI233)
set_option maxRecDepth 10000 in
theorem q_233 : rMs[233]? = some rR233 := rfl
def rR234 : rRow := (yX13_isGiven, cX13_isGiven, 2, (some .boolean), 13, 2, [], 0, (1866, 112, 1865, 0), rI234)
set_option maxRecDepth 10000 in
theorem q_234 : rMs[234]? = some rR234 := rfl
def rR235 : rRow := (yX13_isShown, cX13_isShown, 4, (some .boolean), 13, 2, [], 1, (1859, 112, 1858, 84), rI235)
set_option maxRecDepth 10000 in
theorem q_235 : rMs[235]? = some rR235 := rfl
def rR236 : rRow := (yX13_shows, cX13_shows, 2, (some .boolean), 13, 2, [], 1, (1855, 112, 1853, 1854), rI236)
set_option maxRecDepth 10000 in
theorem q_236 : rMs[236]? = some rR236 := rfl
def rR237 : rRow := (yX13_ones, cX13_ones, 3, (some .int), 13, 1, [], 0, (1877, 112, 1876, 0), rI237)
set_option maxRecDepth 10000 in
theorem q_237 : rMs[237]? = some rR237 := rfl
def rR238 : rRow := (yX13_mayLie, cX13_mayLie, 6, (some .boolean), 13, 6, [], 1, (1881, 112, 1880, 87), rI238)
set_option maxRecDepth 10000 in
theorem q_238 : rMs[238]? = some rR238 := rfl
def rR239 : rRow := (yX13_laysWays, cX13_laysWays, 8, (some .int), 13, 3, [], 1, (1874, 112, 1873, 86), rI239)
set_option maxRecDepth 10000 in
theorem q_239 : rMs[239]? = some rR239 := rfl
def rR240 : rRow := (yX13_lays, cX13_lays, 2, (some .int), 13, 2, [], 1, (1870, 112, 1868, 1869), rI240)
set_option maxRecDepth 10000 in
theorem q_240 : rMs[240]? = some rR240 := rfl
def rR241 : rRow := (yX13_laid, cX13_laid, 7, (some .int), 13, 3, [], 1, (1885, 112, 1883, 1884), rI241)
set_option maxRecDepth 10000 in
theorem q_241 : rMs[241]? = some rR241 := rfl
def rR242 : rRow := (yX13_both, cX13_both, 3, (some .int), 13, 3, [], 1, (1889, 112, 1887, 1888), rI242)
set_option maxRecDepth 10000 in
theorem q_242 : rMs[242]? = some rR242 := rfl
def rR243 : rRow := (yX13_brush, cX13_brush, 7, (some .int), 13, 2, [], 1, (1893, 112, 1891, 1892), rI243)
set_option maxRecDepth 10000 in
theorem q_243 : rMs[243]? = some rR243 := rfl
def rR244 : rRow := (yX13_changesTo, cX13_changesTo, 8, (some .int), 13, 2, [], 1, (1901, 112, 1900, 88), rI244)
set_option maxRecDepth 10000 in
theorem q_244 : rMs[244]? = some rR244 := rfl
def rR245 : rRow := (yX13_isNextOrder, cX13_isNextOrder, 6, (some .boolean), 13, 1, [], 1, (1905, 112, 1904, 89), rI245)
set_option maxRecDepth 10000 in
theorem q_245 : rMs[245]? = some rR245 := rfl
def rR246 : rRow := (yX13_near, cX13_near, 4, (some .int), 13, 2, [], 1, (1897, 112, 1895, 1896), rI246)
set_option maxRecDepth 10000 in
theorem q_246 : rMs[246]? = some rR246 := rfl
def rR247 : rRow := (yX13_lot, cX13_lot, 8, (some .int), 13, 3, [], 1, (1909, 112, 1907, 1908), rI247)
set_option maxRecDepth 10000 in
theorem q_247 : rMs[247]? = some rR247 := rfl
def rR248 : rRow := (yX13_off, cX13_off, 4, (some .int), 13, 2, [], 1, (1913, 112, 1911, 1912), rI248)
set_option maxRecDepth 10000 in
theorem q_248 : rMs[248]? = some rR248 := rfl
def rR249 : rRow := (yX13_run, cX13_run, 7, (some .int), 13, 3, [], 1, (1917, 112, 1915, 1916), rI249)
set_option maxRecDepth 10000 in
theorem q_249 : rMs[249]? = some rR249 := rfl
def rR250 : rRow := (yX13_even, cX13_even, 5, (some .int), 13, 1, [], 1, (1921, 112, 1919, 1920), rI250)
set_option maxRecDepth 10000 in
theorem q_250 : rMs[250]? = some rR250 := rfl
def rR251 : rRow := (yX13_keepsDeed, cX13_keepsDeed, 4, none, 13, 2, [], 1, (1933, 112, 1932, 91), rI251)
set_option maxRecDepth 10000 in
theorem q_251 : rMs[251]? = some rR251 := rfl
def rR252 : rRow := (yX13_laysDeeds, cX13_laysDeeds, 3, none, 13, 1, [], 1, (1929, 112, 1928, 90), rI252)
set_option maxRecDepth 10000 in
theorem q_252 : rMs[252]? = some rR252 := rfl
def rR253 : rRow := (yX13_isFit, cX13_isFit, 4, (some .boolean), 13, 2, [], 1, (1937, 112, 1936, 92), rI253)
set_option maxRecDepth 10000 in
theorem q_253 : rMs[253]? = some rR253 := rfl
def rR254 : rRow := (yX13_fits, cX13_fits, 5, (some .int), 13, 2, [], 1, (1925, 112, 1923, 1924), rI254)
set_option maxRecDepth 10000 in
theorem q_254 : rMs[254]? = some rR254 := rfl
def rR255 : rRow := (yX13_isWritten, cX13_isWritten, 4, (some .boolean), 13, 3, [], 1, (1945, 112, 1944, 93), rI255)
set_option maxRecDepth 10000 in
theorem q_255 : rMs[255]? = some rR255 := rfl
def rR256 : rRow := (yX13_worstOf, cX13_worstOf, 6, (some .int), 13, 3, [], 1, (1949, 112, 1948, 94), rI256)
set_option maxRecDepth 10000 in
theorem q_256 : rMs[256]? = some rR256 := rfl
def rR257 : rRow := (yX13_look, cX13_look, 7, (some .int), 13, 2, [], 1, (1941, 112, 1939, 1940), rI257)
set_option maxRecDepth 10000 in
theorem q_257 : rMs[257]? = some rR257 := rfl
def rR258 : rRow := (yX13_ahead, cX13_ahead, 4, (some .int), 13, 3, [], 1, (1953, 112, 1951, 1952), rI258)
set_option maxRecDepth 10000 in
theorem q_258 : rMs[258]? = some rR258 := rfl
def rR259 : rRow := (yX13_lasts, cX13_lasts, 3, (some .int), 13, 2, [], 1, (1957, 112, 1955, 1956), rI259)
set_option maxRecDepth 10000 in
theorem q_259 : rMs[259]? = some rR259 := rfl
def rR260 : rRow := (yX13_hasBy, cX13_hasBy, 4, (some .int), 13, 4, [], 0, (1964, 112, 1963, 0), rI260)
set_option maxRecDepth 10000 in
theorem q_260 : rMs[260]? = some rR260 := rfl
def rR261 : rRow := (yX13_sellers, cX13_sellers, 9, (some .int), 13, 4, [], 1, (1961, 112, 1959, 1960), rI261)
set_option maxRecDepth 10000 in
theorem q_261 : rMs[261]? = some rR261 := rfl
def rR262 : rRow := (yX13_draws, cX13_draws, 2, (some .int), 13, 2, [], 1, (1979, 112, 1978, 96), rI262)
set_option maxRecDepth 10000 in
theorem q_262 : rMs[262]? = some rR262 := rfl
def rR263 : rRow := (yX13_actGoes, cX13_actGoes, 4, none, 13, 2, [], 1, (1984, 112, 1983, 97), rI263)
set_option maxRecDepth 10000 in
theorem q_263 : rMs[263]? = some rR263 := rfl
def rR264 : rRow := (yX13_yearGoes, cX13_yearGoes, 5, none, 13, 4, [], 1, (1975, 112, 1974, 95), rI264)
set_option maxRecDepth 10000 in
theorem q_264 : rMs[264]? = some rR264 := rfl
def rR265 : rRow := (yX13_isYear, cX13_isYear, 2, (some .boolean), 13, 2, [], 0, (1971, 112, 1970, 0), rI265)
set_option maxRecDepth 10000 in
theorem q_265 : rMs[265]? = some rR265 := rfl
def rR266 : rRow := (yX13_year, cX13_year, 5, (some .int), 13, 5, [], 1, (1968, 112, 1966, 1967), rI266)
set_option maxRecDepth 10000 in
theorem q_266 : rMs[266]? = some rR266 := rfl
def rR267 : rRow := (yX13_span, cX13_span, 11, (some .int), 13, 6, [], 1, (1988, 112, 1986, 1987), rI267)
set_option maxRecDepth 10000 in
theorem q_267 : rMs[267]? = some rR267 := rfl
def rR268 : rRow := (yX13_keepsRow, cX13_keepsRow, 6, (some .int), 13, 5, [], 1, (2000, 112, 1999, 99), rI268)
set_option maxRecDepth 10000 in
theorem q_268 : rMs[268]? = some rR268 := rfl
def rR269 : rRow := (yX13_keepsAll, cX13_keepsAll, 4, none, 13, 3, [], 1, (1996, 112, 1995, 98), rI269)
set_option maxRecDepth 10000 in
theorem q_269 : rMs[269]? = some rR269 := rfl
def rR270 : rRow := (yX13_image, cX13_image, 1, (some .int), 13, 1, [], 1, (1992, 112, 1990, 1991), rI270)
set_option maxRecDepth 10000 in
theorem q_270 : rMs[270]? = some rR270 := rfl
def rR271 : rRow := (yX13_restore, cX13_restore, 1, (some .int), 13, 1, [], 1, (2004, 112, 2002, 2003), rI271)
set_option maxRecDepth 10000 in
theorem q_271 : rMs[271]? = some rR271 := rfl
def rR272 : rRow := (yX13_status, cX13_status, 2, (some .int), 13, 2, [], 1, (2008, 112, 2006, 2007), rI272)
set_option maxRecDepth 10000 in
theorem q_272 : rMs[272]? = some rR272 := rfl
def rR273 : rRow := (yX13_count, cX13_count, 2, (some .int), 13, 2, [], 1, (2012, 112, 2010, 2011), rI273)
set_option maxRecDepth 10000 in
theorem q_273 : rMs[273]? = some rR273 := rfl
def rR274 : rRow := (yL_fan, cL_fan, 4, (some .int), 14, 3, [(0, 9, 12, 13)], 0, (562, 100, 561, 0), rI274)
set_option maxRecDepth 10000 in
theorem q_274 : rMs[274]? = some rR274 := rfl
def rR275 : rRow := (yL_law, cL_law, 4, (some .int), 14, 3, [(0, 9, 12, 13)], 0, (783, 100, 782, 0), rI275)
set_option maxRecDepth 10000 in
theorem q_275 : rMs[275]? = some rR275 := rfl
def rR276 : rRow := (yL_work, cL_work, 4, (some .int), 14, 3, [(0, 9, 12, 13)], 0, (844, 100, 843, 0), rI276)
set_option maxRecDepth 10000 in
theorem q_276 : rMs[276]? = some rR276 := rfl
def rR277 : rRow := (yL_picture, cL_picture, 5, (some .int), 14, 4, [(0, 10, 13, 13)], 0, (975, 100, 974, 0), rI277)
set_option maxRecDepth 10000 in
theorem q_277 : rMs[277]? = some rR277 := rfl
def rR278 : rRow := (yL_book, cL_book, 4, (some .int), 14, 3, [(0, 9, 12, 13)], 0, (992, 100, 991, 0), rI278)
set_option maxRecDepth 10000 in
theorem q_278 : rMs[278]? = some rR278 := rfl
def rR279 : rRow := (yL_told, cL_told, 4, (some .int), 14, 3, [(0, 9, 12, 13)], 0, (1008, 100, 1007, 0), rI279)
set_option maxRecDepth 10000 in
theorem q_279 : rMs[279]? = some rR279 := rfl
def rR280 : rRow := (yL_stick, cL_stick, 5, (some .int), 14, 4, [(0, 10, 13, 34), (0, 10, 17, 13)], 0, (1015, 100, 1014, 0), rI280)
set_option maxRecDepth 10000 in
theorem q_280 : rMs[280]? = some rR280 := rfl
def rR281 : rRow := (yL_at, cL_at, 4, (some .int), 14, 3, [(0, 9, 12, 34)], 0, (1061, 100, 1060, 0), rI281)
set_option maxRecDepth 10000 in
theorem q_281 : rMs[281]? = some rR281 := rfl
def rR282 : rRow := (yL_strain, cL_strain, 5, (some .int), 14, 4, [(0, 10, 13, 13)], 0, (1069, 100, 1068, 0), rI282)
set_option maxRecDepth 10000 in
theorem q_282 : rMs[282]? = some rR282 := rfl
def rR283 : rRow := (yL_would, cL_would, 10, (some .int), 14, 9, [(0, 20, 23, 13)], 0, (1080, 100, 1079, 0), rI283)
set_option maxRecDepth 10000 in
theorem q_283 : rMs[283]? = some rR283 := rfl
def rR284 : rRow := (yL_mark, cL_mark, 5, (some .int), 14, 4, [(0, 10, 13, 13)], 0, (1090, 100, 1089, 0), rI284)
set_option maxRecDepth 10000 in
theorem q_284 : rMs[284]? = some rR284 := rfl
def rR285 : rRow := (yL_seen, cL_seen, 4, (some .int), 14, 3, [(0, 9, 12, 13)], 0, (1098, 100, 1097, 0), rI285)
set_option maxRecDepth 10000 in
theorem q_285 : rMs[285]? = some rR285 := rfl
def rR286 : rRow := (yL_marks, cL_marks, 4, (some .int), 14, 3, [(0, 9, 12, 13)], 0, (1106, 100, 1105, 0), rI286)
set_option maxRecDepth 10000 in
theorem q_286 : rMs[286]? = some rR286 := rfl
def rR287 : rRow := (yL_shows, cL_shows, 4, (some .int), 14, 3, [(0, 16, 19, 13)], 0, (1113, 100, 1112, 0), rI287)
set_option maxRecDepth 10000 in
theorem q_287 : rMs[287]? = some rR287 := rfl
def rR288 : rRow := (yL_lays, cL_lays, 4, (some .int), 14, 3, [(0, 9, 12, 13)], 0, (1133, 100, 1132, 0), rI288)
set_option maxRecDepth 10000 in
theorem q_288 : rMs[288]? = some rR288 := rfl
def rR289 : rRow := (yL_laid, cL_laid, 5, (some .int), 14, 4, [(0, 10, 13, 34), (0, 10, 17, 13)], 0, (1173, 100, 1172, 0), rI289)
set_option maxRecDepth 10000 in
theorem q_289 : rMs[289]? = some rR289 := rfl
def rR290 : rRow := (yL_both, cL_both, 5, (some .int), 14, 4, [(0, 10, 13, 13)], 0, (1188, 100, 1187, 0), rI290)
set_option maxRecDepth 10000 in
theorem q_290 : rMs[290]? = some rR290 := rfl
def rR291 : rRow := (yL_brush, cL_brush, 4, (some .int), 14, 3, [(0, 9, 12, 13)], 0, (1195, 100, 1194, 0), rI291)
set_option maxRecDepth 10000 in
theorem q_291 : rMs[291]? = some rR291 := rfl
def rR292 : rRow := (yL_near, cL_near, 4, (some .int), 14, 3, [(0, 9, 12, 13)], 0, (1207, 100, 1206, 0), rI292)
set_option maxRecDepth 10000 in
theorem q_292 : rMs[292]? = some rR292 := rfl
def rR293 : rRow := (yL_lot, cL_lot, 5, (some .int), 14, 4, [(0, 10, 13, 13)], 0, (1224, 100, 1223, 0), rI293)
set_option maxRecDepth 10000 in
theorem q_293 : rMs[293]? = some rR293 := rfl
def rR294 : rRow := (yL_off, cL_off, 4, (some .int), 14, 3, [(0, 9, 12, 13)], 0, (1235, 100, 1234, 0), rI294)
set_option maxRecDepth 10000 in
theorem q_294 : rMs[294]? = some rR294 := rfl
def rR295 : rRow := (yL_run, cL_run, 5, (some .int), 14, 4, [(0, 10, 13, 13)], 0, (1243, 100, 1242, 0), rI295)
set_option maxRecDepth 10000 in
theorem q_295 : rMs[295]? = some rR295 := rfl
def rR296 : rRow := (yL_fits, cL_fits, 4, (some .int), 14, 3, [(0, 9, 12, 13)], 0, (1250, 100, 1249, 0), rI296)
set_option maxRecDepth 10000 in
theorem q_296 : rMs[296]? = some rR296 := rfl
def rR297 : rRow := (yL_look, cL_look, 4, (some .int), 14, 3, [(0, 9, 12, 13)], 0, (1282, 100, 1281, 0), rI297)
set_option maxRecDepth 10000 in
theorem q_297 : rMs[297]? = some rR297 := rfl
def rR298 : rRow := (yL_ahead, cL_ahead, 5, (some .int), 14, 4, [(0, 10, 13, 13)], 0, (1305, 100, 1304, 0), rI298)
set_option maxRecDepth 10000 in
theorem q_298 : rMs[298]? = some rR298 := rfl
def rR299 : rRow := (yL_lasts, cL_lasts, 4, (some .int), 14, 3, [(0, 9, 12, 13)], 0, (1313, 100, 1312, 0), rI299)
set_option maxRecDepth 10000 in
theorem q_299 : rMs[299]? = some rR299 := rfl
def rR300 : rRow := (yL_sellers, cL_sellers, 6, (some .int), 14, 5, [(0, 12, 15, 13)], 0, (1322, 100, 1321, 0), rI300)
set_option maxRecDepth 10000 in
theorem q_300 : rMs[300]? = some rR300 := rfl
def rR301 : rRow := (yL_year, cL_year, 7, (some .int), 14, 6, [(0, 14, 17, 13)], 0, (1335, 100, 1334, 0), rI301)
set_option maxRecDepth 10000 in
theorem q_301 : rMs[301]? = some rR301 := rfl
def rR302 : rRow := (yL_span, cL_span, 8, (some .int), 14, 7, [(0, 16, 19, 13)], 0, (1375, 100, 1374, 0), rI302)
set_option maxRecDepth 10000 in
theorem q_302 : rMs[302]? = some rR302 := rfl
theorem ev_at {d j : Nat} {r : rRow} {As : List Value} {M : rMem} {L : rLoc} (hd : 1 ≤ d) (hq : rMs[j]? = some r) (hl : As.length = rNa r) (hc : (As.all (fun v => decide (v.category = 1))) = true) (hL : rIni As r.2.2.1 = L) : ev d j As M = gv (d - 1) r 0 L [] M := by
  obtain ⟨e, rfl⟩ : ∃ e, d = e + 1 := ⟨d - 1, by omega⟩
  rw [ev_eq, hq]
  dsimp only
  rw [if_pos ⟨hl, hc⟩, hL]
  rfl
