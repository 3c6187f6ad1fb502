set_option maxRecDepth 100000 in
theorem mk_136 : am_mok am_y am_m 136 = true := by decide +kernel
set_option maxRecDepth 100000 in
theorem mk_137 : am_mok am_y am_m 137 = true := by decide +kernel
set_option maxRecDepth 100000 in
theorem mk_138 : am_mok am_y am_m 138 = true := by decide +kernel
set_option maxRecDepth 100000 in
theorem mk_139 : am_mok am_y am_m 139 = true := by decide +kernel
set_option maxRecDepth 100000 in
theorem mk_140 : am_mok am_y am_m 140 = true := by decide +kernel
set_option maxRecDepth 100000 in
theorem mk_141 : am_mok am_y am_m 141 = true := by decide +kernel
set_option maxRecDepth 100000 in
theorem mk_142 : am_mok am_y am_m 142 = true := by decide +kernel
set_option maxRecDepth 100000 in
theorem mk_143 : am_mok am_y am_m 143 = true := by decide +kernel
set_option maxRecDepth 100000 in
theorem mk_144 : am_mok am_y am_m 144 = true := by decide +kernel
set_option maxRecDepth 100000 in
theorem mk_145 : am_mok am_y am_m 145 = true := by decide +kernel
set_option maxRecDepth 100000 in
theorem mk_146 : am_mok am_y am_m 146 = true := by decide +kernel
set_option maxRecDepth 100000 in
theorem mk_147 : am_mok am_y am_m 147 = true := by decide +kernel
set_option maxRecDepth 100000 in
theorem mk_148 : am_mok am_y am_m 148 = true := by decide +kernel
set_option maxRecDepth 100000 in
theorem mk_149 : am_mok am_y am_m 149 = true := by decide +kernel
set_option maxRecDepth 100000 in
theorem mk_150 : am_mok am_y am_m 150 = true := by decide +kernel
set_option maxRecDepth 100000 in
theorem mk_151 : am_mok am_y am_m 151 = true := by decide +kernel
set_option maxRecDepth 100000 in
theorem mk_152 : am_mok am_y am_m 152 = true := by decide +kernel
set_option maxRecDepth 100000 in
theorem mk_153 : am_mok am_y am_m 153 = true := by decide +kernel
set_option maxRecDepth 100000 in
theorem mk_154 : am_mok am_y am_m 154 = true := by decide +kernel
set_option maxRecDepth 100000 in
theorem mk_155 : am_mok am_y am_m 155 = true := by decide +kernel
set_option maxRecDepth 100000 in
theorem mk_156 : am_mok am_y am_m 156 = true := by decide +kernel
set_option maxRecDepth 100000 in
theorem mk_157 : am_mok am_y am_m 157 = true := by decide +kernel
set_option maxRecDepth 100000 in
theorem mk_158 : am_mok am_y am_m 158 = true := by decide +kernel
set_option maxRecDepth 100000 in
theorem mk_159 : am_mok am_y am_m 159 = true := by decide +kernel
set_option maxRecDepth 100000 in
theorem mk_160 : am_mok am_y am_m 160 = true := by decide +kernel
set_option maxRecDepth 100000 in
theorem mk_161 : am_mok am_y am_m 161 = true := by decide +kernel
set_option maxRecDepth 100000 in
theorem mk_162 : am_mok am_y am_m 162 = true := by decide +kernel
set_option maxRecDepth 100000 in
theorem mk_163 : am_mok am_y am_m 163 = true := by decide +kernel
set_option maxRecDepth 100000 in
theorem mk_164 : am_mok am_y am_m 164 = true := by decide +kernel
set_option maxRecDepth 100000 in
theorem mk_165 : am_mok am_y am_m 165 = true := by decide +kernel
set_option maxRecDepth 100000 in
theorem mk_166 : am_mok am_y am_m 166 = true := by decide +kernel
set_option maxRecDepth 100000 in
theorem mk_167 : am_mok am_y am_m 167 = true := by decide +kernel
set_option maxRecDepth 100000 in
theorem mk_168 : am_mok am_y am_m 168 = true := by decide +kernel
set_option maxRecDepth 100000 in
theorem mk_169 : am_mok am_y am_m 169 = true := by decide +kernel
set_option maxRecDepth 100000 in
theorem mk_170 : am_mok am_y am_m 170 = true := by decide +kernel
set_option maxRecDepth 100000 in
theorem mk_171 : am_mok am_y am_m 171 = true := by decide +kernel
set_option maxRecDepth 100000 in
theorem mk_172 : am_mok am_y am_m 172 = true := by decide +kernel
set_option maxRecDepth 100000 in
theorem mk_173 : am_mok am_y am_m 173 = true := by decide +kernel
set_option maxRecDepth 100000 in
theorem mk_174 : am_mok am_y am_m 174 = true := by decide +kernel
set_option maxRecDepth 100000 in
theorem mk_175 : am_mok am_y am_m 175 = true := by decide +kernel
set_option maxRecDepth 100000 in
theorem mk_176 : am_mok am_y am_m 176 = true := by decide +kernel
set_option maxRecDepth 100000 in
theorem mk_177 : am_mok am_y am_m 177 = true := by decide +kernel
set_option maxRecDepth 100000 in
theorem mk_178 : am_mok am_y am_m 178 = true := by decide +kernel
set_option maxRecDepth 100000 in
theorem mk_179 : am_mok am_y am_m 179 = true := by decide +kernel
set_option maxRecDepth 100000 in
theorem mk_180 : am_mok am_y am_m 180 = true := by decide +kernel
set_option maxRecDepth 100000 in
theorem mk_181 : am_mok am_y am_m 181 = true := by decide +kernel
set_option maxRecDepth 100000 in
theorem mk_182 : am_mok am_y am_m 182 = true := by decide +kernel
set_option maxRecDepth 100000 in
theorem mk_183 : am_mok am_y am_m 183 = true := by decide +kernel
set_option maxRecDepth 100000 in
theorem mk_184 : am_mok am_y am_m 184 = true := by decide +kernel
set_option maxRecDepth 100000 in
theorem mk_185 : am_mok am_y am_m 185 = true := by decide +kernel
set_option maxRecDepth 100000 in
theorem mk_186 : am_mok am_y am_m 186 = true := by decide +kernel
set_option maxRecDepth 100000 in
theorem mk_187 : am_mok am_y am_m 187 = true := by decide +kernel
set_option maxRecDepth 100000 in
theorem mk_188 : am_mok am_y am_m 188 = true := by decide +kernel
set_option maxRecDepth 100000 in
theorem mk_189 : am_mok am_y am_m 189 = true := by decide +kernel
set_option maxRecDepth 100000 in
theorem mk_190 : am_mok am_y am_m 190 = true := by decide +kernel
set_option maxRecDepth 100000 in
theorem mk_191 : am_mok am_y am_m 191 = true := by decide +kernel
set_option maxRecDepth 100000 in
theorem mk_192 : am_mok am_y am_m 192 = true := by decide +kernel
set_option maxRecDepth 100000 in
theorem mk_193 : am_mok am_y am_m 193 = true := by decide +kernel
set_option maxRecDepth 100000 in
theorem mk_194 : am_mok am_y am_m 194 = true := by decide +kernel
set_option maxRecDepth 100000 in
theorem mk_195 : am_mok am_y am_m 195 = true := by decide +kernel
set_option maxRecDepth 100000 in
theorem mk_196 : am_mok am_y am_m 196 = true := by decide +kernel
set_option maxRecDepth 100000 in
theorem mk_197 : am_mok am_y am_m 197 = true := by decide +kernel
set_option maxRecDepth 100000 in
theorem mk_198 : am_mok am_y am_m 198 = true := by decide +kernel
set_option maxRecDepth 100000 in
theorem mk_199 : am_mok am_y am_m 199 = true := by decide +kernel
set_option maxRecDepth 100000 in
theorem mk_200 : am_mok am_y am_m 200 = true := by decide +kernel
set_option maxRecDepth 100000 in
theorem mk_201 : am_mok am_y am_m 201 = true := by decide +kernel
set_option maxRecDepth 100000 in
theorem mk_202 : am_mok am_y am_m 202 = true := by decide +kernel
set_option maxRecDepth 100000 in
theorem mk_203 : am_mok am_y am_m 203 = true := by decide +kernel
set_option maxRecDepth 100000 in
theorem mk_204 : am_mok am_y am_m 204 = true := by decide +kernel
set_option maxRecDepth 100000 in
theorem mk_205 : am_mok am_y am_m 205 = true := by decide +kernel
set_option maxRecDepth 100000 in
theorem mk_206 : am_mok am_y am_m 206 = true := by decide +kernel
set_option maxRecDepth 100000 in
theorem mk_207 : am_mok am_y am_m 207 = true := by decide +kernel
set_option maxRecDepth 100000 in
theorem mk_208 : am_mok am_y am_m 208 = true := by decide +kernel
set_option maxRecDepth 100000 in
theorem mk_209 : am_mok am_y am_m 209 = true := by decide +kernel
set_option maxRecDepth 100000 in
theorem mk_210 : am_mok am_y am_m 210 = true := by decide +kernel
set_option maxRecDepth 100000 in
theorem mk_211 : am_mok am_y am_m 211 = true := by decide +kernel
set_option maxRecDepth 100000 in
theorem mk_212 : am_mok am_y am_m 212 = true := by decide +kernel
set_option maxRecDepth 100000 in
theorem mk_213 : am_mok am_y am_m 213 = true := by decide +kernel
set_option maxRecDepth 100000 in
theorem mk_214 : am_mok am_y am_m 214 = true := by decide +kernel
set_option maxRecDepth 100000 in
theorem mk_215 : am_mok am_y am_m 215 = true := by decide +kernel
set_option maxRecDepth 100000 in
theorem mk_216 : am_mok am_y am_m 216 = true := by decide +kernel
set_option maxRecDepth 100000 in
theorem mk_217 : am_mok am_y am_m 217 = true := by decide +kernel
set_option maxRecDepth 100000 in
theorem mk_218 : am_mok am_y am_m 218 = true := by decide +kernel
set_option maxRecDepth 100000 in
theorem mk_219 : am_mok am_y am_m 219 = true := by decide +kernel
set_option maxRecDepth 100000 in
theorem mk_220 : am_mok am_y am_m 220 = true := by decide +kernel
set_option maxRecDepth 100000 in
theorem mk_221 : am_mok am_y am_m 221 = true := by decide +kernel
set_option maxRecDepth 100000 in
theorem mk_222 : am_mok am_y am_m 222 = true := by decide +kernel
set_option maxRecDepth 100000 in
theorem mk_223 : am_mok am_y am_m 223 = true := by decide +kernel
set_option maxRecDepth 100000 in
theorem mk_224 : am_mok am_y am_m 224 = true := by decide +kernel
set_option maxRecDepth 100000 in
theorem mk_225 : am_mok am_y am_m 225 = true := by decide +kernel
set_option maxRecDepth 100000 in
theorem mk_226 : am_mok am_y am_m 226 = true := by decide +kernel
set_option maxRecDepth 100000 in
theorem mk_227 : am_mok am_y am_m 227 = true := by decide +kernel
set_option maxRecDepth 100000 in
theorem mk_228 : am_mok am_y am_m 228 = true := by decide +kernel
set_option maxRecDepth 100000 in
theorem mk_229 : am_mok am_y am_m 229 = true := by decide +kernel
set_option maxRecDepth 100000 in
theorem mk_230 : am_mok am_y am_m 230 = true := by decide +kernel
set_option maxRecDepth 100000 in
theorem mk_231 : am_mok am_y am_m 231 = true := by decide +kernel
set_option maxRecDepth 100000 in
theorem mk_232 : am_mok am_y am_m 232 = true := by decide +kernel
set_option maxRecDepth 100000 in
theorem mk_233 : am_mok am_y am_m 233 = true := by decide +kernel
set_option maxRecDepth 100000 in
theorem mk_234 : am_mok am_y am_m 234 = true := by decide +kernel
set_option maxRecDepth 100000 in
theorem mk_235 : am_mok am_y am_m 235 = true := by decide +kernel
set_option maxRecDepth 100000 in
theorem mk_236 : am_mok am_y am_m 236 = true := by decide +kernel
set_option maxRecDepth 100000 in
theorem mk_237 : am_mok am_y am_m 237 = true := by decide +kernel
