theorem dLW_law_172 : decode code 172 = .ok (.aload_n 0, 1) := by decide +kernel
theorem dLW_law_173 : decode code 173 = .ok (.iload 4, 2) := by decide +kernel
theorem dLW_law_175 : decode code 175 = .ok (.iconst 4, 1) := by decide +kernel
theorem dLW_law_176 : decode code 176 = .ok (.iadd, 1) := by decide +kernel
theorem dLW_law_177 : decode code 177 = .ok (.iaload, 1) := by decide +kernel
theorem dLW_law_178 : decode code 178 = .ok (.aload_n 0, 1) := by decide +kernel
theorem dLW_law_179 : decode code 179 = .ok (.iload 4, 2) := by decide +kernel
theorem dLW_law_181 : decode code 181 = .ok (.iconst 5, 1) := by decide +kernel
theorem dLW_law_182 : decode code 182 = .ok (.iadd, 1) := by decide +kernel
theorem dLW_law_183 : decode code 183 = .ok (.iaload, 1) := by decide +kernel
theorem dLW_law_184 : decode code 184 = .ok (.aload_n 3, 1) := by decide +kernel
theorem dLW_law_185 : decode code 185 = .ok (.invokestatic 64, 3) := by decide +kernel
theorem dLW_law_188 : decode code 188 = .ok (.istore 5, 2) := by decide +kernel
theorem dLW_law_190 : decode code 190 = .ok (.aload_n 2, 1) := by decide +kernel
theorem dLW_law_191 : decode code 191 = .ok (.aload_n 0, 1) := by decide +kernel
theorem dLW_law_192 : decode code 192 = .ok (.iload 4, 2) := by decide +kernel
theorem dLW_law_194 : decode code 194 = .ok (.iconst 1, 1) := by decide +kernel
theorem dLW_law_195 : decode code 195 = .ok (.iadd, 1) := by decide +kernel
theorem dLW_law_196 : decode code 196 = .ok (.iaload, 1) := by decide +kernel
theorem dLW_law_197 : decode code 197 = .ok (.aload_n 0, 1) := by decide +kernel
theorem dLW_law_198 : decode code 198 = .ok (.iload 4, 2) := by decide +kernel
theorem dLW_law_200 : decode code 200 = .ok (.iconst 2, 1) := by decide +kernel
theorem dLW_law_201 : decode code 201 = .ok (.iadd, 1) := by decide +kernel
theorem dLW_law_202 : decode code 202 = .ok (.iaload, 1) := by decide +kernel
theorem dLW_law_203 : decode code 203 = .ok (.aload_n 0, 1) := by decide +kernel
theorem dLW_law_204 : decode code 204 = .ok (.iload 4, 2) := by decide +kernel
theorem dLW_law_206 : decode code 206 = .ok (.iconst 3, 1) := by decide +kernel
theorem dLW_law_207 : decode code 207 = .ok (.iadd, 1) := by decide +kernel
theorem dLW_law_208 : decode code 208 = .ok (.iaload, 1) := by decide +kernel
theorem dLW_law_209 : decode code 209 = .ok (.aload_n 0, 1) := by decide +kernel
theorem dLW_law_210 : decode code 210 = .ok (.iload 4, 2) := by decide +kernel
theorem dLW_law_212 : decode code 212 = .ok (.iconst 4, 1) := by decide +kernel
theorem dLW_law_213 : decode code 213 = .ok (.iadd, 1) := by decide +kernel
theorem dLW_law_214 : decode code 214 = .ok (.iaload, 1) := by decide +kernel
theorem dLW_law_215 : decode code 215 = .ok (.aload_n 0, 1) := by decide +kernel
theorem dLW_law_216 : decode code 216 = .ok (.iload 4, 2) := by decide +kernel
theorem dLW_law_218 : decode code 218 = .ok (.iconst 5, 1) := by decide +kernel
theorem dLW_law_219 : decode code 219 = .ok (.iadd, 1) := by decide +kernel
theorem dLW_law_220 : decode code 220 = .ok (.iaload, 1) := by decide +kernel
theorem dLW_law_221 : decode code 221 = .ok (.invokevirtual 67, 3) := by decide +kernel
theorem dLW_law_224 : decode code 224 = .ok (.istore 6, 2) := by decide +kernel
theorem dLW_law_226 : decode code 226 = .ok (.goto 515, 3) := by decide +kernel
theorem dLW_law_229 : decode code 229 = .ok (.aload_n 1, 1) := by decide +kernel
theorem dLW_law_230 : decode code 230 = .ok (.aload_n 0, 1) := by decide +kernel
theorem dLW_law_231 : decode code 231 = .ok (.iload 4, 2) := by decide +kernel
theorem dLW_law_233 : decode code 233 = .ok (.iconst 1, 1) := by decide +kernel
theorem dLW_law_234 : decode code 234 = .ok (.iadd, 1) := by decide +kernel
theorem dLW_law_235 : decode code 235 = .ok (.iaload, 1) := by decide +kernel
theorem dLW_law_236 : decode code 236 = .ok (.aload_n 0, 1) := by decide +kernel
theorem dLW_law_237 : decode code 237 = .ok (.iload 4, 2) := by decide +kernel
theorem dLW_law_239 : decode code 239 = .ok (.iconst 2, 1) := by decide +kernel
theorem dLW_law_240 : decode code 240 = .ok (.iadd, 1) := by decide +kernel
theorem dLW_law_241 : decode code 241 = .ok (.iaload, 1) := by decide +kernel
theorem dLW_law_242 : decode code 242 = .ok (.aload_n 0, 1) := by decide +kernel
theorem dLW_law_243 : decode code 243 = .ok (.iload 4, 2) := by decide +kernel
theorem dLW_law_245 : decode code 245 = .ok (.iconst 3, 1) := by decide +kernel
theorem dLW_law_246 : decode code 246 = .ok (.iadd, 1) := by decide +kernel
theorem dLW_law_247 : decode code 247 = .ok (.iaload, 1) := by decide +kernel
theorem dLW_law_248 : decode code 248 = .ok (.aload_n 0, 1) := by decide +kernel
theorem dLW_law_249 : decode code 249 = .ok (.iload 4, 2) := by decide +kernel
