theorem dl_172 : decode code 172 = .ok (.invokevirtual 62, 3) := by decide +kernel
theorem dl_175 : decode code 175 = .ok (.goto 498, 3) := by decide +kernel
theorem dl_178 : decode code 178 = .ok (.aload_n 1, 1) := by decide +kernel
theorem dl_179 : decode code 179 = .ok (.aload_n 0, 1) := by decide +kernel
theorem dl_180 : decode code 180 = .ok (.iload 4, 2) := by decide +kernel
theorem dl_182 : decode code 182 = .ok (.iconst 1, 1) := by decide +kernel
theorem dl_183 : decode code 183 = .ok (.iadd, 1) := by decide +kernel
theorem dl_184 : decode code 184 = .ok (.iaload, 1) := by decide +kernel
theorem dl_185 : decode code 185 = .ok (.ifCond .eq 7, 3) := by decide +kernel
theorem dl_188 : decode code 188 = .ok (.iconst 1, 1) := by decide +kernel
theorem dl_189 : decode code 189 = .ok (.goto 4, 3) := by decide +kernel
theorem dl_192 : decode code 192 = .ok (.iconst 0, 1) := by decide +kernel
theorem dl_193 : decode code 193 = .ok (.invokestatic 63, 3) := by decide +kernel
theorem dl_196 : decode code 196 = .ok (.istore 5, 2) := by decide +kernel
theorem dl_198 : decode code 198 = .ok (.aload_n 2, 1) := by decide +kernel
theorem dl_199 : decode code 199 = .ok (.aload_n 0, 1) := by decide +kernel
theorem dl_200 : decode code 200 = .ok (.iload 4, 2) := by decide +kernel
theorem dl_202 : decode code 202 = .ok (.iconst 1, 1) := by decide +kernel
theorem dl_203 : decode code 203 = .ok (.iadd, 1) := by decide +kernel
theorem dl_204 : decode code 204 = .ok (.iaload, 1) := by decide +kernel
theorem dl_205 : decode code 205 = .ok (.ifCond .eq 7, 3) := by decide +kernel
theorem dl_208 : decode code 208 = .ok (.iconst 1, 1) := by decide +kernel
theorem dl_209 : decode code 209 = .ok (.goto 4, 3) := by decide +kernel
theorem dl_212 : decode code 212 = .ok (.iconst 0, 1) := by decide +kernel
theorem dl_213 : decode code 213 = .ok (.invokevirtual 66, 3) := by decide +kernel
theorem dl_216 : decode code 216 = .ok (.goto 457, 3) := by decide +kernel
theorem dl_219 : decode code 219 = .ok (.aload_n 1, 1) := by decide +kernel
theorem dl_220 : decode code 220 = .ok (.invokestatic 67, 3) := by decide +kernel
theorem dl_223 : decode code 223 = .ok (.istore 5, 2) := by decide +kernel
theorem dl_225 : decode code 225 = .ok (.aload_n 2, 1) := by decide +kernel
theorem dl_226 : decode code 226 = .ok (.invokevirtual 69, 3) := by decide +kernel
theorem dl_229 : decode code 229 = .ok (.goto 444, 3) := by decide +kernel
theorem dl_232 : decode code 232 = .ok (.aload_n 1, 1) := by decide +kernel
theorem dl_233 : decode code 233 = .ok (.aload_n 0, 1) := by decide +kernel
theorem dl_234 : decode code 234 = .ok (.iload 4, 2) := by decide +kernel
theorem dl_236 : decode code 236 = .ok (.iconst 1, 1) := by decide +kernel
theorem dl_237 : decode code 237 = .ok (.iadd, 1) := by decide +kernel
theorem dl_238 : decode code 238 = .ok (.iaload, 1) := by decide +kernel
theorem dl_239 : decode code 239 = .ok (.aload_n 3, 1) := by decide +kernel
theorem dl_240 : decode code 240 = .ok (.invokestatic 70, 3) := by decide +kernel
theorem dl_243 : decode code 243 = .ok (.istore 5, 2) := by decide +kernel
theorem dl_245 : decode code 245 = .ok (.aload_n 2, 1) := by decide +kernel
theorem dl_246 : decode code 246 = .ok (.aload_n 0, 1) := by decide +kernel
theorem dl_247 : decode code 247 = .ok (.iload 4, 2) := by decide +kernel
theorem dl_249 : decode code 249 = .ok (.iconst 1, 1) := by decide +kernel
theorem dl_250 : decode code 250 = .ok (.iadd, 1) := by decide +kernel
theorem dl_251 : decode code 251 = .ok (.iaload, 1) := by decide +kernel
theorem dl_252 : decode code 252 = .ok (.invokevirtual 73, 3) := by decide +kernel
theorem dl_255 : decode code 255 = .ok (.istore 6, 2) := by decide +kernel
theorem dl_257 : decode code 257 = .ok (.goto 416, 3) := by decide +kernel
theorem dl_260 : decode code 260 = .ok (.aload_n 1, 1) := by decide +kernel
theorem dl_261 : decode code 261 = .ok (.aload_n 0, 1) := by decide +kernel
theorem dl_262 : decode code 262 = .ok (.iload 4, 2) := by decide +kernel
theorem dl_264 : decode code 264 = .ok (.iconst 1, 1) := by decide +kernel
theorem dl_265 : decode code 265 = .ok (.iadd, 1) := by decide +kernel
