theorem dl_172 : decode code 172 = .ok (.ireturn, 1) := by decide +kernel
theorem dl_173 : decode code 173 = .ok (.goto 667, 3) := by decide +kernel
theorem dl_176 : decode code 176 = .ok (.aload_n 1, 1) := by decide +kernel
theorem dl_177 : decode code 177 = .ok (.invokestatic 63, 3) := by decide +kernel
theorem dl_180 : decode code 180 = .ok (.istore 5, 2) := by decide +kernel
theorem dl_182 : decode code 182 = .ok (.aload_n 2, 1) := by decide +kernel
theorem dl_183 : decode code 183 = .ok (.invokevirtual 66, 3) := by decide +kernel
theorem dl_186 : decode code 186 = .ok (.aload_n 2, 1) := by decide +kernel
theorem dl_187 : decode code 187 = .ok (.invokevirtual 59, 3) := by decide +kernel
theorem dl_190 : decode code 190 = .ok (.iload 5, 2) := by decide +kernel
theorem dl_192 : decode code 192 = .ok (.if_icmp .eq 5, 3) := by decide +kernel
theorem dl_195 : decode code 195 = .ok (.iconst 0, 1) := by decide +kernel
theorem dl_196 : decode code 196 = .ok (.ireturn, 1) := by decide +kernel
theorem dl_197 : decode code 197 = .ok (.goto 643, 3) := by decide +kernel
theorem dl_200 : decode code 200 = .ok (.aload_n 1, 1) := by decide +kernel
theorem dl_201 : decode code 201 = .ok (.aload_n 0, 1) := by decide +kernel
theorem dl_202 : decode code 202 = .ok (.iload 4, 2) := by decide +kernel
theorem dl_204 : decode code 204 = .ok (.iconst 1, 1) := by decide +kernel
theorem dl_205 : decode code 205 = .ok (.iadd, 1) := by decide +kernel
theorem dl_206 : decode code 206 = .ok (.iaload, 1) := by decide +kernel
theorem dl_207 : decode code 207 = .ok (.ifCond .eq 7, 3) := by decide +kernel
theorem dl_210 : decode code 210 = .ok (.iconst 1, 1) := by decide +kernel
theorem dl_211 : decode code 211 = .ok (.goto 4, 3) := by decide +kernel
theorem dl_214 : decode code 214 = .ok (.iconst 0, 1) := by decide +kernel
theorem dl_215 : decode code 215 = .ok (.invokestatic 67, 3) := by decide +kernel
theorem dl_218 : decode code 218 = .ok (.istore 5, 2) := by decide +kernel
theorem dl_220 : decode code 220 = .ok (.aload_n 2, 1) := by decide +kernel
theorem dl_221 : decode code 221 = .ok (.aload_n 0, 1) := by decide +kernel
theorem dl_222 : decode code 222 = .ok (.iload 4, 2) := by decide +kernel
theorem dl_224 : decode code 224 = .ok (.iconst 1, 1) := by decide +kernel
theorem dl_225 : decode code 225 = .ok (.iadd, 1) := by decide +kernel
theorem dl_226 : decode code 226 = .ok (.iaload, 1) := by decide +kernel
theorem dl_227 : decode code 227 = .ok (.ifCond .eq 7, 3) := by decide +kernel
theorem dl_230 : decode code 230 = .ok (.iconst 1, 1) := by decide +kernel
theorem dl_231 : decode code 231 = .ok (.goto 4, 3) := by decide +kernel
theorem dl_234 : decode code 234 = .ok (.iconst 0, 1) := by decide +kernel
theorem dl_235 : decode code 235 = .ok (.invokevirtual 70, 3) := by decide +kernel
theorem dl_238 : decode code 238 = .ok (.aload_n 2, 1) := by decide +kernel
theorem dl_239 : decode code 239 = .ok (.invokevirtual 59, 3) := by decide +kernel
theorem dl_242 : decode code 242 = .ok (.iload 5, 2) := by decide +kernel
theorem dl_244 : decode code 244 = .ok (.if_icmp .eq 5, 3) := by decide +kernel
theorem dl_247 : decode code 247 = .ok (.iconst 0, 1) := by decide +kernel
theorem dl_248 : decode code 248 = .ok (.ireturn, 1) := by decide +kernel
theorem dl_249 : decode code 249 = .ok (.goto 591, 3) := by decide +kernel
theorem dl_252 : decode code 252 = .ok (.aload_n 1, 1) := by decide +kernel
theorem dl_253 : decode code 253 = .ok (.invokestatic 71, 3) := by decide +kernel
theorem dl_256 : decode code 256 = .ok (.istore 5, 2) := by decide +kernel
theorem dl_258 : decode code 258 = .ok (.aload_n 2, 1) := by decide +kernel
theorem dl_259 : decode code 259 = .ok (.invokevirtual 73, 3) := by decide +kernel
theorem dl_262 : decode code 262 = .ok (.aload_n 2, 1) := by decide +kernel
theorem dl_263 : decode code 263 = .ok (.invokevirtual 59, 3) := by decide +kernel
theorem dl_266 : decode code 266 = .ok (.iload 5, 2) := by decide +kernel
theorem dl_268 : decode code 268 = .ok (.if_icmp .eq 5, 3) := by decide +kernel
theorem dl_271 : decode code 271 = .ok (.iconst 0, 1) := by decide +kernel
theorem dl_272 : decode code 272 = .ok (.ireturn, 1) := by decide +kernel
