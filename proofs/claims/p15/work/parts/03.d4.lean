theorem dX11_reckons_123 : decode cX11_reckons 123 = .ok (.goto (-22), 3) := dq_X11_reckons_114.2.2.2.2.1
theorem dX11_reckons_126 : decode cX11_reckons 126 = .ok (.aload_n 0, 1) := dq_X11_reckons_114.2.2.2.2.2.1
theorem dX11_reckons_127 : decode cX11_reckons 127 = .ok (.getfield 107, 3) := dq_X11_reckons_114.2.2.2.2.2.2.1
theorem dX11_reckons_130 : decode cX11_reckons 130 = .ok (.iload_n 1, 1) := dq_X11_reckons_114.2.2.2.2.2.2.2.1
theorem dX11_reckons_131 : decode cX11_reckons 131 = .ok (.bipush 54, 2) := dq_X11_reckons_114.2.2.2.2.2.2.2.2.1
theorem dX11_reckons_133 : decode cX11_reckons 133 = .ok (.iload 4, 2) := dq_X11_reckons_114.2.2.2.2.2.2.2.2.2.1
theorem dX11_reckons_135 : decode cX11_reckons 135 = .ok (.invokestatic 129, 3) := dq_X11_reckons_114.2.2.2.2.2.2.2.2.2.2.1
theorem dX11_reckons_138 : decode cX11_reckons 138 = .ok (.iastore, 1) := dq_X11_reckons_114.2.2.2.2.2.2.2.2.2.2.2.1
theorem dX11_reckons_139 : decode cX11_reckons 139 = .ok (.iload_n 3, 1) := dq_X11_reckons_114.2.2.2.2.2.2.2.2.2.2.2.2.1
theorem dX11_reckons_140 : decode cX11_reckons 140 = .ok (.iconst 4, 1) := dq_X11_reckons_114.2.2.2.2.2.2.2.2.2.2.2.2.2.1
theorem dX11_reckons_141 : decode cX11_reckons 141 = .ok (.if_icmp .eq 9, 3) := dq_X11_reckons_114.2.2.2.2.2.2.2.2.2.2.2.2.2.2.1
theorem dX11_reckons_144 : decode cX11_reckons 144 = .ok (.iload_n 3, 1) := dq_X11_reckons_114.2.2.2.2.2.2.2.2.2.2.2.2.2.2.2
theorem dq_X11_reckons_145 : (decode cX11_reckons 145 = .ok (.bipush 6, 2)) ∧ (decode cX11_reckons 147 = .ok (.if_icmp .ne 75, 3)) ∧ (decode cX11_reckons 150 = .ok (.aload_n 0, 1)) ∧ (decode cX11_reckons 151 = .ok (.getfield 107, 3)) ∧ (decode cX11_reckons 154 = .ok (.iload_n 1, 1)) ∧ (decode cX11_reckons 155 = .ok (.bipush 54, 2)) ∧ (decode cX11_reckons 157 = .ok (.aload_n 0, 1)) ∧ (decode cX11_reckons 158 = .ok (.getfield 65, 3)) ∧ (decode cX11_reckons 161 = .ok (.iload_n 1, 1)) ∧ (decode cX11_reckons 162 = .ok (.iaload, 1)) ∧ (decode cX11_reckons 163 = .ok (.aload_n 0, 1)) ∧ (decode cX11_reckons 164 = .ok (.getfield 80, 3)) ∧ (decode cX11_reckons 167 = .ok (.iload_n 1, 1)) ∧ (decode cX11_reckons 168 = .ok (.iaload, 1)) ∧ (decode cX11_reckons 169 = .ok (.aload_n 0, 1)) ∧ (decode cX11_reckons 170 = .ok (.getfield 83, 3)) := by decide +kernel
theorem dX11_reckons_145 : decode cX11_reckons 145 = .ok (.bipush 6, 2) := dq_X11_reckons_145.1
theorem dX11_reckons_147 : decode cX11_reckons 147 = .ok (.if_icmp .ne 75, 3) := dq_X11_reckons_145.2.1
theorem dX11_reckons_150 : decode cX11_reckons 150 = .ok (.aload_n 0, 1) := dq_X11_reckons_145.2.2.1
theorem dX11_reckons_151 : decode cX11_reckons 151 = .ok (.getfield 107, 3) := dq_X11_reckons_145.2.2.2.1
theorem dX11_reckons_154 : decode cX11_reckons 154 = .ok (.iload_n 1, 1) := dq_X11_reckons_145.2.2.2.2.1
theorem dX11_reckons_155 : decode cX11_reckons 155 = .ok (.bipush 54, 2) := dq_X11_reckons_145.2.2.2.2.2.1
theorem dX11_reckons_157 : decode cX11_reckons 157 = .ok (.aload_n 0, 1) := dq_X11_reckons_145.2.2.2.2.2.2.1
theorem dX11_reckons_158 : decode cX11_reckons 158 = .ok (.getfield 65, 3) := dq_X11_reckons_145.2.2.2.2.2.2.2.1
theorem dX11_reckons_161 : decode cX11_reckons 161 = .ok (.iload_n 1, 1) := dq_X11_reckons_145.2.2.2.2.2.2.2.2.1
theorem dX11_reckons_162 : decode cX11_reckons 162 = .ok (.iaload, 1) := dq_X11_reckons_145.2.2.2.2.2.2.2.2.2.1
theorem dX11_reckons_163 : decode cX11_reckons 163 = .ok (.aload_n 0, 1) := dq_X11_reckons_145.2.2.2.2.2.2.2.2.2.2.1
theorem dX11_reckons_164 : decode cX11_reckons 164 = .ok (.getfield 80, 3) := dq_X11_reckons_145.2.2.2.2.2.2.2.2.2.2.2.1
theorem dX11_reckons_167 : decode cX11_reckons 167 = .ok (.iload_n 1, 1) := dq_X11_reckons_145.2.2.2.2.2.2.2.2.2.2.2.2.1
theorem dX11_reckons_168 : decode cX11_reckons 168 = .ok (.iaload, 1) := dq_X11_reckons_145.2.2.2.2.2.2.2.2.2.2.2.2.2.1
theorem dX11_reckons_169 : decode cX11_reckons 169 = .ok (.aload_n 0, 1) := dq_X11_reckons_145.2.2.2.2.2.2.2.2.2.2.2.2.2.2.1
theorem dX11_reckons_170 : decode cX11_reckons 170 = .ok (.getfield 83, 3) := dq_X11_reckons_145.2.2.2.2.2.2.2.2.2.2.2.2.2.2.2
theorem dq_X11_reckons_173 : (decode cX11_reckons 173 = .ok (.iload_n 1, 1)) ∧ (decode cX11_reckons 174 = .ok (.iaload, 1)) ∧ (decode cX11_reckons 175 = .ok (.invokestatic 307, 3)) ∧ (decode cX11_reckons 178 = .ok (.aload_n 0, 1)) ∧ (decode cX11_reckons 179 = .ok (.getfield 77, 3)) ∧ (decode cX11_reckons 182 = .ok (.iload_n 1, 1)) ∧ (decode cX11_reckons 183 = .ok (.iaload, 1)) ∧ (decode cX11_reckons 184 = .ok (.invokestatic 272, 3)) ∧ (decode cX11_reckons 187 = .ok (.imul, 1)) ∧ (decode cX11_reckons 188 = .ok (.sipush 128, 3)) ∧ (decode cX11_reckons 191 = .ok (.idiv, 1)) ∧ (decode cX11_reckons 192 = .ok (.iadd, 1)) ∧ (decode cX11_reckons 193 = .ok (.invokestatic 129, 3)) ∧ (decode cX11_reckons 196 = .ok (.iastore, 1)) ∧ (decode cX11_reckons 197 = .ok (.aload_n 0, 1)) ∧ (decode cX11_reckons 198 = .ok (.getfield 80, 3)) := by decide +kernel
theorem dX11_reckons_173 : decode cX11_reckons 173 = .ok (.iload_n 1, 1) := dq_X11_reckons_173.1
theorem dX11_reckons_174 : decode cX11_reckons 174 = .ok (.iaload, 1) := dq_X11_reckons_173.2.1
theorem dX11_reckons_175 : decode cX11_reckons 175 = .ok (.invokestatic 307, 3) := dq_X11_reckons_173.2.2.1
theorem dX11_reckons_178 : decode cX11_reckons 178 = .ok (.aload_n 0, 1) := dq_X11_reckons_173.2.2.2.1
theorem dX11_reckons_179 : decode cX11_reckons 179 = .ok (.getfield 77, 3) := dq_X11_reckons_173.2.2.2.2.1
theorem dX11_reckons_182 : decode cX11_reckons 182 = .ok (.iload_n 1, 1) := dq_X11_reckons_173.2.2.2.2.2.1
theorem dX11_reckons_183 : decode cX11_reckons 183 = .ok (.iaload, 1) := dq_X11_reckons_173.2.2.2.2.2.2.1
theorem dX11_reckons_184 : decode cX11_reckons 184 = .ok (.invokestatic 272, 3) := dq_X11_reckons_173.2.2.2.2.2.2.2.1
theorem dX11_reckons_187 : decode cX11_reckons 187 = .ok (.imul, 1) := dq_X11_reckons_173.2.2.2.2.2.2.2.2.1
theorem dX11_reckons_188 : decode cX11_reckons 188 = .ok (.sipush 128, 3) := dq_X11_reckons_173.2.2.2.2.2.2.2.2.2.1
theorem dX11_reckons_191 : decode cX11_reckons 191 = .ok (.idiv, 1) := dq_X11_reckons_173.2.2.2.2.2.2.2.2.2.2.1
theorem dX11_reckons_192 : decode cX11_reckons 192 = .ok (.iadd, 1) := dq_X11_reckons_173.2.2.2.2.2.2.2.2.2.2.2.1
theorem dX11_reckons_193 : decode cX11_reckons 193 = .ok (.invokestatic 129, 3) := dq_X11_reckons_173.2.2.2.2.2.2.2.2.2.2.2.2.1
theorem dX11_reckons_196 : decode cX11_reckons 196 = .ok (.iastore, 1) := dq_X11_reckons_173.2.2.2.2.2.2.2.2.2.2.2.2.2.1
theorem dX11_reckons_197 : decode cX11_reckons 197 = .ok (.aload_n 0, 1) := dq_X11_reckons_173.2.2.2.2.2.2.2.2.2.2.2.2.2.2.1
theorem dX11_reckons_198 : decode cX11_reckons 198 = .ok (.getfield 80, 3) := dq_X11_reckons_173.2.2.2.2.2.2.2.2.2.2.2.2.2.2.2
theorem dq_X11_reckons_201 : (decode cX11_reckons 201 = .ok (.iload_n 1, 1)) ∧ (decode cX11_reckons 202 = .ok (.aload_n 0, 1)) ∧ (decode cX11_reckons 203 = .ok (.getfield 80, 3)) ∧ (decode cX11_reckons 206 = .ok (.iload_n 1, 1)) ∧ (decode cX11_reckons 207 = .ok (.iaload, 1)) ∧ (decode cX11_reckons 208 = .ok (.aload_n 0, 1)) ∧ (decode cX11_reckons 209 = .ok (.getfield 77, 3)) ∧ (decode cX11_reckons 212 = .ok (.iload_n 1, 1)) ∧ (decode cX11_reckons 213 = .ok (.iaload, 1)) ∧ (decode cX11_reckons 214 = .ok (.invokestatic 260, 3)) ∧ (decode cX11_reckons 217 = .ok (.iadd, 1)) ∧ (decode cX11_reckons 218 = .ok (.bipush 64, 2)) ∧ (decode cX11_reckons 220 = .ok (.irem, 1)) ∧ (decode cX11_reckons 221 = .ok (.iastore, 1)) ∧ (decode cX11_reckons 222 = .ok (.iload_n 3, 1)) ∧ (decode cX11_reckons 223 = .ok (.bipush 7, 2)) := by decide +kernel
theorem dX11_reckons_201 : decode cX11_reckons 201 = .ok (.iload_n 1, 1) := dq_X11_reckons_201.1
theorem dX11_reckons_202 : decode cX11_reckons 202 = .ok (.aload_n 0, 1) := dq_X11_reckons_201.2.1
theorem dX11_reckons_203 : decode cX11_reckons 203 = .ok (.getfield 80, 3) := dq_X11_reckons_201.2.2.1
theorem dX11_reckons_206 : decode cX11_reckons 206 = .ok (.iload_n 1, 1) := dq_X11_reckons_201.2.2.2.1
theorem dX11_reckons_207 : decode cX11_reckons 207 = .ok (.iaload, 1) := dq_X11_reckons_201.2.2.2.2.1
theorem dX11_reckons_208 : decode cX11_reckons 208 = .ok (.aload_n 0, 1) := dq_X11_reckons_201.2.2.2.2.2.1
theorem dX11_reckons_209 : decode cX11_reckons 209 = .ok (.getfield 77, 3) := dq_X11_reckons_201.2.2.2.2.2.2.1
theorem dX11_reckons_212 : decode cX11_reckons 212 = .ok (.iload_n 1, 1) := dq_X11_reckons_201.2.2.2.2.2.2.2.1
theorem dX11_reckons_213 : decode cX11_reckons 213 = .ok (.iaload, 1) := dq_X11_reckons_201.2.2.2.2.2.2.2.2.1
theorem dX11_reckons_214 : decode cX11_reckons 214 = .ok (.invokestatic 260, 3) := dq_X11_reckons_201.2.2.2.2.2.2.2.2.2.1
theorem dX11_reckons_217 : decode cX11_reckons 217 = .ok (.iadd, 1) := dq_X11_reckons_201.2.2.2.2.2.2.2.2.2.2.1
theorem dX11_reckons_218 : decode cX11_reckons 218 = .ok (.bipush 64, 2) := dq_X11_reckons_201.2.2.2.2.2.2.2.2.2.2.2.1
theorem dX11_reckons_220 : decode cX11_reckons 220 = .ok (.irem, 1) := dq_X11_reckons_201.2.2.2.2.2.2.2.2.2.2.2.2.1
theorem dX11_reckons_221 : decode cX11_reckons 221 = .ok (.iastore, 1) := dq_X11_reckons_201.2.2.2.2.2.2.2.2.2.2.2.2.2.1
theorem dX11_reckons_222 : decode cX11_reckons 222 = .ok (.iload_n 3, 1) := dq_X11_reckons_201.2.2.2.2.2.2.2.2.2.2.2.2.2.2.1
theorem dX11_reckons_223 : decode cX11_reckons 223 = .ok (.bipush 7, 2) := dq_X11_reckons_201.2.2.2.2.2.2.2.2.2.2.2.2.2.2.2
theorem dq_X11_reckons_225 : (decode cX11_reckons 225 = .ok (.if_icmp .ne 75, 3)) ∧ (decode cX11_reckons 228 = .ok (.aload_n 0, 1)) ∧ (decode cX11_reckons 229 = .ok (.getfield 110, 3)) ∧ (decode cX11_reckons 232 = .ok (.iload_n 1, 1)) ∧ (decode cX11_reckons 233 = .ok (.aload_n 0, 1)) ∧ (decode cX11_reckons 234 = .ok (.getfield 59, 3)) ∧ (decode cX11_reckons 237 = .ok (.iload_n 1, 1)) ∧ (decode cX11_reckons 238 = .ok (.iaload, 1)) ∧ (decode cX11_reckons 239 = .ok (.aload_n 0, 1)) ∧ (decode cX11_reckons 240 = .ok (.getfield 89, 3)) ∧ (decode cX11_reckons 243 = .ok (.iload_n 1, 1)) ∧ (decode cX11_reckons 244 = .ok (.iaload, 1)) ∧ (decode cX11_reckons 245 = .ok (.aload_n 0, 1)) ∧ (decode cX11_reckons 246 = .ok (.getfield 92, 3)) ∧ (decode cX11_reckons 249 = .ok (.iload_n 1, 1)) ∧ (decode cX11_reckons 250 = .ok (.iaload, 1)) := by decide +kernel
theorem dX11_reckons_225 : decode cX11_reckons 225 = .ok (.if_icmp .ne 75, 3) := dq_X11_reckons_225.1
theorem dX11_reckons_228 : decode cX11_reckons 228 = .ok (.aload_n 0, 1) := dq_X11_reckons_225.2.1
theorem dX11_reckons_229 : decode cX11_reckons 229 = .ok (.getfield 110, 3) := dq_X11_reckons_225.2.2.1
theorem dX11_reckons_232 : decode cX11_reckons 232 = .ok (.iload_n 1, 1) := dq_X11_reckons_225.2.2.2.1
theorem dX11_reckons_233 : decode cX11_reckons 233 = .ok (.aload_n 0, 1) := dq_X11_reckons_225.2.2.2.2.1
theorem dX11_reckons_234 : decode cX11_reckons 234 = .ok (.getfield 59, 3) := dq_X11_reckons_225.2.2.2.2.2.1
theorem dX11_reckons_237 : decode cX11_reckons 237 = .ok (.iload_n 1, 1) := dq_X11_reckons_225.2.2.2.2.2.2.1
theorem dX11_reckons_238 : decode cX11_reckons 238 = .ok (.iaload, 1) := dq_X11_reckons_225.2.2.2.2.2.2.2.1
theorem dX11_reckons_239 : decode cX11_reckons 239 = .ok (.aload_n 0, 1) := dq_X11_reckons_225.2.2.2.2.2.2.2.2.1
theorem dX11_reckons_240 : decode cX11_reckons 240 = .ok (.getfield 89, 3) := dq_X11_reckons_225.2.2.2.2.2.2.2.2.2.1
theorem dX11_reckons_243 : decode cX11_reckons 243 = .ok (.iload_n 1, 1) := dq_X11_reckons_225.2.2.2.2.2.2.2.2.2.2.1
theorem dX11_reckons_244 : decode cX11_reckons 244 = .ok (.iaload, 1) := dq_X11_reckons_225.2.2.2.2.2.2.2.2.2.2.2.1
theorem dX11_reckons_245 : decode cX11_reckons 245 = .ok (.aload_n 0, 1) := dq_X11_reckons_225.2.2.2.2.2.2.2.2.2.2.2.2.1
theorem dX11_reckons_246 : decode cX11_reckons 246 = .ok (.getfield 92, 3) := dq_X11_reckons_225.2.2.2.2.2.2.2.2.2.2.2.2.2.1
theorem dX11_reckons_249 : decode cX11_reckons 249 = .ok (.iload_n 1, 1) := dq_X11_reckons_225.2.2.2.2.2.2.2.2.2.2.2.2.2.2.1
theorem dX11_reckons_250 : decode cX11_reckons 250 = .ok (.iaload, 1) := dq_X11_reckons_225.2.2.2.2.2.2.2.2.2.2.2.2.2.2.2
theorem dq_X11_reckons_251 : (decode cX11_reckons 251 = .ok (.invokestatic 307, 3)) ∧ (decode cX11_reckons 254 = .ok (.aload_n 0, 1)) ∧ (decode cX11_reckons 255 = .ok (.getfield 86, 3)) ∧ (decode cX11_reckons 258 = .ok (.iload_n 1, 1)) ∧ (decode cX11_reckons 259 = .ok (.iaload, 1)) ∧ (decode cX11_reckons 260 = .ok (.invokestatic 272, 3)) ∧ (decode cX11_reckons 263 = .ok (.imul, 1)) ∧ (decode cX11_reckons 264 = .ok (.bipush 64, 2)) ∧ (decode cX11_reckons 266 = .ok (.idiv, 1)) ∧ (decode cX11_reckons 267 = .ok (.iadd, 1)) ∧ (decode cX11_reckons 268 = .ok (.iconst 0, 1)) ∧ (decode cX11_reckons 269 = .ok (.bipush 64, 2)) ∧ (decode cX11_reckons 271 = .ok (.invokestatic 263, 3)) ∧ (decode cX11_reckons 274 = .ok (.iastore, 1)) ∧ (decode cX11_reckons 275 = .ok (.aload_n 0, 1)) ∧ (decode cX11_reckons 276 = .ok (.getfield 89, 3)) := by decide +kernel
theorem dX11_reckons_251 : decode cX11_reckons 251 = .ok (.invokestatic 307, 3) := dq_X11_reckons_251.1
theorem dX11_reckons_254 : decode cX11_reckons 254 = .ok (.aload_n 0, 1) := dq_X11_reckons_251.2.1
theorem dX11_reckons_255 : decode cX11_reckons 255 = .ok (.getfield 86, 3) := dq_X11_reckons_251.2.2.1
theorem dX11_reckons_258 : decode cX11_reckons 258 = .ok (.iload_n 1, 1) := dq_X11_reckons_251.2.2.2.1
theorem dX11_reckons_259 : decode cX11_reckons 259 = .ok (.iaload, 1) := dq_X11_reckons_251.2.2.2.2.1
theorem dX11_reckons_260 : decode cX11_reckons 260 = .ok (.invokestatic 272, 3) := dq_X11_reckons_251.2.2.2.2.2.1
theorem dX11_reckons_263 : decode cX11_reckons 263 = .ok (.imul, 1) := dq_X11_reckons_251.2.2.2.2.2.2.1
theorem dX11_reckons_264 : decode cX11_reckons 264 = .ok (.bipush 64, 2) := dq_X11_reckons_251.2.2.2.2.2.2.2.1
theorem dX11_reckons_266 : decode cX11_reckons 266 = .ok (.idiv, 1) := dq_X11_reckons_251.2.2.2.2.2.2.2.2.1
theorem dX11_reckons_267 : decode cX11_reckons 267 = .ok (.iadd, 1) := dq_X11_reckons_251.2.2.2.2.2.2.2.2.2.1
theorem dX11_reckons_268 : decode cX11_reckons 268 = .ok (.iconst 0, 1) := dq_X11_reckons_251.2.2.2.2.2.2.2.2.2.2.1
theorem dX11_reckons_269 : decode cX11_reckons 269 = .ok (.bipush 64, 2) := dq_X11_reckons_251.2.2.2.2.2.2.2.2.2.2.2.1
theorem dX11_reckons_271 : decode cX11_reckons 271 = .ok (.invokestatic 263, 3) := dq_X11_reckons_251.2.2.2.2.2.2.2.2.2.2.2.2.1
theorem dX11_reckons_274 : decode cX11_reckons 274 = .ok (.iastore, 1) := dq_X11_reckons_251.2.2.2.2.2.2.2.2.2.2.2.2.2.1
theorem dX11_reckons_275 : decode cX11_reckons 275 = .ok (.aload_n 0, 1) := dq_X11_reckons_251.2.2.2.2.2.2.2.2.2.2.2.2.2.2.1
theorem dX11_reckons_276 : decode cX11_reckons 276 = .ok (.getfield 89, 3) := dq_X11_reckons_251.2.2.2.2.2.2.2.2.2.2.2.2.2.2.2
theorem dq_X11_reckons_279 : (decode cX11_reckons 279 = .ok (.iload_n 1, 1)) ∧ (decode cX11_reckons 280 = .ok (.aload_n 0, 1)) ∧ (decode cX11_reckons 281 = .ok (.getfield 89, 3)) ∧ (decode cX11_reckons 284 = .ok (.iload_n 1, 1)) ∧ (decode cX11_reckons 285 = .ok (.iaload, 1)) ∧ (decode cX11_reckons 286 = .ok (.aload_n 0, 1)) ∧ (decode cX11_reckons 287 = .ok (.getfield 86, 3)) ∧ (decode cX11_reckons 290 = .ok (.iload_n 1, 1)) ∧ (decode cX11_reckons 291 = .ok (.iaload, 1)) ∧ (decode cX11_reckons 292 = .ok (.invokestatic 260, 3)) ∧ (decode cX11_reckons 295 = .ok (.iadd, 1)) ∧ (decode cX11_reckons 296 = .ok (.bipush 64, 2)) ∧ (decode cX11_reckons 298 = .ok (.irem, 1)) ∧ (decode cX11_reckons 299 = .ok (.iastore, 1)) ∧ (decode cX11_reckons 300 = .ok (.return_, 1)) := by decide +kernel
theorem dX11_reckons_279 : decode cX11_reckons 279 = .ok (.iload_n 1, 1) := dq_X11_reckons_279.1
theorem dX11_reckons_280 : decode cX11_reckons 280 = .ok (.aload_n 0, 1) := dq_X11_reckons_279.2.1
theorem dX11_reckons_281 : decode cX11_reckons 281 = .ok (.getfield 89, 3) := dq_X11_reckons_279.2.2.1
theorem dX11_reckons_284 : decode cX11_reckons 284 = .ok (.iload_n 1, 1) := dq_X11_reckons_279.2.2.2.1
theorem dX11_reckons_285 : decode cX11_reckons 285 = .ok (.iaload, 1) := dq_X11_reckons_279.2.2.2.2.1
theorem dX11_reckons_286 : decode cX11_reckons 286 = .ok (.aload_n 0, 1) := dq_X11_reckons_279.2.2.2.2.2.1
theorem dX11_reckons_287 : decode cX11_reckons 287 = .ok (.getfield 86, 3) := dq_X11_reckons_279.2.2.2.2.2.2.1
theorem dX11_reckons_290 : decode cX11_reckons 290 = .ok (.iload_n 1, 1) := dq_X11_reckons_279.2.2.2.2.2.2.2.1
theorem dX11_reckons_291 : decode cX11_reckons 291 = .ok (.iaload, 1) := dq_X11_reckons_279.2.2.2.2.2.2.2.2.1
theorem dX11_reckons_292 : decode cX11_reckons 292 = .ok (.invokestatic 260, 3) := dq_X11_reckons_279.2.2.2.2.2.2.2.2.2.1
theorem dX11_reckons_295 : decode cX11_reckons 295 = .ok (.iadd, 1) := dq_X11_reckons_279.2.2.2.2.2.2.2.2.2.2.1
theorem dX11_reckons_296 : decode cX11_reckons 296 = .ok (.bipush 64, 2) := dq_X11_reckons_279.2.2.2.2.2.2.2.2.2.2.2.1
theorem dX11_reckons_298 : decode cX11_reckons 298 = .ok (.irem, 1) := dq_X11_reckons_279.2.2.2.2.2.2.2.2.2.2.2.2.1
theorem dX11_reckons_299 : decode cX11_reckons 299 = .ok (.iastore, 1) := dq_X11_reckons_279.2.2.2.2.2.2.2.2.2.2.2.2.2.1
theorem dX11_reckons_300 : decode cX11_reckons 300 = .ok (.return_, 1) := dq_X11_reckons_279.2.2.2.2.2.2.2.2.2.2.2.2.2.2
theorem dq_X11_heard_0 : (decode cX11_heard 0 = .ok (.aload_n 0, 1)) ∧ (decode cX11_heard 1 = .ok (.getfield 117, 3)) ∧ (decode cX11_heard 4 = .ok (.iload_n 1, 1)) ∧ (decode cX11_heard 5 = .ok (.baload, 1)) ∧ (decode cX11_heard 6 = .ok (.ifCond .eq 12, 3)) ∧ (decode cX11_heard 9 = .ok (.aload_n 0, 1)) ∧ (decode cX11_heard 10 = .ok (.getfield 107, 3)) ∧ (decode cX11_heard 13 = .ok (.iload_n 1, 1)) ∧ (decode cX11_heard 14 = .ok (.iaload, 1)) ∧ (decode cX11_heard 15 = .ok (.ifCond .ne 5, 3)) ∧ (decode cX11_heard 18 = .ok (.iconst 0, 1)) ∧ (decode cX11_heard 19 = .ok (.ireturn, 1)) ∧ (decode cX11_heard 20 = .ok (.aload_n 0, 1)) ∧ (decode cX11_heard 21 = .ok (.getfield 56, 3)) ∧ (decode cX11_heard 24 = .ok (.iload_n 1, 1)) ∧ (decode cX11_heard 25 = .ok (.iaload, 1)) := by decide +kernel
theorem dX11_heard_0 : decode cX11_heard 0 = .ok (.aload_n 0, 1) := dq_X11_heard_0.1
theorem dX11_heard_1 : decode cX11_heard 1 = .ok (.getfield 117, 3) := dq_X11_heard_0.2.1
theorem dX11_heard_4 : decode cX11_heard 4 = .ok (.iload_n 1, 1) := dq_X11_heard_0.2.2.1
theorem dX11_heard_5 : decode cX11_heard 5 = .ok (.baload, 1) := dq_X11_heard_0.2.2.2.1
theorem dX11_heard_6 : decode cX11_heard 6 = .ok (.ifCond .eq 12, 3) := dq_X11_heard_0.2.2.2.2.1
theorem dX11_heard_9 : decode cX11_heard 9 = .ok (.aload_n 0, 1) := dq_X11_heard_0.2.2.2.2.2.1
theorem dX11_heard_10 : decode cX11_heard 10 = .ok (.getfield 107, 3) := dq_X11_heard_0.2.2.2.2.2.2.1
theorem dX11_heard_13 : decode cX11_heard 13 = .ok (.iload_n 1, 1) := dq_X11_heard_0.2.2.2.2.2.2.2.1
theorem dX11_heard_14 : decode cX11_heard 14 = .ok (.iaload, 1) := dq_X11_heard_0.2.2.2.2.2.2.2.2.1
theorem dX11_heard_15 : decode cX11_heard 15 = .ok (.ifCond .ne 5, 3) := dq_X11_heard_0.2.2.2.2.2.2.2.2.2.1
theorem dX11_heard_18 : decode cX11_heard 18 = .ok (.iconst 0, 1) := dq_X11_heard_0.2.2.2.2.2.2.2.2.2.2.1
theorem dX11_heard_19 : decode cX11_heard 19 = .ok (.ireturn, 1) := dq_X11_heard_0.2.2.2.2.2.2.2.2.2.2.2.1
theorem dX11_heard_20 : decode cX11_heard 20 = .ok (.aload_n 0, 1) := dq_X11_heard_0.2.2.2.2.2.2.2.2.2.2.2.2.1
theorem dX11_heard_21 : decode cX11_heard 21 = .ok (.getfield 56, 3) := dq_X11_heard_0.2.2.2.2.2.2.2.2.2.2.2.2.2.1
theorem dX11_heard_24 : decode cX11_heard 24 = .ok (.iload_n 1, 1) := dq_X11_heard_0.2.2.2.2.2.2.2.2.2.2.2.2.2.2.1
theorem dX11_heard_25 : decode cX11_heard 25 = .ok (.iaload, 1) := dq_X11_heard_0.2.2.2.2.2.2.2.2.2.2.2.2.2.2.2
theorem dq_X11_heard_26 : (decode cX11_heard 26 = .ok (.istore_n 2, 1)) ∧ (decode cX11_heard 27 = .ok (.aload_n 0, 1)) ∧ (decode cX11_heard 28 = .ok (.getfield 113, 3)) ∧ (decode cX11_heard 31 = .ok (.iload_n 1, 1)) ∧ (decode cX11_heard 32 = .ok (.laload, 1)) ∧ (decode cX11_heard 33 = .ok (.ldc2_w 310, 3)) ∧ (decode cX11_heard 36 = .ok (.aload_n 0, 1)) ∧ (decode cX11_heard 37 = .ok (.getfield 17, 3)) ∧ (decode cX11_heard 40 = .ok (.iload_n 2, 1)) ∧ (decode cX11_heard 41 = .ok (.iaload, 1)) ∧ (decode cX11_heard 42 = .ok (.i2l, 1)) ∧ (decode cX11_heard 43 = .ok (.lmul, 1)) ∧ (decode cX11_heard 44 = .ok (.lcmp, 1)) ∧ (decode cX11_heard 45 = .ok (.ifCond .lt 12, 3)) ∧ (decode cX11_heard 48 = .ok (.aload_n 0, 1)) ∧ (decode cX11_heard 49 = .ok (.getfield 117, 3)) := by decide +kernel
theorem dX11_heard_26 : decode cX11_heard 26 = .ok (.istore_n 2, 1) := dq_X11_heard_26.1
theorem dX11_heard_27 : decode cX11_heard 27 = .ok (.aload_n 0, 1) := dq_X11_heard_26.2.1
theorem dX11_heard_28 : decode cX11_heard 28 = .ok (.getfield 113, 3) := dq_X11_heard_26.2.2.1
theorem dX11_heard_31 : decode cX11_heard 31 = .ok (.iload_n 1, 1) := dq_X11_heard_26.2.2.2.1
theorem dX11_heard_32 : decode cX11_heard 32 = .ok (.laload, 1) := dq_X11_heard_26.2.2.2.2.1
theorem dX11_heard_33 : decode cX11_heard 33 = .ok (.ldc2_w 310, 3) := dq_X11_heard_26.2.2.2.2.2.1
theorem dX11_heard_36 : decode cX11_heard 36 = .ok (.aload_n 0, 1) := dq_X11_heard_26.2.2.2.2.2.2.1
theorem dX11_heard_37 : decode cX11_heard 37 = .ok (.getfield 17, 3) := dq_X11_heard_26.2.2.2.2.2.2.2.1
theorem dX11_heard_40 : decode cX11_heard 40 = .ok (.iload_n 2, 1) := dq_X11_heard_26.2.2.2.2.2.2.2.2.1
theorem dX11_heard_41 : decode cX11_heard 41 = .ok (.iaload, 1) := dq_X11_heard_26.2.2.2.2.2.2.2.2.2.1
theorem dX11_heard_42 : decode cX11_heard 42 = .ok (.i2l, 1) := dq_X11_heard_26.2.2.2.2.2.2.2.2.2.2.1
theorem dX11_heard_43 : decode cX11_heard 43 = .ok (.lmul, 1) := dq_X11_heard_26.2.2.2.2.2.2.2.2.2.2.2.1
theorem dX11_heard_44 : decode cX11_heard 44 = .ok (.lcmp, 1) := dq_X11_heard_26.2.2.2.2.2.2.2.2.2.2.2.2.1
theorem dX11_heard_45 : decode cX11_heard 45 = .ok (.ifCond .lt 12, 3) := dq_X11_heard_26.2.2.2.2.2.2.2.2.2.2.2.2.2.1
theorem dX11_heard_48 : decode cX11_heard 48 = .ok (.aload_n 0, 1) := dq_X11_heard_26.2.2.2.2.2.2.2.2.2.2.2.2.2.2.1
theorem dX11_heard_49 : decode cX11_heard 49 = .ok (.getfield 117, 3) := dq_X11_heard_26.2.2.2.2.2.2.2.2.2.2.2.2.2.2.2
theorem dq_X11_heard_52 : (decode cX11_heard 52 = .ok (.iload_n 1, 1)) ∧ (decode cX11_heard 53 = .ok (.iconst 0, 1)) ∧ (decode cX11_heard 54 = .ok (.bastore, 1)) ∧ (decode cX11_heard 55 = .ok (.iconst 0, 1)) ∧ (decode cX11_heard 56 = .ok (.ireturn, 1)) ∧ (decode cX11_heard 57 = .ok (.aload_n 0, 1)) ∧ (decode cX11_heard 58 = .ok (.getfield 34, 3)) ∧ (decode cX11_heard 61 = .ok (.sipush 2000, 3)) ∧ (decode cX11_heard 64 = .ok (.iload_n 2, 1)) ∧ (decode cX11_heard 65 = .ok (.imul, 1)) ∧ (decode cX11_heard 66 = .ok (.aload_n 0, 1)) ∧ (decode cX11_heard 67 = .ok (.getfield 113, 3)) ∧ (decode cX11_heard 70 = .ok (.iload_n 1, 1)) ∧ (decode cX11_heard 71 = .ok (.laload, 1)) ∧ (decode cX11_heard 72 = .ok (.ldc2_w 310, 3)) ∧ (decode cX11_heard 75 = .ok (.ldiv, 1)) := by decide +kernel
theorem dX11_heard_52 : decode cX11_heard 52 = .ok (.iload_n 1, 1) := dq_X11_heard_52.1
theorem dX11_heard_53 : decode cX11_heard 53 = .ok (.iconst 0, 1) := dq_X11_heard_52.2.1
theorem dX11_heard_54 : decode cX11_heard 54 = .ok (.bastore, 1) := dq_X11_heard_52.2.2.1
theorem dX11_heard_55 : decode cX11_heard 55 = .ok (.iconst 0, 1) := dq_X11_heard_52.2.2.2.1
theorem dX11_heard_56 : decode cX11_heard 56 = .ok (.ireturn, 1) := dq_X11_heard_52.2.2.2.2.1
theorem dX11_heard_57 : decode cX11_heard 57 = .ok (.aload_n 0, 1) := dq_X11_heard_52.2.2.2.2.2.1
theorem dX11_heard_58 : decode cX11_heard 58 = .ok (.getfield 34, 3) := dq_X11_heard_52.2.2.2.2.2.2.1
theorem dX11_heard_61 : decode cX11_heard 61 = .ok (.sipush 2000, 3) := dq_X11_heard_52.2.2.2.2.2.2.2.1
theorem dX11_heard_64 : decode cX11_heard 64 = .ok (.iload_n 2, 1) := dq_X11_heard_52.2.2.2.2.2.2.2.2.1
theorem dX11_heard_65 : decode cX11_heard 65 = .ok (.imul, 1) := dq_X11_heard_52.2.2.2.2.2.2.2.2.2.1
theorem dX11_heard_66 : decode cX11_heard 66 = .ok (.aload_n 0, 1) := dq_X11_heard_52.2.2.2.2.2.2.2.2.2.2.1
theorem dX11_heard_67 : decode cX11_heard 67 = .ok (.getfield 113, 3) := dq_X11_heard_52.2.2.2.2.2.2.2.2.2.2.2.1
theorem dX11_heard_70 : decode cX11_heard 70 = .ok (.iload_n 1, 1) := dq_X11_heard_52.2.2.2.2.2.2.2.2.2.2.2.2.1
theorem dX11_heard_71 : decode cX11_heard 71 = .ok (.laload, 1) := dq_X11_heard_52.2.2.2.2.2.2.2.2.2.2.2.2.2.1
theorem dX11_heard_72 : decode cX11_heard 72 = .ok (.ldc2_w 310, 3) := dq_X11_heard_52.2.2.2.2.2.2.2.2.2.2.2.2.2.2.1
theorem dX11_heard_75 : decode cX11_heard 75 = .ok (.ldiv, 1) := dq_X11_heard_52.2.2.2.2.2.2.2.2.2.2.2.2.2.2.2
theorem dq_X11_heard_76 : (decode cX11_heard 76 = .ok (.l2i, 1)) ∧ (decode cX11_heard 77 = .ok (.iadd, 1)) ∧ (decode cX11_heard 78 = .ok (.baload, 1)) ∧ (decode cX11_heard 79 = .ok (.aload_n 0, 1)) ∧ (decode cX11_heard 80 = .ok (.getfield 110, 3)) ∧ (decode cX11_heard 83 = .ok (.iload_n 1, 1)) ∧ (decode cX11_heard 84 = .ok (.iaload, 1)) ∧ (decode cX11_heard 85 = .ok (.imul, 1)) ∧ (decode cX11_heard 86 = .ok (.istore_n 3, 1)) ∧ (decode cX11_heard 87 = .ok (.aload_n 0, 1)) ∧ (decode cX11_heard 88 = .ok (.getfield 113, 3)) ∧ (decode cX11_heard 91 = .ok (.iload_n 1, 1)) ∧ (decode cX11_heard 92 = .ok (.dup2, 1)) ∧ (decode cX11_heard 93 = .ok (.laload, 1)) ∧ (decode cX11_heard 94 = .ok (.ldc2_w 312, 3)) ∧ (decode cX11_heard 97 = .ok (.aload_n 0, 1)) := by decide +kernel
theorem dX11_heard_76 : decode cX11_heard 76 = .ok (.l2i, 1) := dq_X11_heard_76.1
theorem dX11_heard_77 : decode cX11_heard 77 = .ok (.iadd, 1) := dq_X11_heard_76.2.1
theorem dX11_heard_78 : decode cX11_heard 78 = .ok (.baload, 1) := dq_X11_heard_76.2.2.1
theorem dX11_heard_79 : decode cX11_heard 79 = .ok (.aload_n 0, 1) := dq_X11_heard_76.2.2.2.1
theorem dX11_heard_80 : decode cX11_heard 80 = .ok (.getfield 110, 3) := dq_X11_heard_76.2.2.2.2.1
theorem dX11_heard_83 : decode cX11_heard 83 = .ok (.iload_n 1, 1) := dq_X11_heard_76.2.2.2.2.2.1
theorem dX11_heard_84 : decode cX11_heard 84 = .ok (.iaload, 1) := dq_X11_heard_76.2.2.2.2.2.2.1
theorem dX11_heard_85 : decode cX11_heard 85 = .ok (.imul, 1) := dq_X11_heard_76.2.2.2.2.2.2.2.1
theorem dX11_heard_86 : decode cX11_heard 86 = .ok (.istore_n 3, 1) := dq_X11_heard_76.2.2.2.2.2.2.2.2.1
theorem dX11_heard_87 : decode cX11_heard 87 = .ok (.aload_n 0, 1) := dq_X11_heard_76.2.2.2.2.2.2.2.2.2.1
theorem dX11_heard_88 : decode cX11_heard 88 = .ok (.getfield 113, 3) := dq_X11_heard_76.2.2.2.2.2.2.2.2.2.2.1
theorem dX11_heard_91 : decode cX11_heard 91 = .ok (.iload_n 1, 1) := dq_X11_heard_76.2.2.2.2.2.2.2.2.2.2.2.1
theorem dX11_heard_92 : decode cX11_heard 92 = .ok (.dup2, 1) := dq_X11_heard_76.2.2.2.2.2.2.2.2.2.2.2.2.1
theorem dX11_heard_93 : decode cX11_heard 93 = .ok (.laload, 1) := dq_X11_heard_76.2.2.2.2.2.2.2.2.2.2.2.2.2.1
theorem dX11_heard_94 : decode cX11_heard 94 = .ok (.ldc2_w 312, 3) := dq_X11_heard_76.2.2.2.2.2.2.2.2.2.2.2.2.2.2.1
theorem dX11_heard_97 : decode cX11_heard 97 = .ok (.aload_n 0, 1) := dq_X11_heard_76.2.2.2.2.2.2.2.2.2.2.2.2.2.2.2
theorem dq_X11_heard_98 : (decode cX11_heard 98 = .ok (.getfield 107, 3)) ∧ (decode cX11_heard 101 = .ok (.iload_n 1, 1)) ∧ (decode cX11_heard 102 = .ok (.iaload, 1)) ∧ (decode cX11_heard 103 = .ok (.i2l, 1)) ∧ (decode cX11_heard 104 = .ok (.aload_n 0, 1)) ∧ (decode cX11_heard 105 = .ok (.getfield 132, 3)) ∧ (decode cX11_heard 108 = .ok (.i2l, 1)) ∧ (decode cX11_heard 109 = .ok (.lmul, 1)) ∧ (decode cX11_heard 110 = .ok (.ldiv, 1)) ∧ (decode cX11_heard 111 = .ok (.ladd, 1)) ∧ (decode cX11_heard 112 = .ok (.lastore, 1)) ∧ (decode cX11_heard 113 = .ok (.aload_n 0, 1)) ∧ (decode cX11_heard 114 = .ok (.getfield 30, 3)) ∧ (decode cX11_heard 117 = .ok (.iload_n 2, 1)) ∧ (decode cX11_heard 118 = .ok (.iaload, 1)) ∧ (decode cX11_heard 119 = .ok (.iconst 2, 1)) := by decide +kernel
theorem dX11_heard_98 : decode cX11_heard 98 = .ok (.getfield 107, 3) := dq_X11_heard_98.1
theorem dX11_heard_101 : decode cX11_heard 101 = .ok (.iload_n 1, 1) := dq_X11_heard_98.2.1
theorem dX11_heard_102 : decode cX11_heard 102 = .ok (.iaload, 1) := dq_X11_heard_98.2.2.1
theorem dX11_heard_103 : decode cX11_heard 103 = .ok (.i2l, 1) := dq_X11_heard_98.2.2.2.1
theorem dX11_heard_104 : decode cX11_heard 104 = .ok (.aload_n 0, 1) := dq_X11_heard_98.2.2.2.2.1
theorem dX11_heard_105 : decode cX11_heard 105 = .ok (.getfield 132, 3) := dq_X11_heard_98.2.2.2.2.2.1
theorem dX11_heard_108 : decode cX11_heard 108 = .ok (.i2l, 1) := dq_X11_heard_98.2.2.2.2.2.2.1
theorem dX11_heard_109 : decode cX11_heard 109 = .ok (.lmul, 1) := dq_X11_heard_98.2.2.2.2.2.2.2.1
theorem dX11_heard_110 : decode cX11_heard 110 = .ok (.ldiv, 1) := dq_X11_heard_98.2.2.2.2.2.2.2.2.1
theorem dX11_heard_111 : decode cX11_heard 111 = .ok (.ladd, 1) := dq_X11_heard_98.2.2.2.2.2.2.2.2.2.1
theorem dX11_heard_112 : decode cX11_heard 112 = .ok (.lastore, 1) := dq_X11_heard_98.2.2.2.2.2.2.2.2.2.2.1
theorem dX11_heard_113 : decode cX11_heard 113 = .ok (.aload_n 0, 1) := dq_X11_heard_98.2.2.2.2.2.2.2.2.2.2.2.1
theorem dX11_heard_114 : decode cX11_heard 114 = .ok (.getfield 30, 3) := dq_X11_heard_98.2.2.2.2.2.2.2.2.2.2.2.2.1
theorem dX11_heard_117 : decode cX11_heard 117 = .ok (.iload_n 2, 1) := dq_X11_heard_98.2.2.2.2.2.2.2.2.2.2.2.2.2.1
theorem dX11_heard_118 : decode cX11_heard 118 = .ok (.iaload, 1) := dq_X11_heard_98.2.2.2.2.2.2.2.2.2.2.2.2.2.2.1
theorem dX11_heard_119 : decode cX11_heard 119 = .ok (.iconst 2, 1) := dq_X11_heard_98.2.2.2.2.2.2.2.2.2.2.2.2.2.2.2
theorem dq_X11_heard_120 : (decode cX11_heard 120 = .ok (.if_icmp .le 54, 3)) ∧ (decode cX11_heard 123 = .ok (.aload_n 0, 1)) ∧ (decode cX11_heard 124 = .ok (.getfield 113, 3)) ∧ (decode cX11_heard 127 = .ok (.iload_n 1, 1)) ∧ (decode cX11_heard 128 = .ok (.laload, 1)) ∧ (decode cX11_heard 129 = .ok (.ldc2_w 310, 3)) ∧ (decode cX11_heard 132 = .ok (.aload_n 0, 1)) ∧ (decode cX11_heard 133 = .ok (.getfield 27, 3)) ∧ (decode cX11_heard 136 = .ok (.iload_n 2, 1)) ∧ (decode cX11_heard 137 = .ok (.iaload, 1)) ∧ (decode cX11_heard 138 = .ok (.aload_n 0, 1)) ∧ (decode cX11_heard 139 = .ok (.getfield 30, 3)) ∧ (decode cX11_heard 142 = .ok (.iload_n 2, 1)) ∧ (decode cX11_heard 143 = .ok (.iaload, 1)) ∧ (decode cX11_heard 144 = .ok (.iadd, 1)) ∧ (decode cX11_heard 145 = .ok (.i2l, 1)) := by decide +kernel
theorem dX11_heard_120 : decode cX11_heard 120 = .ok (.if_icmp .le 54, 3) := dq_X11_heard_120.1
theorem dX11_heard_123 : decode cX11_heard 123 = .ok (.aload_n 0, 1) := dq_X11_heard_120.2.1
theorem dX11_heard_124 : decode cX11_heard 124 = .ok (.getfield 113, 3) := dq_X11_heard_120.2.2.1
theorem dX11_heard_127 : decode cX11_heard 127 = .ok (.iload_n 1, 1) := dq_X11_heard_120.2.2.2.1
theorem dX11_heard_128 : decode cX11_heard 128 = .ok (.laload, 1) := dq_X11_heard_120.2.2.2.2.1
theorem dX11_heard_129 : decode cX11_heard 129 = .ok (.ldc2_w 310, 3) := dq_X11_heard_120.2.2.2.2.2.1
theorem dX11_heard_132 : decode cX11_heard 132 = .ok (.aload_n 0, 1) := dq_X11_heard_120.2.2.2.2.2.2.1
theorem dX11_heard_133 : decode cX11_heard 133 = .ok (.getfield 27, 3) := dq_X11_heard_120.2.2.2.2.2.2.2.1
theorem dX11_heard_136 : decode cX11_heard 136 = .ok (.iload_n 2, 1) := dq_X11_heard_120.2.2.2.2.2.2.2.2.1
theorem dX11_heard_137 : decode cX11_heard 137 = .ok (.iaload, 1) := dq_X11_heard_120.2.2.2.2.2.2.2.2.2.1
theorem dX11_heard_138 : decode cX11_heard 138 = .ok (.aload_n 0, 1) := dq_X11_heard_120.2.2.2.2.2.2.2.2.2.2.1
theorem dX11_heard_139 : decode cX11_heard 139 = .ok (.getfield 30, 3) := dq_X11_heard_120.2.2.2.2.2.2.2.2.2.2.2.1
theorem dX11_heard_142 : decode cX11_heard 142 = .ok (.iload_n 2, 1) := dq_X11_heard_120.2.2.2.2.2.2.2.2.2.2.2.2.1
theorem dX11_heard_143 : decode cX11_heard 143 = .ok (.iaload, 1) := dq_X11_heard_120.2.2.2.2.2.2.2.2.2.2.2.2.2.1
theorem dX11_heard_144 : decode cX11_heard 144 = .ok (.iadd, 1) := dq_X11_heard_120.2.2.2.2.2.2.2.2.2.2.2.2.2.2.1
theorem dX11_heard_145 : decode cX11_heard 145 = .ok (.i2l, 1) := dq_X11_heard_120.2.2.2.2.2.2.2.2.2.2.2.2.2.2.2
theorem dq_X11_heard_146 : (decode cX11_heard 146 = .ok (.lmul, 1)) ∧ (decode cX11_heard 147 = .ok (.lcmp, 1)) ∧ (decode cX11_heard 148 = .ok (.ifCond .lt 54, 3)) ∧ (decode cX11_heard 151 = .ok (.aload_n 0, 1)) ∧ (decode cX11_heard 152 = .ok (.getfield 113, 3)) ∧ (decode cX11_heard 155 = .ok (.iload_n 1, 1)) ∧ (decode cX11_heard 156 = .ok (.dup2, 1)) ∧ (decode cX11_heard 157 = .ok (.laload, 1)) ∧ (decode cX11_heard 158 = .ok (.ldc2_w 310, 3)) ∧ (decode cX11_heard 161 = .ok (.aload_n 0, 1)) ∧ (decode cX11_heard 162 = .ok (.getfield 30, 3)) ∧ (decode cX11_heard 165 = .ok (.iload_n 2, 1)) ∧ (decode cX11_heard 166 = .ok (.iaload, 1)) ∧ (decode cX11_heard 167 = .ok (.i2l, 1)) ∧ (decode cX11_heard 168 = .ok (.lmul, 1)) ∧ (decode cX11_heard 169 = .ok (.lsub, 1)) := by decide +kernel
theorem dX11_heard_146 : decode cX11_heard 146 = .ok (.lmul, 1) := dq_X11_heard_146.1
theorem dX11_heard_147 : decode cX11_heard 147 = .ok (.lcmp, 1) := dq_X11_heard_146.2.1
theorem dX11_heard_148 : decode cX11_heard 148 = .ok (.ifCond .lt 54, 3) := dq_X11_heard_146.2.2.1
theorem dX11_heard_151 : decode cX11_heard 151 = .ok (.aload_n 0, 1) := dq_X11_heard_146.2.2.2.1
theorem dX11_heard_152 : decode cX11_heard 152 = .ok (.getfield 113, 3) := dq_X11_heard_146.2.2.2.2.1
theorem dX11_heard_155 : decode cX11_heard 155 = .ok (.iload_n 1, 1) := dq_X11_heard_146.2.2.2.2.2.1
theorem dX11_heard_156 : decode cX11_heard 156 = .ok (.dup2, 1) := dq_X11_heard_146.2.2.2.2.2.2.1
theorem dX11_heard_157 : decode cX11_heard 157 = .ok (.laload, 1) := dq_X11_heard_146.2.2.2.2.2.2.2.1
theorem dX11_heard_158 : decode cX11_heard 158 = .ok (.ldc2_w 310, 3) := dq_X11_heard_146.2.2.2.2.2.2.2.2.1
theorem dX11_heard_161 : decode cX11_heard 161 = .ok (.aload_n 0, 1) := dq_X11_heard_146.2.2.2.2.2.2.2.2.2.1
theorem dX11_heard_162 : decode cX11_heard 162 = .ok (.getfield 30, 3) := dq_X11_heard_146.2.2.2.2.2.2.2.2.2.2.1
theorem dX11_heard_165 : decode cX11_heard 165 = .ok (.iload_n 2, 1) := dq_X11_heard_146.2.2.2.2.2.2.2.2.2.2.2.1
theorem dX11_heard_166 : decode cX11_heard 166 = .ok (.iaload, 1) := dq_X11_heard_146.2.2.2.2.2.2.2.2.2.2.2.2.1
theorem dX11_heard_167 : decode cX11_heard 167 = .ok (.i2l, 1) := dq_X11_heard_146.2.2.2.2.2.2.2.2.2.2.2.2.2.1
theorem dX11_heard_168 : decode cX11_heard 168 = .ok (.lmul, 1) := dq_X11_heard_146.2.2.2.2.2.2.2.2.2.2.2.2.2.2.1
theorem dX11_heard_169 : decode cX11_heard 169 = .ok (.lsub, 1) := dq_X11_heard_146.2.2.2.2.2.2.2.2.2.2.2.2.2.2.2
theorem dq_X11_heard_170 : (decode cX11_heard 170 = .ok (.lastore, 1)) ∧ (decode cX11_heard 171 = .ok (.goto (-48), 3)) ∧ (decode cX11_heard 174 = .ok (.aload_n 0, 1)) ∧ (decode cX11_heard 175 = .ok (.getfield 113, 3)) ∧ (decode cX11_heard 178 = .ok (.iload_n 1, 1)) ∧ (decode cX11_heard 179 = .ok (.laload, 1)) ∧ (decode cX11_heard 180 = .ok (.ldc2_w 310, 3)) ∧ (decode cX11_heard 183 = .ok (.aload_n 0, 1)) ∧ (decode cX11_heard 184 = .ok (.getfield 17, 3)) ∧ (decode cX11_heard 187 = .ok (.iload_n 2, 1)) ∧ (decode cX11_heard 188 = .ok (.iaload, 1)) ∧ (decode cX11_heard 189 = .ok (.i2l, 1)) ∧ (decode cX11_heard 190 = .ok (.lmul, 1)) ∧ (decode cX11_heard 191 = .ok (.lcmp, 1)) ∧ (decode cX11_heard 192 = .ok (.ifCond .lt 10, 3)) ∧ (decode cX11_heard 195 = .ok (.aload_n 0, 1)) := by decide +kernel
theorem dX11_heard_170 : decode cX11_heard 170 = .ok (.lastore, 1) := dq_X11_heard_170.1
theorem dX11_heard_171 : decode cX11_heard 171 = .ok (.goto (-48), 3) := dq_X11_heard_170.2.1
theorem dX11_heard_174 : decode cX11_heard 174 = .ok (.aload_n 0, 1) := dq_X11_heard_170.2.2.1
theorem dX11_heard_175 : decode cX11_heard 175 = .ok (.getfield 113, 3) := dq_X11_heard_170.2.2.2.1
theorem dX11_heard_178 : decode cX11_heard 178 = .ok (.iload_n 1, 1) := dq_X11_heard_170.2.2.2.2.1
theorem dX11_heard_179 : decode cX11_heard 179 = .ok (.laload, 1) := dq_X11_heard_170.2.2.2.2.2.1
theorem dX11_heard_180 : decode cX11_heard 180 = .ok (.ldc2_w 310, 3) := dq_X11_heard_170.2.2.2.2.2.2.1
theorem dX11_heard_183 : decode cX11_heard 183 = .ok (.aload_n 0, 1) := dq_X11_heard_170.2.2.2.2.2.2.2.1
theorem dX11_heard_184 : decode cX11_heard 184 = .ok (.getfield 17, 3) := dq_X11_heard_170.2.2.2.2.2.2.2.2.1
theorem dX11_heard_187 : decode cX11_heard 187 = .ok (.iload_n 2, 1) := dq_X11_heard_170.2.2.2.2.2.2.2.2.2.1
theorem dX11_heard_188 : decode cX11_heard 188 = .ok (.iaload, 1) := dq_X11_heard_170.2.2.2.2.2.2.2.2.2.2.1
theorem dX11_heard_189 : decode cX11_heard 189 = .ok (.i2l, 1) := dq_X11_heard_170.2.2.2.2.2.2.2.2.2.2.2.1
theorem dX11_heard_190 : decode cX11_heard 190 = .ok (.lmul, 1) := dq_X11_heard_170.2.2.2.2.2.2.2.2.2.2.2.2.1
theorem dX11_heard_191 : decode cX11_heard 191 = .ok (.lcmp, 1) := dq_X11_heard_170.2.2.2.2.2.2.2.2.2.2.2.2.2.1
theorem dX11_heard_192 : decode cX11_heard 192 = .ok (.ifCond .lt 10, 3) := dq_X11_heard_170.2.2.2.2.2.2.2.2.2.2.2.2.2.2.1
theorem dX11_heard_195 : decode cX11_heard 195 = .ok (.aload_n 0, 1) := dq_X11_heard_170.2.2.2.2.2.2.2.2.2.2.2.2.2.2.2
theorem dq_X11_heard_196 : (decode cX11_heard 196 = .ok (.getfield 117, 3)) ∧ (decode cX11_heard 199 = .ok (.iload_n 1, 1)) ∧ (decode cX11_heard 200 = .ok (.iconst 0, 1)) ∧ (decode cX11_heard 201 = .ok (.bastore, 1)) ∧ (decode cX11_heard 202 = .ok (.aload_n 0, 1)) ∧ (decode cX11_heard 203 = .ok (.getfield 120, 3)) ∧ (decode cX11_heard 206 = .ok (.iload_n 1, 1)) ∧ (decode cX11_heard 207 = .ok (.baload, 1)) ∧ (decode cX11_heard 208 = .ok (.ifCond .eq 7, 3)) ∧ (decode cX11_heard 211 = .ok (.iconst 0, 1)) ∧ (decode cX11_heard 212 = .ok (.goto 4, 3)) ∧ (decode cX11_heard 215 = .ok (.iload_n 3, 1)) ∧ (decode cX11_heard 216 = .ok (.ireturn, 1)) := by decide +kernel
theorem dX11_heard_196 : decode cX11_heard 196 = .ok (.getfield 117, 3) := dq_X11_heard_196.1
theorem dX11_heard_199 : decode cX11_heard 199 = .ok (.iload_n 1, 1) := dq_X11_heard_196.2.1
theorem dX11_heard_200 : decode cX11_heard 200 = .ok (.iconst 0, 1) := dq_X11_heard_196.2.2.1
theorem dX11_heard_201 : decode cX11_heard 201 = .ok (.bastore, 1) := dq_X11_heard_196.2.2.2.1
theorem dX11_heard_202 : decode cX11_heard 202 = .ok (.aload_n 0, 1) := dq_X11_heard_196.2.2.2.2.1
theorem dX11_heard_203 : decode cX11_heard 203 = .ok (.getfield 120, 3) := dq_X11_heard_196.2.2.2.2.2.1
theorem dX11_heard_206 : decode cX11_heard 206 = .ok (.iload_n 1, 1) := dq_X11_heard_196.2.2.2.2.2.2.1
theorem dX11_heard_207 : decode cX11_heard 207 = .ok (.baload, 1) := dq_X11_heard_196.2.2.2.2.2.2.2.1
theorem dX11_heard_208 : decode cX11_heard 208 = .ok (.ifCond .eq 7, 3) := dq_X11_heard_196.2.2.2.2.2.2.2.2.1
theorem dX11_heard_211 : decode cX11_heard 211 = .ok (.iconst 0, 1) := dq_X11_heard_196.2.2.2.2.2.2.2.2.2.1
theorem dX11_heard_212 : decode cX11_heard 212 = .ok (.goto 4, 3) := dq_X11_heard_196.2.2.2.2.2.2.2.2.2.2.1
theorem dX11_heard_215 : decode cX11_heard 215 = .ok (.iload_n 3, 1) := dq_X11_heard_196.2.2.2.2.2.2.2.2.2.2.2.1
theorem dX11_heard_216 : decode cX11_heard 216 = .ok (.ireturn, 1) := dq_X11_heard_196.2.2.2.2.2.2.2.2.2.2.2.2
theorem dq_X11_mix_0 : (decode cX11_mix 0 = .ok (.aload_n 0, 1)) ∧ (decode cX11_mix 1 = .ok (.aload_n 0, 1)) ∧ (decode cX11_mix 2 = .ok (.getfield 132, 3)) ∧ (decode cX11_mix 5 = .ok (.iconst 5, 1)) ∧ (decode cX11_mix 6 = .ok (.imul, 1)) ∧ (decode cX11_mix 7 = .ok (.iconst 2, 1)) ∧ (decode cX11_mix 8 = .ok (.aload_n 0, 1)) ∧ (decode cX11_mix 9 = .ok (.getfield 200, 3)) ∧ (decode cX11_mix 12 = .ok (.imul, 1)) ∧ (decode cX11_mix 13 = .ok (.idiv, 1)) ∧ (decode cX11_mix 14 = .ok (.putfield 212, 3)) ∧ (decode cX11_mix 17 = .ok (.iconst 0, 1)) ∧ (decode cX11_mix 18 = .ok (.istore_n 1, 1)) ∧ (decode cX11_mix 19 = .ok (.iload_n 1, 1)) ∧ (decode cX11_mix 20 = .ok (.aload_n 0, 1)) ∧ (decode cX11_mix 21 = .ok (.getfield 212, 3)) := by decide +kernel
theorem dX11_mix_0 : decode cX11_mix 0 = .ok (.aload_n 0, 1) := dq_X11_mix_0.1
theorem dX11_mix_1 : decode cX11_mix 1 = .ok (.aload_n 0, 1) := dq_X11_mix_0.2.1
theorem dX11_mix_2 : decode cX11_mix 2 = .ok (.getfield 132, 3) := dq_X11_mix_0.2.2.1
theorem dX11_mix_5 : decode cX11_mix 5 = .ok (.iconst 5, 1) := dq_X11_mix_0.2.2.2.1
theorem dX11_mix_6 : decode cX11_mix 6 = .ok (.imul, 1) := dq_X11_mix_0.2.2.2.2.1
theorem dX11_mix_7 : decode cX11_mix 7 = .ok (.iconst 2, 1) := dq_X11_mix_0.2.2.2.2.2.1
theorem dX11_mix_8 : decode cX11_mix 8 = .ok (.aload_n 0, 1) := dq_X11_mix_0.2.2.2.2.2.2.1
theorem dX11_mix_9 : decode cX11_mix 9 = .ok (.getfield 200, 3) := dq_X11_mix_0.2.2.2.2.2.2.2.1
theorem dX11_mix_12 : decode cX11_mix 12 = .ok (.imul, 1) := dq_X11_mix_0.2.2.2.2.2.2.2.2.1
theorem dX11_mix_13 : decode cX11_mix 13 = .ok (.idiv, 1) := dq_X11_mix_0.2.2.2.2.2.2.2.2.2.1
theorem dX11_mix_14 : decode cX11_mix 14 = .ok (.putfield 212, 3) := dq_X11_mix_0.2.2.2.2.2.2.2.2.2.2.1
theorem dX11_mix_17 : decode cX11_mix 17 = .ok (.iconst 0, 1) := dq_X11_mix_0.2.2.2.2.2.2.2.2.2.2.2.1
theorem dX11_mix_18 : decode cX11_mix 18 = .ok (.istore_n 1, 1) := dq_X11_mix_0.2.2.2.2.2.2.2.2.2.2.2.2.1
theorem dX11_mix_19 : decode cX11_mix 19 = .ok (.iload_n 1, 1) := dq_X11_mix_0.2.2.2.2.2.2.2.2.2.2.2.2.2.1
theorem dX11_mix_20 : decode cX11_mix 20 = .ok (.aload_n 0, 1) := dq_X11_mix_0.2.2.2.2.2.2.2.2.2.2.2.2.2.2.1
theorem dX11_mix_21 : decode cX11_mix 21 = .ok (.getfield 212, 3) := dq_X11_mix_0.2.2.2.2.2.2.2.2.2.2.2.2.2.2.2
theorem dq_X11_mix_24 : (decode cX11_mix 24 = .ok (.if_icmp .ge 77, 3)) ∧ (decode cX11_mix 27 = .ok (.aload_n 0, 1)) ∧ (decode cX11_mix 28 = .ok (.iconst 0, 1)) ∧ (decode cX11_mix 29 = .ok (.invokevirtual 314, 3)) ∧ (decode cX11_mix 32 = .ok (.istore_n 2, 1)) ∧ (decode cX11_mix 33 = .ok (.aload_n 0, 1)) ∧ (decode cX11_mix 34 = .ok (.iconst 1, 1)) ∧ (decode cX11_mix 35 = .ok (.invokevirtual 314, 3)) ∧ (decode cX11_mix 38 = .ok (.istore_n 3, 1)) ∧ (decode cX11_mix 39 = .ok (.iload_n 3, 1)) ∧ (decode cX11_mix 40 = .ok (.aload_n 0, 1)) ∧ (decode cX11_mix 41 = .ok (.iconst 2, 1)) ∧ (decode cX11_mix 42 = .ok (.invokevirtual 314, 3)) ∧ (decode cX11_mix 45 = .ok (.iadd, 1)) ∧ (decode cX11_mix 46 = .ok (.istore_n 3, 1)) ∧ (decode cX11_mix 47 = .ok (.iload_n 2, 1)) := by decide +kernel
theorem dX11_mix_24 : decode cX11_mix 24 = .ok (.if_icmp .ge 77, 3) := dq_X11_mix_24.1
theorem dX11_mix_27 : decode cX11_mix 27 = .ok (.aload_n 0, 1) := dq_X11_mix_24.2.1
theorem dX11_mix_28 : decode cX11_mix 28 = .ok (.iconst 0, 1) := dq_X11_mix_24.2.2.1
theorem dX11_mix_29 : decode cX11_mix 29 = .ok (.invokevirtual 314, 3) := dq_X11_mix_24.2.2.2.1
theorem dX11_mix_32 : decode cX11_mix 32 = .ok (.istore_n 2, 1) := dq_X11_mix_24.2.2.2.2.1
theorem dX11_mix_33 : decode cX11_mix 33 = .ok (.aload_n 0, 1) := dq_X11_mix_24.2.2.2.2.2.1
theorem dX11_mix_34 : decode cX11_mix 34 = .ok (.iconst 1, 1) := dq_X11_mix_24.2.2.2.2.2.2.1
theorem dX11_mix_35 : decode cX11_mix 35 = .ok (.invokevirtual 314, 3) := dq_X11_mix_24.2.2.2.2.2.2.2.1
theorem dX11_mix_38 : decode cX11_mix 38 = .ok (.istore_n 3, 1) := dq_X11_mix_24.2.2.2.2.2.2.2.2.1
theorem dX11_mix_39 : decode cX11_mix 39 = .ok (.iload_n 3, 1) := dq_X11_mix_24.2.2.2.2.2.2.2.2.2.1
theorem dX11_mix_40 : decode cX11_mix 40 = .ok (.aload_n 0, 1) := dq_X11_mix_24.2.2.2.2.2.2.2.2.2.2.1
theorem dX11_mix_41 : decode cX11_mix 41 = .ok (.iconst 2, 1) := dq_X11_mix_24.2.2.2.2.2.2.2.2.2.2.2.1
theorem dX11_mix_42 : decode cX11_mix 42 = .ok (.invokevirtual 314, 3) := dq_X11_mix_24.2.2.2.2.2.2.2.2.2.2.2.2.1
theorem dX11_mix_45 : decode cX11_mix 45 = .ok (.iadd, 1) := dq_X11_mix_24.2.2.2.2.2.2.2.2.2.2.2.2.2.1
theorem dX11_mix_46 : decode cX11_mix 46 = .ok (.istore_n 3, 1) := dq_X11_mix_24.2.2.2.2.2.2.2.2.2.2.2.2.2.2.1
theorem dX11_mix_47 : decode cX11_mix 47 = .ok (.iload_n 2, 1) := dq_X11_mix_24.2.2.2.2.2.2.2.2.2.2.2.2.2.2.2
theorem dq_X11_mix_48 : (decode cX11_mix 48 = .ok (.aload_n 0, 1)) ∧ (decode cX11_mix 49 = .ok (.iconst 3, 1)) ∧ (decode cX11_mix 50 = .ok (.invokevirtual 314, 3)) ∧ (decode cX11_mix 53 = .ok (.iadd, 1)) ∧ (decode cX11_mix 54 = .ok (.istore_n 2, 1)) ∧ (decode cX11_mix 55 = .ok (.aload_n 0, 1)) ∧ (decode cX11_mix 56 = .ok (.getfield 50, 3)) ∧ (decode cX11_mix 59 = .ok (.iload_n 1, 1)) ∧ (decode cX11_mix 60 = .ok (.iload_n 2, 1)) ∧ (decode cX11_mix 61 = .ok (.iastore, 1)) ∧ (decode cX11_mix 62 = .ok (.aload_n 0, 1)) ∧ (decode cX11_mix 63 = .ok (.getfield 53, 3)) ∧ (decode cX11_mix 66 = .ok (.iload_n 1, 1)) ∧ (decode cX11_mix 67 = .ok (.iload_n 3, 1)) ∧ (decode cX11_mix 68 = .ok (.iastore, 1)) ∧ (decode cX11_mix 69 = .ok (.aload_n 0, 1)) := by decide +kernel
theorem dX11_mix_48 : decode cX11_mix 48 = .ok (.aload_n 0, 1) := dq_X11_mix_48.1
theorem dX11_mix_49 : decode cX11_mix 49 = .ok (.iconst 3, 1) := dq_X11_mix_48.2.1
theorem dX11_mix_50 : decode cX11_mix 50 = .ok (.invokevirtual 314, 3) := dq_X11_mix_48.2.2.1
theorem dX11_mix_53 : decode cX11_mix 53 = .ok (.iadd, 1) := dq_X11_mix_48.2.2.2.1
theorem dX11_mix_54 : decode cX11_mix 54 = .ok (.istore_n 2, 1) := dq_X11_mix_48.2.2.2.2.1
theorem dX11_mix_55 : decode cX11_mix 55 = .ok (.aload_n 0, 1) := dq_X11_mix_48.2.2.2.2.2.1
theorem dX11_mix_56 : decode cX11_mix 56 = .ok (.getfield 50, 3) := dq_X11_mix_48.2.2.2.2.2.2.1
theorem dX11_mix_59 : decode cX11_mix 59 = .ok (.iload_n 1, 1) := dq_X11_mix_48.2.2.2.2.2.2.2.1
theorem dX11_mix_60 : decode cX11_mix 60 = .ok (.iload_n 2, 1) := dq_X11_mix_48.2.2.2.2.2.2.2.2.1
theorem dX11_mix_61 : decode cX11_mix 61 = .ok (.iastore, 1) := dq_X11_mix_48.2.2.2.2.2.2.2.2.2.1
theorem dX11_mix_62 : decode cX11_mix 62 = .ok (.aload_n 0, 1) := dq_X11_mix_48.2.2.2.2.2.2.2.2.2.2.1
theorem dX11_mix_63 : decode cX11_mix 63 = .ok (.getfield 53, 3) := dq_X11_mix_48.2.2.2.2.2.2.2.2.2.2.2.1
theorem dX11_mix_66 : decode cX11_mix 66 = .ok (.iload_n 1, 1) := dq_X11_mix_48.2.2.2.2.2.2.2.2.2.2.2.2.1
theorem dX11_mix_67 : decode cX11_mix 67 = .ok (.iload_n 3, 1) := dq_X11_mix_48.2.2.2.2.2.2.2.2.2.2.2.2.2.1
theorem dX11_mix_68 : decode cX11_mix 68 = .ok (.iastore, 1) := dq_X11_mix_48.2.2.2.2.2.2.2.2.2.2.2.2.2.2.1
theorem dX11_mix_69 : decode cX11_mix 69 = .ok (.aload_n 0, 1) := dq_X11_mix_48.2.2.2.2.2.2.2.2.2.2.2.2.2.2.2
theorem dq_X11_mix_70 : (decode cX11_mix 70 = .ok (.bipush 31, 2)) ∧ (decode cX11_mix 72 = .ok (.aload_n 0, 1)) ∧ (decode cX11_mix 73 = .ok (.getfield 221, 3)) ∧ (decode cX11_mix 76 = .ok (.imul, 1)) ∧ (decode cX11_mix 77 = .ok (.iload_n 2, 1)) ∧ (decode cX11_mix 78 = .ok (.iadd, 1)) ∧ (decode cX11_mix 79 = .ok (.putfield 221, 3)) ∧ (decode cX11_mix 82 = .ok (.aload_n 0, 1)) ∧ (decode cX11_mix 83 = .ok (.bipush 31, 2)) ∧ (decode cX11_mix 85 = .ok (.aload_n 0, 1)) ∧ (decode cX11_mix 86 = .ok (.getfield 221, 3)) ∧ (decode cX11_mix 89 = .ok (.imul, 1)) ∧ (decode cX11_mix 90 = .ok (.iload_n 3, 1)) ∧ (decode cX11_mix 91 = .ok (.iadd, 1)) ∧ (decode cX11_mix 92 = .ok (.putfield 221, 3)) ∧ (decode cX11_mix 95 = .ok (.iinc 1 1, 3)) := by decide +kernel
theorem dX11_mix_70 : decode cX11_mix 70 = .ok (.bipush 31, 2) := dq_X11_mix_70.1
theorem dX11_mix_72 : decode cX11_mix 72 = .ok (.aload_n 0, 1) := dq_X11_mix_70.2.1
theorem dX11_mix_73 : decode cX11_mix 73 = .ok (.getfield 221, 3) := dq_X11_mix_70.2.2.1
theorem dX11_mix_76 : decode cX11_mix 76 = .ok (.imul, 1) := dq_X11_mix_70.2.2.2.1
theorem dX11_mix_77 : decode cX11_mix 77 = .ok (.iload_n 2, 1) := dq_X11_mix_70.2.2.2.2.1
theorem dX11_mix_78 : decode cX11_mix 78 = .ok (.iadd, 1) := dq_X11_mix_70.2.2.2.2.2.1
theorem dX11_mix_79 : decode cX11_mix 79 = .ok (.putfield 221, 3) := dq_X11_mix_70.2.2.2.2.2.2.1
theorem dX11_mix_82 : decode cX11_mix 82 = .ok (.aload_n 0, 1) := dq_X11_mix_70.2.2.2.2.2.2.2.1
theorem dX11_mix_83 : decode cX11_mix 83 = .ok (.bipush 31, 2) := dq_X11_mix_70.2.2.2.2.2.2.2.2.1
theorem dX11_mix_85 : decode cX11_mix 85 = .ok (.aload_n 0, 1) := dq_X11_mix_70.2.2.2.2.2.2.2.2.2.1
theorem dX11_mix_86 : decode cX11_mix 86 = .ok (.getfield 221, 3) := dq_X11_mix_70.2.2.2.2.2.2.2.2.2.2.1
theorem dX11_mix_89 : decode cX11_mix 89 = .ok (.imul, 1) := dq_X11_mix_70.2.2.2.2.2.2.2.2.2.2.2.1
theorem dX11_mix_90 : decode cX11_mix 90 = .ok (.iload_n 3, 1) := dq_X11_mix_70.2.2.2.2.2.2.2.2.2.2.2.2.1
theorem dX11_mix_91 : decode cX11_mix 91 = .ok (.iadd, 1) := dq_X11_mix_70.2.2.2.2.2.2.2.2.2.2.2.2.2.1
theorem dX11_mix_92 : decode cX11_mix 92 = .ok (.putfield 221, 3) := dq_X11_mix_70.2.2.2.2.2.2.2.2.2.2.2.2.2.2.1
theorem dX11_mix_95 : decode cX11_mix 95 = .ok (.iinc 1 1, 3) := dq_X11_mix_70.2.2.2.2.2.2.2.2.2.2.2.2.2.2.2
theorem dq_X11_mix_98 : (decode cX11_mix 98 = .ok (.goto (-79), 3)) ∧ (decode cX11_mix 101 = .ok (.return_, 1)) := by decide +kernel
theorem dX11_mix_98 : decode cX11_mix 98 = .ok (.goto (-79), 3) := dq_X11_mix_98.1
theorem dX11_mix_101 : decode cX11_mix 101 = .ok (.return_, 1) := dq_X11_mix_98.2
theorem dq_X11_now_0 : (decode cX11_now 0 = .ok (.iload_n 1, 1)) ∧ (decode cX11_now 1 = .ok (.tableswitch 96 0 8 #[51, 56, 61, 66, 71, 76, 81, 86, 91], 51)) ∧ (decode cX11_now 52 = .ok (.aload_n 0, 1)) ∧ (decode cX11_now 53 = .ok (.getfield 203, 3)) ∧ (decode cX11_now 56 = .ok (.ireturn, 1)) ∧ (decode cX11_now 57 = .ok (.aload_n 0, 1)) ∧ (decode cX11_now 58 = .ok (.getfield 206, 3)) ∧ (decode cX11_now 61 = .ok (.ireturn, 1)) ∧ (decode cX11_now 62 = .ok (.aload_n 0, 1)) ∧ (decode cX11_now 63 = .ok (.getfield 209, 3)) ∧ (decode cX11_now 66 = .ok (.ireturn, 1)) ∧ (decode cX11_now 67 = .ok (.aload_n 0, 1)) ∧ (decode cX11_now 68 = .ok (.getfield 212, 3)) ∧ (decode cX11_now 71 = .ok (.ireturn, 1)) ∧ (decode cX11_now 72 = .ok (.aload_n 0, 1)) ∧ (decode cX11_now 73 = .ok (.getfield 197, 3)) := by decide +kernel
theorem dX11_now_0 : decode cX11_now 0 = .ok (.iload_n 1, 1) := dq_X11_now_0.1
theorem dX11_now_1 : decode cX11_now 1 = .ok (.tableswitch 96 0 8 #[51, 56, 61, 66, 71, 76, 81, 86, 91], 51) := dq_X11_now_0.2.1
theorem dX11_now_52 : decode cX11_now 52 = .ok (.aload_n 0, 1) := dq_X11_now_0.2.2.1
theorem dX11_now_53 : decode cX11_now 53 = .ok (.getfield 203, 3) := dq_X11_now_0.2.2.2.1
theorem dX11_now_56 : decode cX11_now 56 = .ok (.ireturn, 1) := dq_X11_now_0.2.2.2.2.1
theorem dX11_now_57 : decode cX11_now 57 = .ok (.aload_n 0, 1) := dq_X11_now_0.2.2.2.2.2.1
theorem dX11_now_58 : decode cX11_now 58 = .ok (.getfield 206, 3) := dq_X11_now_0.2.2.2.2.2.2.1
theorem dX11_now_61 : decode cX11_now 61 = .ok (.ireturn, 1) := dq_X11_now_0.2.2.2.2.2.2.2.1
theorem dX11_now_62 : decode cX11_now 62 = .ok (.aload_n 0, 1) := dq_X11_now_0.2.2.2.2.2.2.2.2.1
theorem dX11_now_63 : decode cX11_now 63 = .ok (.getfield 209, 3) := dq_X11_now_0.2.2.2.2.2.2.2.2.2.1
theorem dX11_now_66 : decode cX11_now 66 = .ok (.ireturn, 1) := dq_X11_now_0.2.2.2.2.2.2.2.2.2.2.1
theorem dX11_now_67 : decode cX11_now 67 = .ok (.aload_n 0, 1) := dq_X11_now_0.2.2.2.2.2.2.2.2.2.2.2.1
theorem dX11_now_68 : decode cX11_now 68 = .ok (.getfield 212, 3) := dq_X11_now_0.2.2.2.2.2.2.2.2.2.2.2.2.1
theorem dX11_now_71 : decode cX11_now 71 = .ok (.ireturn, 1) := dq_X11_now_0.2.2.2.2.2.2.2.2.2.2.2.2.2.1
theorem dX11_now_72 : decode cX11_now 72 = .ok (.aload_n 0, 1) := dq_X11_now_0.2.2.2.2.2.2.2.2.2.2.2.2.2.2.1
theorem dX11_now_73 : decode cX11_now 73 = .ok (.getfield 197, 3) := dq_X11_now_0.2.2.2.2.2.2.2.2.2.2.2.2.2.2.2
theorem dq_X11_now_76 : (decode cX11_now 76 = .ok (.ireturn, 1)) ∧ (decode cX11_now 77 = .ok (.aload_n 0, 1)) ∧ (decode cX11_now 78 = .ok (.getfield 200, 3)) ∧ (decode cX11_now 81 = .ok (.ireturn, 1)) ∧ (decode cX11_now 82 = .ok (.aload_n 0, 1)) ∧ (decode cX11_now 83 = .ok (.getfield 218, 3)) ∧ (decode cX11_now 86 = .ok (.ireturn, 1)) ∧ (decode cX11_now 87 = .ok (.aload_n 0, 1)) ∧ (decode cX11_now 88 = .ok (.getfield 221, 3)) ∧ (decode cX11_now 91 = .ok (.ireturn, 1)) ∧ (decode cX11_now 92 = .ok (.aload_n 0, 1)) ∧ (decode cX11_now 93 = .ok (.getfield 224, 3)) ∧ (decode cX11_now 96 = .ok (.ireturn, 1)) ∧ (decode cX11_now 97 = .ok (.iconst (-1), 1)) ∧ (decode cX11_now 98 = .ok (.ireturn, 1)) := by decide +kernel
theorem dX11_now_76 : decode cX11_now 76 = .ok (.ireturn, 1) := dq_X11_now_76.1
theorem dX11_now_77 : decode cX11_now 77 = .ok (.aload_n 0, 1) := dq_X11_now_76.2.1
theorem dX11_now_78 : decode cX11_now 78 = .ok (.getfield 200, 3) := dq_X11_now_76.2.2.1
theorem dX11_now_81 : decode cX11_now 81 = .ok (.ireturn, 1) := dq_X11_now_76.2.2.2.1
theorem dX11_now_82 : decode cX11_now 82 = .ok (.aload_n 0, 1) := dq_X11_now_76.2.2.2.2.1
theorem dX11_now_83 : decode cX11_now 83 = .ok (.getfield 218, 3) := dq_X11_now_76.2.2.2.2.2.1
theorem dX11_now_86 : decode cX11_now 86 = .ok (.ireturn, 1) := dq_X11_now_76.2.2.2.2.2.2.1
theorem dX11_now_87 : decode cX11_now 87 = .ok (.aload_n 0, 1) := dq_X11_now_76.2.2.2.2.2.2.2.1
theorem dX11_now_88 : decode cX11_now 88 = .ok (.getfield 221, 3) := dq_X11_now_76.2.2.2.2.2.2.2.2.1
theorem dX11_now_91 : decode cX11_now 91 = .ok (.ireturn, 1) := dq_X11_now_76.2.2.2.2.2.2.2.2.2.1
theorem dX11_now_92 : decode cX11_now 92 = .ok (.aload_n 0, 1) := dq_X11_now_76.2.2.2.2.2.2.2.2.2.2.1
theorem dX11_now_93 : decode cX11_now 93 = .ok (.getfield 224, 3) := dq_X11_now_76.2.2.2.2.2.2.2.2.2.2.2.1
theorem dX11_now_96 : decode cX11_now 96 = .ok (.ireturn, 1) := dq_X11_now_76.2.2.2.2.2.2.2.2.2.2.2.2.1
theorem dX11_now_97 : decode cX11_now 97 = .ok (.iconst (-1), 1) := dq_X11_now_76.2.2.2.2.2.2.2.2.2.2.2.2.2.1
theorem dX11_now_98 : decode cX11_now 98 = .ok (.ireturn, 1) := dq_X11_now_76.2.2.2.2.2.2.2.2.2.2.2.2.2.2
theorem dq_X11_channel_0 : (decode cX11_channel 0 = .ok (.iload_n 1, 1)) ∧ (decode cX11_channel 1 = .ok (.iconst 0, 1)) ∧ (decode cX11_channel 2 = .ok (.iconst 3, 1)) ∧ (decode cX11_channel 3 = .ok (.invokestatic 145, 3)) ∧ (decode cX11_channel 6 = .ok (.ifCond .ne 5, 3)) ∧ (decode cX11_channel 9 = .ok (.iconst (-1), 1)) ∧ (decode cX11_channel 10 = .ok (.ireturn, 1)) ∧ (decode cX11_channel 11 = .ok (.iload_n 2, 1)) ∧ (decode cX11_channel 12 = .ok (.tableswitch 188 0 13 #[72, 79, 86, 93, 105, 120, 127, 134, 141, 148, 160, 167, 174, 181], 72)) ∧ (decode cX11_channel 84 = .ok (.aload_n 0, 1)) ∧ (decode cX11_channel 85 = .ok (.getfield 56, 3)) ∧ (decode cX11_channel 88 = .ok (.iload_n 1, 1)) ∧ (decode cX11_channel 89 = .ok (.iaload, 1)) ∧ (decode cX11_channel 90 = .ok (.ireturn, 1)) ∧ (decode cX11_channel 91 = .ok (.aload_n 0, 1)) ∧ (decode cX11_channel 92 = .ok (.getfield 59, 3)) := by decide +kernel
theorem dX11_channel_0 : decode cX11_channel 0 = .ok (.iload_n 1, 1) := dq_X11_channel_0.1
theorem dX11_channel_1 : decode cX11_channel 1 = .ok (.iconst 0, 1) := dq_X11_channel_0.2.1
theorem dX11_channel_2 : decode cX11_channel 2 = .ok (.iconst 3, 1) := dq_X11_channel_0.2.2.1
theorem dX11_channel_3 : decode cX11_channel 3 = .ok (.invokestatic 145, 3) := dq_X11_channel_0.2.2.2.1
theorem dX11_channel_6 : decode cX11_channel 6 = .ok (.ifCond .ne 5, 3) := dq_X11_channel_0.2.2.2.2.1
theorem dX11_channel_9 : decode cX11_channel 9 = .ok (.iconst (-1), 1) := dq_X11_channel_0.2.2.2.2.2.1
theorem dX11_channel_10 : decode cX11_channel 10 = .ok (.ireturn, 1) := dq_X11_channel_0.2.2.2.2.2.2.1
theorem dX11_channel_11 : decode cX11_channel 11 = .ok (.iload_n 2, 1) := dq_X11_channel_0.2.2.2.2.2.2.2.1
theorem dX11_channel_12 : decode cX11_channel 12 = .ok (.tableswitch 188 0 13 #[72, 79, 86, 93, 105, 120, 127, 134, 141, 148, 160, 167, 174, 181], 72) := dq_X11_channel_0.2.2.2.2.2.2.2.2.1
theorem dX11_channel_84 : decode cX11_channel 84 = .ok (.aload_n 0, 1) := dq_X11_channel_0.2.2.2.2.2.2.2.2.2.1
theorem dX11_channel_85 : decode cX11_channel 85 = .ok (.getfield 56, 3) := dq_X11_channel_0.2.2.2.2.2.2.2.2.2.2.1
theorem dX11_channel_88 : decode cX11_channel 88 = .ok (.iload_n 1, 1) := dq_X11_channel_0.2.2.2.2.2.2.2.2.2.2.2.1
theorem dX11_channel_89 : decode cX11_channel 89 = .ok (.iaload, 1) := dq_X11_channel_0.2.2.2.2.2.2.2.2.2.2.2.2.1
theorem dX11_channel_90 : decode cX11_channel 90 = .ok (.ireturn, 1) := dq_X11_channel_0.2.2.2.2.2.2.2.2.2.2.2.2.2.1
theorem dX11_channel_91 : decode cX11_channel 91 = .ok (.aload_n 0, 1) := dq_X11_channel_0.2.2.2.2.2.2.2.2.2.2.2.2.2.2.1
theorem dX11_channel_92 : decode cX11_channel 92 = .ok (.getfield 59, 3) := dq_X11_channel_0.2.2.2.2.2.2.2.2.2.2.2.2.2.2.2
theorem dq_X11_channel_95 : (decode cX11_channel 95 = .ok (.iload_n 1, 1)) ∧ (decode cX11_channel 96 = .ok (.iaload, 1)) ∧ (decode cX11_channel 97 = .ok (.ireturn, 1)) ∧ (decode cX11_channel 98 = .ok (.aload_n 0, 1)) ∧ (decode cX11_channel 99 = .ok (.getfield 65, 3)) ∧ (decode cX11_channel 102 = .ok (.iload_n 1, 1)) ∧ (decode cX11_channel 103 = .ok (.iaload, 1)) ∧ (decode cX11_channel 104 = .ok (.ireturn, 1)) ∧ (decode cX11_channel 105 = .ok (.aload_n 0, 1)) ∧ (decode cX11_channel 106 = .ok (.getfield 113, 3)) ∧ (decode cX11_channel 109 = .ok (.iload_n 1, 1)) ∧ (decode cX11_channel 110 = .ok (.laload, 1)) ∧ (decode cX11_channel 111 = .ok (.ldc2_w 310, 3)) ∧ (decode cX11_channel 114 = .ok (.ldiv, 1)) ∧ (decode cX11_channel 115 = .ok (.l2i, 1)) ∧ (decode cX11_channel 116 = .ok (.ireturn, 1)) := by decide +kernel
theorem dX11_channel_95 : decode cX11_channel 95 = .ok (.iload_n 1, 1) := dq_X11_channel_95.1
theorem dX11_channel_96 : decode cX11_channel 96 = .ok (.iaload, 1) := dq_X11_channel_95.2.1
theorem dX11_channel_97 : decode cX11_channel 97 = .ok (.ireturn, 1) := dq_X11_channel_95.2.2.1
theorem dX11_channel_98 : decode cX11_channel 98 = .ok (.aload_n 0, 1) := dq_X11_channel_95.2.2.2.1
theorem dX11_channel_99 : decode cX11_channel 99 = .ok (.getfield 65, 3) := dq_X11_channel_95.2.2.2.2.1
theorem dX11_channel_102 : decode cX11_channel 102 = .ok (.iload_n 1, 1) := dq_X11_channel_95.2.2.2.2.2.1
theorem dX11_channel_103 : decode cX11_channel 103 = .ok (.iaload, 1) := dq_X11_channel_95.2.2.2.2.2.2.1
theorem dX11_channel_104 : decode cX11_channel 104 = .ok (.ireturn, 1) := dq_X11_channel_95.2.2.2.2.2.2.2.1
theorem dX11_channel_105 : decode cX11_channel 105 = .ok (.aload_n 0, 1) := dq_X11_channel_95.2.2.2.2.2.2.2.2.1
theorem dX11_channel_106 : decode cX11_channel 106 = .ok (.getfield 113, 3) := dq_X11_channel_95.2.2.2.2.2.2.2.2.2.1
theorem dX11_channel_109 : decode cX11_channel 109 = .ok (.iload_n 1, 1) := dq_X11_channel_95.2.2.2.2.2.2.2.2.2.2.1
theorem dX11_channel_110 : decode cX11_channel 110 = .ok (.laload, 1) := dq_X11_channel_95.2.2.2.2.2.2.2.2.2.2.2.1
theorem dX11_channel_111 : decode cX11_channel 111 = .ok (.ldc2_w 310, 3) := dq_X11_channel_95.2.2.2.2.2.2.2.2.2.2.2.2.1
theorem dX11_channel_114 : decode cX11_channel 114 = .ok (.ldiv, 1) := dq_X11_channel_95.2.2.2.2.2.2.2.2.2.2.2.2.2.1
theorem dX11_channel_115 : decode cX11_channel 115 = .ok (.l2i, 1) := dq_X11_channel_95.2.2.2.2.2.2.2.2.2.2.2.2.2.2.1
theorem dX11_channel_116 : decode cX11_channel 116 = .ok (.ireturn, 1) := dq_X11_channel_95.2.2.2.2.2.2.2.2.2.2.2.2.2.2.2
theorem dq_X11_channel_117 : (decode cX11_channel 117 = .ok (.aload_n 0, 1)) ∧ (decode cX11_channel 118 = .ok (.getfield 117, 3)) ∧ (decode cX11_channel 121 = .ok (.iload_n 1, 1)) ∧ (decode cX11_channel 122 = .ok (.baload, 1)) ∧ (decode cX11_channel 123 = .ok (.ifCond .eq 7, 3)) ∧ (decode cX11_channel 126 = .ok (.iconst 1, 1)) ∧ (decode cX11_channel 127 = .ok (.goto 4, 3)) ∧ (decode cX11_channel 130 = .ok (.iconst 0, 1)) ∧ (decode cX11_channel 131 = .ok (.ireturn, 1)) ∧ (decode cX11_channel 132 = .ok (.aload_n 0, 1)) ∧ (decode cX11_channel 133 = .ok (.getfield 107, 3)) ∧ (decode cX11_channel 136 = .ok (.iload_n 1, 1)) ∧ (decode cX11_channel 137 = .ok (.iaload, 1)) ∧ (decode cX11_channel 138 = .ok (.ireturn, 1)) ∧ (decode cX11_channel 139 = .ok (.aload_n 0, 1)) ∧ (decode cX11_channel 140 = .ok (.getfield 110, 3)) := by decide +kernel
theorem dX11_channel_117 : decode cX11_channel 117 = .ok (.aload_n 0, 1) := dq_X11_channel_117.1
theorem dX11_channel_118 : decode cX11_channel 118 = .ok (.getfield 117, 3) := dq_X11_channel_117.2.1
theorem dX11_channel_121 : decode cX11_channel 121 = .ok (.iload_n 1, 1) := dq_X11_channel_117.2.2.1
theorem dX11_channel_122 : decode cX11_channel 122 = .ok (.baload, 1) := dq_X11_channel_117.2.2.2.1
theorem dX11_channel_123 : decode cX11_channel 123 = .ok (.ifCond .eq 7, 3) := dq_X11_channel_117.2.2.2.2.1
theorem dX11_channel_126 : decode cX11_channel 126 = .ok (.iconst 1, 1) := dq_X11_channel_117.2.2.2.2.2.1
theorem dX11_channel_127 : decode cX11_channel 127 = .ok (.goto 4, 3) := dq_X11_channel_117.2.2.2.2.2.2.1
theorem dX11_channel_130 : decode cX11_channel 130 = .ok (.iconst 0, 1) := dq_X11_channel_117.2.2.2.2.2.2.2.1
theorem dX11_channel_131 : decode cX11_channel 131 = .ok (.ireturn, 1) := dq_X11_channel_117.2.2.2.2.2.2.2.2.1
theorem dX11_channel_132 : decode cX11_channel 132 = .ok (.aload_n 0, 1) := dq_X11_channel_117.2.2.2.2.2.2.2.2.2.1
theorem dX11_channel_133 : decode cX11_channel 133 = .ok (.getfield 107, 3) := dq_X11_channel_117.2.2.2.2.2.2.2.2.2.2.1
theorem dX11_channel_136 : decode cX11_channel 136 = .ok (.iload_n 1, 1) := dq_X11_channel_117.2.2.2.2.2.2.2.2.2.2.2.1
theorem dX11_channel_137 : decode cX11_channel 137 = .ok (.iaload, 1) := dq_X11_channel_117.2.2.2.2.2.2.2.2.2.2.2.2.1
theorem dX11_channel_138 : decode cX11_channel 138 = .ok (.ireturn, 1) := dq_X11_channel_117.2.2.2.2.2.2.2.2.2.2.2.2.2.1
theorem dX11_channel_139 : decode cX11_channel 139 = .ok (.aload_n 0, 1) := dq_X11_channel_117.2.2.2.2.2.2.2.2.2.2.2.2.2.2.1
theorem dX11_channel_140 : decode cX11_channel 140 = .ok (.getfield 110, 3) := dq_X11_channel_117.2.2.2.2.2.2.2.2.2.2.2.2.2.2.2
theorem dq_X11_channel_143 : (decode cX11_channel 143 = .ok (.iload_n 1, 1)) ∧ (decode cX11_channel 144 = .ok (.iaload, 1)) ∧ (decode cX11_channel 145 = .ok (.ireturn, 1)) ∧ (decode cX11_channel 146 = .ok (.aload_n 0, 1)) ∧ (decode cX11_channel 147 = .ok (.getfield 62, 3)) ∧ (decode cX11_channel 150 = .ok (.iload_n 1, 1)) ∧ (decode cX11_channel 151 = .ok (.iaload, 1)) ∧ (decode cX11_channel 152 = .ok (.ireturn, 1)) ∧ (decode cX11_channel 153 = .ok (.aload_n 0, 1)) ∧ (decode cX11_channel 154 = .ok (.getfield 71, 3)) ∧ (decode cX11_channel 157 = .ok (.iload_n 1, 1)) ∧ (decode cX11_channel 158 = .ok (.iaload, 1)) ∧ (decode cX11_channel 159 = .ok (.ireturn, 1)) ∧ (decode cX11_channel 160 = .ok (.aload_n 0, 1)) ∧ (decode cX11_channel 161 = .ok (.getfield 113, 3)) ∧ (decode cX11_channel 164 = .ok (.iload_n 1, 1)) := by decide +kernel
theorem dX11_channel_143 : decode cX11_channel 143 = .ok (.iload_n 1, 1) := dq_X11_channel_143.1
theorem dX11_channel_144 : decode cX11_channel 144 = .ok (.iaload, 1) := dq_X11_channel_143.2.1
theorem dX11_channel_145 : decode cX11_channel 145 = .ok (.ireturn, 1) := dq_X11_channel_143.2.2.1
theorem dX11_channel_146 : decode cX11_channel 146 = .ok (.aload_n 0, 1) := dq_X11_channel_143.2.2.2.1
theorem dX11_channel_147 : decode cX11_channel 147 = .ok (.getfield 62, 3) := dq_X11_channel_143.2.2.2.2.1
theorem dX11_channel_150 : decode cX11_channel 150 = .ok (.iload_n 1, 1) := dq_X11_channel_143.2.2.2.2.2.1
theorem dX11_channel_151 : decode cX11_channel 151 = .ok (.iaload, 1) := dq_X11_channel_143.2.2.2.2.2.2.1
theorem dX11_channel_152 : decode cX11_channel 152 = .ok (.ireturn, 1) := dq_X11_channel_143.2.2.2.2.2.2.2.1
theorem dX11_channel_153 : decode cX11_channel 153 = .ok (.aload_n 0, 1) := dq_X11_channel_143.2.2.2.2.2.2.2.2.1
theorem dX11_channel_154 : decode cX11_channel 154 = .ok (.getfield 71, 3) := dq_X11_channel_143.2.2.2.2.2.2.2.2.2.1
theorem dX11_channel_157 : decode cX11_channel 157 = .ok (.iload_n 1, 1) := dq_X11_channel_143.2.2.2.2.2.2.2.2.2.2.1
theorem dX11_channel_158 : decode cX11_channel 158 = .ok (.iaload, 1) := dq_X11_channel_143.2.2.2.2.2.2.2.2.2.2.2.1
theorem dX11_channel_159 : decode cX11_channel 159 = .ok (.ireturn, 1) := dq_X11_channel_143.2.2.2.2.2.2.2.2.2.2.2.2.1
theorem dX11_channel_160 : decode cX11_channel 160 = .ok (.aload_n 0, 1) := dq_X11_channel_143.2.2.2.2.2.2.2.2.2.2.2.2.2.1
theorem dX11_channel_161 : decode cX11_channel 161 = .ok (.getfield 113, 3) := dq_X11_channel_143.2.2.2.2.2.2.2.2.2.2.2.2.2.2.1
theorem dX11_channel_164 : decode cX11_channel 164 = .ok (.iload_n 1, 1) := dq_X11_channel_143.2.2.2.2.2.2.2.2.2.2.2.2.2.2.2
theorem dq_X11_channel_165 : (decode cX11_channel 165 = .ok (.laload, 1)) ∧ (decode cX11_channel 166 = .ok (.ldc2_w 310, 3)) ∧ (decode cX11_channel 169 = .ok (.lrem, 1)) ∧ (decode cX11_channel 170 = .ok (.l2i, 1)) ∧ (decode cX11_channel 171 = .ok (.ireturn, 1)) ∧ (decode cX11_channel 172 = .ok (.aload_n 0, 1)) ∧ (decode cX11_channel 173 = .ok (.getfield 80, 3)) ∧ (decode cX11_channel 176 = .ok (.iload_n 1, 1)) ∧ (decode cX11_channel 177 = .ok (.iaload, 1)) ∧ (decode cX11_channel 178 = .ok (.ireturn, 1)) ∧ (decode cX11_channel 179 = .ok (.aload_n 0, 1)) ∧ (decode cX11_channel 180 = .ok (.getfield 89, 3)) ∧ (decode cX11_channel 183 = .ok (.iload_n 1, 1)) ∧ (decode cX11_channel 184 = .ok (.iaload, 1)) ∧ (decode cX11_channel 185 = .ok (.ireturn, 1)) ∧ (decode cX11_channel 186 = .ok (.aload_n 0, 1)) := by decide +kernel
theorem dX11_channel_165 : decode cX11_channel 165 = .ok (.laload, 1) := dq_X11_channel_165.1
theorem dX11_channel_166 : decode cX11_channel 166 = .ok (.ldc2_w 310, 3) := dq_X11_channel_165.2.1
theorem dX11_channel_169 : decode cX11_channel 169 = .ok (.lrem, 1) := dq_X11_channel_165.2.2.1
theorem dX11_channel_170 : decode cX11_channel 170 = .ok (.l2i, 1) := dq_X11_channel_165.2.2.2.1
theorem dX11_channel_171 : decode cX11_channel 171 = .ok (.ireturn, 1) := dq_X11_channel_165.2.2.2.2.1
theorem dX11_channel_172 : decode cX11_channel 172 = .ok (.aload_n 0, 1) := dq_X11_channel_165.2.2.2.2.2.1
theorem dX11_channel_173 : decode cX11_channel 173 = .ok (.getfield 80, 3) := dq_X11_channel_165.2.2.2.2.2.2.1
theorem dX11_channel_176 : decode cX11_channel 176 = .ok (.iload_n 1, 1) := dq_X11_channel_165.2.2.2.2.2.2.2.1
theorem dX11_channel_177 : decode cX11_channel 177 = .ok (.iaload, 1) := dq_X11_channel_165.2.2.2.2.2.2.2.2.1
theorem dX11_channel_178 : decode cX11_channel 178 = .ok (.ireturn, 1) := dq_X11_channel_165.2.2.2.2.2.2.2.2.2.1
theorem dX11_channel_179 : decode cX11_channel 179 = .ok (.aload_n 0, 1) := dq_X11_channel_165.2.2.2.2.2.2.2.2.2.2.1
theorem dX11_channel_180 : decode cX11_channel 180 = .ok (.getfield 89, 3) := dq_X11_channel_165.2.2.2.2.2.2.2.2.2.2.2.1
theorem dX11_channel_183 : decode cX11_channel 183 = .ok (.iload_n 1, 1) := dq_X11_channel_165.2.2.2.2.2.2.2.2.2.2.2.2.1
theorem dX11_channel_184 : decode cX11_channel 184 = .ok (.iaload, 1) := dq_X11_channel_165.2.2.2.2.2.2.2.2.2.2.2.2.2.1
theorem dX11_channel_185 : decode cX11_channel 185 = .ok (.ireturn, 1) := dq_X11_channel_165.2.2.2.2.2.2.2.2.2.2.2.2.2.2.1
theorem dX11_channel_186 : decode cX11_channel 186 = .ok (.aload_n 0, 1) := dq_X11_channel_165.2.2.2.2.2.2.2.2.2.2.2.2.2.2.2
theorem dq_X11_channel_187 : (decode cX11_channel 187 = .ok (.getfield 98, 3)) ∧ (decode cX11_channel 190 = .ok (.iload_n 1, 1)) ∧ (decode cX11_channel 191 = .ok (.iaload, 1)) ∧ (decode cX11_channel 192 = .ok (.ireturn, 1)) ∧ (decode cX11_channel 193 = .ok (.aload_n 0, 1)) ∧ (decode cX11_channel 194 = .ok (.getfield 101, 3)) ∧ (decode cX11_channel 197 = .ok (.iload_n 1, 1)) ∧ (decode cX11_channel 198 = .ok (.iaload, 1)) ∧ (decode cX11_channel 199 = .ok (.ireturn, 1)) ∧ (decode cX11_channel 200 = .ok (.iconst (-1), 1)) ∧ (decode cX11_channel 201 = .ok (.ireturn, 1)) := by decide +kernel
theorem dX11_channel_187 : decode cX11_channel 187 = .ok (.getfield 98, 3) := dq_X11_channel_187.1
theorem dX11_channel_190 : decode cX11_channel 190 = .ok (.iload_n 1, 1) := dq_X11_channel_187.2.1
theorem dX11_channel_191 : decode cX11_channel 191 = .ok (.iaload, 1) := dq_X11_channel_187.2.2.1
theorem dX11_channel_192 : decode cX11_channel 192 = .ok (.ireturn, 1) := dq_X11_channel_187.2.2.2.1
theorem dX11_channel_193 : decode cX11_channel 193 = .ok (.aload_n 0, 1) := dq_X11_channel_187.2.2.2.2.1
theorem dX11_channel_194 : decode cX11_channel 194 = .ok (.getfield 101, 3) := dq_X11_channel_187.2.2.2.2.2.1
theorem dX11_channel_197 : decode cX11_channel 197 = .ok (.iload_n 1, 1) := dq_X11_channel_187.2.2.2.2.2.2.1
theorem dX11_channel_198 : decode cX11_channel 198 = .ok (.iaload, 1) := dq_X11_channel_187.2.2.2.2.2.2.2.1
theorem dX11_channel_199 : decode cX11_channel 199 = .ok (.ireturn, 1) := dq_X11_channel_187.2.2.2.2.2.2.2.2.1
theorem dX11_channel_200 : decode cX11_channel 200 = .ok (.iconst (-1), 1) := dq_X11_channel_187.2.2.2.2.2.2.2.2.2.1
theorem dX11_channel_201 : decode cX11_channel 201 = .ok (.ireturn, 1) := dq_X11_channel_187.2.2.2.2.2.2.2.2.2.2
theorem dq_X11_frame_0 : (decode cX11_frame 0 = .ok (.iload_n 1, 1)) ∧ (decode cX11_frame 1 = .ok (.iconst 0, 1)) ∧ (decode cX11_frame 2 = .ok (.aload_n 0, 1)) ∧ (decode cX11_frame 3 = .ok (.getfield 212, 3)) ∧ (decode cX11_frame 6 = .ok (.iconst 1, 1)) ∧ (decode cX11_frame 7 = .ok (.isub, 1)) ∧ (decode cX11_frame 8 = .ok (.invokestatic 145, 3)) ∧ (decode cX11_frame 11 = .ok (.ifCond .eq 12, 3)) ∧ (decode cX11_frame 14 = .ok (.iload_n 2, 1)) ∧ (decode cX11_frame 15 = .ok (.iconst 0, 1)) ∧ (decode cX11_frame 16 = .ok (.iconst 1, 1)) ∧ (decode cX11_frame 17 = .ok (.invokestatic 145, 3)) ∧ (decode cX11_frame 20 = .ok (.ifCond .ne 5, 3)) ∧ (decode cX11_frame 23 = .ok (.iconst 0, 1)) ∧ (decode cX11_frame 24 = .ok (.ireturn, 1)) ∧ (decode cX11_frame 25 = .ok (.iload_n 2, 1)) := by decide +kernel
theorem dX11_frame_0 : decode cX11_frame 0 = .ok (.iload_n 1, 1) := dq_X11_frame_0.1
theorem dX11_frame_1 : decode cX11_frame 1 = .ok (.iconst 0, 1) := dq_X11_frame_0.2.1
theorem dX11_frame_2 : decode cX11_frame 2 = .ok (.aload_n 0, 1) := dq_X11_frame_0.2.2.1
theorem dX11_frame_3 : decode cX11_frame 3 = .ok (.getfield 212, 3) := dq_X11_frame_0.2.2.2.1
theorem dX11_frame_6 : decode cX11_frame 6 = .ok (.iconst 1, 1) := dq_X11_frame_0.2.2.2.2.1
theorem dX11_frame_7 : decode cX11_frame 7 = .ok (.isub, 1) := dq_X11_frame_0.2.2.2.2.2.1
theorem dX11_frame_8 : decode cX11_frame 8 = .ok (.invokestatic 145, 3) := dq_X11_frame_0.2.2.2.2.2.2.1
theorem dX11_frame_11 : decode cX11_frame 11 = .ok (.ifCond .eq 12, 3) := dq_X11_frame_0.2.2.2.2.2.2.2.1
theorem dX11_frame_14 : decode cX11_frame 14 = .ok (.iload_n 2, 1) := dq_X11_frame_0.2.2.2.2.2.2.2.2.1
theorem dX11_frame_15 : decode cX11_frame 15 = .ok (.iconst 0, 1) := dq_X11_frame_0.2.2.2.2.2.2.2.2.2.1
theorem dX11_frame_16 : decode cX11_frame 16 = .ok (.iconst 1, 1) := dq_X11_frame_0.2.2.2.2.2.2.2.2.2.2.1
theorem dX11_frame_17 : decode cX11_frame 17 = .ok (.invokestatic 145, 3) := dq_X11_frame_0.2.2.2.2.2.2.2.2.2.2.2.1
theorem dX11_frame_20 : decode cX11_frame 20 = .ok (.ifCond .ne 5, 3) := dq_X11_frame_0.2.2.2.2.2.2.2.2.2.2.2.2.1
theorem dX11_frame_23 : decode cX11_frame 23 = .ok (.iconst 0, 1) := dq_X11_frame_0.2.2.2.2.2.2.2.2.2.2.2.2.2.1
theorem dX11_frame_24 : decode cX11_frame 24 = .ok (.ireturn, 1) := dq_X11_frame_0.2.2.2.2.2.2.2.2.2.2.2.2.2.2.1
theorem dX11_frame_25 : decode cX11_frame 25 = .ok (.iload_n 2, 1) := dq_X11_frame_0.2.2.2.2.2.2.2.2.2.2.2.2.2.2.2
theorem dq_X11_frame_26 : (decode cX11_frame 26 = .ok (.ifCond .ne 12, 3)) ∧ (decode cX11_frame 29 = .ok (.aload_n 0, 1)) ∧ (decode cX11_frame 30 = .ok (.getfield 50, 3)) ∧ (decode cX11_frame 33 = .ok (.iload_n 1, 1)) ∧ (decode cX11_frame 34 = .ok (.iaload, 1)) ∧ (decode cX11_frame 35 = .ok (.goto 9, 3)) ∧ (decode cX11_frame 38 = .ok (.aload_n 0, 1)) ∧ (decode cX11_frame 39 = .ok (.getfield 53, 3)) ∧ (decode cX11_frame 42 = .ok (.iload_n 1, 1)) ∧ (decode cX11_frame 43 = .ok (.iaload, 1)) ∧ (decode cX11_frame 44 = .ok (.ireturn, 1)) := by decide +kernel
theorem dX11_frame_26 : decode cX11_frame 26 = .ok (.ifCond .ne 12, 3) := dq_X11_frame_26.1
theorem dX11_frame_29 : decode cX11_frame 29 = .ok (.aload_n 0, 1) := dq_X11_frame_26.2.1
theorem dX11_frame_30 : decode cX11_frame 30 = .ok (.getfield 50, 3) := dq_X11_frame_26.2.2.1
theorem dX11_frame_33 : decode cX11_frame 33 = .ok (.iload_n 1, 1) := dq_X11_frame_26.2.2.2.1
theorem dX11_frame_34 : decode cX11_frame 34 = .ok (.iaload, 1) := dq_X11_frame_26.2.2.2.2.1
theorem dX11_frame_35 : decode cX11_frame 35 = .ok (.goto 9, 3) := dq_X11_frame_26.2.2.2.2.2.1
theorem dX11_frame_38 : decode cX11_frame 38 = .ok (.aload_n 0, 1) := dq_X11_frame_26.2.2.2.2.2.2.1
theorem dX11_frame_39 : decode cX11_frame 39 = .ok (.getfield 53, 3) := dq_X11_frame_26.2.2.2.2.2.2.2.1
theorem dX11_frame_42 : decode cX11_frame 42 = .ok (.iload_n 1, 1) := dq_X11_frame_26.2.2.2.2.2.2.2.2.1
theorem dX11_frame_43 : decode cX11_frame 43 = .ok (.iaload, 1) := dq_X11_frame_26.2.2.2.2.2.2.2.2.2.1
theorem dX11_frame_44 : decode cX11_frame 44 = .ok (.ireturn, 1) := dq_X11_frame_26.2.2.2.2.2.2.2.2.2.2
theorem dq_J9_max_7cf53_0 : (decode cJ9_max_7cf53 0 = .ok (.iload_n 0, 1)) ∧ (decode cJ9_max_7cf53 1 = .ok (.iload_n 1, 1)) ∧ (decode cJ9_max_7cf53 2 = .ok (.if_icmp .lt 7, 3)) ∧ (decode cJ9_max_7cf53 5 = .ok (.iload_n 0, 1)) ∧ (decode cJ9_max_7cf53 6 = .ok (.goto 4, 3)) ∧ (decode cJ9_max_7cf53 9 = .ok (.iload_n 1, 1)) ∧ (decode cJ9_max_7cf53 10 = .ok (.ireturn, 1)) := by decide +kernel
theorem dJ9_max_7cf53_0 : decode cJ9_max_7cf53 0 = .ok (.iload_n 0, 1) := dq_J9_max_7cf53_0.1
theorem dJ9_max_7cf53_1 : decode cJ9_max_7cf53 1 = .ok (.iload_n 1, 1) := dq_J9_max_7cf53_0.2.1
theorem dJ9_max_7cf53_2 : decode cJ9_max_7cf53 2 = .ok (.if_icmp .lt 7, 3) := dq_J9_max_7cf53_0.2.2.1
theorem dJ9_max_7cf53_5 : decode cJ9_max_7cf53 5 = .ok (.iload_n 0, 1) := dq_J9_max_7cf53_0.2.2.2.1
theorem dJ9_max_7cf53_6 : decode cJ9_max_7cf53 6 = .ok (.goto 4, 3) := dq_J9_max_7cf53_0.2.2.2.2.1
theorem dJ9_max_7cf53_9 : decode cJ9_max_7cf53 9 = .ok (.iload_n 1, 1) := dq_J9_max_7cf53_0.2.2.2.2.2.1
theorem dJ9_max_7cf53_10 : decode cJ9_max_7cf53 10 = .ok (.ireturn, 1) := dq_J9_max_7cf53_0.2.2.2.2.2.2
theorem dq_J9_min_7cf53_0 : (decode cJ9_min_7cf53 0 = .ok (.iload_n 0, 1)) ∧ (decode cJ9_min_7cf53 1 = .ok (.iload_n 1, 1)) ∧ (decode cJ9_min_7cf53 2 = .ok (.if_icmp .gt 7, 3)) ∧ (decode cJ9_min_7cf53 5 = .ok (.iload_n 0, 1)) ∧ (decode cJ9_min_7cf53 6 = .ok (.goto 4, 3)) ∧ (decode cJ9_min_7cf53 9 = .ok (.iload_n 1, 1)) ∧ (decode cJ9_min_7cf53 10 = .ok (.ireturn, 1)) := by decide +kernel
theorem dJ9_min_7cf53_0 : decode cJ9_min_7cf53 0 = .ok (.iload_n 0, 1) := dq_J9_min_7cf53_0.1
theorem dJ9_min_7cf53_1 : decode cJ9_min_7cf53 1 = .ok (.iload_n 1, 1) := dq_J9_min_7cf53_0.2.1
theorem dJ9_min_7cf53_2 : decode cJ9_min_7cf53 2 = .ok (.if_icmp .gt 7, 3) := dq_J9_min_7cf53_0.2.2.1
theorem dJ9_min_7cf53_5 : decode cJ9_min_7cf53 5 = .ok (.iload_n 0, 1) := dq_J9_min_7cf53_0.2.2.2.1
theorem dJ9_min_7cf53_6 : decode cJ9_min_7cf53 6 = .ok (.goto 4, 3) := dq_J9_min_7cf53_0.2.2.2.2.1
theorem dJ9_min_7cf53_9 : decode cJ9_min_7cf53 9 = .ok (.iload_n 1, 1) := dq_J9_min_7cf53_0.2.2.2.2.2.1
theorem dJ9_min_7cf53_10 : decode cJ9_min_7cf53 10 = .ok (.ireturn, 1) := dq_J9_min_7cf53_0.2.2.2.2.2.2
theorem dq_J7_rangeCheck_23922_0 : (decode cJ7_rangeCheck_23922 0 = .ok (.iload_n 1, 1)) ∧ (decode cJ7_rangeCheck_23922 1 = .ok (.iload_n 2, 1)) ∧ (decode cJ7_rangeCheck_23922 2 = .ok (.if_icmp .le 44, 3)) ∧ (decode cJ7_rangeCheck_23922 5 = .ok (.new 43, 3)) ∧ (decode cJ7_rangeCheck_23922 8 = .ok (.dup, 1)) ∧ (decode cJ7_rangeCheck_23922 9 = .ok (.new 45, 3)) ∧ (decode cJ7_rangeCheck_23922 12 = .ok (.dup, 1)) ∧ (decode cJ7_rangeCheck_23922 13 = .ok (.invokespecial 47, 3)) ∧ (decode cJ7_rangeCheck_23922 16 = .ok (.ldc 48, 2)) ∧ (decode cJ7_rangeCheck_23922 18 = .ok (.invokevirtual 50, 3)) ∧ (decode cJ7_rangeCheck_23922 21 = .ok (.iload_n 1, 1)) ∧ (decode cJ7_rangeCheck_23922 22 = .ok (.invokevirtual 54, 3)) ∧ (decode cJ7_rangeCheck_23922 25 = .ok (.ldc 57, 2)) ∧ (decode cJ7_rangeCheck_23922 27 = .ok (.invokevirtual 50, 3)) ∧ (decode cJ7_rangeCheck_23922 30 = .ok (.iload_n 2, 1)) ∧ (decode cJ7_rangeCheck_23922 31 = .ok (.invokevirtual 54, 3)) := by decide +kernel
theorem dJ7_rangeCheck_23922_0 : decode cJ7_rangeCheck_23922 0 = .ok (.iload_n 1, 1) := dq_J7_rangeCheck_23922_0.1
theorem dJ7_rangeCheck_23922_1 : decode cJ7_rangeCheck_23922 1 = .ok (.iload_n 2, 1) := dq_J7_rangeCheck_23922_0.2.1
theorem dJ7_rangeCheck_23922_2 : decode cJ7_rangeCheck_23922 2 = .ok (.if_icmp .le 44, 3) := dq_J7_rangeCheck_23922_0.2.2.1
theorem dJ7_rangeCheck_23922_5 : decode cJ7_rangeCheck_23922 5 = .ok (.new 43, 3) := dq_J7_rangeCheck_23922_0.2.2.2.1
theorem dJ7_rangeCheck_23922_8 : decode cJ7_rangeCheck_23922 8 = .ok (.dup, 1) := dq_J7_rangeCheck_23922_0.2.2.2.2.1
theorem dJ7_rangeCheck_23922_9 : decode cJ7_rangeCheck_23922 9 = .ok (.new 45, 3) := dq_J7_rangeCheck_23922_0.2.2.2.2.2.1
theorem dJ7_rangeCheck_23922_12 : decode cJ7_rangeCheck_23922 12 = .ok (.dup, 1) := dq_J7_rangeCheck_23922_0.2.2.2.2.2.2.1
theorem dJ7_rangeCheck_23922_13 : decode cJ7_rangeCheck_23922 13 = .ok (.invokespecial 47, 3) := dq_J7_rangeCheck_23922_0.2.2.2.2.2.2.2.1
theorem dJ7_rangeCheck_23922_16 : decode cJ7_rangeCheck_23922 16 = .ok (.ldc 48, 2) := dq_J7_rangeCheck_23922_0.2.2.2.2.2.2.2.2.1
theorem dJ7_rangeCheck_23922_18 : decode cJ7_rangeCheck_23922 18 = .ok (.invokevirtual 50, 3) := dq_J7_rangeCheck_23922_0.2.2.2.2.2.2.2.2.2.1
theorem dJ7_rangeCheck_23922_21 : decode cJ7_rangeCheck_23922 21 = .ok (.iload_n 1, 1) := dq_J7_rangeCheck_23922_0.2.2.2.2.2.2.2.2.2.2.1
theorem dJ7_rangeCheck_23922_22 : decode cJ7_rangeCheck_23922 22 = .ok (.invokevirtual 54, 3) := dq_J7_rangeCheck_23922_0.2.2.2.2.2.2.2.2.2.2.2.1
theorem dJ7_rangeCheck_23922_25 : decode cJ7_rangeCheck_23922 25 = .ok (.ldc 57, 2) := dq_J7_rangeCheck_23922_0.2.2.2.2.2.2.2.2.2.2.2.2.1
theorem dJ7_rangeCheck_23922_27 : decode cJ7_rangeCheck_23922 27 = .ok (.invokevirtual 50, 3) := dq_J7_rangeCheck_23922_0.2.2.2.2.2.2.2.2.2.2.2.2.2.1
theorem dJ7_rangeCheck_23922_30 : decode cJ7_rangeCheck_23922 30 = .ok (.iload_n 2, 1) := dq_J7_rangeCheck_23922_0.2.2.2.2.2.2.2.2.2.2.2.2.2.2.1
theorem dJ7_rangeCheck_23922_31 : decode cJ7_rangeCheck_23922 31 = .ok (.invokevirtual 54, 3) := dq_J7_rangeCheck_23922_0.2.2.2.2.2.2.2.2.2.2.2.2.2.2.2
theorem dq_J7_rangeCheck_23922_34 : (decode cJ7_rangeCheck_23922 34 = .ok (.ldc 59, 2)) ∧ (decode cJ7_rangeCheck_23922 36 = .ok (.invokevirtual 50, 3)) ∧ (decode cJ7_rangeCheck_23922 39 = .ok (.invokevirtual 61, 3)) ∧ (decode cJ7_rangeCheck_23922 42 = .ok (.invokespecial 65, 3)) ∧ (decode cJ7_rangeCheck_23922 45 = .ok (.athrow, 1)) ∧ (decode cJ7_rangeCheck_23922 46 = .ok (.iload_n 1, 1)) ∧ (decode cJ7_rangeCheck_23922 47 = .ok (.ifCond .ge 12, 3)) ∧ (decode cJ7_rangeCheck_23922 50 = .ok (.new 68, 3)) ∧ (decode cJ7_rangeCheck_23922 53 = .ok (.dup, 1)) ∧ (decode cJ7_rangeCheck_23922 54 = .ok (.iload_n 1, 1)) ∧ (decode cJ7_rangeCheck_23922 55 = .ok (.invokespecial 70, 3)) ∧ (decode cJ7_rangeCheck_23922 58 = .ok (.athrow, 1)) ∧ (decode cJ7_rangeCheck_23922 59 = .ok (.iload_n 2, 1)) ∧ (decode cJ7_rangeCheck_23922 60 = .ok (.iload_n 0, 1)) ∧ (decode cJ7_rangeCheck_23922 61 = .ok (.if_icmp .le 12, 3)) ∧ (decode cJ7_rangeCheck_23922 64 = .ok (.new 68, 3)) := by decide +kernel
theorem dJ7_rangeCheck_23922_34 : decode cJ7_rangeCheck_23922 34 = .ok (.ldc 59, 2) := dq_J7_rangeCheck_23922_34.1
theorem dJ7_rangeCheck_23922_36 : decode cJ7_rangeCheck_23922 36 = .ok (.invokevirtual 50, 3) := dq_J7_rangeCheck_23922_34.2.1
theorem dJ7_rangeCheck_23922_39 : decode cJ7_rangeCheck_23922 39 = .ok (.invokevirtual 61, 3) := dq_J7_rangeCheck_23922_34.2.2.1
theorem dJ7_rangeCheck_23922_42 : decode cJ7_rangeCheck_23922 42 = .ok (.invokespecial 65, 3) := dq_J7_rangeCheck_23922_34.2.2.2.1
theorem dJ7_rangeCheck_23922_45 : decode cJ7_rangeCheck_23922 45 = .ok (.athrow, 1) := dq_J7_rangeCheck_23922_34.2.2.2.2.1
theorem dJ7_rangeCheck_23922_46 : decode cJ7_rangeCheck_23922 46 = .ok (.iload_n 1, 1) := dq_J7_rangeCheck_23922_34.2.2.2.2.2.1
theorem dJ7_rangeCheck_23922_47 : decode cJ7_rangeCheck_23922 47 = .ok (.ifCond .ge 12, 3) := dq_J7_rangeCheck_23922_34.2.2.2.2.2.2.1
theorem dJ7_rangeCheck_23922_50 : decode cJ7_rangeCheck_23922 50 = .ok (.new 68, 3) := dq_J7_rangeCheck_23922_34.2.2.2.2.2.2.2.1
theorem dJ7_rangeCheck_23922_53 : decode cJ7_rangeCheck_23922 53 = .ok (.dup, 1) := dq_J7_rangeCheck_23922_34.2.2.2.2.2.2.2.2.1
theorem dJ7_rangeCheck_23922_54 : decode cJ7_rangeCheck_23922 54 = .ok (.iload_n 1, 1) := dq_J7_rangeCheck_23922_34.2.2.2.2.2.2.2.2.2.1
theorem dJ7_rangeCheck_23922_55 : decode cJ7_rangeCheck_23922 55 = .ok (.invokespecial 70, 3) := dq_J7_rangeCheck_23922_34.2.2.2.2.2.2.2.2.2.2.1
theorem dJ7_rangeCheck_23922_58 : decode cJ7_rangeCheck_23922 58 = .ok (.athrow, 1) := dq_J7_rangeCheck_23922_34.2.2.2.2.2.2.2.2.2.2.2.1
theorem dJ7_rangeCheck_23922_59 : decode cJ7_rangeCheck_23922 59 = .ok (.iload_n 2, 1) := dq_J7_rangeCheck_23922_34.2.2.2.2.2.2.2.2.2.2.2.2.1
theorem dJ7_rangeCheck_23922_60 : decode cJ7_rangeCheck_23922 60 = .ok (.iload_n 0, 1) := dq_J7_rangeCheck_23922_34.2.2.2.2.2.2.2.2.2.2.2.2.2.1
theorem dJ7_rangeCheck_23922_61 : decode cJ7_rangeCheck_23922 61 = .ok (.if_icmp .le 12, 3) := dq_J7_rangeCheck_23922_34.2.2.2.2.2.2.2.2.2.2.2.2.2.2.1
theorem dJ7_rangeCheck_23922_64 : decode cJ7_rangeCheck_23922 64 = .ok (.new 68, 3) := dq_J7_rangeCheck_23922_34.2.2.2.2.2.2.2.2.2.2.2.2.2.2.2
theorem dq_J7_rangeCheck_23922_67 : (decode cJ7_rangeCheck_23922 67 = .ok (.dup, 1)) ∧ (decode cJ7_rangeCheck_23922 68 = .ok (.iload_n 2, 1)) ∧ (decode cJ7_rangeCheck_23922 69 = .ok (.invokespecial 70, 3)) ∧ (decode cJ7_rangeCheck_23922 72 = .ok (.athrow, 1)) ∧ (decode cJ7_rangeCheck_23922 73 = .ok (.return_, 1)) := by decide +kernel
theorem dJ7_rangeCheck_23922_67 : decode cJ7_rangeCheck_23922 67 = .ok (.dup, 1) := dq_J7_rangeCheck_23922_67.1
theorem dJ7_rangeCheck_23922_68 : decode cJ7_rangeCheck_23922 68 = .ok (.iload_n 2, 1) := dq_J7_rangeCheck_23922_67.2.1
theorem dJ7_rangeCheck_23922_69 : decode cJ7_rangeCheck_23922 69 = .ok (.invokespecial 70, 3) := dq_J7_rangeCheck_23922_67.2.2.1
theorem dJ7_rangeCheck_23922_72 : decode cJ7_rangeCheck_23922 72 = .ok (.athrow, 1) := dq_J7_rangeCheck_23922_67.2.2.2.1
theorem dJ7_rangeCheck_23922_73 : decode cJ7_rangeCheck_23922 73 = .ok (.return_, 1) := dq_J7_rangeCheck_23922_67.2.2.2.2
theorem dq_J7_fill_d0a16_0 : (decode cJ7_fill_d0a16 0 = .ok (.iconst 0, 1)) ∧ (decode cJ7_fill_d0a16 1 = .ok (.istore_n 3, 1)) ∧ (decode cJ7_fill_d0a16 2 = .ok (.aload_n 0, 1)) ∧ (decode cJ7_fill_d0a16 3 = .ok (.arraylength, 1)) ∧ (decode cJ7_fill_d0a16 4 = .ok (.istore 4, 2)) ∧ (decode cJ7_fill_d0a16 6 = .ok (.iload_n 3, 1)) ∧ (decode cJ7_fill_d0a16 7 = .ok (.iload 4, 2)) ∧ (decode cJ7_fill_d0a16 9 = .ok (.if_icmp .ge 13, 3)) ∧ (decode cJ7_fill_d0a16 12 = .ok (.aload_n 0, 1)) ∧ (decode cJ7_fill_d0a16 13 = .ok (.iload_n 3, 1)) ∧ (decode cJ7_fill_d0a16 14 = .ok (.lload_n 1, 1)) ∧ (decode cJ7_fill_d0a16 15 = .ok (.lastore, 1)) ∧ (decode cJ7_fill_d0a16 16 = .ok (.iinc 3 1, 3)) ∧ (decode cJ7_fill_d0a16 19 = .ok (.goto (-13), 3)) ∧ (decode cJ7_fill_d0a16 22 = .ok (.return_, 1)) := by decide +kernel
theorem dJ7_fill_d0a16_0 : decode cJ7_fill_d0a16 0 = .ok (.iconst 0, 1) := dq_J7_fill_d0a16_0.1
theorem dJ7_fill_d0a16_1 : decode cJ7_fill_d0a16 1 = .ok (.istore_n 3, 1) := dq_J7_fill_d0a16_0.2.1
theorem dJ7_fill_d0a16_2 : decode cJ7_fill_d0a16 2 = .ok (.aload_n 0, 1) := dq_J7_fill_d0a16_0.2.2.1
theorem dJ7_fill_d0a16_3 : decode cJ7_fill_d0a16 3 = .ok (.arraylength, 1) := dq_J7_fill_d0a16_0.2.2.2.1
theorem dJ7_fill_d0a16_4 : decode cJ7_fill_d0a16 4 = .ok (.istore 4, 2) := dq_J7_fill_d0a16_0.2.2.2.2.1
theorem dJ7_fill_d0a16_6 : decode cJ7_fill_d0a16 6 = .ok (.iload_n 3, 1) := dq_J7_fill_d0a16_0.2.2.2.2.2.1
theorem dJ7_fill_d0a16_7 : decode cJ7_fill_d0a16 7 = .ok (.iload 4, 2) := dq_J7_fill_d0a16_0.2.2.2.2.2.2.1
theorem dJ7_fill_d0a16_9 : decode cJ7_fill_d0a16 9 = .ok (.if_icmp .ge 13, 3) := dq_J7_fill_d0a16_0.2.2.2.2.2.2.2.1
theorem dJ7_fill_d0a16_12 : decode cJ7_fill_d0a16 12 = .ok (.aload_n 0, 1) := dq_J7_fill_d0a16_0.2.2.2.2.2.2.2.2.1
theorem dJ7_fill_d0a16_13 : decode cJ7_fill_d0a16 13 = .ok (.iload_n 3, 1) := dq_J7_fill_d0a16_0.2.2.2.2.2.2.2.2.2.1
theorem dJ7_fill_d0a16_14 : decode cJ7_fill_d0a16 14 = .ok (.lload_n 1, 1) := dq_J7_fill_d0a16_0.2.2.2.2.2.2.2.2.2.2.1
theorem dJ7_fill_d0a16_15 : decode cJ7_fill_d0a16 15 = .ok (.lastore, 1) := dq_J7_fill_d0a16_0.2.2.2.2.2.2.2.2.2.2.2.1
theorem dJ7_fill_d0a16_16 : decode cJ7_fill_d0a16 16 = .ok (.iinc 3 1, 3) := dq_J7_fill_d0a16_0.2.2.2.2.2.2.2.2.2.2.2.2.1
theorem dJ7_fill_d0a16_19 : decode cJ7_fill_d0a16 19 = .ok (.goto (-13), 3) := dq_J7_fill_d0a16_0.2.2.2.2.2.2.2.2.2.2.2.2.2.1
theorem dJ7_fill_d0a16_22 : decode cJ7_fill_d0a16 22 = .ok (.return_, 1) := dq_J7_fill_d0a16_0.2.2.2.2.2.2.2.2.2.2.2.2.2.2
theorem dq_J7_fill_53178_0 : (decode cJ7_fill_53178 0 = .ok (.iconst 0, 1)) ∧ (decode cJ7_fill_53178 1 = .ok (.istore_n 2, 1)) ∧ (decode cJ7_fill_53178 2 = .ok (.aload_n 0, 1)) ∧ (decode cJ7_fill_53178 3 = .ok (.arraylength, 1)) ∧ (decode cJ7_fill_53178 4 = .ok (.istore_n 3, 1)) ∧ (decode cJ7_fill_53178 5 = .ok (.iload_n 2, 1)) ∧ (decode cJ7_fill_53178 6 = .ok (.iload_n 3, 1)) ∧ (decode cJ7_fill_53178 7 = .ok (.if_icmp .ge 13, 3)) ∧ (decode cJ7_fill_53178 10 = .ok (.aload_n 0, 1)) ∧ (decode cJ7_fill_53178 11 = .ok (.iload_n 2, 1)) ∧ (decode cJ7_fill_53178 12 = .ok (.iload_n 1, 1)) ∧ (decode cJ7_fill_53178 13 = .ok (.iastore, 1)) ∧ (decode cJ7_fill_53178 14 = .ok (.iinc 2 1, 3)) ∧ (decode cJ7_fill_53178 17 = .ok (.goto (-12), 3)) ∧ (decode cJ7_fill_53178 20 = .ok (.return_, 1)) := by decide +kernel
theorem dJ7_fill_53178_0 : decode cJ7_fill_53178 0 = .ok (.iconst 0, 1) := dq_J7_fill_53178_0.1
theorem dJ7_fill_53178_1 : decode cJ7_fill_53178 1 = .ok (.istore_n 2, 1) := dq_J7_fill_53178_0.2.1
theorem dJ7_fill_53178_2 : decode cJ7_fill_53178 2 = .ok (.aload_n 0, 1) := dq_J7_fill_53178_0.2.2.1
theorem dJ7_fill_53178_3 : decode cJ7_fill_53178 3 = .ok (.arraylength, 1) := dq_J7_fill_53178_0.2.2.2.1
theorem dJ7_fill_53178_4 : decode cJ7_fill_53178 4 = .ok (.istore_n 3, 1) := dq_J7_fill_53178_0.2.2.2.2.1
theorem dJ7_fill_53178_5 : decode cJ7_fill_53178 5 = .ok (.iload_n 2, 1) := dq_J7_fill_53178_0.2.2.2.2.2.1
theorem dJ7_fill_53178_6 : decode cJ7_fill_53178 6 = .ok (.iload_n 3, 1) := dq_J7_fill_53178_0.2.2.2.2.2.2.1
theorem dJ7_fill_53178_7 : decode cJ7_fill_53178 7 = .ok (.if_icmp .ge 13, 3) := dq_J7_fill_53178_0.2.2.2.2.2.2.2.1
theorem dJ7_fill_53178_10 : decode cJ7_fill_53178 10 = .ok (.aload_n 0, 1) := dq_J7_fill_53178_0.2.2.2.2.2.2.2.2.1
theorem dJ7_fill_53178_11 : decode cJ7_fill_53178 11 = .ok (.iload_n 2, 1) := dq_J7_fill_53178_0.2.2.2.2.2.2.2.2.2.1
theorem dJ7_fill_53178_12 : decode cJ7_fill_53178 12 = .ok (.iload_n 1, 1) := dq_J7_fill_53178_0.2.2.2.2.2.2.2.2.2.2.1
theorem dJ7_fill_53178_13 : decode cJ7_fill_53178 13 = .ok (.iastore, 1) := dq_J7_fill_53178_0.2.2.2.2.2.2.2.2.2.2.2.1
theorem dJ7_fill_53178_14 : decode cJ7_fill_53178 14 = .ok (.iinc 2 1, 3) := dq_J7_fill_53178_0.2.2.2.2.2.2.2.2.2.2.2.2.1
theorem dJ7_fill_53178_17 : decode cJ7_fill_53178 17 = .ok (.goto (-12), 3) := dq_J7_fill_53178_0.2.2.2.2.2.2.2.2.2.2.2.2.2.1
theorem dJ7_fill_53178_20 : decode cJ7_fill_53178 20 = .ok (.return_, 1) := dq_J7_fill_53178_0.2.2.2.2.2.2.2.2.2.2.2.2.2.2
theorem dq_J7_fill_fda19_0 : (decode cJ7_fill_fda19 0 = .ok (.aload_n 0, 1)) ∧ (decode cJ7_fill_fda19 1 = .ok (.arraylength, 1)) ∧ (decode cJ7_fill_fda19 2 = .ok (.iload_n 1, 1)) ∧ (decode cJ7_fill_fda19 3 = .ok (.iload_n 2, 1)) ∧ (decode cJ7_fill_fda19 4 = .ok (.invokestatic 13, 3)) ∧ (decode cJ7_fill_fda19 7 = .ok (.iload_n 1, 1)) ∧ (decode cJ7_fill_fda19 8 = .ok (.istore 4, 2)) ∧ (decode cJ7_fill_fda19 10 = .ok (.iload 4, 2)) ∧ (decode cJ7_fill_fda19 12 = .ok (.iload_n 2, 1)) ∧ (decode cJ7_fill_fda19 13 = .ok (.if_icmp .ge 14, 3)) ∧ (decode cJ7_fill_fda19 16 = .ok (.aload_n 0, 1)) ∧ (decode cJ7_fill_fda19 17 = .ok (.iload 4, 2)) ∧ (decode cJ7_fill_fda19 19 = .ok (.iload_n 3, 1)) ∧ (decode cJ7_fill_fda19 20 = .ok (.iastore, 1)) ∧ (decode cJ7_fill_fda19 21 = .ok (.iinc 4 1, 3)) ∧ (decode cJ7_fill_fda19 24 = .ok (.goto (-14), 3)) := by decide +kernel
theorem dJ7_fill_fda19_0 : decode cJ7_fill_fda19 0 = .ok (.aload_n 0, 1) := dq_J7_fill_fda19_0.1
theorem dJ7_fill_fda19_1 : decode cJ7_fill_fda19 1 = .ok (.arraylength, 1) := dq_J7_fill_fda19_0.2.1
theorem dJ7_fill_fda19_2 : decode cJ7_fill_fda19 2 = .ok (.iload_n 1, 1) := dq_J7_fill_fda19_0.2.2.1
theorem dJ7_fill_fda19_3 : decode cJ7_fill_fda19 3 = .ok (.iload_n 2, 1) := dq_J7_fill_fda19_0.2.2.2.1
theorem dJ7_fill_fda19_4 : decode cJ7_fill_fda19 4 = .ok (.invokestatic 13, 3) := dq_J7_fill_fda19_0.2.2.2.2.1
theorem dJ7_fill_fda19_7 : decode cJ7_fill_fda19 7 = .ok (.iload_n 1, 1) := dq_J7_fill_fda19_0.2.2.2.2.2.1
theorem dJ7_fill_fda19_8 : decode cJ7_fill_fda19 8 = .ok (.istore 4, 2) := dq_J7_fill_fda19_0.2.2.2.2.2.2.1
theorem dJ7_fill_fda19_10 : decode cJ7_fill_fda19 10 = .ok (.iload 4, 2) := dq_J7_fill_fda19_0.2.2.2.2.2.2.2.1
theorem dJ7_fill_fda19_12 : decode cJ7_fill_fda19 12 = .ok (.iload_n 2, 1) := dq_J7_fill_fda19_0.2.2.2.2.2.2.2.2.1
theorem dJ7_fill_fda19_13 : decode cJ7_fill_fda19 13 = .ok (.if_icmp .ge 14, 3) := dq_J7_fill_fda19_0.2.2.2.2.2.2.2.2.2.1
theorem dJ7_fill_fda19_16 : decode cJ7_fill_fda19 16 = .ok (.aload_n 0, 1) := dq_J7_fill_fda19_0.2.2.2.2.2.2.2.2.2.2.1
theorem dJ7_fill_fda19_17 : decode cJ7_fill_fda19 17 = .ok (.iload 4, 2) := dq_J7_fill_fda19_0.2.2.2.2.2.2.2.2.2.2.2.1
theorem dJ7_fill_fda19_19 : decode cJ7_fill_fda19 19 = .ok (.iload_n 3, 1) := dq_J7_fill_fda19_0.2.2.2.2.2.2.2.2.2.2.2.2.1
theorem dJ7_fill_fda19_20 : decode cJ7_fill_fda19 20 = .ok (.iastore, 1) := dq_J7_fill_fda19_0.2.2.2.2.2.2.2.2.2.2.2.2.2.1
theorem dJ7_fill_fda19_21 : decode cJ7_fill_fda19 21 = .ok (.iinc 4 1, 3) := dq_J7_fill_fda19_0.2.2.2.2.2.2.2.2.2.2.2.2.2.2.1
theorem dJ7_fill_fda19_24 : decode cJ7_fill_fda19 24 = .ok (.goto (-14), 3) := dq_J7_fill_fda19_0.2.2.2.2.2.2.2.2.2.2.2.2.2.2.2
theorem dJ7_fill_fda19_27 : decode cJ7_fill_fda19 27 = .ok (.return_, 1) := by decide +kernel
theorem dq_J7_fill_eb02e_0 : (decode cJ7_fill_eb02e 0 = .ok (.aload_n 0, 1)) ∧ (decode cJ7_fill_eb02e 1 = .ok (.arraylength, 1)) ∧ (decode cJ7_fill_eb02e 2 = .ok (.iload_n 1, 1)) ∧ (decode cJ7_fill_eb02e 3 = .ok (.iload_n 2, 1)) ∧ (decode cJ7_fill_eb02e 4 = .ok (.invokestatic 13, 3)) ∧ (decode cJ7_fill_eb02e 7 = .ok (.iload_n 1, 1)) ∧ (decode cJ7_fill_eb02e 8 = .ok (.istore 4, 2)) ∧ (decode cJ7_fill_eb02e 10 = .ok (.iload 4, 2)) ∧ (decode cJ7_fill_eb02e 12 = .ok (.iload_n 2, 1)) ∧ (decode cJ7_fill_eb02e 13 = .ok (.if_icmp .ge 14, 3)) ∧ (decode cJ7_fill_eb02e 16 = .ok (.aload_n 0, 1)) ∧ (decode cJ7_fill_eb02e 17 = .ok (.iload 4, 2)) ∧ (decode cJ7_fill_eb02e 19 = .ok (.iload_n 3, 1)) ∧ (decode cJ7_fill_eb02e 20 = .ok (.bastore, 1)) ∧ (decode cJ7_fill_eb02e 21 = .ok (.iinc 4 1, 3)) ∧ (decode cJ7_fill_eb02e 24 = .ok (.goto (-14), 3)) := by decide +kernel
theorem dJ7_fill_eb02e_0 : decode cJ7_fill_eb02e 0 = .ok (.aload_n 0, 1) := dq_J7_fill_eb02e_0.1
theorem dJ7_fill_eb02e_1 : decode cJ7_fill_eb02e 1 = .ok (.arraylength, 1) := dq_J7_fill_eb02e_0.2.1
theorem dJ7_fill_eb02e_2 : decode cJ7_fill_eb02e 2 = .ok (.iload_n 1, 1) := dq_J7_fill_eb02e_0.2.2.1
theorem dJ7_fill_eb02e_3 : decode cJ7_fill_eb02e 3 = .ok (.iload_n 2, 1) := dq_J7_fill_eb02e_0.2.2.2.1
theorem dJ7_fill_eb02e_4 : decode cJ7_fill_eb02e 4 = .ok (.invokestatic 13, 3) := dq_J7_fill_eb02e_0.2.2.2.2.1
theorem dJ7_fill_eb02e_7 : decode cJ7_fill_eb02e 7 = .ok (.iload_n 1, 1) := dq_J7_fill_eb02e_0.2.2.2.2.2.1
theorem dJ7_fill_eb02e_8 : decode cJ7_fill_eb02e 8 = .ok (.istore 4, 2) := dq_J7_fill_eb02e_0.2.2.2.2.2.2.1
theorem dJ7_fill_eb02e_10 : decode cJ7_fill_eb02e 10 = .ok (.iload 4, 2) := dq_J7_fill_eb02e_0.2.2.2.2.2.2.2.1
theorem dJ7_fill_eb02e_12 : decode cJ7_fill_eb02e 12 = .ok (.iload_n 2, 1) := dq_J7_fill_eb02e_0.2.2.2.2.2.2.2.2.1
theorem dJ7_fill_eb02e_13 : decode cJ7_fill_eb02e 13 = .ok (.if_icmp .ge 14, 3) := dq_J7_fill_eb02e_0.2.2.2.2.2.2.2.2.2.1
theorem dJ7_fill_eb02e_16 : decode cJ7_fill_eb02e 16 = .ok (.aload_n 0, 1) := dq_J7_fill_eb02e_0.2.2.2.2.2.2.2.2.2.2.1
theorem dJ7_fill_eb02e_17 : decode cJ7_fill_eb02e 17 = .ok (.iload 4, 2) := dq_J7_fill_eb02e_0.2.2.2.2.2.2.2.2.2.2.2.1
theorem dJ7_fill_eb02e_19 : decode cJ7_fill_eb02e 19 = .ok (.iload_n 3, 1) := dq_J7_fill_eb02e_0.2.2.2.2.2.2.2.2.2.2.2.2.1
theorem dJ7_fill_eb02e_20 : decode cJ7_fill_eb02e 20 = .ok (.bastore, 1) := dq_J7_fill_eb02e_0.2.2.2.2.2.2.2.2.2.2.2.2.2.1
theorem dJ7_fill_eb02e_21 : decode cJ7_fill_eb02e 21 = .ok (.iinc 4 1, 3) := dq_J7_fill_eb02e_0.2.2.2.2.2.2.2.2.2.2.2.2.2.2.1
theorem dJ7_fill_eb02e_24 : decode cJ7_fill_eb02e 24 = .ok (.goto (-14), 3) := dq_J7_fill_eb02e_0.2.2.2.2.2.2.2.2.2.2.2.2.2.2.2
theorem dJ7_fill_eb02e_27 : decode cJ7_fill_eb02e 27 = .ok (.return_, 1) := by decide +kernel
theorem dq_L_cell_0 : (decode cL_cell 0 = .ok (.iload_n 1, 1)) ∧ (decode cL_cell 1 = .ok (.aload_n 0, 1)) ∧ (decode cL_cell 2 = .ok (.arraylength, 1)) ∧ (decode cL_cell 3 = .ok (.if_icmp .ge 9, 3)) ∧ (decode cL_cell 6 = .ok (.aload_n 0, 1)) ∧ (decode cL_cell 7 = .ok (.iload_n 1, 1)) ∧ (decode cL_cell 8 = .ok (.iaload, 1)) ∧ (decode cL_cell 9 = .ok (.goto 4, 3)) ∧ (decode cL_cell 12 = .ok (.iconst 0, 1)) ∧ (decode cL_cell 13 = .ok (.ireturn, 1)) := by decide +kernel
theorem dL_cell_0 : decode cL_cell 0 = .ok (.iload_n 1, 1) := dq_L_cell_0.1
theorem dL_cell_1 : decode cL_cell 1 = .ok (.aload_n 0, 1) := dq_L_cell_0.2.1
theorem dL_cell_2 : decode cL_cell 2 = .ok (.arraylength, 1) := dq_L_cell_0.2.2.1
theorem dL_cell_3 : decode cL_cell 3 = .ok (.if_icmp .ge 9, 3) := dq_L_cell_0.2.2.2.1
theorem dL_cell_6 : decode cL_cell 6 = .ok (.aload_n 0, 1) := dq_L_cell_0.2.2.2.2.1
theorem dL_cell_7 : decode cL_cell 7 = .ok (.iload_n 1, 1) := dq_L_cell_0.2.2.2.2.2.1
theorem dL_cell_8 : decode cL_cell 8 = .ok (.iaload, 1) := dq_L_cell_0.2.2.2.2.2.2.1
theorem dL_cell_9 : decode cL_cell 9 = .ok (.goto 4, 3) := dq_L_cell_0.2.2.2.2.2.2.2.1
theorem dL_cell_12 : decode cL_cell 12 = .ok (.iconst 0, 1) := dq_L_cell_0.2.2.2.2.2.2.2.2.1
theorem dL_cell_13 : decode cL_cell 13 = .ok (.ireturn, 1) := dq_L_cell_0.2.2.2.2.2.2.2.2.2
theorem dq_L_law_0 : (decode cL_law 0 = .ok (.new 7, 3)) ∧ (decode cL_law 3 = .ok (.dup, 1)) ∧ (decode cL_law 4 = .ok (.aload_n 0, 1)) ∧ (decode cL_law 5 = .ok (.iconst 0, 1)) ∧ (decode cL_law 6 = .ok (.invokestatic 9, 3)) ∧ (decode cL_law 9 = .ok (.invokespecial 15, 3)) ∧ (decode cL_law 12 = .ok (.astore_n 1, 1)) ∧ (decode cL_law 13 = .ok (.new 18, 3)) ∧ (decode cL_law 16 = .ok (.dup, 1)) ∧ (decode cL_law 17 = .ok (.aload_n 0, 1)) ∧ (decode cL_law 18 = .ok (.iconst 0, 1)) ∧ (decode cL_law 19 = .ok (.invokestatic 9, 3)) ∧ (decode cL_law 22 = .ok (.invokespecial 20, 3)) ∧ (decode cL_law 25 = .ok (.astore_n 2, 1)) ∧ (decode cL_law 26 = .ok (.iconst 1, 1)) ∧ (decode cL_law 27 = .ok (.istore_n 3, 1)) := by decide +kernel
theorem dL_law_0 : decode cL_law 0 = .ok (.new 7, 3) := dq_L_law_0.1
theorem dL_law_3 : decode cL_law 3 = .ok (.dup, 1) := dq_L_law_0.2.1
theorem dL_law_4 : decode cL_law 4 = .ok (.aload_n 0, 1) := dq_L_law_0.2.2.1
theorem dL_law_5 : decode cL_law 5 = .ok (.iconst 0, 1) := dq_L_law_0.2.2.2.1
theorem dL_law_6 : decode cL_law 6 = .ok (.invokestatic 9, 3) := dq_L_law_0.2.2.2.2.1
theorem dL_law_9 : decode cL_law 9 = .ok (.invokespecial 15, 3) := dq_L_law_0.2.2.2.2.2.1
theorem dL_law_12 : decode cL_law 12 = .ok (.astore_n 1, 1) := dq_L_law_0.2.2.2.2.2.2.1
theorem dL_law_13 : decode cL_law 13 = .ok (.new 18, 3) := dq_L_law_0.2.2.2.2.2.2.2.1
theorem dL_law_16 : decode cL_law 16 = .ok (.dup, 1) := dq_L_law_0.2.2.2.2.2.2.2.2.1
theorem dL_law_17 : decode cL_law 17 = .ok (.aload_n 0, 1) := dq_L_law_0.2.2.2.2.2.2.2.2.2.1
theorem dL_law_18 : decode cL_law 18 = .ok (.iconst 0, 1) := dq_L_law_0.2.2.2.2.2.2.2.2.2.2.1
theorem dL_law_19 : decode cL_law 19 = .ok (.invokestatic 9, 3) := dq_L_law_0.2.2.2.2.2.2.2.2.2.2.2.1
theorem dL_law_22 : decode cL_law 22 = .ok (.invokespecial 20, 3) := dq_L_law_0.2.2.2.2.2.2.2.2.2.2.2.2.1
theorem dL_law_25 : decode cL_law 25 = .ok (.astore_n 2, 1) := dq_L_law_0.2.2.2.2.2.2.2.2.2.2.2.2.2.1
theorem dL_law_26 : decode cL_law 26 = .ok (.iconst 1, 1) := dq_L_law_0.2.2.2.2.2.2.2.2.2.2.2.2.2.2.1
theorem dL_law_27 : decode cL_law 27 = .ok (.istore_n 3, 1) := dq_L_law_0.2.2.2.2.2.2.2.2.2.2.2.2.2.2.2
theorem dq_L_law_28 : (decode cL_law 28 = .ok (.iload_n 3, 1)) ∧ (decode cL_law 29 = .ok (.aload_n 0, 1)) ∧ (decode cL_law 30 = .ok (.arraylength, 1)) ∧ (decode cL_law 31 = .ok (.bipush 6, 2)) ∧ (decode cL_law 33 = .ok (.isub, 1)) ∧ (decode cL_law 34 = .ok (.if_icmp .gt 772, 3)) ∧ (decode cL_law 37 = .ok (.aload_n 0, 1)) ∧ (decode cL_law 38 = .ok (.iload_n 3, 1)) ∧ (decode cL_law 39 = .ok (.iaload, 1)) ∧ (decode cL_law 40 = .ok (.bipush 31, 2)) ∧ (decode cL_law 42 = .ok (.iand, 1)) ∧ (decode cL_law 43 = .ok (.tableswitch 757 0 19 #[93, 156, 179, 212, 225, 248, 261, 284, 337, 380, 423, 476, 519, 552, 585, 596, 645, 668, 691, 724], 93)) ∧ (decode cL_law 136 = .ok (.aload_n 1, 1)) ∧ (decode cL_law 137 = .ok (.aload_n 0, 1)) ∧ (decode cL_law 138 = .ok (.iload_n 3, 1)) ∧ (decode cL_law 139 = .ok (.iconst 1, 1)) := by decide +kernel
theorem dL_law_28 : decode cL_law 28 = .ok (.iload_n 3, 1) := dq_L_law_28.1
theorem dL_law_29 : decode cL_law 29 = .ok (.aload_n 0, 1) := dq_L_law_28.2.1
theorem dL_law_30 : decode cL_law 30 = .ok (.arraylength, 1) := dq_L_law_28.2.2.1
theorem dL_law_31 : decode cL_law 31 = .ok (.bipush 6, 2) := dq_L_law_28.2.2.2.1
theorem dL_law_33 : decode cL_law 33 = .ok (.isub, 1) := dq_L_law_28.2.2.2.2.1
theorem dL_law_34 : decode cL_law 34 = .ok (.if_icmp .gt 772, 3) := dq_L_law_28.2.2.2.2.2.1
theorem dL_law_37 : decode cL_law 37 = .ok (.aload_n 0, 1) := dq_L_law_28.2.2.2.2.2.2.1
theorem dL_law_38 : decode cL_law 38 = .ok (.iload_n 3, 1) := dq_L_law_28.2.2.2.2.2.2.2.1
theorem dL_law_39 : decode cL_law 39 = .ok (.iaload, 1) := dq_L_law_28.2.2.2.2.2.2.2.2.1
theorem dL_law_40 : decode cL_law 40 = .ok (.bipush 31, 2) := dq_L_law_28.2.2.2.2.2.2.2.2.2.1
theorem dL_law_42 : decode cL_law 42 = .ok (.iand, 1) := dq_L_law_28.2.2.2.2.2.2.2.2.2.2.1
theorem dL_law_43 : decode cL_law 43 = .ok (.tableswitch 757 0 19 #[93, 156, 179, 212, 225, 248, 261, 284, 337, 380, 423, 476, 519, 552, 585, 596, 645, 668, 691, 724], 93) := dq_L_law_28.2.2.2.2.2.2.2.2.2.2.2.1
theorem dL_law_136 : decode cL_law 136 = .ok (.aload_n 1, 1) := dq_L_law_28.2.2.2.2.2.2.2.2.2.2.2.2.1
theorem dL_law_137 : decode cL_law 137 = .ok (.aload_n 0, 1) := dq_L_law_28.2.2.2.2.2.2.2.2.2.2.2.2.2.1
theorem dL_law_138 : decode cL_law 138 = .ok (.iload_n 3, 1) := dq_L_law_28.2.2.2.2.2.2.2.2.2.2.2.2.2.2.1
theorem dL_law_139 : decode cL_law 139 = .ok (.iconst 1, 1) := dq_L_law_28.2.2.2.2.2.2.2.2.2.2.2.2.2.2.2
theorem dq_L_law_140 : (decode cL_law 140 = .ok (.iadd, 1)) ∧ (decode cL_law 141 = .ok (.iaload, 1)) ∧ (decode cL_law 142 = .ok (.aload_n 0, 1)) ∧ (decode cL_law 143 = .ok (.iload_n 3, 1)) ∧ (decode cL_law 144 = .ok (.iconst 2, 1)) ∧ (decode cL_law 145 = .ok (.iadd, 1)) ∧ (decode cL_law 146 = .ok (.iaload, 1)) ∧ (decode cL_law 147 = .ok (.aload_n 0, 1)) ∧ (decode cL_law 148 = .ok (.iload_n 3, 1)) ∧ (decode cL_law 149 = .ok (.iconst 3, 1)) ∧ (decode cL_law 150 = .ok (.iadd, 1)) ∧ (decode cL_law 151 = .ok (.iaload, 1)) ∧ (decode cL_law 152 = .ok (.aload_n 0, 1)) ∧ (decode cL_law 153 = .ok (.iload_n 3, 1)) ∧ (decode cL_law 154 = .ok (.iconst 4, 1)) ∧ (decode cL_law 155 = .ok (.iadd, 1)) := by decide +kernel
theorem dL_law_140 : decode cL_law 140 = .ok (.iadd, 1) := dq_L_law_140.1
theorem dL_law_141 : decode cL_law 141 = .ok (.iaload, 1) := dq_L_law_140.2.1
theorem dL_law_142 : decode cL_law 142 = .ok (.aload_n 0, 1) := dq_L_law_140.2.2.1
theorem dL_law_143 : decode cL_law 143 = .ok (.iload_n 3, 1) := dq_L_law_140.2.2.2.1
theorem dL_law_144 : decode cL_law 144 = .ok (.iconst 2, 1) := dq_L_law_140.2.2.2.2.1
theorem dL_law_145 : decode cL_law 145 = .ok (.iadd, 1) := dq_L_law_140.2.2.2.2.2.1
theorem dL_law_146 : decode cL_law 146 = .ok (.iaload, 1) := dq_L_law_140.2.2.2.2.2.2.1
theorem dL_law_147 : decode cL_law 147 = .ok (.aload_n 0, 1) := dq_L_law_140.2.2.2.2.2.2.2.1
theorem dL_law_148 : decode cL_law 148 = .ok (.iload_n 3, 1) := dq_L_law_140.2.2.2.2.2.2.2.2.1
theorem dL_law_149 : decode cL_law 149 = .ok (.iconst 3, 1) := dq_L_law_140.2.2.2.2.2.2.2.2.2.1
theorem dL_law_150 : decode cL_law 150 = .ok (.iadd, 1) := dq_L_law_140.2.2.2.2.2.2.2.2.2.2.1
theorem dL_law_151 : decode cL_law 151 = .ok (.iaload, 1) := dq_L_law_140.2.2.2.2.2.2.2.2.2.2.2.1
theorem dL_law_152 : decode cL_law 152 = .ok (.aload_n 0, 1) := dq_L_law_140.2.2.2.2.2.2.2.2.2.2.2.2.1
theorem dL_law_153 : decode cL_law 153 = .ok (.iload_n 3, 1) := dq_L_law_140.2.2.2.2.2.2.2.2.2.2.2.2.2.1
theorem dL_law_154 : decode cL_law 154 = .ok (.iconst 4, 1) := dq_L_law_140.2.2.2.2.2.2.2.2.2.2.2.2.2.2.1
theorem dL_law_155 : decode cL_law 155 = .ok (.iadd, 1) := dq_L_law_140.2.2.2.2.2.2.2.2.2.2.2.2.2.2.2
theorem dq_L_law_156 : (decode cL_law 156 = .ok (.iaload, 1)) ∧ (decode cL_law 157 = .ok (.aload_n 0, 1)) ∧ (decode cL_law 158 = .ok (.iload_n 3, 1)) ∧ (decode cL_law 159 = .ok (.iconst 5, 1)) ∧ (decode cL_law 160 = .ok (.iadd, 1)) ∧ (decode cL_law 161 = .ok (.iaload, 1)) ∧ (decode cL_law 162 = .ok (.invokevirtual 21, 3)) ∧ (decode cL_law 165 = .ok (.pop, 1)) ∧ (decode cL_law 166 = .ok (.aload_n 2, 1)) ∧ (decode cL_law 167 = .ok (.aload_n 0, 1)) ∧ (decode cL_law 168 = .ok (.iload_n 3, 1)) ∧ (decode cL_law 169 = .ok (.iconst 1, 1)) ∧ (decode cL_law 170 = .ok (.iadd, 1)) ∧ (decode cL_law 171 = .ok (.iaload, 1)) ∧ (decode cL_law 172 = .ok (.aload_n 0, 1)) ∧ (decode cL_law 173 = .ok (.iload_n 3, 1)) := by decide +kernel
theorem dL_law_156 : decode cL_law 156 = .ok (.iaload, 1) := dq_L_law_156.1
theorem dL_law_157 : decode cL_law 157 = .ok (.aload_n 0, 1) := dq_L_law_156.2.1
theorem dL_law_158 : decode cL_law 158 = .ok (.iload_n 3, 1) := dq_L_law_156.2.2.1
theorem dL_law_159 : decode cL_law 159 = .ok (.iconst 5, 1) := dq_L_law_156.2.2.2.1
theorem dL_law_160 : decode cL_law 160 = .ok (.iadd, 1) := dq_L_law_156.2.2.2.2.1
theorem dL_law_161 : decode cL_law 161 = .ok (.iaload, 1) := dq_L_law_156.2.2.2.2.2.1
theorem dL_law_162 : decode cL_law 162 = .ok (.invokevirtual 21, 3) := dq_L_law_156.2.2.2.2.2.2.1
theorem dL_law_165 : decode cL_law 165 = .ok (.pop, 1) := dq_L_law_156.2.2.2.2.2.2.2.1
theorem dL_law_166 : decode cL_law 166 = .ok (.aload_n 2, 1) := dq_L_law_156.2.2.2.2.2.2.2.2.1
theorem dL_law_167 : decode cL_law 167 = .ok (.aload_n 0, 1) := dq_L_law_156.2.2.2.2.2.2.2.2.2.1
theorem dL_law_168 : decode cL_law 168 = .ok (.iload_n 3, 1) := dq_L_law_156.2.2.2.2.2.2.2.2.2.2.1
theorem dL_law_169 : decode cL_law 169 = .ok (.iconst 1, 1) := dq_L_law_156.2.2.2.2.2.2.2.2.2.2.2.1
theorem dL_law_170 : decode cL_law 170 = .ok (.iadd, 1) := dq_L_law_156.2.2.2.2.2.2.2.2.2.2.2.2.1
theorem dL_law_171 : decode cL_law 171 = .ok (.iaload, 1) := dq_L_law_156.2.2.2.2.2.2.2.2.2.2.2.2.2.1
theorem dL_law_172 : decode cL_law 172 = .ok (.aload_n 0, 1) := dq_L_law_156.2.2.2.2.2.2.2.2.2.2.2.2.2.2.1
theorem dL_law_173 : decode cL_law 173 = .ok (.iload_n 3, 1) := dq_L_law_156.2.2.2.2.2.2.2.2.2.2.2.2.2.2.2
theorem dq_L_law_174 : (decode cL_law 174 = .ok (.iconst 2, 1)) ∧ (decode cL_law 175 = .ok (.iadd, 1)) ∧ (decode cL_law 176 = .ok (.iaload, 1)) ∧ (decode cL_law 177 = .ok (.aload_n 0, 1)) ∧ (decode cL_law 178 = .ok (.iload_n 3, 1)) ∧ (decode cL_law 179 = .ok (.iconst 3, 1)) ∧ (decode cL_law 180 = .ok (.iadd, 1)) ∧ (decode cL_law 181 = .ok (.iaload, 1)) ∧ (decode cL_law 182 = .ok (.aload_n 0, 1)) ∧ (decode cL_law 183 = .ok (.iload_n 3, 1)) ∧ (decode cL_law 184 = .ok (.iconst 4, 1)) ∧ (decode cL_law 185 = .ok (.iadd, 1)) ∧ (decode cL_law 186 = .ok (.iaload, 1)) ∧ (decode cL_law 187 = .ok (.aload_n 0, 1)) ∧ (decode cL_law 188 = .ok (.iload_n 3, 1)) ∧ (decode cL_law 189 = .ok (.iconst 5, 1)) := by decide +kernel
theorem dL_law_174 : decode cL_law 174 = .ok (.iconst 2, 1) := dq_L_law_174.1
theorem dL_law_175 : decode cL_law 175 = .ok (.iadd, 1) := dq_L_law_174.2.1
theorem dL_law_176 : decode cL_law 176 = .ok (.iaload, 1) := dq_L_law_174.2.2.1
theorem dL_law_177 : decode cL_law 177 = .ok (.aload_n 0, 1) := dq_L_law_174.2.2.2.1
theorem dL_law_178 : decode cL_law 178 = .ok (.iload_n 3, 1) := dq_L_law_174.2.2.2.2.1
theorem dL_law_179 : decode cL_law 179 = .ok (.iconst 3, 1) := dq_L_law_174.2.2.2.2.2.1
theorem dL_law_180 : decode cL_law 180 = .ok (.iadd, 1) := dq_L_law_174.2.2.2.2.2.2.1
theorem dL_law_181 : decode cL_law 181 = .ok (.iaload, 1) := dq_L_law_174.2.2.2.2.2.2.2.1
theorem dL_law_182 : decode cL_law 182 = .ok (.aload_n 0, 1) := dq_L_law_174.2.2.2.2.2.2.2.2.1
theorem dL_law_183 : decode cL_law 183 = .ok (.iload_n 3, 1) := dq_L_law_174.2.2.2.2.2.2.2.2.2.1
theorem dL_law_184 : decode cL_law 184 = .ok (.iconst 4, 1) := dq_L_law_174.2.2.2.2.2.2.2.2.2.2.1
theorem dL_law_185 : decode cL_law 185 = .ok (.iadd, 1) := dq_L_law_174.2.2.2.2.2.2.2.2.2.2.2.1
theorem dL_law_186 : decode cL_law 186 = .ok (.iaload, 1) := dq_L_law_174.2.2.2.2.2.2.2.2.2.2.2.2.1
theorem dL_law_187 : decode cL_law 187 = .ok (.aload_n 0, 1) := dq_L_law_174.2.2.2.2.2.2.2.2.2.2.2.2.2.1
theorem dL_law_188 : decode cL_law 188 = .ok (.iload_n 3, 1) := dq_L_law_174.2.2.2.2.2.2.2.2.2.2.2.2.2.2.1
theorem dL_law_189 : decode cL_law 189 = .ok (.iconst 5, 1) := dq_L_law_174.2.2.2.2.2.2.2.2.2.2.2.2.2.2.2
theorem dq_L_law_190 : (decode cL_law 190 = .ok (.iadd, 1)) ∧ (decode cL_law 191 = .ok (.iaload, 1)) ∧ (decode cL_law 192 = .ok (.invokevirtual 25, 3)) ∧ (decode cL_law 195 = .ok (.pop, 1)) ∧ (decode cL_law 196 = .ok (.goto 604, 3)) ∧ (decode cL_law 199 = .ok (.aload_n 1, 1)) ∧ (decode cL_law 200 = .ok (.aload_n 0, 1)) ∧ (decode cL_law 201 = .ok (.iload_n 3, 1)) ∧ (decode cL_law 202 = .ok (.iconst 1, 1)) ∧ (decode cL_law 203 = .ok (.iadd, 1)) ∧ (decode cL_law 204 = .ok (.iaload, 1)) ∧ (decode cL_law 205 = .ok (.invokevirtual 26, 3)) ∧ (decode cL_law 208 = .ok (.pop, 1)) ∧ (decode cL_law 209 = .ok (.aload_n 2, 1)) ∧ (decode cL_law 210 = .ok (.aload_n 0, 1)) ∧ (decode cL_law 211 = .ok (.iload_n 3, 1)) := by decide +kernel
theorem dL_law_190 : decode cL_law 190 = .ok (.iadd, 1) := dq_L_law_190.1
theorem dL_law_191 : decode cL_law 191 = .ok (.iaload, 1) := dq_L_law_190.2.1
theorem dL_law_192 : decode cL_law 192 = .ok (.invokevirtual 25, 3) := dq_L_law_190.2.2.1
theorem dL_law_195 : decode cL_law 195 = .ok (.pop, 1) := dq_L_law_190.2.2.2.1
theorem dL_law_196 : decode cL_law 196 = .ok (.goto 604, 3) := dq_L_law_190.2.2.2.2.1
theorem dL_law_199 : decode cL_law 199 = .ok (.aload_n 1, 1) := dq_L_law_190.2.2.2.2.2.1
theorem dL_law_200 : decode cL_law 200 = .ok (.aload_n 0, 1) := dq_L_law_190.2.2.2.2.2.2.1
theorem dL_law_201 : decode cL_law 201 = .ok (.iload_n 3, 1) := dq_L_law_190.2.2.2.2.2.2.2.1
theorem dL_law_202 : decode cL_law 202 = .ok (.iconst 1, 1) := dq_L_law_190.2.2.2.2.2.2.2.2.1
theorem dL_law_203 : decode cL_law 203 = .ok (.iadd, 1) := dq_L_law_190.2.2.2.2.2.2.2.2.2.1
theorem dL_law_204 : decode cL_law 204 = .ok (.iaload, 1) := dq_L_law_190.2.2.2.2.2.2.2.2.2.2.1
theorem dL_law_205 : decode cL_law 205 = .ok (.invokevirtual 26, 3) := dq_L_law_190.2.2.2.2.2.2.2.2.2.2.2.1
theorem dL_law_208 : decode cL_law 208 = .ok (.pop, 1) := dq_L_law_190.2.2.2.2.2.2.2.2.2.2.2.2.1
theorem dL_law_209 : decode cL_law 209 = .ok (.aload_n 2, 1) := dq_L_law_190.2.2.2.2.2.2.2.2.2.2.2.2.2.1
theorem dL_law_210 : decode cL_law 210 = .ok (.aload_n 0, 1) := dq_L_law_190.2.2.2.2.2.2.2.2.2.2.2.2.2.2.1
theorem dL_law_211 : decode cL_law 211 = .ok (.iload_n 3, 1) := dq_L_law_190.2.2.2.2.2.2.2.2.2.2.2.2.2.2.2
theorem dq_L_law_212 : (decode cL_law 212 = .ok (.iconst 1, 1)) ∧ (decode cL_law 213 = .ok (.iadd, 1)) ∧ (decode cL_law 214 = .ok (.iaload, 1)) ∧ (decode cL_law 215 = .ok (.invokevirtual 30, 3)) ∧ (decode cL_law 218 = .ok (.pop, 1)) ∧ (decode cL_law 219 = .ok (.goto 581, 3)) ∧ (decode cL_law 222 = .ok (.aload_n 1, 1)) ∧ (decode cL_law 223 = .ok (.aload_n 0, 1)) ∧ (decode cL_law 224 = .ok (.iload_n 3, 1)) ∧ (decode cL_law 225 = .ok (.iconst 1, 1)) ∧ (decode cL_law 226 = .ok (.iadd, 1)) ∧ (decode cL_law 227 = .ok (.iaload, 1)) ∧ (decode cL_law 228 = .ok (.aload_n 0, 1)) ∧ (decode cL_law 229 = .ok (.iload_n 3, 1)) ∧ (decode cL_law 230 = .ok (.iconst 2, 1)) ∧ (decode cL_law 231 = .ok (.iadd, 1)) := by decide +kernel
theorem dL_law_212 : decode cL_law 212 = .ok (.iconst 1, 1) := dq_L_law_212.1
theorem dL_law_213 : decode cL_law 213 = .ok (.iadd, 1) := dq_L_law_212.2.1
theorem dL_law_214 : decode cL_law 214 = .ok (.iaload, 1) := dq_L_law_212.2.2.1
theorem dL_law_215 : decode cL_law 215 = .ok (.invokevirtual 30, 3) := dq_L_law_212.2.2.2.1
theorem dL_law_218 : decode cL_law 218 = .ok (.pop, 1) := dq_L_law_212.2.2.2.2.1
theorem dL_law_219 : decode cL_law 219 = .ok (.goto 581, 3) := dq_L_law_212.2.2.2.2.2.1
theorem dL_law_222 : decode cL_law 222 = .ok (.aload_n 1, 1) := dq_L_law_212.2.2.2.2.2.2.1
theorem dL_law_223 : decode cL_law 223 = .ok (.aload_n 0, 1) := dq_L_law_212.2.2.2.2.2.2.2.1
theorem dL_law_224 : decode cL_law 224 = .ok (.iload_n 3, 1) := dq_L_law_212.2.2.2.2.2.2.2.2.1
theorem dL_law_225 : decode cL_law 225 = .ok (.iconst 1, 1) := dq_L_law_212.2.2.2.2.2.2.2.2.2.1
theorem dL_law_226 : decode cL_law 226 = .ok (.iadd, 1) := dq_L_law_212.2.2.2.2.2.2.2.2.2.2.1
theorem dL_law_227 : decode cL_law 227 = .ok (.iaload, 1) := dq_L_law_212.2.2.2.2.2.2.2.2.2.2.2.1
theorem dL_law_228 : decode cL_law 228 = .ok (.aload_n 0, 1) := dq_L_law_212.2.2.2.2.2.2.2.2.2.2.2.2.1
theorem dL_law_229 : decode cL_law 229 = .ok (.iload_n 3, 1) := dq_L_law_212.2.2.2.2.2.2.2.2.2.2.2.2.2.1
theorem dL_law_230 : decode cL_law 230 = .ok (.iconst 2, 1) := dq_L_law_212.2.2.2.2.2.2.2.2.2.2.2.2.2.2.1
theorem dL_law_231 : decode cL_law 231 = .ok (.iadd, 1) := dq_L_law_212.2.2.2.2.2.2.2.2.2.2.2.2.2.2.2
theorem dq_L_law_232 : (decode cL_law 232 = .ok (.iaload, 1)) ∧ (decode cL_law 233 = .ok (.invokevirtual 31, 3)) ∧ (decode cL_law 236 = .ok (.pop, 1)) ∧ (decode cL_law 237 = .ok (.aload_n 2, 1)) ∧ (decode cL_law 238 = .ok (.aload_n 0, 1)) ∧ (decode cL_law 239 = .ok (.iload_n 3, 1)) ∧ (decode cL_law 240 = .ok (.iconst 1, 1)) ∧ (decode cL_law 241 = .ok (.iadd, 1)) ∧ (decode cL_law 242 = .ok (.iaload, 1)) ∧ (decode cL_law 243 = .ok (.aload_n 0, 1)) ∧ (decode cL_law 244 = .ok (.iload_n 3, 1)) ∧ (decode cL_law 245 = .ok (.iconst 2, 1)) ∧ (decode cL_law 246 = .ok (.iadd, 1)) ∧ (decode cL_law 247 = .ok (.iaload, 1)) ∧ (decode cL_law 248 = .ok (.invokevirtual 35, 3)) ∧ (decode cL_law 251 = .ok (.pop, 1)) := by decide +kernel
theorem dL_law_232 : decode cL_law 232 = .ok (.iaload, 1) := dq_L_law_232.1
theorem dL_law_233 : decode cL_law 233 = .ok (.invokevirtual 31, 3) := dq_L_law_232.2.1
theorem dL_law_236 : decode cL_law 236 = .ok (.pop, 1) := dq_L_law_232.2.2.1
theorem dL_law_237 : decode cL_law 237 = .ok (.aload_n 2, 1) := dq_L_law_232.2.2.2.1
theorem dL_law_238 : decode cL_law 238 = .ok (.aload_n 0, 1) := dq_L_law_232.2.2.2.2.1
theorem dL_law_239 : decode cL_law 239 = .ok (.iload_n 3, 1) := dq_L_law_232.2.2.2.2.2.1
theorem dL_law_240 : decode cL_law 240 = .ok (.iconst 1, 1) := dq_L_law_232.2.2.2.2.2.2.1
theorem dL_law_241 : decode cL_law 241 = .ok (.iadd, 1) := dq_L_law_232.2.2.2.2.2.2.2.1
theorem dL_law_242 : decode cL_law 242 = .ok (.iaload, 1) := dq_L_law_232.2.2.2.2.2.2.2.2.1
theorem dL_law_243 : decode cL_law 243 = .ok (.aload_n 0, 1) := dq_L_law_232.2.2.2.2.2.2.2.2.2.1
theorem dL_law_244 : decode cL_law 244 = .ok (.iload_n 3, 1) := dq_L_law_232.2.2.2.2.2.2.2.2.2.2.1
theorem dL_law_245 : decode cL_law 245 = .ok (.iconst 2, 1) := dq_L_law_232.2.2.2.2.2.2.2.2.2.2.2.1
theorem dL_law_246 : decode cL_law 246 = .ok (.iadd, 1) := dq_L_law_232.2.2.2.2.2.2.2.2.2.2.2.2.1
theorem dL_law_247 : decode cL_law 247 = .ok (.iaload, 1) := dq_L_law_232.2.2.2.2.2.2.2.2.2.2.2.2.2.1
theorem dL_law_248 : decode cL_law 248 = .ok (.invokevirtual 35, 3) := dq_L_law_232.2.2.2.2.2.2.2.2.2.2.2.2.2.2.1
theorem dL_law_251 : decode cL_law 251 = .ok (.pop, 1) := dq_L_law_232.2.2.2.2.2.2.2.2.2.2.2.2.2.2.2
theorem dq_L_law_252 : (decode cL_law 252 = .ok (.goto 548, 3)) ∧ (decode cL_law 255 = .ok (.aload_n 1, 1)) ∧ (decode cL_law 256 = .ok (.invokevirtual 36, 3)) ∧ (decode cL_law 259 = .ok (.pop, 1)) ∧ (decode cL_law 260 = .ok (.aload_n 2, 1)) ∧ (decode cL_law 261 = .ok (.invokevirtual 40, 3)) ∧ (decode cL_law 264 = .ok (.pop, 1)) ∧ (decode cL_law 265 = .ok (.goto 535, 3)) ∧ (decode cL_law 268 = .ok (.aload_n 1, 1)) ∧ (decode cL_law 269 = .ok (.aload_n 0, 1)) ∧ (decode cL_law 270 = .ok (.iload_n 3, 1)) ∧ (decode cL_law 271 = .ok (.iconst 1, 1)) ∧ (decode cL_law 272 = .ok (.iadd, 1)) ∧ (decode cL_law 273 = .ok (.iaload, 1)) ∧ (decode cL_law 274 = .ok (.invokevirtual 41, 3)) ∧ (decode cL_law 277 = .ok (.pop, 1)) := by decide +kernel
theorem dL_law_252 : decode cL_law 252 = .ok (.goto 548, 3) := dq_L_law_252.1
theorem dL_law_255 : decode cL_law 255 = .ok (.aload_n 1, 1) := dq_L_law_252.2.1
theorem dL_law_256 : decode cL_law 256 = .ok (.invokevirtual 36, 3) := dq_L_law_252.2.2.1
theorem dL_law_259 : decode cL_law 259 = .ok (.pop, 1) := dq_L_law_252.2.2.2.1
theorem dL_law_260 : decode cL_law 260 = .ok (.aload_n 2, 1) := dq_L_law_252.2.2.2.2.1
theorem dL_law_261 : decode cL_law 261 = .ok (.invokevirtual 40, 3) := dq_L_law_252.2.2.2.2.2.1
theorem dL_law_264 : decode cL_law 264 = .ok (.pop, 1) := dq_L_law_252.2.2.2.2.2.2.1
theorem dL_law_265 : decode cL_law 265 = .ok (.goto 535, 3) := dq_L_law_252.2.2.2.2.2.2.2.1
theorem dL_law_268 : decode cL_law 268 = .ok (.aload_n 1, 1) := dq_L_law_252.2.2.2.2.2.2.2.2.1
theorem dL_law_269 : decode cL_law 269 = .ok (.aload_n 0, 1) := dq_L_law_252.2.2.2.2.2.2.2.2.2.1
theorem dL_law_270 : decode cL_law 270 = .ok (.iload_n 3, 1) := dq_L_law_252.2.2.2.2.2.2.2.2.2.2.1
theorem dL_law_271 : decode cL_law 271 = .ok (.iconst 1, 1) := dq_L_law_252.2.2.2.2.2.2.2.2.2.2.2.1
theorem dL_law_272 : decode cL_law 272 = .ok (.iadd, 1) := dq_L_law_252.2.2.2.2.2.2.2.2.2.2.2.2.1
theorem dL_law_273 : decode cL_law 273 = .ok (.iaload, 1) := dq_L_law_252.2.2.2.2.2.2.2.2.2.2.2.2.2.1
theorem dL_law_274 : decode cL_law 274 = .ok (.invokevirtual 41, 3) := dq_L_law_252.2.2.2.2.2.2.2.2.2.2.2.2.2.2.1
theorem dL_law_277 : decode cL_law 277 = .ok (.pop, 1) := dq_L_law_252.2.2.2.2.2.2.2.2.2.2.2.2.2.2.2
theorem dq_L_law_278 : (decode cL_law 278 = .ok (.aload_n 2, 1)) ∧ (decode cL_law 279 = .ok (.aload_n 0, 1)) ∧ (decode cL_law 280 = .ok (.iload_n 3, 1)) ∧ (decode cL_law 281 = .ok (.iconst 1, 1)) ∧ (decode cL_law 282 = .ok (.iadd, 1)) ∧ (decode cL_law 283 = .ok (.iaload, 1)) ∧ (decode cL_law 284 = .ok (.invokevirtual 45, 3)) ∧ (decode cL_law 287 = .ok (.pop, 1)) ∧ (decode cL_law 288 = .ok (.goto 512, 3)) ∧ (decode cL_law 291 = .ok (.aload_n 1, 1)) ∧ (decode cL_law 292 = .ok (.invokevirtual 46, 3)) ∧ (decode cL_law 295 = .ok (.pop, 1)) ∧ (decode cL_law 296 = .ok (.aload_n 2, 1)) ∧ (decode cL_law 297 = .ok (.invokevirtual 49, 3)) ∧ (decode cL_law 300 = .ok (.pop, 1)) ∧ (decode cL_law 301 = .ok (.goto 499, 3)) := by decide +kernel
theorem dL_law_278 : decode cL_law 278 = .ok (.aload_n 2, 1) := dq_L_law_278.1
theorem dL_law_279 : decode cL_law 279 = .ok (.aload_n 0, 1) := dq_L_law_278.2.1
theorem dL_law_280 : decode cL_law 280 = .ok (.iload_n 3, 1) := dq_L_law_278.2.2.1
theorem dL_law_281 : decode cL_law 281 = .ok (.iconst 1, 1) := dq_L_law_278.2.2.2.1
theorem dL_law_282 : decode cL_law 282 = .ok (.iadd, 1) := dq_L_law_278.2.2.2.2.1
theorem dL_law_283 : decode cL_law 283 = .ok (.iaload, 1) := dq_L_law_278.2.2.2.2.2.1
theorem dL_law_284 : decode cL_law 284 = .ok (.invokevirtual 45, 3) := dq_L_law_278.2.2.2.2.2.2.1
theorem dL_law_287 : decode cL_law 287 = .ok (.pop, 1) := dq_L_law_278.2.2.2.2.2.2.2.1
theorem dL_law_288 : decode cL_law 288 = .ok (.goto 512, 3) := dq_L_law_278.2.2.2.2.2.2.2.2.1
theorem dL_law_291 : decode cL_law 291 = .ok (.aload_n 1, 1) := dq_L_law_278.2.2.2.2.2.2.2.2.2.1
theorem dL_law_292 : decode cL_law 292 = .ok (.invokevirtual 46, 3) := dq_L_law_278.2.2.2.2.2.2.2.2.2.2.1
theorem dL_law_295 : decode cL_law 295 = .ok (.pop, 1) := dq_L_law_278.2.2.2.2.2.2.2.2.2.2.2.1
theorem dL_law_296 : decode cL_law 296 = .ok (.aload_n 2, 1) := dq_L_law_278.2.2.2.2.2.2.2.2.2.2.2.2.1
theorem dL_law_297 : decode cL_law 297 = .ok (.invokevirtual 49, 3) := dq_L_law_278.2.2.2.2.2.2.2.2.2.2.2.2.2.1
theorem dL_law_300 : decode cL_law 300 = .ok (.pop, 1) := dq_L_law_278.2.2.2.2.2.2.2.2.2.2.2.2.2.2.1
theorem dL_law_301 : decode cL_law 301 = .ok (.goto 499, 3) := dq_L_law_278.2.2.2.2.2.2.2.2.2.2.2.2.2.2.2
theorem dq_L_law_304 : (decode cL_law 304 = .ok (.aload_n 1, 1)) ∧ (decode cL_law 305 = .ok (.aload_n 0, 1)) ∧ (decode cL_law 306 = .ok (.iload_n 3, 1)) ∧ (decode cL_law 307 = .ok (.iconst 1, 1)) ∧ (decode cL_law 308 = .ok (.iadd, 1)) ∧ (decode cL_law 309 = .ok (.iaload, 1)) ∧ (decode cL_law 310 = .ok (.invokevirtual 50, 3)) ∧ (decode cL_law 313 = .ok (.pop, 1)) ∧ (decode cL_law 314 = .ok (.aload_n 2, 1)) ∧ (decode cL_law 315 = .ok (.aload_n 0, 1)) ∧ (decode cL_law 316 = .ok (.iload_n 3, 1)) ∧ (decode cL_law 317 = .ok (.iconst 1, 1)) ∧ (decode cL_law 318 = .ok (.iadd, 1)) ∧ (decode cL_law 319 = .ok (.iaload, 1)) ∧ (decode cL_law 320 = .ok (.invokevirtual 53, 3)) ∧ (decode cL_law 323 = .ok (.pop, 1)) := by decide +kernel
theorem dL_law_304 : decode cL_law 304 = .ok (.aload_n 1, 1) := dq_L_law_304.1
theorem dL_law_305 : decode cL_law 305 = .ok (.aload_n 0, 1) := dq_L_law_304.2.1
theorem dL_law_306 : decode cL_law 306 = .ok (.iload_n 3, 1) := dq_L_law_304.2.2.1
theorem dL_law_307 : decode cL_law 307 = .ok (.iconst 1, 1) := dq_L_law_304.2.2.2.1
theorem dL_law_308 : decode cL_law 308 = .ok (.iadd, 1) := dq_L_law_304.2.2.2.2.1
theorem dL_law_309 : decode cL_law 309 = .ok (.iaload, 1) := dq_L_law_304.2.2.2.2.2.1
theorem dL_law_310 : decode cL_law 310 = .ok (.invokevirtual 50, 3) := dq_L_law_304.2.2.2.2.2.2.1
theorem dL_law_313 : decode cL_law 313 = .ok (.pop, 1) := dq_L_law_304.2.2.2.2.2.2.2.1
theorem dL_law_314 : decode cL_law 314 = .ok (.aload_n 2, 1) := dq_L_law_304.2.2.2.2.2.2.2.2.1
theorem dL_law_315 : decode cL_law 315 = .ok (.aload_n 0, 1) := dq_L_law_304.2.2.2.2.2.2.2.2.2.1
theorem dL_law_316 : decode cL_law 316 = .ok (.iload_n 3, 1) := dq_L_law_304.2.2.2.2.2.2.2.2.2.2.1
theorem dL_law_317 : decode cL_law 317 = .ok (.iconst 1, 1) := dq_L_law_304.2.2.2.2.2.2.2.2.2.2.2.1
theorem dL_law_318 : decode cL_law 318 = .ok (.iadd, 1) := dq_L_law_304.2.2.2.2.2.2.2.2.2.2.2.2.1
theorem dL_law_319 : decode cL_law 319 = .ok (.iaload, 1) := dq_L_law_304.2.2.2.2.2.2.2.2.2.2.2.2.2.1
theorem dL_law_320 : decode cL_law 320 = .ok (.invokevirtual 53, 3) := dq_L_law_304.2.2.2.2.2.2.2.2.2.2.2.2.2.2.1
theorem dL_law_323 : decode cL_law 323 = .ok (.pop, 1) := dq_L_law_304.2.2.2.2.2.2.2.2.2.2.2.2.2.2.2
theorem dq_L_law_324 : (decode cL_law 324 = .ok (.goto 476, 3)) ∧ (decode cL_law 327 = .ok (.aload_n 1, 1)) ∧ (decode cL_law 328 = .ok (.aload_n 0, 1)) ∧ (decode cL_law 329 = .ok (.iload_n 3, 1)) ∧ (decode cL_law 330 = .ok (.iconst 1, 1)) ∧ (decode cL_law 331 = .ok (.iadd, 1)) ∧ (decode cL_law 332 = .ok (.iaload, 1)) ∧ (decode cL_law 333 = .ok (.aload_n 0, 1)) ∧ (decode cL_law 334 = .ok (.iload_n 3, 1)) ∧ (decode cL_law 335 = .ok (.iconst 2, 1)) ∧ (decode cL_law 336 = .ok (.iadd, 1)) ∧ (decode cL_law 337 = .ok (.iaload, 1)) ∧ (decode cL_law 338 = .ok (.aload_n 0, 1)) ∧ (decode cL_law 339 = .ok (.iload_n 3, 1)) ∧ (decode cL_law 340 = .ok (.iconst 3, 1)) ∧ (decode cL_law 341 = .ok (.iadd, 1)) := by decide +kernel
theorem dL_law_324 : decode cL_law 324 = .ok (.goto 476, 3) := dq_L_law_324.1
theorem dL_law_327 : decode cL_law 327 = .ok (.aload_n 1, 1) := dq_L_law_324.2.1
theorem dL_law_328 : decode cL_law 328 = .ok (.aload_n 0, 1) := dq_L_law_324.2.2.1
theorem dL_law_329 : decode cL_law 329 = .ok (.iload_n 3, 1) := dq_L_law_324.2.2.2.1
theorem dL_law_330 : decode cL_law 330 = .ok (.iconst 1, 1) := dq_L_law_324.2.2.2.2.1
theorem dL_law_331 : decode cL_law 331 = .ok (.iadd, 1) := dq_L_law_324.2.2.2.2.2.1
theorem dL_law_332 : decode cL_law 332 = .ok (.iaload, 1) := dq_L_law_324.2.2.2.2.2.2.1
theorem dL_law_333 : decode cL_law 333 = .ok (.aload_n 0, 1) := dq_L_law_324.2.2.2.2.2.2.2.1
theorem dL_law_334 : decode cL_law 334 = .ok (.iload_n 3, 1) := dq_L_law_324.2.2.2.2.2.2.2.2.1
theorem dL_law_335 : decode cL_law 335 = .ok (.iconst 2, 1) := dq_L_law_324.2.2.2.2.2.2.2.2.2.1
theorem dL_law_336 : decode cL_law 336 = .ok (.iadd, 1) := dq_L_law_324.2.2.2.2.2.2.2.2.2.2.1
theorem dL_law_337 : decode cL_law 337 = .ok (.iaload, 1) := dq_L_law_324.2.2.2.2.2.2.2.2.2.2.2.1
theorem dL_law_338 : decode cL_law 338 = .ok (.aload_n 0, 1) := dq_L_law_324.2.2.2.2.2.2.2.2.2.2.2.2.1
theorem dL_law_339 : decode cL_law 339 = .ok (.iload_n 3, 1) := dq_L_law_324.2.2.2.2.2.2.2.2.2.2.2.2.2.1
theorem dL_law_340 : decode cL_law 340 = .ok (.iconst 3, 1) := dq_L_law_324.2.2.2.2.2.2.2.2.2.2.2.2.2.2.1
theorem dL_law_341 : decode cL_law 341 = .ok (.iadd, 1) := dq_L_law_324.2.2.2.2.2.2.2.2.2.2.2.2.2.2.2
theorem dq_L_law_342 : (decode cL_law 342 = .ok (.iaload, 1)) ∧ (decode cL_law 343 = .ok (.aload_n 0, 1)) ∧ (decode cL_law 344 = .ok (.iload_n 3, 1)) ∧ (decode cL_law 345 = .ok (.iconst 4, 1)) ∧ (decode cL_law 346 = .ok (.iadd, 1)) ∧ (decode cL_law 347 = .ok (.iaload, 1)) ∧ (decode cL_law 348 = .ok (.invokevirtual 54, 3)) ∧ (decode cL_law 351 = .ok (.pop, 1)) ∧ (decode cL_law 352 = .ok (.aload_n 2, 1)) ∧ (decode cL_law 353 = .ok (.aload_n 0, 1)) ∧ (decode cL_law 354 = .ok (.iload_n 3, 1)) ∧ (decode cL_law 355 = .ok (.iconst 1, 1)) ∧ (decode cL_law 356 = .ok (.iadd, 1)) ∧ (decode cL_law 357 = .ok (.iaload, 1)) ∧ (decode cL_law 358 = .ok (.aload_n 0, 1)) ∧ (decode cL_law 359 = .ok (.iload_n 3, 1)) := by decide +kernel
theorem dL_law_342 : decode cL_law 342 = .ok (.iaload, 1) := dq_L_law_342.1
theorem dL_law_343 : decode cL_law 343 = .ok (.aload_n 0, 1) := dq_L_law_342.2.1
theorem dL_law_344 : decode cL_law 344 = .ok (.iload_n 3, 1) := dq_L_law_342.2.2.1
theorem dL_law_345 : decode cL_law 345 = .ok (.iconst 4, 1) := dq_L_law_342.2.2.2.1
theorem dL_law_346 : decode cL_law 346 = .ok (.iadd, 1) := dq_L_law_342.2.2.2.2.1
theorem dL_law_347 : decode cL_law 347 = .ok (.iaload, 1) := dq_L_law_342.2.2.2.2.2.1
theorem dL_law_348 : decode cL_law 348 = .ok (.invokevirtual 54, 3) := dq_L_law_342.2.2.2.2.2.2.1
theorem dL_law_351 : decode cL_law 351 = .ok (.pop, 1) := dq_L_law_342.2.2.2.2.2.2.2.1
theorem dL_law_352 : decode cL_law 352 = .ok (.aload_n 2, 1) := dq_L_law_342.2.2.2.2.2.2.2.2.1
theorem dL_law_353 : decode cL_law 353 = .ok (.aload_n 0, 1) := dq_L_law_342.2.2.2.2.2.2.2.2.2.1
theorem dL_law_354 : decode cL_law 354 = .ok (.iload_n 3, 1) := dq_L_law_342.2.2.2.2.2.2.2.2.2.2.1
theorem dL_law_355 : decode cL_law 355 = .ok (.iconst 1, 1) := dq_L_law_342.2.2.2.2.2.2.2.2.2.2.2.1
theorem dL_law_356 : decode cL_law 356 = .ok (.iadd, 1) := dq_L_law_342.2.2.2.2.2.2.2.2.2.2.2.2.1
theorem dL_law_357 : decode cL_law 357 = .ok (.iaload, 1) := dq_L_law_342.2.2.2.2.2.2.2.2.2.2.2.2.2.1
theorem dL_law_358 : decode cL_law 358 = .ok (.aload_n 0, 1) := dq_L_law_342.2.2.2.2.2.2.2.2.2.2.2.2.2.2.1
theorem dL_law_359 : decode cL_law 359 = .ok (.iload_n 3, 1) := dq_L_law_342.2.2.2.2.2.2.2.2.2.2.2.2.2.2.2
theorem dq_L_law_360 : (decode cL_law 360 = .ok (.iconst 2, 1)) ∧ (decode cL_law 361 = .ok (.iadd, 1)) ∧ (decode cL_law 362 = .ok (.iaload, 1)) ∧ (decode cL_law 363 = .ok (.aload_n 0, 1)) ∧ (decode cL_law 364 = .ok (.iload_n 3, 1)) ∧ (decode cL_law 365 = .ok (.iconst 3, 1)) ∧ (decode cL_law 366 = .ok (.iadd, 1)) ∧ (decode cL_law 367 = .ok (.iaload, 1)) ∧ (decode cL_law 368 = .ok (.aload_n 0, 1)) ∧ (decode cL_law 369 = .ok (.iload_n 3, 1)) ∧ (decode cL_law 370 = .ok (.iconst 4, 1)) ∧ (decode cL_law 371 = .ok (.iadd, 1)) ∧ (decode cL_law 372 = .ok (.iaload, 1)) ∧ (decode cL_law 373 = .ok (.invokevirtual 58, 3)) ∧ (decode cL_law 376 = .ok (.pop, 1)) ∧ (decode cL_law 377 = .ok (.goto 423, 3)) := by decide +kernel
theorem dL_law_360 : decode cL_law 360 = .ok (.iconst 2, 1) := dq_L_law_360.1
theorem dL_law_361 : decode cL_law 361 = .ok (.iadd, 1) := dq_L_law_360.2.1
theorem dL_law_362 : decode cL_law 362 = .ok (.iaload, 1) := dq_L_law_360.2.2.1
theorem dL_law_363 : decode cL_law 363 = .ok (.aload_n 0, 1) := dq_L_law_360.2.2.2.1
theorem dL_law_364 : decode cL_law 364 = .ok (.iload_n 3, 1) := dq_L_law_360.2.2.2.2.1
theorem dL_law_365 : decode cL_law 365 = .ok (.iconst 3, 1) := dq_L_law_360.2.2.2.2.2.1
theorem dL_law_366 : decode cL_law 366 = .ok (.iadd, 1) := dq_L_law_360.2.2.2.2.2.2.1
theorem dL_law_367 : decode cL_law 367 = .ok (.iaload, 1) := dq_L_law_360.2.2.2.2.2.2.2.1
theorem dL_law_368 : decode cL_law 368 = .ok (.aload_n 0, 1) := dq_L_law_360.2.2.2.2.2.2.2.2.1
theorem dL_law_369 : decode cL_law 369 = .ok (.iload_n 3, 1) := dq_L_law_360.2.2.2.2.2.2.2.2.2.1
theorem dL_law_370 : decode cL_law 370 = .ok (.iconst 4, 1) := dq_L_law_360.2.2.2.2.2.2.2.2.2.2.1
theorem dL_law_371 : decode cL_law 371 = .ok (.iadd, 1) := dq_L_law_360.2.2.2.2.2.2.2.2.2.2.2.1
theorem dL_law_372 : decode cL_law 372 = .ok (.iaload, 1) := dq_L_law_360.2.2.2.2.2.2.2.2.2.2.2.2.1
theorem dL_law_373 : decode cL_law 373 = .ok (.invokevirtual 58, 3) := dq_L_law_360.2.2.2.2.2.2.2.2.2.2.2.2.2.1
theorem dL_law_376 : decode cL_law 376 = .ok (.pop, 1) := dq_L_law_360.2.2.2.2.2.2.2.2.2.2.2.2.2.2.1
theorem dL_law_377 : decode cL_law 377 = .ok (.goto 423, 3) := dq_L_law_360.2.2.2.2.2.2.2.2.2.2.2.2.2.2.2
theorem dq_L_law_380 : (decode cL_law 380 = .ok (.aload_n 1, 1)) ∧ (decode cL_law 381 = .ok (.aload_n 0, 1)) ∧ (decode cL_law 382 = .ok (.iload_n 3, 1)) ∧ (decode cL_law 383 = .ok (.iconst 1, 1)) ∧ (decode cL_law 384 = .ok (.iadd, 1)) ∧ (decode cL_law 385 = .ok (.iaload, 1)) ∧ (decode cL_law 386 = .ok (.aload_n 0, 1)) ∧ (decode cL_law 387 = .ok (.iload_n 3, 1)) ∧ (decode cL_law 388 = .ok (.iconst 2, 1)) ∧ (decode cL_law 389 = .ok (.iadd, 1)) ∧ (decode cL_law 390 = .ok (.iaload, 1)) ∧ (decode cL_law 391 = .ok (.aload_n 0, 1)) ∧ (decode cL_law 392 = .ok (.iload_n 3, 1)) ∧ (decode cL_law 393 = .ok (.iconst 3, 1)) ∧ (decode cL_law 394 = .ok (.iadd, 1)) ∧ (decode cL_law 395 = .ok (.iaload, 1)) := by decide +kernel
theorem dL_law_380 : decode cL_law 380 = .ok (.aload_n 1, 1) := dq_L_law_380.1
theorem dL_law_381 : decode cL_law 381 = .ok (.aload_n 0, 1) := dq_L_law_380.2.1
theorem dL_law_382 : decode cL_law 382 = .ok (.iload_n 3, 1) := dq_L_law_380.2.2.1
theorem dL_law_383 : decode cL_law 383 = .ok (.iconst 1, 1) := dq_L_law_380.2.2.2.1
theorem dL_law_384 : decode cL_law 384 = .ok (.iadd, 1) := dq_L_law_380.2.2.2.2.1
theorem dL_law_385 : decode cL_law 385 = .ok (.iaload, 1) := dq_L_law_380.2.2.2.2.2.1
theorem dL_law_386 : decode cL_law 386 = .ok (.aload_n 0, 1) := dq_L_law_380.2.2.2.2.2.2.1
theorem dL_law_387 : decode cL_law 387 = .ok (.iload_n 3, 1) := dq_L_law_380.2.2.2.2.2.2.2.1
theorem dL_law_388 : decode cL_law 388 = .ok (.iconst 2, 1) := dq_L_law_380.2.2.2.2.2.2.2.2.1
theorem dL_law_389 : decode cL_law 389 = .ok (.iadd, 1) := dq_L_law_380.2.2.2.2.2.2.2.2.2.1
theorem dL_law_390 : decode cL_law 390 = .ok (.iaload, 1) := dq_L_law_380.2.2.2.2.2.2.2.2.2.2.1
theorem dL_law_391 : decode cL_law 391 = .ok (.aload_n 0, 1) := dq_L_law_380.2.2.2.2.2.2.2.2.2.2.2.1
theorem dL_law_392 : decode cL_law 392 = .ok (.iload_n 3, 1) := dq_L_law_380.2.2.2.2.2.2.2.2.2.2.2.2.1
theorem dL_law_393 : decode cL_law 393 = .ok (.iconst 3, 1) := dq_L_law_380.2.2.2.2.2.2.2.2.2.2.2.2.2.1
theorem dL_law_394 : decode cL_law 394 = .ok (.iadd, 1) := dq_L_law_380.2.2.2.2.2.2.2.2.2.2.2.2.2.2.1
theorem dL_law_395 : decode cL_law 395 = .ok (.iaload, 1) := dq_L_law_380.2.2.2.2.2.2.2.2.2.2.2.2.2.2.2
theorem dq_L_law_396 : (decode cL_law 396 = .ok (.invokevirtual 59, 3)) ∧ (decode cL_law 399 = .ok (.pop, 1)) ∧ (decode cL_law 400 = .ok (.aload_n 2, 1)) ∧ (decode cL_law 401 = .ok (.aload_n 0, 1)) ∧ (decode cL_law 402 = .ok (.iload_n 3, 1)) ∧ (decode cL_law 403 = .ok (.iconst 1, 1)) ∧ (decode cL_law 404 = .ok (.iadd, 1)) ∧ (decode cL_law 405 = .ok (.iaload, 1)) ∧ (decode cL_law 406 = .ok (.aload_n 0, 1)) ∧ (decode cL_law 407 = .ok (.iload_n 3, 1)) ∧ (decode cL_law 408 = .ok (.iconst 2, 1)) ∧ (decode cL_law 409 = .ok (.iadd, 1)) ∧ (decode cL_law 410 = .ok (.iaload, 1)) ∧ (decode cL_law 411 = .ok (.aload_n 0, 1)) ∧ (decode cL_law 412 = .ok (.iload_n 3, 1)) ∧ (decode cL_law 413 = .ok (.iconst 3, 1)) := by decide +kernel
theorem dL_law_396 : decode cL_law 396 = .ok (.invokevirtual 59, 3) := dq_L_law_396.1
theorem dL_law_399 : decode cL_law 399 = .ok (.pop, 1) := dq_L_law_396.2.1
theorem dL_law_400 : decode cL_law 400 = .ok (.aload_n 2, 1) := dq_L_law_396.2.2.1
theorem dL_law_401 : decode cL_law 401 = .ok (.aload_n 0, 1) := dq_L_law_396.2.2.2.1
theorem dL_law_402 : decode cL_law 402 = .ok (.iload_n 3, 1) := dq_L_law_396.2.2.2.2.1
theorem dL_law_403 : decode cL_law 403 = .ok (.iconst 1, 1) := dq_L_law_396.2.2.2.2.2.1
theorem dL_law_404 : decode cL_law 404 = .ok (.iadd, 1) := dq_L_law_396.2.2.2.2.2.2.1
theorem dL_law_405 : decode cL_law 405 = .ok (.iaload, 1) := dq_L_law_396.2.2.2.2.2.2.2.1
theorem dL_law_406 : decode cL_law 406 = .ok (.aload_n 0, 1) := dq_L_law_396.2.2.2.2.2.2.2.2.1
theorem dL_law_407 : decode cL_law 407 = .ok (.iload_n 3, 1) := dq_L_law_396.2.2.2.2.2.2.2.2.2.1
theorem dL_law_408 : decode cL_law 408 = .ok (.iconst 2, 1) := dq_L_law_396.2.2.2.2.2.2.2.2.2.2.1
theorem dL_law_409 : decode cL_law 409 = .ok (.iadd, 1) := dq_L_law_396.2.2.2.2.2.2.2.2.2.2.2.1
theorem dL_law_410 : decode cL_law 410 = .ok (.iaload, 1) := dq_L_law_396.2.2.2.2.2.2.2.2.2.2.2.2.1
theorem dL_law_411 : decode cL_law 411 = .ok (.aload_n 0, 1) := dq_L_law_396.2.2.2.2.2.2.2.2.2.2.2.2.2.1
theorem dL_law_412 : decode cL_law 412 = .ok (.iload_n 3, 1) := dq_L_law_396.2.2.2.2.2.2.2.2.2.2.2.2.2.2.1
theorem dL_law_413 : decode cL_law 413 = .ok (.iconst 3, 1) := dq_L_law_396.2.2.2.2.2.2.2.2.2.2.2.2.2.2.2
theorem dq_L_law_414 : (decode cL_law 414 = .ok (.iadd, 1)) ∧ (decode cL_law 415 = .ok (.iaload, 1)) ∧ (decode cL_law 416 = .ok (.invokevirtual 63, 3)) ∧ (decode cL_law 419 = .ok (.pop, 1)) ∧ (decode cL_law 420 = .ok (.goto 380, 3)) ∧ (decode cL_law 423 = .ok (.aload_n 1, 1)) ∧ (decode cL_law 424 = .ok (.aload_n 0, 1)) ∧ (decode cL_law 425 = .ok (.iload_n 3, 1)) ∧ (decode cL_law 426 = .ok (.iconst 1, 1)) ∧ (decode cL_law 427 = .ok (.iadd, 1)) ∧ (decode cL_law 428 = .ok (.iaload, 1)) ∧ (decode cL_law 429 = .ok (.aload_n 0, 1)) ∧ (decode cL_law 430 = .ok (.iload_n 3, 1)) ∧ (decode cL_law 431 = .ok (.iconst 2, 1)) ∧ (decode cL_law 432 = .ok (.iadd, 1)) ∧ (decode cL_law 433 = .ok (.iaload, 1)) := by decide +kernel
theorem dL_law_414 : decode cL_law 414 = .ok (.iadd, 1) := dq_L_law_414.1
theorem dL_law_415 : decode cL_law 415 = .ok (.iaload, 1) := dq_L_law_414.2.1
theorem dL_law_416 : decode cL_law 416 = .ok (.invokevirtual 63, 3) := dq_L_law_414.2.2.1
theorem dL_law_419 : decode cL_law 419 = .ok (.pop, 1) := dq_L_law_414.2.2.2.1
theorem dL_law_420 : decode cL_law 420 = .ok (.goto 380, 3) := dq_L_law_414.2.2.2.2.1
theorem dL_law_423 : decode cL_law 423 = .ok (.aload_n 1, 1) := dq_L_law_414.2.2.2.2.2.1
theorem dL_law_424 : decode cL_law 424 = .ok (.aload_n 0, 1) := dq_L_law_414.2.2.2.2.2.2.1
theorem dL_law_425 : decode cL_law 425 = .ok (.iload_n 3, 1) := dq_L_law_414.2.2.2.2.2.2.2.1
theorem dL_law_426 : decode cL_law 426 = .ok (.iconst 1, 1) := dq_L_law_414.2.2.2.2.2.2.2.2.1
theorem dL_law_427 : decode cL_law 427 = .ok (.iadd, 1) := dq_L_law_414.2.2.2.2.2.2.2.2.2.1
theorem dL_law_428 : decode cL_law 428 = .ok (.iaload, 1) := dq_L_law_414.2.2.2.2.2.2.2.2.2.2.1
theorem dL_law_429 : decode cL_law 429 = .ok (.aload_n 0, 1) := dq_L_law_414.2.2.2.2.2.2.2.2.2.2.2.1
theorem dL_law_430 : decode cL_law 430 = .ok (.iload_n 3, 1) := dq_L_law_414.2.2.2.2.2.2.2.2.2.2.2.2.1
theorem dL_law_431 : decode cL_law 431 = .ok (.iconst 2, 1) := dq_L_law_414.2.2.2.2.2.2.2.2.2.2.2.2.2.1
theorem dL_law_432 : decode cL_law 432 = .ok (.iadd, 1) := dq_L_law_414.2.2.2.2.2.2.2.2.2.2.2.2.2.2.1
theorem dL_law_433 : decode cL_law 433 = .ok (.iaload, 1) := dq_L_law_414.2.2.2.2.2.2.2.2.2.2.2.2.2.2.2
theorem dq_L_law_434 : (decode cL_law 434 = .ok (.aload_n 0, 1)) ∧ (decode cL_law 435 = .ok (.iload_n 3, 1)) ∧ (decode cL_law 436 = .ok (.iconst 3, 1)) ∧ (decode cL_law 437 = .ok (.iadd, 1)) ∧ (decode cL_law 438 = .ok (.iaload, 1)) ∧ (decode cL_law 439 = .ok (.invokevirtual 64, 3)) ∧ (decode cL_law 442 = .ok (.pop, 1)) ∧ (decode cL_law 443 = .ok (.aload_n 2, 1)) ∧ (decode cL_law 444 = .ok (.aload_n 0, 1)) ∧ (decode cL_law 445 = .ok (.iload_n 3, 1)) ∧ (decode cL_law 446 = .ok (.iconst 1, 1)) ∧ (decode cL_law 447 = .ok (.iadd, 1)) ∧ (decode cL_law 448 = .ok (.iaload, 1)) ∧ (decode cL_law 449 = .ok (.aload_n 0, 1)) ∧ (decode cL_law 450 = .ok (.iload_n 3, 1)) ∧ (decode cL_law 451 = .ok (.iconst 2, 1)) := by decide +kernel
theorem dL_law_434 : decode cL_law 434 = .ok (.aload_n 0, 1) := dq_L_law_434.1
theorem dL_law_435 : decode cL_law 435 = .ok (.iload_n 3, 1) := dq_L_law_434.2.1
theorem dL_law_436 : decode cL_law 436 = .ok (.iconst 3, 1) := dq_L_law_434.2.2.1
theorem dL_law_437 : decode cL_law 437 = .ok (.iadd, 1) := dq_L_law_434.2.2.2.1
theorem dL_law_438 : decode cL_law 438 = .ok (.iaload, 1) := dq_L_law_434.2.2.2.2.1
theorem dL_law_439 : decode cL_law 439 = .ok (.invokevirtual 64, 3) := dq_L_law_434.2.2.2.2.2.1
theorem dL_law_442 : decode cL_law 442 = .ok (.pop, 1) := dq_L_law_434.2.2.2.2.2.2.1
theorem dL_law_443 : decode cL_law 443 = .ok (.aload_n 2, 1) := dq_L_law_434.2.2.2.2.2.2.2.1
theorem dL_law_444 : decode cL_law 444 = .ok (.aload_n 0, 1) := dq_L_law_434.2.2.2.2.2.2.2.2.1
theorem dL_law_445 : decode cL_law 445 = .ok (.iload_n 3, 1) := dq_L_law_434.2.2.2.2.2.2.2.2.2.1
theorem dL_law_446 : decode cL_law 446 = .ok (.iconst 1, 1) := dq_L_law_434.2.2.2.2.2.2.2.2.2.2.1
theorem dL_law_447 : decode cL_law 447 = .ok (.iadd, 1) := dq_L_law_434.2.2.2.2.2.2.2.2.2.2.2.1
theorem dL_law_448 : decode cL_law 448 = .ok (.iaload, 1) := dq_L_law_434.2.2.2.2.2.2.2.2.2.2.2.2.1
theorem dL_law_449 : decode cL_law 449 = .ok (.aload_n 0, 1) := dq_L_law_434.2.2.2.2.2.2.2.2.2.2.2.2.2.1
theorem dL_law_450 : decode cL_law 450 = .ok (.iload_n 3, 1) := dq_L_law_434.2.2.2.2.2.2.2.2.2.2.2.2.2.2.1
theorem dL_law_451 : decode cL_law 451 = .ok (.iconst 2, 1) := dq_L_law_434.2.2.2.2.2.2.2.2.2.2.2.2.2.2.2
theorem dq_L_law_452 : (decode cL_law 452 = .ok (.iadd, 1)) ∧ (decode cL_law 453 = .ok (.iaload, 1)) ∧ (decode cL_law 454 = .ok (.aload_n 0, 1)) ∧ (decode cL_law 455 = .ok (.iload_n 3, 1)) ∧ (decode cL_law 456 = .ok (.iconst 3, 1)) ∧ (decode cL_law 457 = .ok (.iadd, 1)) ∧ (decode cL_law 458 = .ok (.iaload, 1)) ∧ (decode cL_law 459 = .ok (.invokevirtual 67, 3)) ∧ (decode cL_law 462 = .ok (.pop, 1)) ∧ (decode cL_law 463 = .ok (.goto 337, 3)) ∧ (decode cL_law 466 = .ok (.aload_n 1, 1)) ∧ (decode cL_law 467 = .ok (.aload_n 0, 1)) ∧ (decode cL_law 468 = .ok (.iload_n 3, 1)) ∧ (decode cL_law 469 = .ok (.iconst 1, 1)) ∧ (decode cL_law 470 = .ok (.iadd, 1)) ∧ (decode cL_law 471 = .ok (.iaload, 1)) := by decide +kernel
theorem dL_law_452 : decode cL_law 452 = .ok (.iadd, 1) := dq_L_law_452.1
theorem dL_law_453 : decode cL_law 453 = .ok (.iaload, 1) := dq_L_law_452.2.1
theorem dL_law_454 : decode cL_law 454 = .ok (.aload_n 0, 1) := dq_L_law_452.2.2.1
theorem dL_law_455 : decode cL_law 455 = .ok (.iload_n 3, 1) := dq_L_law_452.2.2.2.1
theorem dL_law_456 : decode cL_law 456 = .ok (.iconst 3, 1) := dq_L_law_452.2.2.2.2.1
theorem dL_law_457 : decode cL_law 457 = .ok (.iadd, 1) := dq_L_law_452.2.2.2.2.2.1
theorem dL_law_458 : decode cL_law 458 = .ok (.iaload, 1) := dq_L_law_452.2.2.2.2.2.2.1
theorem dL_law_459 : decode cL_law 459 = .ok (.invokevirtual 67, 3) := dq_L_law_452.2.2.2.2.2.2.2.1
theorem dL_law_462 : decode cL_law 462 = .ok (.pop, 1) := dq_L_law_452.2.2.2.2.2.2.2.2.1
theorem dL_law_463 : decode cL_law 463 = .ok (.goto 337, 3) := dq_L_law_452.2.2.2.2.2.2.2.2.2.1
theorem dL_law_466 : decode cL_law 466 = .ok (.aload_n 1, 1) := dq_L_law_452.2.2.2.2.2.2.2.2.2.2.1
theorem dL_law_467 : decode cL_law 467 = .ok (.aload_n 0, 1) := dq_L_law_452.2.2.2.2.2.2.2.2.2.2.2.1
theorem dL_law_468 : decode cL_law 468 = .ok (.iload_n 3, 1) := dq_L_law_452.2.2.2.2.2.2.2.2.2.2.2.2.1
theorem dL_law_469 : decode cL_law 469 = .ok (.iconst 1, 1) := dq_L_law_452.2.2.2.2.2.2.2.2.2.2.2.2.2.1
theorem dL_law_470 : decode cL_law 470 = .ok (.iadd, 1) := dq_L_law_452.2.2.2.2.2.2.2.2.2.2.2.2.2.2.1
theorem dL_law_471 : decode cL_law 471 = .ok (.iaload, 1) := dq_L_law_452.2.2.2.2.2.2.2.2.2.2.2.2.2.2.2
theorem dq_L_law_472 : (decode cL_law 472 = .ok (.aload_n 0, 1)) ∧ (decode cL_law 473 = .ok (.iload_n 3, 1)) ∧ (decode cL_law 474 = .ok (.iconst 2, 1)) ∧ (decode cL_law 475 = .ok (.iadd, 1)) ∧ (decode cL_law 476 = .ok (.iaload, 1)) ∧ (decode cL_law 477 = .ok (.aload_n 0, 1)) ∧ (decode cL_law 478 = .ok (.iload_n 3, 1)) ∧ (decode cL_law 479 = .ok (.iconst 3, 1)) ∧ (decode cL_law 480 = .ok (.iadd, 1)) ∧ (decode cL_law 481 = .ok (.iaload, 1)) ∧ (decode cL_law 482 = .ok (.aload_n 0, 1)) ∧ (decode cL_law 483 = .ok (.iload_n 3, 1)) ∧ (decode cL_law 484 = .ok (.iconst 4, 1)) ∧ (decode cL_law 485 = .ok (.iadd, 1)) ∧ (decode cL_law 486 = .ok (.iaload, 1)) ∧ (decode cL_law 487 = .ok (.invokevirtual 68, 3)) := by decide +kernel
theorem dL_law_472 : decode cL_law 472 = .ok (.aload_n 0, 1) := dq_L_law_472.1
theorem dL_law_473 : decode cL_law 473 = .ok (.iload_n 3, 1) := dq_L_law_472.2.1
theorem dL_law_474 : decode cL_law 474 = .ok (.iconst 2, 1) := dq_L_law_472.2.2.1
theorem dL_law_475 : decode cL_law 475 = .ok (.iadd, 1) := dq_L_law_472.2.2.2.1
theorem dL_law_476 : decode cL_law 476 = .ok (.iaload, 1) := dq_L_law_472.2.2.2.2.1
theorem dL_law_477 : decode cL_law 477 = .ok (.aload_n 0, 1) := dq_L_law_472.2.2.2.2.2.1
theorem dL_law_478 : decode cL_law 478 = .ok (.iload_n 3, 1) := dq_L_law_472.2.2.2.2.2.2.1
theorem dL_law_479 : decode cL_law 479 = .ok (.iconst 3, 1) := dq_L_law_472.2.2.2.2.2.2.2.1
theorem dL_law_480 : decode cL_law 480 = .ok (.iadd, 1) := dq_L_law_472.2.2.2.2.2.2.2.2.1
theorem dL_law_481 : decode cL_law 481 = .ok (.iaload, 1) := dq_L_law_472.2.2.2.2.2.2.2.2.2.1
theorem dL_law_482 : decode cL_law 482 = .ok (.aload_n 0, 1) := dq_L_law_472.2.2.2.2.2.2.2.2.2.2.1
theorem dL_law_483 : decode cL_law 483 = .ok (.iload_n 3, 1) := dq_L_law_472.2.2.2.2.2.2.2.2.2.2.2.1
theorem dL_law_484 : decode cL_law 484 = .ok (.iconst 4, 1) := dq_L_law_472.2.2.2.2.2.2.2.2.2.2.2.2.1
theorem dL_law_485 : decode cL_law 485 = .ok (.iadd, 1) := dq_L_law_472.2.2.2.2.2.2.2.2.2.2.2.2.2.1
theorem dL_law_486 : decode cL_law 486 = .ok (.iaload, 1) := dq_L_law_472.2.2.2.2.2.2.2.2.2.2.2.2.2.2.1
theorem dL_law_487 : decode cL_law 487 = .ok (.invokevirtual 68, 3) := dq_L_law_472.2.2.2.2.2.2.2.2.2.2.2.2.2.2.2
theorem dq_L_law_490 : (decode cL_law 490 = .ok (.pop, 1)) ∧ (decode cL_law 491 = .ok (.aload_n 2, 1)) ∧ (decode cL_law 492 = .ok (.aload_n 0, 1)) ∧ (decode cL_law 493 = .ok (.iload_n 3, 1)) ∧ (decode cL_law 494 = .ok (.iconst 1, 1)) ∧ (decode cL_law 495 = .ok (.iadd, 1)) ∧ (decode cL_law 496 = .ok (.iaload, 1)) ∧ (decode cL_law 497 = .ok (.aload_n 0, 1)) ∧ (decode cL_law 498 = .ok (.iload_n 3, 1)) ∧ (decode cL_law 499 = .ok (.iconst 2, 1)) ∧ (decode cL_law 500 = .ok (.iadd, 1)) ∧ (decode cL_law 501 = .ok (.iaload, 1)) ∧ (decode cL_law 502 = .ok (.aload_n 0, 1)) ∧ (decode cL_law 503 = .ok (.iload_n 3, 1)) ∧ (decode cL_law 504 = .ok (.iconst 3, 1)) ∧ (decode cL_law 505 = .ok (.iadd, 1)) := by decide +kernel
theorem dL_law_490 : decode cL_law 490 = .ok (.pop, 1) := dq_L_law_490.1
theorem dL_law_491 : decode cL_law 491 = .ok (.aload_n 2, 1) := dq_L_law_490.2.1
theorem dL_law_492 : decode cL_law 492 = .ok (.aload_n 0, 1) := dq_L_law_490.2.2.1
theorem dL_law_493 : decode cL_law 493 = .ok (.iload_n 3, 1) := dq_L_law_490.2.2.2.1
theorem dL_law_494 : decode cL_law 494 = .ok (.iconst 1, 1) := dq_L_law_490.2.2.2.2.1
theorem dL_law_495 : decode cL_law 495 = .ok (.iadd, 1) := dq_L_law_490.2.2.2.2.2.1
theorem dL_law_496 : decode cL_law 496 = .ok (.iaload, 1) := dq_L_law_490.2.2.2.2.2.2.1
theorem dL_law_497 : decode cL_law 497 = .ok (.aload_n 0, 1) := dq_L_law_490.2.2.2.2.2.2.2.1
theorem dL_law_498 : decode cL_law 498 = .ok (.iload_n 3, 1) := dq_L_law_490.2.2.2.2.2.2.2.2.1
theorem dL_law_499 : decode cL_law 499 = .ok (.iconst 2, 1) := dq_L_law_490.2.2.2.2.2.2.2.2.2.1
theorem dL_law_500 : decode cL_law 500 = .ok (.iadd, 1) := dq_L_law_490.2.2.2.2.2.2.2.2.2.2.1
theorem dL_law_501 : decode cL_law 501 = .ok (.iaload, 1) := dq_L_law_490.2.2.2.2.2.2.2.2.2.2.2.1
theorem dL_law_502 : decode cL_law 502 = .ok (.aload_n 0, 1) := dq_L_law_490.2.2.2.2.2.2.2.2.2.2.2.2.1
theorem dL_law_503 : decode cL_law 503 = .ok (.iload_n 3, 1) := dq_L_law_490.2.2.2.2.2.2.2.2.2.2.2.2.2.1
theorem dL_law_504 : decode cL_law 504 = .ok (.iconst 3, 1) := dq_L_law_490.2.2.2.2.2.2.2.2.2.2.2.2.2.2.1
theorem dL_law_505 : decode cL_law 505 = .ok (.iadd, 1) := dq_L_law_490.2.2.2.2.2.2.2.2.2.2.2.2.2.2.2
theorem dq_L_law_506 : (decode cL_law 506 = .ok (.iaload, 1)) ∧ (decode cL_law 507 = .ok (.aload_n 0, 1)) ∧ (decode cL_law 508 = .ok (.iload_n 3, 1)) ∧ (decode cL_law 509 = .ok (.iconst 4, 1)) ∧ (decode cL_law 510 = .ok (.iadd, 1)) ∧ (decode cL_law 511 = .ok (.iaload, 1)) ∧ (decode cL_law 512 = .ok (.invokevirtual 70, 3)) ∧ (decode cL_law 515 = .ok (.pop, 1)) ∧ (decode cL_law 516 = .ok (.goto 284, 3)) ∧ (decode cL_law 519 = .ok (.aload_n 1, 1)) ∧ (decode cL_law 520 = .ok (.aload_n 0, 1)) ∧ (decode cL_law 521 = .ok (.iload_n 3, 1)) ∧ (decode cL_law 522 = .ok (.iconst 1, 1)) ∧ (decode cL_law 523 = .ok (.iadd, 1)) ∧ (decode cL_law 524 = .ok (.iaload, 1)) ∧ (decode cL_law 525 = .ok (.aload_n 0, 1)) := by decide +kernel
theorem dL_law_506 : decode cL_law 506 = .ok (.iaload, 1) := dq_L_law_506.1
theorem dL_law_507 : decode cL_law 507 = .ok (.aload_n 0, 1) := dq_L_law_506.2.1
theorem dL_law_508 : decode cL_law 508 = .ok (.iload_n 3, 1) := dq_L_law_506.2.2.1
theorem dL_law_509 : decode cL_law 509 = .ok (.iconst 4, 1) := dq_L_law_506.2.2.2.1
theorem dL_law_510 : decode cL_law 510 = .ok (.iadd, 1) := dq_L_law_506.2.2.2.2.1
theorem dL_law_511 : decode cL_law 511 = .ok (.iaload, 1) := dq_L_law_506.2.2.2.2.2.1
theorem dL_law_512 : decode cL_law 512 = .ok (.invokevirtual 70, 3) := dq_L_law_506.2.2.2.2.2.2.1
theorem dL_law_515 : decode cL_law 515 = .ok (.pop, 1) := dq_L_law_506.2.2.2.2.2.2.2.1
theorem dL_law_516 : decode cL_law 516 = .ok (.goto 284, 3) := dq_L_law_506.2.2.2.2.2.2.2.2.1
theorem dL_law_519 : decode cL_law 519 = .ok (.aload_n 1, 1) := dq_L_law_506.2.2.2.2.2.2.2.2.2.1
theorem dL_law_520 : decode cL_law 520 = .ok (.aload_n 0, 1) := dq_L_law_506.2.2.2.2.2.2.2.2.2.2.1
theorem dL_law_521 : decode cL_law 521 = .ok (.iload_n 3, 1) := dq_L_law_506.2.2.2.2.2.2.2.2.2.2.2.1
theorem dL_law_522 : decode cL_law 522 = .ok (.iconst 1, 1) := dq_L_law_506.2.2.2.2.2.2.2.2.2.2.2.2.1
theorem dL_law_523 : decode cL_law 523 = .ok (.iadd, 1) := dq_L_law_506.2.2.2.2.2.2.2.2.2.2.2.2.2.1
theorem dL_law_524 : decode cL_law 524 = .ok (.iaload, 1) := dq_L_law_506.2.2.2.2.2.2.2.2.2.2.2.2.2.2.1
theorem dL_law_525 : decode cL_law 525 = .ok (.aload_n 0, 1) := dq_L_law_506.2.2.2.2.2.2.2.2.2.2.2.2.2.2.2
theorem dq_L_law_526 : (decode cL_law 526 = .ok (.iload_n 3, 1)) ∧ (decode cL_law 527 = .ok (.iconst 2, 1)) ∧ (decode cL_law 528 = .ok (.iadd, 1)) ∧ (decode cL_law 529 = .ok (.iaload, 1)) ∧ (decode cL_law 530 = .ok (.aload_n 0, 1)) ∧ (decode cL_law 531 = .ok (.iload_n 3, 1)) ∧ (decode cL_law 532 = .ok (.iconst 3, 1)) ∧ (decode cL_law 533 = .ok (.iadd, 1)) ∧ (decode cL_law 534 = .ok (.iaload, 1)) ∧ (decode cL_law 535 = .ok (.invokevirtual 71, 3)) ∧ (decode cL_law 538 = .ok (.pop, 1)) ∧ (decode cL_law 539 = .ok (.aload_n 2, 1)) ∧ (decode cL_law 540 = .ok (.aload_n 0, 1)) ∧ (decode cL_law 541 = .ok (.iload_n 3, 1)) ∧ (decode cL_law 542 = .ok (.iconst 1, 1)) ∧ (decode cL_law 543 = .ok (.iadd, 1)) := by decide +kernel
theorem dL_law_526 : decode cL_law 526 = .ok (.iload_n 3, 1) := dq_L_law_526.1
theorem dL_law_527 : decode cL_law 527 = .ok (.iconst 2, 1) := dq_L_law_526.2.1
theorem dL_law_528 : decode cL_law 528 = .ok (.iadd, 1) := dq_L_law_526.2.2.1
theorem dL_law_529 : decode cL_law 529 = .ok (.iaload, 1) := dq_L_law_526.2.2.2.1
theorem dL_law_530 : decode cL_law 530 = .ok (.aload_n 0, 1) := dq_L_law_526.2.2.2.2.1
theorem dL_law_531 : decode cL_law 531 = .ok (.iload_n 3, 1) := dq_L_law_526.2.2.2.2.2.1
theorem dL_law_532 : decode cL_law 532 = .ok (.iconst 3, 1) := dq_L_law_526.2.2.2.2.2.2.1
theorem dL_law_533 : decode cL_law 533 = .ok (.iadd, 1) := dq_L_law_526.2.2.2.2.2.2.2.1
theorem dL_law_534 : decode cL_law 534 = .ok (.iaload, 1) := dq_L_law_526.2.2.2.2.2.2.2.2.1
theorem dL_law_535 : decode cL_law 535 = .ok (.invokevirtual 71, 3) := dq_L_law_526.2.2.2.2.2.2.2.2.2.1
theorem dL_law_538 : decode cL_law 538 = .ok (.pop, 1) := dq_L_law_526.2.2.2.2.2.2.2.2.2.2.1
theorem dL_law_539 : decode cL_law 539 = .ok (.aload_n 2, 1) := dq_L_law_526.2.2.2.2.2.2.2.2.2.2.2.1
theorem dL_law_540 : decode cL_law 540 = .ok (.aload_n 0, 1) := dq_L_law_526.2.2.2.2.2.2.2.2.2.2.2.2.1
theorem dL_law_541 : decode cL_law 541 = .ok (.iload_n 3, 1) := dq_L_law_526.2.2.2.2.2.2.2.2.2.2.2.2.2.1
theorem dL_law_542 : decode cL_law 542 = .ok (.iconst 1, 1) := dq_L_law_526.2.2.2.2.2.2.2.2.2.2.2.2.2.2.1
theorem dL_law_543 : decode cL_law 543 = .ok (.iadd, 1) := dq_L_law_526.2.2.2.2.2.2.2.2.2.2.2.2.2.2.2
theorem dq_L_law_544 : (decode cL_law 544 = .ok (.iaload, 1)) ∧ (decode cL_law 545 = .ok (.aload_n 0, 1)) ∧ (decode cL_law 546 = .ok (.iload_n 3, 1)) ∧ (decode cL_law 547 = .ok (.iconst 2, 1)) ∧ (decode cL_law 548 = .ok (.iadd, 1)) ∧ (decode cL_law 549 = .ok (.iaload, 1)) ∧ (decode cL_law 550 = .ok (.aload_n 0, 1)) ∧ (decode cL_law 551 = .ok (.iload_n 3, 1)) ∧ (decode cL_law 552 = .ok (.iconst 3, 1)) ∧ (decode cL_law 553 = .ok (.iadd, 1)) ∧ (decode cL_law 554 = .ok (.iaload, 1)) ∧ (decode cL_law 555 = .ok (.invokevirtual 75, 3)) ∧ (decode cL_law 558 = .ok (.pop, 1)) ∧ (decode cL_law 559 = .ok (.goto 241, 3)) ∧ (decode cL_law 562 = .ok (.aload_n 1, 1)) ∧ (decode cL_law 563 = .ok (.aload_n 0, 1)) := by decide +kernel
theorem dL_law_544 : decode cL_law 544 = .ok (.iaload, 1) := dq_L_law_544.1
theorem dL_law_545 : decode cL_law 545 = .ok (.aload_n 0, 1) := dq_L_law_544.2.1
theorem dL_law_546 : decode cL_law 546 = .ok (.iload_n 3, 1) := dq_L_law_544.2.2.1
theorem dL_law_547 : decode cL_law 547 = .ok (.iconst 2, 1) := dq_L_law_544.2.2.2.1
theorem dL_law_548 : decode cL_law 548 = .ok (.iadd, 1) := dq_L_law_544.2.2.2.2.1
theorem dL_law_549 : decode cL_law 549 = .ok (.iaload, 1) := dq_L_law_544.2.2.2.2.2.1
theorem dL_law_550 : decode cL_law 550 = .ok (.aload_n 0, 1) := dq_L_law_544.2.2.2.2.2.2.1
theorem dL_law_551 : decode cL_law 551 = .ok (.iload_n 3, 1) := dq_L_law_544.2.2.2.2.2.2.2.1
theorem dL_law_552 : decode cL_law 552 = .ok (.iconst 3, 1) := dq_L_law_544.2.2.2.2.2.2.2.2.1
theorem dL_law_553 : decode cL_law 553 = .ok (.iadd, 1) := dq_L_law_544.2.2.2.2.2.2.2.2.2.1
theorem dL_law_554 : decode cL_law 554 = .ok (.iaload, 1) := dq_L_law_544.2.2.2.2.2.2.2.2.2.2.1
theorem dL_law_555 : decode cL_law 555 = .ok (.invokevirtual 75, 3) := dq_L_law_544.2.2.2.2.2.2.2.2.2.2.2.1
theorem dL_law_558 : decode cL_law 558 = .ok (.pop, 1) := dq_L_law_544.2.2.2.2.2.2.2.2.2.2.2.2.1
theorem dL_law_559 : decode cL_law 559 = .ok (.goto 241, 3) := dq_L_law_544.2.2.2.2.2.2.2.2.2.2.2.2.2.1
theorem dL_law_562 : decode cL_law 562 = .ok (.aload_n 1, 1) := dq_L_law_544.2.2.2.2.2.2.2.2.2.2.2.2.2.2.1
theorem dL_law_563 : decode cL_law 563 = .ok (.aload_n 0, 1) := dq_L_law_544.2.2.2.2.2.2.2.2.2.2.2.2.2.2.2
theorem dq_L_law_564 : (decode cL_law 564 = .ok (.iload_n 3, 1)) ∧ (decode cL_law 565 = .ok (.iconst 1, 1)) ∧ (decode cL_law 566 = .ok (.iadd, 1)) ∧ (decode cL_law 567 = .ok (.iaload, 1)) ∧ (decode cL_law 568 = .ok (.aload_n 0, 1)) ∧ (decode cL_law 569 = .ok (.iload_n 3, 1)) ∧ (decode cL_law 570 = .ok (.iconst 2, 1)) ∧ (decode cL_law 571 = .ok (.iadd, 1)) ∧ (decode cL_law 572 = .ok (.iaload, 1)) ∧ (decode cL_law 573 = .ok (.invokevirtual 76, 3)) ∧ (decode cL_law 576 = .ok (.pop, 1)) ∧ (decode cL_law 577 = .ok (.aload_n 2, 1)) ∧ (decode cL_law 578 = .ok (.aload_n 0, 1)) ∧ (decode cL_law 579 = .ok (.iload_n 3, 1)) ∧ (decode cL_law 580 = .ok (.iconst 1, 1)) ∧ (decode cL_law 581 = .ok (.iadd, 1)) := by decide +kernel
theorem dL_law_564 : decode cL_law 564 = .ok (.iload_n 3, 1) := dq_L_law_564.1
theorem dL_law_565 : decode cL_law 565 = .ok (.iconst 1, 1) := dq_L_law_564.2.1
theorem dL_law_566 : decode cL_law 566 = .ok (.iadd, 1) := dq_L_law_564.2.2.1
theorem dL_law_567 : decode cL_law 567 = .ok (.iaload, 1) := dq_L_law_564.2.2.2.1
theorem dL_law_568 : decode cL_law 568 = .ok (.aload_n 0, 1) := dq_L_law_564.2.2.2.2.1
theorem dL_law_569 : decode cL_law 569 = .ok (.iload_n 3, 1) := dq_L_law_564.2.2.2.2.2.1
theorem dL_law_570 : decode cL_law 570 = .ok (.iconst 2, 1) := dq_L_law_564.2.2.2.2.2.2.1
theorem dL_law_571 : decode cL_law 571 = .ok (.iadd, 1) := dq_L_law_564.2.2.2.2.2.2.2.1
theorem dL_law_572 : decode cL_law 572 = .ok (.iaload, 1) := dq_L_law_564.2.2.2.2.2.2.2.2.1
theorem dL_law_573 : decode cL_law 573 = .ok (.invokevirtual 76, 3) := dq_L_law_564.2.2.2.2.2.2.2.2.2.1
theorem dL_law_576 : decode cL_law 576 = .ok (.pop, 1) := dq_L_law_564.2.2.2.2.2.2.2.2.2.2.1
theorem dL_law_577 : decode cL_law 577 = .ok (.aload_n 2, 1) := dq_L_law_564.2.2.2.2.2.2.2.2.2.2.2.1
theorem dL_law_578 : decode cL_law 578 = .ok (.aload_n 0, 1) := dq_L_law_564.2.2.2.2.2.2.2.2.2.2.2.2.1
theorem dL_law_579 : decode cL_law 579 = .ok (.iload_n 3, 1) := dq_L_law_564.2.2.2.2.2.2.2.2.2.2.2.2.2.1
theorem dL_law_580 : decode cL_law 580 = .ok (.iconst 1, 1) := dq_L_law_564.2.2.2.2.2.2.2.2.2.2.2.2.2.2.1
theorem dL_law_581 : decode cL_law 581 = .ok (.iadd, 1) := dq_L_law_564.2.2.2.2.2.2.2.2.2.2.2.2.2.2.2
theorem dq_L_law_582 : (decode cL_law 582 = .ok (.iaload, 1)) ∧ (decode cL_law 583 = .ok (.aload_n 0, 1)) ∧ (decode cL_law 584 = .ok (.iload_n 3, 1)) ∧ (decode cL_law 585 = .ok (.iconst 2, 1)) ∧ (decode cL_law 586 = .ok (.iadd, 1)) ∧ (decode cL_law 587 = .ok (.iaload, 1)) ∧ (decode cL_law 588 = .ok (.invokevirtual 80, 3)) ∧ (decode cL_law 591 = .ok (.pop, 1)) ∧ (decode cL_law 592 = .ok (.goto 208, 3)) ∧ (decode cL_law 595 = .ok (.aload_n 1, 1)) ∧ (decode cL_law 596 = .ok (.aload_n 0, 1)) ∧ (decode cL_law 597 = .ok (.iload_n 3, 1)) ∧ (decode cL_law 598 = .ok (.iconst 1, 1)) ∧ (decode cL_law 599 = .ok (.iadd, 1)) ∧ (decode cL_law 600 = .ok (.iaload, 1)) ∧ (decode cL_law 601 = .ok (.aload_n 0, 1)) := by decide +kernel
theorem dL_law_582 : decode cL_law 582 = .ok (.iaload, 1) := dq_L_law_582.1
theorem dL_law_583 : decode cL_law 583 = .ok (.aload_n 0, 1) := dq_L_law_582.2.1
theorem dL_law_584 : decode cL_law 584 = .ok (.iload_n 3, 1) := dq_L_law_582.2.2.1
theorem dL_law_585 : decode cL_law 585 = .ok (.iconst 2, 1) := dq_L_law_582.2.2.2.1
theorem dL_law_586 : decode cL_law 586 = .ok (.iadd, 1) := dq_L_law_582.2.2.2.2.1
theorem dL_law_587 : decode cL_law 587 = .ok (.iaload, 1) := dq_L_law_582.2.2.2.2.2.1
theorem dL_law_588 : decode cL_law 588 = .ok (.invokevirtual 80, 3) := dq_L_law_582.2.2.2.2.2.2.1
theorem dL_law_591 : decode cL_law 591 = .ok (.pop, 1) := dq_L_law_582.2.2.2.2.2.2.2.1
theorem dL_law_592 : decode cL_law 592 = .ok (.goto 208, 3) := dq_L_law_582.2.2.2.2.2.2.2.2.1
theorem dL_law_595 : decode cL_law 595 = .ok (.aload_n 1, 1) := dq_L_law_582.2.2.2.2.2.2.2.2.2.1
theorem dL_law_596 : decode cL_law 596 = .ok (.aload_n 0, 1) := dq_L_law_582.2.2.2.2.2.2.2.2.2.2.1
theorem dL_law_597 : decode cL_law 597 = .ok (.iload_n 3, 1) := dq_L_law_582.2.2.2.2.2.2.2.2.2.2.2.1
theorem dL_law_598 : decode cL_law 598 = .ok (.iconst 1, 1) := dq_L_law_582.2.2.2.2.2.2.2.2.2.2.2.2.1
theorem dL_law_599 : decode cL_law 599 = .ok (.iadd, 1) := dq_L_law_582.2.2.2.2.2.2.2.2.2.2.2.2.2.1
theorem dL_law_600 : decode cL_law 600 = .ok (.iaload, 1) := dq_L_law_582.2.2.2.2.2.2.2.2.2.2.2.2.2.2.1
theorem dL_law_601 : decode cL_law 601 = .ok (.aload_n 0, 1) := dq_L_law_582.2.2.2.2.2.2.2.2.2.2.2.2.2.2.2
theorem dq_L_law_602 : (decode cL_law 602 = .ok (.iload_n 3, 1)) ∧ (decode cL_law 603 = .ok (.iconst 2, 1)) ∧ (decode cL_law 604 = .ok (.iadd, 1)) ∧ (decode cL_law 605 = .ok (.iaload, 1)) ∧ (decode cL_law 606 = .ok (.invokevirtual 81, 3)) ∧ (decode cL_law 609 = .ok (.aload_n 2, 1)) ∧ (decode cL_law 610 = .ok (.aload_n 0, 1)) ∧ (decode cL_law 611 = .ok (.iload_n 3, 1)) ∧ (decode cL_law 612 = .ok (.iconst 1, 1)) ∧ (decode cL_law 613 = .ok (.iadd, 1)) ∧ (decode cL_law 614 = .ok (.iaload, 1)) ∧ (decode cL_law 615 = .ok (.aload_n 0, 1)) ∧ (decode cL_law 616 = .ok (.iload_n 3, 1)) ∧ (decode cL_law 617 = .ok (.iconst 2, 1)) ∧ (decode cL_law 618 = .ok (.iadd, 1)) ∧ (decode cL_law 619 = .ok (.iaload, 1)) := by decide +kernel
theorem dL_law_602 : decode cL_law 602 = .ok (.iload_n 3, 1) := dq_L_law_602.1
theorem dL_law_603 : decode cL_law 603 = .ok (.iconst 2, 1) := dq_L_law_602.2.1
theorem dL_law_604 : decode cL_law 604 = .ok (.iadd, 1) := dq_L_law_602.2.2.1
theorem dL_law_605 : decode cL_law 605 = .ok (.iaload, 1) := dq_L_law_602.2.2.2.1
theorem dL_law_606 : decode cL_law 606 = .ok (.invokevirtual 81, 3) := dq_L_law_602.2.2.2.2.1
theorem dL_law_609 : decode cL_law 609 = .ok (.aload_n 2, 1) := dq_L_law_602.2.2.2.2.2.1
theorem dL_law_610 : decode cL_law 610 = .ok (.aload_n 0, 1) := dq_L_law_602.2.2.2.2.2.2.1
theorem dL_law_611 : decode cL_law 611 = .ok (.iload_n 3, 1) := dq_L_law_602.2.2.2.2.2.2.2.1
theorem dL_law_612 : decode cL_law 612 = .ok (.iconst 1, 1) := dq_L_law_602.2.2.2.2.2.2.2.2.1
theorem dL_law_613 : decode cL_law 613 = .ok (.iadd, 1) := dq_L_law_602.2.2.2.2.2.2.2.2.2.1
theorem dL_law_614 : decode cL_law 614 = .ok (.iaload, 1) := dq_L_law_602.2.2.2.2.2.2.2.2.2.2.1
theorem dL_law_615 : decode cL_law 615 = .ok (.aload_n 0, 1) := dq_L_law_602.2.2.2.2.2.2.2.2.2.2.2.1
theorem dL_law_616 : decode cL_law 616 = .ok (.iload_n 3, 1) := dq_L_law_602.2.2.2.2.2.2.2.2.2.2.2.2.1
theorem dL_law_617 : decode cL_law 617 = .ok (.iconst 2, 1) := dq_L_law_602.2.2.2.2.2.2.2.2.2.2.2.2.2.1
theorem dL_law_618 : decode cL_law 618 = .ok (.iadd, 1) := dq_L_law_602.2.2.2.2.2.2.2.2.2.2.2.2.2.2.1
theorem dL_law_619 : decode cL_law 619 = .ok (.iaload, 1) := dq_L_law_602.2.2.2.2.2.2.2.2.2.2.2.2.2.2.2
theorem dq_L_law_620 : (decode cL_law 620 = .ok (.invokevirtual 84, 3)) ∧ (decode cL_law 623 = .ok (.if_icmp .eq 177, 3)) ∧ (decode cL_law 626 = .ok (.iconst 0, 1)) ∧ (decode cL_law 627 = .ok (.ireturn, 1)) ∧ (decode cL_law 628 = .ok (.aload_n 1, 1)) ∧ (decode cL_law 629 = .ok (.invokevirtual 85, 3)) ∧ (decode cL_law 632 = .ok (.aload_n 2, 1)) ∧ (decode cL_law 633 = .ok (.invokevirtual 88, 3)) ∧ (decode cL_law 636 = .ok (.goto 164, 3)) ∧ (decode cL_law 639 = .ok (.aload_n 1, 1)) ∧ (decode cL_law 640 = .ok (.aload_n 0, 1)) ∧ (decode cL_law 641 = .ok (.iload_n 3, 1)) ∧ (decode cL_law 642 = .ok (.iconst 1, 1)) ∧ (decode cL_law 643 = .ok (.iadd, 1)) ∧ (decode cL_law 644 = .ok (.iaload, 1)) ∧ (decode cL_law 645 = .ok (.aload_n 0, 1)) := by decide +kernel
theorem dL_law_620 : decode cL_law 620 = .ok (.invokevirtual 84, 3) := dq_L_law_620.1
theorem dL_law_623 : decode cL_law 623 = .ok (.if_icmp .eq 177, 3) := dq_L_law_620.2.1
theorem dL_law_626 : decode cL_law 626 = .ok (.iconst 0, 1) := dq_L_law_620.2.2.1
theorem dL_law_627 : decode cL_law 627 = .ok (.ireturn, 1) := dq_L_law_620.2.2.2.1
theorem dL_law_628 : decode cL_law 628 = .ok (.aload_n 1, 1) := dq_L_law_620.2.2.2.2.1
theorem dL_law_629 : decode cL_law 629 = .ok (.invokevirtual 85, 3) := dq_L_law_620.2.2.2.2.2.1
theorem dL_law_632 : decode cL_law 632 = .ok (.aload_n 2, 1) := dq_L_law_620.2.2.2.2.2.2.1
theorem dL_law_633 : decode cL_law 633 = .ok (.invokevirtual 88, 3) := dq_L_law_620.2.2.2.2.2.2.2.1
theorem dL_law_636 : decode cL_law 636 = .ok (.goto 164, 3) := dq_L_law_620.2.2.2.2.2.2.2.2.1
theorem dL_law_639 : decode cL_law 639 = .ok (.aload_n 1, 1) := dq_L_law_620.2.2.2.2.2.2.2.2.2.1
theorem dL_law_640 : decode cL_law 640 = .ok (.aload_n 0, 1) := dq_L_law_620.2.2.2.2.2.2.2.2.2.2.1
theorem dL_law_641 : decode cL_law 641 = .ok (.iload_n 3, 1) := dq_L_law_620.2.2.2.2.2.2.2.2.2.2.2.1
theorem dL_law_642 : decode cL_law 642 = .ok (.iconst 1, 1) := dq_L_law_620.2.2.2.2.2.2.2.2.2.2.2.2.1
theorem dL_law_643 : decode cL_law 643 = .ok (.iadd, 1) := dq_L_law_620.2.2.2.2.2.2.2.2.2.2.2.2.2.1
theorem dL_law_644 : decode cL_law 644 = .ok (.iaload, 1) := dq_L_law_620.2.2.2.2.2.2.2.2.2.2.2.2.2.2.1
theorem dL_law_645 : decode cL_law 645 = .ok (.aload_n 0, 1) := dq_L_law_620.2.2.2.2.2.2.2.2.2.2.2.2.2.2.2
theorem dq_L_law_646 : (decode cL_law 646 = .ok (.iload_n 3, 1)) ∧ (decode cL_law 647 = .ok (.iconst 2, 1)) ∧ (decode cL_law 648 = .ok (.iadd, 1)) ∧ (decode cL_law 649 = .ok (.iaload, 1)) ∧ (decode cL_law 650 = .ok (.ifCond .eq 7, 3)) ∧ (decode cL_law 653 = .ok (.iconst 1, 1)) ∧ (decode cL_law 654 = .ok (.goto 4, 3)) ∧ (decode cL_law 657 = .ok (.iconst 0, 1)) ∧ (decode cL_law 658 = .ok (.invokevirtual 89, 3)) ∧ (decode cL_law 661 = .ok (.pop, 1)) ∧ (decode cL_law 662 = .ok (.aload_n 2, 1)) ∧ (decode cL_law 663 = .ok (.aload_n 0, 1)) ∧ (decode cL_law 664 = .ok (.iload_n 3, 1)) ∧ (decode cL_law 665 = .ok (.iconst 1, 1)) ∧ (decode cL_law 666 = .ok (.iadd, 1)) ∧ (decode cL_law 667 = .ok (.iaload, 1)) := by decide +kernel
theorem dL_law_646 : decode cL_law 646 = .ok (.iload_n 3, 1) := dq_L_law_646.1
theorem dL_law_647 : decode cL_law 647 = .ok (.iconst 2, 1) := dq_L_law_646.2.1
theorem dL_law_648 : decode cL_law 648 = .ok (.iadd, 1) := dq_L_law_646.2.2.1
theorem dL_law_649 : decode cL_law 649 = .ok (.iaload, 1) := dq_L_law_646.2.2.2.1
theorem dL_law_650 : decode cL_law 650 = .ok (.ifCond .eq 7, 3) := dq_L_law_646.2.2.2.2.1
theorem dL_law_653 : decode cL_law 653 = .ok (.iconst 1, 1) := dq_L_law_646.2.2.2.2.2.1
theorem dL_law_654 : decode cL_law 654 = .ok (.goto 4, 3) := dq_L_law_646.2.2.2.2.2.2.1
theorem dL_law_657 : decode cL_law 657 = .ok (.iconst 0, 1) := dq_L_law_646.2.2.2.2.2.2.2.1
theorem dL_law_658 : decode cL_law 658 = .ok (.invokevirtual 89, 3) := dq_L_law_646.2.2.2.2.2.2.2.2.1
theorem dL_law_661 : decode cL_law 661 = .ok (.pop, 1) := dq_L_law_646.2.2.2.2.2.2.2.2.2.1
theorem dL_law_662 : decode cL_law 662 = .ok (.aload_n 2, 1) := dq_L_law_646.2.2.2.2.2.2.2.2.2.2.1
theorem dL_law_663 : decode cL_law 663 = .ok (.aload_n 0, 1) := dq_L_law_646.2.2.2.2.2.2.2.2.2.2.2.1
theorem dL_law_664 : decode cL_law 664 = .ok (.iload_n 3, 1) := dq_L_law_646.2.2.2.2.2.2.2.2.2.2.2.2.1
theorem dL_law_665 : decode cL_law 665 = .ok (.iconst 1, 1) := dq_L_law_646.2.2.2.2.2.2.2.2.2.2.2.2.2.1
theorem dL_law_666 : decode cL_law 666 = .ok (.iadd, 1) := dq_L_law_646.2.2.2.2.2.2.2.2.2.2.2.2.2.2.1
theorem dL_law_667 : decode cL_law 667 = .ok (.iaload, 1) := dq_L_law_646.2.2.2.2.2.2.2.2.2.2.2.2.2.2.2
theorem dq_L_law_668 : (decode cL_law 668 = .ok (.aload_n 0, 1)) ∧ (decode cL_law 669 = .ok (.iload_n 3, 1)) ∧ (decode cL_law 670 = .ok (.iconst 2, 1)) ∧ (decode cL_law 671 = .ok (.iadd, 1)) ∧ (decode cL_law 672 = .ok (.iaload, 1)) ∧ (decode cL_law 673 = .ok (.ifCond .eq 7, 3)) ∧ (decode cL_law 676 = .ok (.iconst 1, 1)) ∧ (decode cL_law 677 = .ok (.goto 4, 3)) ∧ (decode cL_law 680 = .ok (.iconst 0, 1)) ∧ (decode cL_law 681 = .ok (.invokevirtual 93, 3)) ∧ (decode cL_law 684 = .ok (.pop, 1)) ∧ (decode cL_law 685 = .ok (.goto 115, 3)) ∧ (decode cL_law 688 = .ok (.aload_n 1, 1)) ∧ (decode cL_law 689 = .ok (.aload_n 0, 1)) ∧ (decode cL_law 690 = .ok (.iload_n 3, 1)) ∧ (decode cL_law 691 = .ok (.iconst 1, 1)) := by decide +kernel
theorem dL_law_668 : decode cL_law 668 = .ok (.aload_n 0, 1) := dq_L_law_668.1
theorem dL_law_669 : decode cL_law 669 = .ok (.iload_n 3, 1) := dq_L_law_668.2.1
theorem dL_law_670 : decode cL_law 670 = .ok (.iconst 2, 1) := dq_L_law_668.2.2.1
theorem dL_law_671 : decode cL_law 671 = .ok (.iadd, 1) := dq_L_law_668.2.2.2.1
theorem dL_law_672 : decode cL_law 672 = .ok (.iaload, 1) := dq_L_law_668.2.2.2.2.1
theorem dL_law_673 : decode cL_law 673 = .ok (.ifCond .eq 7, 3) := dq_L_law_668.2.2.2.2.2.1
theorem dL_law_676 : decode cL_law 676 = .ok (.iconst 1, 1) := dq_L_law_668.2.2.2.2.2.2.1
theorem dL_law_677 : decode cL_law 677 = .ok (.goto 4, 3) := dq_L_law_668.2.2.2.2.2.2.2.1
theorem dL_law_680 : decode cL_law 680 = .ok (.iconst 0, 1) := dq_L_law_668.2.2.2.2.2.2.2.2.1
theorem dL_law_681 : decode cL_law 681 = .ok (.invokevirtual 93, 3) := dq_L_law_668.2.2.2.2.2.2.2.2.2.1
theorem dL_law_684 : decode cL_law 684 = .ok (.pop, 1) := dq_L_law_668.2.2.2.2.2.2.2.2.2.2.1
theorem dL_law_685 : decode cL_law 685 = .ok (.goto 115, 3) := dq_L_law_668.2.2.2.2.2.2.2.2.2.2.2.1
theorem dL_law_688 : decode cL_law 688 = .ok (.aload_n 1, 1) := dq_L_law_668.2.2.2.2.2.2.2.2.2.2.2.2.1
theorem dL_law_689 : decode cL_law 689 = .ok (.aload_n 0, 1) := dq_L_law_668.2.2.2.2.2.2.2.2.2.2.2.2.2.1
theorem dL_law_690 : decode cL_law 690 = .ok (.iload_n 3, 1) := dq_L_law_668.2.2.2.2.2.2.2.2.2.2.2.2.2.2.1
theorem dL_law_691 : decode cL_law 691 = .ok (.iconst 1, 1) := dq_L_law_668.2.2.2.2.2.2.2.2.2.2.2.2.2.2.2
theorem dq_L_law_692 : (decode cL_law 692 = .ok (.iadd, 1)) ∧ (decode cL_law 693 = .ok (.iaload, 1)) ∧ (decode cL_law 694 = .ok (.invokevirtual 94, 3)) ∧ (decode cL_law 697 = .ok (.pop, 1)) ∧ (decode cL_law 698 = .ok (.aload_n 2, 1)) ∧ (decode cL_law 699 = .ok (.aload_n 0, 1)) ∧ (decode cL_law 700 = .ok (.iload_n 3, 1)) ∧ (decode cL_law 701 = .ok (.iconst 1, 1)) ∧ (decode cL_law 702 = .ok (.iadd, 1)) ∧ (decode cL_law 703 = .ok (.iaload, 1)) ∧ (decode cL_law 704 = .ok (.invokevirtual 97, 3)) ∧ (decode cL_law 707 = .ok (.pop, 1)) ∧ (decode cL_law 708 = .ok (.goto 92, 3)) ∧ (decode cL_law 711 = .ok (.aload_n 1, 1)) ∧ (decode cL_law 712 = .ok (.aload_n 0, 1)) ∧ (decode cL_law 713 = .ok (.iload_n 3, 1)) := by decide +kernel
theorem dL_law_692 : decode cL_law 692 = .ok (.iadd, 1) := dq_L_law_692.1
theorem dL_law_693 : decode cL_law 693 = .ok (.iaload, 1) := dq_L_law_692.2.1
theorem dL_law_694 : decode cL_law 694 = .ok (.invokevirtual 94, 3) := dq_L_law_692.2.2.1
theorem dL_law_697 : decode cL_law 697 = .ok (.pop, 1) := dq_L_law_692.2.2.2.1
theorem dL_law_698 : decode cL_law 698 = .ok (.aload_n 2, 1) := dq_L_law_692.2.2.2.2.1
theorem dL_law_699 : decode cL_law 699 = .ok (.aload_n 0, 1) := dq_L_law_692.2.2.2.2.2.1
theorem dL_law_700 : decode cL_law 700 = .ok (.iload_n 3, 1) := dq_L_law_692.2.2.2.2.2.2.1
theorem dL_law_701 : decode cL_law 701 = .ok (.iconst 1, 1) := dq_L_law_692.2.2.2.2.2.2.2.1
theorem dL_law_702 : decode cL_law 702 = .ok (.iadd, 1) := dq_L_law_692.2.2.2.2.2.2.2.2.1
theorem dL_law_703 : decode cL_law 703 = .ok (.iaload, 1) := dq_L_law_692.2.2.2.2.2.2.2.2.2.1
theorem dL_law_704 : decode cL_law 704 = .ok (.invokevirtual 97, 3) := dq_L_law_692.2.2.2.2.2.2.2.2.2.2.1
theorem dL_law_707 : decode cL_law 707 = .ok (.pop, 1) := dq_L_law_692.2.2.2.2.2.2.2.2.2.2.2.1
theorem dL_law_708 : decode cL_law 708 = .ok (.goto 92, 3) := dq_L_law_692.2.2.2.2.2.2.2.2.2.2.2.2.1
theorem dL_law_711 : decode cL_law 711 = .ok (.aload_n 1, 1) := dq_L_law_692.2.2.2.2.2.2.2.2.2.2.2.2.2.1
theorem dL_law_712 : decode cL_law 712 = .ok (.aload_n 0, 1) := dq_L_law_692.2.2.2.2.2.2.2.2.2.2.2.2.2.2.1
theorem dL_law_713 : decode cL_law 713 = .ok (.iload_n 3, 1) := dq_L_law_692.2.2.2.2.2.2.2.2.2.2.2.2.2.2.2
theorem dq_L_law_714 : (decode cL_law 714 = .ok (.iconst 1, 1)) ∧ (decode cL_law 715 = .ok (.iadd, 1)) ∧ (decode cL_law 716 = .ok (.iaload, 1)) ∧ (decode cL_law 717 = .ok (.invokevirtual 98, 3)) ∧ (decode cL_law 720 = .ok (.pop, 1)) ∧ (decode cL_law 721 = .ok (.aload_n 2, 1)) ∧ (decode cL_law 722 = .ok (.aload_n 0, 1)) ∧ (decode cL_law 723 = .ok (.iload_n 3, 1)) ∧ (decode cL_law 724 = .ok (.iconst 1, 1)) ∧ (decode cL_law 725 = .ok (.iadd, 1)) ∧ (decode cL_law 726 = .ok (.iaload, 1)) ∧ (decode cL_law 727 = .ok (.invokevirtual 101, 3)) ∧ (decode cL_law 730 = .ok (.pop, 1)) ∧ (decode cL_law 731 = .ok (.goto 69, 3)) ∧ (decode cL_law 734 = .ok (.aload_n 1, 1)) ∧ (decode cL_law 735 = .ok (.aload_n 0, 1)) := by decide +kernel
theorem dL_law_714 : decode cL_law 714 = .ok (.iconst 1, 1) := dq_L_law_714.1
theorem dL_law_715 : decode cL_law 715 = .ok (.iadd, 1) := dq_L_law_714.2.1
theorem dL_law_716 : decode cL_law 716 = .ok (.iaload, 1) := dq_L_law_714.2.2.1
theorem dL_law_717 : decode cL_law 717 = .ok (.invokevirtual 98, 3) := dq_L_law_714.2.2.2.1
theorem dL_law_720 : decode cL_law 720 = .ok (.pop, 1) := dq_L_law_714.2.2.2.2.1
theorem dL_law_721 : decode cL_law 721 = .ok (.aload_n 2, 1) := dq_L_law_714.2.2.2.2.2.1
theorem dL_law_722 : decode cL_law 722 = .ok (.aload_n 0, 1) := dq_L_law_714.2.2.2.2.2.2.1
theorem dL_law_723 : decode cL_law 723 = .ok (.iload_n 3, 1) := dq_L_law_714.2.2.2.2.2.2.2.1
theorem dL_law_724 : decode cL_law 724 = .ok (.iconst 1, 1) := dq_L_law_714.2.2.2.2.2.2.2.2.1
theorem dL_law_725 : decode cL_law 725 = .ok (.iadd, 1) := dq_L_law_714.2.2.2.2.2.2.2.2.2.1
theorem dL_law_726 : decode cL_law 726 = .ok (.iaload, 1) := dq_L_law_714.2.2.2.2.2.2.2.2.2.2.1
theorem dL_law_727 : decode cL_law 727 = .ok (.invokevirtual 101, 3) := dq_L_law_714.2.2.2.2.2.2.2.2.2.2.2.1
theorem dL_law_730 : decode cL_law 730 = .ok (.pop, 1) := dq_L_law_714.2.2.2.2.2.2.2.2.2.2.2.2.1
theorem dL_law_731 : decode cL_law 731 = .ok (.goto 69, 3) := dq_L_law_714.2.2.2.2.2.2.2.2.2.2.2.2.2.1
theorem dL_law_734 : decode cL_law 734 = .ok (.aload_n 1, 1) := dq_L_law_714.2.2.2.2.2.2.2.2.2.2.2.2.2.2.1
theorem dL_law_735 : decode cL_law 735 = .ok (.aload_n 0, 1) := dq_L_law_714.2.2.2.2.2.2.2.2.2.2.2.2.2.2.2
theorem dq_L_law_736 : (decode cL_law 736 = .ok (.iload_n 3, 1)) ∧ (decode cL_law 737 = .ok (.iconst 1, 1)) ∧ (decode cL_law 738 = .ok (.iadd, 1)) ∧ (decode cL_law 739 = .ok (.iaload, 1)) ∧ (decode cL_law 740 = .ok (.aload_n 0, 1)) ∧ (decode cL_law 741 = .ok (.iload_n 3, 1)) ∧ (decode cL_law 742 = .ok (.iconst 2, 1)) ∧ (decode cL_law 743 = .ok (.iadd, 1)) ∧ (decode cL_law 744 = .ok (.iaload, 1)) ∧ (decode cL_law 745 = .ok (.invokevirtual 102, 3)) ∧ (decode cL_law 748 = .ok (.pop, 1)) ∧ (decode cL_law 749 = .ok (.aload_n 2, 1)) ∧ (decode cL_law 750 = .ok (.aload_n 0, 1)) ∧ (decode cL_law 751 = .ok (.iload_n 3, 1)) ∧ (decode cL_law 752 = .ok (.iconst 1, 1)) ∧ (decode cL_law 753 = .ok (.iadd, 1)) := by decide +kernel
theorem dL_law_736 : decode cL_law 736 = .ok (.iload_n 3, 1) := dq_L_law_736.1
theorem dL_law_737 : decode cL_law 737 = .ok (.iconst 1, 1) := dq_L_law_736.2.1
theorem dL_law_738 : decode cL_law 738 = .ok (.iadd, 1) := dq_L_law_736.2.2.1
theorem dL_law_739 : decode cL_law 739 = .ok (.iaload, 1) := dq_L_law_736.2.2.2.1
theorem dL_law_740 : decode cL_law 740 = .ok (.aload_n 0, 1) := dq_L_law_736.2.2.2.2.1
theorem dL_law_741 : decode cL_law 741 = .ok (.iload_n 3, 1) := dq_L_law_736.2.2.2.2.2.1
theorem dL_law_742 : decode cL_law 742 = .ok (.iconst 2, 1) := dq_L_law_736.2.2.2.2.2.2.1
theorem dL_law_743 : decode cL_law 743 = .ok (.iadd, 1) := dq_L_law_736.2.2.2.2.2.2.2.1
theorem dL_law_744 : decode cL_law 744 = .ok (.iaload, 1) := dq_L_law_736.2.2.2.2.2.2.2.2.1
theorem dL_law_745 : decode cL_law 745 = .ok (.invokevirtual 102, 3) := dq_L_law_736.2.2.2.2.2.2.2.2.2.1
theorem dL_law_748 : decode cL_law 748 = .ok (.pop, 1) := dq_L_law_736.2.2.2.2.2.2.2.2.2.2.1
theorem dL_law_749 : decode cL_law 749 = .ok (.aload_n 2, 1) := dq_L_law_736.2.2.2.2.2.2.2.2.2.2.2.1
theorem dL_law_750 : decode cL_law 750 = .ok (.aload_n 0, 1) := dq_L_law_736.2.2.2.2.2.2.2.2.2.2.2.2.1
theorem dL_law_751 : decode cL_law 751 = .ok (.iload_n 3, 1) := dq_L_law_736.2.2.2.2.2.2.2.2.2.2.2.2.2.1
theorem dL_law_752 : decode cL_law 752 = .ok (.iconst 1, 1) := dq_L_law_736.2.2.2.2.2.2.2.2.2.2.2.2.2.2.1
theorem dL_law_753 : decode cL_law 753 = .ok (.iadd, 1) := dq_L_law_736.2.2.2.2.2.2.2.2.2.2.2.2.2.2.2
theorem dq_L_law_754 : (decode cL_law 754 = .ok (.iaload, 1)) ∧ (decode cL_law 755 = .ok (.aload_n 0, 1)) ∧ (decode cL_law 756 = .ok (.iload_n 3, 1)) ∧ (decode cL_law 757 = .ok (.iconst 2, 1)) ∧ (decode cL_law 758 = .ok (.iadd, 1)) ∧ (decode cL_law 759 = .ok (.iaload, 1)) ∧ (decode cL_law 760 = .ok (.invokevirtual 105, 3)) ∧ (decode cL_law 763 = .ok (.pop, 1)) ∧ (decode cL_law 764 = .ok (.goto 36, 3)) ∧ (decode cL_law 767 = .ok (.aload_n 1, 1)) ∧ (decode cL_law 768 = .ok (.aload_n 0, 1)) ∧ (decode cL_law 769 = .ok (.iload_n 3, 1)) ∧ (decode cL_law 770 = .ok (.iconst 1, 1)) ∧ (decode cL_law 771 = .ok (.iadd, 1)) ∧ (decode cL_law 772 = .ok (.iaload, 1)) ∧ (decode cL_law 773 = .ok (.aload_n 0, 1)) := by decide +kernel
theorem dL_law_754 : decode cL_law 754 = .ok (.iaload, 1) := dq_L_law_754.1
theorem dL_law_755 : decode cL_law 755 = .ok (.aload_n 0, 1) := dq_L_law_754.2.1
theorem dL_law_756 : decode cL_law 756 = .ok (.iload_n 3, 1) := dq_L_law_754.2.2.1
theorem dL_law_757 : decode cL_law 757 = .ok (.iconst 2, 1) := dq_L_law_754.2.2.2.1
theorem dL_law_758 : decode cL_law 758 = .ok (.iadd, 1) := dq_L_law_754.2.2.2.2.1
theorem dL_law_759 : decode cL_law 759 = .ok (.iaload, 1) := dq_L_law_754.2.2.2.2.2.1
theorem dL_law_760 : decode cL_law 760 = .ok (.invokevirtual 105, 3) := dq_L_law_754.2.2.2.2.2.2.1
theorem dL_law_763 : decode cL_law 763 = .ok (.pop, 1) := dq_L_law_754.2.2.2.2.2.2.2.1
theorem dL_law_764 : decode cL_law 764 = .ok (.goto 36, 3) := dq_L_law_754.2.2.2.2.2.2.2.2.1
theorem dL_law_767 : decode cL_law 767 = .ok (.aload_n 1, 1) := dq_L_law_754.2.2.2.2.2.2.2.2.2.1
theorem dL_law_768 : decode cL_law 768 = .ok (.aload_n 0, 1) := dq_L_law_754.2.2.2.2.2.2.2.2.2.2.1
theorem dL_law_769 : decode cL_law 769 = .ok (.iload_n 3, 1) := dq_L_law_754.2.2.2.2.2.2.2.2.2.2.2.1
theorem dL_law_770 : decode cL_law 770 = .ok (.iconst 1, 1) := dq_L_law_754.2.2.2.2.2.2.2.2.2.2.2.2.1
theorem dL_law_771 : decode cL_law 771 = .ok (.iadd, 1) := dq_L_law_754.2.2.2.2.2.2.2.2.2.2.2.2.2.1
theorem dL_law_772 : decode cL_law 772 = .ok (.iaload, 1) := dq_L_law_754.2.2.2.2.2.2.2.2.2.2.2.2.2.2.1
theorem dL_law_773 : decode cL_law 773 = .ok (.aload_n 0, 1) := dq_L_law_754.2.2.2.2.2.2.2.2.2.2.2.2.2.2.2
theorem dq_L_law_774 : (decode cL_law 774 = .ok (.iload_n 3, 1)) ∧ (decode cL_law 775 = .ok (.iconst 2, 1)) ∧ (decode cL_law 776 = .ok (.iadd, 1)) ∧ (decode cL_law 777 = .ok (.iaload, 1)) ∧ (decode cL_law 778 = .ok (.invokevirtual 106, 3)) ∧ (decode cL_law 781 = .ok (.pop, 1)) ∧ (decode cL_law 782 = .ok (.aload_n 2, 1)) ∧ (decode cL_law 783 = .ok (.aload_n 0, 1)) ∧ (decode cL_law 784 = .ok (.iload_n 3, 1)) ∧ (decode cL_law 785 = .ok (.iconst 1, 1)) ∧ (decode cL_law 786 = .ok (.iadd, 1)) ∧ (decode cL_law 787 = .ok (.iaload, 1)) ∧ (decode cL_law 788 = .ok (.aload_n 0, 1)) ∧ (decode cL_law 789 = .ok (.iload_n 3, 1)) ∧ (decode cL_law 790 = .ok (.iconst 2, 1)) ∧ (decode cL_law 791 = .ok (.iadd, 1)) := by decide +kernel
theorem dL_law_774 : decode cL_law 774 = .ok (.iload_n 3, 1) := dq_L_law_774.1
theorem dL_law_775 : decode cL_law 775 = .ok (.iconst 2, 1) := dq_L_law_774.2.1
theorem dL_law_776 : decode cL_law 776 = .ok (.iadd, 1) := dq_L_law_774.2.2.1
theorem dL_law_777 : decode cL_law 777 = .ok (.iaload, 1) := dq_L_law_774.2.2.2.1
theorem dL_law_778 : decode cL_law 778 = .ok (.invokevirtual 106, 3) := dq_L_law_774.2.2.2.2.1
theorem dL_law_781 : decode cL_law 781 = .ok (.pop, 1) := dq_L_law_774.2.2.2.2.2.1
theorem dL_law_782 : decode cL_law 782 = .ok (.aload_n 2, 1) := dq_L_law_774.2.2.2.2.2.2.1
theorem dL_law_783 : decode cL_law 783 = .ok (.aload_n 0, 1) := dq_L_law_774.2.2.2.2.2.2.2.1
theorem dL_law_784 : decode cL_law 784 = .ok (.iload_n 3, 1) := dq_L_law_774.2.2.2.2.2.2.2.2.1
theorem dL_law_785 : decode cL_law 785 = .ok (.iconst 1, 1) := dq_L_law_774.2.2.2.2.2.2.2.2.2.1
theorem dL_law_786 : decode cL_law 786 = .ok (.iadd, 1) := dq_L_law_774.2.2.2.2.2.2.2.2.2.2.1
theorem dL_law_787 : decode cL_law 787 = .ok (.iaload, 1) := dq_L_law_774.2.2.2.2.2.2.2.2.2.2.2.1
theorem dL_law_788 : decode cL_law 788 = .ok (.aload_n 0, 1) := dq_L_law_774.2.2.2.2.2.2.2.2.2.2.2.2.1
theorem dL_law_789 : decode cL_law 789 = .ok (.iload_n 3, 1) := dq_L_law_774.2.2.2.2.2.2.2.2.2.2.2.2.2.1
theorem dL_law_790 : decode cL_law 790 = .ok (.iconst 2, 1) := dq_L_law_774.2.2.2.2.2.2.2.2.2.2.2.2.2.2.1
theorem dL_law_791 : decode cL_law 791 = .ok (.iadd, 1) := dq_L_law_774.2.2.2.2.2.2.2.2.2.2.2.2.2.2.2
theorem dq_L_law_792 : (decode cL_law 792 = .ok (.iaload, 1)) ∧ (decode cL_law 793 = .ok (.invokevirtual 109, 3)) ∧ (decode cL_law 796 = .ok (.pop, 1)) ∧ (decode cL_law 797 = .ok (.goto 3, 3)) ∧ (decode cL_law 800 = .ok (.iinc 3 6, 3)) ∧ (decode cL_law 803 = .ok (.goto (-775), 3)) ∧ (decode cL_law 806 = .ok (.iconst 1, 1)) ∧ (decode cL_law 807 = .ok (.ireturn, 1)) := by decide +kernel
theorem dL_law_792 : decode cL_law 792 = .ok (.iaload, 1) := dq_L_law_792.1
theorem dL_law_793 : decode cL_law 793 = .ok (.invokevirtual 109, 3) := dq_L_law_792.2.1
theorem dL_law_796 : decode cL_law 796 = .ok (.pop, 1) := dq_L_law_792.2.2.1
theorem dL_law_797 : decode cL_law 797 = .ok (.goto 3, 3) := dq_L_law_792.2.2.2.1
theorem dL_law_800 : decode cL_law 800 = .ok (.iinc 3 6, 3) := dq_L_law_792.2.2.2.2.1
theorem dL_law_803 : decode cL_law 803 = .ok (.goto (-775), 3) := dq_L_law_792.2.2.2.2.2.1
theorem dL_law_806 : decode cL_law 806 = .ok (.iconst 1, 1) := dq_L_law_792.2.2.2.2.2.2.1
theorem dL_law_807 : decode cL_law 807 = .ok (.ireturn, 1) := dq_L_law_792.2.2.2.2.2.2.2
