def R_law : String := "PhraseMovesLaw"
def lw_P (b : Addr) (xs : List Int32) (args : Array Value) (s : State) : Prop := args = #[.ref b] ∧ s.IntsAt b xs ∧ xs.length ≤ 2560 ∧ (Jvm.Cond.and given_1 narrow_1).before args s = true
def lw_Q (_ : Array Value) (s : State) (o : Outcome) (t : State) : Prop := o = .returned (some (.int 1)) ∧ Framed s o t [] 600000 7302250
def lw_Z (below : List Frame) (a : Array Value) (s : State) : State → Prop := fun t => ∃ o, t.status = .running ∧ Ended t below o ∧ lw_Q a s o t
/-- the law's own end, with 1 on the stack, nothing written that was there before, its room as the claim has it -/
theorem lw_ret {p : Program} {l : Launch} {e : Env} {s : State} {m : MethodId} {below : List Frame} {meth : Method} {c : Code} {b : Nat} (hx : p.tables.exec = Jvm.exec) (hb : c.code = code) (hr : meth.sig.returnType = ret) (hlocks : meth.locks = false) {pc : Nat} {H : Heap} {ls : Array Slot} (hdg : decode code pc = .ok (.ireturn, 1)) : W p l e room_1 s m #[Value.ref b] below meth c H [] 600000 7302250 (lw_Z below #[Value.ref b] s) (F0 m pc ls [.int 1]) := by
  intro T hT X
  obtain ⟨fs, hret, hrun, hended, hW, hframe⟩ := X.leave (v := some (.int 1)) (hlocks := hlocks) (fun h => by rw [hr] at h; cases h)
  have hmeth' : T.vm.method? m = some meth := X.method'
  refine ⟨T.setFrames fs, ?_, .returned (some (.int 1)), hrun, hended, rfl, ⟨_, rfl⟩, hW, hframe⟩
  jvm_step X.here [X.here.top, hx, hb, hdg, hmeth', hr, ret, narrow_b1]
  (try refine ⟨rfl, ?_⟩); (try refine ⟨rfl, ?_⟩)
  first | (intro acts; rw [hret _ acts rfl rfl rfl]) | rw [hret _ _ rfl rfl rfl]
  exact Steps.refl _
/-- what holds at the law's entry: the machine, the code, the tables' words (any of lw_tbl by 'hts w (by decide +kernel)'), the script of L ints xs at the cell b, what the Statement gives of the start (any of its parts by flat_of_before) -/
def lw_At (p : Program) (s : State) (m : MethodId) (meth : Method) (c : Code) (b L : Nat) (xs : Nat → Int32) : Prop :=
  p.tables.exec = Jvm.exec ∧ c.code = code ∧ meth.sig.returnType = ret ∧ c.maxLocals = 4 ∧ s.vm.findClass R_law = some m.cls ∧ (∀ w ∈ lw_tbl, w.before #[Value.ref b] s = true) ∧ va_X b L xs s s.heap ∧ b < s.heap.size ∧ meth.locks = false ∧ (Jvm.Cond.and given_1 narrow_1).before #[Value.ref b] s = true

theorem d_law_0 : decode code 0 = .ok (.new 7, 3) := by decide +kernel
theorem d_law_3 : decode code 3 = .ok (.dup, 1) := by decide +kernel
theorem d_law_4 : decode code 4 = .ok (.invokespecial 9, 3) := by decide +kernel
theorem d_law_7 : decode code 7 = .ok (.astore_n 1, 1) := by decide +kernel
theorem d_law_8 : decode code 8 = .ok (.new 10, 3) := by decide +kernel
theorem d_law_11 : decode code 11 = .ok (.dup, 1) := by decide +kernel
theorem d_law_12 : decode code 12 = .ok (.invokespecial 12, 3) := by decide +kernel
theorem d_law_15 : decode code 15 = .ok (.astore_n 2, 1) := by decide +kernel
theorem d_law_16 : decode code 16 = .ok (.iconst 0, 1) := by decide +kernel
theorem d_law_17 : decode code 17 = .ok (.istore_n 3, 1) := by decide +kernel
theorem d_law_18 : decode code 18 = .ok (.iload_n 3, 1) := by decide +kernel
theorem d_law_19 : decode code 19 = .ok (.aload_n 0, 1) := by decide +kernel
theorem d_law_20 : decode code 20 = .ok (.arraylength, 1) := by decide +kernel
theorem d_law_21 : decode code 21 = .ok (.iconst 5, 1) := by decide +kernel
theorem d_law_22 : decode code 22 = .ok (.isub, 1) := by decide +kernel
theorem d_law_23 : decode code 23 = .ok (.if_icmp .gt 484, 3) := by decide +kernel
theorem d_law_26 : decode code 26 = .ok (.aload_n 0, 1) := by decide +kernel
theorem d_law_27 : decode code 27 = .ok (.iload_n 3, 1) := by decide +kernel
theorem d_law_28 : decode code 28 = .ok (.iaload, 1) := by decide +kernel
theorem d_law_29 : decode code 29 = .ok (.bipush 15, 2) := by decide +kernel
theorem d_law_31 : decode code 31 = .ok (.iand, 1) := by decide +kernel
theorem d_law_32 : decode code 32 = .ok (.tableswitch 469 0 15 #[80, 113, 126, 179, 192, 215, 248, 281, 304, 337, 350, 373, 397, 410, 433, 446], 80) := by decide +kernel
theorem d_law_112 : decode code 112 = .ok (.aload_n 1, 1) := by decide +kernel
theorem d_law_113 : decode code 113 = .ok (.aload_n 0, 1) := by decide +kernel
theorem d_law_114 : decode code 114 = .ok (.iload_n 3, 1) := by decide +kernel
theorem d_law_115 : decode code 115 = .ok (.iconst 1, 1) := by decide +kernel
theorem d_law_116 : decode code 116 = .ok (.iadd, 1) := by decide +kernel
theorem d_law_117 : decode code 117 = .ok (.iaload, 1) := by decide +kernel
theorem d_law_118 : decode code 118 = .ok (.aload_n 0, 1) := by decide +kernel
theorem d_law_119 : decode code 119 = .ok (.iload_n 3, 1) := by decide +kernel
theorem d_law_120 : decode code 120 = .ok (.iconst 2, 1) := by decide +kernel
theorem d_law_121 : decode code 121 = .ok (.iadd, 1) := by decide +kernel
theorem d_law_122 : decode code 122 = .ok (.iaload, 1) := by decide +kernel
theorem d_law_123 : decode code 123 = .ok (.invokevirtual 13, 3) := by decide +kernel
theorem d_law_126 : decode code 126 = .ok (.aload_n 2, 1) := by decide +kernel
theorem d_law_127 : decode code 127 = .ok (.aload_n 0, 1) := by decide +kernel
theorem d_law_128 : decode code 128 = .ok (.iload_n 3, 1) := by decide +kernel
theorem d_law_129 : decode code 129 = .ok (.iconst 1, 1) := by decide +kernel
theorem d_law_130 : decode code 130 = .ok (.iadd, 1) := by decide +kernel
theorem d_law_131 : decode code 131 = .ok (.iaload, 1) := by decide +kernel
theorem d_law_132 : decode code 132 = .ok (.aload_n 0, 1) := by decide +kernel
theorem d_law_133 : decode code 133 = .ok (.iload_n 3, 1) := by decide +kernel
theorem d_law_134 : decode code 134 = .ok (.iconst 2, 1) := by decide +kernel
theorem d_law_135 : decode code 135 = .ok (.iadd, 1) := by decide +kernel
theorem d_law_136 : decode code 136 = .ok (.iaload, 1) := by decide +kernel
theorem d_law_137 : decode code 137 = .ok (.invokevirtual 17, 3) := by decide +kernel
theorem d_law_140 : decode code 140 = .ok (.if_icmp .eq 361, 3) := by decide +kernel
theorem d_law_143 : decode code 143 = .ok (.iconst 0, 1) := by decide +kernel
theorem d_law_144 : decode code 144 = .ok (.ireturn, 1) := by decide +kernel
theorem d_law_145 : decode code 145 = .ok (.aload_n 1, 1) := by decide +kernel
theorem d_law_146 : decode code 146 = .ok (.invokevirtual 18, 3) := by decide +kernel
theorem d_law_149 : decode code 149 = .ok (.aload_n 2, 1) := by decide +kernel
theorem d_law_150 : decode code 150 = .ok (.invokevirtual 22, 3) := by decide +kernel
theorem d_law_153 : decode code 153 = .ok (.if_icmp .eq 348, 3) := by decide +kernel
theorem d_law_156 : decode code 156 = .ok (.iconst 0, 1) := by decide +kernel
theorem d_law_157 : decode code 157 = .ok (.ireturn, 1) := by decide +kernel
theorem d_law_158 : decode code 158 = .ok (.aload_n 1, 1) := by decide +kernel
theorem d_law_159 : decode code 159 = .ok (.aload_n 0, 1) := by decide +kernel
theorem d_law_160 : decode code 160 = .ok (.iload_n 3, 1) := by decide +kernel
theorem d_law_161 : decode code 161 = .ok (.iconst 1, 1) := by decide +kernel
theorem d_law_162 : decode code 162 = .ok (.iadd, 1) := by decide +kernel
theorem d_law_163 : decode code 163 = .ok (.iaload, 1) := by decide +kernel
theorem d_law_164 : decode code 164 = .ok (.aload_n 0, 1) := by decide +kernel
theorem d_law_165 : decode code 165 = .ok (.iload_n 3, 1) := by decide +kernel
theorem d_law_166 : decode code 166 = .ok (.iconst 2, 1) := by decide +kernel
theorem d_law_167 : decode code 167 = .ok (.iadd, 1) := by decide +kernel
theorem d_law_168 : decode code 168 = .ok (.iaload, 1) := by decide +kernel
theorem d_law_169 : decode code 169 = .ok (.aload_n 0, 1) := by decide +kernel
theorem d_law_170 : decode code 170 = .ok (.iload_n 3, 1) := by decide +kernel
theorem d_law_171 : decode code 171 = .ok (.iconst 3, 1) := by decide +kernel
theorem d_law_172 : decode code 172 = .ok (.iadd, 1) := by decide +kernel
theorem d_law_173 : decode code 173 = .ok (.iaload, 1) := by decide +kernel
theorem d_law_174 : decode code 174 = .ok (.aload_n 0, 1) := by decide +kernel
theorem d_law_175 : decode code 175 = .ok (.iload_n 3, 1) := by decide +kernel
theorem d_law_176 : decode code 176 = .ok (.iconst 4, 1) := by decide +kernel
theorem d_law_177 : decode code 177 = .ok (.iadd, 1) := by decide +kernel
theorem d_law_178 : decode code 178 = .ok (.iaload, 1) := by decide +kernel
theorem d_law_179 : decode code 179 = .ok (.invokevirtual 23, 3) := by decide +kernel
theorem d_law_182 : decode code 182 = .ok (.aload_n 2, 1) := by decide +kernel
theorem d_law_183 : decode code 183 = .ok (.aload_n 0, 1) := by decide +kernel
theorem d_law_184 : decode code 184 = .ok (.iload_n 3, 1) := by decide +kernel
theorem d_law_185 : decode code 185 = .ok (.iconst 1, 1) := by decide +kernel
theorem d_law_186 : decode code 186 = .ok (.iadd, 1) := by decide +kernel
theorem d_law_187 : decode code 187 = .ok (.iaload, 1) := by decide +kernel
theorem d_law_188 : decode code 188 = .ok (.aload_n 0, 1) := by decide +kernel
theorem d_law_189 : decode code 189 = .ok (.iload_n 3, 1) := by decide +kernel
theorem d_law_190 : decode code 190 = .ok (.iconst 2, 1) := by decide +kernel
theorem d_law_191 : decode code 191 = .ok (.iadd, 1) := by decide +kernel
theorem d_law_192 : decode code 192 = .ok (.iaload, 1) := by decide +kernel
theorem d_law_193 : decode code 193 = .ok (.aload_n 0, 1) := by decide +kernel
theorem d_law_194 : decode code 194 = .ok (.iload_n 3, 1) := by decide +kernel
theorem d_law_195 : decode code 195 = .ok (.iconst 3, 1) := by decide +kernel
theorem d_law_196 : decode code 196 = .ok (.iadd, 1) := by decide +kernel
theorem d_law_197 : decode code 197 = .ok (.iaload, 1) := by decide +kernel
theorem d_law_198 : decode code 198 = .ok (.aload_n 0, 1) := by decide +kernel
theorem d_law_199 : decode code 199 = .ok (.iload_n 3, 1) := by decide +kernel
theorem d_law_200 : decode code 200 = .ok (.iconst 4, 1) := by decide +kernel
theorem d_law_201 : decode code 201 = .ok (.iadd, 1) := by decide +kernel
theorem d_law_202 : decode code 202 = .ok (.iaload, 1) := by decide +kernel
theorem d_law_203 : decode code 203 = .ok (.invokevirtual 27, 3) := by decide +kernel
theorem d_law_206 : decode code 206 = .ok (.if_icmp .eq 295, 3) := by decide +kernel
theorem d_law_209 : decode code 209 = .ok (.iconst 0, 1) := by decide +kernel
theorem d_law_210 : decode code 210 = .ok (.ireturn, 1) := by decide +kernel
theorem d_law_211 : decode code 211 = .ok (.aload_n 1, 1) := by decide +kernel
theorem d_law_212 : decode code 212 = .ok (.invokevirtual 28, 3) := by decide +kernel
theorem d_law_215 : decode code 215 = .ok (.aload_n 2, 1) := by decide +kernel
theorem d_law_216 : decode code 216 = .ok (.invokevirtual 31, 3) := by decide +kernel
theorem d_law_219 : decode code 219 = .ok (.if_icmp .eq 282, 3) := by decide +kernel
theorem d_law_222 : decode code 222 = .ok (.iconst 0, 1) := by decide +kernel
theorem d_law_223 : decode code 223 = .ok (.ireturn, 1) := by decide +kernel
theorem d_law_224 : decode code 224 = .ok (.aload_n 1, 1) := by decide +kernel
theorem d_law_225 : decode code 225 = .ok (.aload_n 0, 1) := by decide +kernel
theorem d_law_226 : decode code 226 = .ok (.iload_n 3, 1) := by decide +kernel
theorem d_law_227 : decode code 227 = .ok (.iconst 1, 1) := by decide +kernel
theorem d_law_228 : decode code 228 = .ok (.iadd, 1) := by decide +kernel
theorem d_law_229 : decode code 229 = .ok (.iaload, 1) := by decide +kernel
theorem d_law_230 : decode code 230 = .ok (.invokevirtual 32, 3) := by decide +kernel
theorem d_law_233 : decode code 233 = .ok (.aload_n 2, 1) := by decide +kernel
theorem d_law_234 : decode code 234 = .ok (.aload_n 0, 1) := by decide +kernel
theorem d_law_235 : decode code 235 = .ok (.iload_n 3, 1) := by decide +kernel
theorem d_law_236 : decode code 236 = .ok (.iconst 1, 1) := by decide +kernel
theorem d_law_237 : decode code 237 = .ok (.iadd, 1) := by decide +kernel
theorem d_law_238 : decode code 238 = .ok (.iaload, 1) := by decide +kernel
theorem d_law_239 : decode code 239 = .ok (.invokevirtual 36, 3) := by decide +kernel
theorem d_law_242 : decode code 242 = .ok (.if_icmp .eq 259, 3) := by decide +kernel
theorem d_law_245 : decode code 245 = .ok (.iconst 0, 1) := by decide +kernel
theorem d_law_246 : decode code 246 = .ok (.ireturn, 1) := by decide +kernel
theorem d_law_247 : decode code 247 = .ok (.aload_n 1, 1) := by decide +kernel
theorem d_law_248 : decode code 248 = .ok (.aload_n 0, 1) := by decide +kernel
theorem d_law_249 : decode code 249 = .ok (.iload_n 3, 1) := by decide +kernel
theorem d_law_250 : decode code 250 = .ok (.iconst 1, 1) := by decide +kernel
theorem d_law_251 : decode code 251 = .ok (.iadd, 1) := by decide +kernel
theorem d_law_252 : decode code 252 = .ok (.iaload, 1) := by decide +kernel
theorem d_law_253 : decode code 253 = .ok (.aload_n 0, 1) := by decide +kernel
theorem d_law_254 : decode code 254 = .ok (.iload_n 3, 1) := by decide +kernel
theorem d_law_255 : decode code 255 = .ok (.iconst 2, 1) := by decide +kernel
theorem d_law_256 : decode code 256 = .ok (.iadd, 1) := by decide +kernel
theorem d_law_257 : decode code 257 = .ok (.iaload, 1) := by decide +kernel
theorem d_law_258 : decode code 258 = .ok (.invokevirtual 37, 3) := by decide +kernel
theorem d_law_261 : decode code 261 = .ok (.aload_n 2, 1) := by decide +kernel
theorem d_law_262 : decode code 262 = .ok (.aload_n 0, 1) := by decide +kernel
theorem d_law_263 : decode code 263 = .ok (.iload_n 3, 1) := by decide +kernel
theorem d_law_264 : decode code 264 = .ok (.iconst 1, 1) := by decide +kernel
theorem d_law_265 : decode code 265 = .ok (.iadd, 1) := by decide +kernel
theorem d_law_266 : decode code 266 = .ok (.iaload, 1) := by decide +kernel
theorem d_law_267 : decode code 267 = .ok (.aload_n 0, 1) := by decide +kernel
theorem d_law_268 : decode code 268 = .ok (.iload_n 3, 1) := by decide +kernel
theorem d_law_269 : decode code 269 = .ok (.iconst 2, 1) := by decide +kernel
theorem d_law_270 : decode code 270 = .ok (.iadd, 1) := by decide +kernel
theorem d_law_271 : decode code 271 = .ok (.iaload, 1) := by decide +kernel
theorem d_law_272 : decode code 272 = .ok (.invokevirtual 40, 3) := by decide +kernel
theorem d_law_275 : decode code 275 = .ok (.if_icmp .eq 226, 3) := by decide +kernel
theorem d_law_278 : decode code 278 = .ok (.iconst 0, 1) := by decide +kernel
theorem d_law_279 : decode code 279 = .ok (.ireturn, 1) := by decide +kernel
theorem d_law_280 : decode code 280 = .ok (.aload_n 1, 1) := by decide +kernel
theorem d_law_281 : decode code 281 = .ok (.aload_n 0, 1) := by decide +kernel
theorem d_law_282 : decode code 282 = .ok (.iload_n 3, 1) := by decide +kernel
theorem d_law_283 : decode code 283 = .ok (.iconst 1, 1) := by decide +kernel
theorem d_law_284 : decode code 284 = .ok (.iadd, 1) := by decide +kernel
theorem d_law_285 : decode code 285 = .ok (.iaload, 1) := by decide +kernel
theorem d_law_286 : decode code 286 = .ok (.aload_n 0, 1) := by decide +kernel
theorem d_law_287 : decode code 287 = .ok (.iload_n 3, 1) := by decide +kernel
theorem d_law_288 : decode code 288 = .ok (.iconst 2, 1) := by decide +kernel
theorem d_law_289 : decode code 289 = .ok (.iadd, 1) := by decide +kernel
theorem d_law_290 : decode code 290 = .ok (.iaload, 1) := by decide +kernel
theorem d_law_291 : decode code 291 = .ok (.invokevirtual 41, 3) := by decide +kernel
theorem d_law_294 : decode code 294 = .ok (.aload_n 2, 1) := by decide +kernel
theorem d_law_295 : decode code 295 = .ok (.aload_n 0, 1) := by decide +kernel
theorem d_law_296 : decode code 296 = .ok (.iload_n 3, 1) := by decide +kernel
theorem d_law_297 : decode code 297 = .ok (.iconst 1, 1) := by decide +kernel
theorem d_law_298 : decode code 298 = .ok (.iadd, 1) := by decide +kernel
theorem d_law_299 : decode code 299 = .ok (.iaload, 1) := by decide +kernel
theorem d_law_300 : decode code 300 = .ok (.aload_n 0, 1) := by decide +kernel
theorem d_law_301 : decode code 301 = .ok (.iload_n 3, 1) := by decide +kernel
theorem d_law_302 : decode code 302 = .ok (.iconst 2, 1) := by decide +kernel
theorem d_law_303 : decode code 303 = .ok (.iadd, 1) := by decide +kernel
theorem d_law_304 : decode code 304 = .ok (.iaload, 1) := by decide +kernel
theorem d_law_305 : decode code 305 = .ok (.invokevirtual 44, 3) := by decide +kernel
theorem d_law_308 : decode code 308 = .ok (.if_icmp .eq 193, 3) := by decide +kernel
theorem d_law_311 : decode code 311 = .ok (.iconst 0, 1) := by decide +kernel
theorem d_law_312 : decode code 312 = .ok (.ireturn, 1) := by decide +kernel
theorem d_law_313 : decode code 313 = .ok (.aload_n 1, 1) := by decide +kernel
theorem d_law_314 : decode code 314 = .ok (.aload_n 0, 1) := by decide +kernel
theorem d_law_315 : decode code 315 = .ok (.iload_n 3, 1) := by decide +kernel
theorem d_law_316 : decode code 316 = .ok (.iconst 1, 1) := by decide +kernel
theorem d_law_317 : decode code 317 = .ok (.iadd, 1) := by decide +kernel
theorem d_law_318 : decode code 318 = .ok (.iaload, 1) := by decide +kernel
theorem d_law_319 : decode code 319 = .ok (.invokevirtual 45, 3) := by decide +kernel
theorem d_law_322 : decode code 322 = .ok (.aload_n 2, 1) := by decide +kernel
theorem d_law_323 : decode code 323 = .ok (.aload_n 0, 1) := by decide +kernel
theorem d_law_324 : decode code 324 = .ok (.iload_n 3, 1) := by decide +kernel
theorem d_law_325 : decode code 325 = .ok (.iconst 1, 1) := by decide +kernel
theorem d_law_326 : decode code 326 = .ok (.iadd, 1) := by decide +kernel
theorem d_law_327 : decode code 327 = .ok (.iaload, 1) := by decide +kernel
theorem d_law_328 : decode code 328 = .ok (.invokevirtual 48, 3) := by decide +kernel
theorem d_law_331 : decode code 331 = .ok (.if_icmp .eq 170, 3) := by decide +kernel
theorem d_law_334 : decode code 334 = .ok (.iconst 0, 1) := by decide +kernel
theorem d_law_335 : decode code 335 = .ok (.ireturn, 1) := by decide +kernel
theorem d_law_336 : decode code 336 = .ok (.aload_n 1, 1) := by decide +kernel
theorem d_law_337 : decode code 337 = .ok (.aload_n 0, 1) := by decide +kernel
theorem d_law_338 : decode code 338 = .ok (.iload_n 3, 1) := by decide +kernel
theorem d_law_339 : decode code 339 = .ok (.iconst 1, 1) := by decide +kernel
theorem d_law_340 : decode code 340 = .ok (.iadd, 1) := by decide +kernel
theorem d_law_341 : decode code 341 = .ok (.iaload, 1) := by decide +kernel
theorem d_law_342 : decode code 342 = .ok (.aload_n 0, 1) := by decide +kernel
theorem d_law_343 : decode code 343 = .ok (.iload_n 3, 1) := by decide +kernel
theorem d_law_344 : decode code 344 = .ok (.iconst 2, 1) := by decide +kernel
theorem d_law_345 : decode code 345 = .ok (.iadd, 1) := by decide +kernel
theorem d_law_346 : decode code 346 = .ok (.iaload, 1) := by decide +kernel
theorem d_law_347 : decode code 347 = .ok (.invokevirtual 49, 3) := by decide +kernel
theorem d_law_350 : decode code 350 = .ok (.aload_n 2, 1) := by decide +kernel
theorem d_law_351 : decode code 351 = .ok (.aload_n 0, 1) := by decide +kernel
theorem d_law_352 : decode code 352 = .ok (.iload_n 3, 1) := by decide +kernel
theorem d_law_353 : decode code 353 = .ok (.iconst 1, 1) := by decide +kernel
theorem d_law_354 : decode code 354 = .ok (.iadd, 1) := by decide +kernel
theorem d_law_355 : decode code 355 = .ok (.iaload, 1) := by decide +kernel
theorem d_law_356 : decode code 356 = .ok (.aload_n 0, 1) := by decide +kernel
theorem d_law_357 : decode code 357 = .ok (.iload_n 3, 1) := by decide +kernel
theorem d_law_358 : decode code 358 = .ok (.iconst 2, 1) := by decide +kernel
theorem d_law_359 : decode code 359 = .ok (.iadd, 1) := by decide +kernel
theorem d_law_360 : decode code 360 = .ok (.iaload, 1) := by decide +kernel
theorem d_law_361 : decode code 361 = .ok (.invokevirtual 52, 3) := by decide +kernel
theorem d_law_364 : decode code 364 = .ok (.if_icmp .eq 137, 3) := by decide +kernel
theorem d_law_367 : decode code 367 = .ok (.iconst 0, 1) := by decide +kernel
theorem d_law_368 : decode code 368 = .ok (.ireturn, 1) := by decide +kernel
theorem d_law_369 : decode code 369 = .ok (.aload_n 1, 1) := by decide +kernel
theorem d_law_370 : decode code 370 = .ok (.invokevirtual 53, 3) := by decide +kernel
theorem d_law_373 : decode code 373 = .ok (.aload_n 2, 1) := by decide +kernel
theorem d_law_374 : decode code 374 = .ok (.invokevirtual 56, 3) := by decide +kernel
theorem d_law_377 : decode code 377 = .ok (.if_icmp .eq 124, 3) := by decide +kernel
theorem d_law_380 : decode code 380 = .ok (.iconst 0, 1) := by decide +kernel
theorem d_law_381 : decode code 381 = .ok (.ireturn, 1) := by decide +kernel
theorem d_law_382 : decode code 382 = .ok (.aload_n 1, 1) := by decide +kernel
theorem d_law_383 : decode code 383 = .ok (.aload_n 0, 1) := by decide +kernel
theorem d_law_384 : decode code 384 = .ok (.iload_n 3, 1) := by decide +kernel
theorem d_law_385 : decode code 385 = .ok (.iconst 1, 1) := by decide +kernel
theorem d_law_386 : decode code 386 = .ok (.iadd, 1) := by decide +kernel
theorem d_law_387 : decode code 387 = .ok (.iaload, 1) := by decide +kernel
theorem d_law_388 : decode code 388 = .ok (.invokevirtual 57, 3) := by decide +kernel
theorem d_law_391 : decode code 391 = .ok (.aload_n 2, 1) := by decide +kernel
theorem d_law_392 : decode code 392 = .ok (.aload_n 0, 1) := by decide +kernel
theorem d_law_393 : decode code 393 = .ok (.iload_n 3, 1) := by decide +kernel
theorem d_law_394 : decode code 394 = .ok (.iconst 1, 1) := by decide +kernel
theorem d_law_395 : decode code 395 = .ok (.iadd, 1) := by decide +kernel
theorem d_law_396 : decode code 396 = .ok (.iaload, 1) := by decide +kernel
theorem d_law_397 : decode code 397 = .ok (.invokevirtual 60, 3) := by decide +kernel
theorem d_law_400 : decode code 400 = .ok (.if_icmp .eq 101, 3) := by decide +kernel
theorem d_law_403 : decode code 403 = .ok (.iconst 0, 1) := by decide +kernel
theorem d_law_404 : decode code 404 = .ok (.ireturn, 1) := by decide +kernel
theorem d_law_405 : decode code 405 = .ok (.aload_n 1, 1) := by decide +kernel
theorem d_law_406 : decode code 406 = .ok (.aload_n 0, 1) := by decide +kernel
theorem d_law_407 : decode code 407 = .ok (.iload_n 3, 1) := by decide +kernel
theorem d_law_408 : decode code 408 = .ok (.iconst 1, 1) := by decide +kernel
theorem d_law_409 : decode code 409 = .ok (.iadd, 1) := by decide +kernel
theorem d_law_410 : decode code 410 = .ok (.iaload, 1) := by decide +kernel
theorem d_law_411 : decode code 411 = .ok (.invokevirtual 61, 3) := by decide +kernel
theorem d_law_414 : decode code 414 = .ok (.aload_n 2, 1) := by decide +kernel
theorem d_law_415 : decode code 415 = .ok (.aload_n 0, 1) := by decide +kernel
theorem d_law_416 : decode code 416 = .ok (.iload_n 3, 1) := by decide +kernel
theorem d_law_417 : decode code 417 = .ok (.iconst 1, 1) := by decide +kernel
theorem d_law_418 : decode code 418 = .ok (.iadd, 1) := by decide +kernel
theorem d_law_419 : decode code 419 = .ok (.iaload, 1) := by decide +kernel
theorem d_law_420 : decode code 420 = .ok (.invokevirtual 65, 3) := by decide +kernel
theorem d_law_423 : decode code 423 = .ok (.lcmp, 1) := by decide +kernel
theorem d_law_424 : decode code 424 = .ok (.ifCond .eq 77, 3) := by decide +kernel
theorem d_law_427 : decode code 427 = .ok (.iconst 0, 1) := by decide +kernel
theorem d_law_428 : decode code 428 = .ok (.ireturn, 1) := by decide +kernel
theorem d_law_429 : decode code 429 = .ok (.aload_n 1, 1) := by decide +kernel
theorem d_law_430 : decode code 430 = .ok (.invokevirtual 66, 3) := by decide +kernel
theorem d_law_433 : decode code 433 = .ok (.aload_n 2, 1) := by decide +kernel
theorem d_law_434 : decode code 434 = .ok (.invokevirtual 69, 3) := by decide +kernel
theorem d_law_437 : decode code 437 = .ok (.if_icmp .eq 64, 3) := by decide +kernel
theorem d_law_440 : decode code 440 = .ok (.iconst 0, 1) := by decide +kernel
theorem d_law_441 : decode code 441 = .ok (.ireturn, 1) := by decide +kernel
theorem d_law_442 : decode code 442 = .ok (.aload_n 1, 1) := by decide +kernel
theorem d_law_443 : decode code 443 = .ok (.aload_n 0, 1) := by decide +kernel
theorem d_law_444 : decode code 444 = .ok (.iload_n 3, 1) := by decide +kernel
theorem d_law_445 : decode code 445 = .ok (.iconst 1, 1) := by decide +kernel
theorem d_law_446 : decode code 446 = .ok (.iadd, 1) := by decide +kernel
theorem d_law_447 : decode code 447 = .ok (.iaload, 1) := by decide +kernel
theorem d_law_448 : decode code 448 = .ok (.invokevirtual 70, 3) := by decide +kernel
theorem d_law_451 : decode code 451 = .ok (.aload_n 2, 1) := by decide +kernel
theorem d_law_452 : decode code 452 = .ok (.aload_n 0, 1) := by decide +kernel
theorem d_law_453 : decode code 453 = .ok (.iload_n 3, 1) := by decide +kernel
theorem d_law_454 : decode code 454 = .ok (.iconst 1, 1) := by decide +kernel
theorem d_law_455 : decode code 455 = .ok (.iadd, 1) := by decide +kernel
theorem d_law_456 : decode code 456 = .ok (.iaload, 1) := by decide +kernel
theorem d_law_457 : decode code 457 = .ok (.invokevirtual 73, 3) := by decide +kernel
theorem d_law_460 : decode code 460 = .ok (.if_icmp .eq 41, 3) := by decide +kernel
theorem d_law_463 : decode code 463 = .ok (.iconst 0, 1) := by decide +kernel
theorem d_law_464 : decode code 464 = .ok (.ireturn, 1) := by decide +kernel
theorem d_law_465 : decode code 465 = .ok (.aload_n 1, 1) := by decide +kernel
theorem d_law_466 : decode code 466 = .ok (.invokevirtual 74, 3) := by decide +kernel
theorem d_law_469 : decode code 469 = .ok (.aload_n 2, 1) := by decide +kernel
theorem d_law_470 : decode code 470 = .ok (.invokevirtual 77, 3) := by decide +kernel
theorem d_law_473 : decode code 473 = .ok (.if_icmp .eq 28, 3) := by decide +kernel
theorem d_law_476 : decode code 476 = .ok (.iconst 0, 1) := by decide +kernel
theorem d_law_477 : decode code 477 = .ok (.ireturn, 1) := by decide +kernel
theorem d_law_478 : decode code 478 = .ok (.aload_n 1, 1) := by decide +kernel
theorem d_law_479 : decode code 479 = .ok (.aload_n 0, 1) := by decide +kernel
theorem d_law_480 : decode code 480 = .ok (.iload_n 3, 1) := by decide +kernel
theorem d_law_481 : decode code 481 = .ok (.iconst 1, 1) := by decide +kernel
theorem d_law_482 : decode code 482 = .ok (.iadd, 1) := by decide +kernel
theorem d_law_483 : decode code 483 = .ok (.iaload, 1) := by decide +kernel
theorem d_law_484 : decode code 484 = .ok (.invokevirtual 78, 3) := by decide +kernel
theorem d_law_487 : decode code 487 = .ok (.aload_n 2, 1) := by decide +kernel
theorem d_law_488 : decode code 488 = .ok (.aload_n 0, 1) := by decide +kernel
theorem d_law_489 : decode code 489 = .ok (.iload_n 3, 1) := by decide +kernel
theorem d_law_490 : decode code 490 = .ok (.iconst 1, 1) := by decide +kernel
theorem d_law_491 : decode code 491 = .ok (.iadd, 1) := by decide +kernel
theorem d_law_492 : decode code 492 = .ok (.iaload, 1) := by decide +kernel
theorem d_law_493 : decode code 493 = .ok (.invokevirtual 81, 3) := by decide +kernel
theorem d_law_496 : decode code 496 = .ok (.if_icmp .eq 5, 3) := by decide +kernel
theorem d_law_499 : decode code 499 = .ok (.iconst 0, 1) := by decide +kernel
theorem d_law_500 : decode code 500 = .ok (.ireturn, 1) := by decide +kernel
theorem d_law_501 : decode code 501 = .ok (.iinc 3 5, 3) := by decide +kernel
theorem d_law_504 : decode code 504 = .ok (.goto (-486), 3) := by decide +kernel
theorem d_law_507 : decode code 507 = .ok (.iconst 1, 1) := by decide +kernel
theorem d_law_508 : decode code 508 = .ok (.ireturn, 1) := by decide +kernel
theorem ll_7 : (.classLink R_law 7 R_Pm : Cond) ∈ lw_tbl := List.mem_of_getElem? (i := 34) (by decide +kernel)
theorem ll_9 : (.methodLink R_law 9 y_Pm_init : Cond) ∈ lw_tbl := List.mem_of_getElem? (i := 36) (by decide +kernel)
theorem ll_13 : (.methodLink R_law 13 y_Pm_put : Cond) ∈ lw_tbl := List.mem_of_getElem? (i := 140) (by decide +kernel)
theorem ll_18 : (.methodLink R_law 18 y_Pm_clear : Cond) ∈ lw_tbl := List.mem_of_getElem? (i := 162) (by decide +kernel)
theorem ll_23 : (.methodLink R_law 23 y_Pm_ask : Cond) ∈ lw_tbl := List.mem_of_getElem? (i := 166) (by decide +kernel)
theorem ll_28 : (.methodLink R_law 28 y_Pm_forget : Cond) ∈ lw_tbl := List.mem_of_getElem? (i := 193) (by decide +kernel)
theorem ll_32 : (.methodLink R_law 32 y_Pm_count : Cond) ∈ lw_tbl := List.mem_of_getElem? (i := 201) (by decide +kernel)
theorem ll_37 : (.methodLink R_law 37 y_Pm_begin : Cond) ∈ lw_tbl := List.mem_of_getElem? (i := 297) (by decide +kernel)
theorem ll_41 : (.methodLink R_law 41 y_Pm_end : Cond) ∈ lw_tbl := List.mem_of_getElem? (i := 305) (by decide +kernel)
theorem ll_45 : (.methodLink R_law 45 y_Pm_covered : Cond) ∈ lw_tbl := List.mem_of_getElem? (i := 314) (by decide +kernel)
theorem ll_49 : (.methodLink R_law 49 y_Pm_slot : Cond) ∈ lw_tbl := List.mem_of_getElem? (i := 322) (by decide +kernel)
theorem ll_53 : (.methodLink R_law 53 y_Pm_unslot : Cond) ∈ lw_tbl := List.mem_of_getElem? (i := 331) (by decide +kernel)
theorem ll_57 : (.methodLink R_law 57 y_Pm_matches : Cond) ∈ lw_tbl := List.mem_of_getElem? (i := 339) (by decide +kernel)
theorem ll_61 : (.methodLink R_law 61 y_Pm_weight : Cond) ∈ lw_tbl := List.mem_of_getElem? (i := 387) (by decide +kernel)
theorem ll_66 : (.methodLink R_law 66 y_Pm_least : Cond) ∈ lw_tbl := List.mem_of_getElem? (i := 397) (by decide +kernel)
theorem ll_70 : (.methodLink R_law 70 y_Pm_chosen : Cond) ∈ lw_tbl := List.mem_of_getElem? (i := 409) (by decide +kernel)
theorem ll_74 : (.methodLink R_law 74 y_Pm_ties : Cond) ∈ lw_tbl := List.mem_of_getElem? (i := 422) (by decide +kernel)
theorem ll_78 : (.methodLink R_law 78 y_Pm_shortest : Cond) ∈ lw_tbl := List.mem_of_getElem? (i := 430) (by decide +kernel)
theorem ll_10 : (.classLink R_law 10 R_Mo : Cond) ∈ lw_tbl := List.mem_of_getElem? (i := 442) (by decide +kernel)
theorem ll_12 : (.methodLink R_law 12 y_Mo_init : Cond) ∈ lw_tbl := List.mem_of_getElem? (i := 444) (by decide +kernel)
theorem ll_17 : (.methodLink R_law 17 y_Mo_put : Cond) ∈ lw_tbl := List.mem_of_getElem? (i := 506) (by decide +kernel)
theorem ll_22 : (.methodLink R_law 22 y_Mo_clear : Cond) ∈ lw_tbl := List.mem_of_getElem? (i := 516) (by decide +kernel)
theorem ll_27 : (.methodLink R_law 27 y_Mo_ask : Cond) ∈ lw_tbl := List.mem_of_getElem? (i := 520) (by decide +kernel)
theorem ll_31 : (.methodLink R_law 31 y_Mo_forget : Cond) ∈ lw_tbl := List.mem_of_getElem? (i := 528) (by decide +kernel)
theorem ll_36 : (.methodLink R_law 36 y_Mo_count : Cond) ∈ lw_tbl := List.mem_of_getElem? (i := 532) (by decide +kernel)
theorem ll_40 : (.methodLink R_law 40 y_Mo_begin : Cond) ∈ lw_tbl := List.mem_of_getElem? (i := 563) (by decide +kernel)
theorem ll_44 : (.methodLink R_law 44 y_Mo_end : Cond) ∈ lw_tbl := List.mem_of_getElem? (i := 571) (by decide +kernel)
theorem ll_48 : (.methodLink R_law 48 y_Mo_covered : Cond) ∈ lw_tbl := List.mem_of_getElem? (i := 575) (by decide +kernel)
theorem ll_52 : (.methodLink R_law 52 y_Mo_slot : Cond) ∈ lw_tbl := List.mem_of_getElem? (i := 579) (by decide +kernel)
theorem ll_56 : (.methodLink R_law 56 y_Mo_unslot : Cond) ∈ lw_tbl := List.mem_of_getElem? (i := 583) (by decide +kernel)
theorem ll_60 : (.methodLink R_law 60 y_Mo_matches : Cond) ∈ lw_tbl := List.mem_of_getElem? (i := 587) (by decide +kernel)
theorem ll_65 : (.methodLink R_law 65 y_Mo_weight : Cond) ∈ lw_tbl := List.mem_of_getElem? (i := 608) (by decide +kernel)
theorem ll_69 : (.methodLink R_law 69 y_Mo_least : Cond) ∈ lw_tbl := List.mem_of_getElem? (i := 613) (by decide +kernel)
theorem ll_73 : (.methodLink R_law 73 y_Mo_chosen : Cond) ∈ lw_tbl := List.mem_of_getElem? (i := 617) (by decide +kernel)
theorem ll_77 : (.methodLink R_law 77 y_Mo_ties : Cond) ∈ lw_tbl := List.mem_of_getElem? (i := 621) (by decide +kernel)
theorem ll_81 : (.methodLink R_law 81 y_Mo_shortest : Cond) ∈ lw_tbl := List.mem_of_getElem? (i := 625) (by decide +kernel)
theorem ll_ao1 : (.arrayOver (.object R_Ro) : Cond) ∈ lw_tbl := List.mem_of_getElem? (i := 49) (by decide +kernel)
theorem ll_ao2 : (.arrayOver (.array .int) : Cond) ∈ lw_tbl := List.mem_of_getElem? (i := 92) (by decide +kernel)
theorem ll_nest : (.methodLinkNest R_Ro 21 y_Pm_isPlace "PhraseMoves" : Cond) ∈ lw_tbl := List.mem_of_getElem? (i := 225) (by decide +kernel)
theorem k_goodL {ws : List Cond} (h : ∀ w ∈ ws, w ∈ lw_tbl ∧ goodWord w = true) : GoodIn lw_tbl ws := fun w hw => ⟨(h w hw).1, good_of_word (h w hw).2⟩
theorem k_gVL {C : String} {idx : Nat} {y : MethodName} {b : ByteArray} {n : Nat} {r : Option FieldType} (h1 : (.methodLink R_law idx y : Cond) ∈ lw_tbl) (g1 : goodWord (.methodLink R_law idx y) = true) (h2 : (.instanceMethod y : Cond) ∈ kW) (h3 : (.selects C y y : Cond) ∈ kW) (h4 : (.initialized C : Cond) ∈ kW) (h : (.code y b n r : Cond) ∈ kW) : GoodIn lw_tbl (wsV R_law idx C y (.code y b n r :: kW)) := k_goodL (fun w hw => by
  rcases List.mem_append.mp hw with hw | hw
  · simp only [List.mem_cons, List.not_mem_nil, or_false] at hw
    rcases hw with rfl | rfl | rfl | rfl
    · exact ⟨h1, g1⟩
    · exact ⟨kW_tbl h2, kW_word h2⟩
    · exact ⟨kW_tbl h3, kW_word h3⟩
    · exact ⟨kW_tbl h4, kW_word h4⟩
  · rcases List.mem_cons.mp hw with e | hw
    · subst e; exact ⟨kW_tbl h, kW_word h⟩
    · exact ⟨kW_tbl hw, kW_word hw⟩)
theorem k_gNL {y : MethodName} {b : ByteArray} {n : Nat} {r : Option FieldType} (h : (.code y b n r : Cond) ∈ kW) : GoodIn lw_tbl (.code y b n r :: kW) := k_goodL (fun w hw => by
  rcases List.mem_cons.mp hw with e | hw
  · subst e; exact ⟨kW_tbl h, kW_word h⟩
  · exact ⟨kW_tbl hw, kW_word hw⟩)
/-- the script's numbers -/
def xz (xs : Nat → Int32) (j : Nat) : Int := (xs j).toInt
theorem xz_sm (xs : Nat → Int32) (j : Nat) : k_sm (xz xs j) := ⟨by have := (xs j).le_toInt; unfold xz; omega, by have := (xs j).toInt_lt; unfold xz; omega⟩
theorem xz_eq (xs : Nat → Int32) (j : Nat) : xs j = zI (xz xs j) := (Int32.ofInt_toInt (xs j)).symm
theorem k_and15 (z : Int) : ∃ v : Nat, v < 16 ∧ zI z &&& zI 15 = zI (v : Int) := by
  have hlt : ((zI z).toBitVec &&& (15#32)).toNat < 16 := by
    rw [BitVec.toNat_and]
    exact Nat.lt_of_le_of_lt Nat.and_le_right (by decide)
  refine ⟨((zI z).toBitVec &&& (15#32)).toNat, hlt, ?_⟩
  apply Int32.toBitVec_inj.1
  rw [zI_nat]
  show (zI z).toBitVec &&& (zI 15).toBitVec = BitVec.ofNat 32 _
  rw [BitVec.ofNat_toNat, BitVec.setWidth_eq]
  rfl
theorem k_zero_le {z : Int} (h : 0 ≤ z) : ∃ u : Nat, z = (u : Int) := ⟨z.toNat, (Int.toNat_of_nonneg h).symm⟩
section KLAW
variable {p : Program} {l : Launch} {e : Env} {R : Room} {s : State} {m : MethodId} {args : Array Value} {below : List Frame} {meth : Method} {c : Code} {H : Heap} {locs : List Loc} {cells slots : Nat} {Q : State → Prop}
variable {cc : ByteArray} {pc : Nat} {ls : Array Slot} {rest : List Value} {D : va_G} {cl : List vw_C} {A : Nat → Prop} {a : Nat} {tys : List (ClassId × FieldType)} {X T px tc nx tn T1 : va_W} {H0 : Heap}
theorem k_sld (hx : p.tables.exec = Jvm.exec) (hb : c.code = cc) {b L : Nat} {xs : Nat → Int32} (hX : va_X b L xs s H0) (hbl : b < H0.size) (hbA : ¬ A b) (hS : va_S A H0 H locs) {x : Int} {j : Nat} (hxj : x = (j : Int)) (hj : j < L) (hL : L ≤ 2560) (hdg : decode cc pc = .ok (.iaload, 1))
    (kk : W p l e R s m args below meth c H locs cells slots Q (F0 m (pc + 1) ls (.int (zI (xz xs j)) :: rest))) : W p l e R s m args below meth c H locs cells slots Q (F0 m pc ls (.int (zI x) :: .ref b :: rest)) := by
  subst hxj
  refine va_sld hx hb hX hbl hbA hS (zI_in hj (by omega)) hdg ?_
  rw [zI_cl (by omega), xz_eq xs j]
  exact kk
theorem k_slen (hx : p.tables.exec = Jvm.exec) (hb : c.code = cc) {b L : Nat} {xs : Nat → Int32} (hX : va_X b L xs s H0) (hbl : b < H0.size) (hbA : ¬ A b) (hS : va_S A H0 H locs) (hdg : decode cc pc = .ok (.arraylength, 1))
    (kk : W p l e R s m args below meth c H locs cells slots Q (F0 m (pc + 1) ls (.int (zI (L : Int)) :: rest))) : W p l e R s m args below meth c H locs cells slots Q (F0 m pc ls (.ref b :: rest)) :=
  va_slen hx hb hX hbl hbA hS hdg (by rw [show Int32.ofNat L = zI (L : Int) from (zI_nat L).symm]; exact kk)
theorem k_sameI (hx : p.tables.exec = Jvm.exec) (hb : c.code = cc) {x y : Int} {off : Int} {tgt : Nat} (hdg : decode cc pc = .ok (.if_icmp .eq off, 3)) (ht : (pc : Int) + off = (tgt : Int)) (h : x = y) (k : W p l e R s m args below meth c H locs cells slots Q (F0 m tgt ls rest)) : W p l e R s m args below meth c H locs cells slots Q (F0 m pc ls (.int (zI y) :: .int (zI x) :: rest)) := by
  subst h
  exact lv_icmp_eq hx hb hdg ht (fun _ => k) (fun h => absurd rfl h)
theorem k_sameL (hx : p.tables.exec = Jvm.exec) (hb : c.code = cc) {x y : Int64} {off : Int} {tgt : Nat} (hdg : decode cc pc = .ok (.lcmp, 1)) (hdg2 : decode cc (pc + 1) = .ok (.ifCond .eq off, 3)) (ht : ((pc + 1 : Nat) : Int) + off = (tgt : Int)) (h : x = y) (k : W p l e R s m args below meth c H locs cells slots Q (F0 m tgt ls rest)) : W p l e R s m args below meth c H locs cells slots Q (F0 m pc ls (.long y :: .long x :: rest)) := by
  subst h
  refine W.lcmp hx hb hdg ?_
  have e1 : lg_cmp x x = 0 := by simp [lg_cmp]
  rw [e1]
  exact lv_if_eq hx hb hdg2 ht (fun _ => k) (fun h => absurd rfl h)
theorem k_beLT {rr : Int64} {aa : Array Value} {st0 : List Value} (hr : va_Run p l e R s m args below meth c H locs cells slots 0 0 (F0 m pc ls st0) rest (k_Ql D cl rr (nx ++ tn) (va_A (px ++ tc) H.size) aa) (va_A (px ++ tc) H.size)) (hP : va_P D cl (X ++ T) H) (hD : va_D A (X ++ T)) (hS : va_S A H0 H locs) (hA : ∀ q, H0.size ≤ q → A q) (is : List Nat) (hC : is.map (fun i => X[i]?) = px.map some) (hE : nx.map (·.1) = px.map (·.1)) (ht : ∀ u ∈ tc, u ∈ T) (hT : T1.map (·.1) = T.map (·.1)) (hU : ∀ u ∈ T1, u ∈ tn ∨ (u ∈ T ∧ (u ∈ tc → u ∈ tn)))
    (kk : ∀ (H1 : Heap) (locs1 : List Loc), va_P D cl (k_put X is nx ++ T1) H1 → va_D A (k_put X is nx ++ T1) → va_S A H0 H1 locs1 → W p l e R s m args below meth c H1 locs1 cells slots Q (F0 m (pc + 3) ls (.long rr :: rest))) : W p l e R s m args below meth c H locs cells slots Q (F0 m pc ls st0) := by
  have hFc := k_freeT hD hS hA is hC ht
  refine va_calll hr hS (fun q _ h => hFc q h) hFc (fun r u t H1 locs1 htt hvm hw hB hz1 hk1 hS1 => ?_)
  subst hw
  subst htt
  obtain ⟨g1, g2⟩ := k_frT hP hD is hC hE ht hT hU hk1 hB
  exact kk t.heap locs1 g1 g2 hS1
end KLAW
theorem k_noT {T : va_W} : ∀ u ∈ ([] : va_W), u ∈ T := fun _ h => absurd h (List.not_mem_nil)
theorem k_noD : va_D (fun _ => True) ([] : va_W) := ⟨fun i j p q h => by simp at h, fun _ _ _ => trivial⟩
theorem k_noU {T : va_W} : ∀ u ∈ T, u ∈ ([] : va_W) ∨ (u ∈ T ∧ (u ∈ ([] : va_W) → u ∈ ([] : va_W))) := fun _ h => Or.inr ⟨h, id⟩
/-- what holds between two calls -/
def LI (t K fi sc nn of se : Nat → Nat) (n np r sd lm : Nat) (sf st : Int) (pc tr fc cn : Nat → Nat) (E Pl : Nat → Nat → Nat) (kn ch : Nat) (le mf mt : Int) (on ot nu : Nat → Int) (G E0 mn : Nat → Nat) (ff pl : Nat → Int) : Prop :=
  ((∀ j, t j ≤ 1023) ∧ n ≤ 30 ∧ askOK n K fi sc nn ∧ moOK n K fi sc nn on ot nu ∧ (∀ u, K u ≤ 10) ∧ (∀ u, k_sm (nu u))) ∧
  ((∀ j k, E j k ≤ 30) ∧ r ≤ n ∧ isRows t K fi sc nn r E ∧ (∀ u, G u ≤ 30) ∧ ∀ u, E0 u ≤ 30) ∧
  (np ≤ 4 ∧ (∀ j, of j ≤ 9) ∧ ∀ j, se j ≤ 1023) ∧
  (sd ≤ 1 ∧ setOK (pc, Pl, tr, fc, cn, lm, sf, st) ∧ phOK sd np t of se (pc, Pl, tr, fc, cn, lm, sf, st)) ∧
  (kn ≤ 1 ∧ gPB pl ∧ gOK (mn, ch, le, ff, mf, mt) ∧ knOK kn np t of se (pl, mn, ch, le, ff, mf, mt))
theorem ph0 {np : Nat} {t of se : Nat → Nat} {Z : SET} : phOK 0 np t of se Z := fun h => absurd rfl h
theorem kn0 {np : Nat} {t of se : Nat → Nat} {Y : KN} : knOK 0 np t of se Y := fun h => absurd rfl h
theorem isRows0 {t K fi sc nn : Nat → Nat} {E : Nat → Nat → Nat} : isRows t K fi sc nn 0 E := fun j hj => by omega
theorem k_upB2 {F : Nat → Nat} {i v B : Nat} (hF : ∀ j, F j ≤ B) (hv : v ≤ B) : ∀ j, va_up F i v j ≤ B := k_upB hF hv
/-- rows up to x -/
theorem rows_up {t K fi sc nn : Nat → Nat} {n r x : Nat} {E : Nat → Nat → Nat} (hok : askOK n K fi sc nn) (hx : x < n) (hr : r ≤ n) (h : isRows t K fi sc nn r E) : max r (x + 1) ≤ n ∧ isRows t K fi sc nn (max r (x + 1)) (rowsTo t K fi sc nn (x + 1 - r) r E) := by
  refine ⟨by omega, ?_⟩
  by_cases e : x + 1 ≤ r
  · rw [show x + 1 - r = 0 by omega, show max r (x + 1) = r by omega]; exact h
  · have := rowsTo_is hok (x + 1 - r) r E (by omega) h
    rw [show max r (x + 1) = r + (x + 1 - r) by omega]; exact this
/-- the reference's row x against the row of the other side -/
theorem row_same {t K fi sc nn : Nat → Nat} {on ot nu : Nat → Int} {n r x : Nat} {E : Nat → Nat → Nat} {G E0 : Nat → Nat} (hok : askOK n K fi sc nn) (hmo : moOK n K fi sc nn on ot nu) (hx : x < n) (hr : r ≤ n) (h : isRows t K fi sc nn r E) : (∀ z, z < 30 → (mFA t K fi sc nn nu (x + 1) 0 (G, E0)).1 (30 * x + z) = rowsTo t K fi sc nn (x + 1 - r) r E x z) ∧ rOK (rowsTo t K fi sc nn (x + 1 - r) r E x) := by
  obtain ⟨h1, h2⟩ := rows_up hok hx hr h
  have h3 : isRows t K fi sc nn (x + 1) (rowsTo t K fi sc nn (x + 1 - r) r E) := fun j hj => h2 j (by omega)
  have hok2 : askOK (x + 1) K fi sc nn := fun j hj => hok j (by omega)
  have hmo2 : moOK (x + 1) K fi sc nn on ot nu := fun j hj => hmo j (by omega)
  exact ⟨fun z hz => mFA_rows hok2 hmo2 h3 (x + 1) 0 (G, E0) (by omega) (fun k' hk' => by omega) x (by omega) z hz, isRows_ok hok2 h3 (x + 1) x (by omega) (by omega)⟩
/-- a new ask -/
theorem ask_ok {K fi sc nn : Nat → Nat} {on ot nu : Nat → Int} {n : Nat} {x a b k : Int} (hk0 : 0 ≤ x ∧ x ≤ 10) (hnum : (x ≠ 1 ∧ x ≠ 5 ∧ x ≠ 6 ∧ x ≠ 7) → (0 ≤ k ∧ (x = 0 ∧ k < 10 ∨ x ≠ 0 ∧ k ≤ 30))) (hha : x ≠ 0 → (0 ≤ a ∧ a < ↑n)) (hhb : (1 ≤ x ∧ x ≤ 8) → (0 ≤ b ∧ b < ↑n)) (hok : askOK n K fi sc nn) (hmo : moOK n K fi sc nn on ot nu) :
    askOK (n + 1) (va_up K n x.toNat) (va_up fi n (if x ≠ 0 then a.toNat else 0)) (va_up sc n (if 1 ≤ x ∧ x ≤ 8 then b.toNat else 0)) (va_up nn n (if x ≠ 1 ∧ x ≠ 5 ∧ x ≠ 6 ∧ x ≠ 7 then k.toNat else 0)) ∧ moOK (n + 1) (va_up K n x.toNat) (va_up fi n (if x ≠ 0 then a.toNat else 0)) (va_up sc n (if 1 ≤ x ∧ x ≤ 8 then b.toNat else 0)) (va_up nn n (if x ≠ 1 ∧ x ≠ 5 ∧ x ≠ 6 ∧ x ≠ 7 then k.toNat else 0)) (va_up on n a) (va_up ot n b) (va_up nu n k) := by
  refine ⟨fun j hj => ?_, fun j hj => ?_⟩
  · by_cases e : j = n
    · subst e
      rw [va_up_self, va_up_self, va_up_self, va_up_self]
      refine ⟨by omega, ?_, fun h0 => ?_, fun h0 => ?_⟩
      · split
        · rename_i h; have := hnum h; omega
        · omega
      · have hx : x = 0 := by omega
        subst hx
        have := hnum (by omega)
        refine ⟨?_, by rw [if_neg (by omega)], by rw [if_neg (by omega)]⟩
        rw [if_pos (by omega)]; omega
      · have h1 := hha (by omega)
        refine ⟨?_, ?_⟩
        · rw [if_pos (by omega)]; omega
        · split
          · rename_i h; have := hhb h; omega
          · omega
    · rw [va_up_ne _ _ e, va_up_ne _ _ e, va_up_ne _ _ e, va_up_ne _ _ e]; exact hok j (by omega)
  · by_cases e : j = n
    · subst e
      rw [va_up_self, va_up_self, va_up_self, va_up_self, va_up_self, va_up_self, va_up_self]
      refine ⟨fun h0 => ?_, fun h0 => ?_, fun h0 => ?_⟩
      · have h1 := hha (by omega)
        rw [if_pos (by omega)]; omega
      · have h1 := hhb (by omega)
        rw [if_pos (by omega)]; omega
      · have h1 := hnum (by omega)
        rw [if_pos (by omega)]; omega
    · rw [va_up_ne _ _ e, va_up_ne _ _ e, va_up_ne _ _ e, va_up_ne _ _ e, va_up_ne _ _ e, va_up_ne _ _ e, va_up_ne _ _ e]; exact hmo j (by omega)
theorem ask_rows {t K fi sc nn : Nat → Nat} {n r v1 v2 v3 v4 : Nat} {E : Nat → Nat → Nat} (hr : r ≤ n) (h : isRows t K fi sc nn r E) : isRows t (va_up K n v1) (va_up fi n v2) (va_up sc n v3) (va_up nn n v4) r E := fun j hj => by
  rw [va_up_ne _ _ (by omega), va_up_ne _ _ (by omega), va_up_ne _ _ (by omega), va_up_ne _ _ (by omega)]; exact h j hj
theorem k_smUp {F : Nat → Int} {i : Nat} {v : Int} (hF : ∀ j, k_sm (F j)) (hv : k_sm v) : ∀ j, k_sm (va_up F i v j) := by
  intro j; unfold va_up; split
  · exact hv
  · exact hF j
/-! both sides' answers about the phrase -/
section ANS
variable {np sl : Nat} {t of se : Nat → Nat} {Z : SET} {Y : KN} (hnp : np ≤ 4) (hof : ∀ j, of j ≤ 9) (h1 : phOK 1 np t of se Z) (h2 : knOK 1 np t of se Y)
theorem an_m (hnp : np ≤ 4) (hof : ∀ j, of j ≤ 9) (h1 : phOK 1 np t of se Z) (h2 : knOK 1 np t of se Y) (hsl : sl ≤ 9) : cSum Z.2.2.2.2.1 (sl + 1) 0 0 = cSum Y.2.1 (sl + 1) 0 0 := cSum_congr _ _ _ (fun j hj => (both_ok hnp hof h1 h2).1 j (by omega))
theorem an_w (hnp : np ≤ 4) (hof : ∀ j, of j ≤ 9) (h1 : phOK 1 np t of se Z) (h2 : knOK 1 np t of se Y) (hsl : sl ≤ 9) : wSum Z.2.2.2.2.1 (sl + 1) 0 0 = wSum Y.2.1 (sl + 1) 0 0 := wSum_congr _ _ _ (fun j hj => (both_ok hnp hof h1 h2).1 j (by omega))
theorem an_le (hnp : np ≤ 4) (hof : ∀ j, of j ≤ 9) (h1 : phOK 1 np t of se Z) (h2 : knOK 1 np t of se Y) : (if Z.2.2.2.2.2.1 ≠ 77 then (Z.2.2.2.2.2.1 : Int) else -3) = if Y.2.2.1 = 0 then -3 else Y.2.2.2.1 := by
  obtain ⟨-, -, -, -, -, b6, b7⟩ := both_ok hnp hof h1 h2
  by_cases e : Y.2.2.1 = 0
  · rw [if_pos e, if_neg (fun h => b6.mp h e)]
  · rw [if_neg e, if_pos (b6.mpr e)]; exact (b7 e).1.symm
theorem an_ch {i : Nat} (hi : i < np) (hnp : np ≤ 4) (hof : ∀ j, of j ≤ 9) (h1 : phOK 1 np t of se Z) (h2 : knOK 1 np t of se Y) : (if Z.2.2.2.2.2.1 ≠ 77 then (Z.2.2.2.1 i : Int) else -3) = if Y.2.2.1 = 0 then -3 else Y.2.2.2.2.1 i := by
  obtain ⟨-, -, -, -, -, b6, b7⟩ := both_ok hnp hof h1 h2
  by_cases e : Y.2.2.1 = 0
  · rw [if_pos e, if_neg (fun h => b6.mp h e)]
  · rw [if_neg e, if_pos (b6.mpr e)]; exact ((b7 e).2.1 i hi).symm
theorem an_ti (hnp : np ≤ 4) (hof : ∀ j, of j ≤ 9) (h1 : phOK 1 np t of se Z) (h2 : knOK 1 np t of se Y) : (if Z.2.2.2.2.2.1 ≠ 77 then (Z.2.2.2.2.1 Z.2.2.2.2.2.1 : Int) else 0) = if Y.2.2.1 = 0 then 0 else (Y.2.1 Y.2.2.2.1.toNat : Int) := by
  obtain ⟨-, -, -, -, -, b6, b7⟩ := both_ok hnp hof h1 h2
  by_cases e : Y.2.2.1 = 0
  · rw [if_pos e, if_neg (fun h => b6.mp h e)]
  · obtain ⟨c1, c2, c3, -⟩ := b7 e
    rw [if_neg e, if_pos (b6.mpr e), c1, Int.toNat_natCast, c3]
theorem an_sh {x : Int} (hnp : np ≤ 4) (hof : ∀ j, of j ≤ 9) (h1 : phOK 1 np t of se Z) (h2 : knOK 1 np t of se Y) : (if Z.2.2.2.2.2.1 ≠ 77 then (if x = 0 then Z.2.2.2.2.2.2.1 else Z.2.2.2.2.2.2.2) else -3) = if Y.2.2.1 = 0 then -3 else (if x = 0 then Y.2.2.2.2.2.1 else Y.2.2.2.2.2.2) := by
  obtain ⟨-, -, -, -, -, b6, b7⟩ := both_ok hnp hof h1 h2
  by_cases e : Y.2.2.1 = 0
  · rw [if_pos e, if_neg (fun h => b6.mp h e)]
  · obtain ⟨-, -, -, c4, c5⟩ := b7 e
    rw [if_neg e, if_pos (b6.mpr e), c4, c5]
end ANS
