/-! ===== the law: the skeleton's words, its decode rows ===== -/
/-! THE CLAIM OUT OF ONE WALK OF THE LAW'S BODY. Your part is whole_start (and what it stands on); all else here is the same for every law, but numbers. -/
def R_law : String := "ToldScenesLaw"
def lw_P (b : Addr) (xs : List Int32) (args : Array Value) (s : State) : Prop := args = #[.ref b] ∧ s.IntsAt b xs ∧ xs.length ≤ 2560 ∧ (Jvm.Cond.and given_1 narrow_1).before args s = true
def lw_Q (_ : Array Value) (s : State) (o : Outcome) (t : State) : Prop := o = .returned (some (.int 1)) ∧ Framed s o t [] 600000 7302250
def lw_Z (below : List Frame) (a : Array Value) (s : State) : State → Prop := fun t => ∃ o, t.status = .running ∧ Ended t below o ∧ lw_Q a s o t
/-- the law's own end, with 1 on the stack, nothing written that was there before, its room as the claim has it -/
theorem lw_ret {p : Program} {l : Launch} {e : Env} {s : State} {m : MethodId} {below : List Frame} {meth : Method} {c : Code} {b : Nat} (hx : p.tables.exec = Jvm.exec) (hb : c.code = code) (hr : meth.sig.returnType = ret) (hlocks : meth.locks = false) {pc : Nat} {H : Heap} {ls : Array Slot} (hdg : decode code pc = .ok (.ireturn, 1)) : W p l e room_1 s m #[Value.ref b] below meth c H [] 600000 7302250 (lw_Z below #[Value.ref b] s) (F0 m pc ls [.int 1]) := by
  intro T hT X
  obtain ⟨fs, hret, hrun, hended, hW, hframe⟩ := X.leave (v := some (.int 1)) (hlocks := hlocks) (fun h => by rw [hr] at h; cases h)
  have hmeth' : T.vm.method? m = some meth := X.method'
  refine ⟨T.setFrames fs, ?_, .returned (some (.int 1)), hrun, hended, rfl, ⟨_, rfl⟩, hW, hframe⟩
  jvm_step X.here [X.here.top, hx, hb, hdg, hmeth', hr, ret, narrow_b1]
  (try refine ⟨rfl, ?_⟩); (try refine ⟨rfl, ?_⟩)
  first | (intro acts; rw [hret _ acts rfl rfl rfl]) | rw [hret _ _ rfl rfl rfl]
  exact Steps.refl _
/-- what holds at the law's entry: the machine, the code, the tables' words (any of lw_tbl by 'hts w (by decide +kernel)'), the script of L ints xs at the cell b, what the Statement gives of the start (any of its parts by flat_of_before) -/
def lw_At (p : Program) (s : State) (m : MethodId) (meth : Method) (c : Code) (b L : Nat) (xs : Nat → Int32) : Prop :=
  p.tables.exec = Jvm.exec ∧ c.code = code ∧ meth.sig.returnType = ret ∧ c.maxLocals = 4 ∧ s.vm.findClass R_law = some m.cls ∧ (∀ w ∈ lw_tbl, w.before #[Value.ref b] s = true) ∧ va_X b L xs s s.heap ∧ b < s.heap.size ∧ meth.locks = false ∧ (Jvm.Cond.and given_1 narrow_1).before #[Value.ref b] s = true
theorem eL_0 : decode code 0 = .ok (.new 7, 3) := by decide +kernel
theorem eL_3 : decode code 3 = .ok (.dup, 1) := by decide +kernel
theorem eL_4 : decode code 4 = .ok (.invokespecial 9, 3) := by decide +kernel
theorem eL_7 : decode code 7 = .ok (.astore_n 1, 1) := by decide +kernel
theorem eL_8 : decode code 8 = .ok (.new 10, 3) := by decide +kernel
theorem eL_11 : decode code 11 = .ok (.dup, 1) := by decide +kernel
theorem eL_12 : decode code 12 = .ok (.invokespecial 12, 3) := by decide +kernel
theorem eL_15 : decode code 15 = .ok (.astore_n 2, 1) := by decide +kernel
theorem eL_16 : decode code 16 = .ok (.iconst 0, 1) := by decide +kernel
theorem eL_17 : decode code 17 = .ok (.istore_n 3, 1) := by decide +kernel
theorem eL_18 : decode code 18 = .ok (.iload_n 3, 1) := by decide +kernel
theorem eL_19 : decode code 19 = .ok (.aload_n 0, 1) := by decide +kernel
theorem eL_20 : decode code 20 = .ok (.arraylength, 1) := by decide +kernel
theorem eL_21 : decode code 21 = .ok (.iconst 5, 1) := by decide +kernel
theorem eL_22 : decode code 22 = .ok (.isub, 1) := by decide +kernel
theorem eL_23 : decode code 23 = .ok (.if_icmp .gt 680, 3) := by decide +kernel
theorem eL_26 : decode code 26 = .ok (.aload_n 0, 1) := by decide +kernel
theorem eL_27 : decode code 27 = .ok (.iload_n 3, 1) := by decide +kernel
theorem eL_28 : decode code 28 = .ok (.iaload, 1) := by decide +kernel
theorem eL_29 : decode code 29 = .ok (.bipush 31, 2) := by decide +kernel
theorem eL_31 : decode code 31 = .ok (.iand, 1) := by decide +kernel
theorem eL_32 : decode code 32 = .ok (.tableswitch 665 0 19 #[96, 149, 183, 216, 239, 272, 341, 374, 387, 410, 444, 468, 491, 514, 537, 550, 583, 606, 629, 642], 96) := by decide +kernel
theorem eL_128 : decode code 128 = .ok (.aload_n 1, 1) := by decide +kernel
theorem eL_129 : decode code 129 = .ok (.aload_n 0, 1) := by decide +kernel
theorem eL_130 : decode code 130 = .ok (.iload_n 3, 1) := by decide +kernel
theorem eL_131 : decode code 131 = .ok (.iconst 1, 1) := by decide +kernel
theorem eL_132 : decode code 132 = .ok (.iadd, 1) := by decide +kernel
theorem eL_133 : decode code 133 = .ok (.iaload, 1) := by decide +kernel
theorem eL_134 : decode code 134 = .ok (.aload_n 0, 1) := by decide +kernel
theorem eL_135 : decode code 135 = .ok (.iload_n 3, 1) := by decide +kernel
theorem eL_136 : decode code 136 = .ok (.iconst 2, 1) := by decide +kernel
theorem eL_137 : decode code 137 = .ok (.iadd, 1) := by decide +kernel
theorem eL_138 : decode code 138 = .ok (.iaload, 1) := by decide +kernel
theorem eL_139 : decode code 139 = .ok (.aload_n 0, 1) := by decide +kernel
theorem eL_140 : decode code 140 = .ok (.iload_n 3, 1) := by decide +kernel
theorem eL_141 : decode code 141 = .ok (.iconst 3, 1) := by decide +kernel
theorem eL_142 : decode code 142 = .ok (.iadd, 1) := by decide +kernel
theorem eL_143 : decode code 143 = .ok (.iaload, 1) := by decide +kernel
theorem eL_144 : decode code 144 = .ok (.aload_n 0, 1) := by decide +kernel
theorem eL_145 : decode code 145 = .ok (.iload_n 3, 1) := by decide +kernel
theorem eL_146 : decode code 146 = .ok (.iconst 4, 1) := by decide +kernel
theorem eL_147 : decode code 147 = .ok (.iadd, 1) := by decide +kernel
theorem eL_148 : decode code 148 = .ok (.iaload, 1) := by decide +kernel
theorem eL_149 : decode code 149 = .ok (.invokevirtual 13, 3) := by decide +kernel
theorem eL_152 : decode code 152 = .ok (.aload_n 2, 1) := by decide +kernel
theorem eL_153 : decode code 153 = .ok (.aload_n 0, 1) := by decide +kernel
theorem eL_154 : decode code 154 = .ok (.iload_n 3, 1) := by decide +kernel
theorem eL_155 : decode code 155 = .ok (.iconst 1, 1) := by decide +kernel
theorem eL_156 : decode code 156 = .ok (.iadd, 1) := by decide +kernel
theorem eL_157 : decode code 157 = .ok (.iaload, 1) := by decide +kernel
theorem eL_158 : decode code 158 = .ok (.aload_n 0, 1) := by decide +kernel
theorem eL_159 : decode code 159 = .ok (.iload_n 3, 1) := by decide +kernel
theorem eL_160 : decode code 160 = .ok (.iconst 2, 1) := by decide +kernel
theorem eL_161 : decode code 161 = .ok (.iadd, 1) := by decide +kernel
theorem eL_162 : decode code 162 = .ok (.iaload, 1) := by decide +kernel
theorem eL_163 : decode code 163 = .ok (.aload_n 0, 1) := by decide +kernel
theorem eL_164 : decode code 164 = .ok (.iload_n 3, 1) := by decide +kernel
theorem eL_165 : decode code 165 = .ok (.iconst 3, 1) := by decide +kernel
theorem eL_166 : decode code 166 = .ok (.iadd, 1) := by decide +kernel
theorem eL_167 : decode code 167 = .ok (.iaload, 1) := by decide +kernel
theorem eL_168 : decode code 168 = .ok (.aload_n 0, 1) := by decide +kernel
theorem eL_169 : decode code 169 = .ok (.iload_n 3, 1) := by decide +kernel
theorem eL_170 : decode code 170 = .ok (.iconst 4, 1) := by decide +kernel
theorem eL_171 : decode code 171 = .ok (.iadd, 1) := by decide +kernel
theorem eL_172 : decode code 172 = .ok (.iaload, 1) := by decide +kernel
theorem eL_173 : decode code 173 = .ok (.invokevirtual 17, 3) := by decide +kernel
theorem eL_176 : decode code 176 = .ok (.if_icmp .eq 521, 3) := by decide +kernel
theorem eL_179 : decode code 179 = .ok (.iconst 0, 1) := by decide +kernel
theorem eL_180 : decode code 180 = .ok (.ireturn, 1) := by decide +kernel
theorem eL_181 : decode code 181 = .ok (.aload_n 1, 1) := by decide +kernel
theorem eL_182 : decode code 182 = .ok (.aload_n 0, 1) := by decide +kernel
theorem eL_183 : decode code 183 = .ok (.iload_n 3, 1) := by decide +kernel
theorem eL_184 : decode code 184 = .ok (.iconst 1, 1) := by decide +kernel
theorem eL_185 : decode code 185 = .ok (.iadd, 1) := by decide +kernel
theorem eL_186 : decode code 186 = .ok (.iaload, 1) := by decide +kernel
theorem eL_187 : decode code 187 = .ok (.aload_n 0, 1) := by decide +kernel
theorem eL_188 : decode code 188 = .ok (.iload_n 3, 1) := by decide +kernel
theorem eL_189 : decode code 189 = .ok (.iconst 2, 1) := by decide +kernel
theorem eL_190 : decode code 190 = .ok (.iadd, 1) := by decide +kernel
theorem eL_191 : decode code 191 = .ok (.iaload, 1) := by decide +kernel
theorem eL_192 : decode code 192 = .ok (.invokevirtual 18, 3) := by decide +kernel
theorem eL_195 : decode code 195 = .ok (.aload_n 2, 1) := by decide +kernel
theorem eL_196 : decode code 196 = .ok (.aload_n 0, 1) := by decide +kernel
theorem eL_197 : decode code 197 = .ok (.iload_n 3, 1) := by decide +kernel
theorem eL_198 : decode code 198 = .ok (.iconst 1, 1) := by decide +kernel
theorem eL_199 : decode code 199 = .ok (.iadd, 1) := by decide +kernel
theorem eL_200 : decode code 200 = .ok (.iaload, 1) := by decide +kernel
theorem eL_201 : decode code 201 = .ok (.aload_n 0, 1) := by decide +kernel
theorem eL_202 : decode code 202 = .ok (.iload_n 3, 1) := by decide +kernel
theorem eL_203 : decode code 203 = .ok (.iconst 2, 1) := by decide +kernel
theorem eL_204 : decode code 204 = .ok (.iadd, 1) := by decide +kernel
theorem eL_205 : decode code 205 = .ok (.iaload, 1) := by decide +kernel
theorem eL_206 : decode code 206 = .ok (.invokevirtual 22, 3) := by decide +kernel
theorem eL_209 : decode code 209 = .ok (.lcmp, 1) := by decide +kernel
theorem eL_210 : decode code 210 = .ok (.ifCond .eq 487, 3) := by decide +kernel
theorem eL_213 : decode code 213 = .ok (.iconst 0, 1) := by decide +kernel
theorem eL_214 : decode code 214 = .ok (.ireturn, 1) := by decide +kernel
theorem eL_215 : decode code 215 = .ok (.aload_n 1, 1) := by decide +kernel
theorem eL_216 : decode code 216 = .ok (.aload_n 0, 1) := by decide +kernel
theorem eL_217 : decode code 217 = .ok (.iload_n 3, 1) := by decide +kernel
theorem eL_218 : decode code 218 = .ok (.iconst 1, 1) := by decide +kernel
theorem eL_219 : decode code 219 = .ok (.iadd, 1) := by decide +kernel
theorem eL_220 : decode code 220 = .ok (.iaload, 1) := by decide +kernel
theorem eL_221 : decode code 221 = .ok (.aload_n 0, 1) := by decide +kernel
theorem eL_222 : decode code 222 = .ok (.iload_n 3, 1) := by decide +kernel
theorem eL_223 : decode code 223 = .ok (.iconst 2, 1) := by decide +kernel
theorem eL_224 : decode code 224 = .ok (.iadd, 1) := by decide +kernel
theorem eL_225 : decode code 225 = .ok (.iaload, 1) := by decide +kernel
theorem eL_226 : decode code 226 = .ok (.invokevirtual 23, 3) := by decide +kernel
theorem eL_229 : decode code 229 = .ok (.aload_n 2, 1) := by decide +kernel
theorem eL_230 : decode code 230 = .ok (.aload_n 0, 1) := by decide +kernel
theorem eL_231 : decode code 231 = .ok (.iload_n 3, 1) := by decide +kernel
theorem eL_232 : decode code 232 = .ok (.iconst 1, 1) := by decide +kernel
theorem eL_233 : decode code 233 = .ok (.iadd, 1) := by decide +kernel
theorem eL_234 : decode code 234 = .ok (.iaload, 1) := by decide +kernel
theorem eL_235 : decode code 235 = .ok (.aload_n 0, 1) := by decide +kernel
theorem eL_236 : decode code 236 = .ok (.iload_n 3, 1) := by decide +kernel
theorem eL_237 : decode code 237 = .ok (.iconst 2, 1) := by decide +kernel
theorem eL_238 : decode code 238 = .ok (.iadd, 1) := by decide +kernel
theorem eL_239 : decode code 239 = .ok (.iaload, 1) := by decide +kernel
theorem eL_240 : decode code 240 = .ok (.invokevirtual 27, 3) := by decide +kernel
theorem eL_243 : decode code 243 = .ok (.if_icmp .eq 454, 3) := by decide +kernel
theorem eL_246 : decode code 246 = .ok (.iconst 0, 1) := by decide +kernel
theorem eL_247 : decode code 247 = .ok (.ireturn, 1) := by decide +kernel
theorem eL_248 : decode code 248 = .ok (.aload_n 1, 1) := by decide +kernel
theorem eL_249 : decode code 249 = .ok (.aload_n 0, 1) := by decide +kernel
theorem eL_250 : decode code 250 = .ok (.iload_n 3, 1) := by decide +kernel
theorem eL_251 : decode code 251 = .ok (.iconst 1, 1) := by decide +kernel
theorem eL_252 : decode code 252 = .ok (.iadd, 1) := by decide +kernel
theorem eL_253 : decode code 253 = .ok (.iaload, 1) := by decide +kernel
theorem eL_254 : decode code 254 = .ok (.invokevirtual 28, 3) := by decide +kernel
theorem eL_257 : decode code 257 = .ok (.aload_n 2, 1) := by decide +kernel
theorem eL_258 : decode code 258 = .ok (.aload_n 0, 1) := by decide +kernel
theorem eL_259 : decode code 259 = .ok (.iload_n 3, 1) := by decide +kernel
theorem eL_260 : decode code 260 = .ok (.iconst 1, 1) := by decide +kernel
theorem eL_261 : decode code 261 = .ok (.iadd, 1) := by decide +kernel
theorem eL_262 : decode code 262 = .ok (.iaload, 1) := by decide +kernel
theorem eL_263 : decode code 263 = .ok (.invokevirtual 32, 3) := by decide +kernel
theorem eL_266 : decode code 266 = .ok (.if_icmp .eq 431, 3) := by decide +kernel
theorem eL_269 : decode code 269 = .ok (.iconst 0, 1) := by decide +kernel
theorem eL_270 : decode code 270 = .ok (.ireturn, 1) := by decide +kernel
theorem eL_271 : decode code 271 = .ok (.aload_n 1, 1) := by decide +kernel
theorem eL_272 : decode code 272 = .ok (.aload_n 0, 1) := by decide +kernel
theorem eL_273 : decode code 273 = .ok (.iload_n 3, 1) := by decide +kernel
theorem eL_274 : decode code 274 = .ok (.iconst 1, 1) := by decide +kernel
theorem eL_275 : decode code 275 = .ok (.iadd, 1) := by decide +kernel
theorem eL_276 : decode code 276 = .ok (.iaload, 1) := by decide +kernel
theorem eL_277 : decode code 277 = .ok (.aload_n 0, 1) := by decide +kernel
theorem eL_278 : decode code 278 = .ok (.iload_n 3, 1) := by decide +kernel
theorem eL_279 : decode code 279 = .ok (.iconst 2, 1) := by decide +kernel
theorem eL_280 : decode code 280 = .ok (.iadd, 1) := by decide +kernel
theorem eL_281 : decode code 281 = .ok (.iaload, 1) := by decide +kernel
theorem eL_282 : decode code 282 = .ok (.invokevirtual 33, 3) := by decide +kernel
theorem eL_285 : decode code 285 = .ok (.aload_n 2, 1) := by decide +kernel
theorem eL_286 : decode code 286 = .ok (.aload_n 0, 1) := by decide +kernel
theorem eL_287 : decode code 287 = .ok (.iload_n 3, 1) := by decide +kernel
theorem eL_288 : decode code 288 = .ok (.iconst 1, 1) := by decide +kernel
theorem eL_289 : decode code 289 = .ok (.iadd, 1) := by decide +kernel
theorem eL_290 : decode code 290 = .ok (.iaload, 1) := by decide +kernel
theorem eL_291 : decode code 291 = .ok (.aload_n 0, 1) := by decide +kernel
theorem eL_292 : decode code 292 = .ok (.iload_n 3, 1) := by decide +kernel
theorem eL_293 : decode code 293 = .ok (.iconst 2, 1) := by decide +kernel
theorem eL_294 : decode code 294 = .ok (.iadd, 1) := by decide +kernel
theorem eL_295 : decode code 295 = .ok (.iaload, 1) := by decide +kernel
theorem eL_296 : decode code 296 = .ok (.invokevirtual 36, 3) := by decide +kernel
theorem eL_299 : decode code 299 = .ok (.if_icmp .eq 398, 3) := by decide +kernel
theorem eL_302 : decode code 302 = .ok (.iconst 0, 1) := by decide +kernel
theorem eL_303 : decode code 303 = .ok (.ireturn, 1) := by decide +kernel
theorem eL_304 : decode code 304 = .ok (.aload_n 1, 1) := by decide +kernel
theorem eL_305 : decode code 305 = .ok (.aload_n 0, 1) := by decide +kernel
theorem eL_306 : decode code 306 = .ok (.iload_n 3, 1) := by decide +kernel
theorem eL_307 : decode code 307 = .ok (.iconst 1, 1) := by decide +kernel
theorem eL_308 : decode code 308 = .ok (.iadd, 1) := by decide +kernel
theorem eL_309 : decode code 309 = .ok (.iaload, 1) := by decide +kernel
theorem eL_310 : decode code 310 = .ok (.aload_n 0, 1) := by decide +kernel
theorem eL_311 : decode code 311 = .ok (.iload_n 3, 1) := by decide +kernel
theorem eL_312 : decode code 312 = .ok (.iconst 2, 1) := by decide +kernel
theorem eL_313 : decode code 313 = .ok (.iadd, 1) := by decide +kernel
theorem eL_314 : decode code 314 = .ok (.iaload, 1) := by decide +kernel
theorem eL_315 : decode code 315 = .ok (.aload_n 0, 1) := by decide +kernel
theorem eL_316 : decode code 316 = .ok (.iload_n 3, 1) := by decide +kernel
theorem eL_317 : decode code 317 = .ok (.iconst 3, 1) := by decide +kernel
theorem eL_318 : decode code 318 = .ok (.iadd, 1) := by decide +kernel
theorem eL_319 : decode code 319 = .ok (.iaload, 1) := by decide +kernel
theorem eL_320 : decode code 320 = .ok (.aload_n 0, 1) := by decide +kernel
theorem eL_321 : decode code 321 = .ok (.iload_n 3, 1) := by decide +kernel
theorem eL_322 : decode code 322 = .ok (.iconst 4, 1) := by decide +kernel
theorem eL_323 : decode code 323 = .ok (.iadd, 1) := by decide +kernel
theorem eL_324 : decode code 324 = .ok (.iaload, 1) := by decide +kernel
theorem eL_325 : decode code 325 = .ok (.ifCond .eq 7, 3) := by decide +kernel
theorem eL_328 : decode code 328 = .ok (.iconst 1, 1) := by decide +kernel
theorem eL_329 : decode code 329 = .ok (.goto 4, 3) := by decide +kernel
theorem eL_332 : decode code 332 = .ok (.iconst 0, 1) := by decide +kernel
theorem eL_333 : decode code 333 = .ok (.invokevirtual 37, 3) := by decide +kernel
theorem eL_336 : decode code 336 = .ok (.aload_n 2, 1) := by decide +kernel
theorem eL_337 : decode code 337 = .ok (.aload_n 0, 1) := by decide +kernel
theorem eL_338 : decode code 338 = .ok (.iload_n 3, 1) := by decide +kernel
theorem eL_339 : decode code 339 = .ok (.iconst 1, 1) := by decide +kernel
theorem eL_340 : decode code 340 = .ok (.iadd, 1) := by decide +kernel
theorem eL_341 : decode code 341 = .ok (.iaload, 1) := by decide +kernel
theorem eL_342 : decode code 342 = .ok (.aload_n 0, 1) := by decide +kernel
theorem eL_343 : decode code 343 = .ok (.iload_n 3, 1) := by decide +kernel
theorem eL_344 : decode code 344 = .ok (.iconst 2, 1) := by decide +kernel
theorem eL_345 : decode code 345 = .ok (.iadd, 1) := by decide +kernel
theorem eL_346 : decode code 346 = .ok (.iaload, 1) := by decide +kernel
theorem eL_347 : decode code 347 = .ok (.aload_n 0, 1) := by decide +kernel
theorem eL_348 : decode code 348 = .ok (.iload_n 3, 1) := by decide +kernel
theorem eL_349 : decode code 349 = .ok (.iconst 3, 1) := by decide +kernel
theorem eL_350 : decode code 350 = .ok (.iadd, 1) := by decide +kernel
theorem eL_351 : decode code 351 = .ok (.iaload, 1) := by decide +kernel
theorem eL_352 : decode code 352 = .ok (.aload_n 0, 1) := by decide +kernel
theorem eL_353 : decode code 353 = .ok (.iload_n 3, 1) := by decide +kernel
theorem eL_354 : decode code 354 = .ok (.iconst 4, 1) := by decide +kernel
theorem eL_355 : decode code 355 = .ok (.iadd, 1) := by decide +kernel
theorem eL_356 : decode code 356 = .ok (.iaload, 1) := by decide +kernel
theorem eL_357 : decode code 357 = .ok (.ifCond .eq 7, 3) := by decide +kernel
theorem eL_360 : decode code 360 = .ok (.iconst 1, 1) := by decide +kernel
theorem eL_361 : decode code 361 = .ok (.goto 4, 3) := by decide +kernel
theorem eL_364 : decode code 364 = .ok (.iconst 0, 1) := by decide +kernel
theorem eL_365 : decode code 365 = .ok (.invokevirtual 41, 3) := by decide +kernel
theorem eL_368 : decode code 368 = .ok (.if_icmp .eq 329, 3) := by decide +kernel
theorem eL_371 : decode code 371 = .ok (.iconst 0, 1) := by decide +kernel
theorem eL_372 : decode code 372 = .ok (.ireturn, 1) := by decide +kernel
theorem eL_373 : decode code 373 = .ok (.aload_n 1, 1) := by decide +kernel
theorem eL_374 : decode code 374 = .ok (.aload_n 0, 1) := by decide +kernel
theorem eL_375 : decode code 375 = .ok (.iload_n 3, 1) := by decide +kernel
theorem eL_376 : decode code 376 = .ok (.iconst 1, 1) := by decide +kernel
theorem eL_377 : decode code 377 = .ok (.iadd, 1) := by decide +kernel
theorem eL_378 : decode code 378 = .ok (.iaload, 1) := by decide +kernel
theorem eL_379 : decode code 379 = .ok (.aload_n 0, 1) := by decide +kernel
theorem eL_380 : decode code 380 = .ok (.iload_n 3, 1) := by decide +kernel
theorem eL_381 : decode code 381 = .ok (.iconst 2, 1) := by decide +kernel
theorem eL_382 : decode code 382 = .ok (.iadd, 1) := by decide +kernel
theorem eL_383 : decode code 383 = .ok (.iaload, 1) := by decide +kernel
theorem eL_384 : decode code 384 = .ok (.invokevirtual 42, 3) := by decide +kernel
theorem eL_387 : decode code 387 = .ok (.aload_n 2, 1) := by decide +kernel
theorem eL_388 : decode code 388 = .ok (.aload_n 0, 1) := by decide +kernel
theorem eL_389 : decode code 389 = .ok (.iload_n 3, 1) := by decide +kernel
theorem eL_390 : decode code 390 = .ok (.iconst 1, 1) := by decide +kernel
theorem eL_391 : decode code 391 = .ok (.iadd, 1) := by decide +kernel
theorem eL_392 : decode code 392 = .ok (.iaload, 1) := by decide +kernel
theorem eL_393 : decode code 393 = .ok (.aload_n 0, 1) := by decide +kernel
theorem eL_394 : decode code 394 = .ok (.iload_n 3, 1) := by decide +kernel
theorem eL_395 : decode code 395 = .ok (.iconst 2, 1) := by decide +kernel
theorem eL_396 : decode code 396 = .ok (.iadd, 1) := by decide +kernel
theorem eL_397 : decode code 397 = .ok (.iaload, 1) := by decide +kernel
theorem eL_398 : decode code 398 = .ok (.invokevirtual 45, 3) := by decide +kernel
theorem eL_401 : decode code 401 = .ok (.if_icmp .eq 296, 3) := by decide +kernel
theorem eL_404 : decode code 404 = .ok (.iconst 0, 1) := by decide +kernel
theorem eL_405 : decode code 405 = .ok (.ireturn, 1) := by decide +kernel
theorem eL_406 : decode code 406 = .ok (.aload_n 1, 1) := by decide +kernel
theorem eL_407 : decode code 407 = .ok (.invokevirtual 46, 3) := by decide +kernel
theorem eL_410 : decode code 410 = .ok (.aload_n 2, 1) := by decide +kernel
theorem eL_411 : decode code 411 = .ok (.invokevirtual 50, 3) := by decide +kernel
theorem eL_414 : decode code 414 = .ok (.if_icmp .eq 283, 3) := by decide +kernel
theorem eL_417 : decode code 417 = .ok (.iconst 0, 1) := by decide +kernel
theorem eL_418 : decode code 418 = .ok (.ireturn, 1) := by decide +kernel
theorem eL_419 : decode code 419 = .ok (.aload_n 1, 1) := by decide +kernel
theorem eL_420 : decode code 420 = .ok (.aload_n 0, 1) := by decide +kernel
theorem eL_421 : decode code 421 = .ok (.iload_n 3, 1) := by decide +kernel
theorem eL_422 : decode code 422 = .ok (.iconst 1, 1) := by decide +kernel
theorem eL_423 : decode code 423 = .ok (.iadd, 1) := by decide +kernel
theorem eL_424 : decode code 424 = .ok (.iaload, 1) := by decide +kernel
theorem eL_425 : decode code 425 = .ok (.invokevirtual 51, 3) := by decide +kernel
theorem eL_428 : decode code 428 = .ok (.aload_n 2, 1) := by decide +kernel
theorem eL_429 : decode code 429 = .ok (.aload_n 0, 1) := by decide +kernel
theorem eL_430 : decode code 430 = .ok (.iload_n 3, 1) := by decide +kernel
theorem eL_431 : decode code 431 = .ok (.iconst 1, 1) := by decide +kernel
theorem eL_432 : decode code 432 = .ok (.iadd, 1) := by decide +kernel
theorem eL_433 : decode code 433 = .ok (.iaload, 1) := by decide +kernel
theorem eL_434 : decode code 434 = .ok (.invokevirtual 54, 3) := by decide +kernel
theorem eL_437 : decode code 437 = .ok (.if_icmp .eq 260, 3) := by decide +kernel
theorem eL_440 : decode code 440 = .ok (.iconst 0, 1) := by decide +kernel
theorem eL_441 : decode code 441 = .ok (.ireturn, 1) := by decide +kernel
theorem eL_442 : decode code 442 = .ok (.aload_n 1, 1) := by decide +kernel
theorem eL_443 : decode code 443 = .ok (.aload_n 0, 1) := by decide +kernel
theorem eL_444 : decode code 444 = .ok (.iload_n 3, 1) := by decide +kernel
theorem eL_445 : decode code 445 = .ok (.iconst 1, 1) := by decide +kernel
theorem eL_446 : decode code 446 = .ok (.iadd, 1) := by decide +kernel
theorem eL_447 : decode code 447 = .ok (.iaload, 1) := by decide +kernel
theorem eL_448 : decode code 448 = .ok (.aload_n 0, 1) := by decide +kernel
theorem eL_449 : decode code 449 = .ok (.iload_n 3, 1) := by decide +kernel
theorem eL_450 : decode code 450 = .ok (.iconst 2, 1) := by decide +kernel
theorem eL_451 : decode code 451 = .ok (.iadd, 1) := by decide +kernel
theorem eL_452 : decode code 452 = .ok (.iaload, 1) := by decide +kernel
theorem eL_453 : decode code 453 = .ok (.invokevirtual 55, 3) := by decide +kernel
theorem eL_456 : decode code 456 = .ok (.aload_n 2, 1) := by decide +kernel
theorem eL_457 : decode code 457 = .ok (.aload_n 0, 1) := by decide +kernel
theorem eL_458 : decode code 458 = .ok (.iload_n 3, 1) := by decide +kernel
theorem eL_459 : decode code 459 = .ok (.iconst 1, 1) := by decide +kernel
theorem eL_460 : decode code 460 = .ok (.iadd, 1) := by decide +kernel
theorem eL_461 : decode code 461 = .ok (.iaload, 1) := by decide +kernel
theorem eL_462 : decode code 462 = .ok (.aload_n 0, 1) := by decide +kernel
theorem eL_463 : decode code 463 = .ok (.iload_n 3, 1) := by decide +kernel
theorem eL_464 : decode code 464 = .ok (.iconst 2, 1) := by decide +kernel
theorem eL_465 : decode code 465 = .ok (.iadd, 1) := by decide +kernel
theorem eL_466 : decode code 466 = .ok (.iaload, 1) := by decide +kernel
theorem eL_467 : decode code 467 = .ok (.invokevirtual 58, 3) := by decide +kernel
theorem eL_470 : decode code 470 = .ok (.lcmp, 1) := by decide +kernel
theorem eL_471 : decode code 471 = .ok (.ifCond .eq 226, 3) := by decide +kernel
theorem eL_474 : decode code 474 = .ok (.iconst 0, 1) := by decide +kernel
theorem eL_475 : decode code 475 = .ok (.ireturn, 1) := by decide +kernel
theorem eL_476 : decode code 476 = .ok (.aload_n 1, 1) := by decide +kernel
theorem eL_477 : decode code 477 = .ok (.aload_n 0, 1) := by decide +kernel
theorem eL_478 : decode code 478 = .ok (.iload_n 3, 1) := by decide +kernel
theorem eL_479 : decode code 479 = .ok (.iconst 1, 1) := by decide +kernel
theorem eL_480 : decode code 480 = .ok (.iadd, 1) := by decide +kernel
theorem eL_481 : decode code 481 = .ok (.iaload, 1) := by decide +kernel
theorem eL_482 : decode code 482 = .ok (.invokevirtual 59, 3) := by decide +kernel
theorem eL_485 : decode code 485 = .ok (.aload_n 2, 1) := by decide +kernel
theorem eL_486 : decode code 486 = .ok (.aload_n 0, 1) := by decide +kernel
theorem eL_487 : decode code 487 = .ok (.iload_n 3, 1) := by decide +kernel
theorem eL_488 : decode code 488 = .ok (.iconst 1, 1) := by decide +kernel
theorem eL_489 : decode code 489 = .ok (.iadd, 1) := by decide +kernel
theorem eL_490 : decode code 490 = .ok (.iaload, 1) := by decide +kernel
theorem eL_491 : decode code 491 = .ok (.invokevirtual 63, 3) := by decide +kernel
theorem eL_494 : decode code 494 = .ok (.lcmp, 1) := by decide +kernel
theorem eL_495 : decode code 495 = .ok (.ifCond .eq 202, 3) := by decide +kernel
theorem eL_498 : decode code 498 = .ok (.iconst 0, 1) := by decide +kernel
theorem eL_499 : decode code 499 = .ok (.ireturn, 1) := by decide +kernel
theorem eL_500 : decode code 500 = .ok (.aload_n 1, 1) := by decide +kernel
theorem eL_501 : decode code 501 = .ok (.aload_n 0, 1) := by decide +kernel
theorem eL_502 : decode code 502 = .ok (.iload_n 3, 1) := by decide +kernel
theorem eL_503 : decode code 503 = .ok (.iconst 1, 1) := by decide +kernel
theorem eL_504 : decode code 504 = .ok (.iadd, 1) := by decide +kernel
theorem eL_505 : decode code 505 = .ok (.iaload, 1) := by decide +kernel
theorem eL_506 : decode code 506 = .ok (.invokevirtual 64, 3) := by decide +kernel
theorem eL_509 : decode code 509 = .ok (.aload_n 2, 1) := by decide +kernel
theorem eL_510 : decode code 510 = .ok (.aload_n 0, 1) := by decide +kernel
theorem eL_511 : decode code 511 = .ok (.iload_n 3, 1) := by decide +kernel
theorem eL_512 : decode code 512 = .ok (.iconst 1, 1) := by decide +kernel
theorem eL_513 : decode code 513 = .ok (.iadd, 1) := by decide +kernel
theorem eL_514 : decode code 514 = .ok (.iaload, 1) := by decide +kernel
theorem eL_515 : decode code 515 = .ok (.invokevirtual 67, 3) := by decide +kernel
theorem eL_518 : decode code 518 = .ok (.if_icmp .eq 179, 3) := by decide +kernel
theorem eL_521 : decode code 521 = .ok (.iconst 0, 1) := by decide +kernel
theorem eL_522 : decode code 522 = .ok (.ireturn, 1) := by decide +kernel
theorem eL_523 : decode code 523 = .ok (.aload_n 1, 1) := by decide +kernel
theorem eL_524 : decode code 524 = .ok (.aload_n 0, 1) := by decide +kernel
theorem eL_525 : decode code 525 = .ok (.iload_n 3, 1) := by decide +kernel
theorem eL_526 : decode code 526 = .ok (.iconst 1, 1) := by decide +kernel
theorem eL_527 : decode code 527 = .ok (.iadd, 1) := by decide +kernel
theorem eL_528 : decode code 528 = .ok (.iaload, 1) := by decide +kernel
theorem eL_529 : decode code 529 = .ok (.invokevirtual 68, 3) := by decide +kernel
theorem eL_532 : decode code 532 = .ok (.aload_n 2, 1) := by decide +kernel
theorem eL_533 : decode code 533 = .ok (.aload_n 0, 1) := by decide +kernel
theorem eL_534 : decode code 534 = .ok (.iload_n 3, 1) := by decide +kernel
theorem eL_535 : decode code 535 = .ok (.iconst 1, 1) := by decide +kernel
theorem eL_536 : decode code 536 = .ok (.iadd, 1) := by decide +kernel
theorem eL_537 : decode code 537 = .ok (.iaload, 1) := by decide +kernel
theorem eL_538 : decode code 538 = .ok (.invokevirtual 71, 3) := by decide +kernel
theorem eL_541 : decode code 541 = .ok (.if_icmp .eq 156, 3) := by decide +kernel
theorem eL_544 : decode code 544 = .ok (.iconst 0, 1) := by decide +kernel
theorem eL_545 : decode code 545 = .ok (.ireturn, 1) := by decide +kernel
theorem eL_546 : decode code 546 = .ok (.aload_n 1, 1) := by decide +kernel
theorem eL_547 : decode code 547 = .ok (.aload_n 0, 1) := by decide +kernel
theorem eL_548 : decode code 548 = .ok (.iload_n 3, 1) := by decide +kernel
theorem eL_549 : decode code 549 = .ok (.iconst 1, 1) := by decide +kernel
theorem eL_550 : decode code 550 = .ok (.iadd, 1) := by decide +kernel
theorem eL_551 : decode code 551 = .ok (.iaload, 1) := by decide +kernel
theorem eL_552 : decode code 552 = .ok (.invokevirtual 72, 3) := by decide +kernel
theorem eL_555 : decode code 555 = .ok (.aload_n 2, 1) := by decide +kernel
theorem eL_556 : decode code 556 = .ok (.aload_n 0, 1) := by decide +kernel
theorem eL_557 : decode code 557 = .ok (.iload_n 3, 1) := by decide +kernel
theorem eL_558 : decode code 558 = .ok (.iconst 1, 1) := by decide +kernel
theorem eL_559 : decode code 559 = .ok (.iadd, 1) := by decide +kernel
theorem eL_560 : decode code 560 = .ok (.iaload, 1) := by decide +kernel
theorem eL_561 : decode code 561 = .ok (.invokevirtual 75, 3) := by decide +kernel
theorem eL_564 : decode code 564 = .ok (.if_icmp .eq 133, 3) := by decide +kernel
theorem eL_567 : decode code 567 = .ok (.iconst 0, 1) := by decide +kernel
theorem eL_568 : decode code 568 = .ok (.ireturn, 1) := by decide +kernel
theorem eL_569 : decode code 569 = .ok (.aload_n 1, 1) := by decide +kernel
theorem eL_570 : decode code 570 = .ok (.invokevirtual 76, 3) := by decide +kernel
theorem eL_573 : decode code 573 = .ok (.aload_n 2, 1) := by decide +kernel
theorem eL_574 : decode code 574 = .ok (.invokevirtual 79, 3) := by decide +kernel
theorem eL_577 : decode code 577 = .ok (.if_icmp .eq 120, 3) := by decide +kernel
theorem eL_580 : decode code 580 = .ok (.iconst 0, 1) := by decide +kernel
theorem eL_581 : decode code 581 = .ok (.ireturn, 1) := by decide +kernel
theorem eL_582 : decode code 582 = .ok (.aload_n 1, 1) := by decide +kernel
theorem eL_583 : decode code 583 = .ok (.aload_n 0, 1) := by decide +kernel
theorem eL_584 : decode code 584 = .ok (.iload_n 3, 1) := by decide +kernel
theorem eL_585 : decode code 585 = .ok (.iconst 1, 1) := by decide +kernel
theorem eL_586 : decode code 586 = .ok (.iadd, 1) := by decide +kernel
theorem eL_587 : decode code 587 = .ok (.iaload, 1) := by decide +kernel
theorem eL_588 : decode code 588 = .ok (.aload_n 0, 1) := by decide +kernel
theorem eL_589 : decode code 589 = .ok (.iload_n 3, 1) := by decide +kernel
theorem eL_590 : decode code 590 = .ok (.iconst 2, 1) := by decide +kernel
theorem eL_591 : decode code 591 = .ok (.iadd, 1) := by decide +kernel
theorem eL_592 : decode code 592 = .ok (.iaload, 1) := by decide +kernel
theorem eL_593 : decode code 593 = .ok (.invokevirtual 80, 3) := by decide +kernel
theorem eL_596 : decode code 596 = .ok (.aload_n 2, 1) := by decide +kernel
theorem eL_597 : decode code 597 = .ok (.aload_n 0, 1) := by decide +kernel
theorem eL_598 : decode code 598 = .ok (.iload_n 3, 1) := by decide +kernel
theorem eL_599 : decode code 599 = .ok (.iconst 1, 1) := by decide +kernel
theorem eL_600 : decode code 600 = .ok (.iadd, 1) := by decide +kernel
theorem eL_601 : decode code 601 = .ok (.iaload, 1) := by decide +kernel
theorem eL_602 : decode code 602 = .ok (.aload_n 0, 1) := by decide +kernel
theorem eL_603 : decode code 603 = .ok (.iload_n 3, 1) := by decide +kernel
theorem eL_604 : decode code 604 = .ok (.iconst 2, 1) := by decide +kernel
theorem eL_605 : decode code 605 = .ok (.iadd, 1) := by decide +kernel
theorem eL_606 : decode code 606 = .ok (.iaload, 1) := by decide +kernel
theorem eL_607 : decode code 607 = .ok (.invokevirtual 83, 3) := by decide +kernel
theorem eL_610 : decode code 610 = .ok (.if_icmp .eq 87, 3) := by decide +kernel
theorem eL_613 : decode code 613 = .ok (.iconst 0, 1) := by decide +kernel
theorem eL_614 : decode code 614 = .ok (.ireturn, 1) := by decide +kernel
theorem eL_615 : decode code 615 = .ok (.aload_n 1, 1) := by decide +kernel
theorem eL_616 : decode code 616 = .ok (.aload_n 0, 1) := by decide +kernel
theorem eL_617 : decode code 617 = .ok (.iload_n 3, 1) := by decide +kernel
theorem eL_618 : decode code 618 = .ok (.iconst 1, 1) := by decide +kernel
theorem eL_619 : decode code 619 = .ok (.iadd, 1) := by decide +kernel
theorem eL_620 : decode code 620 = .ok (.iaload, 1) := by decide +kernel
theorem eL_621 : decode code 621 = .ok (.invokevirtual 84, 3) := by decide +kernel
theorem eL_624 : decode code 624 = .ok (.aload_n 2, 1) := by decide +kernel
theorem eL_625 : decode code 625 = .ok (.aload_n 0, 1) := by decide +kernel
theorem eL_626 : decode code 626 = .ok (.iload_n 3, 1) := by decide +kernel
theorem eL_627 : decode code 627 = .ok (.iconst 1, 1) := by decide +kernel
theorem eL_628 : decode code 628 = .ok (.iadd, 1) := by decide +kernel
theorem eL_629 : decode code 629 = .ok (.iaload, 1) := by decide +kernel
theorem eL_630 : decode code 630 = .ok (.invokevirtual 87, 3) := by decide +kernel
theorem eL_633 : decode code 633 = .ok (.if_icmp .eq 64, 3) := by decide +kernel
theorem eL_636 : decode code 636 = .ok (.iconst 0, 1) := by decide +kernel
theorem eL_637 : decode code 637 = .ok (.ireturn, 1) := by decide +kernel
theorem eL_638 : decode code 638 = .ok (.aload_n 1, 1) := by decide +kernel
theorem eL_639 : decode code 639 = .ok (.aload_n 0, 1) := by decide +kernel
theorem eL_640 : decode code 640 = .ok (.iload_n 3, 1) := by decide +kernel
theorem eL_641 : decode code 641 = .ok (.iconst 1, 1) := by decide +kernel
theorem eL_642 : decode code 642 = .ok (.iadd, 1) := by decide +kernel
theorem eL_643 : decode code 643 = .ok (.iaload, 1) := by decide +kernel
theorem eL_644 : decode code 644 = .ok (.invokevirtual 88, 3) := by decide +kernel
theorem eL_647 : decode code 647 = .ok (.aload_n 2, 1) := by decide +kernel
theorem eL_648 : decode code 648 = .ok (.aload_n 0, 1) := by decide +kernel
theorem eL_649 : decode code 649 = .ok (.iload_n 3, 1) := by decide +kernel
theorem eL_650 : decode code 650 = .ok (.iconst 1, 1) := by decide +kernel
theorem eL_651 : decode code 651 = .ok (.iadd, 1) := by decide +kernel
theorem eL_652 : decode code 652 = .ok (.iaload, 1) := by decide +kernel
theorem eL_653 : decode code 653 = .ok (.invokevirtual 91, 3) := by decide +kernel
theorem eL_656 : decode code 656 = .ok (.if_icmp .eq 41, 3) := by decide +kernel
theorem eL_659 : decode code 659 = .ok (.iconst 0, 1) := by decide +kernel
theorem eL_660 : decode code 660 = .ok (.ireturn, 1) := by decide +kernel
theorem eL_661 : decode code 661 = .ok (.aload_n 1, 1) := by decide +kernel
theorem eL_662 : decode code 662 = .ok (.invokevirtual 92, 3) := by decide +kernel
theorem eL_665 : decode code 665 = .ok (.aload_n 2, 1) := by decide +kernel
theorem eL_666 : decode code 666 = .ok (.invokevirtual 95, 3) := by decide +kernel
theorem eL_669 : decode code 669 = .ok (.if_icmp .eq 28, 3) := by decide +kernel
theorem eL_672 : decode code 672 = .ok (.iconst 0, 1) := by decide +kernel
theorem eL_673 : decode code 673 = .ok (.ireturn, 1) := by decide +kernel
theorem eL_674 : decode code 674 = .ok (.aload_n 1, 1) := by decide +kernel
theorem eL_675 : decode code 675 = .ok (.aload_n 0, 1) := by decide +kernel
theorem eL_676 : decode code 676 = .ok (.iload_n 3, 1) := by decide +kernel
theorem eL_677 : decode code 677 = .ok (.iconst 1, 1) := by decide +kernel
theorem eL_678 : decode code 678 = .ok (.iadd, 1) := by decide +kernel
theorem eL_679 : decode code 679 = .ok (.iaload, 1) := by decide +kernel
theorem eL_680 : decode code 680 = .ok (.invokevirtual 96, 3) := by decide +kernel
theorem eL_683 : decode code 683 = .ok (.aload_n 2, 1) := by decide +kernel
theorem eL_684 : decode code 684 = .ok (.aload_n 0, 1) := by decide +kernel
theorem eL_685 : decode code 685 = .ok (.iload_n 3, 1) := by decide +kernel
theorem eL_686 : decode code 686 = .ok (.iconst 1, 1) := by decide +kernel
theorem eL_687 : decode code 687 = .ok (.iadd, 1) := by decide +kernel
theorem eL_688 : decode code 688 = .ok (.iaload, 1) := by decide +kernel
theorem eL_689 : decode code 689 = .ok (.invokevirtual 99, 3) := by decide +kernel
theorem eL_692 : decode code 692 = .ok (.if_icmp .eq 5, 3) := by decide +kernel
theorem eL_695 : decode code 695 = .ok (.iconst 0, 1) := by decide +kernel
theorem eL_696 : decode code 696 = .ok (.ireturn, 1) := by decide +kernel
theorem eL_697 : decode code 697 = .ok (.iinc 3 5, 3) := by decide +kernel
theorem eL_700 : decode code 700 = .ok (.goto (-682), 3) := by decide +kernel
theorem eL_703 : decode code 703 = .ok (.iconst 1, 1) := by decide +kernel
theorem eL_704 : decode code 704 = .ok (.ireturn, 1) := by decide +kernel
