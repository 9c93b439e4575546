-- ===== end of PART A; then your names; then what follows =====
/-! THE CLAIM OUT OF ONE WALK OF THE LAW'S BODY. Your part is whole_start (and what it stands on); all else here is the same for every law, but numbers. -/
def R_law : String := "GlyphPositionsLaw"
def lw_P (b : Addr) (xs : List Int32) (args : Array Value) (s : State) : Prop := args = #[.ref b] ∧ s.IntsAt b xs ∧ xs.length ≤ 2560 ∧ (Jvm.Cond.and given_1 narrow_1).before args s = true
def lw_Q (_ : Array Value) (s : State) (o : Outcome) (t : State) : Prop := o = .returned (some (.int 1)) ∧ Framed s o t [] 1096 67376
def lw_Z (below : List Frame) (a : Array Value) (s : State) : State → Prop := fun t => ∃ o, t.status = .running ∧ Ended t below o ∧ lw_Q a s o t
/-- the law's own end, with 1 on the stack, nothing written that was there before, its room as the claim has it -/
theorem lw_ret {p : Program} {l : Launch} {e : Env} {s : State} {m : MethodId} {below : List Frame} {meth : Method} {c : Code} {b : Nat} (hx : p.tables.exec = Jvm.exec) (hb : c.code = code) (hr : meth.sig.returnType = ret) (hlocks : meth.locks = false) {pc : Nat} {H : Heap} {ls : Array Slot} (hdg : decode code pc = .ok (.ireturn, 1)) : W p l e room_1 s m #[Value.ref b] below meth c H [] 1096 67376 (lw_Z below #[Value.ref b] s) (F0 m pc ls [.int 1]) := by
  intro T hT X
  obtain ⟨fs, hret, hrun, hended, hW, hframe⟩ := X.leave (v := some (.int 1)) (hlocks := hlocks) (fun h => by rw [hr] at h; cases h)
  have hmeth' : T.vm.method? m = some meth := X.method'
  refine ⟨T.setFrames fs, ?_, .returned (some (.int 1)), hrun, hended, rfl, ⟨_, rfl⟩, hW, hframe⟩
  jvm_step X.here [X.here.top, hx, hb, hdg, hmeth', hr, ret, narrow_b1]
  (try refine ⟨rfl, ?_⟩); (try refine ⟨rfl, ?_⟩)
  first | (intro acts; rw [hret _ acts rfl rfl rfl]) | rw [hret _ _ rfl rfl rfl]
  exact Steps.refl _
/-- what holds at the law's entry: the machine, the code, the tables' words (any of lw_tbl by 'hts w (by decide +kernel)'), the script of L ints xs at the cell b, what the Statement gives of the start (any of its parts by flat_of_before) -/
def lw_At (p : Program) (s : State) (m : MethodId) (meth : Method) (c : Code) (b L : Nat) (xs : Nat → Int32) : Prop :=
  p.tables.exec = Jvm.exec ∧ c.code = code ∧ meth.sig.returnType = ret ∧ c.maxLocals = 7 ∧ s.vm.findClass R_law = some m.cls ∧ (∀ w ∈ lw_tbl, w.before #[Value.ref b] s = true) ∧ va_X b L xs s s.heap ∧ b < s.heap.size ∧ meth.locks = false ∧ (Jvm.Cond.and given_1 narrow_1).before #[Value.ref b] s = true
theorem d_law_0 : decode code 0 = .ok (.new 8, 3) := by decide +kernel
theorem d_law_3 : decode code 3 = .ok (.dup, 1) := by decide +kernel
theorem d_law_4 : decode code 4 = .ok (.invokespecial 42, 3) := by decide +kernel
theorem d_law_7 : decode code 7 = .ok (.astore_n 1, 1) := by decide +kernel
theorem d_law_8 : decode code 8 = .ok (.new 43, 3) := by decide +kernel
theorem d_law_11 : decode code 11 = .ok (.dup, 1) := by decide +kernel
theorem d_law_12 : decode code 12 = .ok (.invokespecial 45, 3) := by decide +kernel
theorem d_law_15 : decode code 15 = .ok (.astore_n 2, 1) := by decide +kernel
theorem d_law_16 : decode code 16 = .ok (.iconst 1, 1) := by decide +kernel
theorem d_law_17 : decode code 17 = .ok (.newarray .long, 2) := by decide +kernel
theorem d_law_19 : decode code 19 = .ok (.astore_n 3, 1) := by decide +kernel
theorem d_law_20 : decode code 20 = .ok (.iconst 0, 1) := by decide +kernel
theorem d_law_21 : decode code 21 = .ok (.istore 4, 2) := by decide +kernel
theorem d_law_23 : decode code 23 = .ok (.iload 4, 2) := by decide +kernel
theorem d_law_25 : decode code 25 = .ok (.aload_n 0, 1) := by decide +kernel
theorem d_law_26 : decode code 26 = .ok (.arraylength, 1) := by decide +kernel
theorem d_law_27 : decode code 27 = .ok (.iconst 5, 1) := by decide +kernel
theorem d_law_28 : decode code 28 = .ok (.isub, 1) := by decide +kernel
theorem d_law_29 : decode code 29 = .ok (.if_icmp .gt 656, 3) := by decide +kernel
theorem d_law_32 : decode code 32 = .ok (.aload_n 0, 1) := by decide +kernel
theorem d_law_33 : decode code 33 = .ok (.iload 4, 2) := by decide +kernel
theorem d_law_35 : decode code 35 = .ok (.iaload, 1) := by decide +kernel
theorem d_law_36 : decode code 36 = .ok (.bipush 15, 2) := by decide +kernel
theorem d_law_38 : decode code 38 = .ok (.iand, 1) := by decide +kernel
theorem d_law_39 : decode code 39 = .ok (.tableswitch 640 0 11 #[61, 86, 154, 210, 223, 295, 308, 343, 407, 487, 500, 572], 61) := by decide +kernel
theorem d_law_100 : decode code 100 = .ok (.aload_n 1, 1) := by decide +kernel
theorem d_law_101 : decode code 101 = .ok (.aload_n 0, 1) := by decide +kernel
theorem d_law_102 : decode code 102 = .ok (.iload 4, 2) := by decide +kernel
theorem d_law_104 : decode code 104 = .ok (.iconst 1, 1) := by decide +kernel
theorem d_law_105 : decode code 105 = .ok (.iadd, 1) := by decide +kernel
theorem d_law_106 : decode code 106 = .ok (.iaload, 1) := by decide +kernel
theorem d_law_107 : decode code 107 = .ok (.invokevirtual 46, 3) := by decide +kernel
theorem d_law_110 : decode code 110 = .ok (.aload_n 2, 1) := by decide +kernel
theorem d_law_111 : decode code 111 = .ok (.aload_n 0, 1) := by decide +kernel
theorem d_law_112 : decode code 112 = .ok (.iload 4, 2) := by decide +kernel
theorem d_law_114 : decode code 114 = .ok (.iconst 1, 1) := by decide +kernel
theorem d_law_115 : decode code 115 = .ok (.iadd, 1) := by decide +kernel
theorem d_law_116 : decode code 116 = .ok (.iaload, 1) := by decide +kernel
theorem d_law_117 : decode code 117 = .ok (.invokevirtual 49, 3) := by decide +kernel
theorem d_law_120 : decode code 120 = .ok (.if_icmp .eq 559, 3) := by decide +kernel
theorem d_law_123 : decode code 123 = .ok (.iconst 0, 1) := by decide +kernel
theorem d_law_124 : decode code 124 = .ok (.ireturn, 1) := by decide +kernel
theorem d_law_125 : decode code 125 = .ok (.aload_n 1, 1) := by decide +kernel
theorem d_law_126 : decode code 126 = .ok (.aload_n 0, 1) := by decide +kernel
theorem d_law_127 : decode code 127 = .ok (.iload 4, 2) := by decide +kernel
theorem d_law_129 : decode code 129 = .ok (.iconst 1, 1) := by decide +kernel
theorem d_law_130 : decode code 130 = .ok (.iadd, 1) := by decide +kernel
theorem d_law_131 : decode code 131 = .ok (.iaload, 1) := by decide +kernel
theorem d_law_132 : decode code 132 = .ok (.aload_n 0, 1) := by decide +kernel
theorem d_law_133 : decode code 133 = .ok (.iload 4, 2) := by decide +kernel
theorem d_law_135 : decode code 135 = .ok (.iconst 2, 1) := by decide +kernel
theorem d_law_136 : decode code 136 = .ok (.iadd, 1) := by decide +kernel
theorem d_law_137 : decode code 137 = .ok (.iaload, 1) := by decide +kernel
theorem d_law_138 : decode code 138 = .ok (.aload_n 3, 1) := by decide +kernel
theorem d_law_139 : decode code 139 = .ok (.invokestatic 50, 3) := by decide +kernel
theorem d_law_142 : decode code 142 = .ok (.istore 5, 2) := by decide +kernel
theorem d_law_144 : decode code 144 = .ok (.aload_n 2, 1) := by decide +kernel
theorem d_law_145 : decode code 145 = .ok (.aload_n 0, 1) := by decide +kernel
theorem d_law_146 : decode code 146 = .ok (.iload 4, 2) := by decide +kernel
theorem d_law_148 : decode code 148 = .ok (.iconst 1, 1) := by decide +kernel
theorem d_law_149 : decode code 149 = .ok (.iadd, 1) := by decide +kernel
theorem d_law_150 : decode code 150 = .ok (.iaload, 1) := by decide +kernel
theorem d_law_151 : decode code 151 = .ok (.aload_n 0, 1) := by decide +kernel
theorem d_law_152 : decode code 152 = .ok (.iload 4, 2) := by decide +kernel
theorem d_law_154 : decode code 154 = .ok (.iconst 2, 1) := by decide +kernel
theorem d_law_155 : decode code 155 = .ok (.iadd, 1) := by decide +kernel
theorem d_law_156 : decode code 156 = .ok (.iaload, 1) := by decide +kernel
theorem d_law_157 : decode code 157 = .ok (.invokevirtual 55, 3) := by decide +kernel
theorem d_law_160 : decode code 160 = .ok (.istore 6, 2) := by decide +kernel
theorem d_law_162 : decode code 162 = .ok (.aload_n 2, 1) := by decide +kernel
theorem d_law_163 : decode code 163 = .ok (.invokevirtual 56, 3) := by decide +kernel
theorem d_law_166 : decode code 166 = .ok (.iload 5, 2) := by decide +kernel
theorem d_law_168 : decode code 168 = .ok (.if_icmp .eq 5, 3) := by decide +kernel
theorem d_law_171 : decode code 171 = .ok (.iconst 0, 1) := by decide +kernel
theorem d_law_172 : decode code 172 = .ok (.ireturn, 1) := by decide +kernel
theorem d_law_173 : decode code 173 = .ok (.iload 5, 2) := by decide +kernel
theorem d_law_175 : decode code 175 = .ok (.ifCond .ne 15, 3) := by decide +kernel
theorem d_law_178 : decode code 178 = .ok (.aload_n 3, 1) := by decide +kernel
theorem d_law_179 : decode code 179 = .ok (.iconst 0, 1) := by decide +kernel
theorem d_law_180 : decode code 180 = .ok (.laload, 1) := by decide +kernel
theorem d_law_181 : decode code 181 = .ok (.iload 6, 2) := by decide +kernel
theorem d_law_183 : decode code 183 = .ok (.i2l, 1) := by decide +kernel
theorem d_law_184 : decode code 184 = .ok (.lcmp, 1) := by decide +kernel
theorem d_law_185 : decode code 185 = .ok (.ifCond .eq 5, 3) := by decide +kernel
theorem d_law_188 : decode code 188 = .ok (.iconst 0, 1) := by decide +kernel
theorem d_law_189 : decode code 189 = .ok (.ireturn, 1) := by decide +kernel
theorem d_law_190 : decode code 190 = .ok (.goto 489, 3) := by decide +kernel
theorem d_law_193 : decode code 193 = .ok (.aload_n 1, 1) := by decide +kernel
theorem d_law_194 : decode code 194 = .ok (.aload_n 0, 1) := by decide +kernel
theorem d_law_195 : decode code 195 = .ok (.iload 4, 2) := by decide +kernel
theorem d_law_197 : decode code 197 = .ok (.iconst 1, 1) := by decide +kernel
theorem d_law_198 : decode code 198 = .ok (.iadd, 1) := by decide +kernel
theorem d_law_199 : decode code 199 = .ok (.iaload, 1) := by decide +kernel
theorem d_law_200 : decode code 200 = .ok (.aload_n 3, 1) := by decide +kernel
theorem d_law_201 : decode code 201 = .ok (.invokestatic 60, 3) := by decide +kernel
theorem d_law_204 : decode code 204 = .ok (.istore 5, 2) := by decide +kernel
theorem d_law_206 : decode code 206 = .ok (.aload_n 2, 1) := by decide +kernel
theorem d_law_207 : decode code 207 = .ok (.aload_n 0, 1) := by decide +kernel
theorem d_law_208 : decode code 208 = .ok (.iload 4, 2) := by decide +kernel
theorem d_law_210 : decode code 210 = .ok (.iconst 1, 1) := by decide +kernel
theorem d_law_211 : decode code 211 = .ok (.iadd, 1) := by decide +kernel
theorem d_law_212 : decode code 212 = .ok (.iaload, 1) := by decide +kernel
theorem d_law_213 : decode code 213 = .ok (.invokevirtual 63, 3) := by decide +kernel
theorem d_law_216 : decode code 216 = .ok (.istore 6, 2) := by decide +kernel
theorem d_law_218 : decode code 218 = .ok (.aload_n 2, 1) := by decide +kernel
theorem d_law_219 : decode code 219 = .ok (.invokevirtual 56, 3) := by decide +kernel
theorem d_law_222 : decode code 222 = .ok (.iload 5, 2) := by decide +kernel
theorem d_law_224 : decode code 224 = .ok (.if_icmp .eq 5, 3) := by decide +kernel
theorem d_law_227 : decode code 227 = .ok (.iconst 0, 1) := by decide +kernel
theorem d_law_228 : decode code 228 = .ok (.ireturn, 1) := by decide +kernel
theorem d_law_229 : decode code 229 = .ok (.iload 5, 2) := by decide +kernel
theorem d_law_231 : decode code 231 = .ok (.ifCond .ne 15, 3) := by decide +kernel
theorem d_law_234 : decode code 234 = .ok (.aload_n 3, 1) := by decide +kernel
theorem d_law_235 : decode code 235 = .ok (.iconst 0, 1) := by decide +kernel
theorem d_law_236 : decode code 236 = .ok (.laload, 1) := by decide +kernel
theorem d_law_237 : decode code 237 = .ok (.iload 6, 2) := by decide +kernel
theorem d_law_239 : decode code 239 = .ok (.i2l, 1) := by decide +kernel
theorem d_law_240 : decode code 240 = .ok (.lcmp, 1) := by decide +kernel
theorem d_law_241 : decode code 241 = .ok (.ifCond .eq 5, 3) := by decide +kernel
theorem d_law_244 : decode code 244 = .ok (.iconst 0, 1) := by decide +kernel
theorem d_law_245 : decode code 245 = .ok (.ireturn, 1) := by decide +kernel
theorem d_law_246 : decode code 246 = .ok (.goto 433, 3) := by decide +kernel
theorem d_law_249 : decode code 249 = .ok (.aload_n 1, 1) := by decide +kernel
theorem d_law_250 : decode code 250 = .ok (.invokevirtual 64, 3) := by decide +kernel
theorem d_law_253 : decode code 253 = .ok (.aload_n 2, 1) := by decide +kernel
theorem d_law_254 : decode code 254 = .ok (.invokevirtual 67, 3) := by decide +kernel
theorem d_law_257 : decode code 257 = .ok (.if_icmp .eq 422, 3) := by decide +kernel
theorem d_law_260 : decode code 260 = .ok (.iconst 0, 1) := by decide +kernel
theorem d_law_261 : decode code 261 = .ok (.ireturn, 1) := by decide +kernel
theorem d_law_262 : decode code 262 = .ok (.aload_n 1, 1) := by decide +kernel
theorem d_law_263 : decode code 263 = .ok (.aload_n 0, 1) := by decide +kernel
theorem d_law_264 : decode code 264 = .ok (.iload 4, 2) := by decide +kernel
theorem d_law_266 : decode code 266 = .ok (.iconst 1, 1) := by decide +kernel
theorem d_law_267 : decode code 267 = .ok (.iadd, 1) := by decide +kernel
theorem d_law_268 : decode code 268 = .ok (.iaload, 1) := by decide +kernel
theorem d_law_269 : decode code 269 = .ok (.aload_n 0, 1) := by decide +kernel
theorem d_law_270 : decode code 270 = .ok (.iload 4, 2) := by decide +kernel
theorem d_law_272 : decode code 272 = .ok (.iconst 2, 1) := by decide +kernel
theorem d_law_273 : decode code 273 = .ok (.iadd, 1) := by decide +kernel
theorem d_law_274 : decode code 274 = .ok (.iaload, 1) := by decide +kernel
theorem d_law_275 : decode code 275 = .ok (.aload_n 0, 1) := by decide +kernel
theorem d_law_276 : decode code 276 = .ok (.iload 4, 2) := by decide +kernel
theorem d_law_278 : decode code 278 = .ok (.iconst 3, 1) := by decide +kernel
theorem d_law_279 : decode code 279 = .ok (.iadd, 1) := by decide +kernel
theorem d_law_280 : decode code 280 = .ok (.iaload, 1) := by decide +kernel
theorem d_law_281 : decode code 281 = .ok (.aload_n 0, 1) := by decide +kernel
theorem d_law_282 : decode code 282 = .ok (.iload 4, 2) := by decide +kernel
theorem d_law_284 : decode code 284 = .ok (.iconst 4, 1) := by decide +kernel
theorem d_law_285 : decode code 285 = .ok (.iadd, 1) := by decide +kernel
theorem d_law_286 : decode code 286 = .ok (.iaload, 1) := by decide +kernel
theorem d_law_287 : decode code 287 = .ok (.invokestatic 68, 3) := by decide +kernel
theorem d_law_290 : decode code 290 = .ok (.istore 5, 2) := by decide +kernel
theorem d_law_292 : decode code 292 = .ok (.aload_n 2, 1) := by decide +kernel
theorem d_law_293 : decode code 293 = .ok (.aload_n 0, 1) := by decide +kernel
theorem d_law_294 : decode code 294 = .ok (.iload 4, 2) := by decide +kernel
theorem d_law_296 : decode code 296 = .ok (.iconst 1, 1) := by decide +kernel
theorem d_law_297 : decode code 297 = .ok (.iadd, 1) := by decide +kernel
theorem d_law_298 : decode code 298 = .ok (.iaload, 1) := by decide +kernel
theorem d_law_299 : decode code 299 = .ok (.aload_n 0, 1) := by decide +kernel
theorem d_law_300 : decode code 300 = .ok (.iload 4, 2) := by decide +kernel
theorem d_law_302 : decode code 302 = .ok (.iconst 2, 1) := by decide +kernel
theorem d_law_303 : decode code 303 = .ok (.iadd, 1) := by decide +kernel
theorem d_law_304 : decode code 304 = .ok (.iaload, 1) := by decide +kernel
theorem d_law_305 : decode code 305 = .ok (.aload_n 0, 1) := by decide +kernel
theorem d_law_306 : decode code 306 = .ok (.iload 4, 2) := by decide +kernel
theorem d_law_308 : decode code 308 = .ok (.iconst 3, 1) := by decide +kernel
theorem d_law_309 : decode code 309 = .ok (.iadd, 1) := by decide +kernel
theorem d_law_310 : decode code 310 = .ok (.iaload, 1) := by decide +kernel
theorem d_law_311 : decode code 311 = .ok (.aload_n 0, 1) := by decide +kernel
theorem d_law_312 : decode code 312 = .ok (.iload 4, 2) := by decide +kernel
theorem d_law_314 : decode code 314 = .ok (.iconst 4, 1) := by decide +kernel
theorem d_law_315 : decode code 315 = .ok (.iadd, 1) := by decide +kernel
theorem d_law_316 : decode code 316 = .ok (.iaload, 1) := by decide +kernel
theorem d_law_317 : decode code 317 = .ok (.invokevirtual 71, 3) := by decide +kernel
theorem d_law_320 : decode code 320 = .ok (.aload_n 2, 1) := by decide +kernel
theorem d_law_321 : decode code 321 = .ok (.invokevirtual 56, 3) := by decide +kernel
theorem d_law_324 : decode code 324 = .ok (.iload 5, 2) := by decide +kernel
theorem d_law_326 : decode code 326 = .ok (.if_icmp .eq 5, 3) := by decide +kernel
theorem d_law_329 : decode code 329 = .ok (.iconst 0, 1) := by decide +kernel
theorem d_law_330 : decode code 330 = .ok (.ireturn, 1) := by decide +kernel
theorem d_law_331 : decode code 331 = .ok (.goto 348, 3) := by decide +kernel
theorem d_law_334 : decode code 334 = .ok (.aload_n 1, 1) := by decide +kernel
theorem d_law_335 : decode code 335 = .ok (.invokevirtual 72, 3) := by decide +kernel
theorem d_law_338 : decode code 338 = .ok (.aload_n 2, 1) := by decide +kernel
theorem d_law_339 : decode code 339 = .ok (.invokevirtual 75, 3) := by decide +kernel
theorem d_law_342 : decode code 342 = .ok (.if_icmp .eq 337, 3) := by decide +kernel
theorem d_law_345 : decode code 345 = .ok (.iconst 0, 1) := by decide +kernel
theorem d_law_346 : decode code 346 = .ok (.ireturn, 1) := by decide +kernel
theorem d_law_347 : decode code 347 = .ok (.aload_n 1, 1) := by decide +kernel
theorem d_law_348 : decode code 348 = .ok (.aload_n 0, 1) := by decide +kernel
theorem d_law_349 : decode code 349 = .ok (.iload 4, 2) := by decide +kernel
theorem d_law_351 : decode code 351 = .ok (.iconst 1, 1) := by decide +kernel
theorem d_law_352 : decode code 352 = .ok (.iadd, 1) := by decide +kernel
theorem d_law_353 : decode code 353 = .ok (.iaload, 1) := by decide +kernel
theorem d_law_354 : decode code 354 = .ok (.aload_n 0, 1) := by decide +kernel
theorem d_law_355 : decode code 355 = .ok (.iload 4, 2) := by decide +kernel
theorem d_law_357 : decode code 357 = .ok (.iconst 2, 1) := by decide +kernel
theorem d_law_358 : decode code 358 = .ok (.iadd, 1) := by decide +kernel
theorem d_law_359 : decode code 359 = .ok (.iaload, 1) := by decide +kernel
theorem d_law_360 : decode code 360 = .ok (.invokevirtual 76, 3) := by decide +kernel
theorem d_law_363 : decode code 363 = .ok (.aload_n 2, 1) := by decide +kernel
theorem d_law_364 : decode code 364 = .ok (.aload_n 0, 1) := by decide +kernel
theorem d_law_365 : decode code 365 = .ok (.iload 4, 2) := by decide +kernel
theorem d_law_367 : decode code 367 = .ok (.iconst 1, 1) := by decide +kernel
theorem d_law_368 : decode code 368 = .ok (.iadd, 1) := by decide +kernel
theorem d_law_369 : decode code 369 = .ok (.iaload, 1) := by decide +kernel
theorem d_law_370 : decode code 370 = .ok (.aload_n 0, 1) := by decide +kernel
theorem d_law_371 : decode code 371 = .ok (.iload 4, 2) := by decide +kernel
theorem d_law_373 : decode code 373 = .ok (.iconst 2, 1) := by decide +kernel
theorem d_law_374 : decode code 374 = .ok (.iadd, 1) := by decide +kernel
theorem d_law_375 : decode code 375 = .ok (.iaload, 1) := by decide +kernel
theorem d_law_376 : decode code 376 = .ok (.invokevirtual 80, 3) := by decide +kernel
theorem d_law_379 : decode code 379 = .ok (.goto 300, 3) := by decide +kernel
theorem d_law_382 : decode code 382 = .ok (.aload_n 1, 1) := by decide +kernel
theorem d_law_383 : decode code 383 = .ok (.aload_n 0, 1) := by decide +kernel
theorem d_law_384 : decode code 384 = .ok (.iload 4, 2) := by decide +kernel
theorem d_law_386 : decode code 386 = .ok (.iconst 1, 1) := by decide +kernel
theorem d_law_387 : decode code 387 = .ok (.iadd, 1) := by decide +kernel
theorem d_law_388 : decode code 388 = .ok (.iaload, 1) := by decide +kernel
theorem d_law_389 : decode code 389 = .ok (.aload_n 0, 1) := by decide +kernel
theorem d_law_390 : decode code 390 = .ok (.iload 4, 2) := by decide +kernel
theorem d_law_392 : decode code 392 = .ok (.iconst 2, 1) := by decide +kernel
theorem d_law_393 : decode code 393 = .ok (.iadd, 1) := by decide +kernel
theorem d_law_394 : decode code 394 = .ok (.iaload, 1) := by decide +kernel
theorem d_law_395 : decode code 395 = .ok (.ifCond .eq 7, 3) := by decide +kernel
theorem d_law_398 : decode code 398 = .ok (.iconst 1, 1) := by decide +kernel
theorem d_law_399 : decode code 399 = .ok (.goto 4, 3) := by decide +kernel
theorem d_law_402 : decode code 402 = .ok (.iconst 0, 1) := by decide +kernel
theorem d_law_403 : decode code 403 = .ok (.invokestatic 81, 3) := by decide +kernel
theorem d_law_406 : decode code 406 = .ok (.istore 5, 2) := by decide +kernel
theorem d_law_408 : decode code 408 = .ok (.aload_n 2, 1) := by decide +kernel
theorem d_law_409 : decode code 409 = .ok (.aload_n 0, 1) := by decide +kernel
theorem d_law_410 : decode code 410 = .ok (.iload 4, 2) := by decide +kernel
theorem d_law_412 : decode code 412 = .ok (.iconst 1, 1) := by decide +kernel
theorem d_law_413 : decode code 413 = .ok (.iadd, 1) := by decide +kernel
theorem d_law_414 : decode code 414 = .ok (.iaload, 1) := by decide +kernel
theorem d_law_415 : decode code 415 = .ok (.aload_n 0, 1) := by decide +kernel
theorem d_law_416 : decode code 416 = .ok (.iload 4, 2) := by decide +kernel
theorem d_law_418 : decode code 418 = .ok (.iconst 2, 1) := by decide +kernel
theorem d_law_419 : decode code 419 = .ok (.iadd, 1) := by decide +kernel
theorem d_law_420 : decode code 420 = .ok (.iaload, 1) := by decide +kernel
theorem d_law_421 : decode code 421 = .ok (.ifCond .eq 7, 3) := by decide +kernel
theorem d_law_424 : decode code 424 = .ok (.iconst 1, 1) := by decide +kernel
theorem d_law_425 : decode code 425 = .ok (.goto 4, 3) := by decide +kernel
theorem d_law_428 : decode code 428 = .ok (.iconst 0, 1) := by decide +kernel
theorem d_law_429 : decode code 429 = .ok (.invokevirtual 84, 3) := by decide +kernel
theorem d_law_432 : decode code 432 = .ok (.aload_n 2, 1) := by decide +kernel
theorem d_law_433 : decode code 433 = .ok (.invokevirtual 56, 3) := by decide +kernel
theorem d_law_436 : decode code 436 = .ok (.iload 5, 2) := by decide +kernel
theorem d_law_438 : decode code 438 = .ok (.if_icmp .eq 5, 3) := by decide +kernel
theorem d_law_441 : decode code 441 = .ok (.iconst 0, 1) := by decide +kernel
theorem d_law_442 : decode code 442 = .ok (.ireturn, 1) := by decide +kernel
theorem d_law_443 : decode code 443 = .ok (.goto 236, 3) := by decide +kernel
theorem d_law_446 : decode code 446 = .ok (.aload_n 1, 1) := by decide +kernel
theorem d_law_447 : decode code 447 = .ok (.aload_n 0, 1) := by decide +kernel
theorem d_law_448 : decode code 448 = .ok (.iload 4, 2) := by decide +kernel
theorem d_law_450 : decode code 450 = .ok (.iconst 1, 1) := by decide +kernel
theorem d_law_451 : decode code 451 = .ok (.iadd, 1) := by decide +kernel
theorem d_law_452 : decode code 452 = .ok (.iaload, 1) := by decide +kernel
theorem d_law_453 : decode code 453 = .ok (.aload_n 0, 1) := by decide +kernel
theorem d_law_454 : decode code 454 = .ok (.iload 4, 2) := by decide +kernel
theorem d_law_456 : decode code 456 = .ok (.iconst 2, 1) := by decide +kernel
theorem d_law_457 : decode code 457 = .ok (.iadd, 1) := by decide +kernel
theorem d_law_458 : decode code 458 = .ok (.iaload, 1) := by decide +kernel
theorem d_law_459 : decode code 459 = .ok (.aload_n 0, 1) := by decide +kernel
theorem d_law_460 : decode code 460 = .ok (.iload 4, 2) := by decide +kernel
theorem d_law_462 : decode code 462 = .ok (.iconst 3, 1) := by decide +kernel
theorem d_law_463 : decode code 463 = .ok (.iadd, 1) := by decide +kernel
theorem d_law_464 : decode code 464 = .ok (.iaload, 1) := by decide +kernel
theorem d_law_465 : decode code 465 = .ok (.aload_n 3, 1) := by decide +kernel
theorem d_law_466 : decode code 466 = .ok (.invokestatic 85, 3) := by decide +kernel
theorem d_law_469 : decode code 469 = .ok (.istore 5, 2) := by decide +kernel
theorem d_law_471 : decode code 471 = .ok (.aload_n 2, 1) := by decide +kernel
theorem d_law_472 : decode code 472 = .ok (.aload_n 0, 1) := by decide +kernel
theorem d_law_473 : decode code 473 = .ok (.iload 4, 2) := by decide +kernel
theorem d_law_475 : decode code 475 = .ok (.iconst 1, 1) := by decide +kernel
theorem d_law_476 : decode code 476 = .ok (.iadd, 1) := by decide +kernel
theorem d_law_477 : decode code 477 = .ok (.iaload, 1) := by decide +kernel
theorem d_law_478 : decode code 478 = .ok (.aload_n 0, 1) := by decide +kernel
theorem d_law_479 : decode code 479 = .ok (.iload 4, 2) := by decide +kernel
theorem d_law_481 : decode code 481 = .ok (.iconst 2, 1) := by decide +kernel
theorem d_law_482 : decode code 482 = .ok (.iadd, 1) := by decide +kernel
theorem d_law_483 : decode code 483 = .ok (.iaload, 1) := by decide +kernel
theorem d_law_484 : decode code 484 = .ok (.aload_n 0, 1) := by decide +kernel
theorem d_law_485 : decode code 485 = .ok (.iload 4, 2) := by decide +kernel
theorem d_law_487 : decode code 487 = .ok (.iconst 3, 1) := by decide +kernel
theorem d_law_488 : decode code 488 = .ok (.iadd, 1) := by decide +kernel
theorem d_law_489 : decode code 489 = .ok (.iaload, 1) := by decide +kernel
theorem d_law_490 : decode code 490 = .ok (.invokevirtual 88, 3) := by decide +kernel
theorem d_law_493 : decode code 493 = .ok (.istore 6, 2) := by decide +kernel
theorem d_law_495 : decode code 495 = .ok (.aload_n 2, 1) := by decide +kernel
theorem d_law_496 : decode code 496 = .ok (.invokevirtual 56, 3) := by decide +kernel
theorem d_law_499 : decode code 499 = .ok (.iload 5, 2) := by decide +kernel
theorem d_law_501 : decode code 501 = .ok (.if_icmp .eq 5, 3) := by decide +kernel
theorem d_law_504 : decode code 504 = .ok (.iconst 0, 1) := by decide +kernel
theorem d_law_505 : decode code 505 = .ok (.ireturn, 1) := by decide +kernel
theorem d_law_506 : decode code 506 = .ok (.iload 5, 2) := by decide +kernel
theorem d_law_508 : decode code 508 = .ok (.ifCond .ne 15, 3) := by decide +kernel
theorem d_law_511 : decode code 511 = .ok (.aload_n 3, 1) := by decide +kernel
theorem d_law_512 : decode code 512 = .ok (.iconst 0, 1) := by decide +kernel
theorem d_law_513 : decode code 513 = .ok (.laload, 1) := by decide +kernel
theorem d_law_514 : decode code 514 = .ok (.iload 6, 2) := by decide +kernel
theorem d_law_516 : decode code 516 = .ok (.i2l, 1) := by decide +kernel
theorem d_law_517 : decode code 517 = .ok (.lcmp, 1) := by decide +kernel
theorem d_law_518 : decode code 518 = .ok (.ifCond .eq 5, 3) := by decide +kernel
theorem d_law_521 : decode code 521 = .ok (.iconst 0, 1) := by decide +kernel
theorem d_law_522 : decode code 522 = .ok (.ireturn, 1) := by decide +kernel
theorem d_law_523 : decode code 523 = .ok (.goto 156, 3) := by decide +kernel
theorem d_law_526 : decode code 526 = .ok (.aload_n 1, 1) := by decide +kernel
theorem d_law_527 : decode code 527 = .ok (.invokevirtual 89, 3) := by decide +kernel
theorem d_law_530 : decode code 530 = .ok (.aload_n 2, 1) := by decide +kernel
theorem d_law_531 : decode code 531 = .ok (.invokevirtual 92, 3) := by decide +kernel
theorem d_law_534 : decode code 534 = .ok (.if_icmp .eq 145, 3) := by decide +kernel
theorem d_law_537 : decode code 537 = .ok (.iconst 0, 1) := by decide +kernel
theorem d_law_538 : decode code 538 = .ok (.ireturn, 1) := by decide +kernel
theorem d_law_539 : decode code 539 = .ok (.aload_n 1, 1) := by decide +kernel
theorem d_law_540 : decode code 540 = .ok (.aload_n 0, 1) := by decide +kernel
theorem d_law_541 : decode code 541 = .ok (.iload 4, 2) := by decide +kernel
theorem d_law_543 : decode code 543 = .ok (.iconst 1, 1) := by decide +kernel
theorem d_law_544 : decode code 544 = .ok (.iadd, 1) := by decide +kernel
theorem d_law_545 : decode code 545 = .ok (.iaload, 1) := by decide +kernel
theorem d_law_546 : decode code 546 = .ok (.ifCond .eq 7, 3) := by decide +kernel
theorem d_law_549 : decode code 549 = .ok (.iconst 1, 1) := by decide +kernel
theorem d_law_550 : decode code 550 = .ok (.goto 4, 3) := by decide +kernel
theorem d_law_553 : decode code 553 = .ok (.iconst 0, 1) := by decide +kernel
theorem d_law_554 : decode code 554 = .ok (.aload_n 3, 1) := by decide +kernel
theorem d_law_555 : decode code 555 = .ok (.invokestatic 93, 3) := by decide +kernel
theorem d_law_558 : decode code 558 = .ok (.istore 5, 2) := by decide +kernel
theorem d_law_560 : decode code 560 = .ok (.aload_n 2, 1) := by decide +kernel
theorem d_law_561 : decode code 561 = .ok (.aload_n 0, 1) := by decide +kernel
theorem d_law_562 : decode code 562 = .ok (.iload 4, 2) := by decide +kernel
theorem d_law_564 : decode code 564 = .ok (.iconst 1, 1) := by decide +kernel
theorem d_law_565 : decode code 565 = .ok (.iadd, 1) := by decide +kernel
theorem d_law_566 : decode code 566 = .ok (.iaload, 1) := by decide +kernel
theorem d_law_567 : decode code 567 = .ok (.ifCond .eq 7, 3) := by decide +kernel
theorem d_law_570 : decode code 570 = .ok (.iconst 1, 1) := by decide +kernel
theorem d_law_571 : decode code 571 = .ok (.goto 4, 3) := by decide +kernel
theorem d_law_574 : decode code 574 = .ok (.iconst 0, 1) := by decide +kernel
theorem d_law_575 : decode code 575 = .ok (.invokevirtual 96, 3) := by decide +kernel
theorem d_law_578 : decode code 578 = .ok (.istore 6, 2) := by decide +kernel
theorem d_law_580 : decode code 580 = .ok (.aload_n 2, 1) := by decide +kernel
theorem d_law_581 : decode code 581 = .ok (.invokevirtual 56, 3) := by decide +kernel
theorem d_law_584 : decode code 584 = .ok (.iload 5, 2) := by decide +kernel
theorem d_law_586 : decode code 586 = .ok (.if_icmp .eq 5, 3) := by decide +kernel
theorem d_law_589 : decode code 589 = .ok (.iconst 0, 1) := by decide +kernel
theorem d_law_590 : decode code 590 = .ok (.ireturn, 1) := by decide +kernel
theorem d_law_591 : decode code 591 = .ok (.iload 5, 2) := by decide +kernel
theorem d_law_593 : decode code 593 = .ok (.ifCond .ne 15, 3) := by decide +kernel
theorem d_law_596 : decode code 596 = .ok (.aload_n 3, 1) := by decide +kernel
theorem d_law_597 : decode code 597 = .ok (.iconst 0, 1) := by decide +kernel
theorem d_law_598 : decode code 598 = .ok (.laload, 1) := by decide +kernel
theorem d_law_599 : decode code 599 = .ok (.iload 6, 2) := by decide +kernel
theorem d_law_601 : decode code 601 = .ok (.i2l, 1) := by decide +kernel
theorem d_law_602 : decode code 602 = .ok (.lcmp, 1) := by decide +kernel
theorem d_law_603 : decode code 603 = .ok (.ifCond .eq 5, 3) := by decide +kernel
theorem d_law_606 : decode code 606 = .ok (.iconst 0, 1) := by decide +kernel
theorem d_law_607 : decode code 607 = .ok (.ireturn, 1) := by decide +kernel
theorem d_law_608 : decode code 608 = .ok (.goto 71, 3) := by decide +kernel
theorem d_law_611 : decode code 611 = .ok (.aload_n 1, 1) := by decide +kernel
theorem d_law_612 : decode code 612 = .ok (.aload_n 0, 1) := by decide +kernel
theorem d_law_613 : decode code 613 = .ok (.iload 4, 2) := by decide +kernel
theorem d_law_615 : decode code 615 = .ok (.iconst 1, 1) := by decide +kernel
theorem d_law_616 : decode code 616 = .ok (.iadd, 1) := by decide +kernel
theorem d_law_617 : decode code 617 = .ok (.iaload, 1) := by decide +kernel
theorem d_law_618 : decode code 618 = .ok (.aload_n 0, 1) := by decide +kernel
theorem d_law_619 : decode code 619 = .ok (.iload 4, 2) := by decide +kernel
theorem d_law_621 : decode code 621 = .ok (.iconst 2, 1) := by decide +kernel
theorem d_law_622 : decode code 622 = .ok (.iadd, 1) := by decide +kernel
theorem d_law_623 : decode code 623 = .ok (.iaload, 1) := by decide +kernel
theorem d_law_624 : decode code 624 = .ok (.aload_n 3, 1) := by decide +kernel
theorem d_law_625 : decode code 625 = .ok (.invokestatic 97, 3) := by decide +kernel
theorem d_law_628 : decode code 628 = .ok (.istore 5, 2) := by decide +kernel
theorem d_law_630 : decode code 630 = .ok (.aload_n 2, 1) := by decide +kernel
theorem d_law_631 : decode code 631 = .ok (.aload_n 0, 1) := by decide +kernel
theorem d_law_632 : decode code 632 = .ok (.iload 4, 2) := by decide +kernel
theorem d_law_634 : decode code 634 = .ok (.iconst 1, 1) := by decide +kernel
theorem d_law_635 : decode code 635 = .ok (.iadd, 1) := by decide +kernel
theorem d_law_636 : decode code 636 = .ok (.iaload, 1) := by decide +kernel
theorem d_law_637 : decode code 637 = .ok (.aload_n 0, 1) := by decide +kernel
theorem d_law_638 : decode code 638 = .ok (.iload 4, 2) := by decide +kernel
theorem d_law_640 : decode code 640 = .ok (.iconst 2, 1) := by decide +kernel
theorem d_law_641 : decode code 641 = .ok (.iadd, 1) := by decide +kernel
theorem d_law_642 : decode code 642 = .ok (.iaload, 1) := by decide +kernel
theorem d_law_643 : decode code 643 = .ok (.invokevirtual 99, 3) := by decide +kernel
theorem d_law_646 : decode code 646 = .ok (.istore 6, 2) := by decide +kernel
theorem d_law_648 : decode code 648 = .ok (.aload_n 2, 1) := by decide +kernel
theorem d_law_649 : decode code 649 = .ok (.invokevirtual 56, 3) := by decide +kernel
theorem d_law_652 : decode code 652 = .ok (.iload 5, 2) := by decide +kernel
theorem d_law_654 : decode code 654 = .ok (.if_icmp .eq 5, 3) := by decide +kernel
theorem d_law_657 : decode code 657 = .ok (.iconst 0, 1) := by decide +kernel
theorem d_law_658 : decode code 658 = .ok (.ireturn, 1) := by decide +kernel
theorem d_law_659 : decode code 659 = .ok (.iload 5, 2) := by decide +kernel
theorem d_law_661 : decode code 661 = .ok (.ifCond .ne 15, 3) := by decide +kernel
theorem d_law_664 : decode code 664 = .ok (.aload_n 3, 1) := by decide +kernel
theorem d_law_665 : decode code 665 = .ok (.iconst 0, 1) := by decide +kernel
theorem d_law_666 : decode code 666 = .ok (.laload, 1) := by decide +kernel
theorem d_law_667 : decode code 667 = .ok (.iload 6, 2) := by decide +kernel
theorem d_law_669 : decode code 669 = .ok (.i2l, 1) := by decide +kernel
theorem d_law_670 : decode code 670 = .ok (.lcmp, 1) := by decide +kernel
theorem d_law_671 : decode code 671 = .ok (.ifCond .eq 5, 3) := by decide +kernel
theorem d_law_674 : decode code 674 = .ok (.iconst 0, 1) := by decide +kernel
theorem d_law_675 : decode code 675 = .ok (.ireturn, 1) := by decide +kernel
theorem d_law_676 : decode code 676 = .ok (.goto 3, 3) := by decide +kernel
theorem d_law_679 : decode code 679 = .ok (.iinc 4 5, 3) := by decide +kernel
theorem d_law_682 : decode code 682 = .ok (.goto (-659), 3) := by decide +kernel
theorem d_law_685 : decode code 685 = .ok (.iconst 1, 1) := by decide +kernel
theorem d_law_686 : decode code 686 = .ok (.ireturn, 1) := by decide +kernel
theorem wq_699 : (Cond.methodLink "GlyphPositionsLaw" (96 : Nat) ({ cls := "GlyphPositionsModel", name := "set", desc := "(Z)I" } : MethodName)) ∈ q_tbl := q_tab5 (List.mem_of_getElem? (i := 102) rfl) rfl
theorem wq_700 : (Cond.methodLink "GlyphPositionsLaw" (56 : Nat) ({ cls := "GlyphPositionsModel", name := "thrown", desc := "()I" } : MethodName)) ∈ q_tbl := q_tab4 (List.mem_of_getElem? (i := 155) rfl) rfl
theorem wq_701 : (Cond.methodLink "GlyphPositionsLaw" (93 : Nat) ({ cls := "GlyphPositionsLaw", name := "set", desc := "(LGlyphPositions;Z[J)I" } : MethodName)) ∈ q_tbl := q_tab3 (List.mem_of_getElem? (i := 132) rfl) rfl
theorem wq_702 : (Cond.methodLink "GlyphPositionsLaw" (84 : Nat) ({ cls := "GlyphPositionsModel", name := "feature", desc := "(IZ)V" } : MethodName)) ∈ q_tbl := q_tab5 (List.mem_of_getElem? (i := 86) rfl) rfl
theorem wq_703 : (Cond.methodLink "GlyphPositionsLaw" (81 : Nat) ({ cls := "GlyphPositionsLaw", name := "feature", desc := "(LGlyphPositions;IZ)I" } : MethodName)) ∈ q_tbl := q_tab3 (List.mem_of_getElem? (i := 103) rfl) rfl
theorem wq_704 : (Cond.methodLink "GlyphPositionsLaw" (46 : Nat) ({ cls := "GlyphPositions", name := "feed", desc := "(I)I" } : MethodName)) ∈ q_tbl := q_tab2 (List.mem_of_getElem? (i := 17) rfl) rfl
theorem wq_705 : (Cond.methodLink "GlyphPositionsLaw" (49 : Nat) ({ cls := "GlyphPositionsModel", name := "feed", desc := "(I)I" } : MethodName)) ∈ q_tbl := q_tab4 (List.mem_of_getElem? (i := 159) rfl) rfl
theorem wq_706 : (Cond.methodLink "GlyphPositionsLaw" (50 : Nat) ({ cls := "GlyphPositionsLaw", name := "put", desc := "(LGlyphPositions;II[J)I" } : MethodName)) ∈ q_tbl := q_tab2 (List.mem_of_getElem? (i := 200) rfl) rfl
theorem wq_707 : (Cond.methodLink "GlyphPositionsLaw" (55 : Nat) ({ cls := "GlyphPositionsModel", name := "put", desc := "(II)I" } : MethodName)) ∈ q_tbl := q_tab4 (List.mem_of_getElem? (i := 163) rfl) rfl
theorem wq_708 : (Cond.methodLink "GlyphPositionsLaw" (60 : Nat) ({ cls := "GlyphPositionsLaw", name := "cut", desc := "(LGlyphPositions;I[J)I" } : MethodName)) ∈ q_tbl := q_tab3 (List.mem_of_getElem? (i := 57) rfl) rfl
theorem wq_709 : (Cond.methodLink "GlyphPositionsLaw" (63 : Nat) ({ cls := "GlyphPositionsModel", name := "cut", desc := "(I)I" } : MethodName)) ∈ q_tbl := q_tab4 (List.mem_of_getElem? (i := 171) rfl) rfl
theorem wq_710 : (Cond.methodLink "GlyphPositionsLaw" (64 : Nat) ({ cls := "GlyphPositions", name := "load", desc := "()I" } : MethodName)) ∈ q_tbl := q_tab2 (List.mem_of_getElem? (i := 25) rfl) rfl
theorem wq_711 : (Cond.methodLink "GlyphPositionsLaw" (67 : Nat) ({ cls := "GlyphPositionsModel", name := "load", desc := "()I" } : MethodName)) ∈ q_tbl := q_tab4 (List.mem_of_getElem? (i := 175) rfl) rfl
theorem wq_712 : (Cond.methodLink "GlyphPositionsLaw" (68 : Nat) ({ cls := "GlyphPositionsLaw", name := "kind", desc := "(LGlyphPositions;IIII)I" } : MethodName)) ∈ q_tbl := q_tab3 (List.mem_of_getElem? (i := 69) rfl) rfl
theorem wq_713 : (Cond.methodLink "GlyphPositionsLaw" (71 : Nat) ({ cls := "GlyphPositionsModel", name := "kind", desc := "(IIII)V" } : MethodName)) ∈ q_tbl := q_tab5 (List.mem_of_getElem? (i := 74) rfl) rfl
theorem wq_714 : (Cond.methodLink "GlyphPositionsLaw" (72 : Nat) ({ cls := "GlyphPositions", name := "forget", desc := "()I" } : MethodName)) ∈ q_tbl := q_tab2 (List.mem_of_getElem? (i := 180) rfl) rfl
theorem wq_715 : (Cond.methodLink "GlyphPositionsLaw" (75 : Nat) ({ cls := "GlyphPositionsModel", name := "forget", desc := "()I" } : MethodName)) ∈ q_tbl := q_tab5 (List.mem_of_getElem? (i := 78) rfl) rfl
theorem wq_716 : (Cond.methodLink "GlyphPositionsLaw" (76 : Nat) ({ cls := "GlyphPositions", name := "choose", desc := "(II)V" } : MethodName)) ∈ q_tbl := q_tab2 (List.mem_of_getElem? (i := 188) rfl) rfl
theorem wq_717 : (Cond.methodLink "GlyphPositionsLaw" (80 : Nat) ({ cls := "GlyphPositionsModel", name := "choose", desc := "(II)V" } : MethodName)) ∈ q_tbl := q_tab5 (List.mem_of_getElem? (i := 82) rfl) rfl
theorem wq_718 : (Cond.methodLink "GlyphPositionsLaw" (85 : Nat) ({ cls := "GlyphPositionsLaw", name := "add", desc := "(LGlyphPositions;III[J)I" } : MethodName)) ∈ q_tbl := q_tab3 (List.mem_of_getElem? (i := 119) rfl) rfl
theorem wq_719 : (Cond.methodLink "GlyphPositionsLaw" (88 : Nat) ({ cls := "GlyphPositionsModel", name := "add", desc := "(III)I" } : MethodName)) ∈ q_tbl := q_tab5 (List.mem_of_getElem? (i := 94) rfl) rfl
theorem wq_720 : (Cond.methodLink "GlyphPositionsLaw" (89 : Nat) ({ cls := "GlyphPositions", name := "clear", desc := "()I" } : MethodName)) ∈ q_tbl := q_tab2 (List.mem_of_getElem? (i := 192) rfl) rfl
theorem wq_721 : (Cond.methodLink "GlyphPositionsLaw" (92 : Nat) ({ cls := "GlyphPositionsModel", name := "clear", desc := "()I" } : MethodName)) ∈ q_tbl := q_tab5 (List.mem_of_getElem? (i := 98) rfl) rfl
theorem wq_722 : (Cond.methodLink "GlyphPositionsLaw" (97 : Nat) ({ cls := "GlyphPositionsLaw", name := "place", desc := "(LGlyphPositions;II[J)I" } : MethodName)) ∈ q_tbl := q_tab4 (List.mem_of_getElem? (i := 33) rfl) rfl
theorem wq_723 : (Cond.methodLink "GlyphPositionsLaw" (99 : Nat) ({ cls := "GlyphPositionsModel", name := "place", desc := "(II)I" } : MethodName)) ∈ q_tbl := q_tab5 (List.mem_of_getElem? (i := 227) rfl) rfl
theorem wq_724 : (Cond.code ({ cls := "GlyphPositionsModel", name := "set", desc := "(Z)I" } : MethodName) prog_12_method_76_code (5 : Nat) (some .int)) ∈ q_tbl := q_tab5 (List.mem_of_getElem? (i := 105) rfl) rfl
theorem wq_725 : (Cond.selects "GlyphPositionsModel" ({ cls := "GlyphPositionsModel", name := "set", desc := "(Z)I" } : MethodName) ({ cls := "GlyphPositionsModel", name := "set", desc := "(Z)I" } : MethodName)) ∈ q_tbl := q_tab5 (List.mem_of_getElem? (i := 104) rfl) rfl
theorem wq_726 : (Cond.instanceMethod ({ cls := "GlyphPositionsModel", name := "set", desc := "(Z)I" } : MethodName)) ∈ q_tbl := q_tab5 (List.mem_of_getElem? (i := 103) rfl) rfl
theorem wq_727 : (Cond.code ({ cls := "GlyphPositionsModel", name := "thrown", desc := "()I" } : MethodName) prog_12_method_2_code (1 : Nat) (some .int)) ∈ q_tbl := q_tab4 (List.mem_of_getElem? (i := 158) rfl) rfl
theorem wq_728 : (Cond.selects "GlyphPositionsModel" ({ cls := "GlyphPositionsModel", name := "thrown", desc := "()I" } : MethodName) ({ cls := "GlyphPositionsModel", name := "thrown", desc := "()I" } : MethodName)) ∈ q_tbl := q_tab4 (List.mem_of_getElem? (i := 157) rfl) rfl
theorem wq_729 : (Cond.instanceMethod ({ cls := "GlyphPositionsModel", name := "thrown", desc := "()I" } : MethodName)) ∈ q_tbl := q_tab4 (List.mem_of_getElem? (i := 156) rfl) rfl
theorem wq_730 : (Cond.code ({ cls := "GlyphPositionsModel", name := "feature", desc := "(IZ)V" } : MethodName) prog_12_method_43_code (4 : Nat) (none : Option Jvm.ClassFile.FieldType)) ∈ q_tbl := q_tab5 (List.mem_of_getElem? (i := 89) rfl) rfl
theorem wq_731 : (Cond.selects "GlyphPositionsModel" ({ cls := "GlyphPositionsModel", name := "feature", desc := "(IZ)V" } : MethodName) ({ cls := "GlyphPositionsModel", name := "feature", desc := "(IZ)V" } : MethodName)) ∈ q_tbl := q_tab5 (List.mem_of_getElem? (i := 88) rfl) rfl
theorem wq_732 : (Cond.instanceMethod ({ cls := "GlyphPositionsModel", name := "feature", desc := "(IZ)V" } : MethodName)) ∈ q_tbl := q_tab5 (List.mem_of_getElem? (i := 87) rfl) rfl
theorem wq_733 : (Cond.code ({ cls := "GlyphPositions", name := "feed", desc := "(I)I" } : MethodName) prog_1_method_2_code (2 : Nat) (some .int)) ∈ q_tbl := q_tab2 (List.mem_of_getElem? (i := 20) rfl) rfl
theorem wq_734 : (Cond.selects "GlyphPositions" ({ cls := "GlyphPositions", name := "feed", desc := "(I)I" } : MethodName) ({ cls := "GlyphPositions", name := "feed", desc := "(I)I" } : MethodName)) ∈ q_tbl := q_tab2 (List.mem_of_getElem? (i := 19) rfl) rfl
theorem wq_735 : (Cond.instanceMethod ({ cls := "GlyphPositions", name := "feed", desc := "(I)I" } : MethodName)) ∈ q_tbl := q_tab2 (List.mem_of_getElem? (i := 18) rfl) rfl
theorem wq_736 : (Cond.code ({ cls := "GlyphPositionsModel", name := "feed", desc := "(I)I" } : MethodName) prog_12_method_4_code (3 : Nat) (some .int)) ∈ q_tbl := q_tab4 (List.mem_of_getElem? (i := 162) rfl) rfl
theorem wq_737 : (Cond.selects "GlyphPositionsModel" ({ cls := "GlyphPositionsModel", name := "feed", desc := "(I)I" } : MethodName) ({ cls := "GlyphPositionsModel", name := "feed", desc := "(I)I" } : MethodName)) ∈ q_tbl := q_tab4 (List.mem_of_getElem? (i := 161) rfl) rfl
theorem wq_738 : (Cond.instanceMethod ({ cls := "GlyphPositionsModel", name := "feed", desc := "(I)I" } : MethodName)) ∈ q_tbl := q_tab4 (List.mem_of_getElem? (i := 160) rfl) rfl
theorem wq_739 : (Cond.code ({ cls := "GlyphPositionsModel", name := "put", desc := "(II)I" } : MethodName) prog_12_method_5_code (5 : Nat) (some .int)) ∈ q_tbl := q_tab4 (List.mem_of_getElem? (i := 166) rfl) rfl
theorem wq_740 : (Cond.selects "GlyphPositionsModel" ({ cls := "GlyphPositionsModel", name := "put", desc := "(II)I" } : MethodName) ({ cls := "GlyphPositionsModel", name := "put", desc := "(II)I" } : MethodName)) ∈ q_tbl := q_tab4 (List.mem_of_getElem? (i := 165) rfl) rfl
theorem wq_741 : (Cond.instanceMethod ({ cls := "GlyphPositionsModel", name := "put", desc := "(II)I" } : MethodName)) ∈ q_tbl := q_tab4 (List.mem_of_getElem? (i := 164) rfl) rfl
theorem wq_742 : (Cond.code ({ cls := "GlyphPositionsModel", name := "cut", desc := "(I)I" } : MethodName) prog_12_method_6_code (3 : Nat) (some .int)) ∈ q_tbl := q_tab4 (List.mem_of_getElem? (i := 174) rfl) rfl
theorem wq_743 : (Cond.selects "GlyphPositionsModel" ({ cls := "GlyphPositionsModel", name := "cut", desc := "(I)I" } : MethodName) ({ cls := "GlyphPositionsModel", name := "cut", desc := "(I)I" } : MethodName)) ∈ q_tbl := q_tab4 (List.mem_of_getElem? (i := 173) rfl) rfl
theorem wq_744 : (Cond.instanceMethod ({ cls := "GlyphPositionsModel", name := "cut", desc := "(I)I" } : MethodName)) ∈ q_tbl := q_tab4 (List.mem_of_getElem? (i := 172) rfl) rfl
theorem wq_745 : (Cond.code ({ cls := "GlyphPositions", name := "load", desc := "()I" } : MethodName) prog_1_method_5_code (1 : Nat) (some .int)) ∈ q_tbl := q_tab2 (List.mem_of_getElem? (i := 28) rfl) rfl
theorem wq_746 : (Cond.selects "GlyphPositions" ({ cls := "GlyphPositions", name := "load", desc := "()I" } : MethodName) ({ cls := "GlyphPositions", name := "load", desc := "()I" } : MethodName)) ∈ q_tbl := q_tab2 (List.mem_of_getElem? (i := 27) rfl) rfl
theorem wq_747 : (Cond.instanceMethod ({ cls := "GlyphPositions", name := "load", desc := "()I" } : MethodName)) ∈ q_tbl := q_tab2 (List.mem_of_getElem? (i := 26) rfl) rfl
theorem wq_748 : (Cond.code ({ cls := "GlyphPositionsModel", name := "load", desc := "()I" } : MethodName) prog_12_method_38_code (2 : Nat) (some .int)) ∈ q_tbl := q_tab4 (List.mem_of_getElem? (i := 178) rfl) rfl
theorem wq_749 : (Cond.selects "GlyphPositionsModel" ({ cls := "GlyphPositionsModel", name := "load", desc := "()I" } : MethodName) ({ cls := "GlyphPositionsModel", name := "load", desc := "()I" } : MethodName)) ∈ q_tbl := q_tab4 (List.mem_of_getElem? (i := 177) rfl) rfl
theorem wq_750 : (Cond.instanceMethod ({ cls := "GlyphPositionsModel", name := "load", desc := "()I" } : MethodName)) ∈ q_tbl := q_tab4 (List.mem_of_getElem? (i := 176) rfl) rfl
theorem wq_751 : (Cond.code ({ cls := "GlyphPositionsModel", name := "kind", desc := "(IIII)V" } : MethodName) prog_12_method_39_code (6 : Nat) (none : Option Jvm.ClassFile.FieldType)) ∈ q_tbl := q_tab5 (List.mem_of_getElem? (i := 77) rfl) rfl
theorem wq_752 : (Cond.selects "GlyphPositionsModel" ({ cls := "GlyphPositionsModel", name := "kind", desc := "(IIII)V" } : MethodName) ({ cls := "GlyphPositionsModel", name := "kind", desc := "(IIII)V" } : MethodName)) ∈ q_tbl := q_tab5 (List.mem_of_getElem? (i := 76) rfl) rfl
theorem wq_753 : (Cond.instanceMethod ({ cls := "GlyphPositionsModel", name := "kind", desc := "(IIII)V" } : MethodName)) ∈ q_tbl := q_tab5 (List.mem_of_getElem? (i := 75) rfl) rfl
theorem wq_754 : (Cond.code ({ cls := "GlyphPositions", name := "forget", desc := "()I" } : MethodName) prog_1_method_7_code (1 : Nat) (some .int)) ∈ q_tbl := q_tab2 (List.mem_of_getElem? (i := 183) rfl) rfl
theorem wq_755 : (Cond.selects "GlyphPositions" ({ cls := "GlyphPositions", name := "forget", desc := "()I" } : MethodName) ({ cls := "GlyphPositions", name := "forget", desc := "()I" } : MethodName)) ∈ q_tbl := q_tab2 (List.mem_of_getElem? (i := 182) rfl) rfl
theorem wq_756 : (Cond.instanceMethod ({ cls := "GlyphPositions", name := "forget", desc := "()I" } : MethodName)) ∈ q_tbl := q_tab2 (List.mem_of_getElem? (i := 181) rfl) rfl
theorem wq_757 : (Cond.code ({ cls := "GlyphPositionsModel", name := "forget", desc := "()I" } : MethodName) prog_12_method_40_code (2 : Nat) (some .int)) ∈ q_tbl := q_tab5 (List.mem_of_getElem? (i := 81) rfl) rfl
theorem wq_758 : (Cond.selects "GlyphPositionsModel" ({ cls := "GlyphPositionsModel", name := "forget", desc := "()I" } : MethodName) ({ cls := "GlyphPositionsModel", name := "forget", desc := "()I" } : MethodName)) ∈ q_tbl := q_tab5 (List.mem_of_getElem? (i := 80) rfl) rfl
theorem wq_759 : (Cond.instanceMethod ({ cls := "GlyphPositionsModel", name := "forget", desc := "()I" } : MethodName)) ∈ q_tbl := q_tab5 (List.mem_of_getElem? (i := 79) rfl) rfl
theorem wq_760 : (Cond.code ({ cls := "GlyphPositions", name := "choose", desc := "(II)V" } : MethodName) prog_1_method_8_code (3 : Nat) (none : Option Jvm.ClassFile.FieldType)) ∈ q_tbl := q_tab2 (List.mem_of_getElem? (i := 191) rfl) rfl
theorem wq_761 : (Cond.selects "GlyphPositions" ({ cls := "GlyphPositions", name := "choose", desc := "(II)V" } : MethodName) ({ cls := "GlyphPositions", name := "choose", desc := "(II)V" } : MethodName)) ∈ q_tbl := q_tab2 (List.mem_of_getElem? (i := 190) rfl) rfl
theorem wq_762 : (Cond.instanceMethod ({ cls := "GlyphPositions", name := "choose", desc := "(II)V" } : MethodName)) ∈ q_tbl := q_tab2 (List.mem_of_getElem? (i := 189) rfl) rfl
theorem wq_763 : (Cond.code ({ cls := "GlyphPositionsModel", name := "choose", desc := "(II)V" } : MethodName) prog_12_method_41_code (3 : Nat) (none : Option Jvm.ClassFile.FieldType)) ∈ q_tbl := q_tab5 (List.mem_of_getElem? (i := 85) rfl) rfl
theorem wq_764 : (Cond.selects "GlyphPositionsModel" ({ cls := "GlyphPositionsModel", name := "choose", desc := "(II)V" } : MethodName) ({ cls := "GlyphPositionsModel", name := "choose", desc := "(II)V" } : MethodName)) ∈ q_tbl := q_tab5 (List.mem_of_getElem? (i := 84) rfl) rfl
theorem wq_765 : (Cond.instanceMethod ({ cls := "GlyphPositionsModel", name := "choose", desc := "(II)V" } : MethodName)) ∈ q_tbl := q_tab5 (List.mem_of_getElem? (i := 83) rfl) rfl
theorem wq_766 : (Cond.code ({ cls := "GlyphPositionsModel", name := "add", desc := "(III)I" } : MethodName) prog_12_method_44_code (5 : Nat) (some .int)) ∈ q_tbl := q_tab5 (List.mem_of_getElem? (i := 97) rfl) rfl
theorem wq_767 : (Cond.selects "GlyphPositionsModel" ({ cls := "GlyphPositionsModel", name := "add", desc := "(III)I" } : MethodName) ({ cls := "GlyphPositionsModel", name := "add", desc := "(III)I" } : MethodName)) ∈ q_tbl := q_tab5 (List.mem_of_getElem? (i := 96) rfl) rfl
theorem wq_768 : (Cond.instanceMethod ({ cls := "GlyphPositionsModel", name := "add", desc := "(III)I" } : MethodName)) ∈ q_tbl := q_tab5 (List.mem_of_getElem? (i := 95) rfl) rfl
theorem wq_769 : (Cond.code ({ cls := "GlyphPositions", name := "clear", desc := "()I" } : MethodName) prog_1_method_11_code (1 : Nat) (some .int)) ∈ q_tbl := q_tab2 (List.mem_of_getElem? (i := 195) rfl) rfl
theorem wq_770 : (Cond.selects "GlyphPositions" ({ cls := "GlyphPositions", name := "clear", desc := "()I" } : MethodName) ({ cls := "GlyphPositions", name := "clear", desc := "()I" } : MethodName)) ∈ q_tbl := q_tab2 (List.mem_of_getElem? (i := 194) rfl) rfl
theorem wq_771 : (Cond.instanceMethod ({ cls := "GlyphPositions", name := "clear", desc := "()I" } : MethodName)) ∈ q_tbl := q_tab2 (List.mem_of_getElem? (i := 193) rfl) rfl
theorem wq_772 : (Cond.code ({ cls := "GlyphPositionsModel", name := "clear", desc := "()I" } : MethodName) prog_12_method_45_code (2 : Nat) (some .int)) ∈ q_tbl := q_tab5 (List.mem_of_getElem? (i := 101) rfl) rfl
theorem wq_773 : (Cond.selects "GlyphPositionsModel" ({ cls := "GlyphPositionsModel", name := "clear", desc := "()I" } : MethodName) ({ cls := "GlyphPositionsModel", name := "clear", desc := "()I" } : MethodName)) ∈ q_tbl := q_tab5 (List.mem_of_getElem? (i := 100) rfl) rfl
theorem wq_774 : (Cond.instanceMethod ({ cls := "GlyphPositionsModel", name := "clear", desc := "()I" } : MethodName)) ∈ q_tbl := q_tab5 (List.mem_of_getElem? (i := 99) rfl) rfl
theorem wq_775 : (Cond.code ({ cls := "GlyphPositionsModel", name := "place", desc := "(II)I" } : MethodName) prog_12_method_77_code (6 : Nat) (some .int)) ∈ q_tbl := q_tab5 (List.mem_of_getElem? (i := 230) rfl) rfl
theorem wq_776 : (Cond.selects "GlyphPositionsModel" ({ cls := "GlyphPositionsModel", name := "place", desc := "(II)I" } : MethodName) ({ cls := "GlyphPositionsModel", name := "place", desc := "(II)I" } : MethodName)) ∈ q_tbl := q_tab5 (List.mem_of_getElem? (i := 229) rfl) rfl
theorem wq_777 : (Cond.instanceMethod ({ cls := "GlyphPositionsModel", name := "place", desc := "(II)I" } : MethodName)) ∈ q_tbl := q_tab5 (List.mem_of_getElem? (i := 228) rfl) rfl
theorem wq_778 : (Cond.codeWith ({ cls := "GlyphPositionsLaw", name := "set", desc := "(LGlyphPositions;Z[J)I" } : MethodName) method_8_code (4 : Nat) (some .int) [((0 : Nat), (9 : Nat), (12 : Nat), (25 : Nat))]) ∈ q_tbl := q_tab3 (List.mem_of_getElem? (i := 134) rfl) rfl
theorem wq_779 : (Cond.initialized "GlyphPositionsLaw") ∈ q_tbl := q_tab1 (List.mem_of_getElem? (i := 0) rfl) rfl
theorem wq_780 : (Cond.static ({ cls := "GlyphPositionsLaw", name := "set", desc := "(LGlyphPositions;Z[J)I" } : MethodName)) ∈ q_tbl := q_tab3 (List.mem_of_getElem? (i := 133) rfl) rfl
theorem wq_781 : (Cond.codeWith ({ cls := "GlyphPositionsLaw", name := "feature", desc := "(LGlyphPositions;IZ)I" } : MethodName) method_6_code (4 : Nat) (some .int) [((0 : Nat), (6 : Nat), (9 : Nat), (25 : Nat))]) ∈ q_tbl := q_tab3 (List.mem_of_getElem? (i := 105) rfl) rfl
theorem wq_782 : (Cond.static ({ cls := "GlyphPositionsLaw", name := "feature", desc := "(LGlyphPositions;IZ)I" } : MethodName)) ∈ q_tbl := q_tab3 (List.mem_of_getElem? (i := 104) rfl) rfl
theorem wq_783 : (Cond.codeWith ({ cls := "GlyphPositionsLaw", name := "put", desc := "(LGlyphPositions;II[J)I" } : MethodName) method_3_code (5 : Nat) (some .int) [((0 : Nat), (10 : Nat), (13 : Nat), (13 : Nat)), ((0 : Nat), (10 : Nat), (17 : Nat), (15 : Nat))]) ∈ q_tbl := q_tab2 (List.mem_of_getElem? (i := 202) rfl) rfl
theorem wq_784 : (Cond.static ({ cls := "GlyphPositionsLaw", name := "put", desc := "(LGlyphPositions;II[J)I" } : MethodName)) ∈ q_tbl := q_tab2 (List.mem_of_getElem? (i := 201) rfl) rfl
theorem wq_785 : (Cond.codeWith ({ cls := "GlyphPositionsLaw", name := "cut", desc := "(LGlyphPositions;I[J)I" } : MethodName) method_4_code (4 : Nat) (some .int) [((0 : Nat), (9 : Nat), (12 : Nat), (15 : Nat))]) ∈ q_tbl := q_tab3 (List.mem_of_getElem? (i := 59) rfl) rfl
theorem wq_786 : (Cond.static ({ cls := "GlyphPositionsLaw", name := "cut", desc := "(LGlyphPositions;I[J)I" } : MethodName)) ∈ q_tbl := q_tab3 (List.mem_of_getElem? (i := 58) rfl) rfl
theorem wq_787 : (Cond.codeWith ({ cls := "GlyphPositionsLaw", name := "kind", desc := "(LGlyphPositions;IIII)I" } : MethodName) method_5_code (6 : Nat) (some .int) [((0 : Nat), (9 : Nat), (12 : Nat), (15 : Nat)), ((0 : Nat), (9 : Nat), (16 : Nat), (25 : Nat))]) ∈ q_tbl := q_tab3 (List.mem_of_getElem? (i := 71) rfl) rfl
theorem wq_788 : (Cond.static ({ cls := "GlyphPositionsLaw", name := "kind", desc := "(LGlyphPositions;IIII)I" } : MethodName)) ∈ q_tbl := q_tab3 (List.mem_of_getElem? (i := 70) rfl) rfl
theorem wq_789 : (Cond.codeWith ({ cls := "GlyphPositionsLaw", name := "add", desc := "(LGlyphPositions;III[J)I" } : MethodName) method_7_code (6 : Nat) (some .int) [((0 : Nat), (12 : Nat), (15 : Nat), (15 : Nat)), ((0 : Nat), (12 : Nat), (19 : Nat), (25 : Nat))]) ∈ q_tbl := q_tab3 (List.mem_of_getElem? (i := 121) rfl) rfl
theorem wq_790 : (Cond.static ({ cls := "GlyphPositionsLaw", name := "add", desc := "(LGlyphPositions;III[J)I" } : MethodName)) ∈ q_tbl := q_tab3 (List.mem_of_getElem? (i := 120) rfl) rfl
theorem wq_791 : (Cond.codeWith ({ cls := "GlyphPositionsLaw", name := "place", desc := "(LGlyphPositions;II[J)I" } : MethodName) method_9_code (5 : Nat) (some .int) [((0 : Nat), (10 : Nat), (13 : Nat), (13 : Nat))]) ∈ q_tbl := q_tab4 (List.mem_of_getElem? (i := 35) rfl) rfl
theorem wq_792 : (Cond.static ({ cls := "GlyphPositionsLaw", name := "place", desc := "(LGlyphPositions;II[J)I" } : MethodName)) ∈ q_tbl := q_tab4 (List.mem_of_getElem? (i := 34) rfl) rfl
theorem cal_GlyphPositionsModel_set : q_calV y_GlyphPositionsModel_set b_GlyphPositionsModel_set 5 ((some .int)) 1 := ⟨⟨wq_724, wq_370, by decide +kernel, by decide +kernel, by decide +kernel⟩, wq_726, wq_725⟩
theorem cal_GlyphPositionsModel_thrown : q_calV y_GlyphPositionsModel_thrown b_GlyphPositionsModel_thrown 1 ((some .int)) 0 := ⟨⟨wq_727, wq_370, by decide +kernel, by decide +kernel, by decide +kernel⟩, wq_729, wq_728⟩
theorem cal_GlyphPositionsModel_feature : q_calV y_GlyphPositionsModel_feature b_GlyphPositionsModel_feature 4 ((none : Option Jvm.ClassFile.FieldType)) 2 := ⟨⟨wq_730, wq_370, by decide +kernel, by decide +kernel, by decide +kernel⟩, wq_732, wq_731⟩
theorem cal_GP_feed : q_calV y_GP_feed b_GP_feed 2 ((some .int)) 1 := ⟨⟨wq_733, wq_280, by decide +kernel, by decide +kernel, by decide +kernel⟩, wq_735, wq_734⟩
theorem cal_GlyphPositionsModel_feed : q_calV y_GlyphPositionsModel_feed b_GlyphPositionsModel_feed 3 ((some .int)) 1 := ⟨⟨wq_736, wq_370, by decide +kernel, by decide +kernel, by decide +kernel⟩, wq_738, wq_737⟩
theorem cal_GlyphPositionsModel_put : q_calV y_GlyphPositionsModel_put b_GlyphPositionsModel_put 5 ((some .int)) 2 := ⟨⟨wq_739, wq_370, by decide +kernel, by decide +kernel, by decide +kernel⟩, wq_741, wq_740⟩
theorem cal_GlyphPositionsModel_cut : q_calV y_GlyphPositionsModel_cut b_GlyphPositionsModel_cut 3 ((some .int)) 1 := ⟨⟨wq_742, wq_370, by decide +kernel, by decide +kernel, by decide +kernel⟩, wq_744, wq_743⟩
theorem cal_GP_load : q_calV y_GP_load b_GP_load 1 ((some .int)) 0 := ⟨⟨wq_745, wq_280, by decide +kernel, by decide +kernel, by decide +kernel⟩, wq_747, wq_746⟩
theorem cal_GlyphPositionsModel_load : q_calV y_GlyphPositionsModel_load b_GlyphPositionsModel_load 2 ((some .int)) 0 := ⟨⟨wq_748, wq_370, by decide +kernel, by decide +kernel, by decide +kernel⟩, wq_750, wq_749⟩
theorem cal_GlyphPositionsModel_kind : q_calV y_GlyphPositionsModel_kind b_GlyphPositionsModel_kind 6 ((none : Option Jvm.ClassFile.FieldType)) 4 := ⟨⟨wq_751, wq_370, by decide +kernel, by decide +kernel, by decide +kernel⟩, wq_753, wq_752⟩
theorem cal_GP_forget : q_calV y_GP_forget b_GP_forget 1 ((some .int)) 0 := ⟨⟨wq_754, wq_280, by decide +kernel, by decide +kernel, by decide +kernel⟩, wq_756, wq_755⟩
theorem cal_GlyphPositionsModel_forget : q_calV y_GlyphPositionsModel_forget b_GlyphPositionsModel_forget 2 ((some .int)) 0 := ⟨⟨wq_757, wq_370, by decide +kernel, by decide +kernel, by decide +kernel⟩, wq_759, wq_758⟩
theorem cal_GP_choose : q_calV y_GP_choose b_GP_choose 3 ((none : Option Jvm.ClassFile.FieldType)) 2 := ⟨⟨wq_760, wq_280, by decide +kernel, by decide +kernel, by decide +kernel⟩, wq_762, wq_761⟩
theorem cal_GlyphPositionsModel_choose : q_calV y_GlyphPositionsModel_choose b_GlyphPositionsModel_choose 3 ((none : Option Jvm.ClassFile.FieldType)) 2 := ⟨⟨wq_763, wq_370, by decide +kernel, by decide +kernel, by decide +kernel⟩, wq_765, wq_764⟩
theorem cal_GlyphPositionsModel_add : q_calV y_GlyphPositionsModel_add b_GlyphPositionsModel_add 5 ((some .int)) 3 := ⟨⟨wq_766, wq_370, by decide +kernel, by decide +kernel, by decide +kernel⟩, wq_768, wq_767⟩
theorem cal_GP_clear : q_calV y_GP_clear b_GP_clear 1 ((some .int)) 0 := ⟨⟨wq_769, wq_280, by decide +kernel, by decide +kernel, by decide +kernel⟩, wq_771, wq_770⟩
theorem cal_GlyphPositionsModel_clear : q_calV y_GlyphPositionsModel_clear b_GlyphPositionsModel_clear 2 ((some .int)) 0 := ⟨⟨wq_772, wq_370, by decide +kernel, by decide +kernel, by decide +kernel⟩, wq_774, wq_773⟩
theorem cal_GlyphPositionsModel_place : q_calV y_GlyphPositionsModel_place b_GlyphPositionsModel_place 6 ((some .int)) 2 := ⟨⟨wq_775, wq_370, by decide +kernel, by decide +kernel, by decide +kernel⟩, wq_777, wq_776⟩
theorem calw_xw_set : q_calW y_GlyphPositionsLaw_set b_GlyphPositionsLaw_set 4 [(0, 9, 12, 25)] 3 := ⟨wq_778, wq_779, by decide +kernel, by decide +kernel, by decide +kernel, wq_780⟩
theorem calw_xw_feature : q_calW y_GlyphPositionsLaw_feature b_GlyphPositionsLaw_feature 4 [(0, 6, 9, 25)] 3 := ⟨wq_781, wq_779, by decide +kernel, by decide +kernel, by decide +kernel, wq_782⟩
theorem calw_xw_put : q_calW y_GlyphPositionsLaw_put b_GlyphPositionsLaw_put 5 [(0, 10, 13, 13), (0, 10, 17, 15)] 4 := ⟨wq_783, wq_779, by decide +kernel, by decide +kernel, by decide +kernel, wq_784⟩
theorem calw_xw_cut : q_calW y_GlyphPositionsLaw_cut b_GlyphPositionsLaw_cut 4 [(0, 9, 12, 15)] 3 := ⟨wq_785, wq_779, by decide +kernel, by decide +kernel, by decide +kernel, wq_786⟩
theorem calw_xw_kind : q_calW y_GlyphPositionsLaw_kind b_GlyphPositionsLaw_kind 6 [(0, 9, 12, 15), (0, 9, 16, 25)] 5 := ⟨wq_787, wq_779, by decide +kernel, by decide +kernel, by decide +kernel, wq_788⟩
theorem calw_xw_add : q_calW y_GlyphPositionsLaw_add b_GlyphPositionsLaw_add 6 [(0, 12, 15, 15), (0, 12, 19, 25)] 5 := ⟨wq_789, wq_779, by decide +kernel, by decide +kernel, by decide +kernel, wq_790⟩
theorem calw_xw_place : q_calW y_GlyphPositionsLaw_place b_GlyphPositionsLaw_place 5 [(0, 10, 13, 13)] 4 := ⟨wq_791, wq_779, by decide +kernel, by decide +kernel, by decide +kernel, wq_792⟩
theorem q_lawret {p : Program} {l : Launch} {e : Env} {s : State} {m : MethodId} {below : List Frame} {meth : Method} {c : Code} {b cells slots n : Nat} {H : Heap} {locs : List Loc} {ls : Array Slot} {pc nL : Nat} {own : String} {D : va_G} {tys : List (ClassId × FieldType)} (hC : q_Cx p s m #[Value.ref b] c code nL own D tys) (hr : meth.sig.returnType = ret) (hlk : meth.locks = false) (hS : va_S (fun q : Nat => s.heap.size ≤ q) s.heap H locs) (hcs : q_cs cells slots n) (hd : decode code pc = .ok (.ireturn, 1)) : W p l e room_1 s m #[Value.ref b] below meth c H locs cells slots (lw_Z below #[Value.ref b] s) (F0 m pc ls [.int 1]) := by
  refine va_forget (fun q hq => hS.2.2 q hq) ?_
  refine W.widen (k := 1096) (n := 67376) hcs.1.1 hcs.1.2 ?_
  exact lw_ret hC.1.1 hC.1.2.1 hr hlk hd
section QO2
variable {p : Program} {l : Launch} {e : Env} {R : Room} {s : State} {m : MethodId} {args : Array Value} {below : List Frame} {meth : Method} {c : Code} {H : Heap} {locs : List Loc} {cells slots : Nat} {Q : State → Prop} {cc : ByteArray} {pc : Nat} {ls : Array Slot} {rest : List Value} {nL : Nat} {own host : String} {st st1 : QSt} {A : Nat → Prop} {G : XG} {idx : Nat}
theorem xl_out (hC : q_Cx p s m args c cc nL own G.1 (xT G)) (hP : va_P G.1 vwCl (wX G st) H) (hd : decode cc pc = .ok (.laload, 1)) (kk : W p l e R s m args below meth c H locs cells slots Q (F0 m (pc + 1) ls (.long (st.2 48 0).toInt64 :: rest))) : W p l e R s m args below meth c H locs cells slots Q (F0 m pc ls (.int 0 :: .ref (G.2.2 59) :: rest)) :=
  va_lald hC.1.1 hC.1.2.1 hC.2.1 hP 59 3 rfl rfl (i := 0) (q_vpb_in (by decide)) hd kk
end QO2
def xw_put (x1 x2 : Int32) (st : QSt) : Option (Int32 × QSt) := match xGlyphPositions_put x1 x2 st with
  | some (ro, so) => some (0, q_pa so 48 0 ro)
  | none => q_bn (xGlyphPositions_put_t x1 x2 st) (fun k => if k = 1 then some (1, st) else (if k = 2 then some (2, st) else (none)))
theorem c_xw_put (l : Launch) (hl0 : l.stackTraces = false) (G : XG) {x1 x2 : Int32} {st : QSt} {rr : Int32} {ss : QSt} (hf : xw_put x1 x2 st = some (rr, ss)) : q_Mw l y_GlyphPositionsLaw_put b_GlyphPositionsLaw_put 5 [(0, 10, 13, 13), (0, 10, 17, 15)] ({ frames := 8, cells := 1, slots := 6, locals := 142 } : Room) G.1 (xT G) (wX G) [.ref (G.2.2 0), .int x1, .int x2, .ref (G.2.2 59)] st rr ss := by
  unfold xw_put at hf
  cases h1 : xGlyphPositions_put x1 x2 st with
  | some q =>
    rw [h1] at hf
    cases hf
    exact cw_put l G h1
  | none =>
    rw [h1] at hf
    obtain ⟨k, h2, hf⟩ := q_bn_some hf
    by_cases k1 : k = 1
    · rw [if_pos k1] at hf
      cases hf
      rw [k1] at h2
      exact cx_put_1 l hl0 G h2
    rw [if_neg k1] at hf
    by_cases k2 : k = 2
    · rw [if_pos k2] at hf
      cases hf
      rw [k2] at h2
      exact cx_put_2 l hl0 G h2
    rw [if_neg k2] at hf
    cases hf
def xw_cut (x1 : Int32) (st : QSt) : Option (Int32 × QSt) := match xGlyphPositions_cut x1 st with
  | some (ro, so) => some (0, q_pa so 48 0 ro)
  | none => q_bn (xGlyphPositions_cut_t x1 st) (fun k => if k = 2 then some (1, st) else (none))
theorem c_xw_cut (l : Launch) (hl0 : l.stackTraces = false) (G : XG) {x1 : Int32} {st : QSt} {rr : Int32} {ss : QSt} (hf : xw_cut x1 st = some (rr, ss)) : q_Mw l y_GlyphPositionsLaw_cut b_GlyphPositionsLaw_cut 4 [(0, 9, 12, 15)] ({ frames := 8, cells := 1, slots := 6, locals := 141 } : Room) G.1 (xT G) (wX G) [.ref (G.2.2 0), .int x1, .ref (G.2.2 59)] st rr ss := by
  unfold xw_cut at hf
  cases h1 : xGlyphPositions_cut x1 st with
  | some q =>
    rw [h1] at hf
    cases hf
    exact cw_cut l G h1
  | none =>
    rw [h1] at hf
    obtain ⟨k, h2, hf⟩ := q_bn_some hf
    by_cases k2 : k = 2
    · rw [if_pos k2] at hf
      cases hf
      rw [k2] at h2
      exact cx_cut_2 l hl0 G h2
    rw [if_neg k2] at hf
    cases hf
def xw_kind (x1 x2 x3 x4 : Int32) (st : QSt) : Option (Int32 × QSt) := match xGlyphPositions_kind x1 x2 x3 x4 st with
  | some so => some (0, so)
  | none => q_bn (xGlyphPositions_kind_t x1 x2 x3 x4 st) (fun k => if k = 2 then some (1, st) else (if k = 3 then some (2, st) else (none)))
theorem c_xw_kind (l : Launch) (hl0 : l.stackTraces = false) (G : XG) {x1 x2 x3 x4 : Int32} {st : QSt} {rr : Int32} {ss : QSt} (hf : xw_kind x1 x2 x3 x4 st = some (rr, ss)) : q_Mw l y_GlyphPositionsLaw_kind b_GlyphPositionsLaw_kind 6 [(0, 9, 12, 15), (0, 9, 16, 25)] ({ frames := 8, cells := 1, slots := 6, locals := 144 } : Room) G.1 (xT G) (wX G) [.ref (G.2.2 0), .int x1, .int x2, .int x3, .int x4] st rr ss := by
  unfold xw_kind at hf
  cases h1 : xGlyphPositions_kind x1 x2 x3 x4 st with
  | some q =>
    rw [h1] at hf
    cases hf
    exact cw_kind l G h1
  | none =>
    rw [h1] at hf
    obtain ⟨k, h2, hf⟩ := q_bn_some hf
    by_cases k2 : k = 2
    · rw [if_pos k2] at hf
      cases hf
      rw [k2] at h2
      exact cx_kind_2 l hl0 G h2
    rw [if_neg k2] at hf
    by_cases k3 : k = 3
    · rw [if_pos k3] at hf
      cases hf
      rw [k3] at h2
      exact cx_kind_3 l hl0 G h2
    rw [if_neg k3] at hf
    cases hf
def xw_feature (N : Nat) (x1 x2 : Int32) (st : QSt) : Option (Int32 × QSt) := match xGlyphPositions_feature N x1 x2 st with
  | some so => some (0, so)
  | none => q_bn (xGlyphPositions_feature_t N x1 x2 st) (fun k => if k = 3 then some (1, st) else (none))
theorem c_xw_feature (l : Launch) (hl0 : l.stackTraces = false) (G : XG) {N : Nat} {x1 x2 : Int32} {st : QSt} {rr : Int32} {ss : QSt} (hf : xw_feature N x1 x2 st = some (rr, ss)) : q_Mw l y_GlyphPositionsLaw_feature b_GlyphPositionsLaw_feature 4 [(0, 6, 9, 25)] ({ frames := 8, cells := 1, slots := 6, locals := 142 } : Room) G.1 (xT G) (wX G) [.ref (G.2.2 0), .int x1, .int x2] st rr ss := by
  unfold xw_feature at hf
  cases h1 : xGlyphPositions_feature N x1 x2 st with
  | some q =>
    rw [h1] at hf
    cases hf
    exact cw_feature l G h1
  | none =>
    rw [h1] at hf
    obtain ⟨k, h2, hf⟩ := q_bn_some hf
    by_cases k3 : k = 3
    · rw [if_pos k3] at hf
      cases hf
      rw [k3] at h2
      exact cx_feature_3 l hl0 G h2
    rw [if_neg k3] at hf
    cases hf
def xw_add (x1 x2 x3 : Int32) (st : QSt) : Option (Int32 × QSt) := match xGlyphPositions_add x1 x2 x3 st with
  | some (ro, so) => some (0, q_pa so 48 0 ro)
  | none => q_bn (xGlyphPositions_add_t x1 x2 x3 st) (fun k => if k = 2 then some (1, st) else (if k = 3 then some (2, st) else (none)))
theorem c_xw_add (l : Launch) (hl0 : l.stackTraces = false) (G : XG) {x1 x2 x3 : Int32} {st : QSt} {rr : Int32} {ss : QSt} (hf : xw_add x1 x2 x3 st = some (rr, ss)) : q_Mw l y_GlyphPositionsLaw_add b_GlyphPositionsLaw_add 6 [(0, 12, 15, 15), (0, 12, 19, 25)] ({ frames := 8, cells := 1, slots := 6, locals := 143 } : Room) G.1 (xT G) (wX G) [.ref (G.2.2 0), .int x1, .int x2, .int x3, .ref (G.2.2 59)] st rr ss := by
  unfold xw_add at hf
  cases h1 : xGlyphPositions_add x1 x2 x3 st with
  | some q =>
    rw [h1] at hf
    cases hf
    exact cw_add l G h1
  | none =>
    rw [h1] at hf
    obtain ⟨k, h2, hf⟩ := q_bn_some hf
    by_cases k2 : k = 2
    · rw [if_pos k2] at hf
      cases hf
      rw [k2] at h2
      exact cx_add_2 l hl0 G h2
    rw [if_neg k2] at hf
    by_cases k3 : k = 3
    · rw [if_pos k3] at hf
      cases hf
      rw [k3] at h2
      exact cx_add_3 l hl0 G h2
    rw [if_neg k3] at hf
    cases hf
def xw_set (N : Nat) (x1 : Int32) (st : QSt) : Option (Int32 × QSt) := match xGlyphPositions_set N x1 st with
  | some (ro, so) => some (0, q_pa so 48 0 ro)
  | none => q_bn (xGlyphPositions_set_t N x1 st) (fun k => if k = 3 then some (1, st) else (none))
theorem c_xw_set (l : Launch) (hl0 : l.stackTraces = false) (G : XG) {N : Nat} {x1 : Int32} {st : QSt} {rr : Int32} {ss : QSt} (hf : xw_set N x1 st = some (rr, ss)) : q_Mw l y_GlyphPositionsLaw_set b_GlyphPositionsLaw_set 4 [(0, 9, 12, 25)] ({ frames := 8, cells := 1, slots := 6, locals := 203 } : Room) G.1 (xT G) (wX G) [.ref (G.2.2 0), .int x1, .ref (G.2.2 59)] st rr ss := by
  unfold xw_set at hf
  cases h1 : xGlyphPositions_set N x1 st with
  | some q =>
    rw [h1] at hf
    cases hf
    exact cw_set l G h1
  | none =>
    rw [h1] at hf
    obtain ⟨k, h2, hf⟩ := q_bn_some hf
    by_cases k3 : k = 3
    · rw [if_pos k3] at hf
      cases hf
      rw [k3] at h2
      exact cx_set_3 l hl0 G h2
    rw [if_neg k3] at hf
    cases hf
def xw_place (N : Nat) (x1 x2 : Int32) (st : QSt) : Option (Int32 × QSt) := match xGlyphPositions_place N x1 x2 st with
  | some ro => some (0, q_pa st 48 0 ro)
  | none => q_bn (xGlyphPositions_place_t N x1 x2 st) (fun k => if k = 1 then some (1, st) else (none))
theorem c_xw_place (l : Launch) (hl0 : l.stackTraces = false) (G : XG) {N : Nat} {x1 x2 : Int32} {st : QSt} {rr : Int32} {ss : QSt} (hf : xw_place N x1 x2 st = some (rr, ss)) : q_Mw l y_GlyphPositionsLaw_place b_GlyphPositionsLaw_place 5 [(0, 10, 13, 13)] ({ frames := 8, cells := 1, slots := 6, locals := 142 } : Room) G.1 (xT G) (wX G) [.ref (G.2.2 0), .int x1, .int x2, .ref (G.2.2 59)] st rr ss := by
  unfold xw_place at hf
  cases h1 : xGlyphPositions_place N x1 x2 st with
  | some q =>
    rw [h1] at hf
    cases hf
    exact cw_place l G h1
  | none =>
    rw [h1] at hf
    obtain ⟨k, h2, hf⟩ := q_bn_some hf
    by_cases k1 : k = 1
    · rw [if_pos k1] at hf
      cases hf
      rw [k1] at h2
      exact cx_place_1 l hl0 G h2
    rw [if_neg k1] at hf
    cases hf
