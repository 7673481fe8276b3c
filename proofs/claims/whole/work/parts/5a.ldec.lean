/-! THE CLAIM OUT OF ONE WALK OF THE LAW'S BODY. Your part is whole_start (and what it stands on); all else here is the same for every law, but numbers. -/
def R_law : String := "StepMachineLaw"
def lw_P (b : Addr) (xs : List Int32) (args : Array Value) (s : State) : Prop := args = #[.ref b] ∧ s.IntsAt b xs ∧ xs.length ≤ 2560 ∧ (Jvm.Cond.and given_1 narrow_1).before args s = true
def lw_Q (_ : Array Value) (s : State) (o : Outcome) (t : State) : Prop := o = .returned (some (.int 1)) ∧ Framed s o t [] 600000 7302250
def lw_Z (below : List Frame) (a : Array Value) (s : State) : State → Prop := fun t => ∃ o, t.status = .running ∧ Ended t below o ∧ lw_Q a s o t
/-- the law's own end, with 1 on the stack, nothing written that was there before, its room as the claim has it -/
theorem lw_ret {p : Program} {l : Launch} {e : Env} {s : State} {m : MethodId} {below : List Frame} {meth : Method} {c : Code} {b : Nat} (hx : p.tables.exec = Jvm.exec) (hb : c.code = code) (hr : meth.sig.returnType = ret) (hlocks : meth.locks = false) {pc : Nat} {H : Heap} {ls : Array Slot} (hdg : decode code pc = .ok (.ireturn, 1)) : W p l e room_1 s m #[Value.ref b] below meth c H [] 600000 7302250 (lw_Z below #[Value.ref b] s) (F0 m pc ls [.int 1]) := by
  intro T hT X
  obtain ⟨fs, hret, hrun, hended, hW, hframe⟩ := X.leave (v := some (.int 1)) (hlocks := hlocks) (fun h => by rw [hr] at h; cases h)
  have hmeth' : T.vm.method? m = some meth := X.method'
  refine ⟨T.setFrames fs, ?_, .returned (some (.int 1)), hrun, hended, rfl, ⟨_, rfl⟩, hW, hframe⟩
  jvm_step X.here [X.here.top, hx, hb, hdg, hmeth', hr, ret, narrow_b1]
  (try refine ⟨rfl, ?_⟩); (try refine ⟨rfl, ?_⟩)
  first | (intro acts; rw [hret _ acts rfl rfl rfl]) | rw [hret _ _ rfl rfl rfl]
  exact Steps.refl _
/-- what holds at the law's entry: the machine, the code, the tables' words (any of lw_tbl by 'hts w (by decide +kernel)'), the script of L ints xs at the cell b, what the Statement gives of the start (any of its parts by flat_of_before) -/
def lw_At (p : Program) (s : State) (m : MethodId) (meth : Method) (c : Code) (b L : Nat) (xs : Nat → Int32) : Prop :=
  p.tables.exec = Jvm.exec ∧ c.code = code ∧ meth.sig.returnType = ret ∧ c.maxLocals = 4 ∧ s.vm.findClass R_law = some m.cls ∧ (∀ w ∈ lw_tbl, w.before #[Value.ref b] s = true) ∧ va_X b L xs s s.heap ∧ b < s.heap.size ∧ meth.locks = false ∧ (Jvm.Cond.and given_1 narrow_1).before #[Value.ref b] s = true
theorem d_L_law_0 : decode code 0 = .ok (.new 7, 3) := by decide +kernel
theorem d_L_law_3 : decode code 3 = .ok (.dup, 1) := by decide +kernel
theorem d_L_law_4 : decode code 4 = .ok (.invokespecial 9, 3) := by decide +kernel
theorem d_L_law_7 : decode code 7 = .ok (.astore_n 1, 1) := by decide +kernel
theorem d_L_law_8 : decode code 8 = .ok (.new 10, 3) := by decide +kernel
theorem d_L_law_11 : decode code 11 = .ok (.dup, 1) := by decide +kernel
theorem d_L_law_12 : decode code 12 = .ok (.invokespecial 12, 3) := by decide +kernel
theorem d_L_law_15 : decode code 15 = .ok (.astore_n 2, 1) := by decide +kernel
theorem d_L_law_16 : decode code 16 = .ok (.iconst 0, 1) := by decide +kernel
theorem d_L_law_17 : decode code 17 = .ok (.istore_n 3, 1) := by decide +kernel
theorem d_L_law_18 : decode code 18 = .ok (.iload_n 3, 1) := by decide +kernel
theorem d_L_law_19 : decode code 19 = .ok (.aload_n 0, 1) := by decide +kernel
theorem d_L_law_20 : decode code 20 = .ok (.arraylength, 1) := by decide +kernel
theorem d_L_law_21 : decode code 21 = .ok (.iconst 5, 1) := by decide +kernel
theorem d_L_law_22 : decode code 22 = .ok (.isub, 1) := by decide +kernel
theorem d_L_law_23 : decode code 23 = .ok (.if_icmp .gt 622, 3) := by decide +kernel
theorem d_L_law_26 : decode code 26 = .ok (.aload_n 0, 1) := by decide +kernel
theorem d_L_law_27 : decode code 27 = .ok (.iload_n 3, 1) := by decide +kernel
theorem d_L_law_28 : decode code 28 = .ok (.iaload, 1) := by decide +kernel
theorem d_L_law_29 : decode code 29 = .ok (.bipush 15, 2) := by decide +kernel
theorem d_L_law_31 : decode code 31 = .ok (.iand, 1) := by decide +kernel
theorem d_L_law_32 : decode code 32 = .ok (.tableswitch 607 0 14 #[76, 129, 178, 215, 288, 311, 344, 367, 430, 479, 492, 515, 538, 561, 584], 76) := by decide +kernel
theorem d_L_law_108 : decode code 108 = .ok (.aload_n 1, 1) := by decide +kernel
theorem d_L_law_109 : decode code 109 = .ok (.aload_n 0, 1) := by decide +kernel
theorem d_L_law_110 : decode code 110 = .ok (.iload_n 3, 1) := by decide +kernel
theorem d_L_law_111 : decode code 111 = .ok (.iconst 1, 1) := by decide +kernel
theorem d_L_law_112 : decode code 112 = .ok (.iadd, 1) := by decide +kernel
theorem d_L_law_113 : decode code 113 = .ok (.iaload, 1) := by decide +kernel
theorem d_L_law_114 : decode code 114 = .ok (.aload_n 0, 1) := by decide +kernel
theorem d_L_law_115 : decode code 115 = .ok (.iload_n 3, 1) := by decide +kernel
theorem d_L_law_116 : decode code 116 = .ok (.iconst 2, 1) := by decide +kernel
theorem d_L_law_117 : decode code 117 = .ok (.iadd, 1) := by decide +kernel
theorem d_L_law_118 : decode code 118 = .ok (.iaload, 1) := by decide +kernel
theorem d_L_law_119 : decode code 119 = .ok (.aload_n 0, 1) := by decide +kernel
theorem d_L_law_120 : decode code 120 = .ok (.iload_n 3, 1) := by decide +kernel
theorem d_L_law_121 : decode code 121 = .ok (.iconst 3, 1) := by decide +kernel
theorem d_L_law_122 : decode code 122 = .ok (.iadd, 1) := by decide +kernel
theorem d_L_law_123 : decode code 123 = .ok (.iaload, 1) := by decide +kernel
theorem d_L_law_124 : decode code 124 = .ok (.aload_n 0, 1) := by decide +kernel
theorem d_L_law_125 : decode code 125 = .ok (.iload_n 3, 1) := by decide +kernel
theorem d_L_law_126 : decode code 126 = .ok (.iconst 4, 1) := by decide +kernel
theorem d_L_law_127 : decode code 127 = .ok (.iadd, 1) := by decide +kernel
theorem d_L_law_128 : decode code 128 = .ok (.iaload, 1) := by decide +kernel
theorem d_L_law_129 : decode code 129 = .ok (.invokevirtual 13, 3) := by decide +kernel
theorem d_L_law_132 : decode code 132 = .ok (.aload_n 2, 1) := by decide +kernel
theorem d_L_law_133 : decode code 133 = .ok (.aload_n 0, 1) := by decide +kernel
theorem d_L_law_134 : decode code 134 = .ok (.iload_n 3, 1) := by decide +kernel
theorem d_L_law_135 : decode code 135 = .ok (.iconst 1, 1) := by decide +kernel
theorem d_L_law_136 : decode code 136 = .ok (.iadd, 1) := by decide +kernel
theorem d_L_law_137 : decode code 137 = .ok (.iaload, 1) := by decide +kernel
theorem d_L_law_138 : decode code 138 = .ok (.aload_n 0, 1) := by decide +kernel
theorem d_L_law_139 : decode code 139 = .ok (.iload_n 3, 1) := by decide +kernel
theorem d_L_law_140 : decode code 140 = .ok (.iconst 2, 1) := by decide +kernel
theorem d_L_law_141 : decode code 141 = .ok (.iadd, 1) := by decide +kernel
theorem d_L_law_142 : decode code 142 = .ok (.iaload, 1) := by decide +kernel
theorem d_L_law_143 : decode code 143 = .ok (.aload_n 0, 1) := by decide +kernel
theorem d_L_law_144 : decode code 144 = .ok (.iload_n 3, 1) := by decide +kernel
theorem d_L_law_145 : decode code 145 = .ok (.iconst 3, 1) := by decide +kernel
theorem d_L_law_146 : decode code 146 = .ok (.iadd, 1) := by decide +kernel
theorem d_L_law_147 : decode code 147 = .ok (.iaload, 1) := by decide +kernel
theorem d_L_law_148 : decode code 148 = .ok (.aload_n 0, 1) := by decide +kernel
theorem d_L_law_149 : decode code 149 = .ok (.iload_n 3, 1) := by decide +kernel
theorem d_L_law_150 : decode code 150 = .ok (.iconst 4, 1) := by decide +kernel
theorem d_L_law_151 : decode code 151 = .ok (.iadd, 1) := by decide +kernel
theorem d_L_law_152 : decode code 152 = .ok (.iaload, 1) := by decide +kernel
theorem d_L_law_153 : decode code 153 = .ok (.invokevirtual 17, 3) := by decide +kernel
theorem d_L_law_156 : decode code 156 = .ok (.if_icmp .eq 483, 3) := by decide +kernel
theorem d_L_law_159 : decode code 159 = .ok (.iconst 0, 1) := by decide +kernel
theorem d_L_law_160 : decode code 160 = .ok (.ireturn, 1) := by decide +kernel
theorem d_L_law_161 : decode code 161 = .ok (.aload_n 1, 1) := by decide +kernel
theorem d_L_law_162 : decode code 162 = .ok (.aload_n 0, 1) := by decide +kernel
theorem d_L_law_163 : decode code 163 = .ok (.iload_n 3, 1) := by decide +kernel
theorem d_L_law_164 : decode code 164 = .ok (.iconst 1, 1) := by decide +kernel
theorem d_L_law_165 : decode code 165 = .ok (.iadd, 1) := by decide +kernel
theorem d_L_law_166 : decode code 166 = .ok (.iaload, 1) := by decide +kernel
theorem d_L_law_167 : decode code 167 = .ok (.aload_n 0, 1) := by decide +kernel
theorem d_L_law_168 : decode code 168 = .ok (.iload_n 3, 1) := by decide +kernel
theorem d_L_law_169 : decode code 169 = .ok (.iconst 2, 1) := by decide +kernel
theorem d_L_law_170 : decode code 170 = .ok (.iadd, 1) := by decide +kernel
theorem d_L_law_171 : decode code 171 = .ok (.iaload, 1) := by decide +kernel
theorem d_L_law_172 : decode code 172 = .ok (.ifCond .eq 7, 3) := by decide +kernel
theorem d_L_law_175 : decode code 175 = .ok (.iconst 1, 1) := by decide +kernel
theorem d_L_law_176 : decode code 176 = .ok (.goto 4, 3) := by decide +kernel
theorem d_L_law_179 : decode code 179 = .ok (.iconst 0, 1) := by decide +kernel
theorem d_L_law_180 : decode code 180 = .ok (.invokevirtual 18, 3) := by decide +kernel
theorem d_L_law_183 : decode code 183 = .ok (.aload_n 2, 1) := by decide +kernel
theorem d_L_law_184 : decode code 184 = .ok (.aload_n 0, 1) := by decide +kernel
theorem d_L_law_185 : decode code 185 = .ok (.iload_n 3, 1) := by decide +kernel
theorem d_L_law_186 : decode code 186 = .ok (.iconst 1, 1) := by decide +kernel
theorem d_L_law_187 : decode code 187 = .ok (.iadd, 1) := by decide +kernel
theorem d_L_law_188 : decode code 188 = .ok (.iaload, 1) := by decide +kernel
theorem d_L_law_189 : decode code 189 = .ok (.aload_n 0, 1) := by decide +kernel
theorem d_L_law_190 : decode code 190 = .ok (.iload_n 3, 1) := by decide +kernel
theorem d_L_law_191 : decode code 191 = .ok (.iconst 2, 1) := by decide +kernel
theorem d_L_law_192 : decode code 192 = .ok (.iadd, 1) := by decide +kernel
theorem d_L_law_193 : decode code 193 = .ok (.iaload, 1) := by decide +kernel
theorem d_L_law_194 : decode code 194 = .ok (.ifCond .eq 7, 3) := by decide +kernel
theorem d_L_law_197 : decode code 197 = .ok (.iconst 1, 1) := by decide +kernel
theorem d_L_law_198 : decode code 198 = .ok (.goto 4, 3) := by decide +kernel
theorem d_L_law_201 : decode code 201 = .ok (.iconst 0, 1) := by decide +kernel
theorem d_L_law_202 : decode code 202 = .ok (.invokevirtual 22, 3) := by decide +kernel
theorem d_L_law_205 : decode code 205 = .ok (.if_icmp .eq 434, 3) := by decide +kernel
theorem d_L_law_208 : decode code 208 = .ok (.iconst 0, 1) := by decide +kernel
theorem d_L_law_209 : decode code 209 = .ok (.ireturn, 1) := by decide +kernel
theorem d_L_law_210 : decode code 210 = .ok (.aload_n 1, 1) := by decide +kernel
theorem d_L_law_211 : decode code 211 = .ok (.aload_n 0, 1) := by decide +kernel
theorem d_L_law_212 : decode code 212 = .ok (.iload_n 3, 1) := by decide +kernel
theorem d_L_law_213 : decode code 213 = .ok (.iconst 1, 1) := by decide +kernel
theorem d_L_law_214 : decode code 214 = .ok (.iadd, 1) := by decide +kernel
theorem d_L_law_215 : decode code 215 = .ok (.iaload, 1) := by decide +kernel
theorem d_L_law_216 : decode code 216 = .ok (.ifCond .eq 7, 3) := by decide +kernel
theorem d_L_law_219 : decode code 219 = .ok (.iconst 1, 1) := by decide +kernel
theorem d_L_law_220 : decode code 220 = .ok (.goto 4, 3) := by decide +kernel
theorem d_L_law_223 : decode code 223 = .ok (.iconst 0, 1) := by decide +kernel
theorem d_L_law_224 : decode code 224 = .ok (.invokevirtual 23, 3) := by decide +kernel
theorem d_L_law_227 : decode code 227 = .ok (.aload_n 2, 1) := by decide +kernel
theorem d_L_law_228 : decode code 228 = .ok (.aload_n 0, 1) := by decide +kernel
theorem d_L_law_229 : decode code 229 = .ok (.iload_n 3, 1) := by decide +kernel
theorem d_L_law_230 : decode code 230 = .ok (.iconst 1, 1) := by decide +kernel
theorem d_L_law_231 : decode code 231 = .ok (.iadd, 1) := by decide +kernel
theorem d_L_law_232 : decode code 232 = .ok (.iaload, 1) := by decide +kernel
theorem d_L_law_233 : decode code 233 = .ok (.ifCond .eq 7, 3) := by decide +kernel
theorem d_L_law_236 : decode code 236 = .ok (.iconst 1, 1) := by decide +kernel
theorem d_L_law_237 : decode code 237 = .ok (.goto 4, 3) := by decide +kernel
theorem d_L_law_240 : decode code 240 = .ok (.iconst 0, 1) := by decide +kernel
theorem d_L_law_241 : decode code 241 = .ok (.invokevirtual 27, 3) := by decide +kernel
theorem d_L_law_244 : decode code 244 = .ok (.goto 395, 3) := by decide +kernel
theorem d_L_law_247 : decode code 247 = .ok (.aload_n 1, 1) := by decide +kernel
theorem d_L_law_248 : decode code 248 = .ok (.aload_n 0, 1) := by decide +kernel
theorem d_L_law_249 : decode code 249 = .ok (.iload_n 3, 1) := by decide +kernel
theorem d_L_law_250 : decode code 250 = .ok (.iconst 1, 1) := by decide +kernel
theorem d_L_law_251 : decode code 251 = .ok (.iadd, 1) := by decide +kernel
theorem d_L_law_252 : decode code 252 = .ok (.iaload, 1) := by decide +kernel
theorem d_L_law_253 : decode code 253 = .ok (.aload_n 0, 1) := by decide +kernel
theorem d_L_law_254 : decode code 254 = .ok (.iload_n 3, 1) := by decide +kernel
theorem d_L_law_255 : decode code 255 = .ok (.iconst 2, 1) := by decide +kernel
theorem d_L_law_256 : decode code 256 = .ok (.iadd, 1) := by decide +kernel
theorem d_L_law_257 : decode code 257 = .ok (.iaload, 1) := by decide +kernel
theorem d_L_law_258 : decode code 258 = .ok (.aload_n 0, 1) := by decide +kernel
theorem d_L_law_259 : decode code 259 = .ok (.iload_n 3, 1) := by decide +kernel
theorem d_L_law_260 : decode code 260 = .ok (.iconst 3, 1) := by decide +kernel
theorem d_L_law_261 : decode code 261 = .ok (.iadd, 1) := by decide +kernel
theorem d_L_law_262 : decode code 262 = .ok (.iaload, 1) := by decide +kernel
theorem d_L_law_263 : decode code 263 = .ok (.i2l, 1) := by decide +kernel
theorem d_L_law_264 : decode code 264 = .ok (.bipush 32, 2) := by decide +kernel
theorem d_L_law_266 : decode code 266 = .ok (.lshl, 1) := by decide +kernel
theorem d_L_law_267 : decode code 267 = .ok (.aload_n 0, 1) := by decide +kernel
theorem d_L_law_268 : decode code 268 = .ok (.iload_n 3, 1) := by decide +kernel
theorem d_L_law_269 : decode code 269 = .ok (.iconst 4, 1) := by decide +kernel
theorem d_L_law_270 : decode code 270 = .ok (.iadd, 1) := by decide +kernel
theorem d_L_law_271 : decode code 271 = .ok (.iaload, 1) := by decide +kernel
theorem d_L_law_272 : decode code 272 = .ok (.i2l, 1) := by decide +kernel
theorem d_L_law_273 : decode code 273 = .ok (.ldc2_w 28, 3) := by decide +kernel
theorem d_L_law_276 : decode code 276 = .ok (.land, 1) := by decide +kernel
theorem d_L_law_277 : decode code 277 = .ok (.lor, 1) := by decide +kernel
theorem d_L_law_278 : decode code 278 = .ok (.invokevirtual 30, 3) := by decide +kernel
theorem d_L_law_281 : decode code 281 = .ok (.aload_n 2, 1) := by decide +kernel
theorem d_L_law_282 : decode code 282 = .ok (.aload_n 0, 1) := by decide +kernel
theorem d_L_law_283 : decode code 283 = .ok (.iload_n 3, 1) := by decide +kernel
theorem d_L_law_284 : decode code 284 = .ok (.iconst 1, 1) := by decide +kernel
theorem d_L_law_285 : decode code 285 = .ok (.iadd, 1) := by decide +kernel
theorem d_L_law_286 : decode code 286 = .ok (.iaload, 1) := by decide +kernel
theorem d_L_law_287 : decode code 287 = .ok (.aload_n 0, 1) := by decide +kernel
theorem d_L_law_288 : decode code 288 = .ok (.iload_n 3, 1) := by decide +kernel
theorem d_L_law_289 : decode code 289 = .ok (.iconst 2, 1) := by decide +kernel
theorem d_L_law_290 : decode code 290 = .ok (.iadd, 1) := by decide +kernel
theorem d_L_law_291 : decode code 291 = .ok (.iaload, 1) := by decide +kernel
theorem d_L_law_292 : decode code 292 = .ok (.aload_n 0, 1) := by decide +kernel
theorem d_L_law_293 : decode code 293 = .ok (.iload_n 3, 1) := by decide +kernel
theorem d_L_law_294 : decode code 294 = .ok (.iconst 3, 1) := by decide +kernel
theorem d_L_law_295 : decode code 295 = .ok (.iadd, 1) := by decide +kernel
theorem d_L_law_296 : decode code 296 = .ok (.iaload, 1) := by decide +kernel
theorem d_L_law_297 : decode code 297 = .ok (.i2l, 1) := by decide +kernel
theorem d_L_law_298 : decode code 298 = .ok (.bipush 32, 2) := by decide +kernel
theorem d_L_law_300 : decode code 300 = .ok (.lshl, 1) := by decide +kernel
theorem d_L_law_301 : decode code 301 = .ok (.aload_n 0, 1) := by decide +kernel
theorem d_L_law_302 : decode code 302 = .ok (.iload_n 3, 1) := by decide +kernel
theorem d_L_law_303 : decode code 303 = .ok (.iconst 4, 1) := by decide +kernel
theorem d_L_law_304 : decode code 304 = .ok (.iadd, 1) := by decide +kernel
theorem d_L_law_305 : decode code 305 = .ok (.iaload, 1) := by decide +kernel
theorem d_L_law_306 : decode code 306 = .ok (.i2l, 1) := by decide +kernel
theorem d_L_law_307 : decode code 307 = .ok (.ldc2_w 28, 3) := by decide +kernel
theorem d_L_law_310 : decode code 310 = .ok (.land, 1) := by decide +kernel
theorem d_L_law_311 : decode code 311 = .ok (.lor, 1) := by decide +kernel
theorem d_L_law_312 : decode code 312 = .ok (.invokevirtual 34, 3) := by decide +kernel
theorem d_L_law_315 : decode code 315 = .ok (.if_icmp .eq 324, 3) := by decide +kernel
theorem d_L_law_318 : decode code 318 = .ok (.iconst 0, 1) := by decide +kernel
theorem d_L_law_319 : decode code 319 = .ok (.ireturn, 1) := by decide +kernel
theorem d_L_law_320 : decode code 320 = .ok (.aload_n 1, 1) := by decide +kernel
theorem d_L_law_321 : decode code 321 = .ok (.aload_n 0, 1) := by decide +kernel
theorem d_L_law_322 : decode code 322 = .ok (.iload_n 3, 1) := by decide +kernel
theorem d_L_law_323 : decode code 323 = .ok (.iconst 1, 1) := by decide +kernel
theorem d_L_law_324 : decode code 324 = .ok (.iadd, 1) := by decide +kernel
theorem d_L_law_325 : decode code 325 = .ok (.iaload, 1) := by decide +kernel
theorem d_L_law_326 : decode code 326 = .ok (.invokevirtual 35, 3) := by decide +kernel
theorem d_L_law_329 : decode code 329 = .ok (.aload_n 2, 1) := by decide +kernel
theorem d_L_law_330 : decode code 330 = .ok (.aload_n 0, 1) := by decide +kernel
theorem d_L_law_331 : decode code 331 = .ok (.iload_n 3, 1) := by decide +kernel
theorem d_L_law_332 : decode code 332 = .ok (.iconst 1, 1) := by decide +kernel
theorem d_L_law_333 : decode code 333 = .ok (.iadd, 1) := by decide +kernel
theorem d_L_law_334 : decode code 334 = .ok (.iaload, 1) := by decide +kernel
theorem d_L_law_335 : decode code 335 = .ok (.invokevirtual 39, 3) := by decide +kernel
theorem d_L_law_338 : decode code 338 = .ok (.if_icmp .eq 301, 3) := by decide +kernel
theorem d_L_law_341 : decode code 341 = .ok (.iconst 0, 1) := by decide +kernel
theorem d_L_law_342 : decode code 342 = .ok (.ireturn, 1) := by decide +kernel
theorem d_L_law_343 : decode code 343 = .ok (.aload_n 1, 1) := by decide +kernel
theorem d_L_law_344 : decode code 344 = .ok (.aload_n 0, 1) := by decide +kernel
theorem d_L_law_345 : decode code 345 = .ok (.iload_n 3, 1) := by decide +kernel
theorem d_L_law_346 : decode code 346 = .ok (.iconst 1, 1) := by decide +kernel
theorem d_L_law_347 : decode code 347 = .ok (.iadd, 1) := by decide +kernel
theorem d_L_law_348 : decode code 348 = .ok (.iaload, 1) := by decide +kernel
theorem d_L_law_349 : decode code 349 = .ok (.aload_n 0, 1) := by decide +kernel
theorem d_L_law_350 : decode code 350 = .ok (.iload_n 3, 1) := by decide +kernel
theorem d_L_law_351 : decode code 351 = .ok (.iconst 2, 1) := by decide +kernel
theorem d_L_law_352 : decode code 352 = .ok (.iadd, 1) := by decide +kernel
theorem d_L_law_353 : decode code 353 = .ok (.iaload, 1) := by decide +kernel
theorem d_L_law_354 : decode code 354 = .ok (.invokevirtual 40, 3) := by decide +kernel
theorem d_L_law_357 : decode code 357 = .ok (.aload_n 2, 1) := by decide +kernel
theorem d_L_law_358 : decode code 358 = .ok (.aload_n 0, 1) := by decide +kernel
theorem d_L_law_359 : decode code 359 = .ok (.iload_n 3, 1) := by decide +kernel
theorem d_L_law_360 : decode code 360 = .ok (.iconst 1, 1) := by decide +kernel
theorem d_L_law_361 : decode code 361 = .ok (.iadd, 1) := by decide +kernel
theorem d_L_law_362 : decode code 362 = .ok (.iaload, 1) := by decide +kernel
theorem d_L_law_363 : decode code 363 = .ok (.aload_n 0, 1) := by decide +kernel
theorem d_L_law_364 : decode code 364 = .ok (.iload_n 3, 1) := by decide +kernel
theorem d_L_law_365 : decode code 365 = .ok (.iconst 2, 1) := by decide +kernel
theorem d_L_law_366 : decode code 366 = .ok (.iadd, 1) := by decide +kernel
theorem d_L_law_367 : decode code 367 = .ok (.iaload, 1) := by decide +kernel
theorem d_L_law_368 : decode code 368 = .ok (.invokevirtual 44, 3) := by decide +kernel
theorem d_L_law_371 : decode code 371 = .ok (.if_icmp .eq 268, 3) := by decide +kernel
theorem d_L_law_374 : decode code 374 = .ok (.iconst 0, 1) := by decide +kernel
theorem d_L_law_375 : decode code 375 = .ok (.ireturn, 1) := by decide +kernel
theorem d_L_law_376 : decode code 376 = .ok (.aload_n 1, 1) := by decide +kernel
theorem d_L_law_377 : decode code 377 = .ok (.aload_n 0, 1) := by decide +kernel
theorem d_L_law_378 : decode code 378 = .ok (.iload_n 3, 1) := by decide +kernel
theorem d_L_law_379 : decode code 379 = .ok (.iconst 1, 1) := by decide +kernel
theorem d_L_law_380 : decode code 380 = .ok (.iadd, 1) := by decide +kernel
theorem d_L_law_381 : decode code 381 = .ok (.iaload, 1) := by decide +kernel
theorem d_L_law_382 : decode code 382 = .ok (.invokevirtual 45, 3) := by decide +kernel
theorem d_L_law_385 : decode code 385 = .ok (.aload_n 2, 1) := by decide +kernel
theorem d_L_law_386 : decode code 386 = .ok (.aload_n 0, 1) := by decide +kernel
theorem d_L_law_387 : decode code 387 = .ok (.iload_n 3, 1) := by decide +kernel
theorem d_L_law_388 : decode code 388 = .ok (.iconst 1, 1) := by decide +kernel
theorem d_L_law_389 : decode code 389 = .ok (.iadd, 1) := by decide +kernel
theorem d_L_law_390 : decode code 390 = .ok (.iaload, 1) := by decide +kernel
theorem d_L_law_391 : decode code 391 = .ok (.invokevirtual 48, 3) := by decide +kernel
theorem d_L_law_394 : decode code 394 = .ok (.if_icmp .eq 245, 3) := by decide +kernel
theorem d_L_law_397 : decode code 397 = .ok (.iconst 0, 1) := by decide +kernel
theorem d_L_law_398 : decode code 398 = .ok (.ireturn, 1) := by decide +kernel
theorem d_L_law_399 : decode code 399 = .ok (.aload_n 1, 1) := by decide +kernel
theorem d_L_law_400 : decode code 400 = .ok (.aload_n 0, 1) := by decide +kernel
theorem d_L_law_401 : decode code 401 = .ok (.iload_n 3, 1) := by decide +kernel
theorem d_L_law_402 : decode code 402 = .ok (.iconst 1, 1) := by decide +kernel
theorem d_L_law_403 : decode code 403 = .ok (.iadd, 1) := by decide +kernel
theorem d_L_law_404 : decode code 404 = .ok (.iaload, 1) := by decide +kernel
theorem d_L_law_405 : decode code 405 = .ok (.aload_n 0, 1) := by decide +kernel
theorem d_L_law_406 : decode code 406 = .ok (.iload_n 3, 1) := by decide +kernel
theorem d_L_law_407 : decode code 407 = .ok (.iconst 2, 1) := by decide +kernel
theorem d_L_law_408 : decode code 408 = .ok (.iadd, 1) := by decide +kernel
theorem d_L_law_409 : decode code 409 = .ok (.iaload, 1) := by decide +kernel
theorem d_L_law_410 : decode code 410 = .ok (.i2l, 1) := by decide +kernel
theorem d_L_law_411 : decode code 411 = .ok (.bipush 32, 2) := by decide +kernel
theorem d_L_law_413 : decode code 413 = .ok (.lshl, 1) := by decide +kernel
theorem d_L_law_414 : decode code 414 = .ok (.aload_n 0, 1) := by decide +kernel
theorem d_L_law_415 : decode code 415 = .ok (.iload_n 3, 1) := by decide +kernel
theorem d_L_law_416 : decode code 416 = .ok (.iconst 3, 1) := by decide +kernel
theorem d_L_law_417 : decode code 417 = .ok (.iadd, 1) := by decide +kernel
theorem d_L_law_418 : decode code 418 = .ok (.iaload, 1) := by decide +kernel
theorem d_L_law_419 : decode code 419 = .ok (.i2l, 1) := by decide +kernel
theorem d_L_law_420 : decode code 420 = .ok (.ldc2_w 28, 3) := by decide +kernel
theorem d_L_law_423 : decode code 423 = .ok (.land, 1) := by decide +kernel
theorem d_L_law_424 : decode code 424 = .ok (.lor, 1) := by decide +kernel
theorem d_L_law_425 : decode code 425 = .ok (.invokevirtual 49, 3) := by decide +kernel
theorem d_L_law_428 : decode code 428 = .ok (.aload_n 2, 1) := by decide +kernel
theorem d_L_law_429 : decode code 429 = .ok (.aload_n 0, 1) := by decide +kernel
theorem d_L_law_430 : decode code 430 = .ok (.iload_n 3, 1) := by decide +kernel
theorem d_L_law_431 : decode code 431 = .ok (.iconst 1, 1) := by decide +kernel
theorem d_L_law_432 : decode code 432 = .ok (.iadd, 1) := by decide +kernel
theorem d_L_law_433 : decode code 433 = .ok (.iaload, 1) := by decide +kernel
theorem d_L_law_434 : decode code 434 = .ok (.aload_n 0, 1) := by decide +kernel
theorem d_L_law_435 : decode code 435 = .ok (.iload_n 3, 1) := by decide +kernel
theorem d_L_law_436 : decode code 436 = .ok (.iconst 2, 1) := by decide +kernel
theorem d_L_law_437 : decode code 437 = .ok (.iadd, 1) := by decide +kernel
theorem d_L_law_438 : decode code 438 = .ok (.iaload, 1) := by decide +kernel
theorem d_L_law_439 : decode code 439 = .ok (.i2l, 1) := by decide +kernel
theorem d_L_law_440 : decode code 440 = .ok (.bipush 32, 2) := by decide +kernel
theorem d_L_law_442 : decode code 442 = .ok (.lshl, 1) := by decide +kernel
theorem d_L_law_443 : decode code 443 = .ok (.aload_n 0, 1) := by decide +kernel
theorem d_L_law_444 : decode code 444 = .ok (.iload_n 3, 1) := by decide +kernel
theorem d_L_law_445 : decode code 445 = .ok (.iconst 3, 1) := by decide +kernel
theorem d_L_law_446 : decode code 446 = .ok (.iadd, 1) := by decide +kernel
theorem d_L_law_447 : decode code 447 = .ok (.iaload, 1) := by decide +kernel
theorem d_L_law_448 : decode code 448 = .ok (.i2l, 1) := by decide +kernel
theorem d_L_law_449 : decode code 449 = .ok (.ldc2_w 28, 3) := by decide +kernel
theorem d_L_law_452 : decode code 452 = .ok (.land, 1) := by decide +kernel
theorem d_L_law_453 : decode code 453 = .ok (.lor, 1) := by decide +kernel
theorem d_L_law_454 : decode code 454 = .ok (.invokevirtual 53, 3) := by decide +kernel
theorem d_L_law_457 : decode code 457 = .ok (.if_icmp .eq 182, 3) := by decide +kernel
theorem d_L_law_460 : decode code 460 = .ok (.iconst 0, 1) := by decide +kernel
theorem d_L_law_461 : decode code 461 = .ok (.ireturn, 1) := by decide +kernel
theorem d_L_law_462 : decode code 462 = .ok (.aload_n 1, 1) := by decide +kernel
theorem d_L_law_463 : decode code 463 = .ok (.aload_n 0, 1) := by decide +kernel
theorem d_L_law_464 : decode code 464 = .ok (.iload_n 3, 1) := by decide +kernel
theorem d_L_law_465 : decode code 465 = .ok (.iconst 1, 1) := by decide +kernel
theorem d_L_law_466 : decode code 466 = .ok (.iadd, 1) := by decide +kernel
theorem d_L_law_467 : decode code 467 = .ok (.iaload, 1) := by decide +kernel
theorem d_L_law_468 : decode code 468 = .ok (.aload_n 0, 1) := by decide +kernel
theorem d_L_law_469 : decode code 469 = .ok (.iload_n 3, 1) := by decide +kernel
theorem d_L_law_470 : decode code 470 = .ok (.iconst 2, 1) := by decide +kernel
theorem d_L_law_471 : decode code 471 = .ok (.iadd, 1) := by decide +kernel
theorem d_L_law_472 : decode code 472 = .ok (.iaload, 1) := by decide +kernel
theorem d_L_law_473 : decode code 473 = .ok (.ifCond .eq 7, 3) := by decide +kernel
theorem d_L_law_476 : decode code 476 = .ok (.iconst 1, 1) := by decide +kernel
theorem d_L_law_477 : decode code 477 = .ok (.goto 4, 3) := by decide +kernel
theorem d_L_law_480 : decode code 480 = .ok (.iconst 0, 1) := by decide +kernel
theorem d_L_law_481 : decode code 481 = .ok (.invokevirtual 54, 3) := by decide +kernel
theorem d_L_law_484 : decode code 484 = .ok (.aload_n 2, 1) := by decide +kernel
theorem d_L_law_485 : decode code 485 = .ok (.aload_n 0, 1) := by decide +kernel
theorem d_L_law_486 : decode code 486 = .ok (.iload_n 3, 1) := by decide +kernel
theorem d_L_law_487 : decode code 487 = .ok (.iconst 1, 1) := by decide +kernel
theorem d_L_law_488 : decode code 488 = .ok (.iadd, 1) := by decide +kernel
theorem d_L_law_489 : decode code 489 = .ok (.iaload, 1) := by decide +kernel
theorem d_L_law_490 : decode code 490 = .ok (.aload_n 0, 1) := by decide +kernel
theorem d_L_law_491 : decode code 491 = .ok (.iload_n 3, 1) := by decide +kernel
theorem d_L_law_492 : decode code 492 = .ok (.iconst 2, 1) := by decide +kernel
theorem d_L_law_493 : decode code 493 = .ok (.iadd, 1) := by decide +kernel
theorem d_L_law_494 : decode code 494 = .ok (.iaload, 1) := by decide +kernel
theorem d_L_law_495 : decode code 495 = .ok (.ifCond .eq 7, 3) := by decide +kernel
theorem d_L_law_498 : decode code 498 = .ok (.iconst 1, 1) := by decide +kernel
theorem d_L_law_499 : decode code 499 = .ok (.goto 4, 3) := by decide +kernel
theorem d_L_law_502 : decode code 502 = .ok (.iconst 0, 1) := by decide +kernel
theorem d_L_law_503 : decode code 503 = .ok (.invokevirtual 57, 3) := by decide +kernel
theorem d_L_law_506 : decode code 506 = .ok (.if_icmp .eq 133, 3) := by decide +kernel
theorem d_L_law_509 : decode code 509 = .ok (.iconst 0, 1) := by decide +kernel
theorem d_L_law_510 : decode code 510 = .ok (.ireturn, 1) := by decide +kernel
theorem d_L_law_511 : decode code 511 = .ok (.aload_n 1, 1) := by decide +kernel
theorem d_L_law_512 : decode code 512 = .ok (.invokevirtual 58, 3) := by decide +kernel
theorem d_L_law_515 : decode code 515 = .ok (.aload_n 2, 1) := by decide +kernel
theorem d_L_law_516 : decode code 516 = .ok (.invokevirtual 62, 3) := by decide +kernel
theorem d_L_law_519 : decode code 519 = .ok (.if_icmp .eq 120, 3) := by decide +kernel
theorem d_L_law_522 : decode code 522 = .ok (.iconst 0, 1) := by decide +kernel
theorem d_L_law_523 : decode code 523 = .ok (.ireturn, 1) := by decide +kernel
theorem d_L_law_524 : decode code 524 = .ok (.aload_n 1, 1) := by decide +kernel
theorem d_L_law_525 : decode code 525 = .ok (.aload_n 0, 1) := by decide +kernel
theorem d_L_law_526 : decode code 526 = .ok (.iload_n 3, 1) := by decide +kernel
theorem d_L_law_527 : decode code 527 = .ok (.iconst 1, 1) := by decide +kernel
theorem d_L_law_528 : decode code 528 = .ok (.iadd, 1) := by decide +kernel
theorem d_L_law_529 : decode code 529 = .ok (.iaload, 1) := by decide +kernel
theorem d_L_law_530 : decode code 530 = .ok (.invokevirtual 63, 3) := by decide +kernel
theorem d_L_law_533 : decode code 533 = .ok (.aload_n 2, 1) := by decide +kernel
theorem d_L_law_534 : decode code 534 = .ok (.aload_n 0, 1) := by decide +kernel
theorem d_L_law_535 : decode code 535 = .ok (.iload_n 3, 1) := by decide +kernel
theorem d_L_law_536 : decode code 536 = .ok (.iconst 1, 1) := by decide +kernel
theorem d_L_law_537 : decode code 537 = .ok (.iadd, 1) := by decide +kernel
theorem d_L_law_538 : decode code 538 = .ok (.iaload, 1) := by decide +kernel
theorem d_L_law_539 : decode code 539 = .ok (.invokevirtual 66, 3) := by decide +kernel
theorem d_L_law_542 : decode code 542 = .ok (.if_icmp .eq 97, 3) := by decide +kernel
theorem d_L_law_545 : decode code 545 = .ok (.iconst 0, 1) := by decide +kernel
theorem d_L_law_546 : decode code 546 = .ok (.ireturn, 1) := by decide +kernel
theorem d_L_law_547 : decode code 547 = .ok (.aload_n 1, 1) := by decide +kernel
theorem d_L_law_548 : decode code 548 = .ok (.aload_n 0, 1) := by decide +kernel
theorem d_L_law_549 : decode code 549 = .ok (.iload_n 3, 1) := by decide +kernel
theorem d_L_law_550 : decode code 550 = .ok (.iconst 1, 1) := by decide +kernel
theorem d_L_law_551 : decode code 551 = .ok (.iadd, 1) := by decide +kernel
theorem d_L_law_552 : decode code 552 = .ok (.iaload, 1) := by decide +kernel
theorem d_L_law_553 : decode code 553 = .ok (.invokevirtual 67, 3) := by decide +kernel
theorem d_L_law_556 : decode code 556 = .ok (.aload_n 2, 1) := by decide +kernel
theorem d_L_law_557 : decode code 557 = .ok (.aload_n 0, 1) := by decide +kernel
theorem d_L_law_558 : decode code 558 = .ok (.iload_n 3, 1) := by decide +kernel
theorem d_L_law_559 : decode code 559 = .ok (.iconst 1, 1) := by decide +kernel
theorem d_L_law_560 : decode code 560 = .ok (.iadd, 1) := by decide +kernel
theorem d_L_law_561 : decode code 561 = .ok (.iaload, 1) := by decide +kernel
theorem d_L_law_562 : decode code 562 = .ok (.invokevirtual 70, 3) := by decide +kernel
theorem d_L_law_565 : decode code 565 = .ok (.if_icmp .eq 74, 3) := by decide +kernel
theorem d_L_law_568 : decode code 568 = .ok (.iconst 0, 1) := by decide +kernel
theorem d_L_law_569 : decode code 569 = .ok (.ireturn, 1) := by decide +kernel
theorem d_L_law_570 : decode code 570 = .ok (.aload_n 1, 1) := by decide +kernel
theorem d_L_law_571 : decode code 571 = .ok (.aload_n 0, 1) := by decide +kernel
theorem d_L_law_572 : decode code 572 = .ok (.iload_n 3, 1) := by decide +kernel
theorem d_L_law_573 : decode code 573 = .ok (.iconst 1, 1) := by decide +kernel
theorem d_L_law_574 : decode code 574 = .ok (.iadd, 1) := by decide +kernel
theorem d_L_law_575 : decode code 575 = .ok (.iaload, 1) := by decide +kernel
theorem d_L_law_576 : decode code 576 = .ok (.invokevirtual 71, 3) := by decide +kernel
theorem d_L_law_579 : decode code 579 = .ok (.aload_n 2, 1) := by decide +kernel
theorem d_L_law_580 : decode code 580 = .ok (.aload_n 0, 1) := by decide +kernel
theorem d_L_law_581 : decode code 581 = .ok (.iload_n 3, 1) := by decide +kernel
theorem d_L_law_582 : decode code 582 = .ok (.iconst 1, 1) := by decide +kernel
theorem d_L_law_583 : decode code 583 = .ok (.iadd, 1) := by decide +kernel
theorem d_L_law_584 : decode code 584 = .ok (.iaload, 1) := by decide +kernel
theorem d_L_law_585 : decode code 585 = .ok (.invokevirtual 74, 3) := by decide +kernel
theorem d_L_law_588 : decode code 588 = .ok (.if_icmp .eq 51, 3) := by decide +kernel
theorem d_L_law_591 : decode code 591 = .ok (.iconst 0, 1) := by decide +kernel
theorem d_L_law_592 : decode code 592 = .ok (.ireturn, 1) := by decide +kernel
theorem d_L_law_593 : decode code 593 = .ok (.aload_n 1, 1) := by decide +kernel
theorem d_L_law_594 : decode code 594 = .ok (.aload_n 0, 1) := by decide +kernel
theorem d_L_law_595 : decode code 595 = .ok (.iload_n 3, 1) := by decide +kernel
theorem d_L_law_596 : decode code 596 = .ok (.iconst 1, 1) := by decide +kernel
theorem d_L_law_597 : decode code 597 = .ok (.iadd, 1) := by decide +kernel
theorem d_L_law_598 : decode code 598 = .ok (.iaload, 1) := by decide +kernel
theorem d_L_law_599 : decode code 599 = .ok (.invokevirtual 75, 3) := by decide +kernel
theorem d_L_law_602 : decode code 602 = .ok (.aload_n 2, 1) := by decide +kernel
theorem d_L_law_603 : decode code 603 = .ok (.aload_n 0, 1) := by decide +kernel
theorem d_L_law_604 : decode code 604 = .ok (.iload_n 3, 1) := by decide +kernel
theorem d_L_law_605 : decode code 605 = .ok (.iconst 1, 1) := by decide +kernel
theorem d_L_law_606 : decode code 606 = .ok (.iadd, 1) := by decide +kernel
theorem d_L_law_607 : decode code 607 = .ok (.iaload, 1) := by decide +kernel
theorem d_L_law_608 : decode code 608 = .ok (.invokevirtual 78, 3) := by decide +kernel
theorem d_L_law_611 : decode code 611 = .ok (.if_icmp .eq 28, 3) := by decide +kernel
theorem d_L_law_614 : decode code 614 = .ok (.iconst 0, 1) := by decide +kernel
theorem d_L_law_615 : decode code 615 = .ok (.ireturn, 1) := by decide +kernel
theorem d_L_law_616 : decode code 616 = .ok (.aload_n 1, 1) := by decide +kernel
theorem d_L_law_617 : decode code 617 = .ok (.aload_n 0, 1) := by decide +kernel
theorem d_L_law_618 : decode code 618 = .ok (.iload_n 3, 1) := by decide +kernel
theorem d_L_law_619 : decode code 619 = .ok (.iconst 1, 1) := by decide +kernel
theorem d_L_law_620 : decode code 620 = .ok (.iadd, 1) := by decide +kernel
theorem d_L_law_621 : decode code 621 = .ok (.iaload, 1) := by decide +kernel
theorem d_L_law_622 : decode code 622 = .ok (.invokevirtual 79, 3) := by decide +kernel
theorem d_L_law_625 : decode code 625 = .ok (.aload_n 2, 1) := by decide +kernel
theorem d_L_law_626 : decode code 626 = .ok (.aload_n 0, 1) := by decide +kernel
theorem d_L_law_627 : decode code 627 = .ok (.iload_n 3, 1) := by decide +kernel
theorem d_L_law_628 : decode code 628 = .ok (.iconst 1, 1) := by decide +kernel
theorem d_L_law_629 : decode code 629 = .ok (.iadd, 1) := by decide +kernel
theorem d_L_law_630 : decode code 630 = .ok (.iaload, 1) := by decide +kernel
theorem d_L_law_631 : decode code 631 = .ok (.invokevirtual 82, 3) := by decide +kernel
theorem d_L_law_634 : decode code 634 = .ok (.if_icmp .eq 5, 3) := by decide +kernel
theorem d_L_law_637 : decode code 637 = .ok (.iconst 0, 1) := by decide +kernel
theorem d_L_law_638 : decode code 638 = .ok (.ireturn, 1) := by decide +kernel
theorem d_L_law_639 : decode code 639 = .ok (.iinc 3 5, 3) := by decide +kernel
theorem d_L_law_642 : decode code 642 = .ok (.goto (-624), 3) := by decide +kernel
theorem d_L_law_645 : decode code 645 = .ok (.iconst 1, 1) := by decide +kernel
theorem d_L_law_646 : decode code 646 = .ok (.ireturn, 1) := by decide +kernel
