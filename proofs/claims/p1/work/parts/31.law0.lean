theorem tb449 : (Jvm.Cond.methodLink "StairGangLaw" (21 : Nat) ({ cls := "StairGang", name := "feed", desc := "(JJJ)I" } : Jvm.MethodName)) ∈ gw := lw_m 449 (by decide +kernel)
theorem tb450 : (Jvm.Cond.instanceMethod ({ cls := "StairGang", name := "feed", desc := "(JJJ)I" } : Jvm.MethodName)) ∈ gw := lw_m 450 (by decide +kernel)
theorem tb451 : (Jvm.Cond.selects "StairGang" ({ cls := "StairGang", name := "feed", desc := "(JJJ)I" } : Jvm.MethodName) ({ cls := "StairGang", name := "feed", desc := "(JJJ)I" } : Jvm.MethodName)) ∈ gw := lw_m 451 (by decide +kernel)
theorem tb452 : (Jvm.Cond.code ({ cls := "StairGang", name := "feed", desc := "(JJJ)I" } : Jvm.MethodName) prog_1_method_2_code (7 : Nat) (Option.some Jvm.ClassFile.FieldType.int)) ∈ gw := lw_m 452 (by decide +kernel)
theorem tb1410 : (Jvm.Cond.methodLink "StairGangLaw" (25 : Nat) ({ cls := "StairGangModel", name := "feed", desc := "(JJJ)I" } : Jvm.MethodName)) ∈ gw := lw_m 1410 (by decide +kernel)
theorem tb1411 : (Jvm.Cond.instanceMethod ({ cls := "StairGangModel", name := "feed", desc := "(JJJ)I" } : Jvm.MethodName)) ∈ gw := lw_m 1411 (by decide +kernel)
theorem tb1412 : (Jvm.Cond.selects "StairGangModel" ({ cls := "StairGangModel", name := "feed", desc := "(JJJ)I" } : Jvm.MethodName) ({ cls := "StairGangModel", name := "feed", desc := "(JJJ)I" } : Jvm.MethodName)) ∈ gw := lw_m 1412 (by decide +kernel)
theorem tb1413 : (Jvm.Cond.code ({ cls := "StairGangModel", name := "feed", desc := "(JJJ)I" } : Jvm.MethodName) prog_13_method_7_code (11 : Nat) (Option.some Jvm.ClassFile.FieldType.int)) ∈ gw := lw_m 1413 (by decide +kernel)
theorem tb1922 : (Jvm.Cond.constantLong "StairGangLaw" (19 : Nat) (4294967295 : Int64)) ∈ gw := lw_m 1922 (by decide +kernel)
theorem dL_law_176 : decode cL_law 176 = .ok (.aload_n 1, 1) := by decide +kernel
theorem dL_law_177 : decode cL_law 177 = .ok (.aload_n 0, 1) := by decide +kernel
theorem dL_law_178 : decode cL_law 178 = .ok (.iload 4, 2) := by decide +kernel
theorem dL_law_180 : decode cL_law 180 = .ok (.iconst 1, 1) := by decide +kernel
theorem dL_law_181 : decode cL_law 181 = .ok (.iadd, 1) := by decide +kernel
theorem dL_law_182 : decode cL_law 182 = .ok (.iaload, 1) := by decide +kernel
theorem dL_law_183 : decode cL_law 183 = .ok (.i2l, 1) := by decide +kernel
theorem dL_law_184 : decode cL_law 184 = .ok (.bipush 32, 2) := by decide +kernel
theorem dL_law_186 : decode cL_law 186 = .ok (.lshl, 1) := by decide +kernel
theorem dL_law_187 : decode cL_law 187 = .ok (.aload_n 0, 1) := by decide +kernel
theorem dL_law_188 : decode cL_law 188 = .ok (.iload 4, 2) := by decide +kernel
theorem dL_law_190 : decode cL_law 190 = .ok (.iconst 2, 1) := by decide +kernel
theorem dL_law_191 : decode cL_law 191 = .ok (.iadd, 1) := by decide +kernel
theorem dL_law_192 : decode cL_law 192 = .ok (.iaload, 1) := by decide +kernel
theorem dL_law_193 : decode cL_law 193 = .ok (.i2l, 1) := by decide +kernel
theorem dL_law_194 : decode cL_law 194 = .ok (.ldc2_w 19, 3) := by decide +kernel
theorem dL_law_197 : decode cL_law 197 = .ok (.land, 1) := by decide +kernel
theorem dL_law_198 : decode cL_law 198 = .ok (.lor, 1) := by decide +kernel
theorem dL_law_199 : decode cL_law 199 = .ok (.aload_n 0, 1) := by decide +kernel
theorem dL_law_200 : decode cL_law 200 = .ok (.iload 4, 2) := by decide +kernel
theorem dL_law_202 : decode cL_law 202 = .ok (.iconst 3, 1) := by decide +kernel
theorem dL_law_203 : decode cL_law 203 = .ok (.iadd, 1) := by decide +kernel
theorem dL_law_204 : decode cL_law 204 = .ok (.iaload, 1) := by decide +kernel
theorem dL_law_205 : decode cL_law 205 = .ok (.i2l, 1) := by decide +kernel
theorem dL_law_206 : decode cL_law 206 = .ok (.bipush 32, 2) := by decide +kernel
theorem dL_law_208 : decode cL_law 208 = .ok (.lshl, 1) := by decide +kernel
theorem dL_law_209 : decode cL_law 209 = .ok (.aload_n 0, 1) := by decide +kernel
theorem dL_law_210 : decode cL_law 210 = .ok (.iload 4, 2) := by decide +kernel
theorem dL_law_212 : decode cL_law 212 = .ok (.iconst 4, 1) := by decide +kernel
theorem dL_law_213 : decode cL_law 213 = .ok (.iadd, 1) := by decide +kernel
theorem dL_law_214 : decode cL_law 214 = .ok (.iaload, 1) := by decide +kernel
theorem dL_law_215 : decode cL_law 215 = .ok (.i2l, 1) := by decide +kernel
theorem dL_law_216 : decode cL_law 216 = .ok (.ldc2_w 19, 3) := by decide +kernel
theorem dL_law_219 : decode cL_law 219 = .ok (.land, 1) := by decide +kernel
theorem dL_law_220 : decode cL_law 220 = .ok (.lor, 1) := by decide +kernel
theorem dL_law_221 : decode cL_law 221 = .ok (.aload_n 0, 1) := by decide +kernel
theorem dL_law_222 : decode cL_law 222 = .ok (.iload 4, 2) := by decide +kernel
theorem dL_law_224 : decode cL_law 224 = .ok (.iconst 5, 1) := by decide +kernel
theorem dL_law_225 : decode cL_law 225 = .ok (.iadd, 1) := by decide +kernel
theorem dL_law_226 : decode cL_law 226 = .ok (.iaload, 1) := by decide +kernel
theorem dL_law_227 : decode cL_law 227 = .ok (.i2l, 1) := by decide +kernel
theorem dL_law_228 : decode cL_law 228 = .ok (.bipush 32, 2) := by decide +kernel
theorem dL_law_230 : decode cL_law 230 = .ok (.lshl, 1) := by decide +kernel
theorem dL_law_231 : decode cL_law 231 = .ok (.aload_n 0, 1) := by decide +kernel
theorem dL_law_232 : decode cL_law 232 = .ok (.iload 4, 2) := by decide +kernel
theorem dL_law_234 : decode cL_law 234 = .ok (.bipush 6, 2) := by decide +kernel
theorem dL_law_236 : decode cL_law 236 = .ok (.iadd, 1) := by decide +kernel
theorem dL_law_237 : decode cL_law 237 = .ok (.iaload, 1) := by decide +kernel
theorem dL_law_238 : decode cL_law 238 = .ok (.i2l, 1) := by decide +kernel
theorem dL_law_239 : decode cL_law 239 = .ok (.ldc2_w 19, 3) := by decide +kernel
theorem dL_law_242 : decode cL_law 242 = .ok (.land, 1) := by decide +kernel
theorem dL_law_243 : decode cL_law 243 = .ok (.lor, 1) := by decide +kernel
theorem dL_law_244 : decode cL_law 244 = .ok (.invokevirtual 21, 3) := by decide +kernel
theorem dL_law_247 : decode cL_law 247 = .ok (.aload_n 2, 1) := by decide +kernel
theorem dL_law_248 : decode cL_law 248 = .ok (.aload_n 0, 1) := by decide +kernel
theorem dL_law_249 : decode cL_law 249 = .ok (.iload 4, 2) := by decide +kernel
theorem dL_law_251 : decode cL_law 251 = .ok (.iconst 1, 1) := by decide +kernel
theorem dL_law_252 : decode cL_law 252 = .ok (.iadd, 1) := by decide +kernel
theorem dL_law_253 : decode cL_law 253 = .ok (.iaload, 1) := by decide +kernel
theorem dL_law_254 : decode cL_law 254 = .ok (.i2l, 1) := by decide +kernel
theorem dL_law_255 : decode cL_law 255 = .ok (.bipush 32, 2) := by decide +kernel
theorem dL_law_257 : decode cL_law 257 = .ok (.lshl, 1) := by decide +kernel
theorem dL_law_258 : decode cL_law 258 = .ok (.aload_n 0, 1) := by decide +kernel
theorem dL_law_259 : decode cL_law 259 = .ok (.iload 4, 2) := by decide +kernel
theorem dL_law_261 : decode cL_law 261 = .ok (.iconst 2, 1) := by decide +kernel
theorem dL_law_262 : decode cL_law 262 = .ok (.iadd, 1) := by decide +kernel
theorem dL_law_263 : decode cL_law 263 = .ok (.iaload, 1) := by decide +kernel
theorem dL_law_264 : decode cL_law 264 = .ok (.i2l, 1) := by decide +kernel
theorem dL_law_265 : decode cL_law 265 = .ok (.ldc2_w 19, 3) := by decide +kernel
theorem dL_law_268 : decode cL_law 268 = .ok (.land, 1) := by decide +kernel
theorem dL_law_269 : decode cL_law 269 = .ok (.lor, 1) := by decide +kernel
theorem dL_law_270 : decode cL_law 270 = .ok (.aload_n 0, 1) := by decide +kernel
theorem dL_law_271 : decode cL_law 271 = .ok (.iload 4, 2) := by decide +kernel
theorem dL_law_273 : decode cL_law 273 = .ok (.iconst 3, 1) := by decide +kernel
theorem dL_law_274 : decode cL_law 274 = .ok (.iadd, 1) := by decide +kernel
theorem dL_law_275 : decode cL_law 275 = .ok (.iaload, 1) := by decide +kernel
theorem dL_law_276 : decode cL_law 276 = .ok (.i2l, 1) := by decide +kernel
theorem dL_law_277 : decode cL_law 277 = .ok (.bipush 32, 2) := by decide +kernel
theorem dL_law_279 : decode cL_law 279 = .ok (.lshl, 1) := by decide +kernel
theorem dL_law_280 : decode cL_law 280 = .ok (.aload_n 0, 1) := by decide +kernel
theorem dL_law_281 : decode cL_law 281 = .ok (.iload 4, 2) := by decide +kernel
theorem dL_law_283 : decode cL_law 283 = .ok (.iconst 4, 1) := by decide +kernel
theorem dL_law_284 : decode cL_law 284 = .ok (.iadd, 1) := by decide +kernel
theorem dL_law_285 : decode cL_law 285 = .ok (.iaload, 1) := by decide +kernel
theorem dL_law_286 : decode cL_law 286 = .ok (.i2l, 1) := by decide +kernel
theorem dL_law_287 : decode cL_law 287 = .ok (.ldc2_w 19, 3) := by decide +kernel
theorem dL_law_290 : decode cL_law 290 = .ok (.land, 1) := by decide +kernel
theorem dL_law_291 : decode cL_law 291 = .ok (.lor, 1) := by decide +kernel
theorem dL_law_292 : decode cL_law 292 = .ok (.aload_n 0, 1) := by decide +kernel
theorem dL_law_293 : decode cL_law 293 = .ok (.iload 4, 2) := by decide +kernel
theorem dL_law_295 : decode cL_law 295 = .ok (.iconst 5, 1) := by decide +kernel
theorem dL_law_296 : decode cL_law 296 = .ok (.iadd, 1) := by decide +kernel
theorem dL_law_297 : decode cL_law 297 = .ok (.iaload, 1) := by decide +kernel
theorem dL_law_298 : decode cL_law 298 = .ok (.i2l, 1) := by decide +kernel
theorem dL_law_299 : decode cL_law 299 = .ok (.bipush 32, 2) := by decide +kernel
theorem dL_law_301 : decode cL_law 301 = .ok (.lshl, 1) := by decide +kernel
theorem dL_law_302 : decode cL_law 302 = .ok (.aload_n 0, 1) := by decide +kernel
theorem dL_law_303 : decode cL_law 303 = .ok (.iload 4, 2) := by decide +kernel
theorem dL_law_305 : decode cL_law 305 = .ok (.bipush 6, 2) := by decide +kernel
theorem dL_law_307 : decode cL_law 307 = .ok (.iadd, 1) := by decide +kernel
theorem dL_law_308 : decode cL_law 308 = .ok (.iaload, 1) := by decide +kernel
theorem dL_law_309 : decode cL_law 309 = .ok (.i2l, 1) := by decide +kernel
theorem dL_law_310 : decode cL_law 310 = .ok (.ldc2_w 19, 3) := by decide +kernel
theorem dL_law_313 : decode cL_law 313 = .ok (.land, 1) := by decide +kernel
theorem dL_law_314 : decode cL_law 314 = .ok (.lor, 1) := by decide +kernel
theorem dL_law_315 : decode cL_law 315 = .ok (.invokevirtual 25, 3) := by decide +kernel
theorem dL_law_318 : decode cL_law 318 = .ok (.if_icmp .eq 961, 3) := by decide +kernel
set_option maxHeartbeats 4000000 in
set_option maxRecDepth 100000 in
theorem lc_feed {p : Program} {l : Launch} {e : Env} {s : State} {m : MethodId} {below : List Frame} {meth : Method} {c : Code} {g : va_G} {aC : Nat → ClassId} {aM : Nat → Nat} {A : Nat → Prop} {b : Nat} {xs : Nat → Int32} (F : Fx p s m #[Value.ref b] c code 7 RL g aC aM A) (hr : meth.sig.returnType = ret) (hlocks : meth.locks = false) (hX : va_X b 7 xs s s.heap) (hbl : b < s.heap.size) (hbA : ¬ A b) (hAs : ∀ q, A q → s.heap.size ≤ q) (h1x h2x h19x : Nat) (x3x x4x x5x x6x x7x x8x x9x x10x x11x x12x x13x x14x x15x x16x x17x x18x x20x x21x x22x x23x x24x x25x x26x : Value) (h1m h2m : Nat) (x3m x4m x5m x6m x7m x8m x9m x10m x11m x12m x13m x14m x15m x16m x17m x18m x19m x20m x21m x22m x23m x24m x25m x26m x27m x28m x29m x30m x31m x32m x33m x34m x35m x36m x37m x38m x39m x40m x41m x42m x43m x44m x45m x46m x47m x48m x49m x50m x51m x52m x53m x54m x55m x56m x57m x58m x59m x60m x61m x62m x63m x64m x65m x66m x67m x68m x69m x70m x71m x72m x73m : Value) (ho : Nat) {H : Heap} {locs : List Loc} (hP : va_P g vwCl [(h1x, .inr (10, [.ref h2x, x3x, x4x, x5x, x6x, x7x, x8x, x9x, x10x, x11x, x12x, x13x, x14x, x15x, x16x, x17x])), (h2x, .inr (7, [.int 0, x18x, .ref h19x, x20x, x21x, x22x, x23x, x24x, x25x, x26x])), (h19x, .inl (aC 2, 1000, .inl (fun _ => 0))), (h1m, .inr (11, [.int 0, .int 0, .ref h2m, x3m, x4m, x5m, x6m, x7m, x8m, x9m, x10m, x11m, x12m, x13m, x14m, x15m, x16m, x17m, x18m, x19m, x20m, x21m, x22m, x23m, x24m, x25m, x26m, x27m, x28m, x29m, x30m, x31m, x32m, x33m, x34m, x35m, x36m, x37m, x38m, x39m, x40m, x41m, x42m, x43m, x44m, x45m, x46m, x47m, x48m, x49m, x50m, x51m, x52m, x53m, x54m, x55m, x56m, x57m, x58m, x59m, x60m, x61m, x62m, x63m, x64m, x65m, x66m, x67m, x68m, x69m, x70m, x71m, x72m, x73m])), (h2m, .inl (aC 0, 1000, .inl (fun _ => 0)))] H) (hD : va_D A [(h1x, .inr (10, [.ref h2x, x3x, x4x, x5x, x6x, x7x, x8x, x9x, x10x, x11x, x12x, x13x, x14x, x15x, x16x, x17x])), (h2x, .inr (7, [.int 0, x18x, .ref h19x, x20x, x21x, x22x, x23x, x24x, x25x, x26x])), (h19x, .inl (aC 2, 1000, .inl (fun _ => 0))), (h1m, .inr (11, [.int 0, .int 0, .ref h2m, x3m, x4m, x5m, x6m, x7m, x8m, x9m, x10m, x11m, x12m, x13m, x14m, x15m, x16m, x17m, x18m, x19m, x20m, x21m, x22m, x23m, x24m, x25m, x26m, x27m, x28m, x29m, x30m, x31m, x32m, x33m, x34m, x35m, x36m, x37m, x38m, x39m, x40m, x41m, x42m, x43m, x44m, x45m, x46m, x47m, x48m, x49m, x50m, x51m, x52m, x53m, x54m, x55m, x56m, x57m, x58m, x59m, x60m, x61m, x62m, x63m, x64m, x65m, x66m, x67m, x68m, x69m, x70m, x71m, x72m, x73m])), (h2m, .inl (aC 0, 1000, .inl (fun _ => 0)))]) (hS : va_S A s.heap H locs) (ls : Array Slot) (hl : lv_has ls 7 [(4, .int 0), (3, .ref ho), (2, .ref h1m), (1, .ref h1x), (0, .ref b)]) : W p l e room_1 s m #[Value.ref b] below meth c H locs 700 60000 (lw_Z below #[Value.ref b] s) (F0 m 176 ls []) := by
  obtain ⟨hx, hb, hml, hown, hts, hK, hA, hM, hM2⟩ := id F
  refine lv_aload_n hx hb dL_law_176 rfl (lv_at hl 3 rfl) ?_
  refine lv_aload_n hx hb dL_law_177 rfl (lv_at hl 4 rfl) ?_
  refine lv_iload hx hb dL_law_178 (lv_at hl 0 rfl) ?_
  refine lv_iconst (v := 1) hx hb dL_law_180 (by decide) ?_
  refine lv_iadd hx hb dL_law_181 ?_
  refine relit (v := 1) (by decide +kernel) ?_
  refine va_sld hx hb hX hbl hbA hS (vpin (j := 1) (by decide +kernel) (by decide +kernel) (by decide)) dL_law_182 ?_
  refine relit (v := xs 1) (by rw [show ((1 : Int32).toNatClampNeg) = 1 from by decide +kernel]) ?_
  refine lv_i2l (v := ((xs 1).toInt64)) hx hb dL_law_183 rfl ?_
  refine lv_bipush (v := 32) hx hb dL_law_184 (by decide) ?_
  refine lv_lshl hx hb dL_law_186 rfl ?_
  refine lv_aload_n hx hb dL_law_187 rfl (lv_at hl 4 rfl) ?_
  refine lv_iload hx hb dL_law_188 (lv_at hl 0 rfl) ?_
  refine lv_iconst (v := 2) hx hb dL_law_190 (by decide) ?_
  refine lv_iadd hx hb dL_law_191 ?_
  refine relit (v := 2) (by decide +kernel) ?_
  refine va_sld hx hb hX hbl hbA hS (vpin (j := 2) (by decide +kernel) (by decide +kernel) (by decide)) dL_law_192 ?_
  refine relit (v := xs 2) (by rw [show ((2 : Int32).toNatClampNeg) = 2 from by decide +kernel]) ?_
  refine lv_i2l (v := ((xs 2).toInt64)) hx hb dL_law_193 rfl ?_
  refine lv_ldc2 (v := 4294967295) hx hb hown (hts _ tb1922) dL_law_194 ?_
  refine lv_land hx hb dL_law_197 ?_
  refine lv_lor hx hb dL_law_198 ?_
  refine lv_aload_n hx hb dL_law_199 rfl (lv_at hl 4 rfl) ?_
  refine lv_iload hx hb dL_law_200 (lv_at hl 0 rfl) ?_
  refine lv_iconst (v := 3) hx hb dL_law_202 (by decide) ?_
  refine lv_iadd hx hb dL_law_203 ?_
  refine relit (v := 3) (by decide +kernel) ?_
  refine va_sld hx hb hX hbl hbA hS (vpin (j := 3) (by decide +kernel) (by decide +kernel) (by decide)) dL_law_204 ?_
  refine relit (v := xs 3) (by rw [show ((3 : Int32).toNatClampNeg) = 3 from by decide +kernel]) ?_
  refine lv_i2l (v := ((xs 3).toInt64)) hx hb dL_law_205 rfl ?_
  refine lv_bipush (v := 32) hx hb dL_law_206 (by decide) ?_
  refine lv_lshl hx hb dL_law_208 rfl ?_
  refine lv_aload_n hx hb dL_law_209 rfl (lv_at hl 4 rfl) ?_
  refine lv_iload hx hb dL_law_210 (lv_at hl 0 rfl) ?_
  refine lv_iconst (v := 4) hx hb dL_law_212 (by decide) ?_
  refine lv_iadd hx hb dL_law_213 ?_
  refine relit (v := 4) (by decide +kernel) ?_
  refine va_sld hx hb hX hbl hbA hS (vpin (j := 4) (by decide +kernel) (by decide +kernel) (by decide)) dL_law_214 ?_
  refine relit (v := xs 4) (by rw [show ((4 : Int32).toNatClampNeg) = 4 from by decide +kernel]) ?_
  refine lv_i2l (v := ((xs 4).toInt64)) hx hb dL_law_215 rfl ?_
  refine lv_ldc2 (v := 4294967295) hx hb hown (hts _ tb1922) dL_law_216 ?_
  refine lv_land hx hb dL_law_219 ?_
  refine lv_lor hx hb dL_law_220 ?_
  refine lv_aload_n hx hb dL_law_221 rfl (lv_at hl 4 rfl) ?_
  refine lv_iload hx hb dL_law_222 (lv_at hl 0 rfl) ?_
  refine lv_iconst (v := 5) hx hb dL_law_224 (by decide) ?_
  refine lv_iadd hx hb dL_law_225 ?_
  refine relit (v := 5) (by decide +kernel) ?_
  refine va_sld hx hb hX hbl hbA hS (vpin (j := 5) (by decide +kernel) (by decide +kernel) (by decide)) dL_law_226 ?_
  refine relit (v := xs 5) (by rw [show ((5 : Int32).toNatClampNeg) = 5 from by decide +kernel]) ?_
  refine lv_i2l (v := ((xs 5).toInt64)) hx hb dL_law_227 rfl ?_
  refine lv_bipush (v := 32) hx hb dL_law_228 (by decide) ?_
  refine lv_lshl hx hb dL_law_230 rfl ?_
  refine lv_aload_n hx hb dL_law_231 rfl (lv_at hl 4 rfl) ?_
  refine lv_iload hx hb dL_law_232 (lv_at hl 0 rfl) ?_
  refine lv_bipush (v := 6) hx hb dL_law_234 (by decide) ?_
  refine lv_iadd hx hb dL_law_236 ?_
  refine relit (v := 6) (by decide +kernel) ?_
  refine va_sld hx hb hX hbl hbA hS (vpin (j := 6) (by decide +kernel) (by decide +kernel) (by decide)) dL_law_237 ?_
  refine relit (v := xs 6) (by rw [show ((6 : Int32).toNatClampNeg) = 6 from by decide +kernel]) ?_
  refine lv_i2l (v := ((xs 6).toInt64)) hx hb dL_law_238 rfl ?_
  refine lv_ldc2 (v := 4294967295) hx hb hown (hts _ tb1922) dL_law_239 ?_
  refine lv_land hx hb dL_law_242 ?_
  refine lv_lor hx hb dL_law_243 ?_
  refine goI (wr := [(h1m, .inr (11, [.int 0, .int 0, .ref h2m, x3m, x4m, x5m, x6m, x7m, x8m, x9m, x10m, x11m, x12m, x13m, x14m, x15m, x16m, x17m, x18m, x19m, x20m, x21m, x22m, x23m, x24m, x25m, x26m, x27m, x28m, x29m, x30m, x31m, x32m, x33m, x34m, x35m, x36m, x37m, x38m, x39m, x40m, x41m, x42m, x43m, x44m, x45m, x46m, x47m, x48m, x49m, x50m, x51m, x52m, x53m, x54m, x55m, x56m, x57m, x58m, x59m, x60m, x61m, x62m, x63m, x64m, x65m, x66m, x67m, x68m, x69m, x70m, x71m, x72m, x73m])), (h2m, .inl (aC 0, 1000, .inl (fun _ => 0)))]) (runV (n := 3) (As := [.long ((((xs 1).toInt64) <<< ((32 : Int32).toInt64 &&& 63)) ||| (((xs 2).toInt64) &&& 4294967295)), .long ((((xs 3).toInt64) <<< ((32 : Int32).toInt64 &&& 63)) ||| (((xs 4).toInt64) &&& 4294967295)), .long ((((xs 5).toInt64) <<< ((32 : Int32).toInt64 &&& 63)) ||| (((xs 6).toInt64) &&& 4294967295))]) (rest := []) F hP hD hS (x_feed l g aC aM h1x h2x h19x x3x x4x x5x x6x x7x x8x x9x x10x x11x x12x x13x x14x x15x x16x x17x x18x x20x x21x x22x x23x x24x x25x x26x ((((xs 1).toInt64) <<< ((32 : Int32).toInt64 &&& 63)) ||| (((xs 2).toInt64) &&& 4294967295)) ((((xs 3).toInt64) <<< ((32 : Int32).toInt64 &&& 63)) ||| (((xs 4).toInt64) &&& 4294967295)) ((((xs 5).toInt64) <<< ((32 : Int32).toInt64 &&& 63)) ||| (((xs 6).toInt64) &&& 4294967295))) [0, 1, 2] (by decide) rfl 0 10 rfl rfl rfl tb452 tb449 tb450 tb451 tb1 ⟨by decide, by decide, by decide +kernel⟩ ⟨Nat.le_of_ble_eq_true rfl, Nat.le_of_ble_eq_true rfl⟩ rfl hl.1 rfl (Nat.le_of_ble_eq_true rfl) dL_law_244 ⟨Nat.le_of_ble_eq_true rfl, Nat.le_of_ble_eq_true rfl⟩) hP hD hS hA [0, 1, 2] [3, 4] rfl rfl (by decide) (by decide) (fun r_2 w3 H locs hw hP hD hS => ?_)
  have hP : va_P g vwCl [(h1m, .inr (11, [.int 0, .int 0, .ref h2m, x3m, x4m, x5m, x6m, x7m, x8m, x9m, x10m, x11m, x12m, x13m, x14m, x15m, x16m, x17m, x18m, x19m, x20m, x21m, x22m, x23m, x24m, x25m, x26m, x27m, x28m, x29m, x30m, x31m, x32m, x33m, x34m, x35m, x36m, x37m, x38m, x39m, x40m, x41m, x42m, x43m, x44m, x45m, x46m, x47m, x48m, x49m, x50m, x51m, x52m, x53m, x54m, x55m, x56m, x57m, x58m, x59m, x60m, x61m, x62m, x63m, x64m, x65m, x66m, x67m, x68m, x69m, x70m, x71m, x72m, x73m])), (h2m, .inl (aC 0, 1000, .inl (fun _ => 0)))] H := hP
  have hD : va_D A [(h1m, .inr (11, [.int 0, .int 0, .ref h2m, x3m, x4m, x5m, x6m, x7m, x8m, x9m, x10m, x11m, x12m, x13m, x14m, x15m, x16m, x17m, x18m, x19m, x20m, x21m, x22m, x23m, x24m, x25m, x26m, x27m, x28m, x29m, x30m, x31m, x32m, x33m, x34m, x35m, x36m, x37m, x38m, x39m, x40m, x41m, x42m, x43m, x44m, x45m, x46m, x47m, x48m, x49m, x50m, x51m, x52m, x53m, x54m, x55m, x56m, x57m, x58m, x59m, x60m, x61m, x62m, x63m, x64m, x65m, x66m, x67m, x68m, x69m, x70m, x71m, x72m, x73m])), (h2m, .inl (aC 0, 1000, .inl (fun _ => 0)))] := hD
  try dsimp only at hw
  subst hw
  refine lv_aload_n hx hb dL_law_247 rfl (lv_at hl 2 rfl) ?_
  refine lv_aload_n hx hb dL_law_248 rfl (lv_at hl 4 rfl) ?_
  refine lv_iload hx hb dL_law_249 (lv_at hl 0 rfl) ?_
  refine lv_iconst (v := 1) hx hb dL_law_251 (by decide) ?_
  refine lv_iadd hx hb dL_law_252 ?_
  refine relit (v := 1) (by decide +kernel) ?_
  refine va_sld hx hb hX hbl hbA hS (vpin (j := 1) (by decide +kernel) (by decide +kernel) (by decide)) dL_law_253 ?_
  refine relit (v := xs 1) (by rw [show ((1 : Int32).toNatClampNeg) = 1 from by decide +kernel]) ?_
  refine lv_i2l (v := ((xs 1).toInt64)) hx hb dL_law_254 rfl ?_
  refine lv_bipush (v := 32) hx hb dL_law_255 (by decide) ?_
  refine lv_lshl hx hb dL_law_257 rfl ?_
  refine lv_aload_n hx hb dL_law_258 rfl (lv_at hl 4 rfl) ?_
  refine lv_iload hx hb dL_law_259 (lv_at hl 0 rfl) ?_
  refine lv_iconst (v := 2) hx hb dL_law_261 (by decide) ?_
  refine lv_iadd hx hb dL_law_262 ?_
  refine relit (v := 2) (by decide +kernel) ?_
  refine va_sld hx hb hX hbl hbA hS (vpin (j := 2) (by decide +kernel) (by decide +kernel) (by decide)) dL_law_263 ?_
  refine relit (v := xs 2) (by rw [show ((2 : Int32).toNatClampNeg) = 2 from by decide +kernel]) ?_
  refine lv_i2l (v := ((xs 2).toInt64)) hx hb dL_law_264 rfl ?_
  refine lv_ldc2 (v := 4294967295) hx hb hown (hts _ tb1922) dL_law_265 ?_
  refine lv_land hx hb dL_law_268 ?_
  refine lv_lor hx hb dL_law_269 ?_
  refine lv_aload_n hx hb dL_law_270 rfl (lv_at hl 4 rfl) ?_
  refine lv_iload hx hb dL_law_271 (lv_at hl 0 rfl) ?_
  refine lv_iconst (v := 3) hx hb dL_law_273 (by decide) ?_
  refine lv_iadd hx hb dL_law_274 ?_
  refine relit (v := 3) (by decide +kernel) ?_
  refine va_sld hx hb hX hbl hbA hS (vpin (j := 3) (by decide +kernel) (by decide +kernel) (by decide)) dL_law_275 ?_
  refine relit (v := xs 3) (by rw [show ((3 : Int32).toNatClampNeg) = 3 from by decide +kernel]) ?_
  refine lv_i2l (v := ((xs 3).toInt64)) hx hb dL_law_276 rfl ?_
  refine lv_bipush (v := 32) hx hb dL_law_277 (by decide) ?_
  refine lv_lshl hx hb dL_law_279 rfl ?_
  refine lv_aload_n hx hb dL_law_280 rfl (lv_at hl 4 rfl) ?_
  refine lv_iload hx hb dL_law_281 (lv_at hl 0 rfl) ?_
  refine lv_iconst (v := 4) hx hb dL_law_283 (by decide) ?_
  refine lv_iadd hx hb dL_law_284 ?_
  refine relit (v := 4) (by decide +kernel) ?_
  refine va_sld hx hb hX hbl hbA hS (vpin (j := 4) (by decide +kernel) (by decide +kernel) (by decide)) dL_law_285 ?_
  refine relit (v := xs 4) (by rw [show ((4 : Int32).toNatClampNeg) = 4 from by decide +kernel]) ?_
  refine lv_i2l (v := ((xs 4).toInt64)) hx hb dL_law_286 rfl ?_
  refine lv_ldc2 (v := 4294967295) hx hb hown (hts _ tb1922) dL_law_287 ?_
  refine lv_land hx hb dL_law_290 ?_
  refine lv_lor hx hb dL_law_291 ?_
  refine lv_aload_n hx hb dL_law_292 rfl (lv_at hl 4 rfl) ?_
  refine lv_iload hx hb dL_law_293 (lv_at hl 0 rfl) ?_
  refine lv_iconst (v := 5) hx hb dL_law_295 (by decide) ?_
  refine lv_iadd hx hb dL_law_296 ?_
  refine relit (v := 5) (by decide +kernel) ?_
  refine va_sld hx hb hX hbl hbA hS (vpin (j := 5) (by decide +kernel) (by decide +kernel) (by decide)) dL_law_297 ?_
  refine relit (v := xs 5) (by rw [show ((5 : Int32).toNatClampNeg) = 5 from by decide +kernel]) ?_
  refine lv_i2l (v := ((xs 5).toInt64)) hx hb dL_law_298 rfl ?_
  refine lv_bipush (v := 32) hx hb dL_law_299 (by decide) ?_
  refine lv_lshl hx hb dL_law_301 rfl ?_
  refine lv_aload_n hx hb dL_law_302 rfl (lv_at hl 4 rfl) ?_
  refine lv_iload hx hb dL_law_303 (lv_at hl 0 rfl) ?_
  refine lv_bipush (v := 6) hx hb dL_law_305 (by decide) ?_
  refine lv_iadd hx hb dL_law_307 ?_
  refine relit (v := 6) (by decide +kernel) ?_
  refine va_sld hx hb hX hbl hbA hS (vpin (j := 6) (by decide +kernel) (by decide +kernel) (by decide)) dL_law_308 ?_
  refine relit (v := xs 6) (by rw [show ((6 : Int32).toNatClampNeg) = 6 from by decide +kernel]) ?_
  refine lv_i2l (v := ((xs 6).toInt64)) hx hb dL_law_309 rfl ?_
  refine lv_ldc2 (v := 4294967295) hx hb hown (hts _ tb1922) dL_law_310 ?_
  refine lv_land hx hb dL_law_313 ?_
  refine lv_lor hx hb dL_law_314 ?_
  refine goI (wr := []) (runV (n := 3) (As := [.long ((((xs 1).toInt64) <<< ((32 : Int32).toInt64 &&& 63)) ||| (((xs 2).toInt64) &&& 4294967295)), .long ((((xs 3).toInt64) <<< ((32 : Int32).toInt64 &&& 63)) ||| (((xs 4).toInt64) &&& 4294967295)), .long ((((xs 5).toInt64) <<< ((32 : Int32).toInt64 &&& 63)) ||| (((xs 6).toInt64) &&& 4294967295))]) (rest := [.int (nI (((0 + f8 ((((xs 1).toInt64) <<< ((32 : Int32).toInt64 &&& 63)) ||| (((xs 2).toInt64) &&& 4294967295)) 8) + f8 ((((xs 3).toInt64) <<< ((32 : Int32).toInt64 &&& 63)) ||| (((xs 4).toInt64) &&& 4294967295)) 8) + f8 ((((xs 5).toInt64) <<< ((32 : Int32).toInt64 &&& 63)) ||| (((xs 6).toInt64) &&& 4294967295)) 8))]) F hP hD hS (m_feed l g aC aM h1m h2m x3m x4m x5m x6m x7m x8m x9m x10m x11m x12m x13m x14m x15m x16m x17m x18m x19m x20m x21m x22m x23m x24m x25m x26m x27m x28m x29m x30m x31m x32m x33m x34m x35m x36m x37m x38m x39m x40m x41m x42m x43m x44m x45m x46m x47m x48m x49m x50m x51m x52m x53m x54m x55m x56m x57m x58m x59m x60m x61m x62m x63m x64m x65m x66m x67m x68m x69m x70m x71m x72m x73m ((((xs 1).toInt64) <<< ((32 : Int32).toInt64 &&& 63)) ||| (((xs 2).toInt64) &&& 4294967295)) ((((xs 3).toInt64) <<< ((32 : Int32).toInt64 &&& 63)) ||| (((xs 4).toInt64) &&& 4294967295)) ((((xs 5).toInt64) <<< ((32 : Int32).toInt64 &&& 63)) ||| (((xs 6).toInt64) &&& 4294967295))) [0, 1] (by decide) rfl 0 11 rfl rfl rfl tb1413 tb1410 tb1411 tb1412 tb17 ⟨by decide, by decide, by decide +kernel⟩ ⟨Nat.le_of_ble_eq_true rfl, Nat.le_of_ble_eq_true rfl⟩ rfl hl.1 rfl (Nat.le_of_ble_eq_true rfl) dL_law_315 ⟨Nat.le_of_ble_eq_true rfl, Nat.le_of_ble_eq_true rfl⟩) hP hD hS hA [0, 1] [] rfl rfl (by decide) (by decide) (fun r_5 w6 H locs hw hP hD hS => ?_)
  have hP : va_P g vwCl [] H := hP
  have hD : va_D A [] := hD
  try dsimp only at hw
  subst hw
  refine lv_icmp_eq (tgt := 1279) hx hb dL_law_318 (by decide) (fun _ => ?_) (fun c_ => absurd rfl c_)
  exact law_end F hr hlocks hX hbl hbA hAs hS (Nat.le_of_ble_eq_true rfl) (Nat.le_of_ble_eq_true rfl) _ (lv_sub hl [0, 4] rfl)

theorem tb458 : (Jvm.Cond.methodLink "StairGangLaw" (26 : Nat) ({ cls := "StairGang", name := "town", desc := "()I" } : Jvm.MethodName)) ∈ gw := lw_m 458 (by decide +kernel)
theorem tb459 : (Jvm.Cond.instanceMethod ({ cls := "StairGang", name := "town", desc := "()I" } : Jvm.MethodName)) ∈ gw := lw_m 459 (by decide +kernel)
theorem tb460 : (Jvm.Cond.selects "StairGang" ({ cls := "StairGang", name := "town", desc := "()I" } : Jvm.MethodName) ({ cls := "StairGang", name := "town", desc := "()I" } : Jvm.MethodName)) ∈ gw := lw_m 460 (by decide +kernel)
theorem tb461 : (Jvm.Cond.code ({ cls := "StairGang", name := "town", desc := "()I" } : Jvm.MethodName) prog_1_method_3_code (3 : Nat) (Option.some Jvm.ClassFile.FieldType.int)) ∈ gw := lw_m 461 (by decide +kernel)
theorem tb1415 : (Jvm.Cond.methodLink "StairGangLaw" (30 : Nat) ({ cls := "StairGangModel", name := "town", desc := "()I" } : Jvm.MethodName)) ∈ gw := lw_m 1415 (by decide +kernel)
theorem tb1416 : (Jvm.Cond.instanceMethod ({ cls := "StairGangModel", name := "town", desc := "()I" } : Jvm.MethodName)) ∈ gw := lw_m 1416 (by decide +kernel)
theorem tb1417 : (Jvm.Cond.selects "StairGangModel" ({ cls := "StairGangModel", name := "town", desc := "()I" } : Jvm.MethodName) ({ cls := "StairGangModel", name := "town", desc := "()I" } : Jvm.MethodName)) ∈ gw := lw_m 1417 (by decide +kernel)
theorem tb1418 : (Jvm.Cond.code ({ cls := "StairGangModel", name := "town", desc := "()I" } : Jvm.MethodName) prog_13_method_53_code (2 : Nat) (Option.some Jvm.ClassFile.FieldType.int)) ∈ gw := lw_m 1418 (by decide +kernel)
theorem dL_law_323 : decode cL_law 323 = .ok (.aload_n 1, 1) := by decide +kernel
theorem dL_law_324 : decode cL_law 324 = .ok (.invokevirtual 26, 3) := by decide +kernel
theorem dL_law_327 : decode cL_law 327 = .ok (.aload_n 2, 1) := by decide +kernel
theorem dL_law_328 : decode cL_law 328 = .ok (.invokevirtual 30, 3) := by decide +kernel
theorem dL_law_331 : decode cL_law 331 = .ok (.if_icmp .eq 948, 3) := by decide +kernel
set_option maxHeartbeats 4000000 in
set_option maxRecDepth 100000 in
theorem lc_town {p : Program} {l : Launch} {e : Env} {s : State} {m : MethodId} {below : List Frame} {meth : Method} {c : Code} {g : va_G} {aC : Nat → ClassId} {aM : Nat → Nat} {A : Nat → Prop} {b : Nat} {xs : Nat → Int32} (F : Fx p s m #[Value.ref b] c code 7 RL g aC aM A) (hr : meth.sig.returnType = ret) (hlocks : meth.locks = false) (hX : va_X b 7 xs s s.heap) (hbl : b < s.heap.size) (hbA : ¬ A b) (hAs : ∀ q, A q → s.heap.size ≤ q) (h1x h2x h3x h5x h6x h7x h9x h10x h22x h24x h25x h27x h28x h30x h34x h38x h39x : Nat) (x4x x8x x11x x12x x13x x14x x15x x16x x17x x18x x19x x20x x21x x23x x26x x29x x31x x35x x40x x41x x42x x43x : Value) (F36x F37x : Nat → Int32) (R32x R33x : Nat → Nat) (h1m h4m h5m h6m h7m h8m h9m h10m h11m h12m h13m h14m h15m h16m h17m h18m h19m h20m h21m h22m h23m h24m h38m h43m h47m h51m : Nat) (x2m x3m x25m x26m x27m x28m x29m x30m x31m x32m x33m x34m x35m x36m x37m x39m x40m x41m x42m x44m x45m x46m x48m x49m x50m x52m x53m x54m x55m x56m x57m x58m x59m x60m x61m x62m x63m x64m : Value) (ho : Nat) {H : Heap} {locs : List Loc} (hP : va_P g vwCl [(h1x, .inr (10, [.ref h2x, .ref h3x, x4x, .ref h5x, .ref h6x, .ref h7x, x8x, .ref h9x, .ref h10x, x11x, x12x, .int 0, x13x, x14x, x15x, x16x])), (h2x, .inr (7, [.int 0, .int 0, x17x, x18x, .int 0, .int 0, .int 0, x19x, x20x, x21x])), (h3x, .inr (9, [.ref h2x])), (h6x, .inr (8, [.ref h22x, x23x, .ref h24x, .ref h25x, x26x, .int 0, .int 5, .ref h27x, .ref h28x, x29x, .ref h30x, x31x])), (h22x, .inl (aC 0, 5, .inl (fun _ => 0))), (h24x, .inl (aC 6, 4, .inr (.inr (.inr (.inr (fun i => if i < 4 then some (R32x i) else none)))))), (h25x, .inl (aC 6, 5, .inr (.inr (.inr (.inr (fun i => if i < 5 then some (R33x i) else none)))))), ((R32x 0), .inl (aC 0, 2, .inl (fun _ => 0))), ((R32x 1), .inl (aC 0, 2, .inl (fun _ => 0))), ((R32x 2), .inl (aC 0, 2, .inl (fun _ => 0))), ((R32x 3), .inl (aC 0, 2, .inl (fun _ => 0))), ((R33x 0), .inl (aC 0, 4, .inl (fun _ => 0))), ((R33x 1), .inl (aC 0, 4, .inl (fun _ => 0))), ((R33x 2), .inl (aC 0, 4, .inl (fun _ => 0))), ((R33x 3), .inl (aC 0, 4, .inl (fun _ => 0))), ((R33x 4), .inl (aC 0, 4, .inl (fun _ => 0))), (h27x, .inr (4, [.ref h34x, .int 1, x35x])), (h34x, .inl (aC 0, 1000, .inl F36x)), (h28x, .inl (aC 1, 25, .inr (.inl (fun _ => 0)))), (h30x, .inl (aC 0, 30, .inl F37x)), (h7x, .inr (6, [.int 0, .ref h38x, .ref h39x, .int 0, .int 0, .int 0])), (h38x, .inl (aC 0, 5, .inl (fun _ => 0))), (h39x, .inl (aC 0, 4, .inl (fun _ => 0))), (h9x, .inr (5, [x40x, .int 0, .int 0, x41x, .int 0])), (h10x, .inr (1, [.int 0, x42x, x43x])), (h1m, .inr (11, [.int 0, .int 0, x2m, .int 0, .int 0, .int 0, .int 0, .long 0, .int 0, x3m, .ref h4m, .ref h5m, .ref h6m, .ref h7m, .ref h8m, .ref h9m, .ref h10m, .ref h11m, .ref h12m, .ref h13m, .ref h14m, .ref h15m, .ref h16m, .ref h17m, .ref h18m, .ref h19m, .ref h20m, .ref h21m, .ref h22m, .ref h23m, .ref h24m, .int 0, .int 0, x25m, x26m, x27m, x28m, x29m, x30m, x31m, x32m, x33m, x34m, x35m, x36m, x37m, .ref h38m, x39m, x40m, x41m, x42m, .ref h43m, x44m, x45m, x46m, .ref h47m, x48m, x49m, x50m, .ref h51m, .int 0, x52m, x53m, x54m, x55m, x56m, x57m, x58m, x59m, x60m, x61m, x62m, x63m, x64m])), (h4m, .inl (aC 0, 14, .inl (fun _ => 0))), (h5m, .inl (aC 1, 10, .inr (.inl (fun _ => 0)))), (h6m, .inl (aC 1, 8, .inr (.inl (fun _ => 0)))), (h7m, .inl (aC 1, 10, .inr (.inl (fun _ => 0)))), (h8m, .inl (aC 1, 8, .inr (.inl (fun _ => 0)))), (h9m, .inl (aC 0, 10, .inl (fun _ => 0))), (h10m, .inl (aC 0, 20, .inl (fun _ => 0))), (h11m, .inl (aC 0, 20, .inl (fun _ => 0))), (h12m, .inl (aC 0, 20, .inl (fun _ => 0))), (h13m, .inl (aC 0, 20, .inl (fun _ => 0))), (h14m, .inl (aC 0, 8, .inl (fun _ => 0))), (h15m, .inl (aC 0, 8, .inl (fun _ => 0))), (h16m, .inl (aC 0, 10, .inl (fun _ => 0))), (h17m, .inl (aC 0, 10, .inl (fun _ => 0))), (h18m, .inl (aC 0, 10, .inl (fun _ => 0))), (h19m, .inl (aC 0, 10, .inl (fun _ => 0))), (h20m, .inl (aC 0, 8, .inl (fun _ => 0))), (h21m, .inl (aC 0, 8, .inl (fun _ => 0))), (h22m, .inl (aC 0, 2, .inl (fun _ => 0))), (h23m, .inl (aC 0, 2, .inl (fun _ => 0))), (h24m, .inl (aC 0, 2000, .inl (fun _ => 0))), (h38m, .inl (aC 0, 6, .inl (fun _ => 0))), (h43m, .inl (aC 0, 5, .inl (fun _ => 0))), (h47m, .inl (aC 0, 13, .inl (fun _ => 0))), (h51m, .inl (aC 3, 4, .inl (fun _ => 0)))] H) (hD : va_D A [(h1x, .inr (10, [.ref h2x, .ref h3x, x4x, .ref h5x, .ref h6x, .ref h7x, x8x, .ref h9x, .ref h10x, x11x, x12x, .int 0, x13x, x14x, x15x, x16x])), (h2x, .inr (7, [.int 0, .int 0, x17x, x18x, .int 0, .int 0, .int 0, x19x, x20x, x21x])), (h3x, .inr (9, [.ref h2x])), (h6x, .inr (8, [.ref h22x, x23x, .ref h24x, .ref h25x, x26x, .int 0, .int 5, .ref h27x, .ref h28x, x29x, .ref h30x, x31x])), (h22x, .inl (aC 0, 5, .inl (fun _ => 0))), (h24x, .inl (aC 6, 4, .inr (.inr (.inr (.inr (fun i => if i < 4 then some (R32x i) else none)))))), (h25x, .inl (aC 6, 5, .inr (.inr (.inr (.inr (fun i => if i < 5 then some (R33x i) else none)))))), ((R32x 0), .inl (aC 0, 2, .inl (fun _ => 0))), ((R32x 1), .inl (aC 0, 2, .inl (fun _ => 0))), ((R32x 2), .inl (aC 0, 2, .inl (fun _ => 0))), ((R32x 3), .inl (aC 0, 2, .inl (fun _ => 0))), ((R33x 0), .inl (aC 0, 4, .inl (fun _ => 0))), ((R33x 1), .inl (aC 0, 4, .inl (fun _ => 0))), ((R33x 2), .inl (aC 0, 4, .inl (fun _ => 0))), ((R33x 3), .inl (aC 0, 4, .inl (fun _ => 0))), ((R33x 4), .inl (aC 0, 4, .inl (fun _ => 0))), (h27x, .inr (4, [.ref h34x, .int 1, x35x])), (h34x, .inl (aC 0, 1000, .inl F36x)), (h28x, .inl (aC 1, 25, .inr (.inl (fun _ => 0)))), (h30x, .inl (aC 0, 30, .inl F37x)), (h7x, .inr (6, [.int 0, .ref h38x, .ref h39x, .int 0, .int 0, .int 0])), (h38x, .inl (aC 0, 5, .inl (fun _ => 0))), (h39x, .inl (aC 0, 4, .inl (fun _ => 0))), (h9x, .inr (5, [x40x, .int 0, .int 0, x41x, .int 0])), (h10x, .inr (1, [.int 0, x42x, x43x])), (h1m, .inr (11, [.int 0, .int 0, x2m, .int 0, .int 0, .int 0, .int 0, .long 0, .int 0, x3m, .ref h4m, .ref h5m, .ref h6m, .ref h7m, .ref h8m, .ref h9m, .ref h10m, .ref h11m, .ref h12m, .ref h13m, .ref h14m, .ref h15m, .ref h16m, .ref h17m, .ref h18m, .ref h19m, .ref h20m, .ref h21m, .ref h22m, .ref h23m, .ref h24m, .int 0, .int 0, x25m, x26m, x27m, x28m, x29m, x30m, x31m, x32m, x33m, x34m, x35m, x36m, x37m, .ref h38m, x39m, x40m, x41m, x42m, .ref h43m, x44m, x45m, x46m, .ref h47m, x48m, x49m, x50m, .ref h51m, .int 0, x52m, x53m, x54m, x55m, x56m, x57m, x58m, x59m, x60m, x61m, x62m, x63m, x64m])), (h4m, .inl (aC 0, 14, .inl (fun _ => 0))), (h5m, .inl (aC 1, 10, .inr (.inl (fun _ => 0)))), (h6m, .inl (aC 1, 8, .inr (.inl (fun _ => 0)))), (h7m, .inl (aC 1, 10, .inr (.inl (fun _ => 0)))), (h8m, .inl (aC 1, 8, .inr (.inl (fun _ => 0)))), (h9m, .inl (aC 0, 10, .inl (fun _ => 0))), (h10m, .inl (aC 0, 20, .inl (fun _ => 0))), (h11m, .inl (aC 0, 20, .inl (fun _ => 0))), (h12m, .inl (aC 0, 20, .inl (fun _ => 0))), (h13m, .inl (aC 0, 20, .inl (fun _ => 0))), (h14m, .inl (aC 0, 8, .inl (fun _ => 0))), (h15m, .inl (aC 0, 8, .inl (fun _ => 0))), (h16m, .inl (aC 0, 10, .inl (fun _ => 0))), (h17m, .inl (aC 0, 10, .inl (fun _ => 0))), (h18m, .inl (aC 0, 10, .inl (fun _ => 0))), (h19m, .inl (aC 0, 10, .inl (fun _ => 0))), (h20m, .inl (aC 0, 8, .inl (fun _ => 0))), (h21m, .inl (aC 0, 8, .inl (fun _ => 0))), (h22m, .inl (aC 0, 2, .inl (fun _ => 0))), (h23m, .inl (aC 0, 2, .inl (fun _ => 0))), (h24m, .inl (aC 0, 2000, .inl (fun _ => 0))), (h38m, .inl (aC 0, 6, .inl (fun _ => 0))), (h43m, .inl (aC 0, 5, .inl (fun _ => 0))), (h47m, .inl (aC 0, 13, .inl (fun _ => 0))), (h51m, .inl (aC 3, 4, .inl (fun _ => 0)))]) (hS : va_S A s.heap H locs) (ls : Array Slot) (hl : lv_has ls 7 [(4, .int 0), (3, .ref ho), (2, .ref h1m), (1, .ref h1x), (0, .ref b)]) : W p l e room_1 s m #[Value.ref b] below meth c H locs 700 60000 (lw_Z below #[Value.ref b] s) (F0 m 323 ls []) := by
  obtain ⟨hx, hb, hml, hown, hts, hK, hA, hM, hM2⟩ := id F
  refine lv_aload_n hx hb dL_law_323 rfl (lv_at hl 3 rfl) ?_
  refine goI (wr := [(h1m, .inr (11, [.int 0, .int 0, x2m, .int 0, .int 0, .int 0, .int 0, .long 0, .int 0, x3m, .ref h4m, .ref h5m, .ref h6m, .ref h7m, .ref h8m, .ref h9m, .ref h10m, .ref h11m, .ref h12m, .ref h13m, .ref h14m, .ref h15m, .ref h16m, .ref h17m, .ref h18m, .ref h19m, .ref h20m, .ref h21m, .ref h22m, .ref h23m, .ref h24m, .int 0, .int 0, x25m, x26m, x27m, x28m, x29m, x30m, x31m, x32m, x33m, x34m, x35m, x36m, x37m, .ref h38m, x39m, x40m, x41m, x42m, .ref h43m, x44m, x45m, x46m, .ref h47m, x48m, x49m, x50m, .ref h51m, .int 0, x52m, x53m, x54m, x55m, x56m, x57m, x58m, x59m, x60m, x61m, x62m, x63m, x64m])), (h4m, .inl (aC 0, 14, .inl (fun _ => 0))), (h5m, .inl (aC 1, 10, .inr (.inl (fun _ => 0)))), (h6m, .inl (aC 1, 8, .inr (.inl (fun _ => 0)))), (h7m, .inl (aC 1, 10, .inr (.inl (fun _ => 0)))), (h8m, .inl (aC 1, 8, .inr (.inl (fun _ => 0)))), (h9m, .inl (aC 0, 10, .inl (fun _ => 0))), (h10m, .inl (aC 0, 20, .inl (fun _ => 0))), (h11m, .inl (aC 0, 20, .inl (fun _ => 0))), (h12m, .inl (aC 0, 20, .inl (fun _ => 0))), (h13m, .inl (aC 0, 20, .inl (fun _ => 0))), (h14m, .inl (aC 0, 8, .inl (fun _ => 0))), (h15m, .inl (aC 0, 8, .inl (fun _ => 0))), (h16m, .inl (aC 0, 10, .inl (fun _ => 0))), (h17m, .inl (aC 0, 10, .inl (fun _ => 0))), (h18m, .inl (aC 0, 10, .inl (fun _ => 0))), (h19m, .inl (aC 0, 10, .inl (fun _ => 0))), (h20m, .inl (aC 0, 8, .inl (fun _ => 0))), (h21m, .inl (aC 0, 8, .inl (fun _ => 0))), (h22m, .inl (aC 0, 2, .inl (fun _ => 0))), (h23m, .inl (aC 0, 2, .inl (fun _ => 0))), (h24m, .inl (aC 0, 2000, .inl (fun _ => 0))), (h38m, .inl (aC 0, 6, .inl (fun _ => 0))), (h43m, .inl (aC 0, 5, .inl (fun _ => 0))), (h47m, .inl (aC 0, 13, .inl (fun _ => 0))), (h51m, .inl (aC 3, 4, .inl (fun _ => 0)))]) (runV (n := 0) (As := []) (rest := []) F hP hD hS (x_town l g aC aM h1x h2x h3x h5x h6x h7x h9x h10x h22x h24x h25x h27x h28x h30x h34x h38x h39x x4x x8x x11x x12x x13x x14x x15x x16x x17x x18x x19x x20x x21x x23x x26x x29x x31x x35x x40x x41x x42x x43x F36x F37x R32x R33x) [0, 1, 2, 3, 4, 5, 6, 7, 8, 9, 10, 11, 12, 13, 14, 15, 16, 17, 18, 19, 20, 21, 22, 23, 24] (by decide) rfl 0 10 rfl rfl rfl tb461 tb458 tb459 tb460 tb1 ⟨by decide, by decide, by decide +kernel⟩ ⟨Nat.le_of_ble_eq_true rfl, Nat.le_of_ble_eq_true rfl⟩ rfl hl.1 rfl (Nat.le_of_ble_eq_true rfl) dL_law_324 ⟨Nat.le_of_ble_eq_true rfl, Nat.le_of_ble_eq_true rfl⟩) hP hD hS hA [0, 1, 2, 3, 4, 5, 6, 7, 8, 9, 10, 11, 12, 13, 14, 15, 16, 17, 18, 19, 20, 21, 22, 23, 24] [25, 26, 27, 28, 29, 30, 31, 32, 33, 34, 35, 36, 37, 38, 39, 40, 41, 42, 43, 44, 45, 46, 47, 48, 49, 50] rfl rfl (by decide) (by decide) (fun r_2 w3 H locs hw hP hD hS => ?_)
  have hP : va_P g vwCl [(h1m, .inr (11, [.int 0, .int 0, x2m, .int 0, .int 0, .int 0, .int 0, .long 0, .int 0, x3m, .ref h4m, .ref h5m, .ref h6m, .ref h7m, .ref h8m, .ref h9m, .ref h10m, .ref h11m, .ref h12m, .ref h13m, .ref h14m, .ref h15m, .ref h16m, .ref h17m, .ref h18m, .ref h19m, .ref h20m, .ref h21m, .ref h22m, .ref h23m, .ref h24m, .int 0, .int 0, x25m, x26m, x27m, x28m, x29m, x30m, x31m, x32m, x33m, x34m, x35m, x36m, x37m, .ref h38m, x39m, x40m, x41m, x42m, .ref h43m, x44m, x45m, x46m, .ref h47m, x48m, x49m, x50m, .ref h51m, .int 0, x52m, x53m, x54m, x55m, x56m, x57m, x58m, x59m, x60m, x61m, x62m, x63m, x64m])), (h4m, .inl (aC 0, 14, .inl (fun _ => 0))), (h5m, .inl (aC 1, 10, .inr (.inl (fun _ => 0)))), (h6m, .inl (aC 1, 8, .inr (.inl (fun _ => 0)))), (h7m, .inl (aC 1, 10, .inr (.inl (fun _ => 0)))), (h8m, .inl (aC 1, 8, .inr (.inl (fun _ => 0)))), (h9m, .inl (aC 0, 10, .inl (fun _ => 0))), (h10m, .inl (aC 0, 20, .inl (fun _ => 0))), (h11m, .inl (aC 0, 20, .inl (fun _ => 0))), (h12m, .inl (aC 0, 20, .inl (fun _ => 0))), (h13m, .inl (aC 0, 20, .inl (fun _ => 0))), (h14m, .inl (aC 0, 8, .inl (fun _ => 0))), (h15m, .inl (aC 0, 8, .inl (fun _ => 0))), (h16m, .inl (aC 0, 10, .inl (fun _ => 0))), (h17m, .inl (aC 0, 10, .inl (fun _ => 0))), (h18m, .inl (aC 0, 10, .inl (fun _ => 0))), (h19m, .inl (aC 0, 10, .inl (fun _ => 0))), (h20m, .inl (aC 0, 8, .inl (fun _ => 0))), (h21m, .inl (aC 0, 8, .inl (fun _ => 0))), (h22m, .inl (aC 0, 2, .inl (fun _ => 0))), (h23m, .inl (aC 0, 2, .inl (fun _ => 0))), (h24m, .inl (aC 0, 2000, .inl (fun _ => 0))), (h38m, .inl (aC 0, 6, .inl (fun _ => 0))), (h43m, .inl (aC 0, 5, .inl (fun _ => 0))), (h47m, .inl (aC 0, 13, .inl (fun _ => 0))), (h51m, .inl (aC 3, 4, .inl (fun _ => 0)))] H := hP
  have hD : va_D A [(h1m, .inr (11, [.int 0, .int 0, x2m, .int 0, .int 0, .int 0, .int 0, .long 0, .int 0, x3m, .ref h4m, .ref h5m, .ref h6m, .ref h7m, .ref h8m, .ref h9m, .ref h10m, .ref h11m, .ref h12m, .ref h13m, .ref h14m, .ref h15m, .ref h16m, .ref h17m, .ref h18m, .ref h19m, .ref h20m, .ref h21m, .ref h22m, .ref h23m, .ref h24m, .int 0, .int 0, x25m, x26m, x27m, x28m, x29m, x30m, x31m, x32m, x33m, x34m, x35m, x36m, x37m, .ref h38m, x39m, x40m, x41m, x42m, .ref h43m, x44m, x45m, x46m, .ref h47m, x48m, x49m, x50m, .ref h51m, .int 0, x52m, x53m, x54m, x55m, x56m, x57m, x58m, x59m, x60m, x61m, x62m, x63m, x64m])), (h4m, .inl (aC 0, 14, .inl (fun _ => 0))), (h5m, .inl (aC 1, 10, .inr (.inl (fun _ => 0)))), (h6m, .inl (aC 1, 8, .inr (.inl (fun _ => 0)))), (h7m, .inl (aC 1, 10, .inr (.inl (fun _ => 0)))), (h8m, .inl (aC 1, 8, .inr (.inl (fun _ => 0)))), (h9m, .inl (aC 0, 10, .inl (fun _ => 0))), (h10m, .inl (aC 0, 20, .inl (fun _ => 0))), (h11m, .inl (aC 0, 20, .inl (fun _ => 0))), (h12m, .inl (aC 0, 20, .inl (fun _ => 0))), (h13m, .inl (aC 0, 20, .inl (fun _ => 0))), (h14m, .inl (aC 0, 8, .inl (fun _ => 0))), (h15m, .inl (aC 0, 8, .inl (fun _ => 0))), (h16m, .inl (aC 0, 10, .inl (fun _ => 0))), (h17m, .inl (aC 0, 10, .inl (fun _ => 0))), (h18m, .inl (aC 0, 10, .inl (fun _ => 0))), (h19m, .inl (aC 0, 10, .inl (fun _ => 0))), (h20m, .inl (aC 0, 8, .inl (fun _ => 0))), (h21m, .inl (aC 0, 8, .inl (fun _ => 0))), (h22m, .inl (aC 0, 2, .inl (fun _ => 0))), (h23m, .inl (aC 0, 2, .inl (fun _ => 0))), (h24m, .inl (aC 0, 2000, .inl (fun _ => 0))), (h38m, .inl (aC 0, 6, .inl (fun _ => 0))), (h43m, .inl (aC 0, 5, .inl (fun _ => 0))), (h47m, .inl (aC 0, 13, .inl (fun _ => 0))), (h51m, .inl (aC 3, 4, .inl (fun _ => 0)))] := hD
  try dsimp only at hw
  subst hw
  refine lv_aload_n hx hb dL_law_327 rfl (lv_at hl 2 rfl) ?_
  refine goI (wr := []) (runV (n := 0) (As := []) (rest := [.int 0]) F hP hD hS (m_town l g aC aM h1m h4m h5m h6m h7m h8m h9m h10m h11m h12m h13m h14m h15m h16m h17m h18m h19m h20m h21m h22m h23m h24m h38m h43m h47m h51m x2m x3m x25m x26m x27m x28m x29m x30m x31m x32m x33m x34m x35m x36m x37m x39m x40m x41m x42m x44m x45m x46m x48m x49m x50m x52m x53m x54m x55m x56m x57m x58m x59m x60m x61m x62m x63m x64m) [0, 1, 2, 3, 4, 5, 6, 7, 8, 9, 10, 11, 12, 13, 14, 15, 16, 17, 18, 19, 20, 21, 22, 23, 24, 25] (by decide) rfl 0 11 rfl rfl rfl tb1418 tb1415 tb1416 tb1417 tb17 ⟨by decide, by decide, by decide +kernel⟩ ⟨Nat.le_of_ble_eq_true rfl, Nat.le_of_ble_eq_true rfl⟩ rfl hl.1 rfl (Nat.le_of_ble_eq_true rfl) dL_law_328 ⟨Nat.le_of_ble_eq_true rfl, Nat.le_of_ble_eq_true rfl⟩) hP hD hS hA [0, 1, 2, 3, 4, 5, 6, 7, 8, 9, 10, 11, 12, 13, 14, 15, 16, 17, 18, 19, 20, 21, 22, 23, 24, 25] [] rfl rfl (by decide) (by decide) (fun r_5 w6 H locs hw hP hD hS => ?_)
  have hP : va_P g vwCl [] H := hP
  have hD : va_D A [] := hD
  try dsimp only at hw
  subst hw
  refine lv_icmp_eq (tgt := 1279) hx hb dL_law_331 (by decide) (fun _ => ?_) (fun c_ => absurd (by decide +kernel) c_)
  exact law_end F hr hlocks hX hbl hbA hAs hS (Nat.le_of_ble_eq_true rfl) (Nat.le_of_ble_eq_true rfl) _ (lv_sub hl [0, 4] rfl)

theorem tb724 : (Jvm.Cond.methodLink "StairGangLaw" (31 : Nat) ({ cls := "StairGang", name := "nights", desc := "()I" } : Jvm.MethodName)) ∈ gw := lw_m 724 (by decide +kernel)
theorem tb725 : (Jvm.Cond.instanceMethod ({ cls := "StairGang", name := "nights", desc := "()I" } : Jvm.MethodName)) ∈ gw := lw_m 725 (by decide +kernel)
theorem tb726 : (Jvm.Cond.selects "StairGang" ({ cls := "StairGang", name := "nights", desc := "()I" } : Jvm.MethodName) ({ cls := "StairGang", name := "nights", desc := "()I" } : Jvm.MethodName)) ∈ gw := lw_m 726 (by decide +kernel)
theorem tb727 : (Jvm.Cond.code ({ cls := "StairGang", name := "nights", desc := "()I" } : Jvm.MethodName) prog_1_method_4_code (2 : Nat) (Option.some Jvm.ClassFile.FieldType.int)) ∈ gw := lw_m 727 (by decide +kernel)
theorem tb1593 : (Jvm.Cond.methodLink "StairGangLaw" (34 : Nat) ({ cls := "StairGangModel", name := "nights", desc := "()I" } : Jvm.MethodName)) ∈ gw := lw_m 1593 (by decide +kernel)
theorem tb1594 : (Jvm.Cond.instanceMethod ({ cls := "StairGangModel", name := "nights", desc := "()I" } : Jvm.MethodName)) ∈ gw := lw_m 1594 (by decide +kernel)
theorem tb1595 : (Jvm.Cond.selects "StairGangModel" ({ cls := "StairGangModel", name := "nights", desc := "()I" } : Jvm.MethodName) ({ cls := "StairGangModel", name := "nights", desc := "()I" } : Jvm.MethodName)) ∈ gw := lw_m 1595 (by decide +kernel)
theorem tb1596 : (Jvm.Cond.code ({ cls := "StairGangModel", name := "nights", desc := "()I" } : Jvm.MethodName) prog_13_method_54_code (1 : Nat) (Option.some Jvm.ClassFile.FieldType.int)) ∈ gw := lw_m 1596 (by decide +kernel)
theorem dL_law_336 : decode cL_law 336 = .ok (.aload_n 1, 1) := by decide +kernel
theorem dL_law_337 : decode cL_law 337 = .ok (.invokevirtual 31, 3) := by decide +kernel
theorem dL_law_340 : decode cL_law 340 = .ok (.aload_n 2, 1) := by decide +kernel
theorem dL_law_341 : decode cL_law 341 = .ok (.invokevirtual 34, 3) := by decide +kernel
theorem dL_law_344 : decode cL_law 344 = .ok (.if_icmp .eq 935, 3) := by decide +kernel
set_option maxHeartbeats 4000000 in
set_option maxRecDepth 100000 in
theorem lc_nights {p : Program} {l : Launch} {e : Env} {s : State} {m : MethodId} {below : List Frame} {meth : Method} {c : Code} {g : va_G} {aC : Nat → ClassId} {aM : Nat → Nat} {A : Nat → Prop} {b : Nat} {xs : Nat → Int32} (F : Fx p s m #[Value.ref b] c code 7 RL g aC aM A) (hr : meth.sig.returnType = ret) (hlocks : meth.locks = false) (hX : va_X b 7 xs s s.heap) (hbl : b < s.heap.size) (hbA : ¬ A b) (hAs : ∀ q, A q → s.heap.size ≤ q) (h1x h2x h4x h5x h9x h23x h24x : Nat) (x3x x6x x7x x8x x10x x11x x12x x13x x14x x15x x16x x17x x18x x19x x20x x21x x22x x25x x26x x27x : Value) (h1m h40m h41m h42m h43m h44m : Nat) (x2m x3m x4m x5m x6m x7m x8m x9m x10m x11m x12m x13m x14m x15m x16m x17m x18m x19m x20m x21m x22m x23m x24m x25m x26m x27m x28m x29m x30m x31m x32m x33m x34m x35m x36m x37m x38m x39m x45m x46m x47m x48m x49m x50m x51m x52m x53m x54m x55m x56m x57m x58m x59m x60m x61m x62m x63m x64m x65m x66m x67m : Value) (ho : Nat) {H : Heap} {locs : List Loc} (hP : va_P g vwCl [(h1x, .inr (10, [.ref h2x, x3x, .ref h4x, .ref h5x, x6x, x7x, x8x, .ref h9x, x10x, x11x, x12x, x13x, x14x, x15x, x16x, x17x])), (h2x, .inr (7, [.int 0, .int 0, x18x, x19x, .int 0, .int 0, .int 0, x20x, x21x, x22x])), (h4x, .inr (2, [.ref h23x, .int 0, .ref h2x])), (h23x, .inl (aC 0, 160, .inl (fun _ => 0))), (h9x, .inr (5, [.ref h24x, .int 0, x25x, x26x, x27x])), (h24x, .inl (aC 0, 160, .inl (fun _ => 0))), (h1m, .inr (11, [.int 0, .int 0, x2m, .int 0, .int 0, .int 0, .int 0, .long 0, .int 0, x3m, x4m, x5m, x6m, x7m, x8m, x9m, x10m, x11m, x12m, x13m, x14m, x15m, x16m, x17m, x18m, x19m, x20m, x21m, x22m, x23m, x24m, x25m, x26m, x27m, x28m, x29m, x30m, x31m, x32m, x33m, x34m, x35m, x36m, x37m, x38m, x39m, .ref h40m, .ref h41m, .ref h42m, .ref h43m, .ref h44m, x45m, x46m, x47m, x48m, x49m, x50m, x51m, x52m, x53m, x54m, x55m, x56m, x57m, x58m, x59m, x60m, x61m, x62m, x63m, x64m, x65m, x66m, x67m])), (h40m, .inl (aC 0, 6, .inl (fun _ => 0))), (h41m, .inl (aC 0, 240, .inl (fun _ => 0))), (h42m, .inl (aC 0, 240, .inl (fun _ => 0))), (h43m, .inl (aC 0, 240, .inl (fun _ => 0))), (h44m, .inl (aC 0, 240, .inl (fun _ => 0)))] H) (hD : va_D A [(h1x, .inr (10, [.ref h2x, x3x, .ref h4x, .ref h5x, x6x, x7x, x8x, .ref h9x, x10x, x11x, x12x, x13x, x14x, x15x, x16x, x17x])), (h2x, .inr (7, [.int 0, .int 0, x18x, x19x, .int 0, .int 0, .int 0, x20x, x21x, x22x])), (h4x, .inr (2, [.ref h23x, .int 0, .ref h2x])), (h23x, .inl (aC 0, 160, .inl (fun _ => 0))), (h9x, .inr (5, [.ref h24x, .int 0, x25x, x26x, x27x])), (h24x, .inl (aC 0, 160, .inl (fun _ => 0))), (h1m, .inr (11, [.int 0, .int 0, x2m, .int 0, .int 0, .int 0, .int 0, .long 0, .int 0, x3m, x4m, x5m, x6m, x7m, x8m, x9m, x10m, x11m, x12m, x13m, x14m, x15m, x16m, x17m, x18m, x19m, x20m, x21m, x22m, x23m, x24m, x25m, x26m, x27m, x28m, x29m, x30m, x31m, x32m, x33m, x34m, x35m, x36m, x37m, x38m, x39m, .ref h40m, .ref h41m, .ref h42m, .ref h43m, .ref h44m, x45m, x46m, x47m, x48m, x49m, x50m, x51m, x52m, x53m, x54m, x55m, x56m, x57m, x58m, x59m, x60m, x61m, x62m, x63m, x64m, x65m, x66m, x67m])), (h40m, .inl (aC 0, 6, .inl (fun _ => 0))), (h41m, .inl (aC 0, 240, .inl (fun _ => 0))), (h42m, .inl (aC 0, 240, .inl (fun _ => 0))), (h43m, .inl (aC 0, 240, .inl (fun _ => 0))), (h44m, .inl (aC 0, 240, .inl (fun _ => 0)))]) (hS : va_S A s.heap H locs) (ls : Array Slot) (hl : lv_has ls 7 [(4, .int 0), (3, .ref ho), (2, .ref h1m), (1, .ref h1x), (0, .ref b)]) : W p l e room_1 s m #[Value.ref b] below meth c H locs 700 60000 (lw_Z below #[Value.ref b] s) (F0 m 336 ls []) := by
  obtain ⟨hx, hb, hml, hown, hts, hK, hA, hM, hM2⟩ := id F
  refine lv_aload_n hx hb dL_law_336 rfl (lv_at hl 3 rfl) ?_
  refine goI (wr := [(h1m, .inr (11, [.int 0, .int 0, x2m, .int 0, .int 0, .int 0, .int 0, .long 0, .int 0, x3m, x4m, x5m, x6m, x7m, x8m, x9m, x10m, x11m, x12m, x13m, x14m, x15m, x16m, x17m, x18m, x19m, x20m, x21m, x22m, x23m, x24m, x25m, x26m, x27m, x28m, x29m, x30m, x31m, x32m, x33m, x34m, x35m, x36m, x37m, x38m, x39m, .ref h40m, .ref h41m, .ref h42m, .ref h43m, .ref h44m, x45m, x46m, x47m, x48m, x49m, x50m, x51m, x52m, x53m, x54m, x55m, x56m, x57m, x58m, x59m, x60m, x61m, x62m, x63m, x64m, x65m, x66m, x67m])), (h40m, .inl (aC 0, 6, .inl (fun _ => 0))), (h41m, .inl (aC 0, 240, .inl (fun _ => 0))), (h42m, .inl (aC 0, 240, .inl (fun _ => 0))), (h43m, .inl (aC 0, 240, .inl (fun _ => 0))), (h44m, .inl (aC 0, 240, .inl (fun _ => 0)))]) (runV (n := 0) (As := []) (rest := []) F hP hD hS (x_nights l g aC aM h1x h2x h4x h5x h9x h23x h24x x3x x6x x7x x8x x10x x11x x12x x13x x14x x15x x16x x17x x18x x19x x20x x21x x22x x25x x26x x27x) [0, 1, 2, 3, 4, 5] (by decide) rfl 0 10 rfl rfl rfl tb727 tb724 tb725 tb726 tb1 ⟨by decide, by decide, by decide +kernel⟩ ⟨Nat.le_of_ble_eq_true rfl, Nat.le_of_ble_eq_true rfl⟩ rfl hl.1 rfl (Nat.le_of_ble_eq_true rfl) dL_law_337 ⟨Nat.le_of_ble_eq_true rfl, Nat.le_of_ble_eq_true rfl⟩) hP hD hS hA [0, 1, 2, 3, 4, 5] [6, 7, 8, 9, 10, 11] rfl rfl (by decide) (by decide) (fun r_2 w3 H locs hw hP hD hS => ?_)
  have hP : va_P g vwCl [(h1m, .inr (11, [.int 0, .int 0, x2m, .int 0, .int 0, .int 0, .int 0, .long 0, .int 0, x3m, x4m, x5m, x6m, x7m, x8m, x9m, x10m, x11m, x12m, x13m, x14m, x15m, x16m, x17m, x18m, x19m, x20m, x21m, x22m, x23m, x24m, x25m, x26m, x27m, x28m, x29m, x30m, x31m, x32m, x33m, x34m, x35m, x36m, x37m, x38m, x39m, .ref h40m, .ref h41m, .ref h42m, .ref h43m, .ref h44m, x45m, x46m, x47m, x48m, x49m, x50m, x51m, x52m, x53m, x54m, x55m, x56m, x57m, x58m, x59m, x60m, x61m, x62m, x63m, x64m, x65m, x66m, x67m])), (h40m, .inl (aC 0, 6, .inl (fun _ => 0))), (h41m, .inl (aC 0, 240, .inl (fun _ => 0))), (h42m, .inl (aC 0, 240, .inl (fun _ => 0))), (h43m, .inl (aC 0, 240, .inl (fun _ => 0))), (h44m, .inl (aC 0, 240, .inl (fun _ => 0)))] H := hP
  have hD : va_D A [(h1m, .inr (11, [.int 0, .int 0, x2m, .int 0, .int 0, .int 0, .int 0, .long 0, .int 0, x3m, x4m, x5m, x6m, x7m, x8m, x9m, x10m, x11m, x12m, x13m, x14m, x15m, x16m, x17m, x18m, x19m, x20m, x21m, x22m, x23m, x24m, x25m, x26m, x27m, x28m, x29m, x30m, x31m, x32m, x33m, x34m, x35m, x36m, x37m, x38m, x39m, .ref h40m, .ref h41m, .ref h42m, .ref h43m, .ref h44m, x45m, x46m, x47m, x48m, x49m, x50m, x51m, x52m, x53m, x54m, x55m, x56m, x57m, x58m, x59m, x60m, x61m, x62m, x63m, x64m, x65m, x66m, x67m])), (h40m, .inl (aC 0, 6, .inl (fun _ => 0))), (h41m, .inl (aC 0, 240, .inl (fun _ => 0))), (h42m, .inl (aC 0, 240, .inl (fun _ => 0))), (h43m, .inl (aC 0, 240, .inl (fun _ => 0))), (h44m, .inl (aC 0, 240, .inl (fun _ => 0)))] := hD
  try dsimp only at hw
  subst hw
  refine lv_aload_n hx hb dL_law_340 rfl (lv_at hl 2 rfl) ?_
  refine goI (wr := []) (runV (n := 0) (As := []) (rest := [.int 0]) F hP hD hS (m_nights l g aC aM h1m h40m h41m h42m h43m h44m x2m x3m x4m x5m x6m x7m x8m x9m x10m x11m x12m x13m x14m x15m x16m x17m x18m x19m x20m x21m x22m x23m x24m x25m x26m x27m x28m x29m x30m x31m x32m x33m x34m x35m x36m x37m x38m x39m x45m x46m x47m x48m x49m x50m x51m x52m x53m x54m x55m x56m x57m x58m x59m x60m x61m x62m x63m x64m x65m x66m x67m) [0, 1, 2, 3, 4, 5] (by decide) rfl 0 11 rfl rfl rfl tb1596 tb1593 tb1594 tb1595 tb17 ⟨by decide, by decide, by decide +kernel⟩ ⟨Nat.le_of_ble_eq_true rfl, Nat.le_of_ble_eq_true rfl⟩ rfl hl.1 rfl (Nat.le_of_ble_eq_true rfl) dL_law_341 ⟨Nat.le_of_ble_eq_true rfl, Nat.le_of_ble_eq_true rfl⟩) hP hD hS hA [0, 1, 2, 3, 4, 5] [] rfl rfl (by decide) (by decide) (fun r_5 w6 H locs hw hP hD hS => ?_)
  have hP : va_P g vwCl [] H := hP
  have hD : va_D A [] := hD
  try dsimp only at hw
  subst hw
  refine lv_icmp_eq (tgt := 1279) hx hb dL_law_344 (by decide) (fun _ => ?_) (fun c_ => absurd (by decide +kernel) c_)
  exact law_end F hr hlocks hX hbl hbA hAs hS (Nat.le_of_ble_eq_true rfl) (Nat.le_of_ble_eq_true rfl) _ (lv_sub hl [0, 4] rfl)

theorem tb757 : (Jvm.Cond.methodLink "StairGangLaw" (35 : Nat) ({ cls := "StairGang", name := "flight", desc := "(II)I" } : Jvm.MethodName)) ∈ gw := lw_m 757 (by decide +kernel)
theorem tb758 : (Jvm.Cond.instanceMethod ({ cls := "StairGang", name := "flight", desc := "(II)I" } : Jvm.MethodName)) ∈ gw := lw_m 758 (by decide +kernel)
theorem tb759 : (Jvm.Cond.selects "StairGang" ({ cls := "StairGang", name := "flight", desc := "(II)I" } : Jvm.MethodName) ({ cls := "StairGang", name := "flight", desc := "(II)I" } : Jvm.MethodName)) ∈ gw := lw_m 759 (by decide +kernel)
theorem tb760 : (Jvm.Cond.code ({ cls := "StairGang", name := "flight", desc := "(II)I" } : Jvm.MethodName) prog_1_method_5_code (3 : Nat) (Option.some Jvm.ClassFile.FieldType.int)) ∈ gw := lw_m 760 (by decide +kernel)
theorem tb1609 : (Jvm.Cond.methodLink "StairGangLaw" (39 : Nat) ({ cls := "StairGangModel", name := "flight", desc := "(II)I" } : Jvm.MethodName)) ∈ gw := lw_m 1609 (by decide +kernel)
theorem tb1610 : (Jvm.Cond.instanceMethod ({ cls := "StairGangModel", name := "flight", desc := "(II)I" } : Jvm.MethodName)) ∈ gw := lw_m 1610 (by decide +kernel)
theorem tb1611 : (Jvm.Cond.selects "StairGangModel" ({ cls := "StairGangModel", name := "flight", desc := "(II)I" } : Jvm.MethodName) ({ cls := "StairGangModel", name := "flight", desc := "(II)I" } : Jvm.MethodName)) ∈ gw := lw_m 1611 (by decide +kernel)
theorem tb1612 : (Jvm.Cond.code ({ cls := "StairGangModel", name := "flight", desc := "(II)I" } : Jvm.MethodName) prog_13_method_67_code (3 : Nat) (Option.some Jvm.ClassFile.FieldType.int)) ∈ gw := lw_m 1612 (by decide +kernel)
theorem dL_law_349 : decode cL_law 349 = .ok (.aload_n 1, 1) := by decide +kernel
theorem dL_law_350 : decode cL_law 350 = .ok (.aload_n 0, 1) := by decide +kernel
theorem dL_law_351 : decode cL_law 351 = .ok (.iload 4, 2) := by decide +kernel
theorem dL_law_353 : decode cL_law 353 = .ok (.iconst 1, 1) := by decide +kernel
theorem dL_law_354 : decode cL_law 354 = .ok (.iadd, 1) := by decide +kernel
theorem dL_law_355 : decode cL_law 355 = .ok (.iaload, 1) := by decide +kernel
theorem dL_law_356 : decode cL_law 356 = .ok (.aload_n 0, 1) := by decide +kernel
theorem dL_law_357 : decode cL_law 357 = .ok (.iload 4, 2) := by decide +kernel
theorem dL_law_359 : decode cL_law 359 = .ok (.iconst 2, 1) := by decide +kernel
theorem dL_law_360 : decode cL_law 360 = .ok (.iadd, 1) := by decide +kernel
theorem dL_law_361 : decode cL_law 361 = .ok (.iaload, 1) := by decide +kernel
theorem dL_law_362 : decode cL_law 362 = .ok (.invokevirtual 35, 3) := by decide +kernel
theorem dL_law_365 : decode cL_law 365 = .ok (.aload_n 2, 1) := by decide +kernel
theorem dL_law_366 : decode cL_law 366 = .ok (.aload_n 0, 1) := by decide +kernel
theorem dL_law_367 : decode cL_law 367 = .ok (.iload 4, 2) := by decide +kernel
theorem dL_law_369 : decode cL_law 369 = .ok (.iconst 1, 1) := by decide +kernel
theorem dL_law_370 : decode cL_law 370 = .ok (.iadd, 1) := by decide +kernel
theorem dL_law_371 : decode cL_law 371 = .ok (.iaload, 1) := by decide +kernel
theorem dL_law_372 : decode cL_law 372 = .ok (.aload_n 0, 1) := by decide +kernel
theorem dL_law_373 : decode cL_law 373 = .ok (.iload 4, 2) := by decide +kernel
theorem dL_law_375 : decode cL_law 375 = .ok (.iconst 2, 1) := by decide +kernel
theorem dL_law_376 : decode cL_law 376 = .ok (.iadd, 1) := by decide +kernel
theorem dL_law_377 : decode cL_law 377 = .ok (.iaload, 1) := by decide +kernel
theorem dL_law_378 : decode cL_law 378 = .ok (.invokevirtual 39, 3) := by decide +kernel
theorem dL_law_381 : decode cL_law 381 = .ok (.if_icmp .eq 898, 3) := by decide +kernel
set_option maxHeartbeats 4000000 in
set_option maxRecDepth 100000 in
theorem lc_flight {p : Program} {l : Launch} {e : Env} {s : State} {m : MethodId} {below : List Frame} {meth : Method} {c : Code} {g : va_G} {aC : Nat → ClassId} {aM : Nat → Nat} {A : Nat → Prop} {b : Nat} {xs : Nat → Int32} (F : Fx p s m #[Value.ref b] c code 7 RL g aC aM A) (hr : meth.sig.returnType = ret) (hlocks : meth.locks = false) (hX : va_X b 7 xs s s.heap) (hbl : b < s.heap.size) (hbA : ¬ A b) (hAs : ∀ q, A q → s.heap.size ≤ q) (h1x h5x h18x : Nat) (x2x x3x x4x x6x x7x x8x x9x x10x x11x x12x x13x x14x x15x x16x x17x x19x x20x x21x x22x x23x x24x x25x x26x x27x x28x x29x : Value) (h1m h11m : Nat) (x2m x3m x4m x5m x6m x7m x8m x9m x10m x12m x13m x14m x15m x16m x17m x18m x19m x20m x21m x22m x23m x24m x25m x26m x27m x28m x29m x30m x31m x32m x33m x34m x35m x36m x37m x38m x39m x40m x41m x42m x43m x44m x45m x46m x47m x48m x49m x50m x51m x52m x53m x54m x55m x56m x57m x58m x59m x60m x61m x62m x63m x64m x65m x66m x67m x68m x69m x70m x71m x72m x73m x74m : Value) (ho : Nat) {H : Heap} {locs : List Loc} (hP : va_P g vwCl [(h1x, .inr (10, [x2x, x3x, x4x, .ref h5x, x6x, x7x, x8x, x9x, x10x, x11x, x12x, x13x, x14x, x15x, x16x, x17x])), (h5x, .inr (8, [.ref h18x, x19x, x20x, x21x, x22x, x23x, x24x, x25x, x26x, x27x, x28x, x29x])), (h18x, .inl (aC 0, 5, .inl (fun _ => 0))), (h1m, .inr (11, [.int 0, x2m, x3m, x4m, x5m, x6m, x7m, x8m, x9m, x10m, .ref h11m, x12m, x13m, x14m, x15m, x16m, x17m, x18m, x19m, x20m, x21m, x22m, x23m, x24m, x25m, x26m, x27m, x28m, x29m, x30m, x31m, x32m, x33m, x34m, x35m, x36m, x37m, x38m, x39m, x40m, x41m, x42m, x43m, x44m, x45m, x46m, x47m, x48m, x49m, x50m, x51m, x52m, x53m, x54m, x55m, x56m, x57m, x58m, x59m, x60m, x61m, x62m, x63m, x64m, x65m, x66m, x67m, x68m, x69m, x70m, x71m, x72m, x73m, x74m])), (h11m, .inl (aC 0, 14, .inl (fun _ => 0)))] H) (hD : va_D A [(h1x, .inr (10, [x2x, x3x, x4x, .ref h5x, x6x, x7x, x8x, x9x, x10x, x11x, x12x, x13x, x14x, x15x, x16x, x17x])), (h5x, .inr (8, [.ref h18x, x19x, x20x, x21x, x22x, x23x, x24x, x25x, x26x, x27x, x28x, x29x])), (h18x, .inl (aC 0, 5, .inl (fun _ => 0))), (h1m, .inr (11, [.int 0, x2m, x3m, x4m, x5m, x6m, x7m, x8m, x9m, x10m, .ref h11m, x12m, x13m, x14m, x15m, x16m, x17m, x18m, x19m, x20m, x21m, x22m, x23m, x24m, x25m, x26m, x27m, x28m, x29m, x30m, x31m, x32m, x33m, x34m, x35m, x36m, x37m, x38m, x39m, x40m, x41m, x42m, x43m, x44m, x45m, x46m, x47m, x48m, x49m, x50m, x51m, x52m, x53m, x54m, x55m, x56m, x57m, x58m, x59m, x60m, x61m, x62m, x63m, x64m, x65m, x66m, x67m, x68m, x69m, x70m, x71m, x72m, x73m, x74m])), (h11m, .inl (aC 0, 14, .inl (fun _ => 0)))]) (hS : va_S A s.heap H locs) (ls : Array Slot) (hl : lv_has ls 7 [(4, .int 0), (3, .ref ho), (2, .ref h1m), (1, .ref h1x), (0, .ref b)]) : W p l e room_1 s m #[Value.ref b] below meth c H locs 700 60000 (lw_Z below #[Value.ref b] s) (F0 m 349 ls []) := by
  obtain ⟨hx, hb, hml, hown, hts, hK, hA, hM, hM2⟩ := id F
  refine lv_aload_n hx hb dL_law_349 rfl (lv_at hl 3 rfl) ?_
  refine lv_aload_n hx hb dL_law_350 rfl (lv_at hl 4 rfl) ?_
  refine lv_iload hx hb dL_law_351 (lv_at hl 0 rfl) ?_
  refine lv_iconst (v := 1) hx hb dL_law_353 (by decide) ?_
  refine lv_iadd hx hb dL_law_354 ?_
  refine relit (v := 1) (by decide +kernel) ?_
  refine va_sld hx hb hX hbl hbA hS (vpin (j := 1) (by decide +kernel) (by decide +kernel) (by decide)) dL_law_355 ?_
  refine relit (v := xs 1) (by rw [show ((1 : Int32).toNatClampNeg) = 1 from by decide +kernel]) ?_
  refine lv_aload_n hx hb dL_law_356 rfl (lv_at hl 4 rfl) ?_
  refine lv_iload hx hb dL_law_357 (lv_at hl 0 rfl) ?_
  refine lv_iconst (v := 2) hx hb dL_law_359 (by decide) ?_
  refine lv_iadd hx hb dL_law_360 ?_
  refine relit (v := 2) (by decide +kernel) ?_
  refine va_sld hx hb hX hbl hbA hS (vpin (j := 2) (by decide +kernel) (by decide +kernel) (by decide)) dL_law_361 ?_
  refine relit (v := xs 2) (by rw [show ((2 : Int32).toNatClampNeg) = 2 from by decide +kernel]) ?_
  refine goI (wr := [(h1m, .inr (11, [.int 0, x2m, x3m, x4m, x5m, x6m, x7m, x8m, x9m, x10m, .ref h11m, x12m, x13m, x14m, x15m, x16m, x17m, x18m, x19m, x20m, x21m, x22m, x23m, x24m, x25m, x26m, x27m, x28m, x29m, x30m, x31m, x32m, x33m, x34m, x35m, x36m, x37m, x38m, x39m, x40m, x41m, x42m, x43m, x44m, x45m, x46m, x47m, x48m, x49m, x50m, x51m, x52m, x53m, x54m, x55m, x56m, x57m, x58m, x59m, x60m, x61m, x62m, x63m, x64m, x65m, x66m, x67m, x68m, x69m, x70m, x71m, x72m, x73m, x74m])), (h11m, .inl (aC 0, 14, .inl (fun _ => 0)))]) (runV (n := 2) (As := [.int (xs 1), .int (xs 2)]) (rest := []) F hP hD hS (x_flight l g aC aM h1x h5x h18x x2x x3x x4x x6x x7x x8x x9x x10x x11x x12x x13x x14x x15x x16x x17x x19x x20x x21x x22x x23x x24x x25x x26x x27x x28x x29x (xs 1) (xs 2)) [0, 1, 2] (by decide) rfl 0 10 rfl rfl rfl tb760 tb757 tb758 tb759 tb1 ⟨by decide, by decide, by decide +kernel⟩ ⟨Nat.le_of_ble_eq_true rfl, Nat.le_of_ble_eq_true rfl⟩ rfl hl.1 rfl (Nat.le_of_ble_eq_true rfl) dL_law_362 ⟨Nat.le_of_ble_eq_true rfl, Nat.le_of_ble_eq_true rfl⟩) hP hD hS hA [0, 1, 2] [3, 4] rfl rfl (by decide) (by decide) (fun r_2 w3 H locs hw hP hD hS => ?_)
  have hP : va_P g vwCl [(h1m, .inr (11, [.int 0, x2m, x3m, x4m, x5m, x6m, x7m, x8m, x9m, x10m, .ref h11m, x12m, x13m, x14m, x15m, x16m, x17m, x18m, x19m, x20m, x21m, x22m, x23m, x24m, x25m, x26m, x27m, x28m, x29m, x30m, x31m, x32m, x33m, x34m, x35m, x36m, x37m, x38m, x39m, x40m, x41m, x42m, x43m, x44m, x45m, x46m, x47m, x48m, x49m, x50m, x51m, x52m, x53m, x54m, x55m, x56m, x57m, x58m, x59m, x60m, x61m, x62m, x63m, x64m, x65m, x66m, x67m, x68m, x69m, x70m, x71m, x72m, x73m, x74m])), (h11m, .inl (aC 0, 14, .inl (fun _ => 0)))] H := hP
  have hD : va_D A [(h1m, .inr (11, [.int 0, x2m, x3m, x4m, x5m, x6m, x7m, x8m, x9m, x10m, .ref h11m, x12m, x13m, x14m, x15m, x16m, x17m, x18m, x19m, x20m, x21m, x22m, x23m, x24m, x25m, x26m, x27m, x28m, x29m, x30m, x31m, x32m, x33m, x34m, x35m, x36m, x37m, x38m, x39m, x40m, x41m, x42m, x43m, x44m, x45m, x46m, x47m, x48m, x49m, x50m, x51m, x52m, x53m, x54m, x55m, x56m, x57m, x58m, x59m, x60m, x61m, x62m, x63m, x64m, x65m, x66m, x67m, x68m, x69m, x70m, x71m, x72m, x73m, x74m])), (h11m, .inl (aC 0, 14, .inl (fun _ => 0)))] := hD
  try dsimp only at hw
  subst hw
  refine lv_aload_n hx hb dL_law_365 rfl (lv_at hl 2 rfl) ?_
  refine lv_aload_n hx hb dL_law_366 rfl (lv_at hl 4 rfl) ?_
  refine lv_iload hx hb dL_law_367 (lv_at hl 0 rfl) ?_
  refine lv_iconst (v := 1) hx hb dL_law_369 (by decide) ?_
  refine lv_iadd hx hb dL_law_370 ?_
  refine relit (v := 1) (by decide +kernel) ?_
  refine va_sld hx hb hX hbl hbA hS (vpin (j := 1) (by decide +kernel) (by decide +kernel) (by decide)) dL_law_371 ?_
  refine relit (v := xs 1) (by rw [show ((1 : Int32).toNatClampNeg) = 1 from by decide +kernel]) ?_
  refine lv_aload_n hx hb dL_law_372 rfl (lv_at hl 4 rfl) ?_
  refine lv_iload hx hb dL_law_373 (lv_at hl 0 rfl) ?_
  refine lv_iconst (v := 2) hx hb dL_law_375 (by decide) ?_
  refine lv_iadd hx hb dL_law_376 ?_
  refine relit (v := 2) (by decide +kernel) ?_
  refine va_sld hx hb hX hbl hbA hS (vpin (j := 2) (by decide +kernel) (by decide +kernel) (by decide)) dL_law_377 ?_
  refine relit (v := xs 2) (by rw [show ((2 : Int32).toNatClampNeg) = 2 from by decide +kernel]) ?_
  refine goI (wr := []) (runV (n := 2) (As := [.int (xs 1), .int (xs 2)]) (rest := [.int (-1)]) F hP hD hS (m_flight l g aC aM h1m h11m x2m x3m x4m x5m x6m x7m x8m x9m x10m x12m x13m x14m x15m x16m x17m x18m x19m x20m x21m x22m x23m x24m x25m x26m x27m x28m x29m x30m x31m x32m x33m x34m x35m x36m x37m x38m x39m x40m x41m x42m x43m x44m x45m x46m x47m x48m x49m x50m x51m x52m x53m x54m x55m x56m x57m x58m x59m x60m x61m x62m x63m x64m x65m x66m x67m x68m x69m x70m x71m x72m x73m x74m (xs 1) (xs 2)) [0, 1] (by decide) rfl 0 11 rfl rfl rfl tb1612 tb1609 tb1610 tb1611 tb17 ⟨by decide, by decide, by decide +kernel⟩ ⟨Nat.le_of_ble_eq_true rfl, Nat.le_of_ble_eq_true rfl⟩ rfl hl.1 rfl (Nat.le_of_ble_eq_true rfl) dL_law_378 ⟨Nat.le_of_ble_eq_true rfl, Nat.le_of_ble_eq_true rfl⟩) hP hD hS hA [0, 1] [] rfl rfl (by decide) (by decide) (fun r_5 w6 H locs hw hP hD hS => ?_)
  have hP : va_P g vwCl [] H := hP
  have hD : va_D A [] := hD
  try dsimp only at hw
  subst hw
  refine lv_icmp_eq (tgt := 1279) hx hb dL_law_381 (by decide) (fun _ => ?_) (fun c_ => absurd (by decide +kernel) c_)
  exact law_end F hr hlocks hX hbl hbA hAs hS (Nat.le_of_ble_eq_true rfl) (Nat.le_of_ble_eq_true rfl) _ (lv_sub hl [0, 4] rfl)

theorem tb762 : (Jvm.Cond.methodLink "StairGangLaw" (40 : Nat) ({ cls := "StairGang", name := "person", desc := "(II)I" } : Jvm.MethodName)) ∈ gw := lw_m 762 (by decide +kernel)
theorem tb763 : (Jvm.Cond.instanceMethod ({ cls := "StairGang", name := "person", desc := "(II)I" } : Jvm.MethodName)) ∈ gw := lw_m 763 (by decide +kernel)
theorem tb764 : (Jvm.Cond.selects "StairGang" ({ cls := "StairGang", name := "person", desc := "(II)I" } : Jvm.MethodName) ({ cls := "StairGang", name := "person", desc := "(II)I" } : Jvm.MethodName)) ∈ gw := lw_m 764 (by decide +kernel)
theorem tb765 : (Jvm.Cond.code ({ cls := "StairGang", name := "person", desc := "(II)I" } : Jvm.MethodName) prog_1_method_6_code (3 : Nat) (Option.some Jvm.ClassFile.FieldType.int)) ∈ gw := lw_m 765 (by decide +kernel)
theorem tb1617 : (Jvm.Cond.methodLink "StairGangLaw" (43 : Nat) ({ cls := "StairGangModel", name := "person", desc := "(II)I" } : Jvm.MethodName)) ∈ gw := lw_m 1617 (by decide +kernel)
theorem tb1618 : (Jvm.Cond.instanceMethod ({ cls := "StairGangModel", name := "person", desc := "(II)I" } : Jvm.MethodName)) ∈ gw := lw_m 1618 (by decide +kernel)
theorem tb1619 : (Jvm.Cond.selects "StairGangModel" ({ cls := "StairGangModel", name := "person", desc := "(II)I" } : Jvm.MethodName) ({ cls := "StairGangModel", name := "person", desc := "(II)I" } : Jvm.MethodName)) ∈ gw := lw_m 1619 (by decide +kernel)
theorem tb1620 : (Jvm.Cond.code ({ cls := "StairGangModel", name := "person", desc := "(II)I" } : Jvm.MethodName) prog_13_method_68_code (3 : Nat) (Option.some Jvm.ClassFile.FieldType.int)) ∈ gw := lw_m 1620 (by decide +kernel)
theorem dL_law_386 : decode cL_law 386 = .ok (.aload_n 1, 1) := by decide +kernel
theorem dL_law_387 : decode cL_law 387 = .ok (.aload_n 0, 1) := by decide +kernel
theorem dL_law_388 : decode cL_law 388 = .ok (.iload 4, 2) := by decide +kernel
theorem dL_law_390 : decode cL_law 390 = .ok (.iconst 1, 1) := by decide +kernel
theorem dL_law_391 : decode cL_law 391 = .ok (.iadd, 1) := by decide +kernel
theorem dL_law_392 : decode cL_law 392 = .ok (.iaload, 1) := by decide +kernel
theorem dL_law_393 : decode cL_law 393 = .ok (.aload_n 0, 1) := by decide +kernel
theorem dL_law_394 : decode cL_law 394 = .ok (.iload 4, 2) := by decide +kernel
theorem dL_law_396 : decode cL_law 396 = .ok (.iconst 2, 1) := by decide +kernel
theorem dL_law_397 : decode cL_law 397 = .ok (.iadd, 1) := by decide +kernel
theorem dL_law_398 : decode cL_law 398 = .ok (.iaload, 1) := by decide +kernel
theorem dL_law_399 : decode cL_law 399 = .ok (.invokevirtual 40, 3) := by decide +kernel
theorem dL_law_402 : decode cL_law 402 = .ok (.aload_n 2, 1) := by decide +kernel
theorem dL_law_403 : decode cL_law 403 = .ok (.aload_n 0, 1) := by decide +kernel
theorem dL_law_404 : decode cL_law 404 = .ok (.iload 4, 2) := by decide +kernel
theorem dL_law_406 : decode cL_law 406 = .ok (.iconst 1, 1) := by decide +kernel
theorem dL_law_407 : decode cL_law 407 = .ok (.iadd, 1) := by decide +kernel
theorem dL_law_408 : decode cL_law 408 = .ok (.iaload, 1) := by decide +kernel
theorem dL_law_409 : decode cL_law 409 = .ok (.aload_n 0, 1) := by decide +kernel
theorem dL_law_410 : decode cL_law 410 = .ok (.iload 4, 2) := by decide +kernel
theorem dL_law_412 : decode cL_law 412 = .ok (.iconst 2, 1) := by decide +kernel
theorem dL_law_413 : decode cL_law 413 = .ok (.iadd, 1) := by decide +kernel
theorem dL_law_414 : decode cL_law 414 = .ok (.iaload, 1) := by decide +kernel
theorem dL_law_415 : decode cL_law 415 = .ok (.invokevirtual 43, 3) := by decide +kernel
theorem dL_law_418 : decode cL_law 418 = .ok (.if_icmp .eq 861, 3) := by decide +kernel
set_option maxHeartbeats 4000000 in
set_option maxRecDepth 100000 in
theorem lc_person {p : Program} {l : Launch} {e : Env} {s : State} {m : MethodId} {below : List Frame} {meth : Method} {c : Code} {g : va_G} {aC : Nat → ClassId} {aM : Nat → Nat} {A : Nat → Prop} {b : Nat} {xs : Nat → Int32} (F : Fx p s m #[Value.ref b] c code 7 RL g aC aM A) (hr : meth.sig.returnType = ret) (hlocks : meth.locks = false) (hX : va_X b 7 xs s s.heap) (hbl : b < s.heap.size) (hbA : ¬ A b) (hAs : ∀ q, A q → s.heap.size ≤ q) (h1x h5x h18x : Nat) (x2x x3x x4x x6x x7x x8x x9x x10x x11x x12x x13x x14x x15x x16x x17x x19x x20x x21x x22x x23x x24x x25x x26x x27x x28x x29x : Value) (h1m h11m : Nat) (x2m x3m x4m x5m x6m x7m x8m x9m x10m x12m x13m x14m x15m x16m x17m x18m x19m x20m x21m x22m x23m x24m x25m x26m x27m x28m x29m x30m x31m x32m x33m x34m x35m x36m x37m x38m x39m x40m x41m x42m x43m x44m x45m x46m x47m x48m x49m x50m x51m x52m x53m x54m x55m x56m x57m x58m x59m x60m x61m x62m x63m x64m x65m x66m x67m x68m x69m x70m x71m x72m x73m x74m : Value) (ho : Nat) {H : Heap} {locs : List Loc} (hP : va_P g vwCl [(h1x, .inr (10, [x2x, x3x, x4x, .ref h5x, x6x, x7x, x8x, x9x, x10x, x11x, x12x, x13x, x14x, x15x, x16x, x17x])), (h5x, .inr (8, [.ref h18x, x19x, x20x, x21x, x22x, x23x, x24x, x25x, x26x, x27x, x28x, x29x])), (h18x, .inl (aC 0, 5, .inl (fun _ => 0))), (h1m, .inr (11, [.int 0, x2m, x3m, x4m, x5m, x6m, x7m, x8m, x9m, x10m, .ref h11m, x12m, x13m, x14m, x15m, x16m, x17m, x18m, x19m, x20m, x21m, x22m, x23m, x24m, x25m, x26m, x27m, x28m, x29m, x30m, x31m, x32m, x33m, x34m, x35m, x36m, x37m, x38m, x39m, x40m, x41m, x42m, x43m, x44m, x45m, x46m, x47m, x48m, x49m, x50m, x51m, x52m, x53m, x54m, x55m, x56m, x57m, x58m, x59m, x60m, x61m, x62m, x63m, x64m, x65m, x66m, x67m, x68m, x69m, x70m, x71m, x72m, x73m, x74m])), (h11m, .inl (aC 0, 14, .inl (fun _ => 0)))] H) (hD : va_D A [(h1x, .inr (10, [x2x, x3x, x4x, .ref h5x, x6x, x7x, x8x, x9x, x10x, x11x, x12x, x13x, x14x, x15x, x16x, x17x])), (h5x, .inr (8, [.ref h18x, x19x, x20x, x21x, x22x, x23x, x24x, x25x, x26x, x27x, x28x, x29x])), (h18x, .inl (aC 0, 5, .inl (fun _ => 0))), (h1m, .inr (11, [.int 0, x2m, x3m, x4m, x5m, x6m, x7m, x8m, x9m, x10m, .ref h11m, x12m, x13m, x14m, x15m, x16m, x17m, x18m, x19m, x20m, x21m, x22m, x23m, x24m, x25m, x26m, x27m, x28m, x29m, x30m, x31m, x32m, x33m, x34m, x35m, x36m, x37m, x38m, x39m, x40m, x41m, x42m, x43m, x44m, x45m, x46m, x47m, x48m, x49m, x50m, x51m, x52m, x53m, x54m, x55m, x56m, x57m, x58m, x59m, x60m, x61m, x62m, x63m, x64m, x65m, x66m, x67m, x68m, x69m, x70m, x71m, x72m, x73m, x74m])), (h11m, .inl (aC 0, 14, .inl (fun _ => 0)))]) (hS : va_S A s.heap H locs) (ls : Array Slot) (hl : lv_has ls 7 [(4, .int 0), (3, .ref ho), (2, .ref h1m), (1, .ref h1x), (0, .ref b)]) : W p l e room_1 s m #[Value.ref b] below meth c H locs 700 60000 (lw_Z below #[Value.ref b] s) (F0 m 386 ls []) := by
  obtain ⟨hx, hb, hml, hown, hts, hK, hA, hM, hM2⟩ := id F
  refine lv_aload_n hx hb dL_law_386 rfl (lv_at hl 3 rfl) ?_
  refine lv_aload_n hx hb dL_law_387 rfl (lv_at hl 4 rfl) ?_
  refine lv_iload hx hb dL_law_388 (lv_at hl 0 rfl) ?_
  refine lv_iconst (v := 1) hx hb dL_law_390 (by decide) ?_
  refine lv_iadd hx hb dL_law_391 ?_
  refine relit (v := 1) (by decide +kernel) ?_
  refine va_sld hx hb hX hbl hbA hS (vpin (j := 1) (by decide +kernel) (by decide +kernel) (by decide)) dL_law_392 ?_
  refine relit (v := xs 1) (by rw [show ((1 : Int32).toNatClampNeg) = 1 from by decide +kernel]) ?_
  refine lv_aload_n hx hb dL_law_393 rfl (lv_at hl 4 rfl) ?_
  refine lv_iload hx hb dL_law_394 (lv_at hl 0 rfl) ?_
  refine lv_iconst (v := 2) hx hb dL_law_396 (by decide) ?_
  refine lv_iadd hx hb dL_law_397 ?_
  refine relit (v := 2) (by decide +kernel) ?_
  refine va_sld hx hb hX hbl hbA hS (vpin (j := 2) (by decide +kernel) (by decide +kernel) (by decide)) dL_law_398 ?_
  refine relit (v := xs 2) (by rw [show ((2 : Int32).toNatClampNeg) = 2 from by decide +kernel]) ?_
  refine goI (wr := [(h1m, .inr (11, [.int 0, x2m, x3m, x4m, x5m, x6m, x7m, x8m, x9m, x10m, .ref h11m, x12m, x13m, x14m, x15m, x16m, x17m, x18m, x19m, x20m, x21m, x22m, x23m, x24m, x25m, x26m, x27m, x28m, x29m, x30m, x31m, x32m, x33m, x34m, x35m, x36m, x37m, x38m, x39m, x40m, x41m, x42m, x43m, x44m, x45m, x46m, x47m, x48m, x49m, x50m, x51m, x52m, x53m, x54m, x55m, x56m, x57m, x58m, x59m, x60m, x61m, x62m, x63m, x64m, x65m, x66m, x67m, x68m, x69m, x70m, x71m, x72m, x73m, x74m])), (h11m, .inl (aC 0, 14, .inl (fun _ => 0)))]) (runV (n := 2) (As := [.int (xs 1), .int (xs 2)]) (rest := []) F hP hD hS (x_person l g aC aM h1x h5x h18x x2x x3x x4x x6x x7x x8x x9x x10x x11x x12x x13x x14x x15x x16x x17x x19x x20x x21x x22x x23x x24x x25x x26x x27x x28x x29x (xs 1) (xs 2)) [0, 1, 2] (by decide) rfl 0 10 rfl rfl rfl tb765 tb762 tb763 tb764 tb1 ⟨by decide, by decide, by decide +kernel⟩ ⟨Nat.le_of_ble_eq_true rfl, Nat.le_of_ble_eq_true rfl⟩ rfl hl.1 rfl (Nat.le_of_ble_eq_true rfl) dL_law_399 ⟨Nat.le_of_ble_eq_true rfl, Nat.le_of_ble_eq_true rfl⟩) hP hD hS hA [0, 1, 2] [3, 4] rfl rfl (by decide) (by decide) (fun r_2 w3 H locs hw hP hD hS => ?_)
  have hP : va_P g vwCl [(h1m, .inr (11, [.int 0, x2m, x3m, x4m, x5m, x6m, x7m, x8m, x9m, x10m, .ref h11m, x12m, x13m, x14m, x15m, x16m, x17m, x18m, x19m, x20m, x21m, x22m, x23m, x24m, x25m, x26m, x27m, x28m, x29m, x30m, x31m, x32m, x33m, x34m, x35m, x36m, x37m, x38m, x39m, x40m, x41m, x42m, x43m, x44m, x45m, x46m, x47m, x48m, x49m, x50m, x51m, x52m, x53m, x54m, x55m, x56m, x57m, x58m, x59m, x60m, x61m, x62m, x63m, x64m, x65m, x66m, x67m, x68m, x69m, x70m, x71m, x72m, x73m, x74m])), (h11m, .inl (aC 0, 14, .inl (fun _ => 0)))] H := hP
  have hD : va_D A [(h1m, .inr (11, [.int 0, x2m, x3m, x4m, x5m, x6m, x7m, x8m, x9m, x10m, .ref h11m, x12m, x13m, x14m, x15m, x16m, x17m, x18m, x19m, x20m, x21m, x22m, x23m, x24m, x25m, x26m, x27m, x28m, x29m, x30m, x31m, x32m, x33m, x34m, x35m, x36m, x37m, x38m, x39m, x40m, x41m, x42m, x43m, x44m, x45m, x46m, x47m, x48m, x49m, x50m, x51m, x52m, x53m, x54m, x55m, x56m, x57m, x58m, x59m, x60m, x61m, x62m, x63m, x64m, x65m, x66m, x67m, x68m, x69m, x70m, x71m, x72m, x73m, x74m])), (h11m, .inl (aC 0, 14, .inl (fun _ => 0)))] := hD
  try dsimp only at hw
  subst hw
  refine lv_aload_n hx hb dL_law_402 rfl (lv_at hl 2 rfl) ?_
  refine lv_aload_n hx hb dL_law_403 rfl (lv_at hl 4 rfl) ?_
  refine lv_iload hx hb dL_law_404 (lv_at hl 0 rfl) ?_
  refine lv_iconst (v := 1) hx hb dL_law_406 (by decide) ?_
  refine lv_iadd hx hb dL_law_407 ?_
  refine relit (v := 1) (by decide +kernel) ?_
  refine va_sld hx hb hX hbl hbA hS (vpin (j := 1) (by decide +kernel) (by decide +kernel) (by decide)) dL_law_408 ?_
  refine relit (v := xs 1) (by rw [show ((1 : Int32).toNatClampNeg) = 1 from by decide +kernel]) ?_
  refine lv_aload_n hx hb dL_law_409 rfl (lv_at hl 4 rfl) ?_
  refine lv_iload hx hb dL_law_410 (lv_at hl 0 rfl) ?_
  refine lv_iconst (v := 2) hx hb dL_law_412 (by decide) ?_
  refine lv_iadd hx hb dL_law_413 ?_
  refine relit (v := 2) (by decide +kernel) ?_
  refine va_sld hx hb hX hbl hbA hS (vpin (j := 2) (by decide +kernel) (by decide +kernel) (by decide)) dL_law_414 ?_
  refine relit (v := xs 2) (by rw [show ((2 : Int32).toNatClampNeg) = 2 from by decide +kernel]) ?_
  refine goI (wr := []) (runV (n := 2) (As := [.int (xs 1), .int (xs 2)]) (rest := [.int (-1)]) F hP hD hS (m_person l g aC aM h1m h11m x2m x3m x4m x5m x6m x7m x8m x9m x10m x12m x13m x14m x15m x16m x17m x18m x19m x20m x21m x22m x23m x24m x25m x26m x27m x28m x29m x30m x31m x32m x33m x34m x35m x36m x37m x38m x39m x40m x41m x42m x43m x44m x45m x46m x47m x48m x49m x50m x51m x52m x53m x54m x55m x56m x57m x58m x59m x60m x61m x62m x63m x64m x65m x66m x67m x68m x69m x70m x71m x72m x73m x74m (xs 1) (xs 2)) [0, 1] (by decide) rfl 0 11 rfl rfl rfl tb1620 tb1617 tb1618 tb1619 tb17 ⟨by decide, by decide, by decide +kernel⟩ ⟨Nat.le_of_ble_eq_true rfl, Nat.le_of_ble_eq_true rfl⟩ rfl hl.1 rfl (Nat.le_of_ble_eq_true rfl) dL_law_415 ⟨Nat.le_of_ble_eq_true rfl, Nat.le_of_ble_eq_true rfl⟩) hP hD hS hA [0, 1] [] rfl rfl (by decide) (by decide) (fun r_5 w6 H locs hw hP hD hS => ?_)
  have hP : va_P g vwCl [] H := hP
  have hD : va_D A [] := hD
  try dsimp only at hw
  subst hw
  refine lv_icmp_eq (tgt := 1279) hx hb dL_law_418 (by decide) (fun _ => ?_) (fun c_ => absurd (by decide +kernel) c_)
  exact law_end F hr hlocks hX hbl hbA hAs hS (Nat.le_of_ble_eq_true rfl) (Nat.le_of_ble_eq_true rfl) _ (lv_sub hl [0, 4] rfl)
