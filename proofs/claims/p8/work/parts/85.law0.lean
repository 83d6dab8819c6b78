/-! the law's cases -/
theorem lwc19 : Cond.constantLong RL 19 4294967295 ∈ gw := List.mem_filter.mpr ⟨List.mem_append_right _ (by decide +kernel), by decide +kernel⟩
theorem rl7 : Cond.methodLink RL 126 yL_rests ∈ gw := List.mem_filter.mpr ⟨List.mem_append_right _ (by decide +kernel), by decide +kernel⟩
theorem rl8 : Cond.static yL_rests ∈ gw := List.mem_filter.mpr ⟨List.mem_append_right _ (by decide +kernel), by decide +kernel⟩
theorem rl9 : Cond.initialized RL ∈ gw := List.mem_filter.mpr ⟨List.mem_append_right _ (by decide +kernel), by decide +kernel⟩
theorem rl10 : Cond.codeWith yL_rests cL_rests 7 (some .int) hhR ∈ gw := List.mem_filter.mpr ⟨List.mem_append_right _ (by decide +kernel), by decide +kernel⟩
theorem wO_C {aC ad : Nat → Nat} {oa : Nat} {fo : Nat → Int64} {h : Ph} : (List.range 230).map (fun i => (wO aC ad oa fo h)[i]?) = (wO aC ad oa fo h).map some := by
  have hl : (wO aC ad oa fo h).length = 230 := by simp [wO, pm_w]
  apply List.ext_getElem?
  intro j
  rw [List.getElem?_map, List.getElem?_map]
  by_cases hj : j < 230
  · rw [List.getElem?_range hj, List.getElem?_eq_getElem (by omega : j < (wO aC ad oa fo h).length)]
    simp [hl, hj]
  · rw [List.getElem?_eq_none (by simp; omega), List.getElem?_eq_none (by omega)]
    rfl
theorem dL_law_176 : decode code 176 = .ok (.aload_n 1, 1) := by decide +kernel
theorem dL_law_177 : decode code 177 = .ok (.aload_n 0, 1) := by decide +kernel
theorem dL_law_178 : decode code 178 = .ok (.iload 4, 2) := by decide +kernel
theorem dL_law_180 : decode code 180 = .ok (.iconst 1, 1) := by decide +kernel
theorem dL_law_181 : decode code 181 = .ok (.iadd, 1) := by decide +kernel
theorem dL_law_182 : decode code 182 = .ok (.iaload, 1) := by decide +kernel
theorem dL_law_183 : decode code 183 = .ok (.i2l, 1) := by decide +kernel
theorem dL_law_184 : decode code 184 = .ok (.bipush 32, 2) := by decide +kernel
theorem dL_law_186 : decode code 186 = .ok (.lshl, 1) := by decide +kernel
theorem dL_law_187 : decode code 187 = .ok (.aload_n 0, 1) := by decide +kernel
theorem dL_law_188 : decode code 188 = .ok (.iload 4, 2) := by decide +kernel
theorem dL_law_190 : decode code 190 = .ok (.iconst 2, 1) := by decide +kernel
theorem dL_law_191 : decode code 191 = .ok (.iadd, 1) := by decide +kernel
theorem dL_law_192 : decode code 192 = .ok (.iaload, 1) := by decide +kernel
theorem dL_law_193 : decode code 193 = .ok (.i2l, 1) := by decide +kernel
theorem dL_law_194 : decode code 194 = .ok (.ldc2_w 19, 3) := by decide +kernel
theorem dL_law_197 : decode code 197 = .ok (.land, 1) := by decide +kernel
theorem dL_law_198 : decode code 198 = .ok (.lor, 1) := by decide +kernel
theorem dL_law_199 : decode code 199 = .ok (.aload_n 0, 1) := by decide +kernel
theorem dL_law_200 : decode code 200 = .ok (.iload 4, 2) := by decide +kernel
theorem dL_law_202 : decode code 202 = .ok (.iconst 3, 1) := by decide +kernel
theorem dL_law_203 : decode code 203 = .ok (.iadd, 1) := by decide +kernel
theorem dL_law_204 : decode code 204 = .ok (.iaload, 1) := by decide +kernel
theorem dL_law_205 : decode code 205 = .ok (.i2l, 1) := by decide +kernel
theorem dL_law_206 : decode code 206 = .ok (.bipush 32, 2) := by decide +kernel
theorem dL_law_208 : decode code 208 = .ok (.lshl, 1) := by decide +kernel
theorem dL_law_209 : decode code 209 = .ok (.aload_n 0, 1) := by decide +kernel
theorem dL_law_210 : decode code 210 = .ok (.iload 4, 2) := by decide +kernel
theorem dL_law_212 : decode code 212 = .ok (.iconst 4, 1) := by decide +kernel
theorem dL_law_213 : decode code 213 = .ok (.iadd, 1) := by decide +kernel
theorem dL_law_214 : decode code 214 = .ok (.iaload, 1) := by decide +kernel
theorem dL_law_215 : decode code 215 = .ok (.i2l, 1) := by decide +kernel
theorem dL_law_216 : decode code 216 = .ok (.ldc2_w 19, 3) := by decide +kernel
theorem dL_law_219 : decode code 219 = .ok (.land, 1) := by decide +kernel
theorem dL_law_220 : decode code 220 = .ok (.lor, 1) := by decide +kernel
theorem dL_law_221 : decode code 221 = .ok (.aload_n 0, 1) := by decide +kernel
theorem dL_law_222 : decode code 222 = .ok (.iload 4, 2) := by decide +kernel
theorem dL_law_224 : decode code 224 = .ok (.iconst 5, 1) := by decide +kernel
theorem dL_law_225 : decode code 225 = .ok (.iadd, 1) := by decide +kernel
theorem dL_law_226 : decode code 226 = .ok (.iaload, 1) := by decide +kernel
theorem dL_law_227 : decode code 227 = .ok (.i2l, 1) := by decide +kernel
theorem dL_law_228 : decode code 228 = .ok (.bipush 32, 2) := by decide +kernel
theorem dL_law_230 : decode code 230 = .ok (.lshl, 1) := by decide +kernel
theorem dL_law_231 : decode code 231 = .ok (.aload_n 0, 1) := by decide +kernel
theorem dL_law_232 : decode code 232 = .ok (.iload 4, 2) := by decide +kernel
theorem dL_law_234 : decode code 234 = .ok (.bipush 6, 2) := by decide +kernel
theorem dL_law_236 : decode code 236 = .ok (.iadd, 1) := by decide +kernel
theorem dL_law_237 : decode code 237 = .ok (.iaload, 1) := by decide +kernel
theorem dL_law_238 : decode code 238 = .ok (.i2l, 1) := by decide +kernel
theorem dL_law_239 : decode code 239 = .ok (.ldc2_w 19, 3) := by decide +kernel
theorem dL_law_242 : decode code 242 = .ok (.land, 1) := by decide +kernel
theorem dL_law_243 : decode code 243 = .ok (.lor, 1) := by decide +kernel
theorem dL_law_244 : decode code 244 = .ok (.invokevirtual 21, 3) := by decide +kernel
theorem dL_law_247 : decode code 247 = .ok (.pop, 1) := by decide +kernel
theorem dL_law_248 : decode code 248 = .ok (.aload_n 2, 1) := by decide +kernel
theorem dL_law_249 : decode code 249 = .ok (.aload_n 0, 1) := by decide +kernel
theorem dL_law_250 : decode code 250 = .ok (.iload 4, 2) := by decide +kernel
theorem dL_law_252 : decode code 252 = .ok (.iconst 1, 1) := by decide +kernel
theorem dL_law_253 : decode code 253 = .ok (.iadd, 1) := by decide +kernel
theorem dL_law_254 : decode code 254 = .ok (.iaload, 1) := by decide +kernel
theorem dL_law_255 : decode code 255 = .ok (.i2l, 1) := by decide +kernel
theorem dL_law_256 : decode code 256 = .ok (.bipush 32, 2) := by decide +kernel
theorem dL_law_258 : decode code 258 = .ok (.lshl, 1) := by decide +kernel
theorem dL_law_259 : decode code 259 = .ok (.aload_n 0, 1) := by decide +kernel
theorem dL_law_260 : decode code 260 = .ok (.iload 4, 2) := by decide +kernel
theorem dL_law_262 : decode code 262 = .ok (.iconst 2, 1) := by decide +kernel
theorem dL_law_263 : decode code 263 = .ok (.iadd, 1) := by decide +kernel
theorem dL_law_264 : decode code 264 = .ok (.iaload, 1) := by decide +kernel
theorem dL_law_265 : decode code 265 = .ok (.i2l, 1) := by decide +kernel
theorem dL_law_266 : decode code 266 = .ok (.ldc2_w 19, 3) := by decide +kernel
theorem dL_law_269 : decode code 269 = .ok (.land, 1) := by decide +kernel
theorem dL_law_270 : decode code 270 = .ok (.lor, 1) := by decide +kernel
theorem dL_law_271 : decode code 271 = .ok (.aload_n 0, 1) := by decide +kernel
theorem dL_law_272 : decode code 272 = .ok (.iload 4, 2) := by decide +kernel
theorem dL_law_274 : decode code 274 = .ok (.iconst 3, 1) := by decide +kernel
theorem dL_law_275 : decode code 275 = .ok (.iadd, 1) := by decide +kernel
theorem dL_law_276 : decode code 276 = .ok (.iaload, 1) := by decide +kernel
theorem dL_law_277 : decode code 277 = .ok (.i2l, 1) := by decide +kernel
theorem dL_law_278 : decode code 278 = .ok (.bipush 32, 2) := by decide +kernel
theorem dL_law_280 : decode code 280 = .ok (.lshl, 1) := by decide +kernel
theorem dL_law_281 : decode code 281 = .ok (.aload_n 0, 1) := by decide +kernel
theorem dL_law_282 : decode code 282 = .ok (.iload 4, 2) := by decide +kernel
theorem dL_law_284 : decode code 284 = .ok (.iconst 4, 1) := by decide +kernel
theorem dL_law_285 : decode code 285 = .ok (.iadd, 1) := by decide +kernel
theorem dL_law_286 : decode code 286 = .ok (.iaload, 1) := by decide +kernel
theorem dL_law_287 : decode code 287 = .ok (.i2l, 1) := by decide +kernel
theorem dL_law_288 : decode code 288 = .ok (.ldc2_w 19, 3) := by decide +kernel
theorem dL_law_291 : decode code 291 = .ok (.land, 1) := by decide +kernel
theorem dL_law_292 : decode code 292 = .ok (.lor, 1) := by decide +kernel
theorem dL_law_293 : decode code 293 = .ok (.aload_n 0, 1) := by decide +kernel
theorem dL_law_294 : decode code 294 = .ok (.iload 4, 2) := by decide +kernel
theorem dL_law_296 : decode code 296 = .ok (.iconst 5, 1) := by decide +kernel
theorem dL_law_297 : decode code 297 = .ok (.iadd, 1) := by decide +kernel
theorem dL_law_298 : decode code 298 = .ok (.iaload, 1) := by decide +kernel
theorem dL_law_299 : decode code 299 = .ok (.i2l, 1) := by decide +kernel
theorem dL_law_300 : decode code 300 = .ok (.bipush 32, 2) := by decide +kernel
theorem dL_law_302 : decode code 302 = .ok (.lshl, 1) := by decide +kernel
theorem dL_law_303 : decode code 303 = .ok (.aload_n 0, 1) := by decide +kernel
theorem dL_law_304 : decode code 304 = .ok (.iload 4, 2) := by decide +kernel
theorem dL_law_306 : decode code 306 = .ok (.bipush 6, 2) := by decide +kernel
theorem dL_law_308 : decode code 308 = .ok (.iadd, 1) := by decide +kernel
theorem dL_law_309 : decode code 309 = .ok (.iaload, 1) := by decide +kernel
theorem dL_law_310 : decode code 310 = .ok (.i2l, 1) := by decide +kernel
theorem dL_law_311 : decode code 311 = .ok (.ldc2_w 19, 3) := by decide +kernel
theorem dL_law_314 : decode code 314 = .ok (.land, 1) := by decide +kernel
theorem dL_law_315 : decode code 315 = .ok (.lor, 1) := by decide +kernel
theorem dL_law_316 : decode code 316 = .ok (.invokevirtual 25, 3) := by decide +kernel
theorem dL_law_319 : decode code 319 = .ok (.pop, 1) := by decide +kernel
theorem dL_law_320 : decode code 320 = .ok (.goto 931, 3) := by decide +kernel
theorem dL_law_349 : decode code 349 = .ok (.aload_n 1, 1) := by decide +kernel
theorem dL_law_350 : decode code 350 = .ok (.aload_n 0, 1) := by decide +kernel
theorem dL_law_351 : decode code 351 = .ok (.iload 4, 2) := by decide +kernel
theorem dL_law_353 : decode code 353 = .ok (.iconst 1, 1) := by decide +kernel
theorem dL_law_354 : decode code 354 = .ok (.iadd, 1) := by decide +kernel
theorem dL_law_355 : decode code 355 = .ok (.iaload, 1) := by decide +kernel
theorem dL_law_356 : decode code 356 = .ok (.aload_n 0, 1) := by decide +kernel
theorem dL_law_357 : decode code 357 = .ok (.iload 4, 2) := by decide +kernel
theorem dL_law_359 : decode code 359 = .ok (.iconst 2, 1) := by decide +kernel
theorem dL_law_360 : decode code 360 = .ok (.iadd, 1) := by decide +kernel
theorem dL_law_361 : decode code 361 = .ok (.iaload, 1) := by decide +kernel
theorem dL_law_362 : decode code 362 = .ok (.invokevirtual 35, 3) := by decide +kernel
theorem dL_law_365 : decode code 365 = .ok (.pop, 1) := by decide +kernel
theorem dL_law_366 : decode code 366 = .ok (.aload_n 2, 1) := by decide +kernel
theorem dL_law_367 : decode code 367 = .ok (.aload_n 0, 1) := by decide +kernel
theorem dL_law_368 : decode code 368 = .ok (.iload 4, 2) := by decide +kernel
theorem dL_law_370 : decode code 370 = .ok (.iconst 1, 1) := by decide +kernel
theorem dL_law_371 : decode code 371 = .ok (.iadd, 1) := by decide +kernel
theorem dL_law_372 : decode code 372 = .ok (.iaload, 1) := by decide +kernel
theorem dL_law_373 : decode code 373 = .ok (.aload_n 0, 1) := by decide +kernel
theorem dL_law_374 : decode code 374 = .ok (.iload 4, 2) := by decide +kernel
theorem dL_law_376 : decode code 376 = .ok (.iconst 2, 1) := by decide +kernel
theorem dL_law_377 : decode code 377 = .ok (.iadd, 1) := by decide +kernel
theorem dL_law_378 : decode code 378 = .ok (.iaload, 1) := by decide +kernel
theorem dL_law_379 : decode code 379 = .ok (.invokevirtual 39, 3) := by decide +kernel
theorem dL_law_382 : decode code 382 = .ok (.pop, 1) := by decide +kernel
theorem dL_law_383 : decode code 383 = .ok (.goto 868, 3) := by decide +kernel
theorem dL_law_448 : decode code 448 = .ok (.aload_n 1, 1) := by decide +kernel
theorem dL_law_449 : decode code 449 = .ok (.aload_n 0, 1) := by decide +kernel
theorem dL_law_450 : decode code 450 = .ok (.iload 4, 2) := by decide +kernel
theorem dL_law_452 : decode code 452 = .ok (.iconst 1, 1) := by decide +kernel
theorem dL_law_453 : decode code 453 = .ok (.iadd, 1) := by decide +kernel
theorem dL_law_454 : decode code 454 = .ok (.iaload, 1) := by decide +kernel
theorem dL_law_455 : decode code 455 = .ok (.invokevirtual 49, 3) := by decide +kernel
theorem dL_law_458 : decode code 458 = .ok (.aload_n 2, 1) := by decide +kernel
theorem dL_law_459 : decode code 459 = .ok (.aload_n 0, 1) := by decide +kernel
theorem dL_law_460 : decode code 460 = .ok (.iload 4, 2) := by decide +kernel
theorem dL_law_462 : decode code 462 = .ok (.iconst 1, 1) := by decide +kernel
theorem dL_law_463 : decode code 463 = .ok (.iadd, 1) := by decide +kernel
theorem dL_law_464 : decode code 464 = .ok (.iaload, 1) := by decide +kernel
theorem dL_law_465 : decode code 465 = .ok (.invokevirtual 52, 3) := by decide +kernel
theorem dL_law_468 : decode code 468 = .ok (.if_icmp .eq 783, 3) := by decide +kernel
theorem dL_law_523 : decode code 523 = .ok (.aload_n 1, 1) := by decide +kernel
theorem dL_law_524 : decode code 524 = .ok (.aload_n 0, 1) := by decide +kernel
theorem dL_law_525 : decode code 525 = .ok (.iload 4, 2) := by decide +kernel
theorem dL_law_527 : decode code 527 = .ok (.iconst 1, 1) := by decide +kernel
theorem dL_law_528 : decode code 528 = .ok (.iadd, 1) := by decide +kernel
theorem dL_law_529 : decode code 529 = .ok (.iaload, 1) := by decide +kernel
theorem dL_law_530 : decode code 530 = .ok (.invokevirtual 61, 3) := by decide +kernel
theorem dL_law_533 : decode code 533 = .ok (.pop, 1) := by decide +kernel
theorem dL_law_534 : decode code 534 = .ok (.aload_n 2, 1) := by decide +kernel
theorem dL_law_535 : decode code 535 = .ok (.aload_n 0, 1) := by decide +kernel
theorem dL_law_536 : decode code 536 = .ok (.iload 4, 2) := by decide +kernel
theorem dL_law_538 : decode code 538 = .ok (.iconst 1, 1) := by decide +kernel
theorem dL_law_539 : decode code 539 = .ok (.iadd, 1) := by decide +kernel
theorem dL_law_540 : decode code 540 = .ok (.iaload, 1) := by decide +kernel
theorem dL_law_541 : decode code 541 = .ok (.invokevirtual 64, 3) := by decide +kernel
theorem dL_law_544 : decode code 544 = .ok (.pop, 1) := by decide +kernel
theorem dL_law_545 : decode code 545 = .ok (.goto 706, 3) := by decide +kernel
theorem dL_law_610 : decode code 610 = .ok (.aload_n 1, 1) := by decide +kernel
theorem dL_law_611 : decode code 611 = .ok (.aload_n 0, 1) := by decide +kernel
theorem dL_law_612 : decode code 612 = .ok (.iload 4, 2) := by decide +kernel
theorem dL_law_614 : decode code 614 = .ok (.iconst 1, 1) := by decide +kernel
theorem dL_law_615 : decode code 615 = .ok (.iadd, 1) := by decide +kernel
theorem dL_law_616 : decode code 616 = .ok (.iaload, 1) := by decide +kernel
theorem dL_law_617 : decode code 617 = .ok (.aload_n 0, 1) := by decide +kernel
theorem dL_law_618 : decode code 618 = .ok (.iload 4, 2) := by decide +kernel
theorem dL_law_620 : decode code 620 = .ok (.iconst 2, 1) := by decide +kernel
theorem dL_law_621 : decode code 621 = .ok (.iadd, 1) := by decide +kernel
theorem dL_law_622 : decode code 622 = .ok (.iaload, 1) := by decide +kernel
theorem dL_law_623 : decode code 623 = .ok (.aload_n 0, 1) := by decide +kernel
theorem dL_law_624 : decode code 624 = .ok (.iload 4, 2) := by decide +kernel
theorem dL_law_626 : decode code 626 = .ok (.iconst 3, 1) := by decide +kernel
theorem dL_law_627 : decode code 627 = .ok (.iadd, 1) := by decide +kernel
theorem dL_law_628 : decode code 628 = .ok (.iaload, 1) := by decide +kernel
theorem dL_law_629 : decode code 629 = .ok (.invokevirtual 74, 3) := by decide +kernel
theorem dL_law_632 : decode code 632 = .ok (.pop, 1) := by decide +kernel
theorem dL_law_633 : decode code 633 = .ok (.aload_n 2, 1) := by decide +kernel
theorem dL_law_634 : decode code 634 = .ok (.aload_n 0, 1) := by decide +kernel
theorem dL_law_635 : decode code 635 = .ok (.iload 4, 2) := by decide +kernel
theorem dL_law_637 : decode code 637 = .ok (.iconst 1, 1) := by decide +kernel
theorem dL_law_638 : decode code 638 = .ok (.iadd, 1) := by decide +kernel
theorem dL_law_639 : decode code 639 = .ok (.iaload, 1) := by decide +kernel
theorem dL_law_640 : decode code 640 = .ok (.aload_n 0, 1) := by decide +kernel
theorem dL_law_641 : decode code 641 = .ok (.iload 4, 2) := by decide +kernel
theorem dL_law_643 : decode code 643 = .ok (.iconst 2, 1) := by decide +kernel
theorem dL_law_644 : decode code 644 = .ok (.iadd, 1) := by decide +kernel
theorem dL_law_645 : decode code 645 = .ok (.iaload, 1) := by decide +kernel
theorem dL_law_646 : decode code 646 = .ok (.aload_n 0, 1) := by decide +kernel
theorem dL_law_647 : decode code 647 = .ok (.iload 4, 2) := by decide +kernel
theorem dL_law_649 : decode code 649 = .ok (.iconst 3, 1) := by decide +kernel
theorem dL_law_650 : decode code 650 = .ok (.iadd, 1) := by decide +kernel
theorem dL_law_651 : decode code 651 = .ok (.iaload, 1) := by decide +kernel
theorem dL_law_652 : decode code 652 = .ok (.invokevirtual 78, 3) := by decide +kernel
theorem dL_law_655 : decode code 655 = .ok (.pop, 1) := by decide +kernel
theorem dL_law_656 : decode code 656 = .ok (.goto 595, 3) := by decide +kernel
theorem dL_law_685 : decode code 685 = .ok (.aload_n 1, 1) := by decide +kernel
theorem dL_law_686 : decode code 686 = .ok (.aload_n 0, 1) := by decide +kernel
theorem dL_law_687 : decode code 687 = .ok (.iload 4, 2) := by decide +kernel
theorem dL_law_689 : decode code 689 = .ok (.iconst 1, 1) := by decide +kernel
theorem dL_law_690 : decode code 690 = .ok (.iadd, 1) := by decide +kernel
theorem dL_law_691 : decode code 691 = .ok (.iaload, 1) := by decide +kernel
theorem dL_law_692 : decode code 692 = .ok (.invokevirtual 88, 3) := by decide +kernel
theorem dL_law_695 : decode code 695 = .ok (.pop, 1) := by decide +kernel
theorem dL_law_696 : decode code 696 = .ok (.aload_n 2, 1) := by decide +kernel
theorem dL_law_697 : decode code 697 = .ok (.aload_n 0, 1) := by decide +kernel
theorem dL_law_698 : decode code 698 = .ok (.iload 4, 2) := by decide +kernel
theorem dL_law_700 : decode code 700 = .ok (.iconst 1, 1) := by decide +kernel
theorem dL_law_701 : decode code 701 = .ok (.iadd, 1) := by decide +kernel
theorem dL_law_702 : decode code 702 = .ok (.iaload, 1) := by decide +kernel
theorem dL_law_703 : decode code 703 = .ok (.invokevirtual 91, 3) := by decide +kernel
theorem dL_law_706 : decode code 706 = .ok (.pop, 1) := by decide +kernel
theorem dL_law_707 : decode code 707 = .ok (.goto 544, 3) := by decide +kernel
theorem dL_law_760 : decode code 760 = .ok (.aload_n 1, 1) := by decide +kernel
theorem dL_law_761 : decode code 761 = .ok (.aload_n 0, 1) := by decide +kernel
theorem dL_law_762 : decode code 762 = .ok (.iload 4, 2) := by decide +kernel
theorem dL_law_764 : decode code 764 = .ok (.iconst 1, 1) := by decide +kernel
theorem dL_law_765 : decode code 765 = .ok (.iadd, 1) := by decide +kernel
theorem dL_law_766 : decode code 766 = .ok (.iaload, 1) := by decide +kernel
theorem dL_law_767 : decode code 767 = .ok (.aload_n 0, 1) := by decide +kernel
theorem dL_law_768 : decode code 768 = .ok (.iload 4, 2) := by decide +kernel
theorem dL_law_770 : decode code 770 = .ok (.iconst 2, 1) := by decide +kernel
theorem dL_law_771 : decode code 771 = .ok (.iadd, 1) := by decide +kernel
theorem dL_law_772 : decode code 772 = .ok (.iaload, 1) := by decide +kernel
theorem dL_law_773 : decode code 773 = .ok (.aload_n 0, 1) := by decide +kernel
theorem dL_law_774 : decode code 774 = .ok (.iload 4, 2) := by decide +kernel
theorem dL_law_776 : decode code 776 = .ok (.iconst 3, 1) := by decide +kernel
theorem dL_law_777 : decode code 777 = .ok (.iadd, 1) := by decide +kernel
theorem dL_law_778 : decode code 778 = .ok (.iaload, 1) := by decide +kernel
theorem dL_law_779 : decode code 779 = .ok (.invokevirtual 100, 3) := by decide +kernel
theorem dL_law_782 : decode code 782 = .ok (.pop, 1) := by decide +kernel
theorem dL_law_783 : decode code 783 = .ok (.aload_n 2, 1) := by decide +kernel
theorem dL_law_784 : decode code 784 = .ok (.aload_n 0, 1) := by decide +kernel
theorem dL_law_785 : decode code 785 = .ok (.iload 4, 2) := by decide +kernel
theorem dL_law_787 : decode code 787 = .ok (.iconst 1, 1) := by decide +kernel
theorem dL_law_788 : decode code 788 = .ok (.iadd, 1) := by decide +kernel
theorem dL_law_789 : decode code 789 = .ok (.iaload, 1) := by decide +kernel
theorem dL_law_790 : decode code 790 = .ok (.aload_n 0, 1) := by decide +kernel
theorem dL_law_791 : decode code 791 = .ok (.iload 4, 2) := by decide +kernel
theorem dL_law_793 : decode code 793 = .ok (.iconst 2, 1) := by decide +kernel
theorem dL_law_794 : decode code 794 = .ok (.iadd, 1) := by decide +kernel
theorem dL_law_795 : decode code 795 = .ok (.iaload, 1) := by decide +kernel
theorem dL_law_796 : decode code 796 = .ok (.aload_n 0, 1) := by decide +kernel
theorem dL_law_797 : decode code 797 = .ok (.iload 4, 2) := by decide +kernel
theorem dL_law_799 : decode code 799 = .ok (.iconst 3, 1) := by decide +kernel
theorem dL_law_800 : decode code 800 = .ok (.iadd, 1) := by decide +kernel
theorem dL_law_801 : decode code 801 = .ok (.iaload, 1) := by decide +kernel
theorem dL_law_802 : decode code 802 = .ok (.invokevirtual 104, 3) := by decide +kernel
theorem dL_law_805 : decode code 805 = .ok (.pop, 1) := by decide +kernel
theorem dL_law_806 : decode code 806 = .ok (.goto 445, 3) := by decide +kernel
theorem dL_law_899 : decode code 899 = .ok (.aload_n 1, 1) := by decide +kernel
theorem dL_law_900 : decode code 900 = .ok (.aload_n 0, 1) := by decide +kernel
theorem dL_law_901 : decode code 901 = .ok (.iload 4, 2) := by decide +kernel
theorem dL_law_903 : decode code 903 = .ok (.iconst 1, 1) := by decide +kernel
theorem dL_law_904 : decode code 904 = .ok (.iadd, 1) := by decide +kernel
theorem dL_law_905 : decode code 905 = .ok (.iaload, 1) := by decide +kernel
theorem dL_law_906 : decode code 906 = .ok (.invokevirtual 114, 3) := by decide +kernel
theorem dL_law_909 : decode code 909 = .ok (.pop, 1) := by decide +kernel
theorem dL_law_910 : decode code 910 = .ok (.aload_n 2, 1) := by decide +kernel
theorem dL_law_911 : decode code 911 = .ok (.aload_n 0, 1) := by decide +kernel
theorem dL_law_912 : decode code 912 = .ok (.iload 4, 2) := by decide +kernel
theorem dL_law_914 : decode code 914 = .ok (.iconst 1, 1) := by decide +kernel
theorem dL_law_915 : decode code 915 = .ok (.iadd, 1) := by decide +kernel
theorem dL_law_916 : decode code 916 = .ok (.iaload, 1) := by decide +kernel
theorem dL_law_917 : decode code 917 = .ok (.invokevirtual 117, 3) := by decide +kernel
theorem dL_law_920 : decode code 920 = .ok (.pop, 1) := by decide +kernel
theorem dL_law_921 : decode code 921 = .ok (.goto 330, 3) := by decide +kernel
theorem dL_law_974 : decode code 974 = .ok (.aload_n 1, 1) := by decide +kernel
theorem dL_law_975 : decode code 975 = .ok (.aload_n 0, 1) := by decide +kernel
theorem dL_law_976 : decode code 976 = .ok (.iload 4, 2) := by decide +kernel
theorem dL_law_978 : decode code 978 = .ok (.iconst 1, 1) := by decide +kernel
theorem dL_law_979 : decode code 979 = .ok (.iadd, 1) := by decide +kernel
theorem dL_law_980 : decode code 980 = .ok (.iaload, 1) := by decide +kernel
theorem dL_law_981 : decode code 981 = .ok (.aload_n 0, 1) := by decide +kernel
theorem dL_law_982 : decode code 982 = .ok (.iload 4, 2) := by decide +kernel
theorem dL_law_984 : decode code 984 = .ok (.iconst 2, 1) := by decide +kernel
theorem dL_law_985 : decode code 985 = .ok (.iadd, 1) := by decide +kernel
theorem dL_law_986 : decode code 986 = .ok (.iaload, 1) := by decide +kernel
theorem dL_law_987 : decode code 987 = .ok (.aload_n 0, 1) := by decide +kernel
theorem dL_law_988 : decode code 988 = .ok (.iload 4, 2) := by decide +kernel
theorem dL_law_990 : decode code 990 = .ok (.iconst 3, 1) := by decide +kernel
theorem dL_law_991 : decode code 991 = .ok (.iadd, 1) := by decide +kernel
theorem dL_law_992 : decode code 992 = .ok (.iaload, 1) := by decide +kernel
theorem dL_law_993 : decode code 993 = .ok (.aload_n 0, 1) := by decide +kernel
theorem dL_law_994 : decode code 994 = .ok (.iload 4, 2) := by decide +kernel
theorem dL_law_996 : decode code 996 = .ok (.iconst 4, 1) := by decide +kernel
theorem dL_law_997 : decode code 997 = .ok (.iadd, 1) := by decide +kernel
theorem dL_law_998 : decode code 998 = .ok (.iaload, 1) := by decide +kernel
theorem dL_law_999 : decode code 999 = .ok (.aload_n 3, 1) := by decide +kernel
theorem dL_law_1000 : decode code 1000 = .ok (.invokestatic 126, 3) := by decide +kernel
theorem dL_law_1003 : decode code 1003 = .ok (.istore 5, 2) := by decide +kernel
theorem dL_law_1005 : decode code 1005 = .ok (.aload_n 2, 1) := by decide +kernel
theorem dL_law_1006 : decode code 1006 = .ok (.aload_n 0, 1) := by decide +kernel
theorem dL_law_1007 : decode code 1007 = .ok (.iload 4, 2) := by decide +kernel
theorem dL_law_1009 : decode code 1009 = .ok (.iconst 1, 1) := by decide +kernel
theorem dL_law_1010 : decode code 1010 = .ok (.iadd, 1) := by decide +kernel
theorem dL_law_1011 : decode code 1011 = .ok (.iaload, 1) := by decide +kernel
theorem dL_law_1012 : decode code 1012 = .ok (.aload_n 0, 1) := by decide +kernel
theorem dL_law_1013 : decode code 1013 = .ok (.iload 4, 2) := by decide +kernel
theorem dL_law_1015 : decode code 1015 = .ok (.iconst 2, 1) := by decide +kernel
theorem dL_law_1016 : decode code 1016 = .ok (.iadd, 1) := by decide +kernel
theorem dL_law_1017 : decode code 1017 = .ok (.iaload, 1) := by decide +kernel
theorem dL_law_1018 : decode code 1018 = .ok (.aload_n 0, 1) := by decide +kernel
theorem dL_law_1019 : decode code 1019 = .ok (.iload 4, 2) := by decide +kernel
theorem dL_law_1021 : decode code 1021 = .ok (.iconst 3, 1) := by decide +kernel
theorem dL_law_1022 : decode code 1022 = .ok (.iadd, 1) := by decide +kernel
theorem dL_law_1023 : decode code 1023 = .ok (.iaload, 1) := by decide +kernel
theorem dL_law_1024 : decode code 1024 = .ok (.aload_n 0, 1) := by decide +kernel
theorem dL_law_1025 : decode code 1025 = .ok (.iload 4, 2) := by decide +kernel
theorem dL_law_1027 : decode code 1027 = .ok (.iconst 4, 1) := by decide +kernel
theorem dL_law_1028 : decode code 1028 = .ok (.iadd, 1) := by decide +kernel
theorem dL_law_1029 : decode code 1029 = .ok (.iaload, 1) := by decide +kernel
theorem dL_law_1030 : decode code 1030 = .ok (.invokevirtual 131, 3) := by decide +kernel
theorem dL_law_1033 : decode code 1033 = .ok (.istore 6, 2) := by decide +kernel
theorem dL_law_1035 : decode code 1035 = .ok (.goto 216, 3) := by decide +kernel
theorem dL_law_1124 : decode code 1124 = .ok (.aload_n 1, 1) := by decide +kernel
theorem dL_law_1125 : decode code 1125 = .ok (.aload_n 0, 1) := by decide +kernel
theorem dL_law_1126 : decode code 1126 = .ok (.iload 4, 2) := by decide +kernel
theorem dL_law_1128 : decode code 1128 = .ok (.iconst 1, 1) := by decide +kernel
theorem dL_law_1129 : decode code 1129 = .ok (.iadd, 1) := by decide +kernel
theorem dL_law_1130 : decode code 1130 = .ok (.iaload, 1) := by decide +kernel
theorem dL_law_1131 : decode code 1131 = .ok (.aload_n 0, 1) := by decide +kernel
theorem dL_law_1132 : decode code 1132 = .ok (.iload 4, 2) := by decide +kernel
theorem dL_law_1134 : decode code 1134 = .ok (.iconst 2, 1) := by decide +kernel
theorem dL_law_1135 : decode code 1135 = .ok (.iadd, 1) := by decide +kernel
theorem dL_law_1136 : decode code 1136 = .ok (.iaload, 1) := by decide +kernel
theorem dL_law_1137 : decode code 1137 = .ok (.aload_n 0, 1) := by decide +kernel
theorem dL_law_1138 : decode code 1138 = .ok (.iload 4, 2) := by decide +kernel
theorem dL_law_1140 : decode code 1140 = .ok (.iconst 3, 1) := by decide +kernel
theorem dL_law_1141 : decode code 1141 = .ok (.iadd, 1) := by decide +kernel
theorem dL_law_1142 : decode code 1142 = .ok (.iaload, 1) := by decide +kernel
theorem dL_law_1143 : decode code 1143 = .ok (.invokevirtual 140, 3) := by decide +kernel
theorem dL_law_1146 : decode code 1146 = .ok (.pop, 1) := by decide +kernel
theorem dL_law_1147 : decode code 1147 = .ok (.aload_n 2, 1) := by decide +kernel
theorem dL_law_1148 : decode code 1148 = .ok (.aload_n 0, 1) := by decide +kernel
theorem dL_law_1149 : decode code 1149 = .ok (.iload 4, 2) := by decide +kernel
theorem dL_law_1151 : decode code 1151 = .ok (.iconst 1, 1) := by decide +kernel
theorem dL_law_1152 : decode code 1152 = .ok (.iadd, 1) := by decide +kernel
theorem dL_law_1153 : decode code 1153 = .ok (.iaload, 1) := by decide +kernel
theorem dL_law_1154 : decode code 1154 = .ok (.aload_n 0, 1) := by decide +kernel
theorem dL_law_1155 : decode code 1155 = .ok (.iload 4, 2) := by decide +kernel
theorem dL_law_1157 : decode code 1157 = .ok (.iconst 2, 1) := by decide +kernel
theorem dL_law_1158 : decode code 1158 = .ok (.iadd, 1) := by decide +kernel
theorem dL_law_1159 : decode code 1159 = .ok (.iaload, 1) := by decide +kernel
theorem dL_law_1160 : decode code 1160 = .ok (.aload_n 0, 1) := by decide +kernel
theorem dL_law_1161 : decode code 1161 = .ok (.iload 4, 2) := by decide +kernel
theorem dL_law_1163 : decode code 1163 = .ok (.iconst 3, 1) := by decide +kernel
theorem dL_law_1164 : decode code 1164 = .ok (.iadd, 1) := by decide +kernel
theorem dL_law_1165 : decode code 1165 = .ok (.iaload, 1) := by decide +kernel
theorem dL_law_1166 : decode code 1166 = .ok (.invokevirtual 143, 3) := by decide +kernel
theorem dL_law_1169 : decode code 1169 = .ok (.pop, 1) := by decide +kernel
theorem dL_law_1170 : decode code 1170 = .ok (.goto 81, 3) := by decide +kernel
theorem mL_21 : Cond.methodLink RL 21 yX10_feed ∈ gw := List.mem_filter.mpr ⟨List.mem_append_right _ (by decide +kernel), by decide +kernel⟩
theorem mL_25 : Cond.methodLink RL 25 yX11_feed ∈ gw := List.mem_filter.mpr ⟨List.mem_append_right _ (by decide +kernel), by decide +kernel⟩
theorem mL_35 : Cond.methodLink RL 35 yX10_flight ∈ gw := List.mem_filter.mpr ⟨List.mem_append_right _ (by decide +kernel), by decide +kernel⟩
theorem mL_39 : Cond.methodLink RL 39 yX11_flight ∈ gw := List.mem_filter.mpr ⟨List.mem_append_right _ (by decide +kernel), by decide +kernel⟩
theorem mL_49 : Cond.methodLink RL 49 yX10_reach ∈ gw := List.mem_filter.mpr ⟨List.mem_append_right _ (by decide +kernel), by decide +kernel⟩
theorem mL_52 : Cond.methodLink RL 52 yX11_reach ∈ gw := List.mem_filter.mpr ⟨List.mem_append_right _ (by decide +kernel), by decide +kernel⟩
theorem mL_61 : Cond.methodLink RL 61 yX10_steal ∈ gw := List.mem_filter.mpr ⟨List.mem_append_right _ (by decide +kernel), by decide +kernel⟩
theorem mL_64 : Cond.methodLink RL 64 yX11_steal ∈ gw := List.mem_filter.mpr ⟨List.mem_append_right _ (by decide +kernel), by decide +kernel⟩
theorem mL_74 : Cond.methodLink RL 74 yX10_carry ∈ gw := List.mem_filter.mpr ⟨List.mem_append_right _ (by decide +kernel), by decide +kernel⟩
theorem mL_78 : Cond.methodLink RL 78 yX11_carry ∈ gw := List.mem_filter.mpr ⟨List.mem_append_right _ (by decide +kernel), by decide +kernel⟩
theorem mL_88 : Cond.methodLink RL 88 yX10_judged ∈ gw := List.mem_filter.mpr ⟨List.mem_append_right _ (by decide +kernel), by decide +kernel⟩
theorem mL_91 : Cond.methodLink RL 91 yX11_judged ∈ gw := List.mem_filter.mpr ⟨List.mem_append_right _ (by decide +kernel), by decide +kernel⟩
theorem mL_100 : Cond.methodLink RL 100 yX10_thefts ∈ gw := List.mem_filter.mpr ⟨List.mem_append_right _ (by decide +kernel), by decide +kernel⟩
theorem mL_104 : Cond.methodLink RL 104 yX11_thefts ∈ gw := List.mem_filter.mpr ⟨List.mem_append_right _ (by decide +kernel), by decide +kernel⟩
theorem mL_114 : Cond.methodLink RL 114 yX10_orders ∈ gw := List.mem_filter.mpr ⟨List.mem_append_right _ (by decide +kernel), by decide +kernel⟩
theorem mL_117 : Cond.methodLink RL 117 yX11_orders ∈ gw := List.mem_filter.mpr ⟨List.mem_append_right _ (by decide +kernel), by decide +kernel⟩
theorem mL_131 : Cond.methodLink RL 131 yX11_rests ∈ gw := List.mem_filter.mpr ⟨List.mem_append_right _ (by decide +kernel), by decide +kernel⟩
theorem mL_140 : Cond.methodLink RL 140 yX10_years ∈ gw := List.mem_filter.mpr ⟨List.mem_append_right _ (by decide +kernel), by decide +kernel⟩
theorem mL_143 : Cond.methodLink RL 143 yX11_years ∈ gw := List.mem_filter.mpr ⟨List.mem_append_right _ (by decide +kernel), by decide +kernel⟩
set_option maxHeartbeats 4000000 in
set_option maxRecDepth 16384 in
theorem lc_feed {p : Program} {l : Launch} {e : Env} {s : State} {m : MethodId} {below : List Frame} {meth : Method} {c : Code} {g : va_G} {aC : Nat → ClassId} {aM ad : Nat → Nat} {A : Nat → Prop} {b L k : Nat} {xs : Nat → Int32} {i : Int32} {Q : State → Prop} {cells slots : Nat} {oa : Nat} {fo : Nat → Int64} {h : Ph} {H : Heap} {locs : List Loc} (F : Fx p s m #[Value.ref b] c code 7 RL g aC aM A) (had : pm_ad aM ad) (hX : va_X b L xs s s.heap) (hbl : b < s.heap.size) (hbA : ¬ A b) (hi : i.toInt = (k : Int)) (hk7 : k + 7 ≤ L) (hL : L ≤ 3584) (hcs : cells + 2 ≤ 601024 ∧ slots + 12 ≤ 7293034) (hk : kJ h) (hP : va_P g vwCl (wO aC ad oa fo h) H) (hD : va_D A (wO aC ad oa fo h)) (hS : va_S A s.heap H locs) (ls : Array Slot) (hl : lv_has ls 7 [(4, .int i), (3, .ref oa), (2, .ref (ad 172)), (1, .ref (ad 0)), (0, .ref b)]) (K : ∀ (h' : Ph) (fo' : Nat → Int64) (H1 : Heap) (locs1 : List Loc) (ls' : Array Slot), lv_has ls' 7 [(4, .int i), (3, .ref oa), (2, .ref (ad 172)), (1, .ref (ad 0)), (0, .ref b)] → kJ h' → va_P g vwCl (wO aC ad oa fo' h') H1 → va_D A (wO aC ad oa fo' h') → va_S A s.heap H1 locs1 → W p l e room_1 s m #[Value.ref b] below meth c H1 locs1 (cells + 1) (slots + 6) Q (F0 m 1251 ls' [])) : W p l e room_1 s m #[Value.ref b] below meth c H locs cells slots Q (F0 m 176 ls []) := by
  obtain ⟨hx, hb, hml, hown, hts, hK, hA, hM, hM2⟩ := id F
  refine lv_aload_n hx hb dL_law_176 rfl (lv_at hl 3 rfl) ?_
  refine lv_aload_n hx hb dL_law_177 rfl (lv_at hl 4 rfl) ?_
  refine lv_iload hx hb dL_law_178 (lv_at hl 0 rfl) ?_
  refine lv_iconst (v := 1) hx hb dL_law_180 (by decide) ?_
  refine lv_iadd hx hb dL_law_181 ?_
  refine va_sld hx hb hX hbl hbA hS (law_in 1 hi hk7 hL (by decide) (by decide)) dL_law_182 ?_
  refine lv_i2l hx hb dL_law_183 rfl ?_
  refine lv_bipush (v := 32) hx hb dL_law_184 (by decide) ?_
  refine lv_lshl hx hb dL_law_186 rfl ?_
  refine lv_aload_n hx hb dL_law_187 rfl (lv_at hl 4 rfl) ?_
  refine lv_iload hx hb dL_law_188 (lv_at hl 0 rfl) ?_
  refine lv_iconst (v := 2) hx hb dL_law_190 (by decide) ?_
  refine lv_iadd hx hb dL_law_191 ?_
  refine va_sld hx hb hX hbl hbA hS (law_in 2 hi hk7 hL (by decide) (by decide)) dL_law_192 ?_
  refine lv_i2l hx hb dL_law_193 rfl ?_
  refine lv_ldc2 hx hb hown (hts _ lwc19) dL_law_194 ?_
  refine lv_land hx hb dL_law_197 ?_
  refine lv_lor hx hb dL_law_198 ?_
  refine lv_topl (fun y1 hy1 => ?_)
  refine lv_aload_n hx hb dL_law_199 rfl (lv_at hl 4 rfl) ?_
  refine lv_iload hx hb dL_law_200 (lv_at hl 0 rfl) ?_
  refine lv_iconst (v := 3) hx hb dL_law_202 (by decide) ?_
  refine lv_iadd hx hb dL_law_203 ?_
  refine va_sld hx hb hX hbl hbA hS (law_in 3 hi hk7 hL (by decide) (by decide)) dL_law_204 ?_
  refine lv_i2l hx hb dL_law_205 rfl ?_
  refine lv_bipush (v := 32) hx hb dL_law_206 (by decide) ?_
  refine lv_lshl hx hb dL_law_208 rfl ?_
  refine lv_aload_n hx hb dL_law_209 rfl (lv_at hl 4 rfl) ?_
  refine lv_iload hx hb dL_law_210 (lv_at hl 0 rfl) ?_
  refine lv_iconst (v := 4) hx hb dL_law_212 (by decide) ?_
  refine lv_iadd hx hb dL_law_213 ?_
  refine va_sld hx hb hX hbl hbA hS (law_in 4 hi hk7 hL (by decide) (by decide)) dL_law_214 ?_
  refine lv_i2l hx hb dL_law_215 rfl ?_
  refine lv_ldc2 hx hb hown (hts _ lwc19) dL_law_216 ?_
  refine lv_land hx hb dL_law_219 ?_
  refine lv_lor hx hb dL_law_220 ?_
  refine lv_topl (fun y2 hy2 => ?_)
  refine lv_aload_n hx hb dL_law_221 rfl (lv_at hl 4 rfl) ?_
  refine lv_iload hx hb dL_law_222 (lv_at hl 0 rfl) ?_
  refine lv_iconst (v := 5) hx hb dL_law_224 (by decide) ?_
  refine lv_iadd hx hb dL_law_225 ?_
  refine va_sld hx hb hX hbl hbA hS (law_in 5 hi hk7 hL (by decide) (by decide)) dL_law_226 ?_
  refine lv_i2l hx hb dL_law_227 rfl ?_
  refine lv_bipush (v := 32) hx hb dL_law_228 (by decide) ?_
  refine lv_lshl hx hb dL_law_230 rfl ?_
  refine lv_aload_n hx hb dL_law_231 rfl (lv_at hl 4 rfl) ?_
  refine lv_iload hx hb dL_law_232 (lv_at hl 0 rfl) ?_
  refine lv_bipush (v := 6) hx hb dL_law_234 (by decide) ?_
  refine lv_iadd hx hb dL_law_236 ?_
  refine va_sld hx hb hX hbl hbA hS (law_in 6 hi hk7 hL (by decide) (by decide)) dL_law_237 ?_
  refine lv_i2l hx hb dL_law_238 rfl ?_
  refine lv_ldc2 hx hb hown (hts _ lwc19) dL_law_239 ?_
  refine lv_land hx hb dL_law_242 ?_
  refine lv_lor hx hb dL_law_243 ?_
  refine lv_topl (fun y3 hy3 => ?_)
  obtain ⟨v1, v2, h1, h2, e1, i1, e2, k2⟩ := pr_feed y1 y2 y3 hk
  refine law_call 3 (me' := mtX10[11]) (As := [.long y1, .long y2, .long y3]) (rest := []) F had ⟨by omega, by omega⟩ hP hD hS hl.1 rfl e1 (by decide) rfl (by decide) (obj_x hk.1) rfl rfl rfl mL_21 (by decide +kernel) rfl (Nat.le_of_ble_eq_true rfl) dL_law_244 rfl rfl (fun r1 H locs q1 hP hD hS => ?_)
  refine lv_pop hx hb dL_law_247 rfl ?_
  refine lv_aload_n hx hb dL_law_248 rfl (lv_at hl 2 rfl) ?_
  refine lv_aload_n hx hb dL_law_249 rfl (lv_at hl 4 rfl) ?_
  refine lv_iload hx hb dL_law_250 (lv_at hl 0 rfl) ?_
  refine lv_iconst (v := 1) hx hb dL_law_252 (by decide) ?_
  refine lv_iadd hx hb dL_law_253 ?_
  refine va_sld hx hb hX hbl hbA hS (law_in 1 hi hk7 hL (by decide) (by decide)) dL_law_254 ?_
  refine lv_i2l hx hb dL_law_255 rfl ?_
  refine lv_bipush (v := 32) hx hb dL_law_256 (by decide) ?_
  refine lv_lshl hx hb dL_law_258 rfl ?_
  refine lv_aload_n hx hb dL_law_259 rfl (lv_at hl 4 rfl) ?_
  refine lv_iload hx hb dL_law_260 (lv_at hl 0 rfl) ?_
  refine lv_iconst (v := 2) hx hb dL_law_262 (by decide) ?_
  refine lv_iadd hx hb dL_law_263 ?_
  refine va_sld hx hb hX hbl hbA hS (law_in 2 hi hk7 hL (by decide) (by decide)) dL_law_264 ?_
  refine lv_i2l hx hb dL_law_265 rfl ?_
  refine lv_ldc2 hx hb hown (hts _ lwc19) dL_law_266 ?_
  refine lv_land hx hb dL_law_269 ?_
  refine lv_lor hx hb dL_law_270 ?_
  refine lv_topl (fun y4 hy4 => ?_)
  refine lv_aload_n hx hb dL_law_271 rfl (lv_at hl 4 rfl) ?_
  refine lv_iload hx hb dL_law_272 (lv_at hl 0 rfl) ?_
  refine lv_iconst (v := 3) hx hb dL_law_274 (by decide) ?_
  refine lv_iadd hx hb dL_law_275 ?_
  refine va_sld hx hb hX hbl hbA hS (law_in 3 hi hk7 hL (by decide) (by decide)) dL_law_276 ?_
  refine lv_i2l hx hb dL_law_277 rfl ?_
  refine lv_bipush (v := 32) hx hb dL_law_278 (by decide) ?_
  refine lv_lshl hx hb dL_law_280 rfl ?_
  refine lv_aload_n hx hb dL_law_281 rfl (lv_at hl 4 rfl) ?_
  refine lv_iload hx hb dL_law_282 (lv_at hl 0 rfl) ?_
  refine lv_iconst (v := 4) hx hb dL_law_284 (by decide) ?_
  refine lv_iadd hx hb dL_law_285 ?_
  refine va_sld hx hb hX hbl hbA hS (law_in 4 hi hk7 hL (by decide) (by decide)) dL_law_286 ?_
  refine lv_i2l hx hb dL_law_287 rfl ?_
  refine lv_ldc2 hx hb hown (hts _ lwc19) dL_law_288 ?_
  refine lv_land hx hb dL_law_291 ?_
  refine lv_lor hx hb dL_law_292 ?_
  refine lv_topl (fun y5 hy5 => ?_)
  refine lv_aload_n hx hb dL_law_293 rfl (lv_at hl 4 rfl) ?_
  refine lv_iload hx hb dL_law_294 (lv_at hl 0 rfl) ?_
  refine lv_iconst (v := 5) hx hb dL_law_296 (by decide) ?_
  refine lv_iadd hx hb dL_law_297 ?_
  refine va_sld hx hb hX hbl hbA hS (law_in 5 hi hk7 hL (by decide) (by decide)) dL_law_298 ?_
  refine lv_i2l hx hb dL_law_299 rfl ?_
  refine lv_bipush (v := 32) hx hb dL_law_300 (by decide) ?_
  refine lv_lshl hx hb dL_law_302 rfl ?_
  refine lv_aload_n hx hb dL_law_303 rfl (lv_at hl 4 rfl) ?_
  refine lv_iload hx hb dL_law_304 (lv_at hl 0 rfl) ?_
  refine lv_bipush (v := 6) hx hb dL_law_306 (by decide) ?_
  refine lv_iadd hx hb dL_law_308 ?_
  refine va_sld hx hb hX hbl hbA hS (law_in 6 hi hk7 hL (by decide) (by decide)) dL_law_309 ?_
  refine lv_i2l hx hb dL_law_310 rfl ?_
  refine lv_ldc2 hx hb hown (hts _ lwc19) dL_law_311 ?_
  refine lv_land hx hb dL_law_314 ?_
  refine lv_lor hx hb dL_law_315 ?_
  refine lv_topl (fun y6 hy6 => ?_)
  obtain rfl : y4 = y1 := (hy4.trans hy1.symm)
  obtain rfl : y5 = y2 := (hy5.trans hy2.symm)
  obtain rfl : y6 = y3 := (hy6.trans hy3.symm)
  refine law_call 3 (me' := mtX11[26]) (As := [.long y4, .long y5, .long y6]) (rest := []) F had ⟨by omega, by omega⟩ hP hD hS hl.1 rfl e2 (by decide) rfl (by decide) (obj_m i1) rfl rfl rfl mL_25 (by decide +kernel) rfl (Nat.le_of_ble_eq_true rfl) dL_law_316 rfl rfl (fun r2 H locs q2 hP hD hS => ?_)
  refine lv_pop hx hb dL_law_319 rfl ?_
  refine lv_goto (tgt := 1251) hx hb dL_law_320 (by decide) ?_
  refine W.widen (k := cells + 1) (n := slots + 6) (by omega) (by omega) ?_
  exact K _ _ _ _ _ hl k2 hP hD hS
set_option maxHeartbeats 4000000 in
set_option maxRecDepth 16384 in
theorem lc_flight {p : Program} {l : Launch} {e : Env} {s : State} {m : MethodId} {below : List Frame} {meth : Method} {c : Code} {g : va_G} {aC : Nat → ClassId} {aM ad : Nat → Nat} {A : Nat → Prop} {b L k : Nat} {xs : Nat → Int32} {i : Int32} {Q : State → Prop} {cells slots : Nat} {oa : Nat} {fo : Nat → Int64} {h : Ph} {H : Heap} {locs : List Loc} (F : Fx p s m #[Value.ref b] c code 7 RL g aC aM A) (had : pm_ad aM ad) (hX : va_X b L xs s s.heap) (hbl : b < s.heap.size) (hbA : ¬ A b) (hi : i.toInt = (k : Int)) (hk7 : k + 7 ≤ L) (hL : L ≤ 3584) (hcs : cells + 2 ≤ 601024 ∧ slots + 12 ≤ 7293034) (hk : kJ h) (hP : va_P g vwCl (wO aC ad oa fo h) H) (hD : va_D A (wO aC ad oa fo h)) (hS : va_S A s.heap H locs) (ls : Array Slot) (hl : lv_has ls 7 [(4, .int i), (3, .ref oa), (2, .ref (ad 172)), (1, .ref (ad 0)), (0, .ref b)]) (K : ∀ (h' : Ph) (fo' : Nat → Int64) (H1 : Heap) (locs1 : List Loc) (ls' : Array Slot), lv_has ls' 7 [(4, .int i), (3, .ref oa), (2, .ref (ad 172)), (1, .ref (ad 0)), (0, .ref b)] → kJ h' → va_P g vwCl (wO aC ad oa fo' h') H1 → va_D A (wO aC ad oa fo' h') → va_S A s.heap H1 locs1 → W p l e room_1 s m #[Value.ref b] below meth c H1 locs1 (cells + 1) (slots + 6) Q (F0 m 1251 ls' [])) : W p l e room_1 s m #[Value.ref b] below meth c H locs cells slots Q (F0 m 349 ls []) := by
  obtain ⟨hx, hb, hml, hown, hts, hK, hA, hM, hM2⟩ := id F
  refine lv_aload_n hx hb dL_law_349 rfl (lv_at hl 3 rfl) ?_
  refine lv_aload_n hx hb dL_law_350 rfl (lv_at hl 4 rfl) ?_
  refine lv_iload hx hb dL_law_351 (lv_at hl 0 rfl) ?_
  refine lv_iconst (v := 1) hx hb dL_law_353 (by decide) ?_
  refine lv_iadd hx hb dL_law_354 ?_
  refine va_sld hx hb hX hbl hbA hS (law_in 1 hi hk7 hL (by decide) (by decide)) dL_law_355 ?_
  refine lv_topi (fun y1 hy1 => ?_)
  refine lv_aload_n hx hb dL_law_356 rfl (lv_at hl 4 rfl) ?_
  refine lv_iload hx hb dL_law_357 (lv_at hl 0 rfl) ?_
  refine lv_iconst (v := 2) hx hb dL_law_359 (by decide) ?_
  refine lv_iadd hx hb dL_law_360 ?_
  refine va_sld hx hb hX hbl hbA hS (law_in 2 hi hk7 hL (by decide) (by decide)) dL_law_361 ?_
  refine lv_topi (fun y2 hy2 => ?_)
  obtain ⟨v1, v2, h1, h2, e1, i1, e2, k2, eqv⟩ := pr_flight y1 y2 hk
  refine law_call 2 (me' := mtX10[17]) (As := [.int y1, .int y2]) (rest := []) F had ⟨by omega, by omega⟩ hP hD hS hl.1 rfl e1 (by decide) rfl (by decide) (obj_x hk.1) rfl rfl rfl mL_35 (by decide +kernel) rfl (Nat.le_of_ble_eq_true rfl) dL_law_362 rfl rfl (fun r1 H locs q1 hP hD hS => ?_)
  refine lv_pop hx hb dL_law_365 rfl ?_
  refine lv_aload_n hx hb dL_law_366 rfl (lv_at hl 2 rfl) ?_
  refine lv_aload_n hx hb dL_law_367 rfl (lv_at hl 4 rfl) ?_
  refine lv_iload hx hb dL_law_368 (lv_at hl 0 rfl) ?_
  refine lv_iconst (v := 1) hx hb dL_law_370 (by decide) ?_
  refine lv_iadd hx hb dL_law_371 ?_
  refine va_sld hx hb hX hbl hbA hS (law_in 1 hi hk7 hL (by decide) (by decide)) dL_law_372 ?_
  refine lv_topi (fun y3 hy3 => ?_)
  refine lv_aload_n hx hb dL_law_373 rfl (lv_at hl 4 rfl) ?_
  refine lv_iload hx hb dL_law_374 (lv_at hl 0 rfl) ?_
  refine lv_iconst (v := 2) hx hb dL_law_376 (by decide) ?_
  refine lv_iadd hx hb dL_law_377 ?_
  refine va_sld hx hb hX hbl hbA hS (law_in 2 hi hk7 hL (by decide) (by decide)) dL_law_378 ?_
  refine lv_topi (fun y4 hy4 => ?_)
  obtain rfl : y3 = y1 := (hy3.trans hy1.symm)
  obtain rfl : y4 = y2 := (hy4.trans hy2.symm)
  refine law_call 2 (me' := mtX11[29]) (As := [.int y3, .int y4]) (rest := []) F had ⟨by omega, by omega⟩ hP hD hS hl.1 rfl e2 (by decide) rfl (by decide) (obj_m i1) rfl rfl rfl mL_39 (by decide +kernel) rfl (Nat.le_of_ble_eq_true rfl) dL_law_379 rfl rfl (fun r2 H locs q2 hP hD hS => ?_)
  refine lv_pop hx hb dL_law_382 rfl ?_
  refine lv_goto (tgt := 1251) hx hb dL_law_383 (by decide) ?_
  refine W.widen (k := cells + 1) (n := slots + 6) (by omega) (by omega) ?_
  exact K _ _ _ _ _ hl k2 hP hD hS
set_option maxHeartbeats 4000000 in
set_option maxRecDepth 16384 in
theorem lc_reach {p : Program} {l : Launch} {e : Env} {s : State} {m : MethodId} {below : List Frame} {meth : Method} {c : Code} {g : va_G} {aC : Nat → ClassId} {aM ad : Nat → Nat} {A : Nat → Prop} {b L k : Nat} {xs : Nat → Int32} {i : Int32} {Q : State → Prop} {cells slots : Nat} {oa : Nat} {fo : Nat → Int64} {h : Ph} {H : Heap} {locs : List Loc} (F : Fx p s m #[Value.ref b] c code 7 RL g aC aM A) (had : pm_ad aM ad) (hX : va_X b L xs s s.heap) (hbl : b < s.heap.size) (hbA : ¬ A b) (hi : i.toInt = (k : Int)) (hk7 : k + 7 ≤ L) (hL : L ≤ 3584) (hcs : cells + 2 ≤ 601024 ∧ slots + 12 ≤ 7293034) (hk : kJ h) (hP : va_P g vwCl (wO aC ad oa fo h) H) (hD : va_D A (wO aC ad oa fo h)) (hS : va_S A s.heap H locs) (ls : Array Slot) (hl : lv_has ls 7 [(4, .int i), (3, .ref oa), (2, .ref (ad 172)), (1, .ref (ad 0)), (0, .ref b)]) (K : ∀ (h' : Ph) (fo' : Nat → Int64) (H1 : Heap) (locs1 : List Loc) (ls' : Array Slot), lv_has ls' 7 [(4, .int i), (3, .ref oa), (2, .ref (ad 172)), (1, .ref (ad 0)), (0, .ref b)] → kJ h' → va_P g vwCl (wO aC ad oa fo' h') H1 → va_D A (wO aC ad oa fo' h') → va_S A s.heap H1 locs1 → W p l e room_1 s m #[Value.ref b] below meth c H1 locs1 (cells + 1) (slots + 6) Q (F0 m 1251 ls' [])) : W p l e room_1 s m #[Value.ref b] below meth c H locs cells slots Q (F0 m 448 ls []) := by
  obtain ⟨hx, hb, hml, hown, hts, hK, hA, hM, hM2⟩ := id F
  refine lv_aload_n hx hb dL_law_448 rfl (lv_at hl 3 rfl) ?_
  refine lv_aload_n hx hb dL_law_449 rfl (lv_at hl 4 rfl) ?_
  refine lv_iload hx hb dL_law_450 (lv_at hl 0 rfl) ?_
  refine lv_iconst (v := 1) hx hb dL_law_452 (by decide) ?_
  refine lv_iadd hx hb dL_law_453 ?_
  refine va_sld hx hb hX hbl hbA hS (law_in 1 hi hk7 hL (by decide) (by decide)) dL_law_454 ?_
  refine lv_topi (fun y1 hy1 => ?_)
  obtain ⟨v1, v2, h1, h2, e1, i1, e2, k2, eqv⟩ := pr_reach y1 hk
  refine law_call 1 (me' := mtX10[30]) (As := [.int y1]) (rest := []) F had ⟨by omega, by omega⟩ hP hD hS hl.1 rfl e1 (by decide) rfl (by decide) (obj_x hk.1) rfl rfl rfl mL_49 (by decide +kernel) rfl (Nat.le_of_ble_eq_true rfl) dL_law_455 rfl rfl (fun r1 H locs q1 hP hD hS => ?_)
  refine lv_aload_n hx hb dL_law_458 rfl (lv_at hl 2 rfl) ?_
  refine lv_aload_n hx hb dL_law_459 rfl (lv_at hl 4 rfl) ?_
  refine lv_iload hx hb dL_law_460 (lv_at hl 0 rfl) ?_
  refine lv_iconst (v := 1) hx hb dL_law_462 (by decide) ?_
  refine lv_iadd hx hb dL_law_463 ?_
  refine va_sld hx hb hX hbl hbA hS (law_in 1 hi hk7 hL (by decide) (by decide)) dL_law_464 ?_
  refine lv_topi (fun y2 hy2 => ?_)
  obtain rfl : y2 = y1 := (hy2.trans hy1.symm)
  refine law_call 1 (me' := mtX11[86]) (As := [.int y2]) (rest := [.int r1]) F had ⟨by omega, by omega⟩ hP hD hS hl.1 rfl e2 (by decide) rfl (by decide) (obj_m i1) rfl rfl rfl mL_52 (by decide +kernel) rfl (Nat.le_of_ble_eq_true rfl) dL_law_465 rfl rfl (fun r2 H locs q2 hP hD hS => ?_)
  have q1 : v1 = r1 := by cases q1; rfl
  have q2 : v2 = r2 := by cases q2; rfl
  subst q1 q2
  subst eqv
  refine lv_icmp_eq (tgt := 1251) hx hb dL_law_468 (by decide) (fun _ => ?_) (fun z => absurd rfl z)
  refine W.widen (k := cells + 1) (n := slots + 6) (by omega) (by omega) ?_
  exact K _ _ _ _ _ hl k2 hP hD hS
set_option maxHeartbeats 4000000 in
set_option maxRecDepth 16384 in
theorem lc_steal {p : Program} {l : Launch} {e : Env} {s : State} {m : MethodId} {below : List Frame} {meth : Method} {c : Code} {g : va_G} {aC : Nat → ClassId} {aM ad : Nat → Nat} {A : Nat → Prop} {b L k : Nat} {xs : Nat → Int32} {i : Int32} {Q : State → Prop} {cells slots : Nat} {oa : Nat} {fo : Nat → Int64} {h : Ph} {H : Heap} {locs : List Loc} (F : Fx p s m #[Value.ref b] c code 7 RL g aC aM A) (had : pm_ad aM ad) (hX : va_X b L xs s s.heap) (hbl : b < s.heap.size) (hbA : ¬ A b) (hi : i.toInt = (k : Int)) (hk7 : k + 7 ≤ L) (hL : L ≤ 3584) (hcs : cells + 2 ≤ 601024 ∧ slots + 12 ≤ 7293034) (hk : kJ h) (hP : va_P g vwCl (wO aC ad oa fo h) H) (hD : va_D A (wO aC ad oa fo h)) (hS : va_S A s.heap H locs) (ls : Array Slot) (hl : lv_has ls 7 [(4, .int i), (3, .ref oa), (2, .ref (ad 172)), (1, .ref (ad 0)), (0, .ref b)]) (K : ∀ (h' : Ph) (fo' : Nat → Int64) (H1 : Heap) (locs1 : List Loc) (ls' : Array Slot), lv_has ls' 7 [(4, .int i), (3, .ref oa), (2, .ref (ad 172)), (1, .ref (ad 0)), (0, .ref b)] → kJ h' → va_P g vwCl (wO aC ad oa fo' h') H1 → va_D A (wO aC ad oa fo' h') → va_S A s.heap H1 locs1 → W p l e room_1 s m #[Value.ref b] below meth c H1 locs1 (cells + 1) (slots + 6) Q (F0 m 1251 ls' [])) : W p l e room_1 s m #[Value.ref b] below meth c H locs cells slots Q (F0 m 523 ls []) := by
  obtain ⟨hx, hb, hml, hown, hts, hK, hA, hM, hM2⟩ := id F
  refine lv_aload_n hx hb dL_law_523 rfl (lv_at hl 3 rfl) ?_
  refine lv_aload_n hx hb dL_law_524 rfl (lv_at hl 4 rfl) ?_
  refine lv_iload hx hb dL_law_525 (lv_at hl 0 rfl) ?_
  refine lv_iconst (v := 1) hx hb dL_law_527 (by decide) ?_
  refine lv_iadd hx hb dL_law_528 ?_
  refine va_sld hx hb hX hbl hbA hS (law_in 1 hi hk7 hL (by decide) (by decide)) dL_law_529 ?_
  refine lv_topi (fun y1 hy1 => ?_)
  obtain ⟨v1, v2, h1, h2, e1, i1, e2, k2⟩ := pr_steal y1 hk
  refine law_call 1 (me' := mtX10[35]) (As := [.int y1]) (rest := []) F had ⟨by omega, by omega⟩ hP hD hS hl.1 rfl e1 (by decide) rfl (by decide) (obj_x hk.1) rfl rfl rfl mL_61 (by decide +kernel) rfl (Nat.le_of_ble_eq_true rfl) dL_law_530 rfl rfl (fun r1 H locs q1 hP hD hS => ?_)
  refine lv_pop hx hb dL_law_533 rfl ?_
  refine lv_aload_n hx hb dL_law_534 rfl (lv_at hl 2 rfl) ?_
  refine lv_aload_n hx hb dL_law_535 rfl (lv_at hl 4 rfl) ?_
  refine lv_iload hx hb dL_law_536 (lv_at hl 0 rfl) ?_
  refine lv_iconst (v := 1) hx hb dL_law_538 (by decide) ?_
  refine lv_iadd hx hb dL_law_539 ?_
  refine va_sld hx hb hX hbl hbA hS (law_in 1 hi hk7 hL (by decide) (by decide)) dL_law_540 ?_
  refine lv_topi (fun y2 hy2 => ?_)
  obtain rfl : y2 = y1 := (hy2.trans hy1.symm)
  refine law_call 1 (me' := mtX11[105]) (As := [.int y2]) (rest := []) F had ⟨by omega, by omega⟩ hP hD hS hl.1 rfl e2 (by decide) rfl (by decide) (obj_m i1) rfl rfl rfl mL_64 (by decide +kernel) rfl (Nat.le_of_ble_eq_true rfl) dL_law_541 rfl rfl (fun r2 H locs q2 hP hD hS => ?_)
  refine lv_pop hx hb dL_law_544 rfl ?_
  refine lv_goto (tgt := 1251) hx hb dL_law_545 (by decide) ?_
  refine W.widen (k := cells + 1) (n := slots + 6) (by omega) (by omega) ?_
  exact K _ _ _ _ _ hl k2 hP hD hS
set_option maxHeartbeats 4000000 in
set_option maxRecDepth 16384 in
theorem lc_carry {p : Program} {l : Launch} {e : Env} {s : State} {m : MethodId} {below : List Frame} {meth : Method} {c : Code} {g : va_G} {aC : Nat → ClassId} {aM ad : Nat → Nat} {A : Nat → Prop} {b L k : Nat} {xs : Nat → Int32} {i : Int32} {Q : State → Prop} {cells slots : Nat} {oa : Nat} {fo : Nat → Int64} {h : Ph} {H : Heap} {locs : List Loc} (F : Fx p s m #[Value.ref b] c code 7 RL g aC aM A) (had : pm_ad aM ad) (hX : va_X b L xs s s.heap) (hbl : b < s.heap.size) (hbA : ¬ A b) (hi : i.toInt = (k : Int)) (hk7 : k + 7 ≤ L) (hL : L ≤ 3584) (hcs : cells + 2 ≤ 601024 ∧ slots + 12 ≤ 7293034) (hk : kJ h) (hP : va_P g vwCl (wO aC ad oa fo h) H) (hD : va_D A (wO aC ad oa fo h)) (hS : va_S A s.heap H locs) (ls : Array Slot) (hl : lv_has ls 7 [(4, .int i), (3, .ref oa), (2, .ref (ad 172)), (1, .ref (ad 0)), (0, .ref b)]) (K : ∀ (h' : Ph) (fo' : Nat → Int64) (H1 : Heap) (locs1 : List Loc) (ls' : Array Slot), lv_has ls' 7 [(4, .int i), (3, .ref oa), (2, .ref (ad 172)), (1, .ref (ad 0)), (0, .ref b)] → kJ h' → va_P g vwCl (wO aC ad oa fo' h') H1 → va_D A (wO aC ad oa fo' h') → va_S A s.heap H1 locs1 → W p l e room_1 s m #[Value.ref b] below meth c H1 locs1 (cells + 1) (slots + 6) Q (F0 m 1251 ls' [])) : W p l e room_1 s m #[Value.ref b] below meth c H locs cells slots Q (F0 m 610 ls []) := by
  obtain ⟨hx, hb, hml, hown, hts, hK, hA, hM, hM2⟩ := id F
  refine lv_aload_n hx hb dL_law_610 rfl (lv_at hl 3 rfl) ?_
  refine lv_aload_n hx hb dL_law_611 rfl (lv_at hl 4 rfl) ?_
  refine lv_iload hx hb dL_law_612 (lv_at hl 0 rfl) ?_
  refine lv_iconst (v := 1) hx hb dL_law_614 (by decide) ?_
  refine lv_iadd hx hb dL_law_615 ?_
  refine va_sld hx hb hX hbl hbA hS (law_in 1 hi hk7 hL (by decide) (by decide)) dL_law_616 ?_
  refine lv_topi (fun y1 hy1 => ?_)
  refine lv_aload_n hx hb dL_law_617 rfl (lv_at hl 4 rfl) ?_
  refine lv_iload hx hb dL_law_618 (lv_at hl 0 rfl) ?_
  refine lv_iconst (v := 2) hx hb dL_law_620 (by decide) ?_
  refine lv_iadd hx hb dL_law_621 ?_
  refine va_sld hx hb hX hbl hbA hS (law_in 2 hi hk7 hL (by decide) (by decide)) dL_law_622 ?_
  refine lv_topi (fun y2 hy2 => ?_)
  refine lv_aload_n hx hb dL_law_623 rfl (lv_at hl 4 rfl) ?_
  refine lv_iload hx hb dL_law_624 (lv_at hl 0 rfl) ?_
  refine lv_iconst (v := 3) hx hb dL_law_626 (by decide) ?_
  refine lv_iadd hx hb dL_law_627 ?_
  refine va_sld hx hb hX hbl hbA hS (law_in 3 hi hk7 hL (by decide) (by decide)) dL_law_628 ?_
  refine lv_topi (fun y3 hy3 => ?_)
  obtain ⟨v1, v2, h1, h2, e1, i1, e2, k2, eqv⟩ := pr_carry y1 y2 y3 hk
  refine law_call 3 (me' := mtX10[5]) (As := [.int y1, .int y2, .int y3]) (rest := []) F had ⟨by omega, by omega⟩ hP hD hS hl.1 rfl e1 (by decide) rfl (by decide) (obj_x hk.1) rfl rfl rfl mL_74 (by decide +kernel) rfl (Nat.le_of_ble_eq_true rfl) dL_law_629 rfl rfl (fun r1 H locs q1 hP hD hS => ?_)
  refine lv_pop hx hb dL_law_632 rfl ?_
  refine lv_aload_n hx hb dL_law_633 rfl (lv_at hl 2 rfl) ?_
  refine lv_aload_n hx hb dL_law_634 rfl (lv_at hl 4 rfl) ?_
  refine lv_iload hx hb dL_law_635 (lv_at hl 0 rfl) ?_
  refine lv_iconst (v := 1) hx hb dL_law_637 (by decide) ?_
  refine lv_iadd hx hb dL_law_638 ?_
  refine va_sld hx hb hX hbl hbA hS (law_in 1 hi hk7 hL (by decide) (by decide)) dL_law_639 ?_
  refine lv_topi (fun y4 hy4 => ?_)
  refine lv_aload_n hx hb dL_law_640 rfl (lv_at hl 4 rfl) ?_
  refine lv_iload hx hb dL_law_641 (lv_at hl 0 rfl) ?_
  refine lv_iconst (v := 2) hx hb dL_law_643 (by decide) ?_
  refine lv_iadd hx hb dL_law_644 ?_
  refine va_sld hx hb hX hbl hbA hS (law_in 2 hi hk7 hL (by decide) (by decide)) dL_law_645 ?_
  refine lv_topi (fun y5 hy5 => ?_)
  refine lv_aload_n hx hb dL_law_646 rfl (lv_at hl 4 rfl) ?_
  refine lv_iload hx hb dL_law_647 (lv_at hl 0 rfl) ?_
  refine lv_iconst (v := 3) hx hb dL_law_649 (by decide) ?_
  refine lv_iadd hx hb dL_law_650 ?_
  refine va_sld hx hb hX hbl hbA hS (law_in 3 hi hk7 hL (by decide) (by decide)) dL_law_651 ?_
  refine lv_topi (fun y6 hy6 => ?_)
  obtain rfl : y4 = y1 := (hy4.trans hy1.symm)
  obtain rfl : y5 = y2 := (hy5.trans hy2.symm)
  obtain rfl : y6 = y3 := (hy6.trans hy3.symm)
  refine law_call 3 (me' := mtX11[15]) (As := [.int y4, .int y5, .int y6]) (rest := []) F had ⟨by omega, by omega⟩ hP hD hS hl.1 rfl e2 (by decide) rfl (by decide) (obj_m i1) rfl rfl rfl mL_78 (by decide +kernel) rfl (Nat.le_of_ble_eq_true rfl) dL_law_652 rfl rfl (fun r2 H locs q2 hP hD hS => ?_)
  refine lv_pop hx hb dL_law_655 rfl ?_
  refine lv_goto (tgt := 1251) hx hb dL_law_656 (by decide) ?_
  refine W.widen (k := cells + 1) (n := slots + 6) (by omega) (by omega) ?_
  exact K _ _ _ _ _ hl k2 hP hD hS
set_option maxHeartbeats 4000000 in
set_option maxRecDepth 16384 in
theorem lc_judged {p : Program} {l : Launch} {e : Env} {s : State} {m : MethodId} {below : List Frame} {meth : Method} {c : Code} {g : va_G} {aC : Nat → ClassId} {aM ad : Nat → Nat} {A : Nat → Prop} {b L k : Nat} {xs : Nat → Int32} {i : Int32} {Q : State → Prop} {cells slots : Nat} {oa : Nat} {fo : Nat → Int64} {h : Ph} {H : Heap} {locs : List Loc} (F : Fx p s m #[Value.ref b] c code 7 RL g aC aM A) (had : pm_ad aM ad) (hX : va_X b L xs s s.heap) (hbl : b < s.heap.size) (hbA : ¬ A b) (hi : i.toInt = (k : Int)) (hk7 : k + 7 ≤ L) (hL : L ≤ 3584) (hcs : cells + 2 ≤ 601024 ∧ slots + 12 ≤ 7293034) (hk : kJ h) (hP : va_P g vwCl (wO aC ad oa fo h) H) (hD : va_D A (wO aC ad oa fo h)) (hS : va_S A s.heap H locs) (ls : Array Slot) (hl : lv_has ls 7 [(4, .int i), (3, .ref oa), (2, .ref (ad 172)), (1, .ref (ad 0)), (0, .ref b)]) (K : ∀ (h' : Ph) (fo' : Nat → Int64) (H1 : Heap) (locs1 : List Loc) (ls' : Array Slot), lv_has ls' 7 [(4, .int i), (3, .ref oa), (2, .ref (ad 172)), (1, .ref (ad 0)), (0, .ref b)] → kJ h' → va_P g vwCl (wO aC ad oa fo' h') H1 → va_D A (wO aC ad oa fo' h') → va_S A s.heap H1 locs1 → W p l e room_1 s m #[Value.ref b] below meth c H1 locs1 (cells + 1) (slots + 6) Q (F0 m 1251 ls' [])) : W p l e room_1 s m #[Value.ref b] below meth c H locs cells slots Q (F0 m 685 ls []) := by
  obtain ⟨hx, hb, hml, hown, hts, hK, hA, hM, hM2⟩ := id F
  refine lv_aload_n hx hb dL_law_685 rfl (lv_at hl 3 rfl) ?_
  refine lv_aload_n hx hb dL_law_686 rfl (lv_at hl 4 rfl) ?_
  refine lv_iload hx hb dL_law_687 (lv_at hl 0 rfl) ?_
  refine lv_iconst (v := 1) hx hb dL_law_689 (by decide) ?_
  refine lv_iadd hx hb dL_law_690 ?_
  refine va_sld hx hb hX hbl hbA hS (law_in 1 hi hk7 hL (by decide) (by decide)) dL_law_691 ?_
  refine lv_topi (fun y1 hy1 => ?_)
  obtain ⟨v1, v2, h1, h2, e1, i1, e2, k2⟩ := pr_judged y1 hk
  refine law_call 1 (me' := mtX10[20]) (As := [.int y1]) (rest := []) F had ⟨by omega, by omega⟩ hP hD hS hl.1 rfl e1 (by decide) rfl (by decide) (obj_x hk.1) rfl rfl rfl mL_88 (by decide +kernel) rfl (Nat.le_of_ble_eq_true rfl) dL_law_692 rfl rfl (fun r1 H locs q1 hP hD hS => ?_)
  refine lv_pop hx hb dL_law_695 rfl ?_
  refine lv_aload_n hx hb dL_law_696 rfl (lv_at hl 2 rfl) ?_
  refine lv_aload_n hx hb dL_law_697 rfl (lv_at hl 4 rfl) ?_
  refine lv_iload hx hb dL_law_698 (lv_at hl 0 rfl) ?_
  refine lv_iconst (v := 1) hx hb dL_law_700 (by decide) ?_
  refine lv_iadd hx hb dL_law_701 ?_
  refine va_sld hx hb hX hbl hbA hS (law_in 1 hi hk7 hL (by decide) (by decide)) dL_law_702 ?_
  refine lv_topi (fun y2 hy2 => ?_)
  obtain rfl : y2 = y1 := (hy2.trans hy1.symm)
  refine law_call 1 (me' := mtX11[52]) (As := [.int y2]) (rest := []) F had ⟨by omega, by omega⟩ hP hD hS hl.1 rfl e2 (by decide) rfl (by decide) (obj_m i1) rfl rfl rfl mL_91 (by decide +kernel) rfl (Nat.le_of_ble_eq_true rfl) dL_law_703 rfl rfl (fun r2 H locs q2 hP hD hS => ?_)
  refine lv_pop hx hb dL_law_706 rfl ?_
  refine lv_goto (tgt := 1251) hx hb dL_law_707 (by decide) ?_
  refine W.widen (k := cells + 1) (n := slots + 6) (by omega) (by omega) ?_
  exact K _ _ _ _ _ hl k2 hP hD hS
set_option maxHeartbeats 4000000 in
set_option maxRecDepth 16384 in
theorem lc_thefts {p : Program} {l : Launch} {e : Env} {s : State} {m : MethodId} {below : List Frame} {meth : Method} {c : Code} {g : va_G} {aC : Nat → ClassId} {aM ad : Nat → Nat} {A : Nat → Prop} {b L k : Nat} {xs : Nat → Int32} {i : Int32} {Q : State → Prop} {cells slots : Nat} {oa : Nat} {fo : Nat → Int64} {h : Ph} {H : Heap} {locs : List Loc} (F : Fx p s m #[Value.ref b] c code 7 RL g aC aM A) (had : pm_ad aM ad) (hX : va_X b L xs s s.heap) (hbl : b < s.heap.size) (hbA : ¬ A b) (hi : i.toInt = (k : Int)) (hk7 : k + 7 ≤ L) (hL : L ≤ 3584) (hcs : cells + 2 ≤ 601024 ∧ slots + 12 ≤ 7293034) (hk : kJ h) (hP : va_P g vwCl (wO aC ad oa fo h) H) (hD : va_D A (wO aC ad oa fo h)) (hS : va_S A s.heap H locs) (ls : Array Slot) (hl : lv_has ls 7 [(4, .int i), (3, .ref oa), (2, .ref (ad 172)), (1, .ref (ad 0)), (0, .ref b)]) (K : ∀ (h' : Ph) (fo' : Nat → Int64) (H1 : Heap) (locs1 : List Loc) (ls' : Array Slot), lv_has ls' 7 [(4, .int i), (3, .ref oa), (2, .ref (ad 172)), (1, .ref (ad 0)), (0, .ref b)] → kJ h' → va_P g vwCl (wO aC ad oa fo' h') H1 → va_D A (wO aC ad oa fo' h') → va_S A s.heap H1 locs1 → W p l e room_1 s m #[Value.ref b] below meth c H1 locs1 (cells + 1) (slots + 6) Q (F0 m 1251 ls' [])) : W p l e room_1 s m #[Value.ref b] below meth c H locs cells slots Q (F0 m 760 ls []) := by
  obtain ⟨hx, hb, hml, hown, hts, hK, hA, hM, hM2⟩ := id F
  refine lv_aload_n hx hb dL_law_760 rfl (lv_at hl 3 rfl) ?_
  refine lv_aload_n hx hb dL_law_761 rfl (lv_at hl 4 rfl) ?_
  refine lv_iload hx hb dL_law_762 (lv_at hl 0 rfl) ?_
  refine lv_iconst (v := 1) hx hb dL_law_764 (by decide) ?_
  refine lv_iadd hx hb dL_law_765 ?_
  refine va_sld hx hb hX hbl hbA hS (law_in 1 hi hk7 hL (by decide) (by decide)) dL_law_766 ?_
  refine lv_topi (fun y1 hy1 => ?_)
  refine lv_aload_n hx hb dL_law_767 rfl (lv_at hl 4 rfl) ?_
  refine lv_iload hx hb dL_law_768 (lv_at hl 0 rfl) ?_
  refine lv_iconst (v := 2) hx hb dL_law_770 (by decide) ?_
  refine lv_iadd hx hb dL_law_771 ?_
  refine va_sld hx hb hX hbl hbA hS (law_in 2 hi hk7 hL (by decide) (by decide)) dL_law_772 ?_
  refine lv_topi (fun y2 hy2 => ?_)
  refine lv_aload_n hx hb dL_law_773 rfl (lv_at hl 4 rfl) ?_
  refine lv_iload hx hb dL_law_774 (lv_at hl 0 rfl) ?_
  refine lv_iconst (v := 3) hx hb dL_law_776 (by decide) ?_
  refine lv_iadd hx hb dL_law_777 ?_
  refine va_sld hx hb hX hbl hbA hS (law_in 3 hi hk7 hL (by decide) (by decide)) dL_law_778 ?_
  refine lv_topi (fun y3 hy3 => ?_)
  obtain ⟨v1, v2, h1, h2, e1, i1, e2, k2, eqv⟩ := pr_thefts y1 y2 y3 hk
  refine law_call 3 (me' := mtX10[36]) (As := [.int y1, .int y2, .int y3]) (rest := []) F had ⟨by omega, by omega⟩ hP hD hS hl.1 rfl e1 (by decide) rfl (by decide) (obj_x hk.1) rfl rfl rfl mL_100 (by decide +kernel) rfl (Nat.le_of_ble_eq_true rfl) dL_law_779 rfl rfl (fun r1 H locs q1 hP hD hS => ?_)
  refine lv_pop hx hb dL_law_782 rfl ?_
  refine lv_aload_n hx hb dL_law_783 rfl (lv_at hl 2 rfl) ?_
  refine lv_aload_n hx hb dL_law_784 rfl (lv_at hl 4 rfl) ?_
  refine lv_iload hx hb dL_law_785 (lv_at hl 0 rfl) ?_
  refine lv_iconst (v := 1) hx hb dL_law_787 (by decide) ?_
  refine lv_iadd hx hb dL_law_788 ?_
  refine va_sld hx hb hX hbl hbA hS (law_in 1 hi hk7 hL (by decide) (by decide)) dL_law_789 ?_
  refine lv_topi (fun y4 hy4 => ?_)
  refine lv_aload_n hx hb dL_law_790 rfl (lv_at hl 4 rfl) ?_
  refine lv_iload hx hb dL_law_791 (lv_at hl 0 rfl) ?_
  refine lv_iconst (v := 2) hx hb dL_law_793 (by decide) ?_
  refine lv_iadd hx hb dL_law_794 ?_
  refine va_sld hx hb hX hbl hbA hS (law_in 2 hi hk7 hL (by decide) (by decide)) dL_law_795 ?_
  refine lv_topi (fun y5 hy5 => ?_)
  refine lv_aload_n hx hb dL_law_796 rfl (lv_at hl 4 rfl) ?_
  refine lv_iload hx hb dL_law_797 (lv_at hl 0 rfl) ?_
  refine lv_iconst (v := 3) hx hb dL_law_799 (by decide) ?_
  refine lv_iadd hx hb dL_law_800 ?_
  refine va_sld hx hb hX hbl hbA hS (law_in 3 hi hk7 hL (by decide) (by decide)) dL_law_801 ?_
  refine lv_topi (fun y6 hy6 => ?_)
  obtain rfl : y4 = y1 := (hy4.trans hy1.symm)
  obtain rfl : y5 = y2 := (hy5.trans hy2.symm)
  obtain rfl : y6 = y3 := (hy6.trans hy3.symm)
  refine law_call 3 (me' := mtX11[110]) (As := [.int y4, .int y5, .int y6]) (rest := []) F had ⟨by omega, by omega⟩ hP hD hS hl.1 rfl e2 (by decide) rfl (by decide) (obj_m i1) rfl rfl rfl mL_104 (by decide +kernel) rfl (Nat.le_of_ble_eq_true rfl) dL_law_802 rfl rfl (fun r2 H locs q2 hP hD hS => ?_)
  refine lv_pop hx hb dL_law_805 rfl ?_
  refine lv_goto (tgt := 1251) hx hb dL_law_806 (by decide) ?_
  refine W.widen (k := cells + 1) (n := slots + 6) (by omega) (by omega) ?_
  exact K _ _ _ _ _ hl k2 hP hD hS
set_option maxHeartbeats 4000000 in
set_option maxRecDepth 16384 in
theorem lc_orders {p : Program} {l : Launch} {e : Env} {s : State} {m : MethodId} {below : List Frame} {meth : Method} {c : Code} {g : va_G} {aC : Nat → ClassId} {aM ad : Nat → Nat} {A : Nat → Prop} {b L k : Nat} {xs : Nat → Int32} {i : Int32} {Q : State → Prop} {cells slots : Nat} {oa : Nat} {fo : Nat → Int64} {h : Ph} {H : Heap} {locs : List Loc} (F : Fx p s m #[Value.ref b] c code 7 RL g aC aM A) (had : pm_ad aM ad) (hX : va_X b L xs s s.heap) (hbl : b < s.heap.size) (hbA : ¬ A b) (hi : i.toInt = (k : Int)) (hk7 : k + 7 ≤ L) (hL : L ≤ 3584) (hcs : cells + 2 ≤ 601024 ∧ slots + 12 ≤ 7293034) (hk : kJ h) (hP : va_P g vwCl (wO aC ad oa fo h) H) (hD : va_D A (wO aC ad oa fo h)) (hS : va_S A s.heap H locs) (ls : Array Slot) (hl : lv_has ls 7 [(4, .int i), (3, .ref oa), (2, .ref (ad 172)), (1, .ref (ad 0)), (0, .ref b)]) (K : ∀ (h' : Ph) (fo' : Nat → Int64) (H1 : Heap) (locs1 : List Loc) (ls' : Array Slot), lv_has ls' 7 [(4, .int i), (3, .ref oa), (2, .ref (ad 172)), (1, .ref (ad 0)), (0, .ref b)] → kJ h' → va_P g vwCl (wO aC ad oa fo' h') H1 → va_D A (wO aC ad oa fo' h') → va_S A s.heap H1 locs1 → W p l e room_1 s m #[Value.ref b] below meth c H1 locs1 (cells + 1) (slots + 6) Q (F0 m 1251 ls' [])) : W p l e room_1 s m #[Value.ref b] below meth c H locs cells slots Q (F0 m 899 ls []) := by
  obtain ⟨hx, hb, hml, hown, hts, hK, hA, hM, hM2⟩ := id F
  refine lv_aload_n hx hb dL_law_899 rfl (lv_at hl 3 rfl) ?_
  refine lv_aload_n hx hb dL_law_900 rfl (lv_at hl 4 rfl) ?_
  refine lv_iload hx hb dL_law_901 (lv_at hl 0 rfl) ?_
  refine lv_iconst (v := 1) hx hb dL_law_903 (by decide) ?_
  refine lv_iadd hx hb dL_law_904 ?_
  refine va_sld hx hb hX hbl hbA hS (law_in 1 hi hk7 hL (by decide) (by decide)) dL_law_905 ?_
  refine lv_topi (fun y1 hy1 => ?_)
  obtain ⟨v1, v2, h1, h2, e1, i1, e2, k2⟩ := pr_orders y1 hk
  refine law_call 1 (me' := mtX10[25]) (As := [.int y1]) (rest := []) F had ⟨by omega, by omega⟩ hP hD hS hl.1 rfl e1 (by decide) rfl (by decide) (obj_x hk.1) rfl rfl rfl mL_114 (by decide +kernel) rfl (Nat.le_of_ble_eq_true rfl) dL_law_906 rfl rfl (fun r1 H locs q1 hP hD hS => ?_)
  refine lv_pop hx hb dL_law_909 rfl ?_
  refine lv_aload_n hx hb dL_law_910 rfl (lv_at hl 2 rfl) ?_
  refine lv_aload_n hx hb dL_law_911 rfl (lv_at hl 4 rfl) ?_
  refine lv_iload hx hb dL_law_912 (lv_at hl 0 rfl) ?_
  refine lv_iconst (v := 1) hx hb dL_law_914 (by decide) ?_
  refine lv_iadd hx hb dL_law_915 ?_
  refine va_sld hx hb hX hbl hbA hS (law_in 1 hi hk7 hL (by decide) (by decide)) dL_law_916 ?_
  refine lv_topi (fun y2 hy2 => ?_)
  obtain rfl : y2 = y1 := (hy2.trans hy1.symm)
  refine law_call 1 (me' := mtX11[78]) (As := [.int y2]) (rest := []) F had ⟨by omega, by omega⟩ hP hD hS hl.1 rfl e2 (by decide) rfl (by decide) (obj_m i1) rfl rfl rfl mL_117 (by decide +kernel) rfl (Nat.le_of_ble_eq_true rfl) dL_law_917 rfl rfl (fun r2 H locs q2 hP hD hS => ?_)
  refine lv_pop hx hb dL_law_920 rfl ?_
  refine lv_goto (tgt := 1251) hx hb dL_law_921 (by decide) ?_
  refine W.widen (k := cells + 1) (n := slots + 6) (by omega) (by omega) ?_
  exact K _ _ _ _ _ hl k2 hP hD hS
set_option maxHeartbeats 4000000 in
set_option maxRecDepth 16384 in
theorem lc_rests {p : Program} {l : Launch} {e : Env} {s : State} {m : MethodId} {below : List Frame} {meth : Method} {c : Code} {g : va_G} {aC : Nat → ClassId} {aM ad : Nat → Nat} {A : Nat → Prop} {b L k : Nat} {xs : Nat → Int32} {i : Int32} {Q : State → Prop} {cells slots : Nat} {oa : Nat} {fo : Nat → Int64} {h : Ph} {H : Heap} {locs : List Loc} (F : Fx p s m #[Value.ref b] c code 7 RL g aC aM A) (had : pm_ad aM ad) (hX : va_X b L xs s s.heap) (hbl : b < s.heap.size) (hbA : ¬ A b) (hi : i.toInt = (k : Int)) (hk7 : k + 7 ≤ L) (hL : L ≤ 3584) (hcs : cells + 2 ≤ 601024 ∧ slots + 12 ≤ 7293034) (hk : kJ h) (hP : va_P g vwCl (wO aC ad oa fo h) H) (hD : va_D A (wO aC ad oa fo h)) (hS : va_S A s.heap H locs) (ls : Array Slot) (hl : lv_has ls 7 [(4, .int i), (3, .ref oa), (2, .ref (ad 172)), (1, .ref (ad 0)), (0, .ref b)]) (K : ∀ (h' : Ph) (fo' : Nat → Int64) (H1 : Heap) (locs1 : List Loc) (ls' : Array Slot), lv_has ls' 7 [(4, .int i), (3, .ref oa), (2, .ref (ad 172)), (1, .ref (ad 0)), (0, .ref b)] → kJ h' → va_P g vwCl (wO aC ad oa fo' h') H1 → va_D A (wO aC ad oa fo' h') → va_S A s.heap H1 locs1 → W p l e room_1 s m #[Value.ref b] below meth c H1 locs1 (cells + 1) (slots + 6) Q (F0 m 1251 ls' [])) (hst : l.stackTraces = false) (hAX : AmX A s s.heap) (hAB : AmB s) : W p l e room_1 s m #[Value.ref b] below meth c H locs cells slots Q (F0 m 974 ls []) := by
  obtain ⟨hx, hb, hml, hown, hts, hK, hA, hM, hM2⟩ := id F
  refine lv_aload_n hx hb dL_law_974 rfl (lv_at hl 3 rfl) ?_
  refine lv_aload_n hx hb dL_law_975 rfl (lv_at hl 4 rfl) ?_
  refine lv_iload hx hb dL_law_976 (lv_at hl 0 rfl) ?_
  refine lv_iconst (v := 1) hx hb dL_law_978 (by decide) ?_
  refine lv_iadd hx hb dL_law_979 ?_
  refine va_sld hx hb hX hbl hbA hS (law_in 1 hi hk7 hL (by decide) (by decide)) dL_law_980 ?_
  refine lv_topi (fun y1 hy1 => ?_)
  refine lv_aload_n hx hb dL_law_981 rfl (lv_at hl 4 rfl) ?_
  refine lv_iload hx hb dL_law_982 (lv_at hl 0 rfl) ?_
  refine lv_iconst (v := 2) hx hb dL_law_984 (by decide) ?_
  refine lv_iadd hx hb dL_law_985 ?_
  refine va_sld hx hb hX hbl hbA hS (law_in 2 hi hk7 hL (by decide) (by decide)) dL_law_986 ?_
  refine lv_topi (fun y2 hy2 => ?_)
  refine lv_aload_n hx hb dL_law_987 rfl (lv_at hl 4 rfl) ?_
  refine lv_iload hx hb dL_law_988 (lv_at hl 0 rfl) ?_
  refine lv_iconst (v := 3) hx hb dL_law_990 (by decide) ?_
  refine lv_iadd hx hb dL_law_991 ?_
  refine va_sld hx hb hX hbl hbA hS (law_in 3 hi hk7 hL (by decide) (by decide)) dL_law_992 ?_
  refine lv_topi (fun y3 hy3 => ?_)
  refine lv_aload_n hx hb dL_law_993 rfl (lv_at hl 4 rfl) ?_
  refine lv_iload hx hb dL_law_994 (lv_at hl 0 rfl) ?_
  refine lv_iconst (v := 4) hx hb dL_law_996 (by decide) ?_
  refine lv_iadd hx hb dL_law_997 ?_
  refine va_sld hx hb hX hbl hbA hS (law_in 4 hi hk7 hL (by decide) (by decide)) dL_law_998 ?_
  refine lv_topi (fun y4 hy4 => ?_)
  refine lv_aload_n hx hb dL_law_999 rfl (lv_at hl 1 rfl) ?_
  have hG : GoodIn gw (va_wsS RL 126 yL_rests uwR) := fun w hw => by
    rcases List.mem_append.mp hw with h | h
    · have hm : w ∈ gw := by
        simp only [List.mem_cons, List.not_mem_nil, or_false] at h
        rcases h with h | h | h
        · rw [h]; exact rl7
        · rw [h]; exact rl8
        · rw [h]; exact rl9
      exact ⟨hm, good_of_word (List.all_eq_true.mp lw_good w hm)⟩
    · have hm : w ∈ gw := by
        rcases List.mem_cons.mp h with h | h
        · rw [h]; exact rl10
        · exact h
      exact ⟨hm, good_of_word (List.all_eq_true.mp lw_good w hm)⟩
  have hrun := vx_runSX (e := e) (below := below) (meth := meth) (R := room_1) (cells := cells) (slots := slots) (locs := locs) (H := H) (hh := hhR) (g := F0 m 1000 ls [.ref oa, .int y4, .int y3, .int y2, .int y1, .ref (ad 0)]) (As := [.ref (ad 0), .int y1, .int y2, .int y3, .int y4, .ref oa]) (rest := []) (Ts := gw) (own := RL) (n := 6) ⟨hx, hb, hml, hown, hts⟩ (l_rests2 (J := kJ) l hst g aC aM ad had hk.1 (fun h9 i9 f9 => kJ_fr hk i9 f9) oa fo y1 y2 y3 y4 H.size) (vx_cwSW 6 hts hG rfl rfl rfl (by decide +kernel) ⟨Nat.le_of_ble_eq_true rfl, Nat.le_of_ble_eq_true rfl⟩) ⟨PrX.blind, preX_of F hAX hAB hP hD hS (List.range 230) (pm_range_nd 230) wO_C⟩ rfl rfl hl.1 rfl (lv_room (Nat.le_of_ble_eq_true rfl)) dL_law_1000 ⟨by show cells + 1 ≤ 601024; omega, by show slots + 6 ≤ 7293034; omega⟩
  refine goX (wr := []) hrun hP hD hS hA (List.range 230) [] wO_C rfl rfl (fun i hi => by cases hi) (fun r_ u_ H locs kr hP hD hS => ?_)
  obtain ⟨h1, fo1⟩ := u_
  have kr : kJ h1 := kr
  have hP : va_P g vwCl (wO aC ad oa fo1 h1) H := hP
  have hD : va_D A (wO aC ad oa fo1 h1) := hD
  have hk := kr
  refine lv_istore (lv' := ((5 : Nat), Value.int r_) :: [(4, .int i), (3, .ref oa), (2, .ref (ad 172)), (1, .ref (ad 0)), (0, .ref b)]) hx hb dL_law_1003 hl (by decide) rfl (fun ls hl => ?_)
  have hl := lv_sub hl [1, 2, 3, 4, 5] rfl
  refine lv_aload_n hx hb dL_law_1005 rfl (lv_at hl 2 rfl) ?_
  refine lv_aload_n hx hb dL_law_1006 rfl (lv_at hl 4 rfl) ?_
  refine lv_iload hx hb dL_law_1007 (lv_at hl 0 rfl) ?_
  refine lv_iconst (v := 1) hx hb dL_law_1009 (by decide) ?_
  refine lv_iadd hx hb dL_law_1010 ?_
  refine va_sld hx hb hX hbl hbA hS (law_in 1 hi hk7 hL (by decide) (by decide)) dL_law_1011 ?_
  refine lv_topi (fun y5 hy5 => ?_)
  refine lv_aload_n hx hb dL_law_1012 rfl (lv_at hl 4 rfl) ?_
  refine lv_iload hx hb dL_law_1013 (lv_at hl 0 rfl) ?_
  refine lv_iconst (v := 2) hx hb dL_law_1015 (by decide) ?_
  refine lv_iadd hx hb dL_law_1016 ?_
  refine va_sld hx hb hX hbl hbA hS (law_in 2 hi hk7 hL (by decide) (by decide)) dL_law_1017 ?_
  refine lv_topi (fun y6 hy6 => ?_)
  refine lv_aload_n hx hb dL_law_1018 rfl (lv_at hl 4 rfl) ?_
  refine lv_iload hx hb dL_law_1019 (lv_at hl 0 rfl) ?_
  refine lv_iconst (v := 3) hx hb dL_law_1021 (by decide) ?_
  refine lv_iadd hx hb dL_law_1022 ?_
  refine va_sld hx hb hX hbl hbA hS (law_in 3 hi hk7 hL (by decide) (by decide)) dL_law_1023 ?_
  refine lv_topi (fun y7 hy7 => ?_)
  refine lv_aload_n hx hb dL_law_1024 rfl (lv_at hl 4 rfl) ?_
  refine lv_iload hx hb dL_law_1025 (lv_at hl 0 rfl) ?_
  refine lv_iconst (v := 4) hx hb dL_law_1027 (by decide) ?_
  refine lv_iadd hx hb dL_law_1028 ?_
  refine va_sld hx hb hX hbl hbA hS (law_in 4 hi hk7 hL (by decide) (by decide)) dL_law_1029 ?_
  refine lv_topi (fun y8 hy8 => ?_)
  obtain ⟨v2, h2, e2, k2⟩ := pr_rests y5 y6 y7 y8 hk
  refine law_call 4 (me' := mtX11[98]) (As := [.int y5, .int y6, .int y7, .int y8]) (rest := []) F had ⟨by omega, by omega⟩ hP hD hS hl.1 rfl e2 (by decide) rfl (by decide) (obj_m kr.1) rfl rfl rfl mL_131 (by decide +kernel) rfl (Nat.le_of_ble_eq_true rfl) dL_law_1030 rfl rfl (fun r2 H locs q2 hP hD hS => ?_)
  refine lv_istore (lv' := ((6 : Nat), Value.int r2) :: [(4, .int i), (3, .ref oa), (2, .ref (ad 172)), (1, .ref (ad 0)), (0, .ref b)]) hx hb dL_law_1033 hl (by decide) rfl (fun ls hl => ?_)
  have hl := lv_sub hl [1, 2, 3, 4, 5] rfl
  refine lv_goto (tgt := 1251) hx hb dL_law_1035 (by decide) ?_
  exact K _ _ _ _ _ hl k2 hP hD hS
set_option maxHeartbeats 4000000 in
set_option maxRecDepth 16384 in
theorem lc_years {p : Program} {l : Launch} {e : Env} {s : State} {m : MethodId} {below : List Frame} {meth : Method} {c : Code} {g : va_G} {aC : Nat → ClassId} {aM ad : Nat → Nat} {A : Nat → Prop} {b L k : Nat} {xs : Nat → Int32} {i : Int32} {Q : State → Prop} {cells slots : Nat} {oa : Nat} {fo : Nat → Int64} {h : Ph} {H : Heap} {locs : List Loc} (F : Fx p s m #[Value.ref b] c code 7 RL g aC aM A) (had : pm_ad aM ad) (hX : va_X b L xs s s.heap) (hbl : b < s.heap.size) (hbA : ¬ A b) (hi : i.toInt = (k : Int)) (hk7 : k + 7 ≤ L) (hL : L ≤ 3584) (hcs : cells + 2 ≤ 601024 ∧ slots + 12 ≤ 7293034) (hk : kJ h) (hP : va_P g vwCl (wO aC ad oa fo h) H) (hD : va_D A (wO aC ad oa fo h)) (hS : va_S A s.heap H locs) (ls : Array Slot) (hl : lv_has ls 7 [(4, .int i), (3, .ref oa), (2, .ref (ad 172)), (1, .ref (ad 0)), (0, .ref b)]) (K : ∀ (h' : Ph) (fo' : Nat → Int64) (H1 : Heap) (locs1 : List Loc) (ls' : Array Slot), lv_has ls' 7 [(4, .int i), (3, .ref oa), (2, .ref (ad 172)), (1, .ref (ad 0)), (0, .ref b)] → kJ h' → va_P g vwCl (wO aC ad oa fo' h') H1 → va_D A (wO aC ad oa fo' h') → va_S A s.heap H1 locs1 → W p l e room_1 s m #[Value.ref b] below meth c H1 locs1 (cells + 1) (slots + 6) Q (F0 m 1251 ls' [])) : W p l e room_1 s m #[Value.ref b] below meth c H locs cells slots Q (F0 m 1124 ls []) := by
  obtain ⟨hx, hb, hml, hown, hts, hK, hA, hM, hM2⟩ := id F
  refine lv_aload_n hx hb dL_law_1124 rfl (lv_at hl 3 rfl) ?_
  refine lv_aload_n hx hb dL_law_1125 rfl (lv_at hl 4 rfl) ?_
  refine lv_iload hx hb dL_law_1126 (lv_at hl 0 rfl) ?_
  refine lv_iconst (v := 1) hx hb dL_law_1128 (by decide) ?_
  refine lv_iadd hx hb dL_law_1129 ?_
  refine va_sld hx hb hX hbl hbA hS (law_in 1 hi hk7 hL (by decide) (by decide)) dL_law_1130 ?_
  refine lv_topi (fun y1 hy1 => ?_)
  refine lv_aload_n hx hb dL_law_1131 rfl (lv_at hl 4 rfl) ?_
  refine lv_iload hx hb dL_law_1132 (lv_at hl 0 rfl) ?_
  refine lv_iconst (v := 2) hx hb dL_law_1134 (by decide) ?_
  refine lv_iadd hx hb dL_law_1135 ?_
  refine va_sld hx hb hX hbl hbA hS (law_in 2 hi hk7 hL (by decide) (by decide)) dL_law_1136 ?_
  refine lv_topi (fun y2 hy2 => ?_)
  refine lv_aload_n hx hb dL_law_1137 rfl (lv_at hl 4 rfl) ?_
  refine lv_iload hx hb dL_law_1138 (lv_at hl 0 rfl) ?_
  refine lv_iconst (v := 3) hx hb dL_law_1140 (by decide) ?_
  refine lv_iadd hx hb dL_law_1141 ?_
  refine va_sld hx hb hX hbl hbA hS (law_in 3 hi hk7 hL (by decide) (by decide)) dL_law_1142 ?_
  refine lv_topi (fun y3 hy3 => ?_)
  obtain ⟨v1, v2, h1, h2, e1, i1, e2, k2⟩ := pr_years y1 y2 y3 hk
  refine law_call 3 (me' := mtX10[41]) (As := [.int y1, .int y2, .int y3]) (rest := []) F had ⟨by omega, by omega⟩ hP hD hS hl.1 rfl e1 (by decide) rfl (by decide) (obj_x hk.1) rfl rfl rfl mL_140 (by decide +kernel) rfl (Nat.le_of_ble_eq_true rfl) dL_law_1143 rfl rfl (fun r1 H locs q1 hP hD hS => ?_)
  refine lv_pop hx hb dL_law_1146 rfl ?_
  refine lv_aload_n hx hb dL_law_1147 rfl (lv_at hl 2 rfl) ?_
  refine lv_aload_n hx hb dL_law_1148 rfl (lv_at hl 4 rfl) ?_
  refine lv_iload hx hb dL_law_1149 (lv_at hl 0 rfl) ?_
  refine lv_iconst (v := 1) hx hb dL_law_1151 (by decide) ?_
  refine lv_iadd hx hb dL_law_1152 ?_
  refine va_sld hx hb hX hbl hbA hS (law_in 1 hi hk7 hL (by decide) (by decide)) dL_law_1153 ?_
  refine lv_topi (fun y4 hy4 => ?_)
  refine lv_aload_n hx hb dL_law_1154 rfl (lv_at hl 4 rfl) ?_
  refine lv_iload hx hb dL_law_1155 (lv_at hl 0 rfl) ?_
  refine lv_iconst (v := 2) hx hb dL_law_1157 (by decide) ?_
  refine lv_iadd hx hb dL_law_1158 ?_
  refine va_sld hx hb hX hbl hbA hS (law_in 2 hi hk7 hL (by decide) (by decide)) dL_law_1159 ?_
  refine lv_topi (fun y5 hy5 => ?_)
  refine lv_aload_n hx hb dL_law_1160 rfl (lv_at hl 4 rfl) ?_
  refine lv_iload hx hb dL_law_1161 (lv_at hl 0 rfl) ?_
  refine lv_iconst (v := 3) hx hb dL_law_1163 (by decide) ?_
  refine lv_iadd hx hb dL_law_1164 ?_
  refine va_sld hx hb hX hbl hbA hS (law_in 3 hi hk7 hL (by decide) (by decide)) dL_law_1165 ?_
  refine lv_topi (fun y6 hy6 => ?_)
  obtain rfl : y4 = y1 := (hy4.trans hy1.symm)
  obtain rfl : y5 = y2 := (hy5.trans hy2.symm)
  obtain rfl : y6 = y3 := (hy6.trans hy3.symm)
  refine law_call 3 (me' := mtX11[120]) (As := [.int y4, .int y5, .int y6]) (rest := []) F had ⟨by omega, by omega⟩ hP hD hS hl.1 rfl e2 (by decide) rfl (by decide) (obj_m i1) rfl rfl rfl mL_143 (by decide +kernel) rfl (Nat.le_of_ble_eq_true rfl) dL_law_1166 rfl rfl (fun r2 H locs q2 hP hD hS => ?_)
  refine lv_pop hx hb dL_law_1169 rfl ?_
  refine lv_goto (tgt := 1251) hx hb dL_law_1170 (by decide) ?_
  refine W.widen (k := cells + 1) (n := slots + 6) (by omega) (by omega) ?_
  exact K _ _ _ _ _ hl k2 hP hD hS
