/-! the law's cases -/
theorem dL_law_336 : decode code 336 = .ok (.aload_n 1, 1) := by decide +kernel
theorem dL_law_337 : decode code 337 = .ok (.invokevirtual 31, 3) := by decide +kernel
theorem dL_law_340 : decode code 340 = .ok (.pop, 1) := by decide +kernel
theorem dL_law_341 : decode code 341 = .ok (.aload_n 2, 1) := by decide +kernel
theorem dL_law_342 : decode code 342 = .ok (.invokevirtual 34, 3) := by decide +kernel
theorem dL_law_345 : decode code 345 = .ok (.pop, 1) := by decide +kernel
theorem dL_law_346 : decode code 346 = .ok (.goto 905, 3) := by decide +kernel
theorem dL_law_423 : decode code 423 = .ok (.aload_n 1, 1) := by decide +kernel
theorem dL_law_424 : decode code 424 = .ok (.aload_n 0, 1) := by decide +kernel
theorem dL_law_425 : decode code 425 = .ok (.iload 4, 2) := by decide +kernel
theorem dL_law_427 : decode code 427 = .ok (.iconst 1, 1) := by decide +kernel
theorem dL_law_428 : decode code 428 = .ok (.iadd, 1) := by decide +kernel
theorem dL_law_429 : decode code 429 = .ok (.iaload, 1) := by decide +kernel
theorem dL_law_430 : decode code 430 = .ok (.invokevirtual 44, 3) := by decide +kernel
theorem dL_law_433 : decode code 433 = .ok (.pop, 1) := by decide +kernel
theorem dL_law_434 : decode code 434 = .ok (.aload_n 2, 1) := by decide +kernel
theorem dL_law_435 : decode code 435 = .ok (.aload_n 0, 1) := by decide +kernel
theorem dL_law_436 : decode code 436 = .ok (.iload 4, 2) := by decide +kernel
theorem dL_law_438 : decode code 438 = .ok (.iconst 1, 1) := by decide +kernel
theorem dL_law_439 : decode code 439 = .ok (.iadd, 1) := by decide +kernel
theorem dL_law_440 : decode code 440 = .ok (.iaload, 1) := by decide +kernel
theorem dL_law_441 : decode code 441 = .ok (.invokevirtual 48, 3) := by decide +kernel
theorem dL_law_444 : decode code 444 = .ok (.pop, 1) := by decide +kernel
theorem dL_law_445 : decode code 445 = .ok (.goto 806, 3) := by decide +kernel
theorem dL_law_510 : decode code 510 = .ok (.aload_n 1, 1) := by decide +kernel
theorem dL_law_511 : decode code 511 = .ok (.invokevirtual 57, 3) := by decide +kernel
theorem dL_law_514 : decode code 514 = .ok (.pop, 1) := by decide +kernel
theorem dL_law_515 : decode code 515 = .ok (.aload_n 2, 1) := by decide +kernel
theorem dL_law_516 : decode code 516 = .ok (.invokevirtual 60, 3) := by decide +kernel
theorem dL_law_519 : decode code 519 = .ok (.pop, 1) := by decide +kernel
theorem dL_law_520 : decode code 520 = .ok (.goto 731, 3) := by decide +kernel
theorem dL_law_573 : decode code 573 = .ok (.aload_n 1, 1) := by decide +kernel
theorem dL_law_574 : decode code 574 = .ok (.aload_n 0, 1) := by decide +kernel
theorem dL_law_575 : decode code 575 = .ok (.iload 4, 2) := by decide +kernel
theorem dL_law_577 : decode code 577 = .ok (.iconst 1, 1) := by decide +kernel
theorem dL_law_578 : decode code 578 = .ok (.iadd, 1) := by decide +kernel
theorem dL_law_579 : decode code 579 = .ok (.iaload, 1) := by decide +kernel
theorem dL_law_580 : decode code 580 = .ok (.aload_n 0, 1) := by decide +kernel
theorem dL_law_581 : decode code 581 = .ok (.iload 4, 2) := by decide +kernel
theorem dL_law_583 : decode code 583 = .ok (.iconst 2, 1) := by decide +kernel
theorem dL_law_584 : decode code 584 = .ok (.iadd, 1) := by decide +kernel
theorem dL_law_585 : decode code 585 = .ok (.iaload, 1) := by decide +kernel
theorem dL_law_586 : decode code 586 = .ok (.invokevirtual 69, 3) := by decide +kernel
theorem dL_law_589 : decode code 589 = .ok (.pop, 1) := by decide +kernel
theorem dL_law_590 : decode code 590 = .ok (.aload_n 2, 1) := by decide +kernel
theorem dL_law_591 : decode code 591 = .ok (.aload_n 0, 1) := by decide +kernel
theorem dL_law_592 : decode code 592 = .ok (.iload 4, 2) := by decide +kernel
theorem dL_law_594 : decode code 594 = .ok (.iconst 1, 1) := by decide +kernel
theorem dL_law_595 : decode code 595 = .ok (.iadd, 1) := by decide +kernel
theorem dL_law_596 : decode code 596 = .ok (.iaload, 1) := by decide +kernel
theorem dL_law_597 : decode code 597 = .ok (.aload_n 0, 1) := by decide +kernel
theorem dL_law_598 : decode code 598 = .ok (.iload 4, 2) := by decide +kernel
theorem dL_law_600 : decode code 600 = .ok (.iconst 2, 1) := by decide +kernel
theorem dL_law_601 : decode code 601 = .ok (.iadd, 1) := by decide +kernel
theorem dL_law_602 : decode code 602 = .ok (.iaload, 1) := by decide +kernel
theorem dL_law_603 : decode code 603 = .ok (.invokevirtual 73, 3) := by decide +kernel
theorem dL_law_606 : decode code 606 = .ok (.pop, 1) := by decide +kernel
theorem dL_law_607 : decode code 607 = .ok (.goto 644, 3) := by decide +kernel
theorem dL_law_672 : decode code 672 = .ok (.aload_n 1, 1) := by decide +kernel
theorem dL_law_673 : decode code 673 = .ok (.invokevirtual 83, 3) := by decide +kernel
theorem dL_law_676 : decode code 676 = .ok (.pop, 1) := by decide +kernel
theorem dL_law_677 : decode code 677 = .ok (.aload_n 2, 1) := by decide +kernel
theorem dL_law_678 : decode code 678 = .ok (.invokevirtual 87, 3) := by decide +kernel
theorem dL_law_681 : decode code 681 = .ok (.pop, 1) := by decide +kernel
theorem dL_law_682 : decode code 682 = .ok (.goto 569, 3) := by decide +kernel
theorem dL_law_735 : decode code 735 = .ok (.aload_n 1, 1) := by decide +kernel
theorem dL_law_736 : decode code 736 = .ok (.aload_n 0, 1) := by decide +kernel
theorem dL_law_737 : decode code 737 = .ok (.iload 4, 2) := by decide +kernel
theorem dL_law_739 : decode code 739 = .ok (.iconst 1, 1) := by decide +kernel
theorem dL_law_740 : decode code 740 = .ok (.iadd, 1) := by decide +kernel
theorem dL_law_741 : decode code 741 = .ok (.iaload, 1) := by decide +kernel
theorem dL_law_742 : decode code 742 = .ok (.invokevirtual 96, 3) := by decide +kernel
theorem dL_law_745 : decode code 745 = .ok (.pop, 1) := by decide +kernel
theorem dL_law_746 : decode code 746 = .ok (.aload_n 2, 1) := by decide +kernel
theorem dL_law_747 : decode code 747 = .ok (.aload_n 0, 1) := by decide +kernel
theorem dL_law_748 : decode code 748 = .ok (.iload 4, 2) := by decide +kernel
theorem dL_law_750 : decode code 750 = .ok (.iconst 1, 1) := by decide +kernel
theorem dL_law_751 : decode code 751 = .ok (.iadd, 1) := by decide +kernel
theorem dL_law_752 : decode code 752 = .ok (.iaload, 1) := by decide +kernel
theorem dL_law_753 : decode code 753 = .ok (.invokevirtual 99, 3) := by decide +kernel
theorem dL_law_756 : decode code 756 = .ok (.pop, 1) := by decide +kernel
theorem dL_law_757 : decode code 757 = .ok (.goto 494, 3) := by decide +kernel
theorem dL_law_874 : decode code 874 = .ok (.aload_n 1, 1) := by decide +kernel
theorem dL_law_875 : decode code 875 = .ok (.aload_n 0, 1) := by decide +kernel
theorem dL_law_876 : decode code 876 = .ok (.iload 4, 2) := by decide +kernel
theorem dL_law_878 : decode code 878 = .ok (.iconst 1, 1) := by decide +kernel
theorem dL_law_879 : decode code 879 = .ok (.iadd, 1) := by decide +kernel
theorem dL_law_880 : decode code 880 = .ok (.iaload, 1) := by decide +kernel
theorem dL_law_881 : decode code 881 = .ok (.invokevirtual 110, 3) := by decide +kernel
theorem dL_law_884 : decode code 884 = .ok (.pop, 1) := by decide +kernel
theorem dL_law_885 : decode code 885 = .ok (.aload_n 2, 1) := by decide +kernel
theorem dL_law_886 : decode code 886 = .ok (.aload_n 0, 1) := by decide +kernel
theorem dL_law_887 : decode code 887 = .ok (.iload 4, 2) := by decide +kernel
theorem dL_law_889 : decode code 889 = .ok (.iconst 1, 1) := by decide +kernel
theorem dL_law_890 : decode code 890 = .ok (.iadd, 1) := by decide +kernel
theorem dL_law_891 : decode code 891 = .ok (.iaload, 1) := by decide +kernel
theorem dL_law_892 : decode code 892 = .ok (.invokevirtual 113, 3) := by decide +kernel
theorem dL_law_895 : decode code 895 = .ok (.pop, 1) := by decide +kernel
theorem dL_law_896 : decode code 896 = .ok (.goto 355, 3) := by decide +kernel
theorem dL_law_961 : decode code 961 = .ok (.aload_n 1, 1) := by decide +kernel
theorem dL_law_962 : decode code 962 = .ok (.invokevirtual 122, 3) := by decide +kernel
theorem dL_law_965 : decode code 965 = .ok (.pop, 1) := by decide +kernel
theorem dL_law_966 : decode code 966 = .ok (.aload_n 2, 1) := by decide +kernel
theorem dL_law_967 : decode code 967 = .ok (.invokevirtual 125, 3) := by decide +kernel
theorem dL_law_970 : decode code 970 = .ok (.pop, 1) := by decide +kernel
theorem dL_law_971 : decode code 971 = .ok (.goto 280, 3) := by decide +kernel
theorem dL_law_1087 : decode code 1087 = .ok (.aload_n 1, 1) := by decide +kernel
theorem dL_law_1088 : decode code 1088 = .ok (.aload_n 0, 1) := by decide +kernel
theorem dL_law_1089 : decode code 1089 = .ok (.iload 4, 2) := by decide +kernel
theorem dL_law_1091 : decode code 1091 = .ok (.iconst 1, 1) := by decide +kernel
theorem dL_law_1092 : decode code 1092 = .ok (.iadd, 1) := by decide +kernel
theorem dL_law_1093 : decode code 1093 = .ok (.iaload, 1) := by decide +kernel
theorem dL_law_1094 : decode code 1094 = .ok (.aload_n 0, 1) := by decide +kernel
theorem dL_law_1095 : decode code 1095 = .ok (.iload 4, 2) := by decide +kernel
theorem dL_law_1097 : decode code 1097 = .ok (.iconst 2, 1) := by decide +kernel
theorem dL_law_1098 : decode code 1098 = .ok (.iadd, 1) := by decide +kernel
theorem dL_law_1099 : decode code 1099 = .ok (.iaload, 1) := by decide +kernel
theorem dL_law_1100 : decode code 1100 = .ok (.invokevirtual 136, 3) := by decide +kernel
theorem dL_law_1103 : decode code 1103 = .ok (.pop, 1) := by decide +kernel
theorem dL_law_1104 : decode code 1104 = .ok (.aload_n 2, 1) := by decide +kernel
theorem dL_law_1105 : decode code 1105 = .ok (.aload_n 0, 1) := by decide +kernel
theorem dL_law_1106 : decode code 1106 = .ok (.iload 4, 2) := by decide +kernel
theorem dL_law_1108 : decode code 1108 = .ok (.iconst 1, 1) := by decide +kernel
theorem dL_law_1109 : decode code 1109 = .ok (.iadd, 1) := by decide +kernel
theorem dL_law_1110 : decode code 1110 = .ok (.iaload, 1) := by decide +kernel
theorem dL_law_1111 : decode code 1111 = .ok (.aload_n 0, 1) := by decide +kernel
theorem dL_law_1112 : decode code 1112 = .ok (.iload 4, 2) := by decide +kernel
theorem dL_law_1114 : decode code 1114 = .ok (.iconst 2, 1) := by decide +kernel
theorem dL_law_1115 : decode code 1115 = .ok (.iadd, 1) := by decide +kernel
theorem dL_law_1116 : decode code 1116 = .ok (.iaload, 1) := by decide +kernel
theorem dL_law_1117 : decode code 1117 = .ok (.invokevirtual 139, 3) := by decide +kernel
theorem dL_law_1120 : decode code 1120 = .ok (.pop, 1) := by decide +kernel
theorem dL_law_1121 : decode code 1121 = .ok (.goto 130, 3) := by decide +kernel
theorem dL_law_1226 : decode code 1226 = .ok (.aload_n 1, 1) := by decide +kernel
theorem dL_law_1227 : decode code 1227 = .ok (.aload_n 0, 1) := by decide +kernel
theorem dL_law_1228 : decode code 1228 = .ok (.iload 4, 2) := by decide +kernel
theorem dL_law_1230 : decode code 1230 = .ok (.iconst 1, 1) := by decide +kernel
theorem dL_law_1231 : decode code 1231 = .ok (.iadd, 1) := by decide +kernel
theorem dL_law_1232 : decode code 1232 = .ok (.iaload, 1) := by decide +kernel
theorem dL_law_1233 : decode code 1233 = .ok (.invokevirtual 149, 3) := by decide +kernel
theorem dL_law_1236 : decode code 1236 = .ok (.pop, 1) := by decide +kernel
theorem dL_law_1237 : decode code 1237 = .ok (.aload_n 2, 1) := by decide +kernel
theorem dL_law_1238 : decode code 1238 = .ok (.aload_n 0, 1) := by decide +kernel
theorem dL_law_1239 : decode code 1239 = .ok (.iload 4, 2) := by decide +kernel
theorem dL_law_1241 : decode code 1241 = .ok (.iconst 1, 1) := by decide +kernel
theorem dL_law_1242 : decode code 1242 = .ok (.iadd, 1) := by decide +kernel
theorem dL_law_1243 : decode code 1243 = .ok (.iaload, 1) := by decide +kernel
theorem dL_law_1244 : decode code 1244 = .ok (.invokevirtual 152, 3) := by decide +kernel
theorem dL_law_1247 : decode code 1247 = .ok (.pop, 1) := by decide +kernel
theorem dL_law_1248 : decode code 1248 = .ok (.goto 3, 3) := by decide +kernel
theorem mL_31 : Cond.methodLink RL 31 yX10_nights ∈ gw := List.mem_filter.mpr ⟨List.mem_append_right _ (by decide +kernel), by decide +kernel⟩
theorem mL_34 : Cond.methodLink RL 34 yX11_nights ∈ gw := List.mem_filter.mpr ⟨List.mem_append_right _ (by decide +kernel), by decide +kernel⟩
theorem mL_44 : Cond.methodLink RL 44 yX10_thing ∈ gw := List.mem_filter.mpr ⟨List.mem_append_right _ (by decide +kernel), by decide +kernel⟩
theorem mL_48 : Cond.methodLink RL 48 yX11_thing ∈ gw := List.mem_filter.mpr ⟨List.mem_append_right _ (by decide +kernel), by decide +kernel⟩
theorem mL_57 : Cond.methodLink RL 57 yX10_cut ∈ gw := List.mem_filter.mpr ⟨List.mem_append_right _ (by decide +kernel), by decide +kernel⟩
theorem mL_60 : Cond.methodLink RL 60 yX11_cut ∈ gw := List.mem_filter.mpr ⟨List.mem_append_right _ (by decide +kernel), by decide +kernel⟩
theorem mL_69 : Cond.methodLink RL 69 yX10_go ∈ gw := List.mem_filter.mpr ⟨List.mem_append_right _ (by decide +kernel), by decide +kernel⟩
theorem mL_73 : Cond.methodLink RL 73 yX11_go ∈ gw := List.mem_filter.mpr ⟨List.mem_append_right _ (by decide +kernel), by decide +kernel⟩
theorem mL_83 : Cond.methodLink RL 83 yX10_undo ∈ gw := List.mem_filter.mpr ⟨List.mem_append_right _ (by decide +kernel), by decide +kernel⟩
theorem mL_87 : Cond.methodLink RL 87 yX11_undo ∈ gw := List.mem_filter.mpr ⟨List.mem_append_right _ (by decide +kernel), by decide +kernel⟩
theorem mL_96 : Cond.methodLink RL 96 yX10_plan ∈ gw := List.mem_filter.mpr ⟨List.mem_append_right _ (by decide +kernel), by decide +kernel⟩
theorem mL_99 : Cond.methodLink RL 99 yX11_plan ∈ gw := List.mem_filter.mpr ⟨List.mem_append_right _ (by decide +kernel), by decide +kernel⟩
theorem mL_110 : Cond.methodLink RL 110 yX10_fits ∈ gw := List.mem_filter.mpr ⟨List.mem_append_right _ (by decide +kernel), by decide +kernel⟩
theorem mL_113 : Cond.methodLink RL 113 yX11_fits ∈ gw := List.mem_filter.mpr ⟨List.mem_append_right _ (by decide +kernel), by decide +kernel⟩
theorem mL_122 : Cond.methodLink RL 122 yX10_watch ∈ gw := List.mem_filter.mpr ⟨List.mem_append_right _ (by decide +kernel), by decide +kernel⟩
theorem mL_125 : Cond.methodLink RL 125 yX11_watch ∈ gw := List.mem_filter.mpr ⟨List.mem_append_right _ (by decide +kernel), by decide +kernel⟩
theorem mL_136 : Cond.methodLink RL 136 yX10_best ∈ gw := List.mem_filter.mpr ⟨List.mem_append_right _ (by decide +kernel), by decide +kernel⟩
theorem mL_139 : Cond.methodLink RL 139 yX11_best ∈ gw := List.mem_filter.mpr ⟨List.mem_append_right _ (by decide +kernel), by decide +kernel⟩
theorem mL_149 : Cond.methodLink RL 149 yX10_count ∈ gw := List.mem_filter.mpr ⟨List.mem_append_right _ (by decide +kernel), by decide +kernel⟩
theorem mL_152 : Cond.methodLink RL 152 yX11_count ∈ gw := List.mem_filter.mpr ⟨List.mem_append_right _ (by decide +kernel), by decide +kernel⟩
set_option maxHeartbeats 4000000 in
set_option maxRecDepth 16384 in
theorem lc_nights {p : Program} {l : Launch} {e : Env} {s : State} {m : MethodId} {below : List Frame} {meth : Method} {c : Code} {g : va_G} {aC : Nat → ClassId} {aM ad : Nat → Nat} {A : Nat → Prop} {b L k : Nat} {xs : Nat → Int32} {i : Int32} {Q : State → Prop} {cells slots : Nat} {oa : Nat} {fo : Nat → Int64} {h : Ph} {H : Heap} {locs : List Loc} (F : Fx p s m #[Value.ref b] c code 7 RL g aC aM A) (had : pm_ad aM ad) (hX : va_X b L xs s s.heap) (hbl : b < s.heap.size) (hbA : ¬ A b) (hi : i.toInt = (k : Int)) (hk7 : k + 7 ≤ L) (hL : L ≤ 3584) (hcs : cells + 2 ≤ 601024 ∧ slots + 12 ≤ 7293034) (hk : kJ h) (hP : va_P g vwCl (wO aC ad oa fo h) H) (hD : va_D A (wO aC ad oa fo h)) (hS : va_S A s.heap H locs) (ls : Array Slot) (hl : lv_has ls 7 [(4, .int i), (3, .ref oa), (2, .ref (ad 172)), (1, .ref (ad 0)), (0, .ref b)]) (K : ∀ (h' : Ph) (fo' : Nat → Int64) (H1 : Heap) (locs1 : List Loc) (ls' : Array Slot), lv_has ls' 7 [(4, .int i), (3, .ref oa), (2, .ref (ad 172)), (1, .ref (ad 0)), (0, .ref b)] → kJ h' → va_P g vwCl (wO aC ad oa fo' h') H1 → va_D A (wO aC ad oa fo' h') → va_S A s.heap H1 locs1 → W p l e room_1 s m #[Value.ref b] below meth c H1 locs1 (cells + 1) (slots + 6) Q (F0 m 1251 ls' [])) : W p l e room_1 s m #[Value.ref b] below meth c H locs cells slots Q (F0 m 336 ls []) := by
  obtain ⟨hx, hb, hml, hown, hts, hK, hA, hM, hM2⟩ := id F
  refine lv_aload_n hx hb dL_law_336 rfl (lv_at hl 3 rfl) ?_
  obtain ⟨v1, v2, h1, h2, e1, i1, e2, k2, eqv⟩ := pr_nights  hk
  refine law_call 0 (me' := mtX10[24]) (As := []) (rest := []) F had ⟨by omega, by omega⟩ hP hD hS hl.1 rfl e1 (by decide) rfl (by decide) (obj_x hk.1) rfl rfl rfl mL_31 (by decide +kernel) rfl (Nat.le_of_ble_eq_true rfl) dL_law_337 rfl rfl (fun r1 H locs q1 hP hD hS => ?_)
  refine lv_pop hx hb dL_law_340 rfl ?_
  refine lv_aload_n hx hb dL_law_341 rfl (lv_at hl 2 rfl) ?_
  refine law_call 0 (me' := mtX11[76]) (As := []) (rest := []) F had ⟨by omega, by omega⟩ hP hD hS hl.1 rfl e2 (by decide) rfl (by decide) (obj_m i1) rfl rfl rfl mL_34 (by decide +kernel) rfl (Nat.le_of_ble_eq_true rfl) dL_law_342 rfl rfl (fun r2 H locs q2 hP hD hS => ?_)
  refine lv_pop hx hb dL_law_345 rfl ?_
  refine lv_goto (tgt := 1251) hx hb dL_law_346 (by decide) ?_
  refine W.widen (k := cells + 1) (n := slots + 6) (by omega) (by omega) ?_
  exact K _ _ _ _ _ hl k2 hP hD hS
set_option maxHeartbeats 4000000 in
set_option maxRecDepth 16384 in
theorem lc_thing {p : Program} {l : Launch} {e : Env} {s : State} {m : MethodId} {below : List Frame} {meth : Method} {c : Code} {g : va_G} {aC : Nat → ClassId} {aM ad : Nat → Nat} {A : Nat → Prop} {b L k : Nat} {xs : Nat → Int32} {i : Int32} {Q : State → Prop} {cells slots : Nat} {oa : Nat} {fo : Nat → Int64} {h : Ph} {H : Heap} {locs : List Loc} (F : Fx p s m #[Value.ref b] c code 7 RL g aC aM A) (had : pm_ad aM ad) (hX : va_X b L xs s s.heap) (hbl : b < s.heap.size) (hbA : ¬ A b) (hi : i.toInt = (k : Int)) (hk7 : k + 7 ≤ L) (hL : L ≤ 3584) (hcs : cells + 2 ≤ 601024 ∧ slots + 12 ≤ 7293034) (hk : kJ h) (hP : va_P g vwCl (wO aC ad oa fo h) H) (hD : va_D A (wO aC ad oa fo h)) (hS : va_S A s.heap H locs) (ls : Array Slot) (hl : lv_has ls 7 [(4, .int i), (3, .ref oa), (2, .ref (ad 172)), (1, .ref (ad 0)), (0, .ref b)]) (K : ∀ (h' : Ph) (fo' : Nat → Int64) (H1 : Heap) (locs1 : List Loc) (ls' : Array Slot), lv_has ls' 7 [(4, .int i), (3, .ref oa), (2, .ref (ad 172)), (1, .ref (ad 0)), (0, .ref b)] → kJ h' → va_P g vwCl (wO aC ad oa fo' h') H1 → va_D A (wO aC ad oa fo' h') → va_S A s.heap H1 locs1 → W p l e room_1 s m #[Value.ref b] below meth c H1 locs1 (cells + 1) (slots + 6) Q (F0 m 1251 ls' [])) : W p l e room_1 s m #[Value.ref b] below meth c H locs cells slots Q (F0 m 423 ls []) := by
  obtain ⟨hx, hb, hml, hown, hts, hK, hA, hM, hM2⟩ := id F
  refine lv_aload_n hx hb dL_law_423 rfl (lv_at hl 3 rfl) ?_
  refine lv_aload_n hx hb dL_law_424 rfl (lv_at hl 4 rfl) ?_
  refine lv_iload hx hb dL_law_425 (lv_at hl 0 rfl) ?_
  refine lv_iconst (v := 1) hx hb dL_law_427 (by decide) ?_
  refine lv_iadd hx hb dL_law_428 ?_
  refine va_sld hx hb hX hbl hbA hS (law_in 1 hi hk7 hL (by decide) (by decide)) dL_law_429 ?_
  refine lv_topi (fun y1 hy1 => ?_)
  obtain ⟨v1, v2, h1, h2, e1, i1, e2, k2, eqv⟩ := pr_thing y1 hk
  refine law_call 1 (me' := mtX10[37]) (As := [.int y1]) (rest := []) F had ⟨by omega, by omega⟩ hP hD hS hl.1 rfl e1 (by decide) rfl (by decide) (obj_x hk.1) rfl rfl rfl mL_44 (by decide +kernel) rfl (Nat.le_of_ble_eq_true rfl) dL_law_430 rfl rfl (fun r1 H locs q1 hP hD hS => ?_)
  refine lv_pop hx hb dL_law_433 rfl ?_
  refine lv_aload_n hx hb dL_law_434 rfl (lv_at hl 2 rfl) ?_
  refine lv_aload_n hx hb dL_law_435 rfl (lv_at hl 4 rfl) ?_
  refine lv_iload hx hb dL_law_436 (lv_at hl 0 rfl) ?_
  refine lv_iconst (v := 1) hx hb dL_law_438 (by decide) ?_
  refine lv_iadd hx hb dL_law_439 ?_
  refine va_sld hx hb hX hbl hbA hS (law_in 1 hi hk7 hL (by decide) (by decide)) dL_law_440 ?_
  refine lv_topi (fun y2 hy2 => ?_)
  obtain rfl : y2 = y1 := (hy2.trans hy1.symm)
  refine law_call 1 (me' := mtX11[111]) (As := [.int y2]) (rest := []) F had ⟨by omega, by omega⟩ hP hD hS hl.1 rfl e2 (by decide) rfl (by decide) (obj_m i1) rfl rfl rfl mL_48 (by decide +kernel) rfl (Nat.le_of_ble_eq_true rfl) dL_law_441 rfl rfl (fun r2 H locs q2 hP hD hS => ?_)
  refine lv_pop hx hb dL_law_444 rfl ?_
  refine lv_goto (tgt := 1251) hx hb dL_law_445 (by decide) ?_
  refine W.widen (k := cells + 1) (n := slots + 6) (by omega) (by omega) ?_
  exact K _ _ _ _ _ hl k2 hP hD hS
set_option maxHeartbeats 4000000 in
set_option maxRecDepth 16384 in
theorem lc_cut {p : Program} {l : Launch} {e : Env} {s : State} {m : MethodId} {below : List Frame} {meth : Method} {c : Code} {g : va_G} {aC : Nat → ClassId} {aM ad : Nat → Nat} {A : Nat → Prop} {b L k : Nat} {xs : Nat → Int32} {i : Int32} {Q : State → Prop} {cells slots : Nat} {oa : Nat} {fo : Nat → Int64} {h : Ph} {H : Heap} {locs : List Loc} (F : Fx p s m #[Value.ref b] c code 7 RL g aC aM A) (had : pm_ad aM ad) (hX : va_X b L xs s s.heap) (hbl : b < s.heap.size) (hbA : ¬ A b) (hi : i.toInt = (k : Int)) (hk7 : k + 7 ≤ L) (hL : L ≤ 3584) (hcs : cells + 2 ≤ 601024 ∧ slots + 12 ≤ 7293034) (hk : kJ h) (hP : va_P g vwCl (wO aC ad oa fo h) H) (hD : va_D A (wO aC ad oa fo h)) (hS : va_S A s.heap H locs) (ls : Array Slot) (hl : lv_has ls 7 [(4, .int i), (3, .ref oa), (2, .ref (ad 172)), (1, .ref (ad 0)), (0, .ref b)]) (K : ∀ (h' : Ph) (fo' : Nat → Int64) (H1 : Heap) (locs1 : List Loc) (ls' : Array Slot), lv_has ls' 7 [(4, .int i), (3, .ref oa), (2, .ref (ad 172)), (1, .ref (ad 0)), (0, .ref b)] → kJ h' → va_P g vwCl (wO aC ad oa fo' h') H1 → va_D A (wO aC ad oa fo' h') → va_S A s.heap H1 locs1 → W p l e room_1 s m #[Value.ref b] below meth c H1 locs1 (cells + 1) (slots + 6) Q (F0 m 1251 ls' [])) : W p l e room_1 s m #[Value.ref b] below meth c H locs cells slots Q (F0 m 510 ls []) := by
  obtain ⟨hx, hb, hml, hown, hts, hK, hA, hM, hM2⟩ := id F
  refine lv_aload_n hx hb dL_law_510 rfl (lv_at hl 3 rfl) ?_
  obtain ⟨v1, v2, h1, h2, e1, i1, e2, k2, eqv⟩ := pr_cut  hk
  refine law_call 0 (me' := mtX10[8]) (As := []) (rest := []) F had ⟨by omega, by omega⟩ hP hD hS hl.1 rfl e1 (by decide) rfl (by decide) (obj_x hk.1) rfl rfl rfl mL_57 (by decide +kernel) rfl (Nat.le_of_ble_eq_true rfl) dL_law_511 rfl rfl (fun r1 H locs q1 hP hD hS => ?_)
  refine lv_pop hx hb dL_law_514 rfl ?_
  refine lv_aload_n hx hb dL_law_515 rfl (lv_at hl 2 rfl) ?_
  refine law_call 0 (me' := mtX11[21]) (As := []) (rest := []) F had ⟨by omega, by omega⟩ hP hD hS hl.1 rfl e2 (by decide) rfl (by decide) (obj_m i1) rfl rfl rfl mL_60 (by decide +kernel) rfl (Nat.le_of_ble_eq_true rfl) dL_law_516 rfl rfl (fun r2 H locs q2 hP hD hS => ?_)
  refine lv_pop hx hb dL_law_519 rfl ?_
  refine lv_goto (tgt := 1251) hx hb dL_law_520 (by decide) ?_
  refine W.widen (k := cells + 1) (n := slots + 6) (by omega) (by omega) ?_
  exact K _ _ _ _ _ hl k2 hP hD hS
set_option maxHeartbeats 4000000 in
set_option maxRecDepth 16384 in
theorem lc_go {p : Program} {l : Launch} {e : Env} {s : State} {m : MethodId} {below : List Frame} {meth : Method} {c : Code} {g : va_G} {aC : Nat → ClassId} {aM ad : Nat → Nat} {A : Nat → Prop} {b L k : Nat} {xs : Nat → Int32} {i : Int32} {Q : State → Prop} {cells slots : Nat} {oa : Nat} {fo : Nat → Int64} {h : Ph} {H : Heap} {locs : List Loc} (F : Fx p s m #[Value.ref b] c code 7 RL g aC aM A) (had : pm_ad aM ad) (hX : va_X b L xs s s.heap) (hbl : b < s.heap.size) (hbA : ¬ A b) (hi : i.toInt = (k : Int)) (hk7 : k + 7 ≤ L) (hL : L ≤ 3584) (hcs : cells + 2 ≤ 601024 ∧ slots + 12 ≤ 7293034) (hk : kJ h) (hP : va_P g vwCl (wO aC ad oa fo h) H) (hD : va_D A (wO aC ad oa fo h)) (hS : va_S A s.heap H locs) (ls : Array Slot) (hl : lv_has ls 7 [(4, .int i), (3, .ref oa), (2, .ref (ad 172)), (1, .ref (ad 0)), (0, .ref b)]) (K : ∀ (h' : Ph) (fo' : Nat → Int64) (H1 : Heap) (locs1 : List Loc) (ls' : Array Slot), lv_has ls' 7 [(4, .int i), (3, .ref oa), (2, .ref (ad 172)), (1, .ref (ad 0)), (0, .ref b)] → kJ h' → va_P g vwCl (wO aC ad oa fo' h') H1 → va_D A (wO aC ad oa fo' h') → va_S A s.heap H1 locs1 → W p l e room_1 s m #[Value.ref b] below meth c H1 locs1 (cells + 1) (slots + 6) Q (F0 m 1251 ls' [])) : W p l e room_1 s m #[Value.ref b] below meth c H locs cells slots Q (F0 m 573 ls []) := by
  obtain ⟨hx, hb, hml, hown, hts, hK, hA, hM, hM2⟩ := id F
  refine lv_aload_n hx hb dL_law_573 rfl (lv_at hl 3 rfl) ?_
  refine lv_aload_n hx hb dL_law_574 rfl (lv_at hl 4 rfl) ?_
  refine lv_iload hx hb dL_law_575 (lv_at hl 0 rfl) ?_
  refine lv_iconst (v := 1) hx hb dL_law_577 (by decide) ?_
  refine lv_iadd hx hb dL_law_578 ?_
  refine va_sld hx hb hX hbl hbA hS (law_in 1 hi hk7 hL (by decide) (by decide)) dL_law_579 ?_
  refine lv_topi (fun y1 hy1 => ?_)
  refine lv_aload_n hx hb dL_law_580 rfl (lv_at hl 4 rfl) ?_
  refine lv_iload hx hb dL_law_581 (lv_at hl 0 rfl) ?_
  refine lv_iconst (v := 2) hx hb dL_law_583 (by decide) ?_
  refine lv_iadd hx hb dL_law_584 ?_
  refine va_sld hx hb hX hbl hbA hS (law_in 2 hi hk7 hL (by decide) (by decide)) dL_law_585 ?_
  refine lv_topi (fun y2 hy2 => ?_)
  obtain ⟨v1, v2, h1, h2, e1, i1, e2, k2, eqv⟩ := pr_go y1 y2 hk
  refine law_call 2 (me' := mtX10[19]) (As := [.int y1, .int y2]) (rest := []) F had ⟨by omega, by omega⟩ hP hD hS hl.1 rfl e1 (by decide) rfl (by decide) (obj_x hk.1) rfl rfl rfl mL_69 (by decide +kernel) rfl (Nat.le_of_ble_eq_true rfl) dL_law_586 rfl rfl (fun r1 H locs q1 hP hD hS => ?_)
  refine lv_pop hx hb dL_law_589 rfl ?_
  refine lv_aload_n hx hb dL_law_590 rfl (lv_at hl 2 rfl) ?_
  refine lv_aload_n hx hb dL_law_591 rfl (lv_at hl 4 rfl) ?_
  refine lv_iload hx hb dL_law_592 (lv_at hl 0 rfl) ?_
  refine lv_iconst (v := 1) hx hb dL_law_594 (by decide) ?_
  refine lv_iadd hx hb dL_law_595 ?_
  refine va_sld hx hb hX hbl hbA hS (law_in 1 hi hk7 hL (by decide) (by decide)) dL_law_596 ?_
  refine lv_topi (fun y3 hy3 => ?_)
  refine lv_aload_n hx hb dL_law_597 rfl (lv_at hl 4 rfl) ?_
  refine lv_iload hx hb dL_law_598 (lv_at hl 0 rfl) ?_
  refine lv_iconst (v := 2) hx hb dL_law_600 (by decide) ?_
  refine lv_iadd hx hb dL_law_601 ?_
  refine va_sld hx hb hX hbl hbA hS (law_in 2 hi hk7 hL (by decide) (by decide)) dL_law_602 ?_
  refine lv_topi (fun y4 hy4 => ?_)
  obtain rfl : y3 = y1 := (hy3.trans hy1.symm)
  obtain rfl : y4 = y2 := (hy4.trans hy2.symm)
  refine law_call 2 (me' := mtX11[33]) (As := [.int y3, .int y4]) (rest := []) F had ⟨by omega, by omega⟩ hP hD hS hl.1 rfl e2 (by decide) rfl (by decide) (obj_m i1) rfl rfl rfl mL_73 (by decide +kernel) rfl (Nat.le_of_ble_eq_true rfl) dL_law_603 rfl rfl (fun r2 H locs q2 hP hD hS => ?_)
  refine lv_pop hx hb dL_law_606 rfl ?_
  refine lv_goto (tgt := 1251) hx hb dL_law_607 (by decide) ?_
  refine W.widen (k := cells + 1) (n := slots + 6) (by omega) (by omega) ?_
  exact K _ _ _ _ _ hl k2 hP hD hS
set_option maxHeartbeats 4000000 in
set_option maxRecDepth 16384 in
theorem lc_undo {p : Program} {l : Launch} {e : Env} {s : State} {m : MethodId} {below : List Frame} {meth : Method} {c : Code} {g : va_G} {aC : Nat → ClassId} {aM ad : Nat → Nat} {A : Nat → Prop} {b L k : Nat} {xs : Nat → Int32} {i : Int32} {Q : State → Prop} {cells slots : Nat} {oa : Nat} {fo : Nat → Int64} {h : Ph} {H : Heap} {locs : List Loc} (F : Fx p s m #[Value.ref b] c code 7 RL g aC aM A) (had : pm_ad aM ad) (hX : va_X b L xs s s.heap) (hbl : b < s.heap.size) (hbA : ¬ A b) (hi : i.toInt = (k : Int)) (hk7 : k + 7 ≤ L) (hL : L ≤ 3584) (hcs : cells + 2 ≤ 601024 ∧ slots + 12 ≤ 7293034) (hk : kJ h) (hP : va_P g vwCl (wO aC ad oa fo h) H) (hD : va_D A (wO aC ad oa fo h)) (hS : va_S A s.heap H locs) (ls : Array Slot) (hl : lv_has ls 7 [(4, .int i), (3, .ref oa), (2, .ref (ad 172)), (1, .ref (ad 0)), (0, .ref b)]) (K : ∀ (h' : Ph) (fo' : Nat → Int64) (H1 : Heap) (locs1 : List Loc) (ls' : Array Slot), lv_has ls' 7 [(4, .int i), (3, .ref oa), (2, .ref (ad 172)), (1, .ref (ad 0)), (0, .ref b)] → kJ h' → va_P g vwCl (wO aC ad oa fo' h') H1 → va_D A (wO aC ad oa fo' h') → va_S A s.heap H1 locs1 → W p l e room_1 s m #[Value.ref b] below meth c H1 locs1 (cells + 1) (slots + 6) Q (F0 m 1251 ls' [])) : W p l e room_1 s m #[Value.ref b] below meth c H locs cells slots Q (F0 m 672 ls []) := by
  obtain ⟨hx, hb, hml, hown, hts, hK, hA, hM, hM2⟩ := id F
  refine lv_aload_n hx hb dL_law_672 rfl (lv_at hl 3 rfl) ?_
  obtain ⟨v1, v2, h1, h2, e1, i1, e2, k2, eqv⟩ := pr_undo  hk
  refine law_call 0 (me' := mtX10[39]) (As := []) (rest := []) F had ⟨by omega, by omega⟩ hP hD hS hl.1 rfl e1 (by decide) rfl (by decide) (obj_x hk.1) rfl rfl rfl mL_83 (by decide +kernel) rfl (Nat.le_of_ble_eq_true rfl) dL_law_673 rfl rfl (fun r1 H locs q1 hP hD hS => ?_)
  refine lv_pop hx hb dL_law_676 rfl ?_
  refine lv_aload_n hx hb dL_law_677 rfl (lv_at hl 2 rfl) ?_
  refine law_call 0 (me' := mtX11[114]) (As := []) (rest := []) F had ⟨by omega, by omega⟩ hP hD hS hl.1 rfl e2 (by decide) rfl (by decide) (obj_m i1) rfl rfl rfl mL_87 (by decide +kernel) rfl (Nat.le_of_ble_eq_true rfl) dL_law_678 rfl rfl (fun r2 H locs q2 hP hD hS => ?_)
  refine lv_pop hx hb dL_law_681 rfl ?_
  refine lv_goto (tgt := 1251) hx hb dL_law_682 (by decide) ?_
  refine W.widen (k := cells + 1) (n := slots + 6) (by omega) (by omega) ?_
  exact K _ _ _ _ _ hl k2 hP hD hS
set_option maxHeartbeats 4000000 in
set_option maxRecDepth 16384 in
theorem lc_plan {p : Program} {l : Launch} {e : Env} {s : State} {m : MethodId} {below : List Frame} {meth : Method} {c : Code} {g : va_G} {aC : Nat → ClassId} {aM ad : Nat → Nat} {A : Nat → Prop} {b L k : Nat} {xs : Nat → Int32} {i : Int32} {Q : State → Prop} {cells slots : Nat} {oa : Nat} {fo : Nat → Int64} {h : Ph} {H : Heap} {locs : List Loc} (F : Fx p s m #[Value.ref b] c code 7 RL g aC aM A) (had : pm_ad aM ad) (hX : va_X b L xs s s.heap) (hbl : b < s.heap.size) (hbA : ¬ A b) (hi : i.toInt = (k : Int)) (hk7 : k + 7 ≤ L) (hL : L ≤ 3584) (hcs : cells + 2 ≤ 601024 ∧ slots + 12 ≤ 7293034) (hk : kJ h) (hP : va_P g vwCl (wO aC ad oa fo h) H) (hD : va_D A (wO aC ad oa fo h)) (hS : va_S A s.heap H locs) (ls : Array Slot) (hl : lv_has ls 7 [(4, .int i), (3, .ref oa), (2, .ref (ad 172)), (1, .ref (ad 0)), (0, .ref b)]) (K : ∀ (h' : Ph) (fo' : Nat → Int64) (H1 : Heap) (locs1 : List Loc) (ls' : Array Slot), lv_has ls' 7 [(4, .int i), (3, .ref oa), (2, .ref (ad 172)), (1, .ref (ad 0)), (0, .ref b)] → kJ h' → va_P g vwCl (wO aC ad oa fo' h') H1 → va_D A (wO aC ad oa fo' h') → va_S A s.heap H1 locs1 → W p l e room_1 s m #[Value.ref b] below meth c H1 locs1 (cells + 1) (slots + 6) Q (F0 m 1251 ls' [])) : W p l e room_1 s m #[Value.ref b] below meth c H locs cells slots Q (F0 m 735 ls []) := by
  obtain ⟨hx, hb, hml, hown, hts, hK, hA, hM, hM2⟩ := id F
  refine lv_aload_n hx hb dL_law_735 rfl (lv_at hl 3 rfl) ?_
  refine lv_aload_n hx hb dL_law_736 rfl (lv_at hl 4 rfl) ?_
  refine lv_iload hx hb dL_law_737 (lv_at hl 0 rfl) ?_
  refine lv_iconst (v := 1) hx hb dL_law_739 (by decide) ?_
  refine lv_iadd hx hb dL_law_740 ?_
  refine va_sld hx hb hX hbl hbA hS (law_in 1 hi hk7 hL (by decide) (by decide)) dL_law_741 ?_
  refine lv_topi (fun y1 hy1 => ?_)
  obtain ⟨v1, v2, h1, h2, e1, i1, e2, k2, eqv⟩ := pr_plan y1 hk
  refine law_call 1 (me' := mtX10[28]) (As := [.int y1]) (rest := []) F had ⟨by omega, by omega⟩ hP hD hS hl.1 rfl e1 (by decide) rfl (by decide) (obj_x hk.1) rfl rfl rfl mL_96 (by decide +kernel) rfl (Nat.le_of_ble_eq_true rfl) dL_law_742 rfl rfl (fun r1 H locs q1 hP hD hS => ?_)
  refine lv_pop hx hb dL_law_745 rfl ?_
  refine lv_aload_n hx hb dL_law_746 rfl (lv_at hl 2 rfl) ?_
  refine lv_aload_n hx hb dL_law_747 rfl (lv_at hl 4 rfl) ?_
  refine lv_iload hx hb dL_law_748 (lv_at hl 0 rfl) ?_
  refine lv_iconst (v := 1) hx hb dL_law_750 (by decide) ?_
  refine lv_iadd hx hb dL_law_751 ?_
  refine va_sld hx hb hX hbl hbA hS (law_in 1 hi hk7 hL (by decide) (by decide)) dL_law_752 ?_
  refine lv_topi (fun y2 hy2 => ?_)
  obtain rfl : y2 = y1 := (hy2.trans hy1.symm)
  refine law_call 1 (me' := mtX11[82]) (As := [.int y2]) (rest := []) F had ⟨by omega, by omega⟩ hP hD hS hl.1 rfl e2 (by decide) rfl (by decide) (obj_m i1) rfl rfl rfl mL_99 (by decide +kernel) rfl (Nat.le_of_ble_eq_true rfl) dL_law_753 rfl rfl (fun r2 H locs q2 hP hD hS => ?_)
  refine lv_pop hx hb dL_law_756 rfl ?_
  refine lv_goto (tgt := 1251) hx hb dL_law_757 (by decide) ?_
  refine W.widen (k := cells + 1) (n := slots + 6) (by omega) (by omega) ?_
  exact K _ _ _ _ _ hl k2 hP hD hS
set_option maxHeartbeats 4000000 in
set_option maxRecDepth 16384 in
theorem lc_fits {p : Program} {l : Launch} {e : Env} {s : State} {m : MethodId} {below : List Frame} {meth : Method} {c : Code} {g : va_G} {aC : Nat → ClassId} {aM ad : Nat → Nat} {A : Nat → Prop} {b L k : Nat} {xs : Nat → Int32} {i : Int32} {Q : State → Prop} {cells slots : Nat} {oa : Nat} {fo : Nat → Int64} {h : Ph} {H : Heap} {locs : List Loc} (F : Fx p s m #[Value.ref b] c code 7 RL g aC aM A) (had : pm_ad aM ad) (hX : va_X b L xs s s.heap) (hbl : b < s.heap.size) (hbA : ¬ A b) (hi : i.toInt = (k : Int)) (hk7 : k + 7 ≤ L) (hL : L ≤ 3584) (hcs : cells + 2 ≤ 601024 ∧ slots + 12 ≤ 7293034) (hk : kJ h) (hP : va_P g vwCl (wO aC ad oa fo h) H) (hD : va_D A (wO aC ad oa fo h)) (hS : va_S A s.heap H locs) (ls : Array Slot) (hl : lv_has ls 7 [(4, .int i), (3, .ref oa), (2, .ref (ad 172)), (1, .ref (ad 0)), (0, .ref b)]) (K : ∀ (h' : Ph) (fo' : Nat → Int64) (H1 : Heap) (locs1 : List Loc) (ls' : Array Slot), lv_has ls' 7 [(4, .int i), (3, .ref oa), (2, .ref (ad 172)), (1, .ref (ad 0)), (0, .ref b)] → kJ h' → va_P g vwCl (wO aC ad oa fo' h') H1 → va_D A (wO aC ad oa fo' h') → va_S A s.heap H1 locs1 → W p l e room_1 s m #[Value.ref b] below meth c H1 locs1 (cells + 1) (slots + 6) Q (F0 m 1251 ls' [])) : W p l e room_1 s m #[Value.ref b] below meth c H locs cells slots Q (F0 m 874 ls []) := by
  obtain ⟨hx, hb, hml, hown, hts, hK, hA, hM, hM2⟩ := id F
  refine lv_aload_n hx hb dL_law_874 rfl (lv_at hl 3 rfl) ?_
  refine lv_aload_n hx hb dL_law_875 rfl (lv_at hl 4 rfl) ?_
  refine lv_iload hx hb dL_law_876 (lv_at hl 0 rfl) ?_
  refine lv_iconst (v := 1) hx hb dL_law_878 (by decide) ?_
  refine lv_iadd hx hb dL_law_879 ?_
  refine va_sld hx hb hX hbl hbA hS (law_in 1 hi hk7 hL (by decide) (by decide)) dL_law_880 ?_
  refine lv_topi (fun y1 hy1 => ?_)
  obtain ⟨v1, v2, h1, h2, e1, i1, e2, k2⟩ := pr_fits y1 hk
  refine law_call 1 (me' := mtX10[16]) (As := [.int y1]) (rest := []) F had ⟨by omega, by omega⟩ hP hD hS hl.1 rfl e1 (by decide) rfl (by decide) (obj_x hk.1) rfl rfl rfl mL_110 (by decide +kernel) rfl (Nat.le_of_ble_eq_true rfl) dL_law_881 rfl rfl (fun r1 H locs q1 hP hD hS => ?_)
  refine lv_pop hx hb dL_law_884 rfl ?_
  refine lv_aload_n hx hb dL_law_885 rfl (lv_at hl 2 rfl) ?_
  refine lv_aload_n hx hb dL_law_886 rfl (lv_at hl 4 rfl) ?_
  refine lv_iload hx hb dL_law_887 (lv_at hl 0 rfl) ?_
  refine lv_iconst (v := 1) hx hb dL_law_889 (by decide) ?_
  refine lv_iadd hx hb dL_law_890 ?_
  refine va_sld hx hb hX hbl hbA hS (law_in 1 hi hk7 hL (by decide) (by decide)) dL_law_891 ?_
  refine lv_topi (fun y2 hy2 => ?_)
  obtain rfl : y2 = y1 := (hy2.trans hy1.symm)
  refine law_call 1 (me' := mtX11[28]) (As := [.int y2]) (rest := []) F had ⟨by omega, by omega⟩ hP hD hS hl.1 rfl e2 (by decide) rfl (by decide) (obj_m i1) rfl rfl rfl mL_113 (by decide +kernel) rfl (Nat.le_of_ble_eq_true rfl) dL_law_892 rfl rfl (fun r2 H locs q2 hP hD hS => ?_)
  refine lv_pop hx hb dL_law_895 rfl ?_
  refine lv_goto (tgt := 1251) hx hb dL_law_896 (by decide) ?_
  refine W.widen (k := cells + 1) (n := slots + 6) (by omega) (by omega) ?_
  exact K _ _ _ _ _ hl k2 hP hD hS
set_option maxHeartbeats 4000000 in
set_option maxRecDepth 16384 in
theorem lc_watch {p : Program} {l : Launch} {e : Env} {s : State} {m : MethodId} {below : List Frame} {meth : Method} {c : Code} {g : va_G} {aC : Nat → ClassId} {aM ad : Nat → Nat} {A : Nat → Prop} {b L k : Nat} {xs : Nat → Int32} {i : Int32} {Q : State → Prop} {cells slots : Nat} {oa : Nat} {fo : Nat → Int64} {h : Ph} {H : Heap} {locs : List Loc} (F : Fx p s m #[Value.ref b] c code 7 RL g aC aM A) (had : pm_ad aM ad) (hX : va_X b L xs s s.heap) (hbl : b < s.heap.size) (hbA : ¬ A b) (hi : i.toInt = (k : Int)) (hk7 : k + 7 ≤ L) (hL : L ≤ 3584) (hcs : cells + 2 ≤ 601024 ∧ slots + 12 ≤ 7293034) (hk : kJ h) (hP : va_P g vwCl (wO aC ad oa fo h) H) (hD : va_D A (wO aC ad oa fo h)) (hS : va_S A s.heap H locs) (ls : Array Slot) (hl : lv_has ls 7 [(4, .int i), (3, .ref oa), (2, .ref (ad 172)), (1, .ref (ad 0)), (0, .ref b)]) (K : ∀ (h' : Ph) (fo' : Nat → Int64) (H1 : Heap) (locs1 : List Loc) (ls' : Array Slot), lv_has ls' 7 [(4, .int i), (3, .ref oa), (2, .ref (ad 172)), (1, .ref (ad 0)), (0, .ref b)] → kJ h' → va_P g vwCl (wO aC ad oa fo' h') H1 → va_D A (wO aC ad oa fo' h') → va_S A s.heap H1 locs1 → W p l e room_1 s m #[Value.ref b] below meth c H1 locs1 (cells + 1) (slots + 6) Q (F0 m 1251 ls' [])) : W p l e room_1 s m #[Value.ref b] below meth c H locs cells slots Q (F0 m 961 ls []) := by
  obtain ⟨hx, hb, hml, hown, hts, hK, hA, hM, hM2⟩ := id F
  refine lv_aload_n hx hb dL_law_961 rfl (lv_at hl 3 rfl) ?_
  obtain ⟨v1, v2, h1, h2, e1, i1, e2, k2, eqv⟩ := pr_watch  hk
  refine law_call 0 (me' := mtX10[40]) (As := []) (rest := []) F had ⟨by omega, by omega⟩ hP hD hS hl.1 rfl e1 (by decide) rfl (by decide) (obj_x hk.1) rfl rfl rfl mL_122 (by decide +kernel) rfl (Nat.le_of_ble_eq_true rfl) dL_law_962 rfl rfl (fun r1 H locs q1 hP hD hS => ?_)
  refine lv_pop hx hb dL_law_965 rfl ?_
  refine lv_aload_n hx hb dL_law_966 rfl (lv_at hl 2 rfl) ?_
  refine law_call 0 (me' := mtX11[115]) (As := []) (rest := []) F had ⟨by omega, by omega⟩ hP hD hS hl.1 rfl e2 (by decide) rfl (by decide) (obj_m i1) rfl rfl rfl mL_125 (by decide +kernel) rfl (Nat.le_of_ble_eq_true rfl) dL_law_967 rfl rfl (fun r2 H locs q2 hP hD hS => ?_)
  refine lv_pop hx hb dL_law_970 rfl ?_
  refine lv_goto (tgt := 1251) hx hb dL_law_971 (by decide) ?_
  refine W.widen (k := cells + 1) (n := slots + 6) (by omega) (by omega) ?_
  exact K _ _ _ _ _ hl k2 hP hD hS
set_option maxHeartbeats 4000000 in
set_option maxRecDepth 16384 in
theorem lc_best {p : Program} {l : Launch} {e : Env} {s : State} {m : MethodId} {below : List Frame} {meth : Method} {c : Code} {g : va_G} {aC : Nat → ClassId} {aM ad : Nat → Nat} {A : Nat → Prop} {b L k : Nat} {xs : Nat → Int32} {i : Int32} {Q : State → Prop} {cells slots : Nat} {oa : Nat} {fo : Nat → Int64} {h : Ph} {H : Heap} {locs : List Loc} (F : Fx p s m #[Value.ref b] c code 7 RL g aC aM A) (had : pm_ad aM ad) (hX : va_X b L xs s s.heap) (hbl : b < s.heap.size) (hbA : ¬ A b) (hi : i.toInt = (k : Int)) (hk7 : k + 7 ≤ L) (hL : L ≤ 3584) (hcs : cells + 2 ≤ 601024 ∧ slots + 12 ≤ 7293034) (hk : kJ h) (hP : va_P g vwCl (wO aC ad oa fo h) H) (hD : va_D A (wO aC ad oa fo h)) (hS : va_S A s.heap H locs) (ls : Array Slot) (hl : lv_has ls 7 [(4, .int i), (3, .ref oa), (2, .ref (ad 172)), (1, .ref (ad 0)), (0, .ref b)]) (K : ∀ (h' : Ph) (fo' : Nat → Int64) (H1 : Heap) (locs1 : List Loc) (ls' : Array Slot), lv_has ls' 7 [(4, .int i), (3, .ref oa), (2, .ref (ad 172)), (1, .ref (ad 0)), (0, .ref b)] → kJ h' → va_P g vwCl (wO aC ad oa fo' h') H1 → va_D A (wO aC ad oa fo' h') → va_S A s.heap H1 locs1 → W p l e room_1 s m #[Value.ref b] below meth c H1 locs1 (cells + 1) (slots + 6) Q (F0 m 1251 ls' [])) : W p l e room_1 s m #[Value.ref b] below meth c H locs cells slots Q (F0 m 1087 ls []) := by
  obtain ⟨hx, hb, hml, hown, hts, hK, hA, hM, hM2⟩ := id F
  refine lv_aload_n hx hb dL_law_1087 rfl (lv_at hl 3 rfl) ?_
  refine lv_aload_n hx hb dL_law_1088 rfl (lv_at hl 4 rfl) ?_
  refine lv_iload hx hb dL_law_1089 (lv_at hl 0 rfl) ?_
  refine lv_iconst (v := 1) hx hb dL_law_1091 (by decide) ?_
  refine lv_iadd hx hb dL_law_1092 ?_
  refine va_sld hx hb hX hbl hbA hS (law_in 1 hi hk7 hL (by decide) (by decide)) dL_law_1093 ?_
  refine lv_topi (fun y1 hy1 => ?_)
  refine lv_aload_n hx hb dL_law_1094 rfl (lv_at hl 4 rfl) ?_
  refine lv_iload hx hb dL_law_1095 (lv_at hl 0 rfl) ?_
  refine lv_iconst (v := 2) hx hb dL_law_1097 (by decide) ?_
  refine lv_iadd hx hb dL_law_1098 ?_
  refine va_sld hx hb hX hbl hbA hS (law_in 2 hi hk7 hL (by decide) (by decide)) dL_law_1099 ?_
  refine lv_topi (fun y2 hy2 => ?_)
  obtain ⟨v1, v2, h1, h2, e1, i1, e2, k2, eqv⟩ := pr_best y1 y2 hk
  refine law_call 2 (me' := mtX10[3]) (As := [.int y1, .int y2]) (rest := []) F had ⟨by omega, by omega⟩ hP hD hS hl.1 rfl e1 (by decide) rfl (by decide) (obj_x hk.1) rfl rfl rfl mL_136 (by decide +kernel) rfl (Nat.le_of_ble_eq_true rfl) dL_law_1100 rfl rfl (fun r1 H locs q1 hP hD hS => ?_)
  refine lv_pop hx hb dL_law_1103 rfl ?_
  refine lv_aload_n hx hb dL_law_1104 rfl (lv_at hl 2 rfl) ?_
  refine lv_aload_n hx hb dL_law_1105 rfl (lv_at hl 4 rfl) ?_
  refine lv_iload hx hb dL_law_1106 (lv_at hl 0 rfl) ?_
  refine lv_iconst (v := 1) hx hb dL_law_1108 (by decide) ?_
  refine lv_iadd hx hb dL_law_1109 ?_
  refine va_sld hx hb hX hbl hbA hS (law_in 1 hi hk7 hL (by decide) (by decide)) dL_law_1110 ?_
  refine lv_topi (fun y3 hy3 => ?_)
  refine lv_aload_n hx hb dL_law_1111 rfl (lv_at hl 4 rfl) ?_
  refine lv_iload hx hb dL_law_1112 (lv_at hl 0 rfl) ?_
  refine lv_iconst (v := 2) hx hb dL_law_1114 (by decide) ?_
  refine lv_iadd hx hb dL_law_1115 ?_
  refine va_sld hx hb hX hbl hbA hS (law_in 2 hi hk7 hL (by decide) (by decide)) dL_law_1116 ?_
  refine lv_topi (fun y4 hy4 => ?_)
  obtain rfl : y3 = y1 := (hy3.trans hy1.symm)
  obtain rfl : y4 = y2 := (hy4.trans hy2.symm)
  refine law_call 2 (me' := mtX11[4]) (As := [.int y3, .int y4]) (rest := []) F had ⟨by omega, by omega⟩ hP hD hS hl.1 rfl e2 (by decide) rfl (by decide) (obj_m i1) rfl rfl rfl mL_139 (by decide +kernel) rfl (Nat.le_of_ble_eq_true rfl) dL_law_1117 rfl rfl (fun r2 H locs q2 hP hD hS => ?_)
  refine lv_pop hx hb dL_law_1120 rfl ?_
  refine lv_goto (tgt := 1251) hx hb dL_law_1121 (by decide) ?_
  refine W.widen (k := cells + 1) (n := slots + 6) (by omega) (by omega) ?_
  exact K _ _ _ _ _ hl k2 hP hD hS
set_option maxHeartbeats 4000000 in
set_option maxRecDepth 16384 in
theorem lc_count {p : Program} {l : Launch} {e : Env} {s : State} {m : MethodId} {below : List Frame} {meth : Method} {c : Code} {g : va_G} {aC : Nat → ClassId} {aM ad : Nat → Nat} {A : Nat → Prop} {b L k : Nat} {xs : Nat → Int32} {i : Int32} {Q : State → Prop} {cells slots : Nat} {oa : Nat} {fo : Nat → Int64} {h : Ph} {H : Heap} {locs : List Loc} (F : Fx p s m #[Value.ref b] c code 7 RL g aC aM A) (had : pm_ad aM ad) (hX : va_X b L xs s s.heap) (hbl : b < s.heap.size) (hbA : ¬ A b) (hi : i.toInt = (k : Int)) (hk7 : k + 7 ≤ L) (hL : L ≤ 3584) (hcs : cells + 2 ≤ 601024 ∧ slots + 12 ≤ 7293034) (hk : kJ h) (hP : va_P g vwCl (wO aC ad oa fo h) H) (hD : va_D A (wO aC ad oa fo h)) (hS : va_S A s.heap H locs) (ls : Array Slot) (hl : lv_has ls 7 [(4, .int i), (3, .ref oa), (2, .ref (ad 172)), (1, .ref (ad 0)), (0, .ref b)]) (K : ∀ (h' : Ph) (fo' : Nat → Int64) (H1 : Heap) (locs1 : List Loc) (ls' : Array Slot), lv_has ls' 7 [(4, .int i), (3, .ref oa), (2, .ref (ad 172)), (1, .ref (ad 0)), (0, .ref b)] → kJ h' → va_P g vwCl (wO aC ad oa fo' h') H1 → va_D A (wO aC ad oa fo' h') → va_S A s.heap H1 locs1 → W p l e room_1 s m #[Value.ref b] below meth c H1 locs1 (cells + 1) (slots + 6) Q (F0 m 1251 ls' [])) : W p l e room_1 s m #[Value.ref b] below meth c H locs cells slots Q (F0 m 1226 ls []) := by
  obtain ⟨hx, hb, hml, hown, hts, hK, hA, hM, hM2⟩ := id F
  refine lv_aload_n hx hb dL_law_1226 rfl (lv_at hl 3 rfl) ?_
  refine lv_aload_n hx hb dL_law_1227 rfl (lv_at hl 4 rfl) ?_
  refine lv_iload hx hb dL_law_1228 (lv_at hl 0 rfl) ?_
  refine lv_iconst (v := 1) hx hb dL_law_1230 (by decide) ?_
  refine lv_iadd hx hb dL_law_1231 ?_
  refine va_sld hx hb hX hbl hbA hS (law_in 1 hi hk7 hL (by decide) (by decide)) dL_law_1232 ?_
  refine lv_topi (fun y1 hy1 => ?_)
  obtain ⟨v1, v2, h1, h2, e1, i1, e2, k2⟩ := pr_count y1 hk
  refine law_call 1 (me' := mtX10[7]) (As := [.int y1]) (rest := []) F had ⟨by omega, by omega⟩ hP hD hS hl.1 rfl e1 (by decide) rfl (by decide) (obj_x hk.1) rfl rfl rfl mL_149 (by decide +kernel) rfl (Nat.le_of_ble_eq_true rfl) dL_law_1233 rfl rfl (fun r1 H locs q1 hP hD hS => ?_)
  refine lv_pop hx hb dL_law_1236 rfl ?_
  refine lv_aload_n hx hb dL_law_1237 rfl (lv_at hl 2 rfl) ?_
  refine lv_aload_n hx hb dL_law_1238 rfl (lv_at hl 4 rfl) ?_
  refine lv_iload hx hb dL_law_1239 (lv_at hl 0 rfl) ?_
  refine lv_iconst (v := 1) hx hb dL_law_1241 (by decide) ?_
  refine lv_iadd hx hb dL_law_1242 ?_
  refine va_sld hx hb hX hbl hbA hS (law_in 1 hi hk7 hL (by decide) (by decide)) dL_law_1243 ?_
  refine lv_topi (fun y2 hy2 => ?_)
  obtain rfl : y2 = y1 := (hy2.trans hy1.symm)
  refine law_call 1 (me' := mtX11[20]) (As := [.int y2]) (rest := []) F had ⟨by omega, by omega⟩ hP hD hS hl.1 rfl e2 (by decide) rfl (by decide) (obj_m i1) rfl rfl rfl mL_152 (by decide +kernel) rfl (Nat.le_of_ble_eq_true rfl) dL_law_1244 rfl rfl (fun r2 H locs q2 hP hD hS => ?_)
  refine lv_pop hx hb dL_law_1247 rfl ?_
  refine lv_goto (tgt := 1251) hx hb dL_law_1248 (by decide) ?_
  refine W.widen (k := cells + 1) (n := slots + 6) (by omega) (by omega) ?_
  exact K _ _ _ _ _ hl k2 hP hD hS
