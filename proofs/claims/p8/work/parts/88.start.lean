/-! the law's loop, and its start -/
theorem dL_law_0 : decode code 0 = .ok (.new 8, 3) := by decide +kernel
theorem dL_law_3 : decode code 3 = .ok (.dup, 1) := by decide +kernel
theorem dL_law_4 : decode code 4 = .ok (.invokespecial 15, 3) := by decide +kernel
theorem dL_law_7 : decode code 7 = .ok (.astore_n 1, 1) := by decide +kernel
theorem dL_law_8 : decode code 8 = .ok (.new 16, 3) := by decide +kernel
theorem dL_law_11 : decode code 11 = .ok (.dup, 1) := by decide +kernel
theorem dL_law_12 : decode code 12 = .ok (.invokespecial 18, 3) := by decide +kernel
theorem dL_law_15 : decode code 15 = .ok (.astore_n 2, 1) := by decide +kernel
theorem dL_law_16 : decode code 16 = .ok (.iconst 1, 1) := by decide +kernel
theorem dL_law_17 : decode code 17 = .ok (.newarray .long, 2) := by decide +kernel
theorem dL_law_19 : decode code 19 = .ok (.astore_n 3, 1) := by decide +kernel
theorem dL_law_20 : decode code 20 = .ok (.iconst 0, 1) := by decide +kernel
theorem dL_law_21 : decode code 21 = .ok (.istore 4, 2) := by decide +kernel
theorem dL_law_23 : decode code 23 = .ok (.iload 4, 2) := by decide +kernel
theorem dL_law_25 : decode code 25 = .ok (.aload_n 0, 1) := by decide +kernel
theorem dL_law_26 : decode code 26 = .ok (.arraylength, 1) := by decide +kernel
theorem dL_law_27 : decode code 27 = .ok (.bipush 7, 2) := by decide +kernel
theorem dL_law_29 : decode code 29 = .ok (.isub, 1) := by decide +kernel
theorem dL_law_30 : decode code 30 = .ok (.if_icmp .gt 1227, 3) := by decide +kernel
theorem dL_law_33 : decode code 33 = .ok (.aload_n 0, 1) := by decide +kernel
theorem dL_law_34 : decode code 34 = .ok (.iload 4, 2) := by decide +kernel
theorem dL_law_36 : decode code 36 = .ok (.iaload, 1) := by decide +kernel
theorem dL_law_37 : decode code 37 = .ok (.bipush 31, 2) := by decide +kernel
theorem dL_law_39 : decode code 39 = .ok (.iand, 1) := by decide +kernel
theorem dL_law_40 : decode code 40 = .ok (.tableswitch 1211 0 29 #[136, 283, 296, 309, 346, 383, 408, 433, 470, 483, 508, 533, 570, 619, 632, 645, 670, 695, 720, 769, 834, 859, 884, 921, 934, 998, 1047, 1084, 1133, 1186], 136) := by decide +kernel
theorem dL_law_1251 : decode code 1251 = .ok (.iinc 4 7, 3) := by decide +kernel
theorem dL_law_1254 : decode code 1254 = .ok (.goto (-1231), 3) := by decide +kernel
theorem dL_law_1257 : decode code 1257 = .ok (.iconst 1, 1) := by decide +kernel
theorem dL_law_1258 : decode code 1258 = .ok (.ireturn, 1) := by decide +kernel
theorem sL1 : Cond.classLink RL 8 RX10 ∈ gw := List.mem_filter.mpr ⟨List.mem_append_right _ (by decide +kernel), by decide +kernel⟩
theorem sL3 : Cond.initialized RX10 ∈ gw := List.mem_filter.mpr ⟨List.mem_append_right _ (by decide +kernel), by decide +kernel⟩
theorem sL4 : Cond.code yX10_init cX10_init 2 none ∈ gw := List.mem_filter.mpr ⟨List.mem_append_right _ (by decide +kernel), by decide +kernel⟩
theorem sL5 : Cond.methodLink RL 15 yX10_init ∈ gw := List.mem_filter.mpr ⟨List.mem_append_right _ (by decide +kernel), by decide +kernel⟩
theorem sL6 : Cond.instanceMethod yX10_init ∈ gw := List.mem_filter.mpr ⟨List.mem_append_right _ (by decide +kernel), by decide +kernel⟩
theorem sM1 : Cond.classLink RL 16 RX11 ∈ gw := List.mem_filter.mpr ⟨List.mem_append_right _ (by decide +kernel), by decide +kernel⟩
theorem sM3 : Cond.initialized RX11 ∈ gw := List.mem_filter.mpr ⟨List.mem_append_right _ (by decide +kernel), by decide +kernel⟩
theorem sM4 : Cond.code yX11_init cX11_init 1 none ∈ gw := List.mem_filter.mpr ⟨List.mem_append_right _ (by decide +kernel), by decide +kernel⟩
theorem sM5 : Cond.methodLink RL 18 yX11_init ∈ gw := List.mem_filter.mpr ⟨List.mem_append_right _ (by decide +kernel), by decide +kernel⟩
theorem sM6 : Cond.instanceMethod yX11_init ∈ gw := List.mem_filter.mpr ⟨List.mem_append_right _ (by decide +kernel), by decide +kernel⟩
theorem sLA1 : Cond.arrayClass .long ∈ gw := List.mem_filter.mpr ⟨List.mem_append_right _ (by decide +kernel), by decide +kernel⟩
set_option maxHeartbeats 4000000 in
set_option maxRecDepth 16384 in
theorem law_loop {p : Program} {l : Launch} {e : Env} {s : State} {m : MethodId} {below : List Frame} {meth : Method} {c : Code} {g : va_G} {aC : Nat → ClassId} {aM ad : Nat → Nat} {A : Nat → Prop} {b L : Nat} {xs : Nat → Int32} {oa : Nat} (F : Fx p s m #[Value.ref b] c code 7 RL g aC aM A) (had : pm_ad aM ad) (hr : meth.sig.returnType = ret) (hlocks : meth.locks = false) (hX : va_X b L xs s s.heap) (hbl : b < s.heap.size) (hbA : ¬ A b) (hAs : ∀ q, A q → s.heap.size ≤ q) (hL : L ≤ 3584) (hst : l.stackTraces = false) (hAX : AmX A s s.heap) (hAB : AmB s) : ∀ (n k : Nat) (i : Int32) (cells slots : Nat) (fo : Nat → Int64) (h : Ph) (H : Heap) (locs : List Loc) (ls : Array Slot), L ≤ k + n → k ≤ 3584 → i.toInt = (k : Int) → cells ≤ 1000 + k → slots ≤ 60000 + 6 * k → kJ h → va_P g vwCl (wO aC ad oa fo h) H → va_D A (wO aC ad oa fo h) → va_S A s.heap H locs → lv_has ls 7 [(4, .int i), (3, .ref oa), (2, .ref (ad 172)), (1, .ref (ad 0)), (0, .ref b)] → W p l e room_1 s m #[Value.ref b] below meth c H locs cells slots (lw_Z below #[Value.ref b] s) (F0 m 23 ls []) := by
  obtain ⟨hx, hb, hml, hown, hts, hK, hA, hM, hM2⟩ := id F
  intro n
  induction n with
  | zero =>
    intro k i cells slots fo h H locs ls hn hk3 hi hc hs hk hP hD hS hl
    refine lv_iload hx hb dL_law_23 (lv_at hl 0 rfl) ?_
    refine lv_aload_n hx hb dL_law_25 rfl (lv_at hl 4 rfl) ?_
    refine va_slen hx hb hX hbl hbA hS dL_law_26 ?_
    refine lv_bipush (v := 7) hx hb dL_law_27 (by decide) ?_
    refine lv_isub hx hb dL_law_29 ?_
    refine lv_icmp_gt (tgt := 1257) hx hb dL_law_30 (by decide) (fun _ => ?_) (fun z => absurd ((law_cmp hi hL).mpr (by omega)) z)
    refine lv_iconst (v := 1) hx hb dL_law_1257 (by decide) ?_
    refine va_forget (fun q hq => hAs _ (hS.2.2 q hq)) ?_
    refine W.widen (k := 601024) (n := 7293034) (by omega) (by omega) ?_
    exact lw_ret hx hb hr hlocks dL_law_1258
  | succ n ih =>
    intro k i cells slots fo h H locs ls hn hk3 hi hc hs hk hP hD hS hl
    refine lv_iload hx hb dL_law_23 (lv_at hl 0 rfl) ?_
    refine lv_aload_n hx hb dL_law_25 rfl (lv_at hl 4 rfl) ?_
    refine va_slen hx hb hX hbl hbA hS dL_law_26 ?_
    refine lv_bipush (v := 7) hx hb dL_law_27 (by decide) ?_
    refine lv_isub hx hb dL_law_29 ?_
    refine lv_icmp_gt (tgt := 1257) hx hb dL_law_30 (by decide) (fun _ => ?_) (fun z => ?_)
    · refine lv_iconst (v := 1) hx hb dL_law_1257 (by decide) ?_
      refine va_forget (fun q hq => hAs _ (hS.2.2 q hq)) ?_
      refine W.widen (k := 601024) (n := 7293034) (by omega) (by omega) ?_
      exact lw_ret hx hb hr hlocks dL_law_1258
    have hk7 : k + 7 ≤ L := by
      have := mt (law_cmp hi hL).mpr z
      omega
    have hcs : cells + 2 ≤ 601024 ∧ slots + 12 ≤ 7293034 := ⟨by omega, by omega⟩
    have K : ∀ (h' : Ph) (fo' : Nat → Int64) (H1 : Heap) (locs1 : List Loc) (ls' : Array Slot), lv_has ls' 7 [(4, .int i), (3, .ref oa), (2, .ref (ad 172)), (1, .ref (ad 0)), (0, .ref b)] → kJ h' → va_P g vwCl (wO aC ad oa fo' h') H1 → va_D A (wO aC ad oa fo' h') → va_S A s.heap H1 locs1 → W p l e room_1 s m #[Value.ref b] below meth c H1 locs1 (cells + 1) (slots + 6) (lw_Z below #[Value.ref b] s) (F0 m 1251 ls' []) := by
      intro h' fo' H1 locs1 ls' hl' hk' hP' hD' hS'
      refine lv_iinc (v := i + Int32.ofInt 7) (lv' := [(4, .int (i + Int32.ofInt 7)), (3, .ref oa), (2, .ref (ad 172)), (1, .ref (ad 0)), (0, .ref b)]) hx hb dL_law_1251 hl' (k := 0) rfl rfl (by decide) rfl (fun ls2 hl2 => ?_)
      refine lv_goto (tgt := 23) hx hb dL_law_1254 (by decide) ?_
      exact ih (k + 7) (i + Int32.ofInt 7) (cells + 1) (slots + 6) fo' h' H1 locs1 ls2 (by omega) (by omega) (law_add hi (c := Int32.ofInt 7) (j := 7) (by decide) hk3 (by decide)) (by omega) (by omega) hk' hP' hD' hS' hl2
    refine lv_aload_n hx hb dL_law_33 rfl (lv_at hl 4 rfl) ?_
    refine lv_iload hx hb dL_law_34 (lv_at hl 0 rfl) ?_
    refine va_sld hx hb hX hbl hbA hS (law_in0 hi hk7) dL_law_36 ?_
    refine lv_bipush (v := 31) hx hb dL_law_37 (by decide) ?_
    refine lv_iand hx hb dL_law_39 ?_
    obtain ⟨j, hj, ej⟩ := pk_andE (xs (i.toNatClampNeg)) (m := 31) 5 (by decide)
    refine relit ej ?_
    rcases (show j = 0 ∨ j = 1 ∨ j = 2 ∨ j = 3 ∨ j = 4 ∨ j = 5 ∨ j = 6 ∨ j = 7 ∨ j = 8 ∨ j = 9 ∨ j = 10 ∨ j = 11 ∨ j = 12 ∨ j = 13 ∨ j = 14 ∨ j = 15 ∨ j = 16 ∨ j = 17 ∨ j = 18 ∨ j = 19 ∨ j = 20 ∨ j = 21 ∨ j = 22 ∨ j = 23 ∨ j = 24 ∨ j = 25 ∨ j = 26 ∨ j = 27 ∨ j = 28 ∨ j = 29 ∨ j = 30 ∨ j = 31 by omega) with rfl | rfl | rfl | rfl | rfl | rfl | rfl | rfl | rfl | rfl | rfl | rfl | rfl | rfl | rfl | rfl | rfl | rfl | rfl | rfl | rfl | rfl | rfl | rfl | rfl | rfl | rfl | rfl | rfl | rfl | rfl | rfl
    · refine lv_tableIn (off := 136) (tgt := 176) hx hb dL_law_40 (by decide +kernel) (by decide +kernel) (by decide +kernel) (by decide) ?_
      exact lc_feed F had hX hbl hbA hi hk7 hL hcs hk hP hD hS ls hl K
    · refine lv_tableIn (off := 283) (tgt := 323) hx hb dL_law_40 (by decide +kernel) (by decide +kernel) (by decide +kernel) (by decide) ?_
      exact lc_town F had hX hbl hbA hi hk7 hL hcs hk hP hD hS ls hl K
    · refine lv_tableIn (off := 296) (tgt := 336) hx hb dL_law_40 (by decide +kernel) (by decide +kernel) (by decide +kernel) (by decide) ?_
      exact lc_nights F had hX hbl hbA hi hk7 hL hcs hk hP hD hS ls hl K
    · refine lv_tableIn (off := 309) (tgt := 349) hx hb dL_law_40 (by decide +kernel) (by decide +kernel) (by decide +kernel) (by decide) ?_
      exact lc_flight F had hX hbl hbA hi hk7 hL hcs hk hP hD hS ls hl K
    · refine lv_tableIn (off := 346) (tgt := 386) hx hb dL_law_40 (by decide +kernel) (by decide +kernel) (by decide +kernel) (by decide) ?_
      exact lc_person F had hX hbl hbA hi hk7 hL hcs hk hP hD hS ls hl K
    · refine lv_tableIn (off := 383) (tgt := 423) hx hb dL_law_40 (by decide +kernel) (by decide +kernel) (by decide +kernel) (by decide) ?_
      exact lc_thing F had hX hbl hbA hi hk7 hL hcs hk hP hD hS ls hl K
    · refine lv_tableIn (off := 408) (tgt := 448) hx hb dL_law_40 (by decide +kernel) (by decide +kernel) (by decide +kernel) (by decide) ?_
      exact lc_reach F had hX hbl hbA hi hk7 hL hcs hk hP hD hS ls hl K
    · refine lv_tableIn (off := 433) (tgt := 473) hx hb dL_law_40 (by decide +kernel) (by decide +kernel) (by decide +kernel) (by decide) ?_
      exact lc_cost F had hX hbl hbA hi hk7 hL hcs hk hP hD hS ls hl K
    · refine lv_tableIn (off := 470) (tgt := 510) hx hb dL_law_40 (by decide +kernel) (by decide +kernel) (by decide +kernel) (by decide) ?_
      exact lc_cut F had hX hbl hbA hi hk7 hL hcs hk hP hD hS ls hl K
    · refine lv_tableIn (off := 483) (tgt := 523) hx hb dL_law_40 (by decide +kernel) (by decide +kernel) (by decide +kernel) (by decide) ?_
      exact lc_steal F had hX hbl hbA hi hk7 hL hcs hk hP hD hS ls hl K
    · refine lv_tableIn (off := 508) (tgt := 548) hx hb dL_law_40 (by decide +kernel) (by decide +kernel) (by decide +kernel) (by decide) ?_
      exact lc_build F had hX hbl hbA hi hk7 hL hcs hk hP hD hS ls hl K
    · refine lv_tableIn (off := 533) (tgt := 573) hx hb dL_law_40 (by decide +kernel) (by decide +kernel) (by decide +kernel) (by decide) ?_
      exact lc_go F had hX hbl hbA hi hk7 hL hcs hk hP hD hS ls hl K
    · refine lv_tableIn (off := 570) (tgt := 610) hx hb dL_law_40 (by decide +kernel) (by decide +kernel) (by decide +kernel) (by decide) ?_
      exact lc_carry F had hX hbl hbA hi hk7 hL hcs hk hP hD hS ls hl K
    · refine lv_tableIn (off := 619) (tgt := 659) hx hb dL_law_40 (by decide +kernel) (by decide +kernel) (by decide +kernel) (by decide) ?_
      exact lc_night F had hX hbl hbA hi hk7 hL hcs hk hP hD hS ls hl K
    · refine lv_tableIn (off := 632) (tgt := 672) hx hb dL_law_40 (by decide +kernel) (by decide +kernel) (by decide +kernel) (by decide) ?_
      exact lc_undo F had hX hbl hbA hi hk7 hL hcs hk hP hD hS ls hl K
    · refine lv_tableIn (off := 645) (tgt := 685) hx hb dL_law_40 (by decide +kernel) (by decide +kernel) (by decide +kernel) (by decide) ?_
      exact lc_judged F had hX hbl hbA hi hk7 hL hcs hk hP hD hS ls hl K
    · refine lv_tableIn (off := 670) (tgt := 710) hx hb dL_law_40 (by decide +kernel) (by decide +kernel) (by decide +kernel) (by decide) ?_
      exact lc_alone F had hX hbl hbA hi hk7 hL hcs hk hP hD hS ls hl K
    · refine lv_tableIn (off := 695) (tgt := 735) hx hb dL_law_40 (by decide +kernel) (by decide +kernel) (by decide +kernel) (by decide) ?_
      exact lc_plan F had hX hbl hbA hi hk7 hL hcs hk hP hD hS ls hl K
    · refine lv_tableIn (off := 720) (tgt := 760) hx hb dL_law_40 (by decide +kernel) (by decide +kernel) (by decide +kernel) (by decide) ?_
      exact lc_thefts F had hX hbl hbA hi hk7 hL hcs hk hP hD hS ls hl K
    · refine lv_tableIn (off := 769) (tgt := 809) hx hb dL_law_40 (by decide +kernel) (by decide +kernel) (by decide +kernel) (by decide) ?_
      exact lc_see F had hX hbl hbA hi hk7 hL hcs hk hP hD hS ls hl K
    · refine lv_tableIn (off := 834) (tgt := 874) hx hb dL_law_40 (by decide +kernel) (by decide +kernel) (by decide +kernel) (by decide) ?_
      exact lc_fits F had hX hbl hbA hi hk7 hL hcs hk hP hD hS ls hl K
    · refine lv_tableIn (off := 859) (tgt := 899) hx hb dL_law_40 (by decide +kernel) (by decide +kernel) (by decide +kernel) (by decide) ?_
      exact lc_orders F had hX hbl hbA hi hk7 hL hcs hk hP hD hS ls hl K
    · refine lv_tableIn (off := 884) (tgt := 924) hx hb dL_law_40 (by decide +kernel) (by decide +kernel) (by decide +kernel) (by decide) ?_
      exact lc_post F had hX hbl hbA hi hk7 hL hcs hk hP hD hS ls hl K
    · refine lv_tableIn (off := 921) (tgt := 961) hx hb dL_law_40 (by decide +kernel) (by decide +kernel) (by decide +kernel) (by decide) ?_
      exact lc_watch F had hX hbl hbA hi hk7 hL hcs hk hP hD hS ls hl K
    · refine lv_tableIn (off := 934) (tgt := 974) hx hb dL_law_40 (by decide +kernel) (by decide +kernel) (by decide +kernel) (by decide) ?_
      exact lc_rests F had hX hbl hbA hi hk7 hL hcs hk hP hD hS ls hl K hst hAX hAB
    · refine lv_tableIn (off := 998) (tgt := 1038) hx hb dL_law_40 (by decide +kernel) (by decide +kernel) (by decide +kernel) (by decide) ?_
      exact lc_live F had hX hbl hbA hi hk7 hL hcs hk hP hD hS ls hl K
    · refine lv_tableIn (off := 1047) (tgt := 1087) hx hb dL_law_40 (by decide +kernel) (by decide +kernel) (by decide +kernel) (by decide) ?_
      exact lc_best F had hX hbl hbA hi hk7 hL hcs hk hP hD hS ls hl K
    · refine lv_tableIn (off := 1084) (tgt := 1124) hx hb dL_law_40 (by decide +kernel) (by decide +kernel) (by decide +kernel) (by decide) ?_
      exact lc_years F had hX hbl hbA hi hk7 hL hcs hk hP hD hS ls hl K
    · refine lv_tableIn (off := 1133) (tgt := 1173) hx hb dL_law_40 (by decide +kernel) (by decide +kernel) (by decide +kernel) (by decide) ?_
      exact lc_mark F had hX hbl hbA hi hk7 hL hcs hk hP hD hS ls hl K
    · refine lv_tableIn (off := 1186) (tgt := 1226) hx hb dL_law_40 (by decide +kernel) (by decide +kernel) (by decide +kernel) (by decide) ?_
      exact lc_count F had hX hbl hbA hi hk7 hL hcs hk hP hD hS ls hl K
    · refine lv_tableOut (tgt := 1251) hx hb dL_law_40 (by decide +kernel) (by decide) ?_
      refine W.widen (k := cells + 1) (n := slots + 6) (by omega) (by omega) ?_
      exact K _ _ _ _ _ hl hk hP hD hS
    · refine lv_tableOut (tgt := 1251) hx hb dL_law_40 (by decide +kernel) (by decide) ?_
      refine W.widen (k := cells + 1) (n := slots + 6) (by omega) (by omega) ?_
      exact K _ _ _ _ _ hl hk hP hD hS
theorem app_C {α : Type} (l1 l2 : List α) : (List.range l1.length).map (fun i => (l1 ++ l2)[i]?) = l1.map some := by
  apply List.ext_getElem?
  intro j
  rw [List.getElem?_map, List.getElem?_map]
  by_cases hj : j < l1.length
  · rw [List.getElem?_range hj, List.getElem?_eq_getElem hj, Option.map_some, Option.map_some, List.getElem?_append_left hj, List.getElem?_eq_getElem hj]
  · rw [List.getElem?_eq_none (by simp; omega), List.getElem?_eq_none (by omega)]
    rfl
theorem mv_C {α : Type} (l1 : List α) (x : α) : (l1.length :: List.range l1.length).map (fun i => (l1 ++ [x])[i]?) = (x :: l1).map some := by
  rw [List.map_cons, List.map_cons, app_C]
  congr 1
  rw [List.getElem?_append_right (Nat.le_refl _), Nat.sub_self]
  rfl
theorem fm_of {α : Type} {is : List Nat} {l l' : List α} (h : is.map (fun i => l[i]?) = l'.map some) : is.filterMap (fun i => l[i]?) = l' := by
  have h1 : is.filterMap (fun i => l[i]?) = (is.map (fun i => l[i]?)).filterMap id := by rw [List.filterMap_map]; rfl
  rw [h1, h, List.filterMap_map]
  simp
theorem mv_nd : va_nd (229 :: List.range 229) = true := by decide +kernel
set_option maxHeartbeats 8000000 in
set_option maxRecDepth 16384 in
theorem whole_start {p : Program} {e : Env} {s : State} {m : MethodId} {below : List Frame} {meth : Method} {c : Code} (l : Launch) (hst : l.stackTraces = false) {b L : Nat} {xs : Nat → Int32} (hL : L ≤ 3584) (C0 : lw_At p s m meth c b L xs) : W p l e room_1 s m #[Value.ref b] below meth c s.heap [] 0 0 (lw_Z below #[Value.ref b] s) (entryFrame m ([Value.ref b] : List Value).toArray 7) := by
  obtain ⟨hx, hb, hr, hml, hown0, hts0, hX, hbl, hlocks, hgv⟩ := id C0
  have hown : s.vm.findClass RL = some m.cls := hown0
  have hts : ∀ w ∈ gw, w.before #[Value.ref b] s = true := fun w h => hts0 w (List.mem_filter.mp h).1
  obtain ⟨g, hKg⟩ := law_kn hts
  obtain ⟨aC, hKa⟩ := law_ka hts0
  have hK : va_K g vwCl (aTys aC) s := ⟨hKg, hKa⟩
  obtain ⟨A, hAe⟩ : ∃ A : Nat → Prop, A = fun q : Nat => s.heap.size ≤ q := ⟨_, rfl⟩
  have hA : ∀ q : Nat, s.heap.size ≤ q → A q := fun q h => by rw [hAe]; exact h
  have hAs : ∀ q, A q → s.heap.size ≤ q := fun q h => by rw [hAe] at h; exact h
  have hA0 : ∀ a : Nat, a < s.heap.size → ¬ A a := fun a h1 h2 => absurd (hAs a h2) (Nat.not_le.mpr h1)
  have hbA : ¬ A b := hA0 b hbl
  obtain ⟨aM, hM, hM2⟩ := law_am hts0 hgv (A := A) hA0
  obtain ⟨hAX, hAB⟩ := law_ax hts0 hgv (A := A) hA0
  have F : Fx p s m #[Value.ref b] c code 7 RL g aC aM A := ⟨hx, hb, hml, hown, hts, hK, hA, hM, hM2⟩
  have hS : va_S A s.heap s.heap [] := va_S.rf
  have hP : va_P g vwCl [] s.heap := fun k q h => by simp at h
  have hD : va_D A [] := ⟨fun i j p q h => by simp at h, fun k q h => by simp at h⟩
  have hl := lv_entry ([.ref b]) (n := 7) (Nat.le_of_ble_eq_true rfl)
  rw [lg_entry_eq]
  generalize (lg_sl ([.ref b]) ++ List.replicate (7 - (lg_sl ([.ref b])).length) Slot.unset).toArray = ls at hl ⊢
  have hl : lv_has ls 7 [(0, .ref b)] := hl
  refine xnew (ci := 10) (fs := [.null, .null, .null, .null, .null, .null, .null, .null, .null, .null, .null, .int 0, .null, .null, .null, .long 0]) F hP hD hS inX10 tyX10_ok sL1 kI10 sL3 rfl (fun j hj => dfX10 j hj) (Nat.le_of_ble_eq_true rfl) (Nat.le_of_ble_eq_true rfl) dL_law_0 (fun q1 H hP hD hS => ?_)
  have hP : va_P g vwCl [(q1, .inr (10, [.null, .null, .null, .null, .null, .null, .null, .null, .null, .null, .null, .int 0, .null, .null, .null, .long 0]))] H := hP
  have hD : va_D A [(q1, .inr (10, [.null, .null, .null, .null, .null, .null, .null, .null, .null, .null, .null, .int 0, .null, .null, .null, .long 0]))] := hD
  refine lv_dup hx hb dL_law_3 rfl ?_
  refine goV (wr := []) (runI (n := 0) (As := []) (rest := [.ref q1]) F hP hD hS (k_SG_init l g aC aM q1) [0] (by decide) rfl sL4 sL5 sL6 sL3 rfl ⟨by decide, by decide, by decide +kernel⟩ ⟨Nat.le_of_ble_eq_true rfl, Nat.le_of_ble_eq_true rfl⟩ rfl hl.1 rfl (Nat.le_of_ble_eq_true rfl) dL_law_4 ⟨Nat.le_of_ble_eq_true rfl, Nat.le_of_ble_eq_true rfl⟩) hP hD hS hA [0] [] rfl rfl (by decide) (by decide) (fun u H locs hw hP hD hS => ?_)
  have hP : va_P g vwCl (LX aC q1 u) H := hP
  have hD : va_D A (LX aC q1 u) := hD
  refine lv_astore_n (lv' := [(1, .ref q1), (0, .ref b)]) hx hb dL_law_7 rfl hl (by decide) rfl (fun ls hl => ?_)
  refine xnew (ci := 11) (fs := [.int 0, .int 0, .null, .int 0, .int 0, .int 0, .int 0, .long 0, .int 0, .int 0, .null, .null, .null, .null, .null, .null, .null, .null, .null, .null, .null, .null, .null, .null, .null, .null, .null, .null, .null, .null, .null, .int 0, .int 0, .null, .null, .null, .null, .null, .null, .null, .null, .null, .null, .null, .null, .int 0, .null, .null, .null, .null, .null, .null, .null, .null, .null, .null, .null, .null, .null, .null, .int 0, .null, .null, .null, .int 0, .null, .null, .null, .int 0, .int 0, .int 0, .null, .null, .long 0]) F hP hD hS inX11 tyX11_ok sM1 kI11 sM3 rfl (fun j hj => dfX11 j hj) (Nat.le_of_ble_eq_true rfl) (Nat.le_of_ble_eq_true rfl) dL_law_8 (fun q2 H hP hD hS => ?_)
  have hP : va_P g vwCl (LX aC q1 u ++ [(q2, .inr (11, [.int 0, .int 0, .null, .int 0, .int 0, .int 0, .int 0, .long 0, .int 0, .int 0, .null, .null, .null, .null, .null, .null, .null, .null, .null, .null, .null, .null, .null, .null, .null, .null, .null, .null, .null, .null, .null, .int 0, .int 0, .null, .null, .null, .null, .null, .null, .null, .null, .null, .null, .null, .null, .int 0, .null, .null, .null, .null, .null, .null, .null, .null, .null, .null, .null, .null, .null, .null, .int 0, .null, .null, .null, .int 0, .null, .null, .null, .int 0, .int 0, .int 0, .null, .null, .long 0]))]) H := hP
  have hD : va_D A (LX aC q1 u ++ [(q2, .inr (11, [.int 0, .int 0, .null, .int 0, .int 0, .int 0, .int 0, .long 0, .int 0, .int 0, .null, .null, .null, .null, .null, .null, .null, .null, .null, .null, .null, .null, .null, .null, .null, .null, .null, .null, .null, .null, .null, .int 0, .int 0, .null, .null, .null, .null, .null, .null, .null, .null, .null, .null, .null, .null, .int 0, .null, .null, .null, .null, .null, .null, .null, .null, .null, .null, .null, .null, .null, .null, .int 0, .null, .null, .null, .int 0, .null, .null, .null, .int 0, .int 0, .int 0, .null, .null, .long 0]))]) := hD
  refine lv_dup hx hb dL_law_11 rfl ?_
  refine goV (wr := LX aC q1 u) (runI (n := 0) (As := []) (rest := [.ref q2]) F hP hD hS (k_M_init l g aC aM q2) [172] (by decide) rfl sM4 sM5 sM6 sM3 rfl ⟨by decide, by decide, by decide +kernel⟩ ⟨Nat.le_of_ble_eq_true rfl, Nat.le_of_ble_eq_true rfl⟩ rfl hl.1 rfl (Nat.le_of_ble_eq_true rfl) dL_law_12 ⟨Nat.le_of_ble_eq_true rfl, Nat.le_of_ble_eq_true rfl⟩) hP hD hS hA [172] (List.range 172) rfl (app_C (LX aC q1 u) _) (pm_range_nd 172) (by decide +kernel) (fun w H locs _ hP hD hS => ?_)
  have hP : va_P g vwCl (LX aC q1 u ++ LM aC q2 w) H := hP
  have hD : va_D A (LX aC q1 u ++ LM aC q2 w) := hD
  refine lv_astore_n (lv' := [(2, .ref q2), (1, .ref q1), (0, .ref b)]) hx hb dL_law_15 rfl hl (by decide) rfl (fun ls hl => ?_)
  refine lv_iconst (v := 1) hx hb dL_law_16 (by decide) ?_
  refine xnewa (atype := .long) (a0 := (1, .inr (.inl (fun _ => 0)))) (N' := 1) F hP hD hS rfl sLA1 1 rfl (fun _ => rfl) (fun _ => rfl) (by decide +kernel) (by decide +kernel) (by decide) (Nat.le_of_ble_eq_true rfl) (Nat.le_of_ble_eq_true rfl) dL_law_17 (fun q3 H hP hD hS => ?_)
  have hP : va_P g vwCl ((LX aC q1 u ++ LM aC q2 w) ++ [oC aC q3 (fun _ => 0)]) H := hP
  have hD : va_D A ((LX aC q1 u ++ LM aC q2 w) ++ [oC aC q3 (fun _ => 0)]) := hD
  have hmv := mv_C (LX aC q1 u ++ LM aC q2 w) (oC aC q3 (fun _ => 0))
  have hP := hP.sub _ (fm_of hmv)
  have hD := hD.sub _ mv_nd hmv
  rw [← w0_eq aC aM q1 q2 u w] at hP hD
  refine lv_astore_n (lv' := [(3, .ref q3), (2, .ref q2), (1, .ref q1), (0, .ref b)]) hx hb dL_law_19 rfl hl (by decide) rfl (fun ls hl => ?_)
  refine lv_iconst (v := 0) hx hb dL_law_20 (by decide) ?_
  refine lv_istore (lv' := [(4, .int 0), (3, .ref q3), (2, .ref q2), (1, .ref q1), (0, .ref b)]) hx hb dL_law_21 hl (by decide) rfl (fun ls hl => ?_)
  refine W.widen (k := 1000) (n := 60000) (Nat.le_of_ble_eq_true rfl) (Nat.le_of_ble_eq_true rfl) ?_
  exact law_loop (ad := adW aM q1 q2 u w) (oa := q3) F adW_ad hr hlocks hX hbl hbA hAs hL hst hAX hAB L 0 0 1000 60000 (fun _ => 0) _ H _ ls (by omega) (by omega) (by decide) (by omega) (by omega) (kJ_W hw) hP hD hS hl
