theorem updd (f : Nat → Int32) (i : Nat) (a b : Int32) : upd (upd f i a) i b = upd f i b := by
  funext j
  simp only [upd]
  split <;> rfl
theorem sub2nn {x : Int32} (h : 2 ≤ x) : ¬ x - 2 < 0 := by
  have h0 : ¬ x < 0 := by
    intro h1
    simp only [Int32.lt_iff_toInt_lt, Int32.le_iff_toInt_le, show (2 : Int32).toInt = 2 by decide, show (0 : Int32).toInt = 0 by decide] at h h1
    omega
  obtain ⟨j, hj, rfl⟩ := nI_of h0
  have h2 : 2 ≤ j := (nI_leI (a := 2) (b := j) (by omega) hj).mp h
  have e : nI j - 2 = nI (j - 2) := pk_sub (b := 2) h2
  rw [e]
  exact nI_pos (by omega)

theorem tb415 : (Jvm.Cond.fieldLink "StairGang" (294 : Nat) "StairGang" "drawn" "J") ∈ gw := lw_m 415 (by decide +kernel)
theorem tb1068 : (Jvm.Cond.constantLong "StairGang" (335 : Nat) (1103515245 : Int64)) ∈ gw := lw_m 1068 (by decide +kernel)
theorem tb1069 : (Jvm.Cond.constantLong "StairGang" (337 : Nat) (12345 : Int64)) ∈ gw := lw_m 1069 (by decide +kernel)
theorem tb1070 : (Jvm.Cond.constantLong "StairGang" (339 : Nat) (2147483647 : Int64)) ∈ gw := lw_m 1070 (by decide +kernel)
theorem tb1071 : (Jvm.Cond.constantLong "StairGang" (341 : Nat) (65536 : Int64)) ∈ gw := lw_m 1071 (by decide +kernel)
theorem dX10_draw_0 : decode cX10_draw 0 = .ok (.aload_n 0, 1) := by decide +kernel
theorem dX10_draw_1 : decode cX10_draw 1 = .ok (.aload_n 0, 1) := by decide +kernel
theorem dX10_draw_2 : decode cX10_draw 2 = .ok (.getfield 294, 3) := by decide +kernel
theorem dX10_draw_5 : decode cX10_draw 5 = .ok (.ldc2_w 335, 3) := by decide +kernel
theorem dX10_draw_8 : decode cX10_draw 8 = .ok (.lmul, 1) := by decide +kernel
theorem dX10_draw_9 : decode cX10_draw 9 = .ok (.ldc2_w 337, 3) := by decide +kernel
theorem dX10_draw_12 : decode cX10_draw 12 = .ok (.ladd, 1) := by decide +kernel
theorem dX10_draw_13 : decode cX10_draw 13 = .ok (.ldc2_w 339, 3) := by decide +kernel
theorem dX10_draw_16 : decode cX10_draw 16 = .ok (.land, 1) := by decide +kernel
theorem dX10_draw_17 : decode cX10_draw 17 = .ok (.putfield 294, 3) := by decide +kernel
theorem dX10_draw_20 : decode cX10_draw 20 = .ok (.iload_n 1, 1) := by decide +kernel
theorem dX10_draw_21 : decode cX10_draw 21 = .ok (.iconst 1, 1) := by decide +kernel
theorem dX10_draw_22 : decode cX10_draw 22 = .ok (.if_icmp .ge 7, 3) := by decide +kernel
theorem dX10_draw_29 : decode cX10_draw 29 = .ok (.aload_n 0, 1) := by decide +kernel
theorem dX10_draw_30 : decode cX10_draw 30 = .ok (.getfield 294, 3) := by decide +kernel
theorem dX10_draw_33 : decode cX10_draw 33 = .ok (.ldc2_w 341, 3) := by decide +kernel
theorem dX10_draw_36 : decode cX10_draw 36 = .ok (.ldiv, 1) := by decide +kernel
theorem dX10_draw_37 : decode cX10_draw 37 = .ok (.iload_n 1, 1) := by decide +kernel
theorem dX10_draw_38 : decode cX10_draw 38 = .ok (.i2l, 1) := by decide +kernel
theorem dX10_draw_39 : decode cX10_draw 39 = .ok (.lrem, 1) := by decide +kernel
theorem dX10_draw_40 : decode cX10_draw 40 = .ok (.l2i, 1) := by decide +kernel
theorem dX10_draw_41 : decode cX10_draw 41 = .ok (.ireturn, 1) := by decide +kernel
set_option maxHeartbeats 4000000 in
set_option maxRecDepth 100000 in
theorem k_draw (l : Launch) (g : va_G) (aC : Nat → ClassId) (aM : Nat → Nat) (h0 : Nat) (y1 y2 y3 y4 y5 y6 y7 y8 y9 y10 y11 y12 y13 y14 y15 : Value) (m1 : Int64) : Ct l g aC aM yX10_draw cX10_draw 2 (some .int) 1 [.ref h0, .int 4] [(h0, .inr (10, [y1, y2, y3, y4, y5, y6, y7, y8, y9, y10, y11, y12, y13, y14, y15, .long m1]))] (QI g (fun (r : Int32) (u : Int64) => True) (fun (u : Int64) => [(h0, .inr (10, [y1, y2, y3, y4, y5, y6, y7, y8, y9, y10, y11, y12, y13, y14, y15, .long u]))])) 0 0 := by
  refine Ct.mk (by decide) (Nat.le_of_ble_eq_true rfl) ?_
  intro p e s m below meth c A ls hx hb hml hown hts hr hlk hnm hK hA hM hM2 hP hD hS hl
  have hown : s.vm.findClass RX10 = some m.cls := hown
  have F : Fx p s m _ c cX10_draw 2 RX10 g aC aM A := ⟨hx, hb, hml, hown, hts, hK, hA, hM, hM2⟩
  have hl : lv_has ls 2 [(0, .ref h0), (1, .int 4)] := hl
  refine lv_aload_n hx hb dX10_draw_0 rfl (lv_at hl 0 rfl) ?_
  refine lv_aload_n hx hb dX10_draw_1 rfl (lv_at hl 0 rfl) ?_
  refine xget F hP 0 rfl rfl inX10 15 (by decide) tb415 rfl dX10_draw_2 ?_
  refine lv_ldc2 (v := 1103515245) hx hb hown (hts _ tb1068) dX10_draw_5 ?_
  refine lv_lmul hx hb dX10_draw_8 ?_
  refine lv_ldc2 (v := 12345) hx hb hown (hts _ tb1069) dX10_draw_9 ?_
  refine lv_ladd hx hb dX10_draw_12 ?_
  refine lv_ldc2 (v := 2147483647) hx hb hown (hts _ tb1070) dX10_draw_13 ?_
  refine lv_land hx hb dX10_draw_16 ?_
  refine xput F hP hD hS 0 rfl rfl inX10 tyX10_ok nmX10 15 (by decide) tb415 rfl rfl rfl (Nat.le_of_ble_eq_true rfl) dX10_draw_17 (fun H locs hP hD hS => ?_)
  have hP : va_P g vwCl [(h0, .inr (10, [y1, y2, y3, y4, y5, y6, y7, y8, y9, y10, y11, y12, y13, y14, y15, .long (((m1 * 1103515245) + 12345) &&& 2147483647)]))] H := hP
  have hD : va_D A [(h0, .inr (10, [y1, y2, y3, y4, y5, y6, y7, y8, y9, y10, y11, y12, y13, y14, y15, .long (((m1 * 1103515245) + 12345) &&& 2147483647)]))] := hD
  refine lv_iload_n hx hb dX10_draw_20 rfl (lv_at hl 1 rfl) ?_
  refine lv_iconst (v := 1) hx hb dX10_draw_21 (by decide) ?_
  refine lv_icmp_ge (tgt := 29) hx hb dX10_draw_22 (by decide) (fun _ => ?_) (fun c_ => absurd (by decide +kernel) c_)
  refine lv_aload_n hx hb dX10_draw_29 rfl (lv_at hl 0 rfl) ?_
  refine xget F hP 0 rfl rfl inX10 15 (by decide) tb415 rfl dX10_draw_30 ?_
  refine lv_ldc2 (v := 65536) hx hb hown (hts _ tb1071) dX10_draw_33 ?_
  refine lv_ldiv hx hb dX10_draw_36 (by decide +kernel) ?_
  refine lv_iload_n hx hb dX10_draw_37 rfl (lv_at hl 1 rfl) ?_
  refine lv_i2l (v := 4) hx hb dX10_draw_38 (by decide +kernel) ?_
  refine lv_lrem hx hb dX10_draw_39 (by decide +kernel) ?_
  refine lv_l2i (v := ((((((m1 * 1103515245) + 12345) &&& 2147483647) / 65536) - ((((m1 * 1103515245) + 12345) &&& 2147483647) / 65536) / 4 * 4).toInt32)) hx hb dX10_draw_40 rfl ?_
  have hP9 := hP.sub (ws' := [(h0, .inr (10, [y1, y2, y3, y4, y5, y6, y7, y8, y9, y10, y11, y12, y13, y14, y15, .long (((m1 * 1103515245) + 12345) &&& 2147483647)]))]) [0] rfl
  have hD9 := hD.sub (ws' := [(h0, .inr (10, [y1, y2, y3, y4, y5, y6, y7, y8, y9, y10, y11, y12, y13, y14, y15, .long (((m1 * 1103515245) + 12345) &&& 2147483647)]))]) [0] (by decide) rfl
  exact rI (((m1 * 1103515245) + 12345) &&& 2147483647) hx hb hr hlk rfl hS trivial hP9 hD9 (Nat.le_of_ble_eq_true rfl) (Nat.le_of_ble_eq_true rfl) dX10_draw_41

theorem tb1064 : (Jvm.Cond.methodLink "StairGang" (329 : Nat) ({ cls := "StairGang", name := "draw", desc := "(I)I" } : Jvm.MethodName)) ∈ gw := lw_m 1064 (by decide +kernel)
theorem tb1066 : (Jvm.Cond.instanceMethod ({ cls := "StairGang", name := "draw", desc := "(I)I" } : Jvm.MethodName)) ∈ gw := lw_m 1066 (by decide +kernel)
theorem tb1067 : (Jvm.Cond.code ({ cls := "StairGang", name := "draw", desc := "(I)I" } : Jvm.MethodName) prog_1_method_43_code (2 : Nat) (Option.some Jvm.ClassFile.FieldType.int)) ∈ gw := lw_m 1067 (by decide +kernel)
theorem tv30 : Cond.selects "StairGang" ⟨"StairGang", "draw", "(I)I"⟩ ⟨"StairGang", "draw", "(I)I"⟩ ∈ gw := lw_v 30 (by decide +kernel)
theorem dX10_firstGone_0 : decode cX10_firstGone 0 = .ok (.iconst 0, 1) := by decide +kernel
theorem dX10_firstGone_1 : decode cX10_firstGone 1 = .ok (.istore_n 2, 1) := by decide +kernel
theorem dX10_firstGone_2 : decode cX10_firstGone 2 = .ok (.iload_n 2, 1) := by decide +kernel
theorem dX10_firstGone_3 : decode cX10_firstGone 3 = .ok (.aload_n 0, 1) := by decide +kernel
theorem dX10_firstGone_4 : decode cX10_firstGone 4 = .ok (.getfield 35, 3) := by decide +kernel
theorem dX10_firstGone_7 : decode cX10_firstGone 7 = .ok (.getfield 261, 3) := by decide +kernel
theorem dX10_firstGone_10 : decode cX10_firstGone 10 = .ok (.iconst 1, 1) := by decide +kernel
theorem dX10_firstGone_11 : decode cX10_firstGone 11 = .ok (.iaload, 1) := by decide +kernel
theorem dX10_firstGone_12 : decode cX10_firstGone 12 = .ok (.if_icmp .ge 19, 3) := by decide +kernel
theorem dX10_firstGone_31 : decode cX10_firstGone 31 = .ok (.iconst (-1), 1) := by decide +kernel
theorem dX10_firstGone_32 : decode cX10_firstGone 32 = .ok (.ireturn, 1) := by decide +kernel
theorem dX10_passDrawnNight_0 : decode cX10_passDrawnNight 0 = .ok (.iconst 0, 1) := by decide +kernel
theorem dX10_passDrawnNight_1 : decode cX10_passDrawnNight 1 = .ok (.istore_n 1, 1) := by decide +kernel
theorem dX10_passDrawnNight_2 : decode cX10_passDrawnNight 2 = .ok (.iload_n 1, 1) := by decide +kernel
theorem dX10_passDrawnNight_3 : decode cX10_passDrawnNight 3 = .ok (.aload_n 0, 1) := by decide +kernel
theorem dX10_passDrawnNight_4 : decode cX10_passDrawnNight 4 = .ok (.getfield 35, 3) := by decide +kernel
theorem dX10_passDrawnNight_7 : decode cX10_passDrawnNight 7 = .ok (.getfield 261, 3) := by decide +kernel
theorem dX10_passDrawnNight_10 : decode cX10_passDrawnNight 10 = .ok (.iconst 1, 1) := by decide +kernel
theorem dX10_passDrawnNight_11 : decode cX10_passDrawnNight 11 = .ok (.iaload, 1) := by decide +kernel
theorem dX10_passDrawnNight_12 : decode cX10_passDrawnNight 12 = .ok (.if_icmp .ge 42, 3) := by decide +kernel
theorem dX10_passDrawnNight_54 : decode cX10_passDrawnNight 54 = .ok (.aload_n 0, 1) := by decide +kernel
theorem dX10_passDrawnNight_55 : decode cX10_passDrawnNight 55 = .ok (.iconst 4, 1) := by decide +kernel
theorem dX10_passDrawnNight_56 : decode cX10_passDrawnNight 56 = .ok (.invokevirtual 329, 3) := by decide +kernel
theorem dX10_passDrawnNight_59 : decode cX10_passDrawnNight 59 = .ok (.ifCond .ne 26, 3) := by decide +kernel
theorem dX10_passDrawnNight_62 : decode cX10_passDrawnNight 62 = .ok (.aload_n 0, 1) := by decide +kernel
theorem dX10_passDrawnNight_63 : decode cX10_passDrawnNight 63 = .ok (.getfield 49, 3) := by decide +kernel
theorem dX10_passDrawnNight_66 : decode cX10_passDrawnNight 66 = .ok (.aload_n 0, 1) := by decide +kernel
theorem dX10_passDrawnNight_67 : decode cX10_passDrawnNight 67 = .ok (.getfield 35, 3) := by decide +kernel
theorem dX10_passDrawnNight_70 : decode cX10_passDrawnNight 70 = .ok (.aload_n 0, 1) := by decide +kernel
theorem dX10_passDrawnNight_71 : decode cX10_passDrawnNight 71 = .ok (.aload_n 0, 1) := by decide +kernel
theorem dX10_passDrawnNight_72 : decode cX10_passDrawnNight 72 = .ok (.getfield 49, 3) := by decide +kernel
theorem dX10_passDrawnNight_75 : decode cX10_passDrawnNight 75 = .ok (.getfield 133, 3) := by decide +kernel
theorem dX10_passDrawnNight_78 : decode cX10_passDrawnNight 78 = .ok (.invokevirtual 332, 3) := by decide +kernel
theorem dX10_passDrawnNight_85 : decode cX10_passDrawnNight 85 = .ok (.aload_n 0, 1) := by decide +kernel
theorem dX10_passDrawnNight_86 : decode cX10_passDrawnNight 86 = .ok (.getfield 49, 3) := by decide +kernel
theorem dX10_passDrawnNight_89 : decode cX10_passDrawnNight 89 = .ok (.dup, 1) := by decide +kernel
theorem dX10_passDrawnNight_90 : decode cX10_passDrawnNight 90 = .ok (.getfield 191, 3) := by decide +kernel
theorem dX10_passDrawnNight_93 : decode cX10_passDrawnNight 93 = .ok (.iconst 1, 1) := by decide +kernel
theorem dX10_passDrawnNight_94 : decode cX10_passDrawnNight 94 = .ok (.iadd, 1) := by decide +kernel
theorem dX10_passDrawnNight_95 : decode cX10_passDrawnNight 95 = .ok (.putfield 191, 3) := by decide +kernel
theorem dX10_passDrawnNight_98 : decode cX10_passDrawnNight 98 = .ok (.return_, 1) := by decide +kernel
set_option maxHeartbeats 4000000 in
set_option maxRecDepth 100000 in
theorem a_X10_firstGone_1 (l : Launch) (g : va_G) (aC : Nat → ClassId) (aM : Nat → Nat) (h1 h2 h3 : Nat) (x4 x5 x6 x7 x8 x9 x10 x11 x12 x13 x14 x15 x16 x17 x18 x19 x20 x21 x22 x23 x24 x25 x26 x27 x28 x29 : Value) : Ct l g aC aM yX10_firstGone cX10_firstGone 3 (some .int) 1 [.ref h1, .int 0] [(h2, .inr (8, [.ref h3, x4, x5, x6, x7, x8, x9, x10, x11, x12, x13, x14])), (h3, .inl (aC 0, 5, .inl (fun _ => 0))), (h1, .inr (10, [x15, x16, x17, .ref h2, x18, x19, x20, x21, x22, x23, x24, x25, x26, x27, x28, x29]))] (QI g (fun (r : Int32) (_ : Unit) => r = (-1)) (fun (_ : Unit) => [(h2, .inr (8, [.ref h3, x4, x5, x6, x7, x8, x9, x10, x11, x12, x13, x14])), (h3, .inl (aC 0, 5, .inl (fun _ => 0))), (h1, .inr (10, [x15, x16, x17, .ref h2, x18, x19, x20, x21, x22, x23, x24, x25, x26, x27, x28, x29]))])) 0 0 := by
  refine Ct.mk (by decide) (Nat.le_of_ble_eq_true rfl) ?_
  intro p e s m below meth c A ls hx hb hml hown hts hr hlk hnm hK hA hM hM2 hP hD hS hl
  have hown : s.vm.findClass RX10 = some m.cls := hown
  have F : Fx p s m _ c cX10_firstGone 3 RX10 g aC aM A := ⟨hx, hb, hml, hown, hts, hK, hA, hM, hM2⟩
  have hl : lv_has ls 3 [(0, .ref h1), (1, .int 0)] := hl
  refine lv_iconst (v := 0) hx hb dX10_firstGone_0 (by decide) ?_
  refine lv_istore_n (lv' := [(2, .int 0), (0, .ref h1), (1, .int 0)]) hx hb dX10_firstGone_1 rfl hl (by decide) rfl (fun ls hl => ?_)
  refine lv_iload_n hx hb dX10_firstGone_2 rfl (lv_at hl 0 rfl) ?_
  refine lv_aload_n hx hb dX10_firstGone_3 rfl (lv_at hl 1 rfl) ?_
  refine xget F hP 2 rfl rfl inX10 3 (by decide) tb403 rfl dX10_firstGone_4 ?_
  refine xget F hP 0 rfl rfl inX8 0 (by decide) tb231 rfl dX10_firstGone_7 ?_
  refine lv_iconst (v := 1) hx hb dX10_firstGone_10 (by decide) ?_
  refine xilo (v := 0) F hP 1 rfl 1 (by decide +kernel) (by decide +kernel) (by decide) (by decide +kernel) dX10_firstGone_11 ?_
  refine lv_icmp_ge (tgt := 31) hx hb dX10_firstGone_12 (by decide) (fun _ => ?_) (fun c_ => absurd (by decide +kernel) c_)
  refine lv_iconst (v := (-1)) hx hb dX10_firstGone_31 (by decide) ?_
  have hP9 := hP.sub (ws' := [(h2, .inr (8, [.ref h3, x4, x5, x6, x7, x8, x9, x10, x11, x12, x13, x14])), (h3, .inl (aC 0, 5, .inl (fun _ => 0))), (h1, .inr (10, [x15, x16, x17, .ref h2, x18, x19, x20, x21, x22, x23, x24, x25, x26, x27, x28, x29]))]) [0, 1, 2] rfl
  have hD9 := hD.sub (ws' := [(h2, .inr (8, [.ref h3, x4, x5, x6, x7, x8, x9, x10, x11, x12, x13, x14])), (h3, .inl (aC 0, 5, .inl (fun _ => 0))), (h1, .inr (10, [x15, x16, x17, .ref h2, x18, x19, x20, x21, x22, x23, x24, x25, x26, x27, x28, x29]))]) [0, 1, 2] (by decide) rfl
  exact rI () hx hb hr hlk rfl hS rfl hP9 hD9 (Nat.le_of_ble_eq_true rfl) (Nat.le_of_ble_eq_true rfl) dX10_firstGone_32

theorem tb1072 : (Jvm.Cond.methodLink "StairGang" (332 : Nat) ({ cls := "StairGang", name := "firstGone", desc := "(I)I" } : Jvm.MethodName)) ∈ gw := lw_m 1072 (by decide +kernel)
theorem tb1074 : (Jvm.Cond.instanceMethod ({ cls := "StairGang", name := "firstGone", desc := "(I)I" } : Jvm.MethodName)) ∈ gw := lw_m 1074 (by decide +kernel)
theorem tb1075 : (Jvm.Cond.code ({ cls := "StairGang", name := "firstGone", desc := "(I)I" } : Jvm.MethodName) prog_1_method_42_code (3 : Nat) (Option.some Jvm.ClassFile.FieldType.int)) ∈ gw := lw_m 1075 (by decide +kernel)
theorem tv31 : Cond.selects "StairGang" ⟨"StairGang", "firstGone", "(I)I"⟩ ⟨"StairGang", "firstGone", "(I)I"⟩ ∈ gw := lw_v 31 (by decide +kernel)
theorem dX10_passDrawnNight_81 : decode cX10_passDrawnNight 81 = .ok (.invokevirtual 180, 3) := by decide +kernel
theorem dX10_passDrawnNight_84 : decode cX10_passDrawnNight 84 = .ok (.pop, 1) := by decide +kernel
set_option maxHeartbeats 4000000 in
set_option maxRecDepth 100000 in
theorem k_pass (l : Launch) (g : va_G) (aC : Nat → ClassId) (aM : Nat → Nat) (h0 h1 h2 h3 : Nat) (x1 x2 x3 x4 x5 x6 x7 x8 x9 x10 x11 y1 y2 y3 y4 y5 y6 y7 y8 y9 y10 y11 y12 y13 z1 z2 : Value) (m1 : Int64) (n1 : Int32) : Ct l g aC aM yX10_passDrawnNight cX10_passDrawnNight 2 none 4 [.ref h0] [(h0, .inr (10, [y1, y2, y3, .ref h1, y4, y5, .ref h3, y6, y7, y8, y9, y10, y11, y12, y13, .long m1])), (h1, .inr (8, [.ref h2, x1, x2, x3, x4, x5, x6, x7, x8, x9, x10, x11])), (h2, .inl (aC 0, 5, .inl (fun _ => 0))), (h3, .inr (6, [.int 0, z1, z2, .int 0, .int n1, .int 0]))] (QV g (fun (u : Int64 × Int32) => True) (fun (u : Int64 × Int32) => [(h0, .inr (10, [y1, y2, y3, .ref h1, y4, y5, .ref h3, y6, y7, y8, y9, y10, y11, y12, y13, .long u.1])), (h1, .inr (8, [.ref h2, x1, x2, x3, x4, x5, x6, x7, x8, x9, x10, x11])), (h2, .inl (aC 0, 5, .inl (fun _ => 0))), (h3, .inr (6, [.int 0, z1, z2, .int 0, .int u.2, .int 0]))])) 0 0 := by
  refine Ct.mk (by decide) (Nat.le_of_ble_eq_true rfl) ?_
  intro p e s m below meth c A ls hx hb hml hown hts hr hlk hnm hK hA hM hM2 hP hD hS hl
  have hown : s.vm.findClass RX10 = some m.cls := hown
  have F : Fx p s m _ c cX10_passDrawnNight 2 RX10 g aC aM A := ⟨hx, hb, hml, hown, hts, hK, hA, hM, hM2⟩
  have hl : lv_has ls 2 [(0, .ref h0)] := hl
  refine lv_iconst (v := 0) hx hb dX10_passDrawnNight_0 (by decide) ?_
  refine lv_istore_n (lv' := [(1, .int 0), (0, .ref h0)]) hx hb dX10_passDrawnNight_1 rfl hl (by decide) rfl (fun ls hl => ?_)
  refine lv_iload_n hx hb dX10_passDrawnNight_2 rfl (lv_at hl 0 rfl) ?_
  refine lv_aload_n hx hb dX10_passDrawnNight_3 rfl (lv_at hl 1 rfl) ?_
  refine xget F hP 0 rfl rfl inX10 3 (by decide) tb403 rfl dX10_passDrawnNight_4 ?_
  refine xget F hP 1 rfl rfl inX8 0 (by decide) tb231 rfl dX10_passDrawnNight_7 ?_
  refine lv_iconst (v := 1) hx hb dX10_passDrawnNight_10 (by decide) ?_
  refine xilo (v := 0) F hP 2 rfl 1 (by decide +kernel) (by decide +kernel) (by decide) (by decide +kernel) dX10_passDrawnNight_11 ?_
  refine lv_icmp_ge (tgt := 54) hx hb dX10_passDrawnNight_12 (by decide) (fun _ => ?_) (fun c_ => absurd (by decide +kernel) c_)
  refine lv_aload_n hx hb dX10_passDrawnNight_54 rfl (lv_at hl 1 rfl) ?_
  refine lv_iconst (v := 4) hx hb dX10_passDrawnNight_55 (by decide) ?_
  refine goI (wr := [(h1, .inr (8, [.ref h2, x1, x2, x3, x4, x5, x6, x7, x8, x9, x10, x11])), (h2, .inl (aC 0, 5, .inl (fun _ => 0))), (h3, .inr (6, [.int 0, z1, z2, .int 0, .int n1, .int 0]))]) (runV (n := 1) (As := [.int 4]) (rest := []) F hP hD hS (k_draw l g aC aM h0 y1 y2 y3 (.ref h1) y4 y5 (.ref h3) y6 y7 y8 y9 y10 y11 y12 y13 m1) [0] (by decide) rfl 0 10 rfl rfl rfl tb1067 tb1064 tb1066 tv30 tb1 ⟨by decide, by decide, by decide +kernel⟩ ⟨Nat.le_of_ble_eq_true rfl, Nat.le_of_ble_eq_true rfl⟩ rfl hl.1 rfl (Nat.le_of_ble_eq_true rfl) dX10_passDrawnNight_56 ⟨Nat.le_of_ble_eq_true rfl, Nat.le_of_ble_eq_true rfl⟩) hP hD hS hA [0] [1, 2, 3] rfl rfl (by decide) (by decide) (fun r_4 w5 H locs hw hP hD hS => ?_)
  obtain ⟨u2, rfl⟩ : ∃ z_, z_ = w5 := ⟨_, rfl⟩
  have hP : va_P g vwCl [(h1, .inr (8, [.ref h2, x1, x2, x3, x4, x5, x6, x7, x8, x9, x10, x11])), (h2, .inl (aC 0, 5, .inl (fun _ => 0))), (h3, .inr (6, [.int 0, z1, z2, .int 0, .int n1, .int 0])), (h0, .inr (10, [y1, y2, y3, .ref h1, y4, y5, .ref h3, y6, y7, y8, y9, y10, y11, y12, y13, .long u2]))] H := hP
  have hD : va_D A [(h1, .inr (8, [.ref h2, x1, x2, x3, x4, x5, x6, x7, x8, x9, x10, x11])), (h2, .inl (aC 0, 5, .inl (fun _ => 0))), (h3, .inr (6, [.int 0, z1, z2, .int 0, .int n1, .int 0])), (h0, .inr (10, [y1, y2, y3, .ref h1, y4, y5, .ref h3, y6, y7, y8, y9, y10, y11, y12, y13, .long u2]))] := hD
  refine lv_if_ne (tgt := 85) hx hb dX10_passDrawnNight_59 (by decide) (fun c6 => ?_) (fun c6 => ?_)
  · refine lv_aload_n hx hb dX10_passDrawnNight_85 rfl (lv_at hl 1 rfl) ?_
    refine xget F hP 3 rfl rfl inX10 6 (by decide) tb406 rfl dX10_passDrawnNight_86 ?_
    refine lv_dup hx hb dX10_passDrawnNight_89 rfl ?_
    refine xget F hP 2 rfl rfl inX6 4 (by decide) tb301 rfl dX10_passDrawnNight_90 ?_
    refine lv_iconst (v := 1) hx hb dX10_passDrawnNight_93 (by decide) ?_
    refine lv_iadd hx hb dX10_passDrawnNight_94 ?_
    refine xput F hP hD hS 2 rfl rfl inX6 tyX6_ok nmX6 4 (by decide) tb301 rfl rfl rfl (Nat.le_of_ble_eq_true rfl) dX10_passDrawnNight_95 (fun H locs hP hD hS => ?_)
    have hP : va_P g vwCl [(h1, .inr (8, [.ref h2, x1, x2, x3, x4, x5, x6, x7, x8, x9, x10, x11])), (h2, .inl (aC 0, 5, .inl (fun _ => 0))), (h3, .inr (6, [.int 0, z1, z2, .int 0, .int (n1 + 1), .int 0])), (h0, .inr (10, [y1, y2, y3, .ref h1, y4, y5, .ref h3, y6, y7, y8, y9, y10, y11, y12, y13, .long u2]))] H := hP
    have hD : va_D A [(h1, .inr (8, [.ref h2, x1, x2, x3, x4, x5, x6, x7, x8, x9, x10, x11])), (h2, .inl (aC 0, 5, .inl (fun _ => 0))), (h3, .inr (6, [.int 0, z1, z2, .int 0, .int (n1 + 1), .int 0])), (h0, .inr (10, [y1, y2, y3, .ref h1, y4, y5, .ref h3, y6, y7, y8, y9, y10, y11, y12, y13, .long u2]))] := hD
    have hP9 := hP.sub (ws' := [(h0, .inr (10, [y1, y2, y3, .ref h1, y4, y5, .ref h3, y6, y7, y8, y9, y10, y11, y12, y13, .long u2])), (h1, .inr (8, [.ref h2, x1, x2, x3, x4, x5, x6, x7, x8, x9, x10, x11])), (h2, .inl (aC 0, 5, .inl (fun _ => 0))), (h3, .inr (6, [.int 0, z1, z2, .int 0, .int (n1 + 1), .int 0]))]) [3, 0, 1, 2] rfl
    have hD9 := hD.sub (ws' := [(h0, .inr (10, [y1, y2, y3, .ref h1, y4, y5, .ref h3, y6, y7, y8, y9, y10, y11, y12, y13, .long u2])), (h1, .inr (8, [.ref h2, x1, x2, x3, x4, x5, x6, x7, x8, x9, x10, x11])), (h2, .inl (aC 0, 5, .inl (fun _ => 0))), (h3, .inr (6, [.int 0, z1, z2, .int 0, .int (n1 + 1), .int 0]))]) [3, 0, 1, 2] (by decide) rfl
    exact rV (u2, (n1 + 1)) hx hb hr hlk hS trivial hP9 hD9 (Nat.le_of_ble_eq_true rfl) (Nat.le_of_ble_eq_true rfl) dX10_passDrawnNight_98
  · subst c6
    refine lv_aload_n hx hb dX10_passDrawnNight_62 rfl (lv_at hl 1 rfl) ?_
    refine xget F hP 3 rfl rfl inX10 6 (by decide) tb406 rfl dX10_passDrawnNight_63 ?_
    refine lv_aload_n hx hb dX10_passDrawnNight_66 rfl (lv_at hl 1 rfl) ?_
    refine xget F hP 3 rfl rfl inX10 3 (by decide) tb403 rfl dX10_passDrawnNight_67 ?_
    refine lv_aload_n hx hb dX10_passDrawnNight_70 rfl (lv_at hl 1 rfl) ?_
    refine lv_aload_n hx hb dX10_passDrawnNight_71 rfl (lv_at hl 1 rfl) ?_
    refine xget F hP 3 rfl rfl inX10 6 (by decide) tb406 rfl dX10_passDrawnNight_72 ?_
    refine xget F hP 2 rfl rfl inX6 0 (by decide) tb293 rfl dX10_passDrawnNight_75 ?_
    refine goI (wr := [(h3, .inr (6, [.int 0, z1, z2, .int 0, .int n1, .int 0]))]) (runV (n := 1) (As := [.int 0]) (rest := [.ref h1, .ref h3]) F hP hD hS (a_X10_firstGone_1 l g aC aM h0 h1 h2 x1 x2 x3 x4 x5 x6 x7 x8 x9 x10 x11 y1 y2 y3 y4 y5 (.ref h3) y6 y7 y8 y9 y10 y11 y12 y13 (.long u2)) [0, 1, 3] (by decide) rfl 3 10 rfl rfl rfl tb1075 tb1072 tb1074 tv31 tb1 ⟨by decide, by decide, by decide +kernel⟩ ⟨Nat.le_of_ble_eq_true rfl, Nat.le_of_ble_eq_true rfl⟩ rfl hl.1 rfl (Nat.le_of_ble_eq_true rfl) dX10_passDrawnNight_78 ⟨Nat.le_of_ble_eq_true rfl, Nat.le_of_ble_eq_true rfl⟩) hP hD hS hA [0, 1, 3] [2] rfl rfl (by decide) (by decide) (fun r_8 w9 H locs hw hP hD hS => ?_)
    have hP : va_P g vwCl [(h3, .inr (6, [.int 0, z1, z2, .int 0, .int n1, .int 0])), (h1, .inr (8, [.ref h2, x1, x2, x3, x4, x5, x6, x7, x8, x9, x10, x11])), (h2, .inl (aC 0, 5, .inl (fun _ => 0))), (h0, .inr (10, [y1, y2, y3, .ref h1, y4, y5, .ref h3, y6, y7, y8, y9, y10, y11, y12, y13, .long u2]))] H := hP
    have hD : va_D A [(h3, .inr (6, [.int 0, z1, z2, .int 0, .int n1, .int 0])), (h1, .inr (8, [.ref h2, x1, x2, x3, x4, x5, x6, x7, x8, x9, x10, x11])), (h2, .inl (aC 0, 5, .inl (fun _ => 0))), (h0, .inr (10, [y1, y2, y3, .ref h1, y4, y5, .ref h3, y6, y7, y8, y9, y10, y11, y12, y13, .long u2]))] := hD
    try dsimp only at hw
    subst hw
    refine goI (wr := [(h3, .inr (6, [.int 0, z1, z2, .int 0, .int n1, .int 0])), (h0, .inr (10, [y1, y2, y3, .ref h1, y4, y5, .ref h3, y6, y7, y8, y9, y10, y11, y12, y13, .long u2]))]) (runV (n := 2) (As := [.ref h1, .int (-1)]) (rest := []) F hP hD hS (a_X6_builds_1 l g aC aM h3 h1 h2 x1 x2 x3 x4 x5 x6 x7 x8 x9 x10 x11 (-1)) [1, 2] (by decide) rfl 0 6 rfl rfl rfl tb880 tb877 tb878 tb879 tb12 ⟨by decide, by decide, by decide +kernel⟩ ⟨Nat.le_of_ble_eq_true rfl, Nat.le_of_ble_eq_true rfl⟩ rfl hl.1 rfl (Nat.le_of_ble_eq_true rfl) dX10_passDrawnNight_81 ⟨Nat.le_of_ble_eq_true rfl, Nat.le_of_ble_eq_true rfl⟩) hP hD hS hA [1, 2] [0, 3] rfl rfl (by decide) (by decide) (fun r_11 w12 H locs hw hP hD hS => ?_)
    have hP : va_P g vwCl [(h3, .inr (6, [.int 0, z1, z2, .int 0, .int n1, .int 0])), (h0, .inr (10, [y1, y2, y3, .ref h1, y4, y5, .ref h3, y6, y7, y8, y9, y10, y11, y12, y13, .long u2])), (h1, .inr (8, [.ref h2, x1, x2, x3, x4, x5, x6, x7, x8, x9, x10, x11])), (h2, .inl (aC 0, 5, .inl (fun _ => 0)))] H := hP
    have hD : va_D A [(h3, .inr (6, [.int 0, z1, z2, .int 0, .int n1, .int 0])), (h0, .inr (10, [y1, y2, y3, .ref h1, y4, y5, .ref h3, y6, y7, y8, y9, y10, y11, y12, y13, .long u2])), (h1, .inr (8, [.ref h2, x1, x2, x3, x4, x5, x6, x7, x8, x9, x10, x11])), (h2, .inl (aC 0, 5, .inl (fun _ => 0)))] := hD
    try dsimp only at hw
    subst hw
    refine lv_pop hx hb dX10_passDrawnNight_84 rfl ?_
    refine lv_aload_n hx hb dX10_passDrawnNight_85 rfl (lv_at hl 1 rfl) ?_
    refine xget F hP 1 rfl rfl inX10 6 (by decide) tb406 rfl dX10_passDrawnNight_86 ?_
    refine lv_dup hx hb dX10_passDrawnNight_89 rfl ?_
    refine xget F hP 0 rfl rfl inX6 4 (by decide) tb301 rfl dX10_passDrawnNight_90 ?_
    refine lv_iconst (v := 1) hx hb dX10_passDrawnNight_93 (by decide) ?_
    refine lv_iadd hx hb dX10_passDrawnNight_94 ?_
    refine xput F hP hD hS 0 rfl rfl inX6 tyX6_ok nmX6 4 (by decide) tb301 rfl rfl rfl (Nat.le_of_ble_eq_true rfl) dX10_passDrawnNight_95 (fun H locs hP hD hS => ?_)
    have hP : va_P g vwCl [(h3, .inr (6, [.int 0, z1, z2, .int 0, .int (n1 + 1), .int 0])), (h0, .inr (10, [y1, y2, y3, .ref h1, y4, y5, .ref h3, y6, y7, y8, y9, y10, y11, y12, y13, .long u2])), (h1, .inr (8, [.ref h2, x1, x2, x3, x4, x5, x6, x7, x8, x9, x10, x11])), (h2, .inl (aC 0, 5, .inl (fun _ => 0)))] H := hP
    have hD : va_D A [(h3, .inr (6, [.int 0, z1, z2, .int 0, .int (n1 + 1), .int 0])), (h0, .inr (10, [y1, y2, y3, .ref h1, y4, y5, .ref h3, y6, y7, y8, y9, y10, y11, y12, y13, .long u2])), (h1, .inr (8, [.ref h2, x1, x2, x3, x4, x5, x6, x7, x8, x9, x10, x11])), (h2, .inl (aC 0, 5, .inl (fun _ => 0)))] := hD
    have hP9 := hP.sub (ws' := [(h0, .inr (10, [y1, y2, y3, .ref h1, y4, y5, .ref h3, y6, y7, y8, y9, y10, y11, y12, y13, .long u2])), (h1, .inr (8, [.ref h2, x1, x2, x3, x4, x5, x6, x7, x8, x9, x10, x11])), (h2, .inl (aC 0, 5, .inl (fun _ => 0))), (h3, .inr (6, [.int 0, z1, z2, .int 0, .int (n1 + 1), .int 0]))]) [1, 2, 3, 0] rfl
    have hD9 := hD.sub (ws' := [(h0, .inr (10, [y1, y2, y3, .ref h1, y4, y5, .ref h3, y6, y7, y8, y9, y10, y11, y12, y13, .long u2])), (h1, .inr (8, [.ref h2, x1, x2, x3, x4, x5, x6, x7, x8, x9, x10, x11])), (h2, .inl (aC 0, 5, .inl (fun _ => 0))), (h3, .inr (6, [.int 0, z1, z2, .int 0, .int (n1 + 1), .int 0]))]) [1, 2, 3, 0] (by decide) rfl
    exact rV (u2, (n1 + 1)) hx hb hr hlk hS trivial hP9 hD9 (Nat.le_of_ble_eq_true rfl) (Nat.le_of_ble_eq_true rfl) dX10_passDrawnNight_98

theorem tb21 : (Jvm.Cond.initialized "java/lang/Integer") ∈ gw := lw_m 21 (by decide +kernel)
theorem tb299 : (Jvm.Cond.fieldLink "StairGang" (216 : Nat) "StairGang$State" "heap" "I") ∈ gw := lw_m 299 (by decide +kernel)
theorem tb303 : (Jvm.Cond.fieldLink "StairGang" (206 : Nat) "StairGang$State" "sold" "I") ∈ gw := lw_m 303 (by decide +kernel)
theorem tb326 : (Jvm.Cond.fieldLink "StairGang" (198 : Nat) "StairGang$Said" "lineCount" "I") ∈ gw := lw_m 326 (by decide +kernel)
theorem tb328 : (Jvm.Cond.fieldLink "StairGang" (304 : Nat) "StairGang$Said" "seenCount" "I") ∈ gw := lw_m 328 (by decide +kernel)
theorem tb352 : (Jvm.Cond.fieldLink "StairGang" (307 : Nat) "StairGang$History" "count" "I") ∈ gw := lw_m 352 (by decide +kernel)
theorem tb853 : (Jvm.Cond.static ({ cls := "java/lang/Integer", name := "bitCount", desc := "(I)I" } : Jvm.MethodName)) ∈ gw := lw_m 853 (by decide +kernel)
theorem tb854 : (Jvm.Cond.code ({ cls := "java/lang/Integer", name := "bitCount", desc := "(I)I" } : Jvm.MethodName) prog_19_method_49_code (1 : Nat) (Option.some Jvm.ClassFile.FieldType.int)) ∈ gw := lw_m 854 (by decide +kernel)
theorem tb935 : (Jvm.Cond.methodLink "StairGang" (219 : Nat) ({ cls := "java/lang/Integer", name := "bitCount", desc := "(I)I" } : Jvm.MethodName)) ∈ gw := lw_m 935 (by decide +kernel)
theorem dX10_count_0 : decode cX10_count 0 = .ok (.iload_n 1, 1) := by decide +kernel
theorem dX10_count_1 : decode cX10_count 1 = .ok (.ifCond .lt 18, 3) := by decide +kernel
theorem dX10_count_4 : decode cX10_count 4 = .ok (.iload_n 1, 1) := by decide +kernel
theorem dX10_count_5 : decode cX10_count 5 = .ok (.iconst 4, 1) := by decide +kernel
theorem dX10_count_6 : decode cX10_count 6 = .ok (.if_icmp .gt 13, 3) := by decide +kernel
theorem dX10_count_9 : decode cX10_count 9 = .ok (.aload_n 0, 1) := by decide +kernel
theorem dX10_count_10 : decode cX10_count 10 = .ok (.getfield 35, 3) := by decide +kernel
theorem dX10_count_13 : decode cX10_count 13 = .ok (.getfield 261, 3) := by decide +kernel
theorem dX10_count_16 : decode cX10_count 16 = .ok (.iload_n 1, 1) := by decide +kernel
theorem dX10_count_17 : decode cX10_count 17 = .ok (.iaload, 1) := by decide +kernel
theorem dX10_count_18 : decode cX10_count 18 = .ok (.ireturn, 1) := by decide +kernel
theorem dX10_count_19 : decode cX10_count 19 = .ok (.iload_n 1, 1) := by decide +kernel
theorem dX10_count_20 : decode cX10_count 20 = .ok (.tableswitch 115 5 12 #[48, 56, 64, 72, 83, 91, 99, 107], 48) := by decide +kernel
theorem dX10_count_68 : decode cX10_count 68 = .ok (.aload_n 0, 1) := by decide +kernel
theorem dX10_count_69 : decode cX10_count 69 = .ok (.getfield 45, 3) := by decide +kernel
theorem dX10_count_72 : decode cX10_count 72 = .ok (.getfield 216, 3) := by decide +kernel
theorem dX10_count_75 : decode cX10_count 75 = .ok (.ireturn, 1) := by decide +kernel
theorem dX10_count_76 : decode cX10_count 76 = .ok (.aload_n 0, 1) := by decide +kernel
theorem dX10_count_77 : decode cX10_count 77 = .ok (.getfield 45, 3) := by decide +kernel
theorem dX10_count_80 : decode cX10_count 80 = .ok (.getfield 191, 3) := by decide +kernel
theorem dX10_count_83 : decode cX10_count 83 = .ok (.ireturn, 1) := by decide +kernel
theorem dX10_count_84 : decode cX10_count 84 = .ok (.aload_n 0, 1) := by decide +kernel
theorem dX10_count_85 : decode cX10_count 85 = .ok (.getfield 45, 3) := by decide +kernel
theorem dX10_count_88 : decode cX10_count 88 = .ok (.getfield 206, 3) := by decide +kernel
theorem dX10_count_91 : decode cX10_count 91 = .ok (.ireturn, 1) := by decide +kernel
theorem dX10_count_92 : decode cX10_count 92 = .ok (.aload_n 0, 1) := by decide +kernel
theorem dX10_count_93 : decode cX10_count 93 = .ok (.getfield 45, 3) := by decide +kernel
theorem dX10_count_96 : decode cX10_count 96 = .ok (.getfield 133, 3) := by decide +kernel
theorem dX10_count_99 : decode cX10_count 99 = .ok (.invokestatic 219, 3) := by decide +kernel
theorem dX10_count_102 : decode cX10_count 102 = .ok (.ireturn, 1) := by decide +kernel
theorem dX10_count_103 : decode cX10_count 103 = .ok (.aload_n 0, 1) := by decide +kernel
theorem dX10_count_104 : decode cX10_count 104 = .ok (.getfield 55, 3) := by decide +kernel
theorem dX10_count_107 : decode cX10_count 107 = .ok (.getfield 198, 3) := by decide +kernel
theorem dX10_count_110 : decode cX10_count 110 = .ok (.ireturn, 1) := by decide +kernel
theorem dX10_count_111 : decode cX10_count 111 = .ok (.aload_n 0, 1) := by decide +kernel
theorem dX10_count_112 : decode cX10_count 112 = .ok (.getfield 55, 3) := by decide +kernel
theorem dX10_count_115 : decode cX10_count 115 = .ok (.getfield 304, 3) := by decide +kernel
theorem dX10_count_118 : decode cX10_count 118 = .ok (.ireturn, 1) := by decide +kernel
theorem dX10_count_119 : decode cX10_count 119 = .ok (.aload_n 0, 1) := by decide +kernel
theorem dX10_count_120 : decode cX10_count 120 = .ok (.getfield 62, 3) := by decide +kernel
theorem dX10_count_123 : decode cX10_count 123 = .ok (.getfield 307, 3) := by decide +kernel
theorem dX10_count_126 : decode cX10_count 126 = .ok (.ireturn, 1) := by decide +kernel
theorem dX10_count_127 : decode cX10_count 127 = .ok (.aload_n 0, 1) := by decide +kernel
theorem dX10_count_128 : decode cX10_count 128 = .ok (.getfield 10, 3) := by decide +kernel
theorem dX10_count_131 : decode cX10_count 131 = .ok (.getfield 99, 3) := by decide +kernel
theorem dX10_count_134 : decode cX10_count 134 = .ok (.ireturn, 1) := by decide +kernel
theorem dX10_count_135 : decode cX10_count 135 = .ok (.iconst (-1), 1) := by decide +kernel
theorem dX10_count_136 : decode cX10_count 136 = .ok (.ireturn, 1) := by decide +kernel
set_option maxHeartbeats 4000000 in
set_option maxRecDepth 100000 in
theorem x_count_lo (l : Launch) (g : va_G) (aC : Nat → ClassId) (aM : Nat → Nat) (h1 h2 h5 h7 h9 h10 h27 : Nat) (x3 x4 x6 x8 x11 x12 x13 x14 x15 x16 x17 x18 x19 x20 x21 x22 x23 x24 x25 x26 x28 x29 x30 x31 x32 x33 x34 x35 x36 x37 x38 x39 x40 x41 x42 x43 x44 x45 : Value) (n_1 : Int32) (hh1 : n_1 ≤ (-1)) : Ct l g aC aM yX10_count cX10_count 2 (some .int) 2 [.ref h1, .int n_1] [(h1, .inr (10, [.ref h2, x3, x4, .ref h5, x6, .ref h7, x8, .ref h9, .ref h10, x11, x12, x13, x14, x15, x16, x17])), (h2, .inr (7, [.int 0, x18, x19, x20, x21, x22, x23, x24, x25, x26])), (h5, .inr (8, [.ref h27, x28, x29, x30, x31, x32, x33, x34, x35, x36, x37, x38])), (h27, .inl (aC 0, 5, .inl (fun _ => 0))), (h7, .inr (6, [.int 0, x39, x40, .int 0, .int 0, .int 0])), (h9, .inr (5, [x41, .int 0, .int 0, x42, x43])), (h10, .inr (1, [.int 0, x44, x45]))] (QI g (fun (r : Int32) (_ : Unit) => r = (-1)) (fun (_ : Unit) => [])) 0 0 := by
  refine Ct.mk (by decide) (Nat.le_of_ble_eq_true rfl) ?_
  intro p e s m below meth c A ls hx hb hml hown hts hr hlk hnm hK hA hM hM2 hP hD hS hl
  have hown : s.vm.findClass RX10 = some m.cls := hown
  have F : Fx p s m _ c cX10_count 2 RX10 g aC aM A := ⟨hx, hb, hml, hown, hts, hK, hA, hM, hM2⟩
  have hl : lv_has ls 2 [(0, .ref h1), (1, .int n_1)] := hl
  refine lv_iload_n hx hb dX10_count_0 rfl (lv_at hl 1 rfl) ?_
  refine lv_if_lt (tgt := 19) hx hb dX10_count_1 (by decide) (fun c1 => ?_) (fun c1 => ?_)
  · refine lv_iload_n hx hb dX10_count_19 rfl (lv_at hl 1 rfl) ?_
    refine lv_tableOut (tgt := 135) hx hb dX10_count_20 (by have a0_ := hh1; have a1_ := c1; simp only [Int32.lt_iff_toInt_lt, Int32.le_iff_toInt_le, show (-1 : Int32).toInt = -1 by decide, show (0 : Int32).toInt = 0 by decide] at a0_ a1_; omega) (by decide) ?_
    refine lv_iconst (v := (-1)) hx hb dX10_count_135 (by decide) ?_
    have hP9 := hP.sub (ws' := []) [] rfl
    have hD9 := hD.sub (ws' := []) [] (by decide) rfl
    exact rI () hx hb hr hlk rfl hS rfl hP9 hD9 (Nat.le_of_ble_eq_true rfl) (Nat.le_of_ble_eq_true rfl) dX10_count_136
  · exfalso
    simp only [Int32.lt_iff_toInt_lt, Int32.le_iff_toInt_le, ← Int32.toInt_inj, show (-1 : Int32).toInt = -1 by decide, show (0 : Int32).toInt = 0 by decide] at hh1 c1; omega

set_option maxHeartbeats 4000000 in
set_option maxRecDepth 100000 in
theorem x_count_hi (l : Launch) (g : va_G) (aC : Nat → ClassId) (aM : Nat → Nat) (h1 h2 h5 h7 h9 h10 h27 : Nat) (x3 x4 x6 x8 x11 x12 x13 x14 x15 x16 x17 x18 x19 x20 x21 x22 x23 x24 x25 x26 x28 x29 x30 x31 x32 x33 x34 x35 x36 x37 x38 x39 x40 x41 x42 x43 x44 x45 : Value) (n_1 : Int32) (hl1 : 13 ≤ n_1) : Ct l g aC aM yX10_count cX10_count 2 (some .int) 2 [.ref h1, .int n_1] [(h1, .inr (10, [.ref h2, x3, x4, .ref h5, x6, .ref h7, x8, .ref h9, .ref h10, x11, x12, x13, x14, x15, x16, x17])), (h2, .inr (7, [.int 0, x18, x19, x20, x21, x22, x23, x24, x25, x26])), (h5, .inr (8, [.ref h27, x28, x29, x30, x31, x32, x33, x34, x35, x36, x37, x38])), (h27, .inl (aC 0, 5, .inl (fun _ => 0))), (h7, .inr (6, [.int 0, x39, x40, .int 0, .int 0, .int 0])), (h9, .inr (5, [x41, .int 0, .int 0, x42, x43])), (h10, .inr (1, [.int 0, x44, x45]))] (QI g (fun (r : Int32) (_ : Unit) => r = (-1)) (fun (_ : Unit) => [])) 0 0 := by
  refine Ct.mk (by decide) (Nat.le_of_ble_eq_true rfl) ?_
  intro p e s m below meth c A ls hx hb hml hown hts hr hlk hnm hK hA hM hM2 hP hD hS hl
  have hown : s.vm.findClass RX10 = some m.cls := hown
  have F : Fx p s m _ c cX10_count 2 RX10 g aC aM A := ⟨hx, hb, hml, hown, hts, hK, hA, hM, hM2⟩
  have hl : lv_has ls 2 [(0, .ref h1), (1, .int n_1)] := hl
  refine lv_iload_n hx hb dX10_count_0 rfl (lv_at hl 1 rfl) ?_
  refine lv_if_lt (tgt := 19) hx hb dX10_count_1 (by decide) (fun c1 => ?_) (fun c1 => ?_)
  · exfalso
    simp only [Int32.lt_iff_toInt_lt, Int32.le_iff_toInt_le, ← Int32.toInt_inj, show (0 : Int32).toInt = 0 by decide, show (13 : Int32).toInt = 13 by decide] at hl1 c1; omega
  · refine lv_iload_n hx hb dX10_count_4 rfl (lv_at hl 1 rfl) ?_
    refine lv_iconst (v := 4) hx hb dX10_count_5 (by decide) ?_
    refine lv_icmp_gt (tgt := 19) hx hb dX10_count_6 (by decide) (fun c2 => ?_) (fun c2 => ?_)
    · refine lv_iload_n hx hb dX10_count_19 rfl (lv_at hl 1 rfl) ?_
      refine lv_tableOut (tgt := 135) hx hb dX10_count_20 (by have a0_ := hl1; have a1_ := c1; have a2_ := c2; simp only [Int32.lt_iff_toInt_lt, Int32.le_iff_toInt_le, show (0 : Int32).toInt = 0 by decide, show (4 : Int32).toInt = 4 by decide, show (13 : Int32).toInt = 13 by decide] at a0_ a1_ a2_; omega) (by decide) ?_
      refine lv_iconst (v := (-1)) hx hb dX10_count_135 (by decide) ?_
      have hP9 := hP.sub (ws' := []) [] rfl
      have hD9 := hD.sub (ws' := []) [] (by decide) rfl
      exact rI () hx hb hr hlk rfl hS rfl hP9 hD9 (Nat.le_of_ble_eq_true rfl) (Nat.le_of_ble_eq_true rfl) dX10_count_136
    · exfalso
      simp only [Int32.lt_iff_toInt_lt, Int32.le_iff_toInt_le, ← Int32.toInt_inj, show (0 : Int32).toInt = 0 by decide, show (4 : Int32).toInt = 4 by decide, show (13 : Int32).toInt = 13 by decide] at hl1 c1 c2; omega

set_option maxHeartbeats 4000000 in
set_option maxRecDepth 100000 in
theorem x_count_0 (l : Launch) (g : va_G) (aC : Nat → ClassId) (aM : Nat → Nat) (h1 h2 h5 h7 h9 h10 h27 : Nat) (x3 x4 x6 x8 x11 x12 x13 x14 x15 x16 x17 x18 x19 x20 x21 x22 x23 x24 x25 x26 x28 x29 x30 x31 x32 x33 x34 x35 x36 x37 x38 x39 x40 x41 x42 x43 x44 x45 : Value) : Ct l g aC aM yX10_count cX10_count 2 (some .int) 2 [.ref h1, .int 0] [(h1, .inr (10, [.ref h2, x3, x4, .ref h5, x6, .ref h7, x8, .ref h9, .ref h10, x11, x12, x13, x14, x15, x16, x17])), (h2, .inr (7, [.int 0, x18, x19, x20, x21, x22, x23, x24, x25, x26])), (h5, .inr (8, [.ref h27, x28, x29, x30, x31, x32, x33, x34, x35, x36, x37, x38])), (h27, .inl (aC 0, 5, .inl (fun _ => 0))), (h7, .inr (6, [.int 0, x39, x40, .int 0, .int 0, .int 0])), (h9, .inr (5, [x41, .int 0, .int 0, x42, x43])), (h10, .inr (1, [.int 0, x44, x45]))] (QI g (fun (r : Int32) (_ : Unit) => r = 0) (fun (_ : Unit) => [])) 0 0 := by
  refine Ct.mk (by decide) (Nat.le_of_ble_eq_true rfl) ?_
  intro p e s m below meth c A ls hx hb hml hown hts hr hlk hnm hK hA hM hM2 hP hD hS hl
  have hown : s.vm.findClass RX10 = some m.cls := hown
  have F : Fx p s m _ c cX10_count 2 RX10 g aC aM A := ⟨hx, hb, hml, hown, hts, hK, hA, hM, hM2⟩
  have hl : lv_has ls 2 [(0, .ref h1), (1, .int 0)] := hl
  refine lv_iload_n hx hb dX10_count_0 rfl (lv_at hl 1 rfl) ?_
  refine lv_if_lt (tgt := 19) hx hb dX10_count_1 (by decide) (fun c_ => absurd c_ (by decide +kernel)) (fun _ => ?_)
  refine lv_iload_n hx hb dX10_count_4 rfl (lv_at hl 1 rfl) ?_
  refine lv_iconst (v := 4) hx hb dX10_count_5 (by decide) ?_
  refine lv_icmp_gt (tgt := 19) hx hb dX10_count_6 (by decide) (fun c_ => absurd c_ (by decide +kernel)) (fun _ => ?_)
  refine lv_aload_n hx hb dX10_count_9 rfl (lv_at hl 0 rfl) ?_
  refine xget F hP 0 rfl rfl inX10 3 (by decide) tb403 rfl dX10_count_10 ?_
  refine xget F hP 2 rfl rfl inX8 0 (by decide) tb231 rfl dX10_count_13 ?_
  refine lv_iload_n hx hb dX10_count_16 rfl (lv_at hl 1 rfl) ?_
  refine xilo (v := 0) F hP 3 rfl 0 (by decide +kernel) (by decide +kernel) (by decide) (by decide +kernel) dX10_count_17 ?_
  have hP9 := hP.sub (ws' := []) [] rfl
  have hD9 := hD.sub (ws' := []) [] (by decide) rfl
  exact rI () hx hb hr hlk rfl hS rfl hP9 hD9 (Nat.le_of_ble_eq_true rfl) (Nat.le_of_ble_eq_true rfl) dX10_count_18

set_option maxHeartbeats 4000000 in
set_option maxRecDepth 100000 in
theorem x_count_1 (l : Launch) (g : va_G) (aC : Nat → ClassId) (aM : Nat → Nat) (h1 h2 h5 h7 h9 h10 h27 : Nat) (x3 x4 x6 x8 x11 x12 x13 x14 x15 x16 x17 x18 x19 x20 x21 x22 x23 x24 x25 x26 x28 x29 x30 x31 x32 x33 x34 x35 x36 x37 x38 x39 x40 x41 x42 x43 x44 x45 : Value) : Ct l g aC aM yX10_count cX10_count 2 (some .int) 2 [.ref h1, .int 1] [(h1, .inr (10, [.ref h2, x3, x4, .ref h5, x6, .ref h7, x8, .ref h9, .ref h10, x11, x12, x13, x14, x15, x16, x17])), (h2, .inr (7, [.int 0, x18, x19, x20, x21, x22, x23, x24, x25, x26])), (h5, .inr (8, [.ref h27, x28, x29, x30, x31, x32, x33, x34, x35, x36, x37, x38])), (h27, .inl (aC 0, 5, .inl (fun _ => 0))), (h7, .inr (6, [.int 0, x39, x40, .int 0, .int 0, .int 0])), (h9, .inr (5, [x41, .int 0, .int 0, x42, x43])), (h10, .inr (1, [.int 0, x44, x45]))] (QI g (fun (r : Int32) (_ : Unit) => r = 0) (fun (_ : Unit) => [])) 0 0 := by
  refine Ct.mk (by decide) (Nat.le_of_ble_eq_true rfl) ?_
  intro p e s m below meth c A ls hx hb hml hown hts hr hlk hnm hK hA hM hM2 hP hD hS hl
  have hown : s.vm.findClass RX10 = some m.cls := hown
  have F : Fx p s m _ c cX10_count 2 RX10 g aC aM A := ⟨hx, hb, hml, hown, hts, hK, hA, hM, hM2⟩
  have hl : lv_has ls 2 [(0, .ref h1), (1, .int 1)] := hl
  refine lv_iload_n hx hb dX10_count_0 rfl (lv_at hl 1 rfl) ?_
  refine lv_if_lt (tgt := 19) hx hb dX10_count_1 (by decide) (fun c_ => absurd c_ (by decide +kernel)) (fun _ => ?_)
  refine lv_iload_n hx hb dX10_count_4 rfl (lv_at hl 1 rfl) ?_
  refine lv_iconst (v := 4) hx hb dX10_count_5 (by decide) ?_
  refine lv_icmp_gt (tgt := 19) hx hb dX10_count_6 (by decide) (fun c_ => absurd c_ (by decide +kernel)) (fun _ => ?_)
  refine lv_aload_n hx hb dX10_count_9 rfl (lv_at hl 0 rfl) ?_
  refine xget F hP 0 rfl rfl inX10 3 (by decide) tb403 rfl dX10_count_10 ?_
  refine xget F hP 2 rfl rfl inX8 0 (by decide) tb231 rfl dX10_count_13 ?_
  refine lv_iload_n hx hb dX10_count_16 rfl (lv_at hl 1 rfl) ?_
  refine xilo (v := 0) F hP 3 rfl 1 (by decide +kernel) (by decide +kernel) (by decide) (by decide +kernel) dX10_count_17 ?_
  have hP9 := hP.sub (ws' := []) [] rfl
  have hD9 := hD.sub (ws' := []) [] (by decide) rfl
  exact rI () hx hb hr hlk rfl hS rfl hP9 hD9 (Nat.le_of_ble_eq_true rfl) (Nat.le_of_ble_eq_true rfl) dX10_count_18

set_option maxHeartbeats 4000000 in
set_option maxRecDepth 100000 in
theorem x_count_2 (l : Launch) (g : va_G) (aC : Nat → ClassId) (aM : Nat → Nat) (h1 h2 h5 h7 h9 h10 h27 : Nat) (x3 x4 x6 x8 x11 x12 x13 x14 x15 x16 x17 x18 x19 x20 x21 x22 x23 x24 x25 x26 x28 x29 x30 x31 x32 x33 x34 x35 x36 x37 x38 x39 x40 x41 x42 x43 x44 x45 : Value) : Ct l g aC aM yX10_count cX10_count 2 (some .int) 2 [.ref h1, .int 2] [(h1, .inr (10, [.ref h2, x3, x4, .ref h5, x6, .ref h7, x8, .ref h9, .ref h10, x11, x12, x13, x14, x15, x16, x17])), (h2, .inr (7, [.int 0, x18, x19, x20, x21, x22, x23, x24, x25, x26])), (h5, .inr (8, [.ref h27, x28, x29, x30, x31, x32, x33, x34, x35, x36, x37, x38])), (h27, .inl (aC 0, 5, .inl (fun _ => 0))), (h7, .inr (6, [.int 0, x39, x40, .int 0, .int 0, .int 0])), (h9, .inr (5, [x41, .int 0, .int 0, x42, x43])), (h10, .inr (1, [.int 0, x44, x45]))] (QI g (fun (r : Int32) (_ : Unit) => r = 0) (fun (_ : Unit) => [])) 0 0 := by
  refine Ct.mk (by decide) (Nat.le_of_ble_eq_true rfl) ?_
  intro p e s m below meth c A ls hx hb hml hown hts hr hlk hnm hK hA hM hM2 hP hD hS hl
  have hown : s.vm.findClass RX10 = some m.cls := hown
  have F : Fx p s m _ c cX10_count 2 RX10 g aC aM A := ⟨hx, hb, hml, hown, hts, hK, hA, hM, hM2⟩
  have hl : lv_has ls 2 [(0, .ref h1), (1, .int 2)] := hl
  refine lv_iload_n hx hb dX10_count_0 rfl (lv_at hl 1 rfl) ?_
  refine lv_if_lt (tgt := 19) hx hb dX10_count_1 (by decide) (fun c_ => absurd c_ (by decide +kernel)) (fun _ => ?_)
  refine lv_iload_n hx hb dX10_count_4 rfl (lv_at hl 1 rfl) ?_
  refine lv_iconst (v := 4) hx hb dX10_count_5 (by decide) ?_
  refine lv_icmp_gt (tgt := 19) hx hb dX10_count_6 (by decide) (fun c_ => absurd c_ (by decide +kernel)) (fun _ => ?_)
  refine lv_aload_n hx hb dX10_count_9 rfl (lv_at hl 0 rfl) ?_
  refine xget F hP 0 rfl rfl inX10 3 (by decide) tb403 rfl dX10_count_10 ?_
  refine xget F hP 2 rfl rfl inX8 0 (by decide) tb231 rfl dX10_count_13 ?_
  refine lv_iload_n hx hb dX10_count_16 rfl (lv_at hl 1 rfl) ?_
  refine xilo (v := 0) F hP 3 rfl 2 (by decide +kernel) (by decide +kernel) (by decide) (by decide +kernel) dX10_count_17 ?_
  have hP9 := hP.sub (ws' := []) [] rfl
  have hD9 := hD.sub (ws' := []) [] (by decide) rfl
  exact rI () hx hb hr hlk rfl hS rfl hP9 hD9 (Nat.le_of_ble_eq_true rfl) (Nat.le_of_ble_eq_true rfl) dX10_count_18

set_option maxHeartbeats 4000000 in
set_option maxRecDepth 100000 in
theorem x_count_3 (l : Launch) (g : va_G) (aC : Nat → ClassId) (aM : Nat → Nat) (h1 h2 h5 h7 h9 h10 h27 : Nat) (x3 x4 x6 x8 x11 x12 x13 x14 x15 x16 x17 x18 x19 x20 x21 x22 x23 x24 x25 x26 x28 x29 x30 x31 x32 x33 x34 x35 x36 x37 x38 x39 x40 x41 x42 x43 x44 x45 : Value) : Ct l g aC aM yX10_count cX10_count 2 (some .int) 2 [.ref h1, .int 3] [(h1, .inr (10, [.ref h2, x3, x4, .ref h5, x6, .ref h7, x8, .ref h9, .ref h10, x11, x12, x13, x14, x15, x16, x17])), (h2, .inr (7, [.int 0, x18, x19, x20, x21, x22, x23, x24, x25, x26])), (h5, .inr (8, [.ref h27, x28, x29, x30, x31, x32, x33, x34, x35, x36, x37, x38])), (h27, .inl (aC 0, 5, .inl (fun _ => 0))), (h7, .inr (6, [.int 0, x39, x40, .int 0, .int 0, .int 0])), (h9, .inr (5, [x41, .int 0, .int 0, x42, x43])), (h10, .inr (1, [.int 0, x44, x45]))] (QI g (fun (r : Int32) (_ : Unit) => r = 0) (fun (_ : Unit) => [])) 0 0 := by
  refine Ct.mk (by decide) (Nat.le_of_ble_eq_true rfl) ?_
  intro p e s m below meth c A ls hx hb hml hown hts hr hlk hnm hK hA hM hM2 hP hD hS hl
  have hown : s.vm.findClass RX10 = some m.cls := hown
  have F : Fx p s m _ c cX10_count 2 RX10 g aC aM A := ⟨hx, hb, hml, hown, hts, hK, hA, hM, hM2⟩
  have hl : lv_has ls 2 [(0, .ref h1), (1, .int 3)] := hl
  refine lv_iload_n hx hb dX10_count_0 rfl (lv_at hl 1 rfl) ?_
  refine lv_if_lt (tgt := 19) hx hb dX10_count_1 (by decide) (fun c_ => absurd c_ (by decide +kernel)) (fun _ => ?_)
  refine lv_iload_n hx hb dX10_count_4 rfl (lv_at hl 1 rfl) ?_
  refine lv_iconst (v := 4) hx hb dX10_count_5 (by decide) ?_
  refine lv_icmp_gt (tgt := 19) hx hb dX10_count_6 (by decide) (fun c_ => absurd c_ (by decide +kernel)) (fun _ => ?_)
  refine lv_aload_n hx hb dX10_count_9 rfl (lv_at hl 0 rfl) ?_
  refine xget F hP 0 rfl rfl inX10 3 (by decide) tb403 rfl dX10_count_10 ?_
  refine xget F hP 2 rfl rfl inX8 0 (by decide) tb231 rfl dX10_count_13 ?_
  refine lv_iload_n hx hb dX10_count_16 rfl (lv_at hl 1 rfl) ?_
  refine xilo (v := 0) F hP 3 rfl 3 (by decide +kernel) (by decide +kernel) (by decide) (by decide +kernel) dX10_count_17 ?_
  have hP9 := hP.sub (ws' := []) [] rfl
  have hD9 := hD.sub (ws' := []) [] (by decide) rfl
  exact rI () hx hb hr hlk rfl hS rfl hP9 hD9 (Nat.le_of_ble_eq_true rfl) (Nat.le_of_ble_eq_true rfl) dX10_count_18

set_option maxHeartbeats 4000000 in
set_option maxRecDepth 100000 in
theorem x_count_4 (l : Launch) (g : va_G) (aC : Nat → ClassId) (aM : Nat → Nat) (h1 h2 h5 h7 h9 h10 h27 : Nat) (x3 x4 x6 x8 x11 x12 x13 x14 x15 x16 x17 x18 x19 x20 x21 x22 x23 x24 x25 x26 x28 x29 x30 x31 x32 x33 x34 x35 x36 x37 x38 x39 x40 x41 x42 x43 x44 x45 : Value) : Ct l g aC aM yX10_count cX10_count 2 (some .int) 2 [.ref h1, .int 4] [(h1, .inr (10, [.ref h2, x3, x4, .ref h5, x6, .ref h7, x8, .ref h9, .ref h10, x11, x12, x13, x14, x15, x16, x17])), (h2, .inr (7, [.int 0, x18, x19, x20, x21, x22, x23, x24, x25, x26])), (h5, .inr (8, [.ref h27, x28, x29, x30, x31, x32, x33, x34, x35, x36, x37, x38])), (h27, .inl (aC 0, 5, .inl (fun _ => 0))), (h7, .inr (6, [.int 0, x39, x40, .int 0, .int 0, .int 0])), (h9, .inr (5, [x41, .int 0, .int 0, x42, x43])), (h10, .inr (1, [.int 0, x44, x45]))] (QI g (fun (r : Int32) (_ : Unit) => r = 0) (fun (_ : Unit) => [])) 0 0 := by
  refine Ct.mk (by decide) (Nat.le_of_ble_eq_true rfl) ?_
  intro p e s m below meth c A ls hx hb hml hown hts hr hlk hnm hK hA hM hM2 hP hD hS hl
  have hown : s.vm.findClass RX10 = some m.cls := hown
  have F : Fx p s m _ c cX10_count 2 RX10 g aC aM A := ⟨hx, hb, hml, hown, hts, hK, hA, hM, hM2⟩
  have hl : lv_has ls 2 [(0, .ref h1), (1, .int 4)] := hl
  refine lv_iload_n hx hb dX10_count_0 rfl (lv_at hl 1 rfl) ?_
  refine lv_if_lt (tgt := 19) hx hb dX10_count_1 (by decide) (fun c_ => absurd c_ (by decide +kernel)) (fun _ => ?_)
  refine lv_iload_n hx hb dX10_count_4 rfl (lv_at hl 1 rfl) ?_
  refine lv_iconst (v := 4) hx hb dX10_count_5 (by decide) ?_
  refine lv_icmp_gt (tgt := 19) hx hb dX10_count_6 (by decide) (fun c_ => absurd c_ (by decide +kernel)) (fun _ => ?_)
  refine lv_aload_n hx hb dX10_count_9 rfl (lv_at hl 0 rfl) ?_
  refine xget F hP 0 rfl rfl inX10 3 (by decide) tb403 rfl dX10_count_10 ?_
  refine xget F hP 2 rfl rfl inX8 0 (by decide) tb231 rfl dX10_count_13 ?_
  refine lv_iload_n hx hb dX10_count_16 rfl (lv_at hl 1 rfl) ?_
  refine xilo (v := 0) F hP 3 rfl 4 (by decide +kernel) (by decide +kernel) (by decide) (by decide +kernel) dX10_count_17 ?_
  have hP9 := hP.sub (ws' := []) [] rfl
  have hD9 := hD.sub (ws' := []) [] (by decide) rfl
  exact rI () hx hb hr hlk rfl hS rfl hP9 hD9 (Nat.le_of_ble_eq_true rfl) (Nat.le_of_ble_eq_true rfl) dX10_count_18

set_option maxHeartbeats 4000000 in
set_option maxRecDepth 100000 in
theorem x_count_5 (l : Launch) (g : va_G) (aC : Nat → ClassId) (aM : Nat → Nat) (h1 h2 h5 h7 h9 h10 h27 : Nat) (x3 x4 x6 x8 x11 x12 x13 x14 x15 x16 x17 x18 x19 x20 x21 x22 x23 x24 x25 x26 x28 x29 x30 x31 x32 x33 x34 x35 x36 x37 x38 x39 x40 x41 x42 x43 x44 x45 : Value) : Ct l g aC aM yX10_count cX10_count 2 (some .int) 2 [.ref h1, .int 5] [(h1, .inr (10, [.ref h2, x3, x4, .ref h5, x6, .ref h7, x8, .ref h9, .ref h10, x11, x12, x13, x14, x15, x16, x17])), (h2, .inr (7, [.int 0, x18, x19, x20, x21, x22, x23, x24, x25, x26])), (h5, .inr (8, [.ref h27, x28, x29, x30, x31, x32, x33, x34, x35, x36, x37, x38])), (h27, .inl (aC 0, 5, .inl (fun _ => 0))), (h7, .inr (6, [.int 0, x39, x40, .int 0, .int 0, .int 0])), (h9, .inr (5, [x41, .int 0, .int 0, x42, x43])), (h10, .inr (1, [.int 0, x44, x45]))] (QI g (fun (r : Int32) (_ : Unit) => r = 0) (fun (_ : Unit) => [])) 0 0 := by
  refine Ct.mk (by decide) (Nat.le_of_ble_eq_true rfl) ?_
  intro p e s m below meth c A ls hx hb hml hown hts hr hlk hnm hK hA hM hM2 hP hD hS hl
  have hown : s.vm.findClass RX10 = some m.cls := hown
  have F : Fx p s m _ c cX10_count 2 RX10 g aC aM A := ⟨hx, hb, hml, hown, hts, hK, hA, hM, hM2⟩
  have hl : lv_has ls 2 [(0, .ref h1), (1, .int 5)] := hl
  refine lv_iload_n hx hb dX10_count_0 rfl (lv_at hl 1 rfl) ?_
  refine lv_if_lt (tgt := 19) hx hb dX10_count_1 (by decide) (fun c_ => absurd c_ (by decide +kernel)) (fun _ => ?_)
  refine lv_iload_n hx hb dX10_count_4 rfl (lv_at hl 1 rfl) ?_
  refine lv_iconst (v := 4) hx hb dX10_count_5 (by decide) ?_
  refine lv_icmp_gt (tgt := 19) hx hb dX10_count_6 (by decide) (fun _ => ?_) (fun c_ => absurd (by decide +kernel) c_)
  refine lv_iload_n hx hb dX10_count_19 rfl (lv_at hl 1 rfl) ?_
  refine lv_tableIn (off := 48) (tgt := 68) hx hb dX10_count_20 (by decide +kernel) (by decide +kernel) (by decide +kernel) (by decide) ?_
  refine lv_aload_n hx hb dX10_count_68 rfl (lv_at hl 0 rfl) ?_
  refine xget F hP 0 rfl rfl inX10 5 (by decide) tb405 rfl dX10_count_69 ?_
  refine xget F hP 4 rfl rfl inX6 3 (by decide) tb299 rfl dX10_count_72 ?_
  have hP9 := hP.sub (ws' := []) [] rfl
  have hD9 := hD.sub (ws' := []) [] (by decide) rfl
  exact rI () hx hb hr hlk rfl hS rfl hP9 hD9 (Nat.le_of_ble_eq_true rfl) (Nat.le_of_ble_eq_true rfl) dX10_count_75

set_option maxHeartbeats 4000000 in
set_option maxRecDepth 100000 in
theorem x_count_6 (l : Launch) (g : va_G) (aC : Nat → ClassId) (aM : Nat → Nat) (h1 h2 h5 h7 h9 h10 h27 : Nat) (x3 x4 x6 x8 x11 x12 x13 x14 x15 x16 x17 x18 x19 x20 x21 x22 x23 x24 x25 x26 x28 x29 x30 x31 x32 x33 x34 x35 x36 x37 x38 x39 x40 x41 x42 x43 x44 x45 : Value) : Ct l g aC aM yX10_count cX10_count 2 (some .int) 2 [.ref h1, .int 6] [(h1, .inr (10, [.ref h2, x3, x4, .ref h5, x6, .ref h7, x8, .ref h9, .ref h10, x11, x12, x13, x14, x15, x16, x17])), (h2, .inr (7, [.int 0, x18, x19, x20, x21, x22, x23, x24, x25, x26])), (h5, .inr (8, [.ref h27, x28, x29, x30, x31, x32, x33, x34, x35, x36, x37, x38])), (h27, .inl (aC 0, 5, .inl (fun _ => 0))), (h7, .inr (6, [.int 0, x39, x40, .int 0, .int 0, .int 0])), (h9, .inr (5, [x41, .int 0, .int 0, x42, x43])), (h10, .inr (1, [.int 0, x44, x45]))] (QI g (fun (r : Int32) (_ : Unit) => r = 0) (fun (_ : Unit) => [])) 0 0 := by
  refine Ct.mk (by decide) (Nat.le_of_ble_eq_true rfl) ?_
  intro p e s m below meth c A ls hx hb hml hown hts hr hlk hnm hK hA hM hM2 hP hD hS hl
  have hown : s.vm.findClass RX10 = some m.cls := hown
  have F : Fx p s m _ c cX10_count 2 RX10 g aC aM A := ⟨hx, hb, hml, hown, hts, hK, hA, hM, hM2⟩
  have hl : lv_has ls 2 [(0, .ref h1), (1, .int 6)] := hl
  refine lv_iload_n hx hb dX10_count_0 rfl (lv_at hl 1 rfl) ?_
  refine lv_if_lt (tgt := 19) hx hb dX10_count_1 (by decide) (fun c_ => absurd c_ (by decide +kernel)) (fun _ => ?_)
  refine lv_iload_n hx hb dX10_count_4 rfl (lv_at hl 1 rfl) ?_
  refine lv_iconst (v := 4) hx hb dX10_count_5 (by decide) ?_
  refine lv_icmp_gt (tgt := 19) hx hb dX10_count_6 (by decide) (fun _ => ?_) (fun c_ => absurd (by decide +kernel) c_)
  refine lv_iload_n hx hb dX10_count_19 rfl (lv_at hl 1 rfl) ?_
  refine lv_tableIn (off := 56) (tgt := 76) hx hb dX10_count_20 (by decide +kernel) (by decide +kernel) (by decide +kernel) (by decide) ?_
  refine lv_aload_n hx hb dX10_count_76 rfl (lv_at hl 0 rfl) ?_
  refine xget F hP 0 rfl rfl inX10 5 (by decide) tb405 rfl dX10_count_77 ?_
  refine xget F hP 4 rfl rfl inX6 4 (by decide) tb301 rfl dX10_count_80 ?_
  have hP9 := hP.sub (ws' := []) [] rfl
  have hD9 := hD.sub (ws' := []) [] (by decide) rfl
  exact rI () hx hb hr hlk rfl hS rfl hP9 hD9 (Nat.le_of_ble_eq_true rfl) (Nat.le_of_ble_eq_true rfl) dX10_count_83

set_option maxHeartbeats 4000000 in
set_option maxRecDepth 100000 in
theorem x_count_7 (l : Launch) (g : va_G) (aC : Nat → ClassId) (aM : Nat → Nat) (h1 h2 h5 h7 h9 h10 h27 : Nat) (x3 x4 x6 x8 x11 x12 x13 x14 x15 x16 x17 x18 x19 x20 x21 x22 x23 x24 x25 x26 x28 x29 x30 x31 x32 x33 x34 x35 x36 x37 x38 x39 x40 x41 x42 x43 x44 x45 : Value) : Ct l g aC aM yX10_count cX10_count 2 (some .int) 2 [.ref h1, .int 7] [(h1, .inr (10, [.ref h2, x3, x4, .ref h5, x6, .ref h7, x8, .ref h9, .ref h10, x11, x12, x13, x14, x15, x16, x17])), (h2, .inr (7, [.int 0, x18, x19, x20, x21, x22, x23, x24, x25, x26])), (h5, .inr (8, [.ref h27, x28, x29, x30, x31, x32, x33, x34, x35, x36, x37, x38])), (h27, .inl (aC 0, 5, .inl (fun _ => 0))), (h7, .inr (6, [.int 0, x39, x40, .int 0, .int 0, .int 0])), (h9, .inr (5, [x41, .int 0, .int 0, x42, x43])), (h10, .inr (1, [.int 0, x44, x45]))] (QI g (fun (r : Int32) (_ : Unit) => r = 0) (fun (_ : Unit) => [])) 0 0 := by
  refine Ct.mk (by decide) (Nat.le_of_ble_eq_true rfl) ?_
  intro p e s m below meth c A ls hx hb hml hown hts hr hlk hnm hK hA hM hM2 hP hD hS hl
  have hown : s.vm.findClass RX10 = some m.cls := hown
  have F : Fx p s m _ c cX10_count 2 RX10 g aC aM A := ⟨hx, hb, hml, hown, hts, hK, hA, hM, hM2⟩
  have hl : lv_has ls 2 [(0, .ref h1), (1, .int 7)] := hl
  refine lv_iload_n hx hb dX10_count_0 rfl (lv_at hl 1 rfl) ?_
  refine lv_if_lt (tgt := 19) hx hb dX10_count_1 (by decide) (fun c_ => absurd c_ (by decide +kernel)) (fun _ => ?_)
  refine lv_iload_n hx hb dX10_count_4 rfl (lv_at hl 1 rfl) ?_
  refine lv_iconst (v := 4) hx hb dX10_count_5 (by decide) ?_
  refine lv_icmp_gt (tgt := 19) hx hb dX10_count_6 (by decide) (fun _ => ?_) (fun c_ => absurd (by decide +kernel) c_)
  refine lv_iload_n hx hb dX10_count_19 rfl (lv_at hl 1 rfl) ?_
  refine lv_tableIn (off := 64) (tgt := 84) hx hb dX10_count_20 (by decide +kernel) (by decide +kernel) (by decide +kernel) (by decide) ?_
  refine lv_aload_n hx hb dX10_count_84 rfl (lv_at hl 0 rfl) ?_
  refine xget F hP 0 rfl rfl inX10 5 (by decide) tb405 rfl dX10_count_85 ?_
  refine xget F hP 4 rfl rfl inX6 5 (by decide) tb303 rfl dX10_count_88 ?_
  have hP9 := hP.sub (ws' := []) [] rfl
  have hD9 := hD.sub (ws' := []) [] (by decide) rfl
  exact rI () hx hb hr hlk rfl hS rfl hP9 hD9 (Nat.le_of_ble_eq_true rfl) (Nat.le_of_ble_eq_true rfl) dX10_count_91

set_option maxHeartbeats 4000000 in
set_option maxRecDepth 100000 in
theorem x_count_8 (l : Launch) (g : va_G) (aC : Nat → ClassId) (aM : Nat → Nat) (h1 h2 h5 h7 h9 h10 h27 : Nat) (x3 x4 x6 x8 x11 x12 x13 x14 x15 x16 x17 x18 x19 x20 x21 x22 x23 x24 x25 x26 x28 x29 x30 x31 x32 x33 x34 x35 x36 x37 x38 x39 x40 x41 x42 x43 x44 x45 : Value) : Ct l g aC aM yX10_count cX10_count 2 (some .int) 2 [.ref h1, .int 8] [(h1, .inr (10, [.ref h2, x3, x4, .ref h5, x6, .ref h7, x8, .ref h9, .ref h10, x11, x12, x13, x14, x15, x16, x17])), (h2, .inr (7, [.int 0, x18, x19, x20, x21, x22, x23, x24, x25, x26])), (h5, .inr (8, [.ref h27, x28, x29, x30, x31, x32, x33, x34, x35, x36, x37, x38])), (h27, .inl (aC 0, 5, .inl (fun _ => 0))), (h7, .inr (6, [.int 0, x39, x40, .int 0, .int 0, .int 0])), (h9, .inr (5, [x41, .int 0, .int 0, x42, x43])), (h10, .inr (1, [.int 0, x44, x45]))] (QI g (fun (r : Int32) (_ : Unit) => r = 0) (fun (_ : Unit) => [])) 0 0 := by
  refine Ct.mk (by decide) (Nat.le_of_ble_eq_true rfl) ?_
  intro p e s m below meth c A ls hx hb hml hown hts hr hlk hnm hK hA hM hM2 hP hD hS hl
  have hown : s.vm.findClass RX10 = some m.cls := hown
  have F : Fx p s m _ c cX10_count 2 RX10 g aC aM A := ⟨hx, hb, hml, hown, hts, hK, hA, hM, hM2⟩
  have hl : lv_has ls 2 [(0, .ref h1), (1, .int 8)] := hl
  refine lv_iload_n hx hb dX10_count_0 rfl (lv_at hl 1 rfl) ?_
  refine lv_if_lt (tgt := 19) hx hb dX10_count_1 (by decide) (fun c_ => absurd c_ (by decide +kernel)) (fun _ => ?_)
  refine lv_iload_n hx hb dX10_count_4 rfl (lv_at hl 1 rfl) ?_
  refine lv_iconst (v := 4) hx hb dX10_count_5 (by decide) ?_
  refine lv_icmp_gt (tgt := 19) hx hb dX10_count_6 (by decide) (fun _ => ?_) (fun c_ => absurd (by decide +kernel) c_)
  refine lv_iload_n hx hb dX10_count_19 rfl (lv_at hl 1 rfl) ?_
  refine lv_tableIn (off := 72) (tgt := 92) hx hb dX10_count_20 (by decide +kernel) (by decide +kernel) (by decide +kernel) (by decide) ?_
  refine lv_aload_n hx hb dX10_count_92 rfl (lv_at hl 0 rfl) ?_
  refine xget F hP 0 rfl rfl inX10 5 (by decide) tb405 rfl dX10_count_93 ?_
  refine xget F hP 4 rfl rfl inX6 0 (by decide) tb293 rfl dX10_count_96 ?_
  refine goI (wr := [(h1, .inr (10, [.ref h2, x3, x4, .ref h5, x6, .ref h7, x8, .ref h9, .ref h10, x11, x12, x13, x14, x15, x16, x17])), (h2, .inr (7, [.int 0, x18, x19, x20, x21, x22, x23, x24, x25, x26])), (h5, .inr (8, [.ref h27, x28, x29, x30, x31, x32, x33, x34, x35, x36, x37, x38])), (h27, .inl (aC 0, 5, .inl (fun _ => 0))), (h7, .inr (6, [.int 0, x39, x40, .int 0, .int 0, .int 0])), (h9, .inr (5, [x41, .int 0, .int 0, x42, x43])), (h10, .inr (1, [.int 0, x44, x45]))]) (runS (n := 1) (As := [.int 0]) (rest := []) F hP hD hS (k_bitCount0 l g aC aM ) [] (by decide) rfl tb854 tb935 tb853 tb21 ⟨by decide, by decide, by decide +kernel⟩ ⟨Nat.le_of_ble_eq_true rfl, Nat.le_of_ble_eq_true rfl⟩ rfl hl.1 rfl (Nat.le_of_ble_eq_true rfl) dX10_count_99 ⟨Nat.le_of_ble_eq_true rfl, Nat.le_of_ble_eq_true rfl⟩) hP hD hS hA [] [0, 1, 2, 3, 4, 5, 6] rfl rfl (by decide) (by decide) (fun r_4 w5 H locs hw hP hD hS => ?_)
  have hP : va_P g vwCl [(h1, .inr (10, [.ref h2, x3, x4, .ref h5, x6, .ref h7, x8, .ref h9, .ref h10, x11, x12, x13, x14, x15, x16, x17])), (h2, .inr (7, [.int 0, x18, x19, x20, x21, x22, x23, x24, x25, x26])), (h5, .inr (8, [.ref h27, x28, x29, x30, x31, x32, x33, x34, x35, x36, x37, x38])), (h27, .inl (aC 0, 5, .inl (fun _ => 0))), (h7, .inr (6, [.int 0, x39, x40, .int 0, .int 0, .int 0])), (h9, .inr (5, [x41, .int 0, .int 0, x42, x43])), (h10, .inr (1, [.int 0, x44, x45]))] H := hP
  have hD : va_D A [(h1, .inr (10, [.ref h2, x3, x4, .ref h5, x6, .ref h7, x8, .ref h9, .ref h10, x11, x12, x13, x14, x15, x16, x17])), (h2, .inr (7, [.int 0, x18, x19, x20, x21, x22, x23, x24, x25, x26])), (h5, .inr (8, [.ref h27, x28, x29, x30, x31, x32, x33, x34, x35, x36, x37, x38])), (h27, .inl (aC 0, 5, .inl (fun _ => 0))), (h7, .inr (6, [.int 0, x39, x40, .int 0, .int 0, .int 0])), (h9, .inr (5, [x41, .int 0, .int 0, x42, x43])), (h10, .inr (1, [.int 0, x44, x45]))] := hD
  try dsimp only at hw
  subst hw
  have hP9 := hP.sub (ws' := []) [] rfl
  have hD9 := hD.sub (ws' := []) [] (by decide) rfl
  exact rI () hx hb hr hlk rfl hS rfl hP9 hD9 (Nat.le_of_ble_eq_true rfl) (Nat.le_of_ble_eq_true rfl) dX10_count_102

set_option maxHeartbeats 4000000 in
set_option maxRecDepth 100000 in
theorem x_count_9 (l : Launch) (g : va_G) (aC : Nat → ClassId) (aM : Nat → Nat) (h1 h2 h5 h7 h9 h10 h27 : Nat) (x3 x4 x6 x8 x11 x12 x13 x14 x15 x16 x17 x18 x19 x20 x21 x22 x23 x24 x25 x26 x28 x29 x30 x31 x32 x33 x34 x35 x36 x37 x38 x39 x40 x41 x42 x43 x44 x45 : Value) : Ct l g aC aM yX10_count cX10_count 2 (some .int) 2 [.ref h1, .int 9] [(h1, .inr (10, [.ref h2, x3, x4, .ref h5, x6, .ref h7, x8, .ref h9, .ref h10, x11, x12, x13, x14, x15, x16, x17])), (h2, .inr (7, [.int 0, x18, x19, x20, x21, x22, x23, x24, x25, x26])), (h5, .inr (8, [.ref h27, x28, x29, x30, x31, x32, x33, x34, x35, x36, x37, x38])), (h27, .inl (aC 0, 5, .inl (fun _ => 0))), (h7, .inr (6, [.int 0, x39, x40, .int 0, .int 0, .int 0])), (h9, .inr (5, [x41, .int 0, .int 0, x42, x43])), (h10, .inr (1, [.int 0, x44, x45]))] (QI g (fun (r : Int32) (_ : Unit) => r = 0) (fun (_ : Unit) => [])) 0 0 := by
  refine Ct.mk (by decide) (Nat.le_of_ble_eq_true rfl) ?_
  intro p e s m below meth c A ls hx hb hml hown hts hr hlk hnm hK hA hM hM2 hP hD hS hl
  have hown : s.vm.findClass RX10 = some m.cls := hown
  have F : Fx p s m _ c cX10_count 2 RX10 g aC aM A := ⟨hx, hb, hml, hown, hts, hK, hA, hM, hM2⟩
  have hl : lv_has ls 2 [(0, .ref h1), (1, .int 9)] := hl
  refine lv_iload_n hx hb dX10_count_0 rfl (lv_at hl 1 rfl) ?_
  refine lv_if_lt (tgt := 19) hx hb dX10_count_1 (by decide) (fun c_ => absurd c_ (by decide +kernel)) (fun _ => ?_)
  refine lv_iload_n hx hb dX10_count_4 rfl (lv_at hl 1 rfl) ?_
  refine lv_iconst (v := 4) hx hb dX10_count_5 (by decide) ?_
  refine lv_icmp_gt (tgt := 19) hx hb dX10_count_6 (by decide) (fun _ => ?_) (fun c_ => absurd (by decide +kernel) c_)
  refine lv_iload_n hx hb dX10_count_19 rfl (lv_at hl 1 rfl) ?_
  refine lv_tableIn (off := 83) (tgt := 103) hx hb dX10_count_20 (by decide +kernel) (by decide +kernel) (by decide +kernel) (by decide) ?_
  refine lv_aload_n hx hb dX10_count_103 rfl (lv_at hl 0 rfl) ?_
  refine xget F hP 0 rfl rfl inX10 7 (by decide) tb407 rfl dX10_count_104 ?_
  refine xget F hP 5 rfl rfl inX5 1 (by decide) tb326 rfl dX10_count_107 ?_
  have hP9 := hP.sub (ws' := []) [] rfl
  have hD9 := hD.sub (ws' := []) [] (by decide) rfl
  exact rI () hx hb hr hlk rfl hS rfl hP9 hD9 (Nat.le_of_ble_eq_true rfl) (Nat.le_of_ble_eq_true rfl) dX10_count_110

set_option maxHeartbeats 4000000 in
set_option maxRecDepth 100000 in
theorem x_count_10 (l : Launch) (g : va_G) (aC : Nat → ClassId) (aM : Nat → Nat) (h1 h2 h5 h7 h9 h10 h27 : Nat) (x3 x4 x6 x8 x11 x12 x13 x14 x15 x16 x17 x18 x19 x20 x21 x22 x23 x24 x25 x26 x28 x29 x30 x31 x32 x33 x34 x35 x36 x37 x38 x39 x40 x41 x42 x43 x44 x45 : Value) : Ct l g aC aM yX10_count cX10_count 2 (some .int) 2 [.ref h1, .int 10] [(h1, .inr (10, [.ref h2, x3, x4, .ref h5, x6, .ref h7, x8, .ref h9, .ref h10, x11, x12, x13, x14, x15, x16, x17])), (h2, .inr (7, [.int 0, x18, x19, x20, x21, x22, x23, x24, x25, x26])), (h5, .inr (8, [.ref h27, x28, x29, x30, x31, x32, x33, x34, x35, x36, x37, x38])), (h27, .inl (aC 0, 5, .inl (fun _ => 0))), (h7, .inr (6, [.int 0, x39, x40, .int 0, .int 0, .int 0])), (h9, .inr (5, [x41, .int 0, .int 0, x42, x43])), (h10, .inr (1, [.int 0, x44, x45]))] (QI g (fun (r : Int32) (_ : Unit) => r = 0) (fun (_ : Unit) => [])) 0 0 := by
  refine Ct.mk (by decide) (Nat.le_of_ble_eq_true rfl) ?_
  intro p e s m below meth c A ls hx hb hml hown hts hr hlk hnm hK hA hM hM2 hP hD hS hl
  have hown : s.vm.findClass RX10 = some m.cls := hown
  have F : Fx p s m _ c cX10_count 2 RX10 g aC aM A := ⟨hx, hb, hml, hown, hts, hK, hA, hM, hM2⟩
  have hl : lv_has ls 2 [(0, .ref h1), (1, .int 10)] := hl
  refine lv_iload_n hx hb dX10_count_0 rfl (lv_at hl 1 rfl) ?_
  refine lv_if_lt (tgt := 19) hx hb dX10_count_1 (by decide) (fun c_ => absurd c_ (by decide +kernel)) (fun _ => ?_)
  refine lv_iload_n hx hb dX10_count_4 rfl (lv_at hl 1 rfl) ?_
  refine lv_iconst (v := 4) hx hb dX10_count_5 (by decide) ?_
  refine lv_icmp_gt (tgt := 19) hx hb dX10_count_6 (by decide) (fun _ => ?_) (fun c_ => absurd (by decide +kernel) c_)
  refine lv_iload_n hx hb dX10_count_19 rfl (lv_at hl 1 rfl) ?_
  refine lv_tableIn (off := 91) (tgt := 111) hx hb dX10_count_20 (by decide +kernel) (by decide +kernel) (by decide +kernel) (by decide) ?_
  refine lv_aload_n hx hb dX10_count_111 rfl (lv_at hl 0 rfl) ?_
  refine xget F hP 0 rfl rfl inX10 7 (by decide) tb407 rfl dX10_count_112 ?_
  refine xget F hP 5 rfl rfl inX5 2 (by decide) tb328 rfl dX10_count_115 ?_
  have hP9 := hP.sub (ws' := []) [] rfl
  have hD9 := hD.sub (ws' := []) [] (by decide) rfl
  exact rI () hx hb hr hlk rfl hS rfl hP9 hD9 (Nat.le_of_ble_eq_true rfl) (Nat.le_of_ble_eq_true rfl) dX10_count_118

set_option maxHeartbeats 4000000 in
set_option maxRecDepth 100000 in
theorem x_count_11 (l : Launch) (g : va_G) (aC : Nat → ClassId) (aM : Nat → Nat) (h1 h2 h5 h7 h9 h10 h27 : Nat) (x3 x4 x6 x8 x11 x12 x13 x14 x15 x16 x17 x18 x19 x20 x21 x22 x23 x24 x25 x26 x28 x29 x30 x31 x32 x33 x34 x35 x36 x37 x38 x39 x40 x41 x42 x43 x44 x45 : Value) : Ct l g aC aM yX10_count cX10_count 2 (some .int) 2 [.ref h1, .int 11] [(h1, .inr (10, [.ref h2, x3, x4, .ref h5, x6, .ref h7, x8, .ref h9, .ref h10, x11, x12, x13, x14, x15, x16, x17])), (h2, .inr (7, [.int 0, x18, x19, x20, x21, x22, x23, x24, x25, x26])), (h5, .inr (8, [.ref h27, x28, x29, x30, x31, x32, x33, x34, x35, x36, x37, x38])), (h27, .inl (aC 0, 5, .inl (fun _ => 0))), (h7, .inr (6, [.int 0, x39, x40, .int 0, .int 0, .int 0])), (h9, .inr (5, [x41, .int 0, .int 0, x42, x43])), (h10, .inr (1, [.int 0, x44, x45]))] (QI g (fun (r : Int32) (_ : Unit) => r = 0) (fun (_ : Unit) => [])) 0 0 := by
  refine Ct.mk (by decide) (Nat.le_of_ble_eq_true rfl) ?_
  intro p e s m below meth c A ls hx hb hml hown hts hr hlk hnm hK hA hM hM2 hP hD hS hl
  have hown : s.vm.findClass RX10 = some m.cls := hown
  have F : Fx p s m _ c cX10_count 2 RX10 g aC aM A := ⟨hx, hb, hml, hown, hts, hK, hA, hM, hM2⟩
  have hl : lv_has ls 2 [(0, .ref h1), (1, .int 11)] := hl
  refine lv_iload_n hx hb dX10_count_0 rfl (lv_at hl 1 rfl) ?_
  refine lv_if_lt (tgt := 19) hx hb dX10_count_1 (by decide) (fun c_ => absurd c_ (by decide +kernel)) (fun _ => ?_)
  refine lv_iload_n hx hb dX10_count_4 rfl (lv_at hl 1 rfl) ?_
  refine lv_iconst (v := 4) hx hb dX10_count_5 (by decide) ?_
  refine lv_icmp_gt (tgt := 19) hx hb dX10_count_6 (by decide) (fun _ => ?_) (fun c_ => absurd (by decide +kernel) c_)
  refine lv_iload_n hx hb dX10_count_19 rfl (lv_at hl 1 rfl) ?_
  refine lv_tableIn (off := 99) (tgt := 119) hx hb dX10_count_20 (by decide +kernel) (by decide +kernel) (by decide +kernel) (by decide) ?_
  refine lv_aload_n hx hb dX10_count_119 rfl (lv_at hl 0 rfl) ?_
  refine xget F hP 0 rfl rfl inX10 8 (by decide) tb408 rfl dX10_count_120 ?_
  refine xget F hP 6 rfl rfl inX1 0 (by decide) tb352 rfl dX10_count_123 ?_
  have hP9 := hP.sub (ws' := []) [] rfl
  have hD9 := hD.sub (ws' := []) [] (by decide) rfl
  exact rI () hx hb hr hlk rfl hS rfl hP9 hD9 (Nat.le_of_ble_eq_true rfl) (Nat.le_of_ble_eq_true rfl) dX10_count_126

set_option maxHeartbeats 4000000 in
set_option maxRecDepth 100000 in
theorem x_count_12 (l : Launch) (g : va_G) (aC : Nat → ClassId) (aM : Nat → Nat) (h1 h2 h5 h7 h9 h10 h27 : Nat) (x3 x4 x6 x8 x11 x12 x13 x14 x15 x16 x17 x18 x19 x20 x21 x22 x23 x24 x25 x26 x28 x29 x30 x31 x32 x33 x34 x35 x36 x37 x38 x39 x40 x41 x42 x43 x44 x45 : Value) : Ct l g aC aM yX10_count cX10_count 2 (some .int) 2 [.ref h1, .int 12] [(h1, .inr (10, [.ref h2, x3, x4, .ref h5, x6, .ref h7, x8, .ref h9, .ref h10, x11, x12, x13, x14, x15, x16, x17])), (h2, .inr (7, [.int 0, x18, x19, x20, x21, x22, x23, x24, x25, x26])), (h5, .inr (8, [.ref h27, x28, x29, x30, x31, x32, x33, x34, x35, x36, x37, x38])), (h27, .inl (aC 0, 5, .inl (fun _ => 0))), (h7, .inr (6, [.int 0, x39, x40, .int 0, .int 0, .int 0])), (h9, .inr (5, [x41, .int 0, .int 0, x42, x43])), (h10, .inr (1, [.int 0, x44, x45]))] (QI g (fun (r : Int32) (_ : Unit) => r = 0) (fun (_ : Unit) => [])) 0 0 := by
  refine Ct.mk (by decide) (Nat.le_of_ble_eq_true rfl) ?_
  intro p e s m below meth c A ls hx hb hml hown hts hr hlk hnm hK hA hM hM2 hP hD hS hl
  have hown : s.vm.findClass RX10 = some m.cls := hown
  have F : Fx p s m _ c cX10_count 2 RX10 g aC aM A := ⟨hx, hb, hml, hown, hts, hK, hA, hM, hM2⟩
  have hl : lv_has ls 2 [(0, .ref h1), (1, .int 12)] := hl
  refine lv_iload_n hx hb dX10_count_0 rfl (lv_at hl 1 rfl) ?_
  refine lv_if_lt (tgt := 19) hx hb dX10_count_1 (by decide) (fun c_ => absurd c_ (by decide +kernel)) (fun _ => ?_)
  refine lv_iload_n hx hb dX10_count_4 rfl (lv_at hl 1 rfl) ?_
  refine lv_iconst (v := 4) hx hb dX10_count_5 (by decide) ?_
  refine lv_icmp_gt (tgt := 19) hx hb dX10_count_6 (by decide) (fun _ => ?_) (fun c_ => absurd (by decide +kernel) c_)
  refine lv_iload_n hx hb dX10_count_19 rfl (lv_at hl 1 rfl) ?_
  refine lv_tableIn (off := 107) (tgt := 127) hx hb dX10_count_20 (by decide +kernel) (by decide +kernel) (by decide +kernel) (by decide) ?_
  refine lv_aload_n hx hb dX10_count_127 rfl (lv_at hl 0 rfl) ?_
  refine xget F hP 0 rfl rfl inX10 0 (by decide) tb400 rfl dX10_count_128 ?_
  refine xget F hP 1 rfl rfl inX7 0 (by decide) tb101 rfl dX10_count_131 ?_
  have hP9 := hP.sub (ws' := []) [] rfl
  have hD9 := hD.sub (ws' := []) [] (by decide) rfl
  exact rI () hx hb hr hlk rfl hS rfl hP9 hD9 (Nat.le_of_ble_eq_true rfl) (Nat.le_of_ble_eq_true rfl) dX10_count_134

theorem dX10_judged_0 : decode cX10_judged 0 = .ok (.iload_n 1, 1) := by decide +kernel
theorem dX10_judged_1 : decode cX10_judged 1 = .ok (.ifCond .lt 8, 3) := by decide +kernel
theorem dX10_judged_4 : decode cX10_judged 4 = .ok (.iload_n 1, 1) := by decide +kernel
theorem dX10_judged_5 : decode cX10_judged 5 = .ok (.iconst 2, 1) := by decide +kernel
theorem dX10_judged_6 : decode cX10_judged 6 = .ok (.if_icmp .le 6, 3) := by decide +kernel
theorem dX10_judged_9 : decode cX10_judged 9 = .ok (.bipush (-2), 2) := by decide +kernel
theorem dX10_judged_11 : decode cX10_judged 11 = .ok (.ireturn, 1) := by decide +kernel
theorem dX10_judged_12 : decode cX10_judged 12 = .ok (.iconst (-1), 1) := by decide +kernel
theorem dX10_judged_13 : decode cX10_judged 13 = .ok (.istore_n 2, 1) := by decide +kernel
theorem dX10_judged_14 : decode cX10_judged 14 = .ok (.iconst (-1), 1) := by decide +kernel
theorem dX10_judged_15 : decode cX10_judged 15 = .ok (.istore_n 3, 1) := by decide +kernel
theorem dX10_judged_16 : decode cX10_judged 16 = .ok (.aload_n 0, 1) := by decide +kernel
theorem dX10_judged_17 : decode cX10_judged 17 = .ok (.getfield 49, 3) := by decide +kernel
theorem dX10_judged_20 : decode cX10_judged 20 = .ok (.aload_n 0, 1) := by decide +kernel
theorem dX10_judged_21 : decode cX10_judged 21 = .ok (.getfield 35, 3) := by decide +kernel
theorem dX10_judged_24 : decode cX10_judged 24 = .ok (.invokevirtual 107, 3) := by decide +kernel
theorem dX10_judged_27 : decode cX10_judged 27 = .ok (.iconst 0, 1) := by decide +kernel
theorem dX10_judged_28 : decode cX10_judged 28 = .ok (.istore 4, 2) := by decide +kernel
theorem dX10_judged_30 : decode cX10_judged 30 = .ok (.iload 4, 2) := by decide +kernel
theorem dX10_judged_32 : decode cX10_judged 32 = .ok (.aload_n 0, 1) := by decide +kernel
theorem dX10_judged_33 : decode cX10_judged 33 = .ok (.getfield 55, 3) := by decide +kernel
theorem dX10_judged_36 : decode cX10_judged 36 = .ok (.getfield 198, 3) := by decide +kernel
theorem dX10_judged_39 : decode cX10_judged 39 = .ok (.if_icmp .ge 83, 3) := by decide +kernel
theorem dX10_judged_122 : decode cX10_judged 122 = .ok (.iload_n 1, 1) := by decide +kernel
theorem dX10_judged_123 : decode cX10_judged 123 = .ok (.iconst 2, 1) := by decide +kernel
theorem dX10_judged_124 : decode cX10_judged 124 = .ok (.if_icmp .ne 11, 3) := by decide +kernel
theorem dX10_judged_127 : decode cX10_judged 127 = .ok (.aload_n 0, 1) := by decide +kernel
theorem dX10_judged_128 : decode cX10_judged 128 = .ok (.getfield 49, 3) := by decide +kernel
theorem dX10_judged_131 : decode cX10_judged 131 = .ok (.getfield 206, 3) := by decide +kernel
theorem dX10_judged_134 : decode cX10_judged 134 = .ok (.ireturn, 1) := by decide +kernel
theorem dX10_judged_135 : decode cX10_judged 135 = .ok (.iload_n 1, 1) := by decide +kernel
theorem dX10_judged_136 : decode cX10_judged 136 = .ok (.ifCond .ne 7, 3) := by decide +kernel
theorem dX10_judged_139 : decode cX10_judged 139 = .ok (.iload_n 2, 1) := by decide +kernel
theorem dX10_judged_140 : decode cX10_judged 140 = .ok (.goto 4, 3) := by decide +kernel
theorem dX10_judged_143 : decode cX10_judged 143 = .ok (.iload_n 3, 1) := by decide +kernel
theorem dX10_judged_144 : decode cX10_judged 144 = .ok (.ireturn, 1) := by decide +kernel
set_option maxHeartbeats 4000000 in
set_option maxRecDepth 100000 in
theorem x_judged_lo (l : Launch) (g : va_G) (aC : Nat → ClassId) (aM : Nat → Nat) (h1 h5 h8 h9 h18 h20 h21 h31 h32 : Nat) (x2 x3 x4 x6 x7 x10 x11 x12 x13 x14 x15 x16 x17 x19 x22 x23 x24 x25 x26 x27 x28 x33 x34 x35 x36 : Value) (R29 R30 : Nat → Nat) (n_1 : Int32) (hh1 : n_1 ≤ (-1)) : Ct l g aC aM yX10_judged cX10_judged 5 (some .int) 3 [.ref h1, .int n_1] [(h1, .inr (10, [x2, x3, x4, .ref h5, x6, x7, .ref h8, .ref h9, x10, x11, x12, x13, x14, x15, x16, x17])), (h5, .inr (8, [.ref h18, x19, .ref h20, .ref h21, x22, .int 0, x23, x24, x25, x26, x27, x28])), (h18, .inl (aC 0, 5, .inl (fun _ => 0))), (h20, .inl (aC 6, 4, .inr (.inr (.inr (.inr (fun i => if i < 4 then some (R29 i) else none)))))), (h21, .inl (aC 6, 5, .inr (.inr (.inr (.inr (fun i => if i < 5 then some (R30 i) else none)))))), ((R29 0), .inl (aC 0, 2, .inl (fun _ => 0))), ((R29 1), .inl (aC 0, 2, .inl (fun _ => 0))), ((R29 2), .inl (aC 0, 2, .inl (fun _ => 0))), ((R29 3), .inl (aC 0, 2, .inl (fun _ => 0))), ((R30 0), .inl (aC 0, 4, .inl (fun _ => 0))), ((R30 1), .inl (aC 0, 4, .inl (fun _ => 0))), ((R30 2), .inl (aC 0, 4, .inl (fun _ => 0))), ((R30 3), .inl (aC 0, 4, .inl (fun _ => 0))), ((R30 4), .inl (aC 0, 4, .inl (fun _ => 0))), (h8, .inr (6, [.int 0, .ref h31, .ref h32, .int 0, .int 0, .int 0])), (h31, .inl (aC 0, 5, .inl (fun _ => 0))), (h32, .inl (aC 0, 4, .inl (fun _ => 0))), (h9, .inr (5, [x33, .int 0, x34, x35, x36]))] (QI g (fun (r : Int32) (_ : Unit) => r = (-2)) (fun (_ : Unit) => [])) 0 0 := by
  refine Ct.mk (by decide) (Nat.le_of_ble_eq_true rfl) ?_
  intro p e s m below meth c A ls hx hb hml hown hts hr hlk hnm hK hA hM hM2 hP hD hS hl
  have hown : s.vm.findClass RX10 = some m.cls := hown
  have F : Fx p s m _ c cX10_judged 5 RX10 g aC aM A := ⟨hx, hb, hml, hown, hts, hK, hA, hM, hM2⟩
  have hl : lv_has ls 5 [(0, .ref h1), (1, .int n_1)] := hl
  refine lv_iload_n hx hb dX10_judged_0 rfl (lv_at hl 1 rfl) ?_
  refine lv_if_lt (tgt := 9) hx hb dX10_judged_1 (by decide) (fun c1 => ?_) (fun c1 => ?_)
  · refine lv_bipush (v := (-2)) hx hb dX10_judged_9 (by decide) ?_
    have hP9 := hP.sub (ws' := []) [] rfl
    have hD9 := hD.sub (ws' := []) [] (by decide) rfl
    exact rI () hx hb hr hlk rfl hS rfl hP9 hD9 (Nat.le_of_ble_eq_true rfl) (Nat.le_of_ble_eq_true rfl) dX10_judged_11
  · exfalso
    simp only [Int32.lt_iff_toInt_lt, Int32.le_iff_toInt_le, ← Int32.toInt_inj, show (-1 : Int32).toInt = -1 by decide, show (0 : Int32).toInt = 0 by decide] at hh1 c1; omega

set_option maxHeartbeats 4000000 in
set_option maxRecDepth 100000 in
theorem x_judged_hi (l : Launch) (g : va_G) (aC : Nat → ClassId) (aM : Nat → Nat) (h1 h5 h8 h9 h18 h20 h21 h31 h32 : Nat) (x2 x3 x4 x6 x7 x10 x11 x12 x13 x14 x15 x16 x17 x19 x22 x23 x24 x25 x26 x27 x28 x33 x34 x35 x36 : Value) (R29 R30 : Nat → Nat) (n_1 : Int32) (hl1 : 3 ≤ n_1) : Ct l g aC aM yX10_judged cX10_judged 5 (some .int) 3 [.ref h1, .int n_1] [(h1, .inr (10, [x2, x3, x4, .ref h5, x6, x7, .ref h8, .ref h9, x10, x11, x12, x13, x14, x15, x16, x17])), (h5, .inr (8, [.ref h18, x19, .ref h20, .ref h21, x22, .int 0, x23, x24, x25, x26, x27, x28])), (h18, .inl (aC 0, 5, .inl (fun _ => 0))), (h20, .inl (aC 6, 4, .inr (.inr (.inr (.inr (fun i => if i < 4 then some (R29 i) else none)))))), (h21, .inl (aC 6, 5, .inr (.inr (.inr (.inr (fun i => if i < 5 then some (R30 i) else none)))))), ((R29 0), .inl (aC 0, 2, .inl (fun _ => 0))), ((R29 1), .inl (aC 0, 2, .inl (fun _ => 0))), ((R29 2), .inl (aC 0, 2, .inl (fun _ => 0))), ((R29 3), .inl (aC 0, 2, .inl (fun _ => 0))), ((R30 0), .inl (aC 0, 4, .inl (fun _ => 0))), ((R30 1), .inl (aC 0, 4, .inl (fun _ => 0))), ((R30 2), .inl (aC 0, 4, .inl (fun _ => 0))), ((R30 3), .inl (aC 0, 4, .inl (fun _ => 0))), ((R30 4), .inl (aC 0, 4, .inl (fun _ => 0))), (h8, .inr (6, [.int 0, .ref h31, .ref h32, .int 0, .int 0, .int 0])), (h31, .inl (aC 0, 5, .inl (fun _ => 0))), (h32, .inl (aC 0, 4, .inl (fun _ => 0))), (h9, .inr (5, [x33, .int 0, x34, x35, x36]))] (QI g (fun (r : Int32) (_ : Unit) => r = (-2)) (fun (_ : Unit) => [])) 0 0 := by
  refine Ct.mk (by decide) (Nat.le_of_ble_eq_true rfl) ?_
  intro p e s m below meth c A ls hx hb hml hown hts hr hlk hnm hK hA hM hM2 hP hD hS hl
  have hown : s.vm.findClass RX10 = some m.cls := hown
  have F : Fx p s m _ c cX10_judged 5 RX10 g aC aM A := ⟨hx, hb, hml, hown, hts, hK, hA, hM, hM2⟩
  have hl : lv_has ls 5 [(0, .ref h1), (1, .int n_1)] := hl
  refine lv_iload_n hx hb dX10_judged_0 rfl (lv_at hl 1 rfl) ?_
  refine lv_if_lt (tgt := 9) hx hb dX10_judged_1 (by decide) (fun c1 => ?_) (fun c1 => ?_)
  · exfalso
    simp only [Int32.lt_iff_toInt_lt, Int32.le_iff_toInt_le, ← Int32.toInt_inj, show (0 : Int32).toInt = 0 by decide, show (3 : Int32).toInt = 3 by decide] at hl1 c1; omega
  · refine lv_iload_n hx hb dX10_judged_4 rfl (lv_at hl 1 rfl) ?_
    refine lv_iconst (v := 2) hx hb dX10_judged_5 (by decide) ?_
    refine lv_icmp_le (tgt := 12) hx hb dX10_judged_6 (by decide) (fun c2 => ?_) (fun c2 => ?_)
    · exfalso
      simp only [Int32.lt_iff_toInt_lt, Int32.le_iff_toInt_le, ← Int32.toInt_inj, show (0 : Int32).toInt = 0 by decide, show (2 : Int32).toInt = 2 by decide, show (3 : Int32).toInt = 3 by decide] at hl1 c1 c2; omega
    · refine lv_bipush (v := (-2)) hx hb dX10_judged_9 (by decide) ?_
      have hP9 := hP.sub (ws' := []) [] rfl
      have hD9 := hD.sub (ws' := []) [] (by decide) rfl
      exact rI () hx hb hr hlk rfl hS rfl hP9 hD9 (Nat.le_of_ble_eq_true rfl) (Nat.le_of_ble_eq_true rfl) dX10_judged_11

set_option maxHeartbeats 4000000 in
set_option maxRecDepth 100000 in
theorem x_judged_0 (l : Launch) (g : va_G) (aC : Nat → ClassId) (aM : Nat → Nat) (h1 h5 h8 h9 h18 h20 h21 h31 h32 : Nat) (x2 x3 x4 x6 x7 x10 x11 x12 x13 x14 x15 x16 x17 x19 x22 x23 x24 x25 x26 x27 x28 x33 x34 x35 x36 : Value) (R29 R30 : Nat → Nat) : Ct l g aC aM yX10_judged cX10_judged 5 (some .int) 3 [.ref h1, .int 0] [(h1, .inr (10, [x2, x3, x4, .ref h5, x6, x7, .ref h8, .ref h9, x10, x11, x12, x13, x14, x15, x16, x17])), (h5, .inr (8, [.ref h18, x19, .ref h20, .ref h21, x22, .int 0, x23, x24, x25, x26, x27, x28])), (h18, .inl (aC 0, 5, .inl (fun _ => 0))), (h20, .inl (aC 6, 4, .inr (.inr (.inr (.inr (fun i => if i < 4 then some (R29 i) else none)))))), (h21, .inl (aC 6, 5, .inr (.inr (.inr (.inr (fun i => if i < 5 then some (R30 i) else none)))))), ((R29 0), .inl (aC 0, 2, .inl (fun _ => 0))), ((R29 1), .inl (aC 0, 2, .inl (fun _ => 0))), ((R29 2), .inl (aC 0, 2, .inl (fun _ => 0))), ((R29 3), .inl (aC 0, 2, .inl (fun _ => 0))), ((R30 0), .inl (aC 0, 4, .inl (fun _ => 0))), ((R30 1), .inl (aC 0, 4, .inl (fun _ => 0))), ((R30 2), .inl (aC 0, 4, .inl (fun _ => 0))), ((R30 3), .inl (aC 0, 4, .inl (fun _ => 0))), ((R30 4), .inl (aC 0, 4, .inl (fun _ => 0))), (h8, .inr (6, [.int 0, .ref h31, .ref h32, .int 0, .int 0, .int 0])), (h31, .inl (aC 0, 5, .inl (fun _ => 0))), (h32, .inl (aC 0, 4, .inl (fun _ => 0))), (h9, .inr (5, [x33, .int 0, x34, x35, x36]))] (QI g (fun (r : Int32) (_ : Unit) => r = (-1)) (fun (_ : Unit) => [])) 0 0 := by
  refine Ct.mk (by decide) (Nat.le_of_ble_eq_true rfl) ?_
  intro p e s m below meth c A ls hx hb hml hown hts hr hlk hnm hK hA hM hM2 hP hD hS hl
  have hown : s.vm.findClass RX10 = some m.cls := hown
  have F : Fx p s m _ c cX10_judged 5 RX10 g aC aM A := ⟨hx, hb, hml, hown, hts, hK, hA, hM, hM2⟩
  have hl : lv_has ls 5 [(0, .ref h1), (1, .int 0)] := hl
  refine lv_iload_n hx hb dX10_judged_0 rfl (lv_at hl 1 rfl) ?_
  refine lv_if_lt (tgt := 9) hx hb dX10_judged_1 (by decide) (fun c_ => absurd c_ (by decide +kernel)) (fun _ => ?_)
  refine lv_iload_n hx hb dX10_judged_4 rfl (lv_at hl 1 rfl) ?_
  refine lv_iconst (v := 2) hx hb dX10_judged_5 (by decide) ?_
  refine lv_icmp_le (tgt := 12) hx hb dX10_judged_6 (by decide) (fun _ => ?_) (fun c_ => absurd (by decide +kernel) c_)
  refine lv_iconst (v := (-1)) hx hb dX10_judged_12 (by decide) ?_
  refine lv_istore_n (lv' := [(2, .int (-1)), (0, .ref h1), (1, .int 0)]) hx hb dX10_judged_13 rfl hl (by decide) rfl (fun ls hl => ?_)
  refine lv_iconst (v := (-1)) hx hb dX10_judged_14 (by decide) ?_
  refine lv_istore_n (lv' := [(3, .int (-1)), (2, .int (-1)), (0, .ref h1), (1, .int 0)]) hx hb dX10_judged_15 rfl hl (by decide) rfl (fun ls hl => ?_)
  refine lv_aload_n hx hb dX10_judged_16 rfl (lv_at hl 2 rfl) ?_
  refine xget F hP 0 rfl rfl inX10 6 (by decide) tb406 rfl dX10_judged_17 ?_
  refine lv_aload_n hx hb dX10_judged_20 rfl (lv_at hl 2 rfl) ?_
  refine xget F hP 0 rfl rfl inX10 3 (by decide) tb403 rfl dX10_judged_21 ?_
  refine goV (wr := [(h1, .inr (10, [x2, x3, x4, .ref h5, x6, x7, .ref h8, .ref h9, x10, x11, x12, x13, x14, x15, x16, x17])), (h9, .inr (5, [x33, .int 0, x34, x35, x36]))]) (runV (n := 1) (As := [.ref h5]) (rest := []) F hP hD hS (a_X6_begin_1 l g aC aM h8 h5 h20 h21 h31 h32 h18 x19 x22 x23 x24 x25 x26 x27 x28 R29 R30) [3, 4, 5, 6, 7, 8, 9, 10, 11, 12, 13, 14, 15, 16, 1, 2] (by decide) rfl 14 6 rfl rfl rfl tb711 tb708 tb709 tb710 tb12 ⟨by decide, by decide, by decide +kernel⟩ ⟨Nat.le_of_ble_eq_true rfl, Nat.le_of_ble_eq_true rfl⟩ rfl hl.1 rfl (Nat.le_of_ble_eq_true rfl) dX10_judged_24 ⟨Nat.le_of_ble_eq_true rfl, Nat.le_of_ble_eq_true rfl⟩) hP hD hS hA [3, 4, 5, 6, 7, 8, 9, 10, 11, 12, 13, 14, 15, 16, 1, 2] [0, 17] rfl rfl (by decide) (by decide) (fun w5 H locs hw hP hD hS => ?_)
  have hP : va_P g vwCl [(h1, .inr (10, [x2, x3, x4, .ref h5, x6, x7, .ref h8, .ref h9, x10, x11, x12, x13, x14, x15, x16, x17])), (h9, .inr (5, [x33, .int 0, x34, x35, x36])), (h20, .inl (aC 6, 4, .inr (.inr (.inr (.inr (fun i => if i < 4 then some (R29 i) else none)))))), (h21, .inl (aC 6, 5, .inr (.inr (.inr (.inr (fun i => if i < 5 then some (R30 i) else none)))))), ((R29 0), .inl (aC 0, 2, .inl (fun _ => 0))), ((R29 1), .inl (aC 0, 2, .inl (fun _ => 0))), ((R29 2), .inl (aC 0, 2, .inl (fun _ => 0))), ((R29 3), .inl (aC 0, 2, .inl (fun _ => 0))), ((R30 0), .inl (aC 0, 4, .inl (fun _ => 0))), ((R30 1), .inl (aC 0, 4, .inl (fun _ => 0))), ((R30 2), .inl (aC 0, 4, .inl (fun _ => 0))), ((R30 3), .inl (aC 0, 4, .inl (fun _ => 0))), ((R30 4), .inl (aC 0, 4, .inl (fun _ => 0))), (h8, .inr (6, [.int 0, .ref h31, .ref h32, .int 0, .int 0, .int 0])), (h31, .inl (aC 0, 5, .inl (fun _ => 0))), (h32, .inl (aC 0, 4, .inl (fun _ => 0))), (h5, .inr (8, [.ref h18, x19, .ref h20, .ref h21, x22, .int 0, x23, x24, x25, x26, x27, x28])), (h18, .inl (aC 0, 5, .inl (fun _ => 0)))] H := hP
  have hD : va_D A [(h1, .inr (10, [x2, x3, x4, .ref h5, x6, x7, .ref h8, .ref h9, x10, x11, x12, x13, x14, x15, x16, x17])), (h9, .inr (5, [x33, .int 0, x34, x35, x36])), (h20, .inl (aC 6, 4, .inr (.inr (.inr (.inr (fun i => if i < 4 then some (R29 i) else none)))))), (h21, .inl (aC 6, 5, .inr (.inr (.inr (.inr (fun i => if i < 5 then some (R30 i) else none)))))), ((R29 0), .inl (aC 0, 2, .inl (fun _ => 0))), ((R29 1), .inl (aC 0, 2, .inl (fun _ => 0))), ((R29 2), .inl (aC 0, 2, .inl (fun _ => 0))), ((R29 3), .inl (aC 0, 2, .inl (fun _ => 0))), ((R30 0), .inl (aC 0, 4, .inl (fun _ => 0))), ((R30 1), .inl (aC 0, 4, .inl (fun _ => 0))), ((R30 2), .inl (aC 0, 4, .inl (fun _ => 0))), ((R30 3), .inl (aC 0, 4, .inl (fun _ => 0))), ((R30 4), .inl (aC 0, 4, .inl (fun _ => 0))), (h8, .inr (6, [.int 0, .ref h31, .ref h32, .int 0, .int 0, .int 0])), (h31, .inl (aC 0, 5, .inl (fun _ => 0))), (h32, .inl (aC 0, 4, .inl (fun _ => 0))), (h5, .inr (8, [.ref h18, x19, .ref h20, .ref h21, x22, .int 0, x23, x24, x25, x26, x27, x28])), (h18, .inl (aC 0, 5, .inl (fun _ => 0)))] := hD
  refine lv_iconst (v := 0) hx hb dX10_judged_27 (by decide) ?_
  refine lv_istore (lv' := [(4, .int 0), (3, .int (-1)), (2, .int (-1)), (0, .ref h1), (1, .int 0)]) hx hb dX10_judged_28 hl (by decide) rfl (fun ls hl => ?_)
  refine lv_iload hx hb dX10_judged_30 (lv_at hl 0 rfl) ?_
  refine lv_aload_n hx hb dX10_judged_32 rfl (lv_at hl 3 rfl) ?_
  refine xget F hP 0 rfl rfl inX10 7 (by decide) tb407 rfl dX10_judged_33 ?_
  refine xget F hP 1 rfl rfl inX5 1 (by decide) tb326 rfl dX10_judged_36 ?_
  refine lv_icmp_ge (tgt := 122) hx hb dX10_judged_39 (by decide) (fun _ => ?_) (fun c_ => absurd (by decide +kernel) c_)
  refine lv_iload_n hx hb dX10_judged_122 rfl (lv_at hl 4 rfl) ?_
  refine lv_iconst (v := 2) hx hb dX10_judged_123 (by decide) ?_
  refine lv_icmp_ne (tgt := 135) hx hb dX10_judged_124 (by decide) (fun _ => ?_) (fun c_ => absurd c_ (by decide +kernel))
  refine lv_iload_n hx hb dX10_judged_135 rfl (lv_at hl 4 rfl) ?_
  refine lv_if_ne (tgt := 143) hx hb dX10_judged_136 (by decide) (fun c_ => absurd (by decide +kernel) c_) (fun _ => ?_)
  refine lv_iload_n hx hb dX10_judged_139 rfl (lv_at hl 2 rfl) ?_
  refine lv_goto (tgt := 144) hx hb dX10_judged_140 (by decide) ?_
  have hP9 := hP.sub (ws' := []) [] rfl
  have hD9 := hD.sub (ws' := []) [] (by decide) rfl
  exact rI () hx hb hr hlk rfl hS rfl hP9 hD9 (Nat.le_of_ble_eq_true rfl) (Nat.le_of_ble_eq_true rfl) dX10_judged_144

set_option maxHeartbeats 4000000 in
set_option maxRecDepth 100000 in
theorem x_judged_1 (l : Launch) (g : va_G) (aC : Nat → ClassId) (aM : Nat → Nat) (h1 h5 h8 h9 h18 h20 h21 h31 h32 : Nat) (x2 x3 x4 x6 x7 x10 x11 x12 x13 x14 x15 x16 x17 x19 x22 x23 x24 x25 x26 x27 x28 x33 x34 x35 x36 : Value) (R29 R30 : Nat → Nat) : Ct l g aC aM yX10_judged cX10_judged 5 (some .int) 3 [.ref h1, .int 1] [(h1, .inr (10, [x2, x3, x4, .ref h5, x6, x7, .ref h8, .ref h9, x10, x11, x12, x13, x14, x15, x16, x17])), (h5, .inr (8, [.ref h18, x19, .ref h20, .ref h21, x22, .int 0, x23, x24, x25, x26, x27, x28])), (h18, .inl (aC 0, 5, .inl (fun _ => 0))), (h20, .inl (aC 6, 4, .inr (.inr (.inr (.inr (fun i => if i < 4 then some (R29 i) else none)))))), (h21, .inl (aC 6, 5, .inr (.inr (.inr (.inr (fun i => if i < 5 then some (R30 i) else none)))))), ((R29 0), .inl (aC 0, 2, .inl (fun _ => 0))), ((R29 1), .inl (aC 0, 2, .inl (fun _ => 0))), ((R29 2), .inl (aC 0, 2, .inl (fun _ => 0))), ((R29 3), .inl (aC 0, 2, .inl (fun _ => 0))), ((R30 0), .inl (aC 0, 4, .inl (fun _ => 0))), ((R30 1), .inl (aC 0, 4, .inl (fun _ => 0))), ((R30 2), .inl (aC 0, 4, .inl (fun _ => 0))), ((R30 3), .inl (aC 0, 4, .inl (fun _ => 0))), ((R30 4), .inl (aC 0, 4, .inl (fun _ => 0))), (h8, .inr (6, [.int 0, .ref h31, .ref h32, .int 0, .int 0, .int 0])), (h31, .inl (aC 0, 5, .inl (fun _ => 0))), (h32, .inl (aC 0, 4, .inl (fun _ => 0))), (h9, .inr (5, [x33, .int 0, x34, x35, x36]))] (QI g (fun (r : Int32) (_ : Unit) => r = (-1)) (fun (_ : Unit) => [])) 0 0 := by
  refine Ct.mk (by decide) (Nat.le_of_ble_eq_true rfl) ?_
  intro p e s m below meth c A ls hx hb hml hown hts hr hlk hnm hK hA hM hM2 hP hD hS hl
  have hown : s.vm.findClass RX10 = some m.cls := hown
  have F : Fx p s m _ c cX10_judged 5 RX10 g aC aM A := ⟨hx, hb, hml, hown, hts, hK, hA, hM, hM2⟩
  have hl : lv_has ls 5 [(0, .ref h1), (1, .int 1)] := hl
  refine lv_iload_n hx hb dX10_judged_0 rfl (lv_at hl 1 rfl) ?_
  refine lv_if_lt (tgt := 9) hx hb dX10_judged_1 (by decide) (fun c_ => absurd c_ (by decide +kernel)) (fun _ => ?_)
  refine lv_iload_n hx hb dX10_judged_4 rfl (lv_at hl 1 rfl) ?_
  refine lv_iconst (v := 2) hx hb dX10_judged_5 (by decide) ?_
  refine lv_icmp_le (tgt := 12) hx hb dX10_judged_6 (by decide) (fun _ => ?_) (fun c_ => absurd (by decide +kernel) c_)
  refine lv_iconst (v := (-1)) hx hb dX10_judged_12 (by decide) ?_
  refine lv_istore_n (lv' := [(2, .int (-1)), (0, .ref h1), (1, .int 1)]) hx hb dX10_judged_13 rfl hl (by decide) rfl (fun ls hl => ?_)
  refine lv_iconst (v := (-1)) hx hb dX10_judged_14 (by decide) ?_
  refine lv_istore_n (lv' := [(3, .int (-1)), (2, .int (-1)), (0, .ref h1), (1, .int 1)]) hx hb dX10_judged_15 rfl hl (by decide) rfl (fun ls hl => ?_)
  refine lv_aload_n hx hb dX10_judged_16 rfl (lv_at hl 2 rfl) ?_
  refine xget F hP 0 rfl rfl inX10 6 (by decide) tb406 rfl dX10_judged_17 ?_
  refine lv_aload_n hx hb dX10_judged_20 rfl (lv_at hl 2 rfl) ?_
  refine xget F hP 0 rfl rfl inX10 3 (by decide) tb403 rfl dX10_judged_21 ?_
  refine goV (wr := [(h1, .inr (10, [x2, x3, x4, .ref h5, x6, x7, .ref h8, .ref h9, x10, x11, x12, x13, x14, x15, x16, x17])), (h9, .inr (5, [x33, .int 0, x34, x35, x36]))]) (runV (n := 1) (As := [.ref h5]) (rest := []) F hP hD hS (a_X6_begin_1 l g aC aM h8 h5 h20 h21 h31 h32 h18 x19 x22 x23 x24 x25 x26 x27 x28 R29 R30) [3, 4, 5, 6, 7, 8, 9, 10, 11, 12, 13, 14, 15, 16, 1, 2] (by decide) rfl 14 6 rfl rfl rfl tb711 tb708 tb709 tb710 tb12 ⟨by decide, by decide, by decide +kernel⟩ ⟨Nat.le_of_ble_eq_true rfl, Nat.le_of_ble_eq_true rfl⟩ rfl hl.1 rfl (Nat.le_of_ble_eq_true rfl) dX10_judged_24 ⟨Nat.le_of_ble_eq_true rfl, Nat.le_of_ble_eq_true rfl⟩) hP hD hS hA [3, 4, 5, 6, 7, 8, 9, 10, 11, 12, 13, 14, 15, 16, 1, 2] [0, 17] rfl rfl (by decide) (by decide) (fun w5 H locs hw hP hD hS => ?_)
  have hP : va_P g vwCl [(h1, .inr (10, [x2, x3, x4, .ref h5, x6, x7, .ref h8, .ref h9, x10, x11, x12, x13, x14, x15, x16, x17])), (h9, .inr (5, [x33, .int 0, x34, x35, x36])), (h20, .inl (aC 6, 4, .inr (.inr (.inr (.inr (fun i => if i < 4 then some (R29 i) else none)))))), (h21, .inl (aC 6, 5, .inr (.inr (.inr (.inr (fun i => if i < 5 then some (R30 i) else none)))))), ((R29 0), .inl (aC 0, 2, .inl (fun _ => 0))), ((R29 1), .inl (aC 0, 2, .inl (fun _ => 0))), ((R29 2), .inl (aC 0, 2, .inl (fun _ => 0))), ((R29 3), .inl (aC 0, 2, .inl (fun _ => 0))), ((R30 0), .inl (aC 0, 4, .inl (fun _ => 0))), ((R30 1), .inl (aC 0, 4, .inl (fun _ => 0))), ((R30 2), .inl (aC 0, 4, .inl (fun _ => 0))), ((R30 3), .inl (aC 0, 4, .inl (fun _ => 0))), ((R30 4), .inl (aC 0, 4, .inl (fun _ => 0))), (h8, .inr (6, [.int 0, .ref h31, .ref h32, .int 0, .int 0, .int 0])), (h31, .inl (aC 0, 5, .inl (fun _ => 0))), (h32, .inl (aC 0, 4, .inl (fun _ => 0))), (h5, .inr (8, [.ref h18, x19, .ref h20, .ref h21, x22, .int 0, x23, x24, x25, x26, x27, x28])), (h18, .inl (aC 0, 5, .inl (fun _ => 0)))] H := hP
  have hD : va_D A [(h1, .inr (10, [x2, x3, x4, .ref h5, x6, x7, .ref h8, .ref h9, x10, x11, x12, x13, x14, x15, x16, x17])), (h9, .inr (5, [x33, .int 0, x34, x35, x36])), (h20, .inl (aC 6, 4, .inr (.inr (.inr (.inr (fun i => if i < 4 then some (R29 i) else none)))))), (h21, .inl (aC 6, 5, .inr (.inr (.inr (.inr (fun i => if i < 5 then some (R30 i) else none)))))), ((R29 0), .inl (aC 0, 2, .inl (fun _ => 0))), ((R29 1), .inl (aC 0, 2, .inl (fun _ => 0))), ((R29 2), .inl (aC 0, 2, .inl (fun _ => 0))), ((R29 3), .inl (aC 0, 2, .inl (fun _ => 0))), ((R30 0), .inl (aC 0, 4, .inl (fun _ => 0))), ((R30 1), .inl (aC 0, 4, .inl (fun _ => 0))), ((R30 2), .inl (aC 0, 4, .inl (fun _ => 0))), ((R30 3), .inl (aC 0, 4, .inl (fun _ => 0))), ((R30 4), .inl (aC 0, 4, .inl (fun _ => 0))), (h8, .inr (6, [.int 0, .ref h31, .ref h32, .int 0, .int 0, .int 0])), (h31, .inl (aC 0, 5, .inl (fun _ => 0))), (h32, .inl (aC 0, 4, .inl (fun _ => 0))), (h5, .inr (8, [.ref h18, x19, .ref h20, .ref h21, x22, .int 0, x23, x24, x25, x26, x27, x28])), (h18, .inl (aC 0, 5, .inl (fun _ => 0)))] := hD
  refine lv_iconst (v := 0) hx hb dX10_judged_27 (by decide) ?_
  refine lv_istore (lv' := [(4, .int 0), (3, .int (-1)), (2, .int (-1)), (0, .ref h1), (1, .int 1)]) hx hb dX10_judged_28 hl (by decide) rfl (fun ls hl => ?_)
  refine lv_iload hx hb dX10_judged_30 (lv_at hl 0 rfl) ?_
  refine lv_aload_n hx hb dX10_judged_32 rfl (lv_at hl 3 rfl) ?_
  refine xget F hP 0 rfl rfl inX10 7 (by decide) tb407 rfl dX10_judged_33 ?_
  refine xget F hP 1 rfl rfl inX5 1 (by decide) tb326 rfl dX10_judged_36 ?_
  refine lv_icmp_ge (tgt := 122) hx hb dX10_judged_39 (by decide) (fun _ => ?_) (fun c_ => absurd (by decide +kernel) c_)
  refine lv_iload_n hx hb dX10_judged_122 rfl (lv_at hl 4 rfl) ?_
  refine lv_iconst (v := 2) hx hb dX10_judged_123 (by decide) ?_
  refine lv_icmp_ne (tgt := 135) hx hb dX10_judged_124 (by decide) (fun _ => ?_) (fun c_ => absurd c_ (by decide +kernel))
  refine lv_iload_n hx hb dX10_judged_135 rfl (lv_at hl 4 rfl) ?_
  refine lv_if_ne (tgt := 143) hx hb dX10_judged_136 (by decide) (fun _ => ?_) (fun c_ => absurd c_ (by decide +kernel))
  refine lv_iload_n hx hb dX10_judged_143 rfl (lv_at hl 1 rfl) ?_
  have hP9 := hP.sub (ws' := []) [] rfl
  have hD9 := hD.sub (ws' := []) [] (by decide) rfl
  exact rI () hx hb hr hlk rfl hS rfl hP9 hD9 (Nat.le_of_ble_eq_true rfl) (Nat.le_of_ble_eq_true rfl) dX10_judged_144

set_option maxHeartbeats 4000000 in
set_option maxRecDepth 100000 in
theorem x_judged_2 (l : Launch) (g : va_G) (aC : Nat → ClassId) (aM : Nat → Nat) (h1 h5 h8 h9 h18 h20 h21 h31 h32 : Nat) (x2 x3 x4 x6 x7 x10 x11 x12 x13 x14 x15 x16 x17 x19 x22 x23 x24 x25 x26 x27 x28 x33 x34 x35 x36 : Value) (R29 R30 : Nat → Nat) : Ct l g aC aM yX10_judged cX10_judged 5 (some .int) 3 [.ref h1, .int 2] [(h1, .inr (10, [x2, x3, x4, .ref h5, x6, x7, .ref h8, .ref h9, x10, x11, x12, x13, x14, x15, x16, x17])), (h5, .inr (8, [.ref h18, x19, .ref h20, .ref h21, x22, .int 0, x23, x24, x25, x26, x27, x28])), (h18, .inl (aC 0, 5, .inl (fun _ => 0))), (h20, .inl (aC 6, 4, .inr (.inr (.inr (.inr (fun i => if i < 4 then some (R29 i) else none)))))), (h21, .inl (aC 6, 5, .inr (.inr (.inr (.inr (fun i => if i < 5 then some (R30 i) else none)))))), ((R29 0), .inl (aC 0, 2, .inl (fun _ => 0))), ((R29 1), .inl (aC 0, 2, .inl (fun _ => 0))), ((R29 2), .inl (aC 0, 2, .inl (fun _ => 0))), ((R29 3), .inl (aC 0, 2, .inl (fun _ => 0))), ((R30 0), .inl (aC 0, 4, .inl (fun _ => 0))), ((R30 1), .inl (aC 0, 4, .inl (fun _ => 0))), ((R30 2), .inl (aC 0, 4, .inl (fun _ => 0))), ((R30 3), .inl (aC 0, 4, .inl (fun _ => 0))), ((R30 4), .inl (aC 0, 4, .inl (fun _ => 0))), (h8, .inr (6, [.int 0, .ref h31, .ref h32, .int 0, .int 0, .int 0])), (h31, .inl (aC 0, 5, .inl (fun _ => 0))), (h32, .inl (aC 0, 4, .inl (fun _ => 0))), (h9, .inr (5, [x33, .int 0, x34, x35, x36]))] (QI g (fun (r : Int32) (_ : Unit) => r = 0) (fun (_ : Unit) => [])) 0 0 := by
  refine Ct.mk (by decide) (Nat.le_of_ble_eq_true rfl) ?_
  intro p e s m below meth c A ls hx hb hml hown hts hr hlk hnm hK hA hM hM2 hP hD hS hl
  have hown : s.vm.findClass RX10 = some m.cls := hown
  have F : Fx p s m _ c cX10_judged 5 RX10 g aC aM A := ⟨hx, hb, hml, hown, hts, hK, hA, hM, hM2⟩
  have hl : lv_has ls 5 [(0, .ref h1), (1, .int 2)] := hl
  refine lv_iload_n hx hb dX10_judged_0 rfl (lv_at hl 1 rfl) ?_
  refine lv_if_lt (tgt := 9) hx hb dX10_judged_1 (by decide) (fun c_ => absurd c_ (by decide +kernel)) (fun _ => ?_)
  refine lv_iload_n hx hb dX10_judged_4 rfl (lv_at hl 1 rfl) ?_
  refine lv_iconst (v := 2) hx hb dX10_judged_5 (by decide) ?_
  refine lv_icmp_le (tgt := 12) hx hb dX10_judged_6 (by decide) (fun _ => ?_) (fun c_ => absurd (by decide +kernel) c_)
  refine lv_iconst (v := (-1)) hx hb dX10_judged_12 (by decide) ?_
  refine lv_istore_n (lv' := [(2, .int (-1)), (0, .ref h1), (1, .int 2)]) hx hb dX10_judged_13 rfl hl (by decide) rfl (fun ls hl => ?_)
  refine lv_iconst (v := (-1)) hx hb dX10_judged_14 (by decide) ?_
  refine lv_istore_n (lv' := [(3, .int (-1)), (2, .int (-1)), (0, .ref h1), (1, .int 2)]) hx hb dX10_judged_15 rfl hl (by decide) rfl (fun ls hl => ?_)
  refine lv_aload_n hx hb dX10_judged_16 rfl (lv_at hl 2 rfl) ?_
  refine xget F hP 0 rfl rfl inX10 6 (by decide) tb406 rfl dX10_judged_17 ?_
  refine lv_aload_n hx hb dX10_judged_20 rfl (lv_at hl 2 rfl) ?_
  refine xget F hP 0 rfl rfl inX10 3 (by decide) tb403 rfl dX10_judged_21 ?_
  refine goV (wr := [(h1, .inr (10, [x2, x3, x4, .ref h5, x6, x7, .ref h8, .ref h9, x10, x11, x12, x13, x14, x15, x16, x17])), (h9, .inr (5, [x33, .int 0, x34, x35, x36]))]) (runV (n := 1) (As := [.ref h5]) (rest := []) F hP hD hS (a_X6_begin_1 l g aC aM h8 h5 h20 h21 h31 h32 h18 x19 x22 x23 x24 x25 x26 x27 x28 R29 R30) [3, 4, 5, 6, 7, 8, 9, 10, 11, 12, 13, 14, 15, 16, 1, 2] (by decide) rfl 14 6 rfl rfl rfl tb711 tb708 tb709 tb710 tb12 ⟨by decide, by decide, by decide +kernel⟩ ⟨Nat.le_of_ble_eq_true rfl, Nat.le_of_ble_eq_true rfl⟩ rfl hl.1 rfl (Nat.le_of_ble_eq_true rfl) dX10_judged_24 ⟨Nat.le_of_ble_eq_true rfl, Nat.le_of_ble_eq_true rfl⟩) hP hD hS hA [3, 4, 5, 6, 7, 8, 9, 10, 11, 12, 13, 14, 15, 16, 1, 2] [0, 17] rfl rfl (by decide) (by decide) (fun w5 H locs hw hP hD hS => ?_)
  have hP : va_P g vwCl [(h1, .inr (10, [x2, x3, x4, .ref h5, x6, x7, .ref h8, .ref h9, x10, x11, x12, x13, x14, x15, x16, x17])), (h9, .inr (5, [x33, .int 0, x34, x35, x36])), (h20, .inl (aC 6, 4, .inr (.inr (.inr (.inr (fun i => if i < 4 then some (R29 i) else none)))))), (h21, .inl (aC 6, 5, .inr (.inr (.inr (.inr (fun i => if i < 5 then some (R30 i) else none)))))), ((R29 0), .inl (aC 0, 2, .inl (fun _ => 0))), ((R29 1), .inl (aC 0, 2, .inl (fun _ => 0))), ((R29 2), .inl (aC 0, 2, .inl (fun _ => 0))), ((R29 3), .inl (aC 0, 2, .inl (fun _ => 0))), ((R30 0), .inl (aC 0, 4, .inl (fun _ => 0))), ((R30 1), .inl (aC 0, 4, .inl (fun _ => 0))), ((R30 2), .inl (aC 0, 4, .inl (fun _ => 0))), ((R30 3), .inl (aC 0, 4, .inl (fun _ => 0))), ((R30 4), .inl (aC 0, 4, .inl (fun _ => 0))), (h8, .inr (6, [.int 0, .ref h31, .ref h32, .int 0, .int 0, .int 0])), (h31, .inl (aC 0, 5, .inl (fun _ => 0))), (h32, .inl (aC 0, 4, .inl (fun _ => 0))), (h5, .inr (8, [.ref h18, x19, .ref h20, .ref h21, x22, .int 0, x23, x24, x25, x26, x27, x28])), (h18, .inl (aC 0, 5, .inl (fun _ => 0)))] H := hP
  have hD : va_D A [(h1, .inr (10, [x2, x3, x4, .ref h5, x6, x7, .ref h8, .ref h9, x10, x11, x12, x13, x14, x15, x16, x17])), (h9, .inr (5, [x33, .int 0, x34, x35, x36])), (h20, .inl (aC 6, 4, .inr (.inr (.inr (.inr (fun i => if i < 4 then some (R29 i) else none)))))), (h21, .inl (aC 6, 5, .inr (.inr (.inr (.inr (fun i => if i < 5 then some (R30 i) else none)))))), ((R29 0), .inl (aC 0, 2, .inl (fun _ => 0))), ((R29 1), .inl (aC 0, 2, .inl (fun _ => 0))), ((R29 2), .inl (aC 0, 2, .inl (fun _ => 0))), ((R29 3), .inl (aC 0, 2, .inl (fun _ => 0))), ((R30 0), .inl (aC 0, 4, .inl (fun _ => 0))), ((R30 1), .inl (aC 0, 4, .inl (fun _ => 0))), ((R30 2), .inl (aC 0, 4, .inl (fun _ => 0))), ((R30 3), .inl (aC 0, 4, .inl (fun _ => 0))), ((R30 4), .inl (aC 0, 4, .inl (fun _ => 0))), (h8, .inr (6, [.int 0, .ref h31, .ref h32, .int 0, .int 0, .int 0])), (h31, .inl (aC 0, 5, .inl (fun _ => 0))), (h32, .inl (aC 0, 4, .inl (fun _ => 0))), (h5, .inr (8, [.ref h18, x19, .ref h20, .ref h21, x22, .int 0, x23, x24, x25, x26, x27, x28])), (h18, .inl (aC 0, 5, .inl (fun _ => 0)))] := hD
  refine lv_iconst (v := 0) hx hb dX10_judged_27 (by decide) ?_
  refine lv_istore (lv' := [(4, .int 0), (3, .int (-1)), (2, .int (-1)), (0, .ref h1), (1, .int 2)]) hx hb dX10_judged_28 hl (by decide) rfl (fun ls hl => ?_)
  refine lv_iload hx hb dX10_judged_30 (lv_at hl 0 rfl) ?_
  refine lv_aload_n hx hb dX10_judged_32 rfl (lv_at hl 3 rfl) ?_
  refine xget F hP 0 rfl rfl inX10 7 (by decide) tb407 rfl dX10_judged_33 ?_
  refine xget F hP 1 rfl rfl inX5 1 (by decide) tb326 rfl dX10_judged_36 ?_
  refine lv_icmp_ge (tgt := 122) hx hb dX10_judged_39 (by decide) (fun _ => ?_) (fun c_ => absurd (by decide +kernel) c_)
  refine lv_iload_n hx hb dX10_judged_122 rfl (lv_at hl 4 rfl) ?_
  refine lv_iconst (v := 2) hx hb dX10_judged_123 (by decide) ?_
  refine lv_icmp_ne (tgt := 135) hx hb dX10_judged_124 (by decide) (fun c_ => absurd (by decide +kernel) c_) (fun _ => ?_)
  refine lv_aload_n hx hb dX10_judged_127 rfl (lv_at hl 3 rfl) ?_
  refine xget F hP 0 rfl rfl inX10 6 (by decide) tb406 rfl dX10_judged_128 ?_
  refine xget F hP 13 rfl rfl inX6 5 (by decide) tb303 rfl dX10_judged_131 ?_
  have hP9 := hP.sub (ws' := []) [] rfl
  have hD9 := hD.sub (ws' := []) [] (by decide) rfl
  exact rI () hx hb hr hlk rfl hS rfl hP9 hD9 (Nat.le_of_ble_eq_true rfl) (Nat.le_of_ble_eq_true rfl) dX10_judged_134

theorem tb930 : (Jvm.Cond.methodLink "StairGang" (212 : Nat) ({ cls := "StairGang$Town", name := "all", desc := "()I" } : Jvm.MethodName)) ∈ gw := lw_m 930 (by decide +kernel)
theorem dX10_plan_0 : decode cX10_plan 0 = .ok (.iload_n 1, 1) := by decide +kernel
theorem dX10_plan_1 : decode cX10_plan 1 = .ok (.ifCond .lt 8, 3) := by decide +kernel
theorem dX10_plan_4 : decode cX10_plan 4 = .ok (.iload_n 1, 1) := by decide +kernel
theorem dX10_plan_5 : decode cX10_plan 5 = .ok (.iconst 1, 1) := by decide +kernel
theorem dX10_plan_6 : decode cX10_plan 6 = .ok (.if_icmp .le 5, 3) := by decide +kernel
theorem dX10_plan_9 : decode cX10_plan 9 = .ok (.iconst (-1), 1) := by decide +kernel
theorem dX10_plan_10 : decode cX10_plan 10 = .ok (.ireturn, 1) := by decide +kernel
theorem dX10_plan_11 : decode cX10_plan 11 = .ok (.aload_n 0, 1) := by decide +kernel
theorem dX10_plan_12 : decode cX10_plan 12 = .ok (.aload_n 0, 1) := by decide +kernel
theorem dX10_plan_13 : decode cX10_plan 13 = .ok (.getfield 45, 3) := by decide +kernel
theorem dX10_plan_16 : decode cX10_plan 16 = .ok (.invokevirtual 163, 3) := by decide +kernel
theorem dX10_plan_19 : decode cX10_plan 19 = .ok (.iconst (-1), 1) := by decide +kernel
theorem dX10_plan_20 : decode cX10_plan 20 = .ok (.istore_n 2, 1) := by decide +kernel
theorem dX10_plan_21 : decode cX10_plan 21 = .ok (.iconst (-1), 1) := by decide +kernel
theorem dX10_plan_22 : decode cX10_plan 22 = .ok (.istore_n 3, 1) := by decide +kernel
theorem dX10_plan_23 : decode cX10_plan 23 = .ok (.iconst 0, 1) := by decide +kernel
theorem dX10_plan_24 : decode cX10_plan 24 = .ok (.istore 4, 2) := by decide +kernel
theorem dX10_plan_26 : decode cX10_plan 26 = .ok (.iload 4, 2) := by decide +kernel
theorem dX10_plan_28 : decode cX10_plan 28 = .ok (.aload_n 0, 1) := by decide +kernel
theorem dX10_plan_29 : decode cX10_plan 29 = .ok (.getfield 35, 3) := by decide +kernel
theorem dX10_plan_32 : decode cX10_plan 32 = .ok (.invokevirtual 212, 3) := by decide +kernel
theorem dX10_plan_35 : decode cX10_plan 35 = .ok (.if_icmp .gt 82, 3) := by decide +kernel
theorem dX10_plan_38 : decode cX10_plan 38 = .ok (.iload 4, 2) := by decide +kernel
theorem dX10_plan_40 : decode cX10_plan 40 = .ok (.aload_n 0, 1) := by decide +kernel
theorem dX10_plan_41 : decode cX10_plan 41 = .ok (.getfield 45, 3) := by decide +kernel
theorem dX10_plan_44 : decode cX10_plan 44 = .ok (.getfield 133, 3) := by decide +kernel
theorem dX10_plan_47 : decode cX10_plan 47 = .ok (.iand, 1) := by decide +kernel
theorem dX10_plan_48 : decode cX10_plan 48 = .ok (.ifCond .eq 6, 3) := by decide +kernel
theorem dX10_plan_54 : decode cX10_plan 54 = .ok (.aload_n 0, 1) := by decide +kernel
theorem dX10_plan_55 : decode cX10_plan 55 = .ok (.getfield 35, 3) := by decide +kernel
theorem dX10_plan_58 : decode cX10_plan 58 = .ok (.iload 4, 2) := by decide +kernel
theorem dX10_plan_60 : decode cX10_plan 60 = .ok (.invokevirtual 159, 3) := by decide +kernel
theorem dX8_riseOf_0 : decode cX8_riseOf 0 = .ok (.iconst 0, 1) := by decide +kernel
theorem dX8_riseOf_1 : decode cX8_riseOf 1 = .ok (.istore_n 2, 1) := by decide +kernel
theorem dX8_riseOf_2 : decode cX8_riseOf 2 = .ok (.iconst 0, 1) := by decide +kernel
theorem dX8_riseOf_3 : decode cX8_riseOf 3 = .ok (.istore_n 3, 1) := by decide +kernel
theorem dX8_riseOf_4 : decode cX8_riseOf 4 = .ok (.iload_n 3, 1) := by decide +kernel
theorem dX8_riseOf_5 : decode cX8_riseOf 5 = .ok (.aload_n 0, 1) := by decide +kernel
theorem dX8_riseOf_6 : decode cX8_riseOf 6 = .ok (.getfield 13, 3) := by decide +kernel
theorem dX8_riseOf_9 : decode cX8_riseOf 9 = .ok (.iconst 1, 1) := by decide +kernel
theorem dX8_riseOf_10 : decode cX8_riseOf 10 = .ok (.iaload, 1) := by decide +kernel
theorem dX8_riseOf_11 : decode cX8_riseOf 11 = .ok (.if_icmp .ge 29, 3) := by decide +kernel
theorem dX8_riseOf_40 : decode cX8_riseOf 40 = .ok (.iload_n 2, 1) := by decide +kernel
theorem dX8_riseOf_41 : decode cX8_riseOf 41 = .ok (.ireturn, 1) := by decide +kernel
set_option maxHeartbeats 4000000 in
set_option maxRecDepth 100000 in
theorem a_X8_riseOf_1 (l : Launch) (g : va_G) (aC : Nat → ClassId) (aM : Nat → Nat) (h1 h2 : Nat) (x3 x4 x5 x6 x7 x8 x9 x10 x11 x12 x13 : Value) : Ct l g aC aM yX8_riseOf cX8_riseOf 4 (some .int) 1 [.ref h1, .int 0] [(h1, .inr (8, [.ref h2, x3, x4, x5, x6, x7, x8, x9, x10, x11, x12, x13])), (h2, .inl (aC 0, 5, .inl (fun _ => 0)))] (QI g (fun (r : Int32) (_ : Unit) => r = 0) (fun (_ : Unit) => [(h1, .inr (8, [.ref h2, x3, x4, x5, x6, x7, x8, x9, x10, x11, x12, x13])), (h2, .inl (aC 0, 5, .inl (fun _ => 0)))])) 0 0 := by
  refine Ct.mk (by decide) (Nat.le_of_ble_eq_true rfl) ?_
  intro p e s m below meth c A ls hx hb hml hown hts hr hlk hnm hK hA hM hM2 hP hD hS hl
  have hown : s.vm.findClass RX8 = some m.cls := hown
  have F : Fx p s m _ c cX8_riseOf 4 RX8 g aC aM A := ⟨hx, hb, hml, hown, hts, hK, hA, hM, hM2⟩
  have hl : lv_has ls 4 [(0, .ref h1), (1, .int 0)] := hl
  refine lv_iconst (v := 0) hx hb dX8_riseOf_0 (by decide) ?_
  refine lv_istore_n (lv' := [(2, .int 0), (0, .ref h1), (1, .int 0)]) hx hb dX8_riseOf_1 rfl hl (by decide) rfl (fun ls hl => ?_)
  refine lv_iconst (v := 0) hx hb dX8_riseOf_2 (by decide) ?_
  refine lv_istore_n (lv' := [(3, .int 0), (2, .int 0), (0, .ref h1), (1, .int 0)]) hx hb dX8_riseOf_3 rfl hl (by decide) rfl (fun ls hl => ?_)
  refine lv_iload_n hx hb dX8_riseOf_4 rfl (lv_at hl 0 rfl) ?_
  refine lv_aload_n hx hb dX8_riseOf_5 rfl (lv_at hl 2 rfl) ?_
  refine xget F hP 0 rfl rfl inX8 0 (by decide) tb227 rfl dX8_riseOf_6 ?_
  refine lv_iconst (v := 1) hx hb dX8_riseOf_9 (by decide) ?_
  refine xilo (v := 0) F hP 1 rfl 1 (by decide +kernel) (by decide +kernel) (by decide) (by decide +kernel) dX8_riseOf_10 ?_
  refine lv_icmp_ge (tgt := 40) hx hb dX8_riseOf_11 (by decide) (fun _ => ?_) (fun c_ => absurd (by decide +kernel) c_)
  refine lv_iload_n hx hb dX8_riseOf_40 rfl (lv_at hl 1 rfl) ?_
  have hP9 := hP.sub (ws' := [(h1, .inr (8, [.ref h2, x3, x4, x5, x6, x7, x8, x9, x10, x11, x12, x13])), (h2, .inl (aC 0, 5, .inl (fun _ => 0)))]) [0, 1] rfl
  have hD9 := hD.sub (ws' := [(h1, .inr (8, [.ref h2, x3, x4, x5, x6, x7, x8, x9, x10, x11, x12, x13])), (h2, .inl (aC 0, 5, .inl (fun _ => 0)))]) [0, 1] (by decide) rfl
  exact rI () hx hb hr hlk rfl hS rfl hP9 hD9 (Nat.le_of_ble_eq_true rfl) (Nat.le_of_ble_eq_true rfl) dX8_riseOf_41

theorem tb809 : (Jvm.Cond.methodLink "StairGang" (159 : Nat) ({ cls := "StairGang$Town", name := "riseOf", desc := "(I)I" } : Jvm.MethodName)) ∈ gw := lw_m 809 (by decide +kernel)
theorem tb810 : (Jvm.Cond.instanceMethod ({ cls := "StairGang$Town", name := "riseOf", desc := "(I)I" } : Jvm.MethodName)) ∈ gw := lw_m 810 (by decide +kernel)
theorem tb811 : (Jvm.Cond.selects "StairGang$Town" ({ cls := "StairGang$Town", name := "riseOf", desc := "(I)I" } : Jvm.MethodName) ({ cls := "StairGang$Town", name := "riseOf", desc := "(I)I" } : Jvm.MethodName)) ∈ gw := lw_m 811 (by decide +kernel)
theorem tb812 : (Jvm.Cond.code ({ cls := "StairGang$Town", name := "riseOf", desc := "(I)I" } : Jvm.MethodName) prog_10_method_20_code (4 : Nat) (Option.some Jvm.ClassFile.FieldType.int)) ∈ gw := lw_m 812 (by decide +kernel)
theorem dX10_plan_63 : decode cX10_plan 63 = .ok (.istore 5, 2) := by decide +kernel
theorem dX10_plan_65 : decode cX10_plan 65 = .ok (.iload 5, 2) := by decide +kernel
theorem dX10_plan_67 : decode cX10_plan 67 = .ok (.aload_n 0, 1) := by decide +kernel
theorem dX10_plan_68 : decode cX10_plan 68 = .ok (.getfield 45, 3) := by decide +kernel
theorem dX10_plan_71 : decode cX10_plan 71 = .ok (.getfield 216, 3) := by decide +kernel
theorem dX10_plan_74 : decode cX10_plan 74 = .ok (.if_icmp .gt 37, 3) := by decide +kernel
theorem dX10_plan_77 : decode cX10_plan 77 = .ok (.iload_n 2, 1) := by decide +kernel
theorem dX10_plan_78 : decode cX10_plan 78 = .ok (.iconst (-1), 1) := by decide +kernel
theorem dX10_plan_79 : decode cX10_plan 79 = .ok (.if_icmp .eq 9, 3) := by decide +kernel
theorem dX10_plan_88 : decode cX10_plan 88 = .ok (.aload_n 0, 1) := by decide +kernel
theorem dX10_plan_89 : decode cX10_plan 89 = .ok (.aload_n 0, 1) := by decide +kernel
theorem dX10_plan_90 : decode cX10_plan 90 = .ok (.getfield 45, 3) := by decide +kernel
theorem dX10_plan_93 : decode cX10_plan 93 = .ok (.getfield 133, 3) := by decide +kernel
theorem dX10_plan_96 : decode cX10_plan 96 = .ok (.iload 4, 2) := by decide +kernel
theorem dX10_plan_98 : decode cX10_plan 98 = .ok (.ior, 1) := by decide +kernel
theorem dX10_plan_99 : decode cX10_plan 99 = .ok (.invokevirtual 167, 3) := by decide +kernel
theorem dX10_plan_102 : decode cX10_plan 102 = .ok (.ifCond .ne 9, 3) := by decide +kernel
theorem dX10_plan_105 : decode cX10_plan 105 = .ok (.iload 5, 2) := by decide +kernel
theorem dX10_plan_107 : decode cX10_plan 107 = .ok (.istore_n 2, 1) := by decide +kernel
theorem dX10_plan_108 : decode cX10_plan 108 = .ok (.iload 4, 2) := by decide +kernel
theorem dX10_plan_110 : decode cX10_plan 110 = .ok (.istore_n 3, 1) := by decide +kernel
theorem dX10_plan_111 : decode cX10_plan 111 = .ok (.iinc 4 1, 3) := by decide +kernel
theorem dX10_plan_114 : decode cX10_plan 114 = .ok (.goto (-88), 3) := by decide +kernel
theorem dX10_plan_117 : decode cX10_plan 117 = .ok (.iload_n 1, 1) := by decide +kernel
theorem dX10_plan_118 : decode cX10_plan 118 = .ok (.ifCond .ne 7, 3) := by decide +kernel
theorem dX10_plan_121 : decode cX10_plan 121 = .ok (.iload_n 2, 1) := by decide +kernel
theorem dX10_plan_122 : decode cX10_plan 122 = .ok (.goto 4, 3) := by decide +kernel
theorem dX10_plan_125 : decode cX10_plan 125 = .ok (.iload_n 3, 1) := by decide +kernel
theorem dX10_plan_126 : decode cX10_plan 126 = .ok (.ireturn, 1) := by decide +kernel
set_option maxHeartbeats 4000000 in
set_option maxRecDepth 100000 in
theorem x_plan_lo (l : Launch) (g : va_G) (aC : Nat → ClassId) (aM : Nat → Nat) (h1 h5 h7 h18 : Nat) (x2 x3 x4 x6 x8 x9 x10 x11 x12 x13 x14 x15 x16 x17 x19 x20 x21 x22 x23 x24 x25 x26 x27 x28 x29 x30 x31 x32 x33 : Value) (n_1 : Int32) (hh1 : n_1 ≤ (-1)) : Ct l g aC aM yX10_plan cX10_plan 6 (some .int) 2 [.ref h1, .int n_1] [(h1, .inr (10, [x2, x3, x4, .ref h5, x6, .ref h7, x8, x9, x10, x11, x12, x13, x14, x15, x16, x17])), (h5, .inr (8, [.ref h18, x19, x20, x21, x22, x23, x24, x25, x26, x27, x28, x29])), (h18, .inl (aC 0, 5, .inl (fun _ => 0))), (h7, .inr (6, [.int 0, x30, x31, .int 0, x32, x33]))] (QI g (fun (r : Int32) (_ : Unit) => r = (-1)) (fun (_ : Unit) => [])) 0 0 := by
  refine Ct.mk (by decide) (Nat.le_of_ble_eq_true rfl) ?_
  intro p e s m below meth c A ls hx hb hml hown hts hr hlk hnm hK hA hM hM2 hP hD hS hl
  have hown : s.vm.findClass RX10 = some m.cls := hown
  have F : Fx p s m _ c cX10_plan 6 RX10 g aC aM A := ⟨hx, hb, hml, hown, hts, hK, hA, hM, hM2⟩
  have hl : lv_has ls 6 [(0, .ref h1), (1, .int n_1)] := hl
  refine lv_iload_n hx hb dX10_plan_0 rfl (lv_at hl 1 rfl) ?_
  refine lv_if_lt (tgt := 9) hx hb dX10_plan_1 (by decide) (fun c1 => ?_) (fun c1 => ?_)
  · refine lv_iconst (v := (-1)) hx hb dX10_plan_9 (by decide) ?_
    have hP9 := hP.sub (ws' := []) [] rfl
    have hD9 := hD.sub (ws' := []) [] (by decide) rfl
    exact rI () hx hb hr hlk rfl hS rfl hP9 hD9 (Nat.le_of_ble_eq_true rfl) (Nat.le_of_ble_eq_true rfl) dX10_plan_10
  · exfalso
    simp only [Int32.lt_iff_toInt_lt, Int32.le_iff_toInt_le, ← Int32.toInt_inj, show (-1 : Int32).toInt = -1 by decide, show (0 : Int32).toInt = 0 by decide] at hh1 c1; omega

set_option maxHeartbeats 4000000 in
set_option maxRecDepth 100000 in
theorem x_plan_hi (l : Launch) (g : va_G) (aC : Nat → ClassId) (aM : Nat → Nat) (h1 h5 h7 h18 : Nat) (x2 x3 x4 x6 x8 x9 x10 x11 x12 x13 x14 x15 x16 x17 x19 x20 x21 x22 x23 x24 x25 x26 x27 x28 x29 x30 x31 x32 x33 : Value) (n_1 : Int32) (hl1 : 2 ≤ n_1) : Ct l g aC aM yX10_plan cX10_plan 6 (some .int) 2 [.ref h1, .int n_1] [(h1, .inr (10, [x2, x3, x4, .ref h5, x6, .ref h7, x8, x9, x10, x11, x12, x13, x14, x15, x16, x17])), (h5, .inr (8, [.ref h18, x19, x20, x21, x22, x23, x24, x25, x26, x27, x28, x29])), (h18, .inl (aC 0, 5, .inl (fun _ => 0))), (h7, .inr (6, [.int 0, x30, x31, .int 0, x32, x33]))] (QI g (fun (r : Int32) (_ : Unit) => r = (-1)) (fun (_ : Unit) => [])) 0 0 := by
  refine Ct.mk (by decide) (Nat.le_of_ble_eq_true rfl) ?_
  intro p e s m below meth c A ls hx hb hml hown hts hr hlk hnm hK hA hM hM2 hP hD hS hl
  have hown : s.vm.findClass RX10 = some m.cls := hown
  have F : Fx p s m _ c cX10_plan 6 RX10 g aC aM A := ⟨hx, hb, hml, hown, hts, hK, hA, hM, hM2⟩
  have hl : lv_has ls 6 [(0, .ref h1), (1, .int n_1)] := hl
  refine lv_iload_n hx hb dX10_plan_0 rfl (lv_at hl 1 rfl) ?_
  refine lv_if_lt (tgt := 9) hx hb dX10_plan_1 (by decide) (fun c1 => ?_) (fun c1 => ?_)
  · exfalso
    simp only [Int32.lt_iff_toInt_lt, Int32.le_iff_toInt_le, ← Int32.toInt_inj, show (0 : Int32).toInt = 0 by decide, show (2 : Int32).toInt = 2 by decide] at hl1 c1; omega
  · refine lv_iload_n hx hb dX10_plan_4 rfl (lv_at hl 1 rfl) ?_
    refine lv_iconst (v := 1) hx hb dX10_plan_5 (by decide) ?_
    refine lv_icmp_le (tgt := 11) hx hb dX10_plan_6 (by decide) (fun c2 => ?_) (fun c2 => ?_)
    · exfalso
      simp only [Int32.lt_iff_toInt_lt, Int32.le_iff_toInt_le, ← Int32.toInt_inj, show (0 : Int32).toInt = 0 by decide, show (1 : Int32).toInt = 1 by decide, show (2 : Int32).toInt = 2 by decide] at hl1 c1 c2; omega
    · refine lv_iconst (v := (-1)) hx hb dX10_plan_9 (by decide) ?_
      have hP9 := hP.sub (ws' := []) [] rfl
      have hD9 := hD.sub (ws' := []) [] (by decide) rfl
      exact rI () hx hb hr hlk rfl hS rfl hP9 hD9 (Nat.le_of_ble_eq_true rfl) (Nat.le_of_ble_eq_true rfl) dX10_plan_10

set_option maxHeartbeats 4000000 in
set_option maxRecDepth 100000 in
theorem x_plan_0 (l : Launch) (g : va_G) (aC : Nat → ClassId) (aM : Nat → Nat) (h1 h5 h7 h18 : Nat) (x2 x3 x4 x6 x8 x9 x10 x11 x12 x13 x14 x15 x16 x17 x19 x20 x21 x22 x23 x24 x25 x26 x27 x28 x29 x30 x31 x32 x33 : Value) : Ct l g aC aM yX10_plan cX10_plan 6 (some .int) 2 [.ref h1, .int 0] [(h1, .inr (10, [x2, x3, x4, .ref h5, x6, .ref h7, x8, x9, x10, x11, x12, x13, x14, x15, x16, x17])), (h5, .inr (8, [.ref h18, x19, x20, x21, x22, x23, x24, x25, x26, x27, x28, x29])), (h18, .inl (aC 0, 5, .inl (fun _ => 0))), (h7, .inr (6, [.int 0, x30, x31, .int 0, x32, x33]))] (QI g (fun (r : Int32) (_ : Unit) => r = 0) (fun (_ : Unit) => [])) 0 0 := by
  refine Ct.mk (by decide) (Nat.le_of_ble_eq_true rfl) ?_
  intro p e s m below meth c A ls hx hb hml hown hts hr hlk hnm hK hA hM hM2 hP hD hS hl
  have hown : s.vm.findClass RX10 = some m.cls := hown
  have F : Fx p s m _ c cX10_plan 6 RX10 g aC aM A := ⟨hx, hb, hml, hown, hts, hK, hA, hM, hM2⟩
  have hl : lv_has ls 6 [(0, .ref h1), (1, .int 0)] := hl
  refine lv_iload_n hx hb dX10_plan_0 rfl (lv_at hl 1 rfl) ?_
  refine lv_if_lt (tgt := 9) hx hb dX10_plan_1 (by decide) (fun c_ => absurd c_ (by decide +kernel)) (fun _ => ?_)
  refine lv_iload_n hx hb dX10_plan_4 rfl (lv_at hl 1 rfl) ?_
  refine lv_iconst (v := 1) hx hb dX10_plan_5 (by decide) ?_
  refine lv_icmp_le (tgt := 11) hx hb dX10_plan_6 (by decide) (fun _ => ?_) (fun c_ => absurd (by decide +kernel) c_)
  refine lv_aload_n hx hb dX10_plan_11 rfl (lv_at hl 0 rfl) ?_
  refine lv_aload_n hx hb dX10_plan_12 rfl (lv_at hl 0 rfl) ?_
  refine xget F hP 0 rfl rfl inX10 5 (by decide) tb405 rfl dX10_plan_13 ?_
  refine goV (wr := [(h7, .inr (6, [.int 0, x30, x31, .int 0, x32, x33]))]) (runV (n := 1) (As := [.ref h7]) (rest := []) F hP hD hS (a_X10_fillLacks_1 l g aC aM h1 h7 h5 h18 x2 x3 x4 x6 (.ref h7) x8 x9 x10 x11 x12 x13 x14 x15 x16 x17 x19 x20 x21 x22 x23 x24 x25 x26 x27 x28 x29) [0, 1, 2] (by decide) rfl 0 10 rfl rfl rfl tb820 tb817 tb819 tv19 tb1 ⟨by decide, by decide, by decide +kernel⟩ ⟨Nat.le_of_ble_eq_true rfl, Nat.le_of_ble_eq_true rfl⟩ rfl hl.1 rfl (Nat.le_of_ble_eq_true rfl) dX10_plan_16 ⟨Nat.le_of_ble_eq_true rfl, Nat.le_of_ble_eq_true rfl⟩) hP hD hS hA [0, 1, 2] [3] rfl rfl (by decide) (by decide) (fun w5 H locs hw hP hD hS => ?_)
  have hP : va_P g vwCl [(h7, .inr (6, [.int 0, x30, x31, .int 0, x32, x33])), (h1, .inr (10, [x2, x3, x4, .ref h5, x6, .ref h7, x8, x9, x10, x11, x12, x13, x14, x15, x16, x17])), (h5, .inr (8, [.ref h18, x19, x20, x21, x22, x23, x24, x25, x26, x27, x28, x29])), (h18, .inl (aC 0, 5, .inl (fun _ => 0)))] H := hP
  have hD : va_D A [(h7, .inr (6, [.int 0, x30, x31, .int 0, x32, x33])), (h1, .inr (10, [x2, x3, x4, .ref h5, x6, .ref h7, x8, x9, x10, x11, x12, x13, x14, x15, x16, x17])), (h5, .inr (8, [.ref h18, x19, x20, x21, x22, x23, x24, x25, x26, x27, x28, x29])), (h18, .inl (aC 0, 5, .inl (fun _ => 0)))] := hD
  refine lv_iconst (v := (-1)) hx hb dX10_plan_19 (by decide) ?_
  refine lv_istore_n (lv' := [(2, .int (-1)), (0, .ref h1), (1, .int 0)]) hx hb dX10_plan_20 rfl hl (by decide) rfl (fun ls hl => ?_)
  refine lv_iconst (v := (-1)) hx hb dX10_plan_21 (by decide) ?_
  refine lv_istore_n (lv' := [(3, .int (-1)), (2, .int (-1)), (0, .ref h1), (1, .int 0)]) hx hb dX10_plan_22 rfl hl (by decide) rfl (fun ls hl => ?_)
  refine lv_iconst (v := 0) hx hb dX10_plan_23 (by decide) ?_
  refine lv_istore (lv' := [(4, .int 0), (3, .int (-1)), (2, .int (-1)), (0, .ref h1), (1, .int 0)]) hx hb dX10_plan_24 hl (by decide) rfl (fun ls hl => ?_)
  refine lv_iload hx hb dX10_plan_26 (lv_at hl 0 rfl) ?_
  refine lv_aload_n hx hb dX10_plan_28 rfl (lv_at hl 3 rfl) ?_
  refine xget F hP 1 rfl rfl inX10 3 (by decide) tb403 rfl dX10_plan_29 ?_
  refine goI (wr := [(h7, .inr (6, [.int 0, x30, x31, .int 0, x32, x33])), (h1, .inr (10, [x2, x3, x4, .ref h5, x6, .ref h7, x8, x9, x10, x11, x12, x13, x14, x15, x16, x17]))]) (runV (n := 0) (As := []) (rest := [.int 0]) F hP hD hS (a_X8_all_1 l g aC aM h5 h18 x19 x20 x21 x22 x23 x24 x25 x26 x27 x28 x29) [2, 3] (by decide) rfl 2 8 rfl rfl rfl tb715 tb930 tb713 tb714 tb9 ⟨by decide, by decide, by decide +kernel⟩ ⟨Nat.le_of_ble_eq_true rfl, Nat.le_of_ble_eq_true rfl⟩ rfl hl.1 rfl (Nat.le_of_ble_eq_true rfl) dX10_plan_32 ⟨Nat.le_of_ble_eq_true rfl, Nat.le_of_ble_eq_true rfl⟩) hP hD hS hA [2, 3] [0, 1] rfl rfl (by decide) (by decide) (fun r_7 w8 H locs hw hP hD hS => ?_)
  have hP : va_P g vwCl [(h7, .inr (6, [.int 0, x30, x31, .int 0, x32, x33])), (h1, .inr (10, [x2, x3, x4, .ref h5, x6, .ref h7, x8, x9, x10, x11, x12, x13, x14, x15, x16, x17])), (h5, .inr (8, [.ref h18, x19, x20, x21, x22, x23, x24, x25, x26, x27, x28, x29])), (h18, .inl (aC 0, 5, .inl (fun _ => 0)))] H := hP
  have hD : va_D A [(h7, .inr (6, [.int 0, x30, x31, .int 0, x32, x33])), (h1, .inr (10, [x2, x3, x4, .ref h5, x6, .ref h7, x8, x9, x10, x11, x12, x13, x14, x15, x16, x17])), (h5, .inr (8, [.ref h18, x19, x20, x21, x22, x23, x24, x25, x26, x27, x28, x29])), (h18, .inl (aC 0, 5, .inl (fun _ => 0)))] := hD
  try dsimp only at hw
  subst hw
  refine lv_icmp_gt (tgt := 117) hx hb dX10_plan_35 (by decide) (fun c_ => absurd c_ (by decide +kernel)) (fun _ => ?_)
  refine lv_iload hx hb dX10_plan_38 (lv_at hl 0 rfl) ?_
  refine lv_aload_n hx hb dX10_plan_40 rfl (lv_at hl 3 rfl) ?_
  refine xget F hP 1 rfl rfl inX10 5 (by decide) tb405 rfl dX10_plan_41 ?_
  refine xget F hP 0 rfl rfl inX6 0 (by decide) tb293 rfl dX10_plan_44 ?_
  refine lv_iand hx hb dX10_plan_47 ?_
  refine relit (v := 0) (by decide +kernel) ?_
  refine lv_if_eq (tgt := 54) hx hb dX10_plan_48 (by decide) (fun _ => ?_) (fun c_ => absurd (by decide +kernel) c_)
  refine lv_aload_n hx hb dX10_plan_54 rfl (lv_at hl 3 rfl) ?_
  refine xget F hP 1 rfl rfl inX10 3 (by decide) tb403 rfl dX10_plan_55 ?_
  refine lv_iload hx hb dX10_plan_58 (lv_at hl 0 rfl) ?_
  refine goI (wr := [(h7, .inr (6, [.int 0, x30, x31, .int 0, x32, x33])), (h1, .inr (10, [x2, x3, x4, .ref h5, x6, .ref h7, x8, x9, x10, x11, x12, x13, x14, x15, x16, x17]))]) (runV (n := 1) (As := [.int 0]) (rest := []) F hP hD hS (a_X8_riseOf_1 l g aC aM h5 h18 x19 x20 x21 x22 x23 x24 x25 x26 x27 x28 x29) [2, 3] (by decide) rfl 2 8 rfl rfl rfl tb812 tb809 tb810 tb811 tb9 ⟨by decide, by decide, by decide +kernel⟩ ⟨Nat.le_of_ble_eq_true rfl, Nat.le_of_ble_eq_true rfl⟩ rfl hl.1 rfl (Nat.le_of_ble_eq_true rfl) dX10_plan_60 ⟨Nat.le_of_ble_eq_true rfl, Nat.le_of_ble_eq_true rfl⟩) hP hD hS hA [2, 3] [0, 1] rfl rfl (by decide) (by decide) (fun r_12 w13 H locs hw hP hD hS => ?_)
  have hP : va_P g vwCl [(h7, .inr (6, [.int 0, x30, x31, .int 0, x32, x33])), (h1, .inr (10, [x2, x3, x4, .ref h5, x6, .ref h7, x8, x9, x10, x11, x12, x13, x14, x15, x16, x17])), (h5, .inr (8, [.ref h18, x19, x20, x21, x22, x23, x24, x25, x26, x27, x28, x29])), (h18, .inl (aC 0, 5, .inl (fun _ => 0)))] H := hP
  have hD : va_D A [(h7, .inr (6, [.int 0, x30, x31, .int 0, x32, x33])), (h1, .inr (10, [x2, x3, x4, .ref h5, x6, .ref h7, x8, x9, x10, x11, x12, x13, x14, x15, x16, x17])), (h5, .inr (8, [.ref h18, x19, x20, x21, x22, x23, x24, x25, x26, x27, x28, x29])), (h18, .inl (aC 0, 5, .inl (fun _ => 0)))] := hD
  try dsimp only at hw
  subst hw
  refine lv_istore (lv' := [(5, .int 0), (4, .int 0), (3, .int (-1)), (2, .int (-1)), (0, .ref h1), (1, .int 0)]) hx hb dX10_plan_63 hl (by decide) rfl (fun ls hl => ?_)
  refine lv_iload hx hb dX10_plan_65 (lv_at hl 0 rfl) ?_
  refine lv_aload_n hx hb dX10_plan_67 rfl (lv_at hl 4 rfl) ?_
  refine xget F hP 1 rfl rfl inX10 5 (by decide) tb405 rfl dX10_plan_68 ?_
  refine xget F hP 0 rfl rfl inX6 3 (by decide) tb299 rfl dX10_plan_71 ?_
  refine lv_icmp_gt (tgt := 111) hx hb dX10_plan_74 (by decide) (fun c_ => absurd c_ (by decide +kernel)) (fun _ => ?_)
  refine lv_iload_n hx hb dX10_plan_77 rfl (lv_at hl 3 rfl) ?_
  refine lv_iconst (v := (-1)) hx hb dX10_plan_78 (by decide) ?_
  refine lv_icmp_eq (tgt := 88) hx hb dX10_plan_79 (by decide) (fun _ => ?_) (fun c_ => absurd (by decide +kernel) c_)
  refine lv_aload_n hx hb dX10_plan_88 rfl (lv_at hl 4 rfl) ?_
  refine lv_aload_n hx hb dX10_plan_89 rfl (lv_at hl 4 rfl) ?_
  refine xget F hP 1 rfl rfl inX10 5 (by decide) tb405 rfl dX10_plan_90 ?_
  refine xget F hP 0 rfl rfl inX6 0 (by decide) tb293 rfl dX10_plan_93 ?_
  refine lv_iload hx hb dX10_plan_96 (lv_at hl 1 rfl) ?_
  refine lv_ior hx hb dX10_plan_98 ?_
  refine relit (v := 0) (by decide +kernel) ?_
  refine goI (wr := [(h7, .inr (6, [.int 0, x30, x31, .int 0, x32, x33]))]) (runV (n := 1) (As := [.int 0]) (rest := []) F hP hD hS (a_X10_cutBy_1 l g aC aM h1 h5 h18 x2 x3 x4 x6 (.ref h7) x8 x9 x10 x11 x12 x13 x14 x15 x16 x17 x19 x20 x21 x22 x23 x24 x25 x26 x27 x28 x29) [1, 2, 3] (by decide) rfl 1 10 rfl rfl rfl tb829 tb826 tb828 tv20 tb1 ⟨by decide, by decide, by decide +kernel⟩ ⟨Nat.le_of_ble_eq_true rfl, Nat.le_of_ble_eq_true rfl⟩ rfl hl.1 rfl (Nat.le_of_ble_eq_true rfl) dX10_plan_99 ⟨Nat.le_of_ble_eq_true rfl, Nat.le_of_ble_eq_true rfl⟩) hP hD hS hA [1, 2, 3] [0] rfl rfl (by decide) (by decide) (fun r_17 w18 H locs hw hP hD hS => ?_)
  have hP : va_P g vwCl [(h7, .inr (6, [.int 0, x30, x31, .int 0, x32, x33])), (h1, .inr (10, [x2, x3, x4, .ref h5, x6, .ref h7, x8, x9, x10, x11, x12, x13, x14, x15, x16, x17])), (h5, .inr (8, [.ref h18, x19, x20, x21, x22, x23, x24, x25, x26, x27, x28, x29])), (h18, .inl (aC 0, 5, .inl (fun _ => 0)))] H := hP
  have hD : va_D A [(h7, .inr (6, [.int 0, x30, x31, .int 0, x32, x33])), (h1, .inr (10, [x2, x3, x4, .ref h5, x6, .ref h7, x8, x9, x10, x11, x12, x13, x14, x15, x16, x17])), (h5, .inr (8, [.ref h18, x19, x20, x21, x22, x23, x24, x25, x26, x27, x28, x29])), (h18, .inl (aC 0, 5, .inl (fun _ => 0)))] := hD
  try dsimp only at hw
  subst hw
  refine lv_if_ne (tgt := 111) hx hb dX10_plan_102 (by decide) (fun c_ => absurd (by decide +kernel) c_) (fun _ => ?_)
  refine lv_iload hx hb dX10_plan_105 (lv_at hl 0 rfl) ?_
  refine lv_istore_n (lv' := [(2, .int 0), (5, .int 0), (4, .int 0), (3, .int (-1)), (0, .ref h1), (1, .int 0)]) hx hb dX10_plan_107 rfl hl (by decide) rfl (fun ls hl => ?_)
  refine lv_iload hx hb dX10_plan_108 (lv_at hl 2 rfl) ?_
  refine lv_istore_n (lv' := [(3, .int 0), (2, .int 0), (5, .int 0), (4, .int 0), (0, .ref h1), (1, .int 0)]) hx hb dX10_plan_110 rfl hl (by decide) rfl (fun ls hl => ?_)
  refine lv_iinc (v := 1) (lv' := [(4, .int 1), (3, .int 0), (2, .int 0), (5, .int 0), (0, .ref h1), (1, .int 0)]) hx hb dX10_plan_111 hl (k := 3) rfl (by decide +kernel) (by decide) rfl (fun ls hl => ?_)
  refine lv_goto (tgt := 26) hx hb dX10_plan_114 (by decide) ?_
  refine lv_iload hx hb dX10_plan_26 (lv_at hl 0 rfl) ?_
  refine lv_aload_n hx hb dX10_plan_28 rfl (lv_at hl 4 rfl) ?_
  refine xget F hP 1 rfl rfl inX10 3 (by decide) tb403 rfl dX10_plan_29 ?_
  refine goI (wr := [(h7, .inr (6, [.int 0, x30, x31, .int 0, x32, x33])), (h1, .inr (10, [x2, x3, x4, .ref h5, x6, .ref h7, x8, x9, x10, x11, x12, x13, x14, x15, x16, x17]))]) (runV (n := 0) (As := []) (rest := [.int 1]) F hP hD hS (a_X8_all_1 l g aC aM h5 h18 x19 x20 x21 x22 x23 x24 x25 x26 x27 x28 x29) [2, 3] (by decide) rfl 2 8 rfl rfl rfl tb715 tb930 tb713 tb714 tb9 ⟨by decide, by decide, by decide +kernel⟩ ⟨Nat.le_of_ble_eq_true rfl, Nat.le_of_ble_eq_true rfl⟩ rfl hl.1 rfl (Nat.le_of_ble_eq_true rfl) dX10_plan_32 ⟨Nat.le_of_ble_eq_true rfl, Nat.le_of_ble_eq_true rfl⟩) hP hD hS hA [2, 3] [0, 1] rfl rfl (by decide) (by decide) (fun r_21 w22 H locs hw hP hD hS => ?_)
  have hP : va_P g vwCl [(h7, .inr (6, [.int 0, x30, x31, .int 0, x32, x33])), (h1, .inr (10, [x2, x3, x4, .ref h5, x6, .ref h7, x8, x9, x10, x11, x12, x13, x14, x15, x16, x17])), (h5, .inr (8, [.ref h18, x19, x20, x21, x22, x23, x24, x25, x26, x27, x28, x29])), (h18, .inl (aC 0, 5, .inl (fun _ => 0)))] H := hP
  have hD : va_D A [(h7, .inr (6, [.int 0, x30, x31, .int 0, x32, x33])), (h1, .inr (10, [x2, x3, x4, .ref h5, x6, .ref h7, x8, x9, x10, x11, x12, x13, x14, x15, x16, x17])), (h5, .inr (8, [.ref h18, x19, x20, x21, x22, x23, x24, x25, x26, x27, x28, x29])), (h18, .inl (aC 0, 5, .inl (fun _ => 0)))] := hD
  try dsimp only at hw
  subst hw
  refine lv_icmp_gt (tgt := 117) hx hb dX10_plan_35 (by decide) (fun _ => ?_) (fun c_ => absurd (by decide +kernel) c_)
  refine lv_iload_n hx hb dX10_plan_117 rfl (lv_at hl 5 rfl) ?_
  refine lv_if_ne (tgt := 125) hx hb dX10_plan_118 (by decide) (fun c_ => absurd (by decide +kernel) c_) (fun _ => ?_)
  refine lv_iload_n hx hb dX10_plan_121 rfl (lv_at hl 2 rfl) ?_
  refine lv_goto (tgt := 126) hx hb dX10_plan_122 (by decide) ?_
  have hP9 := hP.sub (ws' := []) [] rfl
  have hD9 := hD.sub (ws' := []) [] (by decide) rfl
  exact rI () hx hb hr hlk rfl hS rfl hP9 hD9 (Nat.le_of_ble_eq_true rfl) (Nat.le_of_ble_eq_true rfl) dX10_plan_126

set_option maxHeartbeats 4000000 in
set_option maxRecDepth 100000 in
theorem x_plan_1 (l : Launch) (g : va_G) (aC : Nat → ClassId) (aM : Nat → Nat) (h1 h5 h7 h18 : Nat) (x2 x3 x4 x6 x8 x9 x10 x11 x12 x13 x14 x15 x16 x17 x19 x20 x21 x22 x23 x24 x25 x26 x27 x28 x29 x30 x31 x32 x33 : Value) : Ct l g aC aM yX10_plan cX10_plan 6 (some .int) 2 [.ref h1, .int 1] [(h1, .inr (10, [x2, x3, x4, .ref h5, x6, .ref h7, x8, x9, x10, x11, x12, x13, x14, x15, x16, x17])), (h5, .inr (8, [.ref h18, x19, x20, x21, x22, x23, x24, x25, x26, x27, x28, x29])), (h18, .inl (aC 0, 5, .inl (fun _ => 0))), (h7, .inr (6, [.int 0, x30, x31, .int 0, x32, x33]))] (QI g (fun (r : Int32) (_ : Unit) => r = 0) (fun (_ : Unit) => [])) 0 0 := by
  refine Ct.mk (by decide) (Nat.le_of_ble_eq_true rfl) ?_
  intro p e s m below meth c A ls hx hb hml hown hts hr hlk hnm hK hA hM hM2 hP hD hS hl
  have hown : s.vm.findClass RX10 = some m.cls := hown
  have F : Fx p s m _ c cX10_plan 6 RX10 g aC aM A := ⟨hx, hb, hml, hown, hts, hK, hA, hM, hM2⟩
  have hl : lv_has ls 6 [(0, .ref h1), (1, .int 1)] := hl
  refine lv_iload_n hx hb dX10_plan_0 rfl (lv_at hl 1 rfl) ?_
  refine lv_if_lt (tgt := 9) hx hb dX10_plan_1 (by decide) (fun c_ => absurd c_ (by decide +kernel)) (fun _ => ?_)
  refine lv_iload_n hx hb dX10_plan_4 rfl (lv_at hl 1 rfl) ?_
  refine lv_iconst (v := 1) hx hb dX10_plan_5 (by decide) ?_
  refine lv_icmp_le (tgt := 11) hx hb dX10_plan_6 (by decide) (fun _ => ?_) (fun c_ => absurd (by decide +kernel) c_)
  refine lv_aload_n hx hb dX10_plan_11 rfl (lv_at hl 0 rfl) ?_
  refine lv_aload_n hx hb dX10_plan_12 rfl (lv_at hl 0 rfl) ?_
  refine xget F hP 0 rfl rfl inX10 5 (by decide) tb405 rfl dX10_plan_13 ?_
  refine goV (wr := [(h7, .inr (6, [.int 0, x30, x31, .int 0, x32, x33]))]) (runV (n := 1) (As := [.ref h7]) (rest := []) F hP hD hS (a_X10_fillLacks_1 l g aC aM h1 h7 h5 h18 x2 x3 x4 x6 (.ref h7) x8 x9 x10 x11 x12 x13 x14 x15 x16 x17 x19 x20 x21 x22 x23 x24 x25 x26 x27 x28 x29) [0, 1, 2] (by decide) rfl 0 10 rfl rfl rfl tb820 tb817 tb819 tv19 tb1 ⟨by decide, by decide, by decide +kernel⟩ ⟨Nat.le_of_ble_eq_true rfl, Nat.le_of_ble_eq_true rfl⟩ rfl hl.1 rfl (Nat.le_of_ble_eq_true rfl) dX10_plan_16 ⟨Nat.le_of_ble_eq_true rfl, Nat.le_of_ble_eq_true rfl⟩) hP hD hS hA [0, 1, 2] [3] rfl rfl (by decide) (by decide) (fun w5 H locs hw hP hD hS => ?_)
  have hP : va_P g vwCl [(h7, .inr (6, [.int 0, x30, x31, .int 0, x32, x33])), (h1, .inr (10, [x2, x3, x4, .ref h5, x6, .ref h7, x8, x9, x10, x11, x12, x13, x14, x15, x16, x17])), (h5, .inr (8, [.ref h18, x19, x20, x21, x22, x23, x24, x25, x26, x27, x28, x29])), (h18, .inl (aC 0, 5, .inl (fun _ => 0)))] H := hP
  have hD : va_D A [(h7, .inr (6, [.int 0, x30, x31, .int 0, x32, x33])), (h1, .inr (10, [x2, x3, x4, .ref h5, x6, .ref h7, x8, x9, x10, x11, x12, x13, x14, x15, x16, x17])), (h5, .inr (8, [.ref h18, x19, x20, x21, x22, x23, x24, x25, x26, x27, x28, x29])), (h18, .inl (aC 0, 5, .inl (fun _ => 0)))] := hD
  refine lv_iconst (v := (-1)) hx hb dX10_plan_19 (by decide) ?_
  refine lv_istore_n (lv' := [(2, .int (-1)), (0, .ref h1), (1, .int 1)]) hx hb dX10_plan_20 rfl hl (by decide) rfl (fun ls hl => ?_)
  refine lv_iconst (v := (-1)) hx hb dX10_plan_21 (by decide) ?_
  refine lv_istore_n (lv' := [(3, .int (-1)), (2, .int (-1)), (0, .ref h1), (1, .int 1)]) hx hb dX10_plan_22 rfl hl (by decide) rfl (fun ls hl => ?_)
  refine lv_iconst (v := 0) hx hb dX10_plan_23 (by decide) ?_
  refine lv_istore (lv' := [(4, .int 0), (3, .int (-1)), (2, .int (-1)), (0, .ref h1), (1, .int 1)]) hx hb dX10_plan_24 hl (by decide) rfl (fun ls hl => ?_)
  refine lv_iload hx hb dX10_plan_26 (lv_at hl 0 rfl) ?_
  refine lv_aload_n hx hb dX10_plan_28 rfl (lv_at hl 3 rfl) ?_
  refine xget F hP 1 rfl rfl inX10 3 (by decide) tb403 rfl dX10_plan_29 ?_
  refine goI (wr := [(h7, .inr (6, [.int 0, x30, x31, .int 0, x32, x33])), (h1, .inr (10, [x2, x3, x4, .ref h5, x6, .ref h7, x8, x9, x10, x11, x12, x13, x14, x15, x16, x17]))]) (runV (n := 0) (As := []) (rest := [.int 0]) F hP hD hS (a_X8_all_1 l g aC aM h5 h18 x19 x20 x21 x22 x23 x24 x25 x26 x27 x28 x29) [2, 3] (by decide) rfl 2 8 rfl rfl rfl tb715 tb930 tb713 tb714 tb9 ⟨by decide, by decide, by decide +kernel⟩ ⟨Nat.le_of_ble_eq_true rfl, Nat.le_of_ble_eq_true rfl⟩ rfl hl.1 rfl (Nat.le_of_ble_eq_true rfl) dX10_plan_32 ⟨Nat.le_of_ble_eq_true rfl, Nat.le_of_ble_eq_true rfl⟩) hP hD hS hA [2, 3] [0, 1] rfl rfl (by decide) (by decide) (fun r_7 w8 H locs hw hP hD hS => ?_)
  have hP : va_P g vwCl [(h7, .inr (6, [.int 0, x30, x31, .int 0, x32, x33])), (h1, .inr (10, [x2, x3, x4, .ref h5, x6, .ref h7, x8, x9, x10, x11, x12, x13, x14, x15, x16, x17])), (h5, .inr (8, [.ref h18, x19, x20, x21, x22, x23, x24, x25, x26, x27, x28, x29])), (h18, .inl (aC 0, 5, .inl (fun _ => 0)))] H := hP
  have hD : va_D A [(h7, .inr (6, [.int 0, x30, x31, .int 0, x32, x33])), (h1, .inr (10, [x2, x3, x4, .ref h5, x6, .ref h7, x8, x9, x10, x11, x12, x13, x14, x15, x16, x17])), (h5, .inr (8, [.ref h18, x19, x20, x21, x22, x23, x24, x25, x26, x27, x28, x29])), (h18, .inl (aC 0, 5, .inl (fun _ => 0)))] := hD
  try dsimp only at hw
  subst hw
  refine lv_icmp_gt (tgt := 117) hx hb dX10_plan_35 (by decide) (fun c_ => absurd c_ (by decide +kernel)) (fun _ => ?_)
  refine lv_iload hx hb dX10_plan_38 (lv_at hl 0 rfl) ?_
  refine lv_aload_n hx hb dX10_plan_40 rfl (lv_at hl 3 rfl) ?_
  refine xget F hP 1 rfl rfl inX10 5 (by decide) tb405 rfl dX10_plan_41 ?_
  refine xget F hP 0 rfl rfl inX6 0 (by decide) tb293 rfl dX10_plan_44 ?_
  refine lv_iand hx hb dX10_plan_47 ?_
  refine relit (v := 0) (by decide +kernel) ?_
  refine lv_if_eq (tgt := 54) hx hb dX10_plan_48 (by decide) (fun _ => ?_) (fun c_ => absurd (by decide +kernel) c_)
  refine lv_aload_n hx hb dX10_plan_54 rfl (lv_at hl 3 rfl) ?_
  refine xget F hP 1 rfl rfl inX10 3 (by decide) tb403 rfl dX10_plan_55 ?_
  refine lv_iload hx hb dX10_plan_58 (lv_at hl 0 rfl) ?_
  refine goI (wr := [(h7, .inr (6, [.int 0, x30, x31, .int 0, x32, x33])), (h1, .inr (10, [x2, x3, x4, .ref h5, x6, .ref h7, x8, x9, x10, x11, x12, x13, x14, x15, x16, x17]))]) (runV (n := 1) (As := [.int 0]) (rest := []) F hP hD hS (a_X8_riseOf_1 l g aC aM h5 h18 x19 x20 x21 x22 x23 x24 x25 x26 x27 x28 x29) [2, 3] (by decide) rfl 2 8 rfl rfl rfl tb812 tb809 tb810 tb811 tb9 ⟨by decide, by decide, by decide +kernel⟩ ⟨Nat.le_of_ble_eq_true rfl, Nat.le_of_ble_eq_true rfl⟩ rfl hl.1 rfl (Nat.le_of_ble_eq_true rfl) dX10_plan_60 ⟨Nat.le_of_ble_eq_true rfl, Nat.le_of_ble_eq_true rfl⟩) hP hD hS hA [2, 3] [0, 1] rfl rfl (by decide) (by decide) (fun r_12 w13 H locs hw hP hD hS => ?_)
  have hP : va_P g vwCl [(h7, .inr (6, [.int 0, x30, x31, .int 0, x32, x33])), (h1, .inr (10, [x2, x3, x4, .ref h5, x6, .ref h7, x8, x9, x10, x11, x12, x13, x14, x15, x16, x17])), (h5, .inr (8, [.ref h18, x19, x20, x21, x22, x23, x24, x25, x26, x27, x28, x29])), (h18, .inl (aC 0, 5, .inl (fun _ => 0)))] H := hP
  have hD : va_D A [(h7, .inr (6, [.int 0, x30, x31, .int 0, x32, x33])), (h1, .inr (10, [x2, x3, x4, .ref h5, x6, .ref h7, x8, x9, x10, x11, x12, x13, x14, x15, x16, x17])), (h5, .inr (8, [.ref h18, x19, x20, x21, x22, x23, x24, x25, x26, x27, x28, x29])), (h18, .inl (aC 0, 5, .inl (fun _ => 0)))] := hD
  try dsimp only at hw
  subst hw
  refine lv_istore (lv' := [(5, .int 0), (4, .int 0), (3, .int (-1)), (2, .int (-1)), (0, .ref h1), (1, .int 1)]) hx hb dX10_plan_63 hl (by decide) rfl (fun ls hl => ?_)
  refine lv_iload hx hb dX10_plan_65 (lv_at hl 0 rfl) ?_
  refine lv_aload_n hx hb dX10_plan_67 rfl (lv_at hl 4 rfl) ?_
  refine xget F hP 1 rfl rfl inX10 5 (by decide) tb405 rfl dX10_plan_68 ?_
  refine xget F hP 0 rfl rfl inX6 3 (by decide) tb299 rfl dX10_plan_71 ?_
  refine lv_icmp_gt (tgt := 111) hx hb dX10_plan_74 (by decide) (fun c_ => absurd c_ (by decide +kernel)) (fun _ => ?_)
  refine lv_iload_n hx hb dX10_plan_77 rfl (lv_at hl 3 rfl) ?_
  refine lv_iconst (v := (-1)) hx hb dX10_plan_78 (by decide) ?_
  refine lv_icmp_eq (tgt := 88) hx hb dX10_plan_79 (by decide) (fun _ => ?_) (fun c_ => absurd (by decide +kernel) c_)
  refine lv_aload_n hx hb dX10_plan_88 rfl (lv_at hl 4 rfl) ?_
  refine lv_aload_n hx hb dX10_plan_89 rfl (lv_at hl 4 rfl) ?_
  refine xget F hP 1 rfl rfl inX10 5 (by decide) tb405 rfl dX10_plan_90 ?_
  refine xget F hP 0 rfl rfl inX6 0 (by decide) tb293 rfl dX10_plan_93 ?_
  refine lv_iload hx hb dX10_plan_96 (lv_at hl 1 rfl) ?_
  refine lv_ior hx hb dX10_plan_98 ?_
  refine relit (v := 0) (by decide +kernel) ?_
  refine goI (wr := [(h7, .inr (6, [.int 0, x30, x31, .int 0, x32, x33]))]) (runV (n := 1) (As := [.int 0]) (rest := []) F hP hD hS (a_X10_cutBy_1 l g aC aM h1 h5 h18 x2 x3 x4 x6 (.ref h7) x8 x9 x10 x11 x12 x13 x14 x15 x16 x17 x19 x20 x21 x22 x23 x24 x25 x26 x27 x28 x29) [1, 2, 3] (by decide) rfl 1 10 rfl rfl rfl tb829 tb826 tb828 tv20 tb1 ⟨by decide, by decide, by decide +kernel⟩ ⟨Nat.le_of_ble_eq_true rfl, Nat.le_of_ble_eq_true rfl⟩ rfl hl.1 rfl (Nat.le_of_ble_eq_true rfl) dX10_plan_99 ⟨Nat.le_of_ble_eq_true rfl, Nat.le_of_ble_eq_true rfl⟩) hP hD hS hA [1, 2, 3] [0] rfl rfl (by decide) (by decide) (fun r_17 w18 H locs hw hP hD hS => ?_)
  have hP : va_P g vwCl [(h7, .inr (6, [.int 0, x30, x31, .int 0, x32, x33])), (h1, .inr (10, [x2, x3, x4, .ref h5, x6, .ref h7, x8, x9, x10, x11, x12, x13, x14, x15, x16, x17])), (h5, .inr (8, [.ref h18, x19, x20, x21, x22, x23, x24, x25, x26, x27, x28, x29])), (h18, .inl (aC 0, 5, .inl (fun _ => 0)))] H := hP
  have hD : va_D A [(h7, .inr (6, [.int 0, x30, x31, .int 0, x32, x33])), (h1, .inr (10, [x2, x3, x4, .ref h5, x6, .ref h7, x8, x9, x10, x11, x12, x13, x14, x15, x16, x17])), (h5, .inr (8, [.ref h18, x19, x20, x21, x22, x23, x24, x25, x26, x27, x28, x29])), (h18, .inl (aC 0, 5, .inl (fun _ => 0)))] := hD
  try dsimp only at hw
  subst hw
  refine lv_if_ne (tgt := 111) hx hb dX10_plan_102 (by decide) (fun c_ => absurd (by decide +kernel) c_) (fun _ => ?_)
  refine lv_iload hx hb dX10_plan_105 (lv_at hl 0 rfl) ?_
  refine lv_istore_n (lv' := [(2, .int 0), (5, .int 0), (4, .int 0), (3, .int (-1)), (0, .ref h1), (1, .int 1)]) hx hb dX10_plan_107 rfl hl (by decide) rfl (fun ls hl => ?_)
  refine lv_iload hx hb dX10_plan_108 (lv_at hl 2 rfl) ?_
  refine lv_istore_n (lv' := [(3, .int 0), (2, .int 0), (5, .int 0), (4, .int 0), (0, .ref h1), (1, .int 1)]) hx hb dX10_plan_110 rfl hl (by decide) rfl (fun ls hl => ?_)
  refine lv_iinc (v := 1) (lv' := [(4, .int 1), (3, .int 0), (2, .int 0), (5, .int 0), (0, .ref h1), (1, .int 1)]) hx hb dX10_plan_111 hl (k := 3) rfl (by decide +kernel) (by decide) rfl (fun ls hl => ?_)
  refine lv_goto (tgt := 26) hx hb dX10_plan_114 (by decide) ?_
  refine lv_iload hx hb dX10_plan_26 (lv_at hl 0 rfl) ?_
  refine lv_aload_n hx hb dX10_plan_28 rfl (lv_at hl 4 rfl) ?_
  refine xget F hP 1 rfl rfl inX10 3 (by decide) tb403 rfl dX10_plan_29 ?_
  refine goI (wr := [(h7, .inr (6, [.int 0, x30, x31, .int 0, x32, x33])), (h1, .inr (10, [x2, x3, x4, .ref h5, x6, .ref h7, x8, x9, x10, x11, x12, x13, x14, x15, x16, x17]))]) (runV (n := 0) (As := []) (rest := [.int 1]) F hP hD hS (a_X8_all_1 l g aC aM h5 h18 x19 x20 x21 x22 x23 x24 x25 x26 x27 x28 x29) [2, 3] (by decide) rfl 2 8 rfl rfl rfl tb715 tb930 tb713 tb714 tb9 ⟨by decide, by decide, by decide +kernel⟩ ⟨Nat.le_of_ble_eq_true rfl, Nat.le_of_ble_eq_true rfl⟩ rfl hl.1 rfl (Nat.le_of_ble_eq_true rfl) dX10_plan_32 ⟨Nat.le_of_ble_eq_true rfl, Nat.le_of_ble_eq_true rfl⟩) hP hD hS hA [2, 3] [0, 1] rfl rfl (by decide) (by decide) (fun r_21 w22 H locs hw hP hD hS => ?_)
  have hP : va_P g vwCl [(h7, .inr (6, [.int 0, x30, x31, .int 0, x32, x33])), (h1, .inr (10, [x2, x3, x4, .ref h5, x6, .ref h7, x8, x9, x10, x11, x12, x13, x14, x15, x16, x17])), (h5, .inr (8, [.ref h18, x19, x20, x21, x22, x23, x24, x25, x26, x27, x28, x29])), (h18, .inl (aC 0, 5, .inl (fun _ => 0)))] H := hP
  have hD : va_D A [(h7, .inr (6, [.int 0, x30, x31, .int 0, x32, x33])), (h1, .inr (10, [x2, x3, x4, .ref h5, x6, .ref h7, x8, x9, x10, x11, x12, x13, x14, x15, x16, x17])), (h5, .inr (8, [.ref h18, x19, x20, x21, x22, x23, x24, x25, x26, x27, x28, x29])), (h18, .inl (aC 0, 5, .inl (fun _ => 0)))] := hD
  try dsimp only at hw
  subst hw
  refine lv_icmp_gt (tgt := 117) hx hb dX10_plan_35 (by decide) (fun _ => ?_) (fun c_ => absurd (by decide +kernel) c_)
  refine lv_iload_n hx hb dX10_plan_117 rfl (lv_at hl 5 rfl) ?_
  refine lv_if_ne (tgt := 125) hx hb dX10_plan_118 (by decide) (fun _ => ?_) (fun c_ => absurd c_ (by decide +kernel))
  refine lv_iload_n hx hb dX10_plan_125 rfl (lv_at hl 1 rfl) ?_
  have hP9 := hP.sub (ws' := []) [] rfl
  have hD9 := hD.sub (ws' := []) [] (by decide) rfl
  exact rI () hx hb hr hlk rfl hS rfl hP9 hD9 (Nat.le_of_ble_eq_true rfl) (Nat.le_of_ble_eq_true rfl) dX10_plan_126

theorem dX10_fits_0 : decode cX10_fits 0 = .ok (.iload_n 1, 1) := by decide +kernel
theorem dX10_fits_1 : decode cX10_fits 1 = .ok (.ifCond .lt 8, 3) := by decide +kernel
theorem dX10_fits_4 : decode cX10_fits 4 = .ok (.iload_n 1, 1) := by decide +kernel
theorem dX10_fits_5 : decode cX10_fits 5 = .ok (.iconst 3, 1) := by decide +kernel
theorem dX10_fits_6 : decode cX10_fits 6 = .ok (.if_icmp .le 5, 3) := by decide +kernel
theorem dX10_fits_9 : decode cX10_fits 9 = .ok (.iconst (-1), 1) := by decide +kernel
theorem dX10_fits_10 : decode cX10_fits 10 = .ok (.ireturn, 1) := by decide +kernel
theorem dX10_fits_11 : decode cX10_fits 11 = .ok (.iconst 0, 1) := by decide +kernel
theorem dX10_fits_12 : decode cX10_fits 12 = .ok (.istore_n 2, 1) := by decide +kernel
theorem dX10_fits_13 : decode cX10_fits 13 = .ok (.aload_n 0, 1) := by decide +kernel
theorem dX10_fits_14 : decode cX10_fits 14 = .ok (.getfield 35, 3) := by decide +kernel
theorem dX10_fits_17 : decode cX10_fits 17 = .ok (.invokevirtual 212, 3) := by decide +kernel
theorem dX10_fits_20 : decode cX10_fits 20 = .ok (.istore_n 3, 1) := by decide +kernel
theorem dX10_fits_21 : decode cX10_fits 21 = .ok (.iconst 0, 1) := by decide +kernel
theorem dX10_fits_22 : decode cX10_fits 22 = .ok (.istore 4, 2) := by decide +kernel
theorem dX10_fits_24 : decode cX10_fits 24 = .ok (.iconst (-1), 1) := by decide +kernel
theorem dX10_fits_25 : decode cX10_fits 25 = .ok (.istore 5, 2) := by decide +kernel
theorem dX10_fits_27 : decode cX10_fits 27 = .ok (.iconst 0, 1) := by decide +kernel
theorem dX10_fits_28 : decode cX10_fits 28 = .ok (.istore 6, 2) := by decide +kernel
theorem dX10_fits_30 : decode cX10_fits 30 = .ok (.iload 6, 2) := by decide +kernel
theorem dX10_fits_32 : decode cX10_fits 32 = .ok (.aload_n 0, 1) := by decide +kernel
theorem dX10_fits_33 : decode cX10_fits 33 = .ok (.getfield 35, 3) := by decide +kernel
theorem dX10_fits_36 : decode cX10_fits 36 = .ok (.invokevirtual 212, 3) := by decide +kernel
theorem dX10_fits_39 : decode cX10_fits 39 = .ok (.if_icmp .gt 59, 3) := by decide +kernel
theorem dX10_fits_42 : decode cX10_fits 42 = .ok (.aload_n 0, 1) := by decide +kernel
theorem dX10_fits_43 : decode cX10_fits 43 = .ok (.getfield 55, 3) := by decide +kernel
theorem dX10_fits_46 : decode cX10_fits 46 = .ok (.iload 6, 2) := by decide +kernel
theorem dX10_fits_48 : decode cX10_fits 48 = .ok (.invokevirtual 238, 3) := by decide +kernel
theorem dX5_isSo_0 : decode cX5_isSo 0 = .ok (.iconst 0, 1) := by decide +kernel
theorem dX5_isSo_1 : decode cX5_isSo 1 = .ok (.istore_n 2, 1) := by decide +kernel
theorem dX5_isSo_2 : decode cX5_isSo 2 = .ok (.iload_n 2, 1) := by decide +kernel
theorem dX5_isSo_3 : decode cX5_isSo 3 = .ok (.aload_n 0, 1) := by decide +kernel
theorem dX5_isSo_4 : decode cX5_isSo 4 = .ok (.getfield 22, 3) := by decide +kernel
theorem dX5_isSo_7 : decode cX5_isSo 7 = .ok (.if_icmp .ge 55, 3) := by decide +kernel
theorem dX5_isSo_62 : decode cX5_isSo 62 = .ok (.iconst 1, 1) := by decide +kernel
theorem dX5_isSo_63 : decode cX5_isSo 63 = .ok (.ireturn, 1) := by decide +kernel
set_option maxHeartbeats 4000000 in
set_option maxRecDepth 100000 in
theorem a_X5_isSo_1 (l : Launch) (g : va_G) (aC : Nat → ClassId) (aM : Nat → Nat) (h1 : Nat) (x2 x3 x4 x5 : Value) : Ct l g aC aM yX5_isSo cX5_isSo 5 (some .boolean) 1 [.ref h1, .int 0] [(h1, .inr (5, [x2, x3, .int 0, x4, x5]))] (QI g (fun (r : Int32) (_ : Unit) => r = 1) (fun (_ : Unit) => [(h1, .inr (5, [x2, x3, .int 0, x4, x5]))])) 0 0 := by
  refine Ct.mk (by decide) (Nat.le_of_ble_eq_true rfl) ?_
  intro p e s m below meth c A ls hx hb hml hown hts hr hlk hnm hK hA hM hM2 hP hD hS hl
  have hown : s.vm.findClass RX5 = some m.cls := hown
  have F : Fx p s m _ c cX5_isSo 5 RX5 g aC aM A := ⟨hx, hb, hml, hown, hts, hK, hA, hM, hM2⟩
  have hl : lv_has ls 5 [(0, .ref h1), (1, .int 0)] := hl
  refine lv_iconst (v := 0) hx hb dX5_isSo_0 (by decide) ?_
  refine lv_istore_n (lv' := [(2, .int 0), (0, .ref h1), (1, .int 0)]) hx hb dX5_isSo_1 rfl hl (by decide) rfl (fun ls hl => ?_)
  refine lv_iload_n hx hb dX5_isSo_2 rfl (lv_at hl 0 rfl) ?_
  refine lv_aload_n hx hb dX5_isSo_3 rfl (lv_at hl 1 rfl) ?_
  refine xget F hP 0 rfl rfl inX5 2 (by decide) tb327 rfl dX5_isSo_4 ?_
  refine lv_icmp_ge (tgt := 62) hx hb dX5_isSo_7 (by decide) (fun _ => ?_) (fun c_ => absurd (by decide +kernel) c_)
  refine lv_iconst (v := 1) hx hb dX5_isSo_62 (by decide) ?_
  have hP9 := hP.sub (ws' := [(h1, .inr (5, [x2, x3, .int 0, x4, x5]))]) [0] rfl
  have hD9 := hD.sub (ws' := [(h1, .inr (5, [x2, x3, .int 0, x4, x5]))]) [0] (by decide) rfl
  exact rI () hx hb hr hlk rfl hS rfl hP9 hD9 (Nat.le_of_ble_eq_true rfl) (Nat.le_of_ble_eq_true rfl) dX5_isSo_63

theorem tb951 : (Jvm.Cond.methodLink "StairGang" (238 : Nat) ({ cls := "StairGang$Said", name := "isSo", desc := "(I)Z" } : Jvm.MethodName)) ∈ gw := lw_m 951 (by decide +kernel)
theorem tb952 : (Jvm.Cond.instanceMethod ({ cls := "StairGang$Said", name := "isSo", desc := "(I)Z" } : Jvm.MethodName)) ∈ gw := lw_m 952 (by decide +kernel)
theorem tb953 : (Jvm.Cond.selects "StairGang$Said" ({ cls := "StairGang$Said", name := "isSo", desc := "(I)Z" } : Jvm.MethodName) ({ cls := "StairGang$Said", name := "isSo", desc := "(I)Z" } : Jvm.MethodName)) ∈ gw := lw_m 953 (by decide +kernel)
theorem tb954 : (Jvm.Cond.code ({ cls := "StairGang$Said", name := "isSo", desc := "(I)Z" } : Jvm.MethodName) prog_7_method_6_code (5 : Nat) (Option.some Jvm.ClassFile.FieldType.boolean)) ∈ gw := lw_m 954 (by decide +kernel)
theorem dX10_fits_51 : decode cX10_fits 51 = .ok (.ifCond .eq 41, 3) := by decide +kernel
theorem dX10_fits_54 : decode cX10_fits 54 = .ok (.iinc 2 1, 3) := by decide +kernel
theorem dX10_fits_57 : decode cX10_fits 57 = .ok (.iload_n 3, 1) := by decide +kernel
theorem dX10_fits_58 : decode cX10_fits 58 = .ok (.iload 6, 2) := by decide +kernel
theorem dX10_fits_60 : decode cX10_fits 60 = .ok (.iand, 1) := by decide +kernel
theorem dX10_fits_61 : decode cX10_fits 61 = .ok (.istore_n 3, 1) := by decide +kernel
theorem dX10_fits_62 : decode cX10_fits 62 = .ok (.iload 4, 2) := by decide +kernel
theorem dX10_fits_64 : decode cX10_fits 64 = .ok (.iload 6, 2) := by decide +kernel
theorem dX10_fits_66 : decode cX10_fits 66 = .ok (.ior, 1) := by decide +kernel
theorem dX10_fits_67 : decode cX10_fits 67 = .ok (.istore 4, 2) := by decide +kernel
theorem dX10_fits_69 : decode cX10_fits 69 = .ok (.iload 5, 2) := by decide +kernel
theorem dX10_fits_71 : decode cX10_fits 71 = .ok (.iconst (-1), 1) := by decide +kernel
theorem dX10_fits_72 : decode cX10_fits 72 = .ok (.if_icmp .eq 16, 3) := by decide +kernel
theorem dX10_fits_88 : decode cX10_fits 88 = .ok (.iload 6, 2) := by decide +kernel
theorem dX10_fits_90 : decode cX10_fits 90 = .ok (.istore 5, 2) := by decide +kernel
theorem dX10_fits_92 : decode cX10_fits 92 = .ok (.iinc 6 1, 3) := by decide +kernel
theorem dX10_fits_95 : decode cX10_fits 95 = .ok (.goto (-65), 3) := by decide +kernel
theorem dX10_fits_98 : decode cX10_fits 98 = .ok (.iload_n 1, 1) := by decide +kernel
theorem dX10_fits_99 : decode cX10_fits 99 = .ok (.ifCond .ne 5, 3) := by decide +kernel
theorem dX10_fits_102 : decode cX10_fits 102 = .ok (.iload_n 2, 1) := by decide +kernel
theorem dX10_fits_103 : decode cX10_fits 103 = .ok (.ireturn, 1) := by decide +kernel
theorem dX10_fits_104 : decode cX10_fits 104 = .ok (.iload_n 2, 1) := by decide +kernel
theorem dX10_fits_105 : decode cX10_fits 105 = .ok (.ifCond .ne 5, 3) := by decide +kernel
theorem dX10_fits_110 : decode cX10_fits 110 = .ok (.iload_n 1, 1) := by decide +kernel
theorem dX10_fits_111 : decode cX10_fits 111 = .ok (.iconst 1, 1) := by decide +kernel
theorem dX10_fits_112 : decode cX10_fits 112 = .ok (.if_icmp .ne 7, 3) := by decide +kernel
theorem dX10_fits_115 : decode cX10_fits 115 = .ok (.iload_n 3, 1) := by decide +kernel
theorem dX10_fits_116 : decode cX10_fits 116 = .ok (.goto 15, 3) := by decide +kernel
theorem dX10_fits_119 : decode cX10_fits 119 = .ok (.iload_n 1, 1) := by decide +kernel
theorem dX10_fits_120 : decode cX10_fits 120 = .ok (.iconst 2, 1) := by decide +kernel
theorem dX10_fits_121 : decode cX10_fits 121 = .ok (.if_icmp .ne 8, 3) := by decide +kernel
theorem dX10_fits_124 : decode cX10_fits 124 = .ok (.iload 4, 2) := by decide +kernel
theorem dX10_fits_126 : decode cX10_fits 126 = .ok (.goto 5, 3) := by decide +kernel
theorem dX10_fits_129 : decode cX10_fits 129 = .ok (.iload 5, 2) := by decide +kernel
theorem dX10_fits_131 : decode cX10_fits 131 = .ok (.ireturn, 1) := by decide +kernel
set_option maxHeartbeats 4000000 in
set_option maxRecDepth 100000 in
theorem x_fits_lo (l : Launch) (g : va_G) (aC : Nat → ClassId) (aM : Nat → Nat) (h1 h5 h9 h18 : Nat) (x2 x3 x4 x6 x7 x8 x10 x11 x12 x13 x14 x15 x16 x17 x19 x20 x21 x22 x23 x24 x25 x26 x27 x28 x29 x30 x31 x32 x33 : Value) (n_1 : Int32) (hh1 : n_1 ≤ (-1)) : Ct l g aC aM yX10_fits cX10_fits 7 (some .int) 2 [.ref h1, .int n_1] [(h1, .inr (10, [x2, x3, x4, .ref h5, x6, x7, x8, .ref h9, x10, x11, x12, x13, x14, x15, x16, x17])), (h5, .inr (8, [.ref h18, x19, x20, x21, x22, x23, x24, x25, x26, x27, x28, x29])), (h18, .inl (aC 0, 5, .inl (fun _ => 0))), (h9, .inr (5, [x30, x31, .int 0, x32, x33]))] (QI g (fun (r : Int32) (_ : Unit) => r = (-1)) (fun (_ : Unit) => [])) 0 0 := by
  refine Ct.mk (by decide) (Nat.le_of_ble_eq_true rfl) ?_
  intro p e s m below meth c A ls hx hb hml hown hts hr hlk hnm hK hA hM hM2 hP hD hS hl
  have hown : s.vm.findClass RX10 = some m.cls := hown
  have F : Fx p s m _ c cX10_fits 7 RX10 g aC aM A := ⟨hx, hb, hml, hown, hts, hK, hA, hM, hM2⟩
  have hl : lv_has ls 7 [(0, .ref h1), (1, .int n_1)] := hl
  refine lv_iload_n hx hb dX10_fits_0 rfl (lv_at hl 1 rfl) ?_
  refine lv_if_lt (tgt := 9) hx hb dX10_fits_1 (by decide) (fun c1 => ?_) (fun c1 => ?_)
  · refine lv_iconst (v := (-1)) hx hb dX10_fits_9 (by decide) ?_
    have hP9 := hP.sub (ws' := []) [] rfl
    have hD9 := hD.sub (ws' := []) [] (by decide) rfl
    exact rI () hx hb hr hlk rfl hS rfl hP9 hD9 (Nat.le_of_ble_eq_true rfl) (Nat.le_of_ble_eq_true rfl) dX10_fits_10
  · exfalso
    simp only [Int32.lt_iff_toInt_lt, Int32.le_iff_toInt_le, ← Int32.toInt_inj, show (-1 : Int32).toInt = -1 by decide, show (0 : Int32).toInt = 0 by decide] at hh1 c1; omega

set_option maxHeartbeats 4000000 in
set_option maxRecDepth 100000 in
theorem x_fits_hi (l : Launch) (g : va_G) (aC : Nat → ClassId) (aM : Nat → Nat) (h1 h5 h9 h18 : Nat) (x2 x3 x4 x6 x7 x8 x10 x11 x12 x13 x14 x15 x16 x17 x19 x20 x21 x22 x23 x24 x25 x26 x27 x28 x29 x30 x31 x32 x33 : Value) (n_1 : Int32) (hl1 : 4 ≤ n_1) : Ct l g aC aM yX10_fits cX10_fits 7 (some .int) 2 [.ref h1, .int n_1] [(h1, .inr (10, [x2, x3, x4, .ref h5, x6, x7, x8, .ref h9, x10, x11, x12, x13, x14, x15, x16, x17])), (h5, .inr (8, [.ref h18, x19, x20, x21, x22, x23, x24, x25, x26, x27, x28, x29])), (h18, .inl (aC 0, 5, .inl (fun _ => 0))), (h9, .inr (5, [x30, x31, .int 0, x32, x33]))] (QI g (fun (r : Int32) (_ : Unit) => r = (-1)) (fun (_ : Unit) => [])) 0 0 := by
  refine Ct.mk (by decide) (Nat.le_of_ble_eq_true rfl) ?_
  intro p e s m below meth c A ls hx hb hml hown hts hr hlk hnm hK hA hM hM2 hP hD hS hl
  have hown : s.vm.findClass RX10 = some m.cls := hown
  have F : Fx p s m _ c cX10_fits 7 RX10 g aC aM A := ⟨hx, hb, hml, hown, hts, hK, hA, hM, hM2⟩
  have hl : lv_has ls 7 [(0, .ref h1), (1, .int n_1)] := hl
  refine lv_iload_n hx hb dX10_fits_0 rfl (lv_at hl 1 rfl) ?_
  refine lv_if_lt (tgt := 9) hx hb dX10_fits_1 (by decide) (fun c1 => ?_) (fun c1 => ?_)
  · exfalso
    simp only [Int32.lt_iff_toInt_lt, Int32.le_iff_toInt_le, ← Int32.toInt_inj, show (0 : Int32).toInt = 0 by decide, show (4 : Int32).toInt = 4 by decide] at hl1 c1; omega
  · refine lv_iload_n hx hb dX10_fits_4 rfl (lv_at hl 1 rfl) ?_
    refine lv_iconst (v := 3) hx hb dX10_fits_5 (by decide) ?_
    refine lv_icmp_le (tgt := 11) hx hb dX10_fits_6 (by decide) (fun c2 => ?_) (fun c2 => ?_)
    · exfalso
      simp only [Int32.lt_iff_toInt_lt, Int32.le_iff_toInt_le, ← Int32.toInt_inj, show (0 : Int32).toInt = 0 by decide, show (3 : Int32).toInt = 3 by decide, show (4 : Int32).toInt = 4 by decide] at hl1 c1 c2; omega
    · refine lv_iconst (v := (-1)) hx hb dX10_fits_9 (by decide) ?_
      have hP9 := hP.sub (ws' := []) [] rfl
      have hD9 := hD.sub (ws' := []) [] (by decide) rfl
      exact rI () hx hb hr hlk rfl hS rfl hP9 hD9 (Nat.le_of_ble_eq_true rfl) (Nat.le_of_ble_eq_true rfl) dX10_fits_10

set_option maxHeartbeats 4000000 in
set_option maxRecDepth 100000 in
theorem x_fits_0 (l : Launch) (g : va_G) (aC : Nat → ClassId) (aM : Nat → Nat) (h1 h5 h9 h18 : Nat) (x2 x3 x4 x6 x7 x8 x10 x11 x12 x13 x14 x15 x16 x17 x19 x20 x21 x22 x23 x24 x25 x26 x27 x28 x29 x30 x31 x32 x33 : Value) : Ct l g aC aM yX10_fits cX10_fits 7 (some .int) 2 [.ref h1, .int 0] [(h1, .inr (10, [x2, x3, x4, .ref h5, x6, x7, x8, .ref h9, x10, x11, x12, x13, x14, x15, x16, x17])), (h5, .inr (8, [.ref h18, x19, x20, x21, x22, x23, x24, x25, x26, x27, x28, x29])), (h18, .inl (aC 0, 5, .inl (fun _ => 0))), (h9, .inr (5, [x30, x31, .int 0, x32, x33]))] (QI g (fun (r : Int32) (_ : Unit) => r = 1) (fun (_ : Unit) => [])) 0 0 := by
  refine Ct.mk (by decide) (Nat.le_of_ble_eq_true rfl) ?_
  intro p e s m below meth c A ls hx hb hml hown hts hr hlk hnm hK hA hM hM2 hP hD hS hl
  have hown : s.vm.findClass RX10 = some m.cls := hown
  have F : Fx p s m _ c cX10_fits 7 RX10 g aC aM A := ⟨hx, hb, hml, hown, hts, hK, hA, hM, hM2⟩
  have hl : lv_has ls 7 [(0, .ref h1), (1, .int 0)] := hl
  refine lv_iload_n hx hb dX10_fits_0 rfl (lv_at hl 1 rfl) ?_
  refine lv_if_lt (tgt := 9) hx hb dX10_fits_1 (by decide) (fun c_ => absurd c_ (by decide +kernel)) (fun _ => ?_)
  refine lv_iload_n hx hb dX10_fits_4 rfl (lv_at hl 1 rfl) ?_
  refine lv_iconst (v := 3) hx hb dX10_fits_5 (by decide) ?_
  refine lv_icmp_le (tgt := 11) hx hb dX10_fits_6 (by decide) (fun _ => ?_) (fun c_ => absurd (by decide +kernel) c_)
  refine lv_iconst (v := 0) hx hb dX10_fits_11 (by decide) ?_
  refine lv_istore_n (lv' := [(2, .int 0), (0, .ref h1), (1, .int 0)]) hx hb dX10_fits_12 rfl hl (by decide) rfl (fun ls hl => ?_)
  refine lv_aload_n hx hb dX10_fits_13 rfl (lv_at hl 1 rfl) ?_
  refine xget F hP 0 rfl rfl inX10 3 (by decide) tb403 rfl dX10_fits_14 ?_
  refine goI (wr := [(h1, .inr (10, [x2, x3, x4, .ref h5, x6, x7, x8, .ref h9, x10, x11, x12, x13, x14, x15, x16, x17])), (h9, .inr (5, [x30, x31, .int 0, x32, x33]))]) (runV (n := 0) (As := []) (rest := []) F hP hD hS (a_X8_all_1 l g aC aM h5 h18 x19 x20 x21 x22 x23 x24 x25 x26 x27 x28 x29) [1, 2] (by decide) rfl 1 8 rfl rfl rfl tb715 tb930 tb713 tb714 tb9 ⟨by decide, by decide, by decide +kernel⟩ ⟨Nat.le_of_ble_eq_true rfl, Nat.le_of_ble_eq_true rfl⟩ rfl hl.1 rfl (Nat.le_of_ble_eq_true rfl) dX10_fits_17 ⟨Nat.le_of_ble_eq_true rfl, Nat.le_of_ble_eq_true rfl⟩) hP hD hS hA [1, 2] [0, 3] rfl rfl (by decide) (by decide) (fun r_4 w5 H locs hw hP hD hS => ?_)
  have hP : va_P g vwCl [(h1, .inr (10, [x2, x3, x4, .ref h5, x6, x7, x8, .ref h9, x10, x11, x12, x13, x14, x15, x16, x17])), (h9, .inr (5, [x30, x31, .int 0, x32, x33])), (h5, .inr (8, [.ref h18, x19, x20, x21, x22, x23, x24, x25, x26, x27, x28, x29])), (h18, .inl (aC 0, 5, .inl (fun _ => 0)))] H := hP
  have hD : va_D A [(h1, .inr (10, [x2, x3, x4, .ref h5, x6, x7, x8, .ref h9, x10, x11, x12, x13, x14, x15, x16, x17])), (h9, .inr (5, [x30, x31, .int 0, x32, x33])), (h5, .inr (8, [.ref h18, x19, x20, x21, x22, x23, x24, x25, x26, x27, x28, x29])), (h18, .inl (aC 0, 5, .inl (fun _ => 0)))] := hD
  try dsimp only at hw
  subst hw
  refine lv_istore_n (lv' := [(3, .int 0), (2, .int 0), (0, .ref h1), (1, .int 0)]) hx hb dX10_fits_20 rfl hl (by decide) rfl (fun ls hl => ?_)
  refine lv_iconst (v := 0) hx hb dX10_fits_21 (by decide) ?_
  refine lv_istore (lv' := [(4, .int 0), (3, .int 0), (2, .int 0), (0, .ref h1), (1, .int 0)]) hx hb dX10_fits_22 hl (by decide) rfl (fun ls hl => ?_)
  refine lv_iconst (v := (-1)) hx hb dX10_fits_24 (by decide) ?_
  refine lv_istore (lv' := [(5, .int (-1)), (4, .int 0), (3, .int 0), (2, .int 0), (0, .ref h1), (1, .int 0)]) hx hb dX10_fits_25 hl (by decide) rfl (fun ls hl => ?_)
  refine lv_iconst (v := 0) hx hb dX10_fits_27 (by decide) ?_
  refine lv_istore (lv' := [(6, .int 0), (5, .int (-1)), (4, .int 0), (3, .int 0), (2, .int 0), (0, .ref h1), (1, .int 0)]) hx hb dX10_fits_28 hl (by decide) rfl (fun ls hl => ?_)
  refine lv_iload hx hb dX10_fits_30 (lv_at hl 0 rfl) ?_
  refine lv_aload_n hx hb dX10_fits_32 rfl (lv_at hl 5 rfl) ?_
  refine xget F hP 0 rfl rfl inX10 3 (by decide) tb403 rfl dX10_fits_33 ?_
  refine goI (wr := [(h1, .inr (10, [x2, x3, x4, .ref h5, x6, x7, x8, .ref h9, x10, x11, x12, x13, x14, x15, x16, x17])), (h9, .inr (5, [x30, x31, .int 0, x32, x33]))]) (runV (n := 0) (As := []) (rest := [.int 0]) F hP hD hS (a_X8_all_1 l g aC aM h5 h18 x19 x20 x21 x22 x23 x24 x25 x26 x27 x28 x29) [2, 3] (by decide) rfl 2 8 rfl rfl rfl tb715 tb930 tb713 tb714 tb9 ⟨by decide, by decide, by decide +kernel⟩ ⟨Nat.le_of_ble_eq_true rfl, Nat.le_of_ble_eq_true rfl⟩ rfl hl.1 rfl (Nat.le_of_ble_eq_true rfl) dX10_fits_36 ⟨Nat.le_of_ble_eq_true rfl, Nat.le_of_ble_eq_true rfl⟩) hP hD hS hA [2, 3] [0, 1] rfl rfl (by decide) (by decide) (fun r_7 w8 H locs hw hP hD hS => ?_)
  have hP : va_P g vwCl [(h1, .inr (10, [x2, x3, x4, .ref h5, x6, x7, x8, .ref h9, x10, x11, x12, x13, x14, x15, x16, x17])), (h9, .inr (5, [x30, x31, .int 0, x32, x33])), (h5, .inr (8, [.ref h18, x19, x20, x21, x22, x23, x24, x25, x26, x27, x28, x29])), (h18, .inl (aC 0, 5, .inl (fun _ => 0)))] H := hP
  have hD : va_D A [(h1, .inr (10, [x2, x3, x4, .ref h5, x6, x7, x8, .ref h9, x10, x11, x12, x13, x14, x15, x16, x17])), (h9, .inr (5, [x30, x31, .int 0, x32, x33])), (h5, .inr (8, [.ref h18, x19, x20, x21, x22, x23, x24, x25, x26, x27, x28, x29])), (h18, .inl (aC 0, 5, .inl (fun _ => 0)))] := hD
  try dsimp only at hw
  subst hw
  refine lv_icmp_gt (tgt := 98) hx hb dX10_fits_39 (by decide) (fun c_ => absurd c_ (by decide +kernel)) (fun _ => ?_)
  refine lv_aload_n hx hb dX10_fits_42 rfl (lv_at hl 5 rfl) ?_
  refine xget F hP 0 rfl rfl inX10 7 (by decide) tb407 rfl dX10_fits_43 ?_
  refine lv_iload hx hb dX10_fits_46 (lv_at hl 0 rfl) ?_
  refine goI (wr := [(h1, .inr (10, [x2, x3, x4, .ref h5, x6, x7, x8, .ref h9, x10, x11, x12, x13, x14, x15, x16, x17])), (h5, .inr (8, [.ref h18, x19, x20, x21, x22, x23, x24, x25, x26, x27, x28, x29])), (h18, .inl (aC 0, 5, .inl (fun _ => 0)))]) (runV (n := 1) (As := [.int 0]) (rest := []) F hP hD hS (a_X5_isSo_1 l g aC aM h9 x30 x31 x32 x33) [1] (by decide) rfl 1 5 rfl rfl rfl tb954 tb951 tb952 tb953 tb13 ⟨by decide, by decide, by decide +kernel⟩ ⟨Nat.le_of_ble_eq_true rfl, Nat.le_of_ble_eq_true rfl⟩ rfl hl.1 rfl (Nat.le_of_ble_eq_true rfl) dX10_fits_48 ⟨Nat.le_of_ble_eq_true rfl, Nat.le_of_ble_eq_true rfl⟩) hP hD hS hA [1] [0, 2, 3] rfl rfl (by decide) (by decide) (fun r_11 w12 H locs hw hP hD hS => ?_)
  have hP : va_P g vwCl [(h1, .inr (10, [x2, x3, x4, .ref h5, x6, x7, x8, .ref h9, x10, x11, x12, x13, x14, x15, x16, x17])), (h5, .inr (8, [.ref h18, x19, x20, x21, x22, x23, x24, x25, x26, x27, x28, x29])), (h18, .inl (aC 0, 5, .inl (fun _ => 0))), (h9, .inr (5, [x30, x31, .int 0, x32, x33]))] H := hP
  have hD : va_D A [(h1, .inr (10, [x2, x3, x4, .ref h5, x6, x7, x8, .ref h9, x10, x11, x12, x13, x14, x15, x16, x17])), (h5, .inr (8, [.ref h18, x19, x20, x21, x22, x23, x24, x25, x26, x27, x28, x29])), (h18, .inl (aC 0, 5, .inl (fun _ => 0))), (h9, .inr (5, [x30, x31, .int 0, x32, x33]))] := hD
  try dsimp only at hw
  subst hw
  refine lv_if_eq (tgt := 92) hx hb dX10_fits_51 (by decide) (fun c_ => absurd c_ (by decide +kernel)) (fun _ => ?_)
  refine lv_iinc (v := 1) (lv' := [(2, .int 1), (6, .int 0), (5, .int (-1)), (4, .int 0), (3, .int 0), (0, .ref h1), (1, .int 0)]) hx hb dX10_fits_54 hl (k := 4) rfl (by decide +kernel) (by decide) rfl (fun ls hl => ?_)
  refine lv_iload_n hx hb dX10_fits_57 rfl (lv_at hl 4 rfl) ?_
  refine lv_iload hx hb dX10_fits_58 (lv_at hl 1 rfl) ?_
  refine lv_iand hx hb dX10_fits_60 ?_
  refine relit (v := 0) (by decide +kernel) ?_
  refine lv_istore_n (lv' := [(3, .int 0), (2, .int 1), (6, .int 0), (5, .int (-1)), (4, .int 0), (0, .ref h1), (1, .int 0)]) hx hb dX10_fits_61 rfl hl (by decide) rfl (fun ls hl => ?_)
  refine lv_iload hx hb dX10_fits_62 (lv_at hl 4 rfl) ?_
  refine lv_iload hx hb dX10_fits_64 (lv_at hl 2 rfl) ?_
  refine lv_ior hx hb dX10_fits_66 ?_
  refine relit (v := 0) (by decide +kernel) ?_
  refine lv_istore (lv' := [(4, .int 0), (3, .int 0), (2, .int 1), (6, .int 0), (5, .int (-1)), (0, .ref h1), (1, .int 0)]) hx hb dX10_fits_67 hl (by decide) rfl (fun ls hl => ?_)
  refine lv_iload hx hb dX10_fits_69 (lv_at hl 4 rfl) ?_
  refine lv_iconst (v := (-1)) hx hb dX10_fits_71 (by decide) ?_
  refine lv_icmp_eq (tgt := 88) hx hb dX10_fits_72 (by decide) (fun _ => ?_) (fun c_ => absurd (by decide +kernel) c_)
  refine lv_iload hx hb dX10_fits_88 (lv_at hl 3 rfl) ?_
  refine lv_istore (lv' := [(5, .int 0), (4, .int 0), (3, .int 0), (2, .int 1), (6, .int 0), (0, .ref h1), (1, .int 0)]) hx hb dX10_fits_90 hl (by decide) rfl (fun ls hl => ?_)
  refine lv_iinc (v := 1) (lv' := [(6, .int 1), (5, .int 0), (4, .int 0), (3, .int 0), (2, .int 1), (0, .ref h1), (1, .int 0)]) hx hb dX10_fits_92 hl (k := 4) rfl (by decide +kernel) (by decide) rfl (fun ls hl => ?_)
  refine lv_goto (tgt := 30) hx hb dX10_fits_95 (by decide) ?_
  refine lv_iload hx hb dX10_fits_30 (lv_at hl 0 rfl) ?_
  refine lv_aload_n hx hb dX10_fits_32 rfl (lv_at hl 5 rfl) ?_
  refine xget F hP 0 rfl rfl inX10 3 (by decide) tb403 rfl dX10_fits_33 ?_
  refine goI (wr := [(h1, .inr (10, [x2, x3, x4, .ref h5, x6, x7, x8, .ref h9, x10, x11, x12, x13, x14, x15, x16, x17])), (h9, .inr (5, [x30, x31, .int 0, x32, x33]))]) (runV (n := 0) (As := []) (rest := [.int 1]) F hP hD hS (a_X8_all_1 l g aC aM h5 h18 x19 x20 x21 x22 x23 x24 x25 x26 x27 x28 x29) [1, 2] (by decide) rfl 1 8 rfl rfl rfl tb715 tb930 tb713 tb714 tb9 ⟨by decide, by decide, by decide +kernel⟩ ⟨Nat.le_of_ble_eq_true rfl, Nat.le_of_ble_eq_true rfl⟩ rfl hl.1 rfl (Nat.le_of_ble_eq_true rfl) dX10_fits_36 ⟨Nat.le_of_ble_eq_true rfl, Nat.le_of_ble_eq_true rfl⟩) hP hD hS hA [1, 2] [0, 3] rfl rfl (by decide) (by decide) (fun r_16 w17 H locs hw hP hD hS => ?_)
  have hP : va_P g vwCl [(h1, .inr (10, [x2, x3, x4, .ref h5, x6, x7, x8, .ref h9, x10, x11, x12, x13, x14, x15, x16, x17])), (h9, .inr (5, [x30, x31, .int 0, x32, x33])), (h5, .inr (8, [.ref h18, x19, x20, x21, x22, x23, x24, x25, x26, x27, x28, x29])), (h18, .inl (aC 0, 5, .inl (fun _ => 0)))] H := hP
  have hD : va_D A [(h1, .inr (10, [x2, x3, x4, .ref h5, x6, x7, x8, .ref h9, x10, x11, x12, x13, x14, x15, x16, x17])), (h9, .inr (5, [x30, x31, .int 0, x32, x33])), (h5, .inr (8, [.ref h18, x19, x20, x21, x22, x23, x24, x25, x26, x27, x28, x29])), (h18, .inl (aC 0, 5, .inl (fun _ => 0)))] := hD
  try dsimp only at hw
  subst hw
  refine lv_icmp_gt (tgt := 98) hx hb dX10_fits_39 (by decide) (fun _ => ?_) (fun c_ => absurd (by decide +kernel) c_)
  refine lv_iload_n hx hb dX10_fits_98 rfl (lv_at hl 6 rfl) ?_
  refine lv_if_ne (tgt := 104) hx hb dX10_fits_99 (by decide) (fun c_ => absurd (by decide +kernel) c_) (fun _ => ?_)
  refine lv_iload_n hx hb dX10_fits_102 rfl (lv_at hl 4 rfl) ?_
  have hP9 := hP.sub (ws' := []) [] rfl
  have hD9 := hD.sub (ws' := []) [] (by decide) rfl
  exact rI () hx hb hr hlk rfl hS rfl hP9 hD9 (Nat.le_of_ble_eq_true rfl) (Nat.le_of_ble_eq_true rfl) dX10_fits_103

set_option maxHeartbeats 4000000 in
set_option maxRecDepth 100000 in
theorem x_fits_1 (l : Launch) (g : va_G) (aC : Nat → ClassId) (aM : Nat → Nat) (h1 h5 h9 h18 : Nat) (x2 x3 x4 x6 x7 x8 x10 x11 x12 x13 x14 x15 x16 x17 x19 x20 x21 x22 x23 x24 x25 x26 x27 x28 x29 x30 x31 x32 x33 : Value) : Ct l g aC aM yX10_fits cX10_fits 7 (some .int) 2 [.ref h1, .int 1] [(h1, .inr (10, [x2, x3, x4, .ref h5, x6, x7, x8, .ref h9, x10, x11, x12, x13, x14, x15, x16, x17])), (h5, .inr (8, [.ref h18, x19, x20, x21, x22, x23, x24, x25, x26, x27, x28, x29])), (h18, .inl (aC 0, 5, .inl (fun _ => 0))), (h9, .inr (5, [x30, x31, .int 0, x32, x33]))] (QI g (fun (r : Int32) (_ : Unit) => r = 0) (fun (_ : Unit) => [])) 0 0 := by
  refine Ct.mk (by decide) (Nat.le_of_ble_eq_true rfl) ?_
  intro p e s m below meth c A ls hx hb hml hown hts hr hlk hnm hK hA hM hM2 hP hD hS hl
  have hown : s.vm.findClass RX10 = some m.cls := hown
  have F : Fx p s m _ c cX10_fits 7 RX10 g aC aM A := ⟨hx, hb, hml, hown, hts, hK, hA, hM, hM2⟩
  have hl : lv_has ls 7 [(0, .ref h1), (1, .int 1)] := hl
  refine lv_iload_n hx hb dX10_fits_0 rfl (lv_at hl 1 rfl) ?_
  refine lv_if_lt (tgt := 9) hx hb dX10_fits_1 (by decide) (fun c_ => absurd c_ (by decide +kernel)) (fun _ => ?_)
  refine lv_iload_n hx hb dX10_fits_4 rfl (lv_at hl 1 rfl) ?_
  refine lv_iconst (v := 3) hx hb dX10_fits_5 (by decide) ?_
  refine lv_icmp_le (tgt := 11) hx hb dX10_fits_6 (by decide) (fun _ => ?_) (fun c_ => absurd (by decide +kernel) c_)
  refine lv_iconst (v := 0) hx hb dX10_fits_11 (by decide) ?_
  refine lv_istore_n (lv' := [(2, .int 0), (0, .ref h1), (1, .int 1)]) hx hb dX10_fits_12 rfl hl (by decide) rfl (fun ls hl => ?_)
  refine lv_aload_n hx hb dX10_fits_13 rfl (lv_at hl 1 rfl) ?_
  refine xget F hP 0 rfl rfl inX10 3 (by decide) tb403 rfl dX10_fits_14 ?_
  refine goI (wr := [(h1, .inr (10, [x2, x3, x4, .ref h5, x6, x7, x8, .ref h9, x10, x11, x12, x13, x14, x15, x16, x17])), (h9, .inr (5, [x30, x31, .int 0, x32, x33]))]) (runV (n := 0) (As := []) (rest := []) F hP hD hS (a_X8_all_1 l g aC aM h5 h18 x19 x20 x21 x22 x23 x24 x25 x26 x27 x28 x29) [1, 2] (by decide) rfl 1 8 rfl rfl rfl tb715 tb930 tb713 tb714 tb9 ⟨by decide, by decide, by decide +kernel⟩ ⟨Nat.le_of_ble_eq_true rfl, Nat.le_of_ble_eq_true rfl⟩ rfl hl.1 rfl (Nat.le_of_ble_eq_true rfl) dX10_fits_17 ⟨Nat.le_of_ble_eq_true rfl, Nat.le_of_ble_eq_true rfl⟩) hP hD hS hA [1, 2] [0, 3] rfl rfl (by decide) (by decide) (fun r_4 w5 H locs hw hP hD hS => ?_)
  have hP : va_P g vwCl [(h1, .inr (10, [x2, x3, x4, .ref h5, x6, x7, x8, .ref h9, x10, x11, x12, x13, x14, x15, x16, x17])), (h9, .inr (5, [x30, x31, .int 0, x32, x33])), (h5, .inr (8, [.ref h18, x19, x20, x21, x22, x23, x24, x25, x26, x27, x28, x29])), (h18, .inl (aC 0, 5, .inl (fun _ => 0)))] H := hP
  have hD : va_D A [(h1, .inr (10, [x2, x3, x4, .ref h5, x6, x7, x8, .ref h9, x10, x11, x12, x13, x14, x15, x16, x17])), (h9, .inr (5, [x30, x31, .int 0, x32, x33])), (h5, .inr (8, [.ref h18, x19, x20, x21, x22, x23, x24, x25, x26, x27, x28, x29])), (h18, .inl (aC 0, 5, .inl (fun _ => 0)))] := hD
  try dsimp only at hw
  subst hw
  refine lv_istore_n (lv' := [(3, .int 0), (2, .int 0), (0, .ref h1), (1, .int 1)]) hx hb dX10_fits_20 rfl hl (by decide) rfl (fun ls hl => ?_)
  refine lv_iconst (v := 0) hx hb dX10_fits_21 (by decide) ?_
  refine lv_istore (lv' := [(4, .int 0), (3, .int 0), (2, .int 0), (0, .ref h1), (1, .int 1)]) hx hb dX10_fits_22 hl (by decide) rfl (fun ls hl => ?_)
  refine lv_iconst (v := (-1)) hx hb dX10_fits_24 (by decide) ?_
  refine lv_istore (lv' := [(5, .int (-1)), (4, .int 0), (3, .int 0), (2, .int 0), (0, .ref h1), (1, .int 1)]) hx hb dX10_fits_25 hl (by decide) rfl (fun ls hl => ?_)
  refine lv_iconst (v := 0) hx hb dX10_fits_27 (by decide) ?_
  refine lv_istore (lv' := [(6, .int 0), (5, .int (-1)), (4, .int 0), (3, .int 0), (2, .int 0), (0, .ref h1), (1, .int 1)]) hx hb dX10_fits_28 hl (by decide) rfl (fun ls hl => ?_)
  refine lv_iload hx hb dX10_fits_30 (lv_at hl 0 rfl) ?_
  refine lv_aload_n hx hb dX10_fits_32 rfl (lv_at hl 5 rfl) ?_
  refine xget F hP 0 rfl rfl inX10 3 (by decide) tb403 rfl dX10_fits_33 ?_
  refine goI (wr := [(h1, .inr (10, [x2, x3, x4, .ref h5, x6, x7, x8, .ref h9, x10, x11, x12, x13, x14, x15, x16, x17])), (h9, .inr (5, [x30, x31, .int 0, x32, x33]))]) (runV (n := 0) (As := []) (rest := [.int 0]) F hP hD hS (a_X8_all_1 l g aC aM h5 h18 x19 x20 x21 x22 x23 x24 x25 x26 x27 x28 x29) [2, 3] (by decide) rfl 2 8 rfl rfl rfl tb715 tb930 tb713 tb714 tb9 ⟨by decide, by decide, by decide +kernel⟩ ⟨Nat.le_of_ble_eq_true rfl, Nat.le_of_ble_eq_true rfl⟩ rfl hl.1 rfl (Nat.le_of_ble_eq_true rfl) dX10_fits_36 ⟨Nat.le_of_ble_eq_true rfl, Nat.le_of_ble_eq_true rfl⟩) hP hD hS hA [2, 3] [0, 1] rfl rfl (by decide) (by decide) (fun r_7 w8 H locs hw hP hD hS => ?_)
  have hP : va_P g vwCl [(h1, .inr (10, [x2, x3, x4, .ref h5, x6, x7, x8, .ref h9, x10, x11, x12, x13, x14, x15, x16, x17])), (h9, .inr (5, [x30, x31, .int 0, x32, x33])), (h5, .inr (8, [.ref h18, x19, x20, x21, x22, x23, x24, x25, x26, x27, x28, x29])), (h18, .inl (aC 0, 5, .inl (fun _ => 0)))] H := hP
  have hD : va_D A [(h1, .inr (10, [x2, x3, x4, .ref h5, x6, x7, x8, .ref h9, x10, x11, x12, x13, x14, x15, x16, x17])), (h9, .inr (5, [x30, x31, .int 0, x32, x33])), (h5, .inr (8, [.ref h18, x19, x20, x21, x22, x23, x24, x25, x26, x27, x28, x29])), (h18, .inl (aC 0, 5, .inl (fun _ => 0)))] := hD
  try dsimp only at hw
  subst hw
  refine lv_icmp_gt (tgt := 98) hx hb dX10_fits_39 (by decide) (fun c_ => absurd c_ (by decide +kernel)) (fun _ => ?_)
  refine lv_aload_n hx hb dX10_fits_42 rfl (lv_at hl 5 rfl) ?_
  refine xget F hP 0 rfl rfl inX10 7 (by decide) tb407 rfl dX10_fits_43 ?_
  refine lv_iload hx hb dX10_fits_46 (lv_at hl 0 rfl) ?_
  refine goI (wr := [(h1, .inr (10, [x2, x3, x4, .ref h5, x6, x7, x8, .ref h9, x10, x11, x12, x13, x14, x15, x16, x17])), (h5, .inr (8, [.ref h18, x19, x20, x21, x22, x23, x24, x25, x26, x27, x28, x29])), (h18, .inl (aC 0, 5, .inl (fun _ => 0)))]) (runV (n := 1) (As := [.int 0]) (rest := []) F hP hD hS (a_X5_isSo_1 l g aC aM h9 x30 x31 x32 x33) [1] (by decide) rfl 1 5 rfl rfl rfl tb954 tb951 tb952 tb953 tb13 ⟨by decide, by decide, by decide +kernel⟩ ⟨Nat.le_of_ble_eq_true rfl, Nat.le_of_ble_eq_true rfl⟩ rfl hl.1 rfl (Nat.le_of_ble_eq_true rfl) dX10_fits_48 ⟨Nat.le_of_ble_eq_true rfl, Nat.le_of_ble_eq_true rfl⟩) hP hD hS hA [1] [0, 2, 3] rfl rfl (by decide) (by decide) (fun r_11 w12 H locs hw hP hD hS => ?_)
  have hP : va_P g vwCl [(h1, .inr (10, [x2, x3, x4, .ref h5, x6, x7, x8, .ref h9, x10, x11, x12, x13, x14, x15, x16, x17])), (h5, .inr (8, [.ref h18, x19, x20, x21, x22, x23, x24, x25, x26, x27, x28, x29])), (h18, .inl (aC 0, 5, .inl (fun _ => 0))), (h9, .inr (5, [x30, x31, .int 0, x32, x33]))] H := hP
  have hD : va_D A [(h1, .inr (10, [x2, x3, x4, .ref h5, x6, x7, x8, .ref h9, x10, x11, x12, x13, x14, x15, x16, x17])), (h5, .inr (8, [.ref h18, x19, x20, x21, x22, x23, x24, x25, x26, x27, x28, x29])), (h18, .inl (aC 0, 5, .inl (fun _ => 0))), (h9, .inr (5, [x30, x31, .int 0, x32, x33]))] := hD
  try dsimp only at hw
  subst hw
  refine lv_if_eq (tgt := 92) hx hb dX10_fits_51 (by decide) (fun c_ => absurd c_ (by decide +kernel)) (fun _ => ?_)
  refine lv_iinc (v := 1) (lv' := [(2, .int 1), (6, .int 0), (5, .int (-1)), (4, .int 0), (3, .int 0), (0, .ref h1), (1, .int 1)]) hx hb dX10_fits_54 hl (k := 4) rfl (by decide +kernel) (by decide) rfl (fun ls hl => ?_)
  refine lv_iload_n hx hb dX10_fits_57 rfl (lv_at hl 4 rfl) ?_
  refine lv_iload hx hb dX10_fits_58 (lv_at hl 1 rfl) ?_
  refine lv_iand hx hb dX10_fits_60 ?_
  refine relit (v := 0) (by decide +kernel) ?_
  refine lv_istore_n (lv' := [(3, .int 0), (2, .int 1), (6, .int 0), (5, .int (-1)), (4, .int 0), (0, .ref h1), (1, .int 1)]) hx hb dX10_fits_61 rfl hl (by decide) rfl (fun ls hl => ?_)
  refine lv_iload hx hb dX10_fits_62 (lv_at hl 4 rfl) ?_
  refine lv_iload hx hb dX10_fits_64 (lv_at hl 2 rfl) ?_
  refine lv_ior hx hb dX10_fits_66 ?_
  refine relit (v := 0) (by decide +kernel) ?_
  refine lv_istore (lv' := [(4, .int 0), (3, .int 0), (2, .int 1), (6, .int 0), (5, .int (-1)), (0, .ref h1), (1, .int 1)]) hx hb dX10_fits_67 hl (by decide) rfl (fun ls hl => ?_)
  refine lv_iload hx hb dX10_fits_69 (lv_at hl 4 rfl) ?_
  refine lv_iconst (v := (-1)) hx hb dX10_fits_71 (by decide) ?_
  refine lv_icmp_eq (tgt := 88) hx hb dX10_fits_72 (by decide) (fun _ => ?_) (fun c_ => absurd (by decide +kernel) c_)
  refine lv_iload hx hb dX10_fits_88 (lv_at hl 3 rfl) ?_
  refine lv_istore (lv' := [(5, .int 0), (4, .int 0), (3, .int 0), (2, .int 1), (6, .int 0), (0, .ref h1), (1, .int 1)]) hx hb dX10_fits_90 hl (by decide) rfl (fun ls hl => ?_)
  refine lv_iinc (v := 1) (lv' := [(6, .int 1), (5, .int 0), (4, .int 0), (3, .int 0), (2, .int 1), (0, .ref h1), (1, .int 1)]) hx hb dX10_fits_92 hl (k := 4) rfl (by decide +kernel) (by decide) rfl (fun ls hl => ?_)
  refine lv_goto (tgt := 30) hx hb dX10_fits_95 (by decide) ?_
  refine lv_iload hx hb dX10_fits_30 (lv_at hl 0 rfl) ?_
  refine lv_aload_n hx hb dX10_fits_32 rfl (lv_at hl 5 rfl) ?_
  refine xget F hP 0 rfl rfl inX10 3 (by decide) tb403 rfl dX10_fits_33 ?_
  refine goI (wr := [(h1, .inr (10, [x2, x3, x4, .ref h5, x6, x7, x8, .ref h9, x10, x11, x12, x13, x14, x15, x16, x17])), (h9, .inr (5, [x30, x31, .int 0, x32, x33]))]) (runV (n := 0) (As := []) (rest := [.int 1]) F hP hD hS (a_X8_all_1 l g aC aM h5 h18 x19 x20 x21 x22 x23 x24 x25 x26 x27 x28 x29) [1, 2] (by decide) rfl 1 8 rfl rfl rfl tb715 tb930 tb713 tb714 tb9 ⟨by decide, by decide, by decide +kernel⟩ ⟨Nat.le_of_ble_eq_true rfl, Nat.le_of_ble_eq_true rfl⟩ rfl hl.1 rfl (Nat.le_of_ble_eq_true rfl) dX10_fits_36 ⟨Nat.le_of_ble_eq_true rfl, Nat.le_of_ble_eq_true rfl⟩) hP hD hS hA [1, 2] [0, 3] rfl rfl (by decide) (by decide) (fun r_16 w17 H locs hw hP hD hS => ?_)
  have hP : va_P g vwCl [(h1, .inr (10, [x2, x3, x4, .ref h5, x6, x7, x8, .ref h9, x10, x11, x12, x13, x14, x15, x16, x17])), (h9, .inr (5, [x30, x31, .int 0, x32, x33])), (h5, .inr (8, [.ref h18, x19, x20, x21, x22, x23, x24, x25, x26, x27, x28, x29])), (h18, .inl (aC 0, 5, .inl (fun _ => 0)))] H := hP
  have hD : va_D A [(h1, .inr (10, [x2, x3, x4, .ref h5, x6, x7, x8, .ref h9, x10, x11, x12, x13, x14, x15, x16, x17])), (h9, .inr (5, [x30, x31, .int 0, x32, x33])), (h5, .inr (8, [.ref h18, x19, x20, x21, x22, x23, x24, x25, x26, x27, x28, x29])), (h18, .inl (aC 0, 5, .inl (fun _ => 0)))] := hD
  try dsimp only at hw
  subst hw
  refine lv_icmp_gt (tgt := 98) hx hb dX10_fits_39 (by decide) (fun _ => ?_) (fun c_ => absurd (by decide +kernel) c_)
  refine lv_iload_n hx hb dX10_fits_98 rfl (lv_at hl 6 rfl) ?_
  refine lv_if_ne (tgt := 104) hx hb dX10_fits_99 (by decide) (fun _ => ?_) (fun c_ => absurd c_ (by decide +kernel))
  refine lv_iload_n hx hb dX10_fits_104 rfl (lv_at hl 4 rfl) ?_
  refine lv_if_ne (tgt := 110) hx hb dX10_fits_105 (by decide) (fun _ => ?_) (fun c_ => absurd c_ (by decide +kernel))
  refine lv_iload_n hx hb dX10_fits_110 rfl (lv_at hl 6 rfl) ?_
  refine lv_iconst (v := 1) hx hb dX10_fits_111 (by decide) ?_
  refine lv_icmp_ne (tgt := 119) hx hb dX10_fits_112 (by decide) (fun c_ => absurd (by decide +kernel) c_) (fun _ => ?_)
  refine lv_iload_n hx hb dX10_fits_115 rfl (lv_at hl 3 rfl) ?_
  refine lv_goto (tgt := 131) hx hb dX10_fits_116 (by decide) ?_
  have hP9 := hP.sub (ws' := []) [] rfl
  have hD9 := hD.sub (ws' := []) [] (by decide) rfl
  exact rI () hx hb hr hlk rfl hS rfl hP9 hD9 (Nat.le_of_ble_eq_true rfl) (Nat.le_of_ble_eq_true rfl) dX10_fits_131

set_option maxHeartbeats 4000000 in
set_option maxRecDepth 100000 in
theorem x_fits_2 (l : Launch) (g : va_G) (aC : Nat → ClassId) (aM : Nat → Nat) (h1 h5 h9 h18 : Nat) (x2 x3 x4 x6 x7 x8 x10 x11 x12 x13 x14 x15 x16 x17 x19 x20 x21 x22 x23 x24 x25 x26 x27 x28 x29 x30 x31 x32 x33 : Value) : Ct l g aC aM yX10_fits cX10_fits 7 (some .int) 2 [.ref h1, .int 2] [(h1, .inr (10, [x2, x3, x4, .ref h5, x6, x7, x8, .ref h9, x10, x11, x12, x13, x14, x15, x16, x17])), (h5, .inr (8, [.ref h18, x19, x20, x21, x22, x23, x24, x25, x26, x27, x28, x29])), (h18, .inl (aC 0, 5, .inl (fun _ => 0))), (h9, .inr (5, [x30, x31, .int 0, x32, x33]))] (QI g (fun (r : Int32) (_ : Unit) => r = 0) (fun (_ : Unit) => [])) 0 0 := by
  refine Ct.mk (by decide) (Nat.le_of_ble_eq_true rfl) ?_
  intro p e s m below meth c A ls hx hb hml hown hts hr hlk hnm hK hA hM hM2 hP hD hS hl
  have hown : s.vm.findClass RX10 = some m.cls := hown
  have F : Fx p s m _ c cX10_fits 7 RX10 g aC aM A := ⟨hx, hb, hml, hown, hts, hK, hA, hM, hM2⟩
  have hl : lv_has ls 7 [(0, .ref h1), (1, .int 2)] := hl
  refine lv_iload_n hx hb dX10_fits_0 rfl (lv_at hl 1 rfl) ?_
  refine lv_if_lt (tgt := 9) hx hb dX10_fits_1 (by decide) (fun c_ => absurd c_ (by decide +kernel)) (fun _ => ?_)
  refine lv_iload_n hx hb dX10_fits_4 rfl (lv_at hl 1 rfl) ?_
  refine lv_iconst (v := 3) hx hb dX10_fits_5 (by decide) ?_
  refine lv_icmp_le (tgt := 11) hx hb dX10_fits_6 (by decide) (fun _ => ?_) (fun c_ => absurd (by decide +kernel) c_)
  refine lv_iconst (v := 0) hx hb dX10_fits_11 (by decide) ?_
  refine lv_istore_n (lv' := [(2, .int 0), (0, .ref h1), (1, .int 2)]) hx hb dX10_fits_12 rfl hl (by decide) rfl (fun ls hl => ?_)
  refine lv_aload_n hx hb dX10_fits_13 rfl (lv_at hl 1 rfl) ?_
  refine xget F hP 0 rfl rfl inX10 3 (by decide) tb403 rfl dX10_fits_14 ?_
  refine goI (wr := [(h1, .inr (10, [x2, x3, x4, .ref h5, x6, x7, x8, .ref h9, x10, x11, x12, x13, x14, x15, x16, x17])), (h9, .inr (5, [x30, x31, .int 0, x32, x33]))]) (runV (n := 0) (As := []) (rest := []) F hP hD hS (a_X8_all_1 l g aC aM h5 h18 x19 x20 x21 x22 x23 x24 x25 x26 x27 x28 x29) [1, 2] (by decide) rfl 1 8 rfl rfl rfl tb715 tb930 tb713 tb714 tb9 ⟨by decide, by decide, by decide +kernel⟩ ⟨Nat.le_of_ble_eq_true rfl, Nat.le_of_ble_eq_true rfl⟩ rfl hl.1 rfl (Nat.le_of_ble_eq_true rfl) dX10_fits_17 ⟨Nat.le_of_ble_eq_true rfl, Nat.le_of_ble_eq_true rfl⟩) hP hD hS hA [1, 2] [0, 3] rfl rfl (by decide) (by decide) (fun r_4 w5 H locs hw hP hD hS => ?_)
  have hP : va_P g vwCl [(h1, .inr (10, [x2, x3, x4, .ref h5, x6, x7, x8, .ref h9, x10, x11, x12, x13, x14, x15, x16, x17])), (h9, .inr (5, [x30, x31, .int 0, x32, x33])), (h5, .inr (8, [.ref h18, x19, x20, x21, x22, x23, x24, x25, x26, x27, x28, x29])), (h18, .inl (aC 0, 5, .inl (fun _ => 0)))] H := hP
  have hD : va_D A [(h1, .inr (10, [x2, x3, x4, .ref h5, x6, x7, x8, .ref h9, x10, x11, x12, x13, x14, x15, x16, x17])), (h9, .inr (5, [x30, x31, .int 0, x32, x33])), (h5, .inr (8, [.ref h18, x19, x20, x21, x22, x23, x24, x25, x26, x27, x28, x29])), (h18, .inl (aC 0, 5, .inl (fun _ => 0)))] := hD
  try dsimp only at hw
  subst hw
  refine lv_istore_n (lv' := [(3, .int 0), (2, .int 0), (0, .ref h1), (1, .int 2)]) hx hb dX10_fits_20 rfl hl (by decide) rfl (fun ls hl => ?_)
  refine lv_iconst (v := 0) hx hb dX10_fits_21 (by decide) ?_
  refine lv_istore (lv' := [(4, .int 0), (3, .int 0), (2, .int 0), (0, .ref h1), (1, .int 2)]) hx hb dX10_fits_22 hl (by decide) rfl (fun ls hl => ?_)
  refine lv_iconst (v := (-1)) hx hb dX10_fits_24 (by decide) ?_
  refine lv_istore (lv' := [(5, .int (-1)), (4, .int 0), (3, .int 0), (2, .int 0), (0, .ref h1), (1, .int 2)]) hx hb dX10_fits_25 hl (by decide) rfl (fun ls hl => ?_)
  refine lv_iconst (v := 0) hx hb dX10_fits_27 (by decide) ?_
  refine lv_istore (lv' := [(6, .int 0), (5, .int (-1)), (4, .int 0), (3, .int 0), (2, .int 0), (0, .ref h1), (1, .int 2)]) hx hb dX10_fits_28 hl (by decide) rfl (fun ls hl => ?_)
  refine lv_iload hx hb dX10_fits_30 (lv_at hl 0 rfl) ?_
  refine lv_aload_n hx hb dX10_fits_32 rfl (lv_at hl 5 rfl) ?_
  refine xget F hP 0 rfl rfl inX10 3 (by decide) tb403 rfl dX10_fits_33 ?_
  refine goI (wr := [(h1, .inr (10, [x2, x3, x4, .ref h5, x6, x7, x8, .ref h9, x10, x11, x12, x13, x14, x15, x16, x17])), (h9, .inr (5, [x30, x31, .int 0, x32, x33]))]) (runV (n := 0) (As := []) (rest := [.int 0]) F hP hD hS (a_X8_all_1 l g aC aM h5 h18 x19 x20 x21 x22 x23 x24 x25 x26 x27 x28 x29) [2, 3] (by decide) rfl 2 8 rfl rfl rfl tb715 tb930 tb713 tb714 tb9 ⟨by decide, by decide, by decide +kernel⟩ ⟨Nat.le_of_ble_eq_true rfl, Nat.le_of_ble_eq_true rfl⟩ rfl hl.1 rfl (Nat.le_of_ble_eq_true rfl) dX10_fits_36 ⟨Nat.le_of_ble_eq_true rfl, Nat.le_of_ble_eq_true rfl⟩) hP hD hS hA [2, 3] [0, 1] rfl rfl (by decide) (by decide) (fun r_7 w8 H locs hw hP hD hS => ?_)
  have hP : va_P g vwCl [(h1, .inr (10, [x2, x3, x4, .ref h5, x6, x7, x8, .ref h9, x10, x11, x12, x13, x14, x15, x16, x17])), (h9, .inr (5, [x30, x31, .int 0, x32, x33])), (h5, .inr (8, [.ref h18, x19, x20, x21, x22, x23, x24, x25, x26, x27, x28, x29])), (h18, .inl (aC 0, 5, .inl (fun _ => 0)))] H := hP
  have hD : va_D A [(h1, .inr (10, [x2, x3, x4, .ref h5, x6, x7, x8, .ref h9, x10, x11, x12, x13, x14, x15, x16, x17])), (h9, .inr (5, [x30, x31, .int 0, x32, x33])), (h5, .inr (8, [.ref h18, x19, x20, x21, x22, x23, x24, x25, x26, x27, x28, x29])), (h18, .inl (aC 0, 5, .inl (fun _ => 0)))] := hD
  try dsimp only at hw
  subst hw
  refine lv_icmp_gt (tgt := 98) hx hb dX10_fits_39 (by decide) (fun c_ => absurd c_ (by decide +kernel)) (fun _ => ?_)
  refine lv_aload_n hx hb dX10_fits_42 rfl (lv_at hl 5 rfl) ?_
  refine xget F hP 0 rfl rfl inX10 7 (by decide) tb407 rfl dX10_fits_43 ?_
  refine lv_iload hx hb dX10_fits_46 (lv_at hl 0 rfl) ?_
  refine goI (wr := [(h1, .inr (10, [x2, x3, x4, .ref h5, x6, x7, x8, .ref h9, x10, x11, x12, x13, x14, x15, x16, x17])), (h5, .inr (8, [.ref h18, x19, x20, x21, x22, x23, x24, x25, x26, x27, x28, x29])), (h18, .inl (aC 0, 5, .inl (fun _ => 0)))]) (runV (n := 1) (As := [.int 0]) (rest := []) F hP hD hS (a_X5_isSo_1 l g aC aM h9 x30 x31 x32 x33) [1] (by decide) rfl 1 5 rfl rfl rfl tb954 tb951 tb952 tb953 tb13 ⟨by decide, by decide, by decide +kernel⟩ ⟨Nat.le_of_ble_eq_true rfl, Nat.le_of_ble_eq_true rfl⟩ rfl hl.1 rfl (Nat.le_of_ble_eq_true rfl) dX10_fits_48 ⟨Nat.le_of_ble_eq_true rfl, Nat.le_of_ble_eq_true rfl⟩) hP hD hS hA [1] [0, 2, 3] rfl rfl (by decide) (by decide) (fun r_11 w12 H locs hw hP hD hS => ?_)
  have hP : va_P g vwCl [(h1, .inr (10, [x2, x3, x4, .ref h5, x6, x7, x8, .ref h9, x10, x11, x12, x13, x14, x15, x16, x17])), (h5, .inr (8, [.ref h18, x19, x20, x21, x22, x23, x24, x25, x26, x27, x28, x29])), (h18, .inl (aC 0, 5, .inl (fun _ => 0))), (h9, .inr (5, [x30, x31, .int 0, x32, x33]))] H := hP
  have hD : va_D A [(h1, .inr (10, [x2, x3, x4, .ref h5, x6, x7, x8, .ref h9, x10, x11, x12, x13, x14, x15, x16, x17])), (h5, .inr (8, [.ref h18, x19, x20, x21, x22, x23, x24, x25, x26, x27, x28, x29])), (h18, .inl (aC 0, 5, .inl (fun _ => 0))), (h9, .inr (5, [x30, x31, .int 0, x32, x33]))] := hD
  try dsimp only at hw
  subst hw
  refine lv_if_eq (tgt := 92) hx hb dX10_fits_51 (by decide) (fun c_ => absurd c_ (by decide +kernel)) (fun _ => ?_)
  refine lv_iinc (v := 1) (lv' := [(2, .int 1), (6, .int 0), (5, .int (-1)), (4, .int 0), (3, .int 0), (0, .ref h1), (1, .int 2)]) hx hb dX10_fits_54 hl (k := 4) rfl (by decide +kernel) (by decide) rfl (fun ls hl => ?_)
  refine lv_iload_n hx hb dX10_fits_57 rfl (lv_at hl 4 rfl) ?_
  refine lv_iload hx hb dX10_fits_58 (lv_at hl 1 rfl) ?_
  refine lv_iand hx hb dX10_fits_60 ?_
  refine relit (v := 0) (by decide +kernel) ?_
  refine lv_istore_n (lv' := [(3, .int 0), (2, .int 1), (6, .int 0), (5, .int (-1)), (4, .int 0), (0, .ref h1), (1, .int 2)]) hx hb dX10_fits_61 rfl hl (by decide) rfl (fun ls hl => ?_)
  refine lv_iload hx hb dX10_fits_62 (lv_at hl 4 rfl) ?_
  refine lv_iload hx hb dX10_fits_64 (lv_at hl 2 rfl) ?_
  refine lv_ior hx hb dX10_fits_66 ?_
  refine relit (v := 0) (by decide +kernel) ?_
  refine lv_istore (lv' := [(4, .int 0), (3, .int 0), (2, .int 1), (6, .int 0), (5, .int (-1)), (0, .ref h1), (1, .int 2)]) hx hb dX10_fits_67 hl (by decide) rfl (fun ls hl => ?_)
  refine lv_iload hx hb dX10_fits_69 (lv_at hl 4 rfl) ?_
  refine lv_iconst (v := (-1)) hx hb dX10_fits_71 (by decide) ?_
  refine lv_icmp_eq (tgt := 88) hx hb dX10_fits_72 (by decide) (fun _ => ?_) (fun c_ => absurd (by decide +kernel) c_)
  refine lv_iload hx hb dX10_fits_88 (lv_at hl 3 rfl) ?_
  refine lv_istore (lv' := [(5, .int 0), (4, .int 0), (3, .int 0), (2, .int 1), (6, .int 0), (0, .ref h1), (1, .int 2)]) hx hb dX10_fits_90 hl (by decide) rfl (fun ls hl => ?_)
  refine lv_iinc (v := 1) (lv' := [(6, .int 1), (5, .int 0), (4, .int 0), (3, .int 0), (2, .int 1), (0, .ref h1), (1, .int 2)]) hx hb dX10_fits_92 hl (k := 4) rfl (by decide +kernel) (by decide) rfl (fun ls hl => ?_)
  refine lv_goto (tgt := 30) hx hb dX10_fits_95 (by decide) ?_
  refine lv_iload hx hb dX10_fits_30 (lv_at hl 0 rfl) ?_
  refine lv_aload_n hx hb dX10_fits_32 rfl (lv_at hl 5 rfl) ?_
  refine xget F hP 0 rfl rfl inX10 3 (by decide) tb403 rfl dX10_fits_33 ?_
  refine goI (wr := [(h1, .inr (10, [x2, x3, x4, .ref h5, x6, x7, x8, .ref h9, x10, x11, x12, x13, x14, x15, x16, x17])), (h9, .inr (5, [x30, x31, .int 0, x32, x33]))]) (runV (n := 0) (As := []) (rest := [.int 1]) F hP hD hS (a_X8_all_1 l g aC aM h5 h18 x19 x20 x21 x22 x23 x24 x25 x26 x27 x28 x29) [1, 2] (by decide) rfl 1 8 rfl rfl rfl tb715 tb930 tb713 tb714 tb9 ⟨by decide, by decide, by decide +kernel⟩ ⟨Nat.le_of_ble_eq_true rfl, Nat.le_of_ble_eq_true rfl⟩ rfl hl.1 rfl (Nat.le_of_ble_eq_true rfl) dX10_fits_36 ⟨Nat.le_of_ble_eq_true rfl, Nat.le_of_ble_eq_true rfl⟩) hP hD hS hA [1, 2] [0, 3] rfl rfl (by decide) (by decide) (fun r_16 w17 H locs hw hP hD hS => ?_)
  have hP : va_P g vwCl [(h1, .inr (10, [x2, x3, x4, .ref h5, x6, x7, x8, .ref h9, x10, x11, x12, x13, x14, x15, x16, x17])), (h9, .inr (5, [x30, x31, .int 0, x32, x33])), (h5, .inr (8, [.ref h18, x19, x20, x21, x22, x23, x24, x25, x26, x27, x28, x29])), (h18, .inl (aC 0, 5, .inl (fun _ => 0)))] H := hP
  have hD : va_D A [(h1, .inr (10, [x2, x3, x4, .ref h5, x6, x7, x8, .ref h9, x10, x11, x12, x13, x14, x15, x16, x17])), (h9, .inr (5, [x30, x31, .int 0, x32, x33])), (h5, .inr (8, [.ref h18, x19, x20, x21, x22, x23, x24, x25, x26, x27, x28, x29])), (h18, .inl (aC 0, 5, .inl (fun _ => 0)))] := hD
  try dsimp only at hw
  subst hw
  refine lv_icmp_gt (tgt := 98) hx hb dX10_fits_39 (by decide) (fun _ => ?_) (fun c_ => absurd (by decide +kernel) c_)
  refine lv_iload_n hx hb dX10_fits_98 rfl (lv_at hl 6 rfl) ?_
  refine lv_if_ne (tgt := 104) hx hb dX10_fits_99 (by decide) (fun _ => ?_) (fun c_ => absurd c_ (by decide +kernel))
  refine lv_iload_n hx hb dX10_fits_104 rfl (lv_at hl 4 rfl) ?_
  refine lv_if_ne (tgt := 110) hx hb dX10_fits_105 (by decide) (fun _ => ?_) (fun c_ => absurd c_ (by decide +kernel))
  refine lv_iload_n hx hb dX10_fits_110 rfl (lv_at hl 6 rfl) ?_
  refine lv_iconst (v := 1) hx hb dX10_fits_111 (by decide) ?_
  refine lv_icmp_ne (tgt := 119) hx hb dX10_fits_112 (by decide) (fun _ => ?_) (fun c_ => absurd c_ (by decide +kernel))
  refine lv_iload_n hx hb dX10_fits_119 rfl (lv_at hl 6 rfl) ?_
  refine lv_iconst (v := 2) hx hb dX10_fits_120 (by decide) ?_
  refine lv_icmp_ne (tgt := 129) hx hb dX10_fits_121 (by decide) (fun c_ => absurd (by decide +kernel) c_) (fun _ => ?_)
  refine lv_iload hx hb dX10_fits_124 (lv_at hl 2 rfl) ?_
  refine lv_goto (tgt := 131) hx hb dX10_fits_126 (by decide) ?_
  have hP9 := hP.sub (ws' := []) [] rfl
  have hD9 := hD.sub (ws' := []) [] (by decide) rfl
  exact rI () hx hb hr hlk rfl hS rfl hP9 hD9 (Nat.le_of_ble_eq_true rfl) (Nat.le_of_ble_eq_true rfl) dX10_fits_131

set_option maxHeartbeats 4000000 in
set_option maxRecDepth 100000 in
theorem x_fits_3 (l : Launch) (g : va_G) (aC : Nat → ClassId) (aM : Nat → Nat) (h1 h5 h9 h18 : Nat) (x2 x3 x4 x6 x7 x8 x10 x11 x12 x13 x14 x15 x16 x17 x19 x20 x21 x22 x23 x24 x25 x26 x27 x28 x29 x30 x31 x32 x33 : Value) : Ct l g aC aM yX10_fits cX10_fits 7 (some .int) 2 [.ref h1, .int 3] [(h1, .inr (10, [x2, x3, x4, .ref h5, x6, x7, x8, .ref h9, x10, x11, x12, x13, x14, x15, x16, x17])), (h5, .inr (8, [.ref h18, x19, x20, x21, x22, x23, x24, x25, x26, x27, x28, x29])), (h18, .inl (aC 0, 5, .inl (fun _ => 0))), (h9, .inr (5, [x30, x31, .int 0, x32, x33]))] (QI g (fun (r : Int32) (_ : Unit) => r = 0) (fun (_ : Unit) => [])) 0 0 := by
  refine Ct.mk (by decide) (Nat.le_of_ble_eq_true rfl) ?_
  intro p e s m below meth c A ls hx hb hml hown hts hr hlk hnm hK hA hM hM2 hP hD hS hl
  have hown : s.vm.findClass RX10 = some m.cls := hown
  have F : Fx p s m _ c cX10_fits 7 RX10 g aC aM A := ⟨hx, hb, hml, hown, hts, hK, hA, hM, hM2⟩
  have hl : lv_has ls 7 [(0, .ref h1), (1, .int 3)] := hl
  refine lv_iload_n hx hb dX10_fits_0 rfl (lv_at hl 1 rfl) ?_
  refine lv_if_lt (tgt := 9) hx hb dX10_fits_1 (by decide) (fun c_ => absurd c_ (by decide +kernel)) (fun _ => ?_)
  refine lv_iload_n hx hb dX10_fits_4 rfl (lv_at hl 1 rfl) ?_
  refine lv_iconst (v := 3) hx hb dX10_fits_5 (by decide) ?_
  refine lv_icmp_le (tgt := 11) hx hb dX10_fits_6 (by decide) (fun _ => ?_) (fun c_ => absurd (by decide +kernel) c_)
  refine lv_iconst (v := 0) hx hb dX10_fits_11 (by decide) ?_
  refine lv_istore_n (lv' := [(2, .int 0), (0, .ref h1), (1, .int 3)]) hx hb dX10_fits_12 rfl hl (by decide) rfl (fun ls hl => ?_)
  refine lv_aload_n hx hb dX10_fits_13 rfl (lv_at hl 1 rfl) ?_
  refine xget F hP 0 rfl rfl inX10 3 (by decide) tb403 rfl dX10_fits_14 ?_
  refine goI (wr := [(h1, .inr (10, [x2, x3, x4, .ref h5, x6, x7, x8, .ref h9, x10, x11, x12, x13, x14, x15, x16, x17])), (h9, .inr (5, [x30, x31, .int 0, x32, x33]))]) (runV (n := 0) (As := []) (rest := []) F hP hD hS (a_X8_all_1 l g aC aM h5 h18 x19 x20 x21 x22 x23 x24 x25 x26 x27 x28 x29) [1, 2] (by decide) rfl 1 8 rfl rfl rfl tb715 tb930 tb713 tb714 tb9 ⟨by decide, by decide, by decide +kernel⟩ ⟨Nat.le_of_ble_eq_true rfl, Nat.le_of_ble_eq_true rfl⟩ rfl hl.1 rfl (Nat.le_of_ble_eq_true rfl) dX10_fits_17 ⟨Nat.le_of_ble_eq_true rfl, Nat.le_of_ble_eq_true rfl⟩) hP hD hS hA [1, 2] [0, 3] rfl rfl (by decide) (by decide) (fun r_4 w5 H locs hw hP hD hS => ?_)
  have hP : va_P g vwCl [(h1, .inr (10, [x2, x3, x4, .ref h5, x6, x7, x8, .ref h9, x10, x11, x12, x13, x14, x15, x16, x17])), (h9, .inr (5, [x30, x31, .int 0, x32, x33])), (h5, .inr (8, [.ref h18, x19, x20, x21, x22, x23, x24, x25, x26, x27, x28, x29])), (h18, .inl (aC 0, 5, .inl (fun _ => 0)))] H := hP
  have hD : va_D A [(h1, .inr (10, [x2, x3, x4, .ref h5, x6, x7, x8, .ref h9, x10, x11, x12, x13, x14, x15, x16, x17])), (h9, .inr (5, [x30, x31, .int 0, x32, x33])), (h5, .inr (8, [.ref h18, x19, x20, x21, x22, x23, x24, x25, x26, x27, x28, x29])), (h18, .inl (aC 0, 5, .inl (fun _ => 0)))] := hD
  try dsimp only at hw
  subst hw
  refine lv_istore_n (lv' := [(3, .int 0), (2, .int 0), (0, .ref h1), (1, .int 3)]) hx hb dX10_fits_20 rfl hl (by decide) rfl (fun ls hl => ?_)
  refine lv_iconst (v := 0) hx hb dX10_fits_21 (by decide) ?_
  refine lv_istore (lv' := [(4, .int 0), (3, .int 0), (2, .int 0), (0, .ref h1), (1, .int 3)]) hx hb dX10_fits_22 hl (by decide) rfl (fun ls hl => ?_)
  refine lv_iconst (v := (-1)) hx hb dX10_fits_24 (by decide) ?_
  refine lv_istore (lv' := [(5, .int (-1)), (4, .int 0), (3, .int 0), (2, .int 0), (0, .ref h1), (1, .int 3)]) hx hb dX10_fits_25 hl (by decide) rfl (fun ls hl => ?_)
  refine lv_iconst (v := 0) hx hb dX10_fits_27 (by decide) ?_
  refine lv_istore (lv' := [(6, .int 0), (5, .int (-1)), (4, .int 0), (3, .int 0), (2, .int 0), (0, .ref h1), (1, .int 3)]) hx hb dX10_fits_28 hl (by decide) rfl (fun ls hl => ?_)
  refine lv_iload hx hb dX10_fits_30 (lv_at hl 0 rfl) ?_
  refine lv_aload_n hx hb dX10_fits_32 rfl (lv_at hl 5 rfl) ?_
  refine xget F hP 0 rfl rfl inX10 3 (by decide) tb403 rfl dX10_fits_33 ?_
  refine goI (wr := [(h1, .inr (10, [x2, x3, x4, .ref h5, x6, x7, x8, .ref h9, x10, x11, x12, x13, x14, x15, x16, x17])), (h9, .inr (5, [x30, x31, .int 0, x32, x33]))]) (runV (n := 0) (As := []) (rest := [.int 0]) F hP hD hS (a_X8_all_1 l g aC aM h5 h18 x19 x20 x21 x22 x23 x24 x25 x26 x27 x28 x29) [2, 3] (by decide) rfl 2 8 rfl rfl rfl tb715 tb930 tb713 tb714 tb9 ⟨by decide, by decide, by decide +kernel⟩ ⟨Nat.le_of_ble_eq_true rfl, Nat.le_of_ble_eq_true rfl⟩ rfl hl.1 rfl (Nat.le_of_ble_eq_true rfl) dX10_fits_36 ⟨Nat.le_of_ble_eq_true rfl, Nat.le_of_ble_eq_true rfl⟩) hP hD hS hA [2, 3] [0, 1] rfl rfl (by decide) (by decide) (fun r_7 w8 H locs hw hP hD hS => ?_)
  have hP : va_P g vwCl [(h1, .inr (10, [x2, x3, x4, .ref h5, x6, x7, x8, .ref h9, x10, x11, x12, x13, x14, x15, x16, x17])), (h9, .inr (5, [x30, x31, .int 0, x32, x33])), (h5, .inr (8, [.ref h18, x19, x20, x21, x22, x23, x24, x25, x26, x27, x28, x29])), (h18, .inl (aC 0, 5, .inl (fun _ => 0)))] H := hP
  have hD : va_D A [(h1, .inr (10, [x2, x3, x4, .ref h5, x6, x7, x8, .ref h9, x10, x11, x12, x13, x14, x15, x16, x17])), (h9, .inr (5, [x30, x31, .int 0, x32, x33])), (h5, .inr (8, [.ref h18, x19, x20, x21, x22, x23, x24, x25, x26, x27, x28, x29])), (h18, .inl (aC 0, 5, .inl (fun _ => 0)))] := hD
  try dsimp only at hw
  subst hw
  refine lv_icmp_gt (tgt := 98) hx hb dX10_fits_39 (by decide) (fun c_ => absurd c_ (by decide +kernel)) (fun _ => ?_)
  refine lv_aload_n hx hb dX10_fits_42 rfl (lv_at hl 5 rfl) ?_
  refine xget F hP 0 rfl rfl inX10 7 (by decide) tb407 rfl dX10_fits_43 ?_
  refine lv_iload hx hb dX10_fits_46 (lv_at hl 0 rfl) ?_
  refine goI (wr := [(h1, .inr (10, [x2, x3, x4, .ref h5, x6, x7, x8, .ref h9, x10, x11, x12, x13, x14, x15, x16, x17])), (h5, .inr (8, [.ref h18, x19, x20, x21, x22, x23, x24, x25, x26, x27, x28, x29])), (h18, .inl (aC 0, 5, .inl (fun _ => 0)))]) (runV (n := 1) (As := [.int 0]) (rest := []) F hP hD hS (a_X5_isSo_1 l g aC aM h9 x30 x31 x32 x33) [1] (by decide) rfl 1 5 rfl rfl rfl tb954 tb951 tb952 tb953 tb13 ⟨by decide, by decide, by decide +kernel⟩ ⟨Nat.le_of_ble_eq_true rfl, Nat.le_of_ble_eq_true rfl⟩ rfl hl.1 rfl (Nat.le_of_ble_eq_true rfl) dX10_fits_48 ⟨Nat.le_of_ble_eq_true rfl, Nat.le_of_ble_eq_true rfl⟩) hP hD hS hA [1] [0, 2, 3] rfl rfl (by decide) (by decide) (fun r_11 w12 H locs hw hP hD hS => ?_)
  have hP : va_P g vwCl [(h1, .inr (10, [x2, x3, x4, .ref h5, x6, x7, x8, .ref h9, x10, x11, x12, x13, x14, x15, x16, x17])), (h5, .inr (8, [.ref h18, x19, x20, x21, x22, x23, x24, x25, x26, x27, x28, x29])), (h18, .inl (aC 0, 5, .inl (fun _ => 0))), (h9, .inr (5, [x30, x31, .int 0, x32, x33]))] H := hP
  have hD : va_D A [(h1, .inr (10, [x2, x3, x4, .ref h5, x6, x7, x8, .ref h9, x10, x11, x12, x13, x14, x15, x16, x17])), (h5, .inr (8, [.ref h18, x19, x20, x21, x22, x23, x24, x25, x26, x27, x28, x29])), (h18, .inl (aC 0, 5, .inl (fun _ => 0))), (h9, .inr (5, [x30, x31, .int 0, x32, x33]))] := hD
  try dsimp only at hw
  subst hw
  refine lv_if_eq (tgt := 92) hx hb dX10_fits_51 (by decide) (fun c_ => absurd c_ (by decide +kernel)) (fun _ => ?_)
  refine lv_iinc (v := 1) (lv' := [(2, .int 1), (6, .int 0), (5, .int (-1)), (4, .int 0), (3, .int 0), (0, .ref h1), (1, .int 3)]) hx hb dX10_fits_54 hl (k := 4) rfl (by decide +kernel) (by decide) rfl (fun ls hl => ?_)
  refine lv_iload_n hx hb dX10_fits_57 rfl (lv_at hl 4 rfl) ?_
  refine lv_iload hx hb dX10_fits_58 (lv_at hl 1 rfl) ?_
  refine lv_iand hx hb dX10_fits_60 ?_
  refine relit (v := 0) (by decide +kernel) ?_
  refine lv_istore_n (lv' := [(3, .int 0), (2, .int 1), (6, .int 0), (5, .int (-1)), (4, .int 0), (0, .ref h1), (1, .int 3)]) hx hb dX10_fits_61 rfl hl (by decide) rfl (fun ls hl => ?_)
  refine lv_iload hx hb dX10_fits_62 (lv_at hl 4 rfl) ?_
  refine lv_iload hx hb dX10_fits_64 (lv_at hl 2 rfl) ?_
  refine lv_ior hx hb dX10_fits_66 ?_
  refine relit (v := 0) (by decide +kernel) ?_
  refine lv_istore (lv' := [(4, .int 0), (3, .int 0), (2, .int 1), (6, .int 0), (5, .int (-1)), (0, .ref h1), (1, .int 3)]) hx hb dX10_fits_67 hl (by decide) rfl (fun ls hl => ?_)
  refine lv_iload hx hb dX10_fits_69 (lv_at hl 4 rfl) ?_
  refine lv_iconst (v := (-1)) hx hb dX10_fits_71 (by decide) ?_
  refine lv_icmp_eq (tgt := 88) hx hb dX10_fits_72 (by decide) (fun _ => ?_) (fun c_ => absurd (by decide +kernel) c_)
  refine lv_iload hx hb dX10_fits_88 (lv_at hl 3 rfl) ?_
  refine lv_istore (lv' := [(5, .int 0), (4, .int 0), (3, .int 0), (2, .int 1), (6, .int 0), (0, .ref h1), (1, .int 3)]) hx hb dX10_fits_90 hl (by decide) rfl (fun ls hl => ?_)
  refine lv_iinc (v := 1) (lv' := [(6, .int 1), (5, .int 0), (4, .int 0), (3, .int 0), (2, .int 1), (0, .ref h1), (1, .int 3)]) hx hb dX10_fits_92 hl (k := 4) rfl (by decide +kernel) (by decide) rfl (fun ls hl => ?_)
  refine lv_goto (tgt := 30) hx hb dX10_fits_95 (by decide) ?_
  refine lv_iload hx hb dX10_fits_30 (lv_at hl 0 rfl) ?_
  refine lv_aload_n hx hb dX10_fits_32 rfl (lv_at hl 5 rfl) ?_
  refine xget F hP 0 rfl rfl inX10 3 (by decide) tb403 rfl dX10_fits_33 ?_
  refine goI (wr := [(h1, .inr (10, [x2, x3, x4, .ref h5, x6, x7, x8, .ref h9, x10, x11, x12, x13, x14, x15, x16, x17])), (h9, .inr (5, [x30, x31, .int 0, x32, x33]))]) (runV (n := 0) (As := []) (rest := [.int 1]) F hP hD hS (a_X8_all_1 l g aC aM h5 h18 x19 x20 x21 x22 x23 x24 x25 x26 x27 x28 x29) [1, 2] (by decide) rfl 1 8 rfl rfl rfl tb715 tb930 tb713 tb714 tb9 ⟨by decide, by decide, by decide +kernel⟩ ⟨Nat.le_of_ble_eq_true rfl, Nat.le_of_ble_eq_true rfl⟩ rfl hl.1 rfl (Nat.le_of_ble_eq_true rfl) dX10_fits_36 ⟨Nat.le_of_ble_eq_true rfl, Nat.le_of_ble_eq_true rfl⟩) hP hD hS hA [1, 2] [0, 3] rfl rfl (by decide) (by decide) (fun r_16 w17 H locs hw hP hD hS => ?_)
  have hP : va_P g vwCl [(h1, .inr (10, [x2, x3, x4, .ref h5, x6, x7, x8, .ref h9, x10, x11, x12, x13, x14, x15, x16, x17])), (h9, .inr (5, [x30, x31, .int 0, x32, x33])), (h5, .inr (8, [.ref h18, x19, x20, x21, x22, x23, x24, x25, x26, x27, x28, x29])), (h18, .inl (aC 0, 5, .inl (fun _ => 0)))] H := hP
  have hD : va_D A [(h1, .inr (10, [x2, x3, x4, .ref h5, x6, x7, x8, .ref h9, x10, x11, x12, x13, x14, x15, x16, x17])), (h9, .inr (5, [x30, x31, .int 0, x32, x33])), (h5, .inr (8, [.ref h18, x19, x20, x21, x22, x23, x24, x25, x26, x27, x28, x29])), (h18, .inl (aC 0, 5, .inl (fun _ => 0)))] := hD
  try dsimp only at hw
  subst hw
  refine lv_icmp_gt (tgt := 98) hx hb dX10_fits_39 (by decide) (fun _ => ?_) (fun c_ => absurd (by decide +kernel) c_)
  refine lv_iload_n hx hb dX10_fits_98 rfl (lv_at hl 6 rfl) ?_
  refine lv_if_ne (tgt := 104) hx hb dX10_fits_99 (by decide) (fun _ => ?_) (fun c_ => absurd c_ (by decide +kernel))
  refine lv_iload_n hx hb dX10_fits_104 rfl (lv_at hl 4 rfl) ?_
  refine lv_if_ne (tgt := 110) hx hb dX10_fits_105 (by decide) (fun _ => ?_) (fun c_ => absurd c_ (by decide +kernel))
  refine lv_iload_n hx hb dX10_fits_110 rfl (lv_at hl 6 rfl) ?_
  refine lv_iconst (v := 1) hx hb dX10_fits_111 (by decide) ?_
  refine lv_icmp_ne (tgt := 119) hx hb dX10_fits_112 (by decide) (fun _ => ?_) (fun c_ => absurd c_ (by decide +kernel))
  refine lv_iload_n hx hb dX10_fits_119 rfl (lv_at hl 6 rfl) ?_
  refine lv_iconst (v := 2) hx hb dX10_fits_120 (by decide) ?_
  refine lv_icmp_ne (tgt := 129) hx hb dX10_fits_121 (by decide) (fun _ => ?_) (fun c_ => absurd c_ (by decide +kernel))
  refine lv_iload hx hb dX10_fits_129 (lv_at hl 1 rfl) ?_
  have hP9 := hP.sub (ws' := []) [] rfl
  have hD9 := hD.sub (ws' := []) [] (by decide) rfl
  exact rI () hx hb hr hlk rfl hS rfl hP9 hD9 (Nat.le_of_ble_eq_true rfl) (Nat.le_of_ble_eq_true rfl) dX10_fits_131

theorem tb228 : (Jvm.Cond.fieldLink "StairGang$Orders" (29 : Nat) "StairGang$Town" "counts" "[I") ∈ gw := lw_m 228 (by decide +kernel)
theorem tb370 : (Jvm.Cond.fieldLink "StairGang$Orders" (25 : Nat) "StairGang$Orders" "count" "I") ∈ gw := lw_m 370 (by decide +kernel)
theorem dX10_orders_0 : decode cX10_orders 0 = .ok (.iload_n 1, 1) := by decide +kernel
theorem dX10_orders_1 : decode cX10_orders 1 = .ok (.iconst 2, 1) := by decide +kernel
theorem dX10_orders_2 : decode cX10_orders 2 = .ok (.isub, 1) := by decide +kernel
theorem dX10_orders_3 : decode cX10_orders 3 = .ok (.istore_n 2, 1) := by decide +kernel
theorem dX10_orders_4 : decode cX10_orders 4 = .ok (.aload_n 0, 1) := by decide +kernel
theorem dX10_orders_5 : decode cX10_orders 5 = .ok (.getfield 84, 3) := by decide +kernel
theorem dX10_orders_8 : decode cX10_orders 8 = .ok (.aload_n 0, 1) := by decide +kernel
theorem dX10_orders_9 : decode cX10_orders 9 = .ok (.getfield 35, 3) := by decide +kernel
theorem dX10_orders_12 : decode cX10_orders 12 = .ok (.aload_n 0, 1) := by decide +kernel
theorem dX10_orders_13 : decode cX10_orders 13 = .ok (.getfield 35, 3) := by decide +kernel
theorem dX10_orders_16 : decode cX10_orders 16 = .ok (.invokevirtual 212, 3) := by decide +kernel
theorem dX10_orders_19 : decode cX10_orders 19 = .ok (.aload_n 0, 1) := by decide +kernel
theorem dX10_orders_20 : decode cX10_orders 20 = .ok (.getfield 45, 3) := by decide +kernel
theorem dX10_orders_23 : decode cX10_orders 23 = .ok (.getfield 133, 3) := by decide +kernel
theorem dX10_orders_26 : decode cX10_orders 26 = .ok (.iconst (-1), 1) := by decide +kernel
theorem dX10_orders_27 : decode cX10_orders 27 = .ok (.ixor, 1) := by decide +kernel
theorem dX10_orders_28 : decode cX10_orders 28 = .ok (.iand, 1) := by decide +kernel
theorem dX10_orders_29 : decode cX10_orders 29 = .ok (.invokevirtual 241, 3) := by decide +kernel
theorem dX3_choose_0 : decode cX3_choose 0 = .ok (.aload_n 0, 1) := by decide +kernel
theorem dX3_choose_1 : decode cX3_choose 1 = .ok (.iconst 0, 1) := by decide +kernel
theorem dX3_choose_2 : decode cX3_choose 2 = .ok (.putfield 25, 3) := by decide +kernel
theorem dX3_choose_5 : decode cX3_choose 5 = .ok (.iconst 0, 1) := by decide +kernel
theorem dX3_choose_6 : decode cX3_choose 6 = .ok (.istore_n 3, 1) := by decide +kernel
theorem dX3_choose_7 : decode cX3_choose 7 = .ok (.iload_n 3, 1) := by decide +kernel
theorem dX3_choose_8 : decode cX3_choose 8 = .ok (.aload_n 1, 1) := by decide +kernel
theorem dX3_choose_9 : decode cX3_choose 9 = .ok (.getfield 29, 3) := by decide +kernel
theorem dX3_choose_12 : decode cX3_choose 12 = .ok (.iconst 1, 1) := by decide +kernel
theorem dX3_choose_13 : decode cX3_choose 13 = .ok (.iaload, 1) := by decide +kernel
theorem dX3_choose_14 : decode cX3_choose 14 = .ok (.if_icmp .ge 47, 3) := by decide +kernel
theorem dX3_choose_61 : decode cX3_choose 61 = .ok (.return_, 1) := by decide +kernel
set_option maxHeartbeats 4000000 in
set_option maxRecDepth 100000 in
theorem a_X3_choose_1 (l : Launch) (g : va_G) (aC : Nat → ClassId) (aM : Nat → Nat) (h1 h2 h7 : Nat) (x3 x4 x5 x6 x8 x9 x10 x11 x12 x13 x14 x15 x16 x17 x18 : Value) : Ct l g aC aM yX3_choose cX3_choose 4 none 1 [.ref h1, .ref h2, .int 0] [(h1, .inr (3, [.int 0, x3, x4, x5, x6])), (h2, .inr (8, [.ref h7, x8, x9, x10, x11, x12, x13, x14, x15, x16, x17, x18])), (h7, .inl (aC 0, 5, .inl (fun _ => 0)))] (QV g (fun (_ : Unit) => True) (fun (_ : Unit) => [(h1, .inr (3, [.int 0, x3, x4, x5, x6])), (h2, .inr (8, [.ref h7, x8, x9, x10, x11, x12, x13, x14, x15, x16, x17, x18])), (h7, .inl (aC 0, 5, .inl (fun _ => 0)))])) 0 0 := by
  refine Ct.mk (by decide) (Nat.le_of_ble_eq_true rfl) ?_
  intro p e s m below meth c A ls hx hb hml hown hts hr hlk hnm hK hA hM hM2 hP hD hS hl
  have hown : s.vm.findClass RX3 = some m.cls := hown
  have F : Fx p s m _ c cX3_choose 4 RX3 g aC aM A := ⟨hx, hb, hml, hown, hts, hK, hA, hM, hM2⟩
  have hl : lv_has ls 4 [(0, .ref h1), (1, .ref h2), (2, .int 0)] := hl
  refine lv_aload_n hx hb dX3_choose_0 rfl (lv_at hl 0 rfl) ?_
  refine lv_iconst (v := 0) hx hb dX3_choose_1 (by decide) ?_
  refine xput F hP hD hS 0 rfl rfl inX3 tyX3_ok nmX3 0 (by decide) tb370 rfl rfl rfl (Nat.le_of_ble_eq_true rfl) dX3_choose_2 (fun H locs hP hD hS => ?_)
  have hP : va_P g vwCl [(h1, .inr (3, [.int 0, x3, x4, x5, x6])), (h2, .inr (8, [.ref h7, x8, x9, x10, x11, x12, x13, x14, x15, x16, x17, x18])), (h7, .inl (aC 0, 5, .inl (fun _ => 0)))] H := hP
  have hD : va_D A [(h1, .inr (3, [.int 0, x3, x4, x5, x6])), (h2, .inr (8, [.ref h7, x8, x9, x10, x11, x12, x13, x14, x15, x16, x17, x18])), (h7, .inl (aC 0, 5, .inl (fun _ => 0)))] := hD
  refine lv_iconst (v := 0) hx hb dX3_choose_5 (by decide) ?_
  refine lv_istore_n (lv' := [(3, .int 0), (0, .ref h1), (1, .ref h2), (2, .int 0)]) hx hb dX3_choose_6 rfl hl (by decide) rfl (fun ls hl => ?_)
  refine lv_iload_n hx hb dX3_choose_7 rfl (lv_at hl 0 rfl) ?_
  refine lv_aload_n hx hb dX3_choose_8 rfl (lv_at hl 2 rfl) ?_
  refine xget F hP 1 rfl rfl inX8 0 (by decide) tb228 rfl dX3_choose_9 ?_
  refine lv_iconst (v := 1) hx hb dX3_choose_12 (by decide) ?_
  refine xilo (v := 0) F hP 2 rfl 1 (by decide +kernel) (by decide +kernel) (by decide) (by decide +kernel) dX3_choose_13 ?_
  refine lv_icmp_ge (tgt := 61) hx hb dX3_choose_14 (by decide) (fun _ => ?_) (fun c_ => absurd (by decide +kernel) c_)
  have hP9 := hP.sub (ws' := [(h1, .inr (3, [.int 0, x3, x4, x5, x6])), (h2, .inr (8, [.ref h7, x8, x9, x10, x11, x12, x13, x14, x15, x16, x17, x18])), (h7, .inl (aC 0, 5, .inl (fun _ => 0)))]) [0, 1, 2] rfl
  have hD9 := hD.sub (ws' := [(h1, .inr (3, [.int 0, x3, x4, x5, x6])), (h2, .inr (8, [.ref h7, x8, x9, x10, x11, x12, x13, x14, x15, x16, x17, x18])), (h7, .inl (aC 0, 5, .inl (fun _ => 0)))]) [0, 1, 2] (by decide) rfl
  exact rV () hx hb hr hlk hS trivial hP9 hD9 (Nat.le_of_ble_eq_true rfl) (Nat.le_of_ble_eq_true rfl) dX3_choose_61

theorem tb371 : (Jvm.Cond.fieldLink "StairGang" (245 : Nat) "StairGang$Orders" "count" "I") ∈ gw := lw_m 371 (by decide +kernel)
theorem tb959 : (Jvm.Cond.methodLink "StairGang" (241 : Nat) ({ cls := "StairGang$Orders", name := "choose", desc := "(LStairGang$Town;I)V" } : Jvm.MethodName)) ∈ gw := lw_m 959 (by decide +kernel)
theorem tb960 : (Jvm.Cond.instanceMethod ({ cls := "StairGang$Orders", name := "choose", desc := "(LStairGang$Town;I)V" } : Jvm.MethodName)) ∈ gw := lw_m 960 (by decide +kernel)
theorem tb961 : (Jvm.Cond.selects "StairGang$Orders" ({ cls := "StairGang$Orders", name := "choose", desc := "(LStairGang$Town;I)V" } : Jvm.MethodName) ({ cls := "StairGang$Orders", name := "choose", desc := "(LStairGang$Town;I)V" } : Jvm.MethodName)) ∈ gw := lw_m 961 (by decide +kernel)
theorem tb962 : (Jvm.Cond.code ({ cls := "StairGang$Orders", name := "choose", desc := "(LStairGang$Town;I)V" } : Jvm.MethodName) prog_5_method_2_code (4 : Nat) (Option.none : Option Jvm.ClassFile.FieldType)) ∈ gw := lw_m 962 (by decide +kernel)
theorem dX10_orders_32 : decode cX10_orders 32 = .ok (.iload_n 1, 1) := by decide +kernel
theorem dX10_orders_33 : decode cX10_orders 33 = .ok (.ifCond .lt 14, 3) := by decide +kernel
theorem dX10_orders_36 : decode cX10_orders 36 = .ok (.iload_n 2, 1) := by decide +kernel
theorem dX10_orders_37 : decode cX10_orders 37 = .ok (.aload_n 0, 1) := by decide +kernel
theorem dX10_orders_38 : decode cX10_orders 38 = .ok (.getfield 84, 3) := by decide +kernel
theorem dX10_orders_41 : decode cX10_orders 41 = .ok (.getfield 245, 3) := by decide +kernel
theorem dX10_orders_44 : decode cX10_orders 44 = .ok (.if_icmp .lt 6, 3) := by decide +kernel
theorem dX10_orders_47 : decode cX10_orders 47 = .ok (.bipush (-2), 2) := by decide +kernel
theorem dX10_orders_49 : decode cX10_orders 49 = .ok (.ireturn, 1) := by decide +kernel
theorem dX10_orders_50 : decode cX10_orders 50 = .ok (.aload_n 0, 1) := by decide +kernel
theorem dX10_orders_51 : decode cX10_orders 51 = .ok (.getfield 84, 3) := by decide +kernel
theorem dX10_orders_54 : decode cX10_orders 54 = .ok (.aload_n 0, 1) := by decide +kernel
theorem dX10_orders_55 : decode cX10_orders 55 = .ok (.getfield 35, 3) := by decide +kernel
theorem dX10_orders_58 : decode cX10_orders 58 = .ok (.invokevirtual 246, 3) := by decide +kernel
theorem dX3_fillSums_0 : decode cX3_fillSums 0 = .ok (.iconst 1, 1) := by decide +kernel
theorem dX3_fillSums_1 : decode cX3_fillSums 1 = .ok (.istore_n 2, 1) := by decide +kernel
theorem dX3_fillSums_2 : decode cX3_fillSums 2 = .ok (.aload_n 0, 1) := by decide +kernel
theorem dX3_fillSums_3 : decode cX3_fillSums 3 = .ok (.getfield 25, 3) := by decide +kernel
theorem dX3_fillSums_6 : decode cX3_fillSums 6 = .ok (.iconst 1, 1) := by decide +kernel
theorem dX3_fillSums_7 : decode cX3_fillSums 7 = .ok (.isub, 1) := by decide +kernel
theorem dX3_fillSums_8 : decode cX3_fillSums 8 = .ok (.istore_n 3, 1) := by decide +kernel
theorem dX3_fillSums_9 : decode cX3_fillSums 9 = .ok (.iload_n 3, 1) := by decide +kernel
theorem dX3_fillSums_10 : decode cX3_fillSums 10 = .ok (.ifCond .lt 95, 3) := by decide +kernel
theorem dX3_fillSums_105 : decode cX3_fillSums 105 = .ok (.return_, 1) := by decide +kernel
theorem dX3_pack_0 : decode cX3_pack 0 = .ok (.aload_n 0, 1) := by decide +kernel
theorem dX3_pack_1 : decode cX3_pack 1 = .ok (.aload_n 1, 1) := by decide +kernel
theorem dX3_pack_2 : decode cX3_pack 2 = .ok (.invokevirtual 34, 3) := by decide +kernel
set_option maxHeartbeats 4000000 in
set_option maxRecDepth 100000 in
theorem a_X3_fillSums_1 (l : Launch) (g : va_G) (aC : Nat → ClassId) (aM : Nat → Nat) (h1 h2 : Nat) (x3 x4 x5 x6 : Value) : Ct l g aC aM yX3_fillSums cX3_fillSums 7 none 1 [.ref h1, .ref h2] [(h1, .inr (3, [.int 0, x3, x4, x5, x6]))] (QV g (fun (_ : Unit) => True) (fun (_ : Unit) => [(h1, .inr (3, [.int 0, x3, x4, x5, x6]))])) 0 0 := by
  refine Ct.mk (by decide) (Nat.le_of_ble_eq_true rfl) ?_
  intro p e s m below meth c A ls hx hb hml hown hts hr hlk hnm hK hA hM hM2 hP hD hS hl
  have hown : s.vm.findClass RX3 = some m.cls := hown
  have F : Fx p s m _ c cX3_fillSums 7 RX3 g aC aM A := ⟨hx, hb, hml, hown, hts, hK, hA, hM, hM2⟩
  have hl : lv_has ls 7 [(0, .ref h1), (1, .ref h2)] := hl
  refine lv_iconst (v := 1) hx hb dX3_fillSums_0 (by decide) ?_
  refine lv_istore_n (lv' := [(2, .int 1), (0, .ref h1), (1, .ref h2)]) hx hb dX3_fillSums_1 rfl hl (by decide) rfl (fun ls hl => ?_)
  refine lv_aload_n hx hb dX3_fillSums_2 rfl (lv_at hl 1 rfl) ?_
  refine xget F hP 0 rfl rfl inX3 0 (by decide) tb370 rfl dX3_fillSums_3 ?_
  refine lv_iconst (v := 1) hx hb dX3_fillSums_6 (by decide) ?_
  refine lv_isub hx hb dX3_fillSums_7 ?_
  refine relit (v := (-1)) (by decide +kernel) ?_
  refine lv_istore_n (lv' := [(3, .int (-1)), (2, .int 1), (0, .ref h1), (1, .ref h2)]) hx hb dX3_fillSums_8 rfl hl (by decide) rfl (fun ls hl => ?_)
  refine lv_iload_n hx hb dX3_fillSums_9 rfl (lv_at hl 0 rfl) ?_
  refine lv_if_lt (tgt := 105) hx hb dX3_fillSums_10 (by decide) (fun _ => ?_) (fun c_ => absurd (by decide +kernel) c_)
  have hP9 := hP.sub (ws' := [(h1, .inr (3, [.int 0, x3, x4, x5, x6]))]) [0] rfl
  have hD9 := hD.sub (ws' := [(h1, .inr (3, [.int 0, x3, x4, x5, x6]))]) [0] (by decide) rfl
  exact rV () hx hb hr hlk hS trivial hP9 hD9 (Nat.le_of_ble_eq_true rfl) (Nat.le_of_ble_eq_true rfl) dX3_fillSums_105

theorem tb967 : (Jvm.Cond.methodLink "StairGang$Orders" (34 : Nat) ({ cls := "StairGang$Orders", name := "fillSums", desc := "(LStairGang$Town;)V" } : Jvm.MethodName)) ∈ gw := lw_m 967 (by decide +kernel)
theorem tb969 : (Jvm.Cond.instanceMethod ({ cls := "StairGang$Orders", name := "fillSums", desc := "(LStairGang$Town;)V" } : Jvm.MethodName)) ∈ gw := lw_m 969 (by decide +kernel)
theorem tb970 : (Jvm.Cond.code ({ cls := "StairGang$Orders", name := "fillSums", desc := "(LStairGang$Town;)V" } : Jvm.MethodName) prog_5_method_4_code (7 : Nat) (Option.none : Option Jvm.ClassFile.FieldType)) ∈ gw := lw_m 970 (by decide +kernel)
theorem tb971 : (Jvm.Cond.constantLong "StairGang$Orders" (38 : Nat) (-4 : Int64)) ∈ gw := lw_m 971 (by decide +kernel)
theorem tv21 : Cond.selects "StairGang$Orders" ⟨"StairGang$Orders", "fillSums", "(LStairGang$Town;)V"⟩ ⟨"StairGang$Orders", "fillSums", "(LStairGang$Town;)V"⟩ ∈ gw := lw_v 21 (by decide +kernel)
theorem dX3_pack_5 : decode cX3_pack 5 = .ok (.iconst 0, 1) := by decide +kernel
theorem dX3_pack_6 : decode cX3_pack 6 = .ok (.istore_n 2, 1) := by decide +kernel
theorem dX3_pack_7 : decode cX3_pack 7 = .ok (.iload_n 2, 1) := by decide +kernel
theorem dX3_pack_8 : decode cX3_pack 8 = .ok (.iconst 1, 1) := by decide +kernel
theorem dX3_pack_9 : decode cX3_pack 9 = .ok (.aload_n 0, 1) := by decide +kernel
theorem dX3_pack_10 : decode cX3_pack 10 = .ok (.getfield 25, 3) := by decide +kernel
theorem dX3_pack_13 : decode cX3_pack 13 = .ok (.ishl, 1) := by decide +kernel
theorem dX3_pack_14 : decode cX3_pack 14 = .ok (.if_icmp .ge 26, 3) := by decide +kernel
theorem dX3_pack_17 : decode cX3_pack 17 = .ok (.aload_n 0, 1) := by decide +kernel
theorem dX3_pack_18 : decode cX3_pack 18 = .ok (.getfield 21, 3) := by decide +kernel
theorem dX3_pack_21 : decode cX3_pack 21 = .ok (.iload_n 2, 1) := by decide +kernel
theorem dX3_pack_22 : decode cX3_pack 22 = .ok (.ldc2_w 38, 3) := by decide +kernel
theorem dX3_pack_25 : decode cX3_pack 25 = .ok (.aload_n 0, 1) := by decide +kernel
theorem dX3_pack_26 : decode cX3_pack 26 = .ok (.getfield 18, 3) := by decide +kernel
theorem dX3_pack_29 : decode cX3_pack 29 = .ok (.iload_n 2, 1) := by decide +kernel
theorem dX3_pack_30 : decode cX3_pack 30 = .ok (.iaload, 1) := by decide +kernel
theorem dX3_pack_31 : decode cX3_pack 31 = .ok (.i2l, 1) := by decide +kernel
theorem dX3_pack_32 : decode cX3_pack 32 = .ok (.lmul, 1) := by decide +kernel
theorem dX3_pack_33 : decode cX3_pack 33 = .ok (.lastore, 1) := by decide +kernel
theorem dX3_pack_34 : decode cX3_pack 34 = .ok (.iinc 2 1, 3) := by decide +kernel
theorem dX3_pack_37 : decode cX3_pack 37 = .ok (.goto (-30), 3) := by decide +kernel
theorem dX3_pack_40 : decode cX3_pack 40 = .ok (.aload_n 1, 1) := by decide +kernel
theorem dX3_pack_41 : decode cX3_pack 41 = .ok (.getfield 29, 3) := by decide +kernel
theorem dX3_pack_44 : decode cX3_pack 44 = .ok (.iconst 4, 1) := by decide +kernel
theorem dX3_pack_45 : decode cX3_pack 45 = .ok (.iaload, 1) := by decide +kernel
theorem dX3_pack_46 : decode cX3_pack 46 = .ok (.iconst 1, 1) := by decide +kernel
theorem dX3_pack_47 : decode cX3_pack 47 = .ok (.isub, 1) := by decide +kernel
theorem dX3_pack_48 : decode cX3_pack 48 = .ok (.istore_n 2, 1) := by decide +kernel
theorem dX3_pack_49 : decode cX3_pack 49 = .ok (.iload_n 2, 1) := by decide +kernel
theorem dX3_pack_50 : decode cX3_pack 50 = .ok (.ifCond .lt 41, 3) := by decide +kernel
theorem dX3_pack_91 : decode cX3_pack 91 = .ok (.return_, 1) := by decide +kernel
set_option maxHeartbeats 4000000 in
set_option maxRecDepth 100000 in
theorem a_X3_pack_1 (l : Launch) (g : va_G) (aC : Nat → ClassId) (aM : Nat → Nat) (h1 h2 h3 h4 h7 : Nat) (x5 x6 x8 x9 x10 x11 x12 x13 x14 x15 x16 x17 x18 : Value) : Ct l g aC aM yX3_pack cX3_pack 4 none 2 [.ref h1, .ref h2] [(h3, .inl (aC 0, 128, .inl (fun _ => 0))), (h4, .inl (aC 1, 128, .inr (.inl (fun _ => 0)))), (h1, .inr (3, [.int 0, x5, x6, .ref h3, .ref h4])), (h2, .inr (8, [.ref h7, x8, x9, x10, x11, x12, x13, x14, x15, x16, x17, x18])), (h7, .inl (aC 0, 5, .inl (fun _ => 0)))] (QV g (fun (_ : Unit) => True) (fun (_ : Unit) => [(h3, .inl (aC 0, 128, .inl (fun _ => 0))), (h4, .inl (aC 1, 128, .inr (.inl (fun _ => 0)))), (h2, .inr (8, [.ref h7, x8, x9, x10, x11, x12, x13, x14, x15, x16, x17, x18])), (h7, .inl (aC 0, 5, .inl (fun _ => 0))), (h1, .inr (3, [.int 0, x5, x6, .ref h3, .ref h4]))])) 0 0 := by
  refine Ct.mk (by decide) (Nat.le_of_ble_eq_true rfl) ?_
  intro p e s m below meth c A ls hx hb hml hown hts hr hlk hnm hK hA hM hM2 hP hD hS hl
  have hown : s.vm.findClass RX3 = some m.cls := hown
  have F : Fx p s m _ c cX3_pack 4 RX3 g aC aM A := ⟨hx, hb, hml, hown, hts, hK, hA, hM, hM2⟩
  have hl : lv_has ls 4 [(0, .ref h1), (1, .ref h2)] := hl
  refine lv_aload_n hx hb dX3_pack_0 rfl (lv_at hl 0 rfl) ?_
  refine lv_aload_n hx hb dX3_pack_1 rfl (lv_at hl 1 rfl) ?_
  refine goV (wr := [(h3, .inl (aC 0, 128, .inl (fun _ => 0))), (h4, .inl (aC 1, 128, .inr (.inl (fun _ => 0)))), (h2, .inr (8, [.ref h7, x8, x9, x10, x11, x12, x13, x14, x15, x16, x17, x18])), (h7, .inl (aC 0, 5, .inl (fun _ => 0)))]) (runV (n := 1) (As := [.ref h2]) (rest := []) F hP hD hS (a_X3_fillSums_1 l g aC aM h1 h2 x5 x6 (.ref h3) (.ref h4)) [2] (by decide) rfl 2 3 rfl rfl rfl tb970 tb967 tb969 tv21 tb15 ⟨by decide, by decide, by decide +kernel⟩ ⟨Nat.le_of_ble_eq_true rfl, Nat.le_of_ble_eq_true rfl⟩ rfl hl.1 rfl (Nat.le_of_ble_eq_true rfl) dX3_pack_2 ⟨Nat.le_of_ble_eq_true rfl, Nat.le_of_ble_eq_true rfl⟩) hP hD hS hA [2] [0, 1, 3, 4] rfl rfl (by decide) (by decide) (fun w3 H locs hw hP hD hS => ?_)
  have hP : va_P g vwCl [(h3, .inl (aC 0, 128, .inl (fun _ => 0))), (h4, .inl (aC 1, 128, .inr (.inl (fun _ => 0)))), (h2, .inr (8, [.ref h7, x8, x9, x10, x11, x12, x13, x14, x15, x16, x17, x18])), (h7, .inl (aC 0, 5, .inl (fun _ => 0))), (h1, .inr (3, [.int 0, x5, x6, .ref h3, .ref h4]))] H := hP
  have hD : va_D A [(h3, .inl (aC 0, 128, .inl (fun _ => 0))), (h4, .inl (aC 1, 128, .inr (.inl (fun _ => 0)))), (h2, .inr (8, [.ref h7, x8, x9, x10, x11, x12, x13, x14, x15, x16, x17, x18])), (h7, .inl (aC 0, 5, .inl (fun _ => 0))), (h1, .inr (3, [.int 0, x5, x6, .ref h3, .ref h4]))] := hD
  refine lv_iconst (v := 0) hx hb dX3_pack_5 (by decide) ?_
  refine lv_istore_n (lv' := [(2, .int 0), (0, .ref h1), (1, .ref h2)]) hx hb dX3_pack_6 rfl hl (by decide) rfl (fun ls hl => ?_)
  refine lv_iload_n hx hb dX3_pack_7 rfl (lv_at hl 0 rfl) ?_
  refine lv_iconst (v := 1) hx hb dX3_pack_8 (by decide) ?_
  refine lv_aload_n hx hb dX3_pack_9 rfl (lv_at hl 1 rfl) ?_
  refine xget F hP 4 rfl rfl inX3 0 (by decide) tb370 rfl dX3_pack_10 ?_
  refine lv_ishl hx hb dX3_pack_13 ?_
  refine relit (v := 1) (by decide +kernel) ?_
  refine lv_icmp_ge (tgt := 40) hx hb dX3_pack_14 (by decide) (fun c_ => absurd c_ (by decide +kernel)) (fun _ => ?_)
  refine lv_aload_n hx hb dX3_pack_17 rfl (lv_at hl 1 rfl) ?_
  refine xget F hP 4 rfl rfl inX3 4 (by decide) tb375 rfl dX3_pack_18 ?_
  refine lv_iload_n hx hb dX3_pack_21 rfl (lv_at hl 0 rfl) ?_
  refine lv_ldc2 (v := (-4)) hx hb hown (hts _ tb971) dX3_pack_22 ?_
  refine lv_aload_n hx hb dX3_pack_25 rfl (lv_at hl 1 rfl) ?_
  refine xget F hP 4 rfl rfl inX3 3 (by decide) tb374 rfl dX3_pack_26 ?_
  refine lv_iload_n hx hb dX3_pack_29 rfl (lv_at hl 0 rfl) ?_
  refine xilo (v := 0) F hP 0 rfl 0 (by decide +kernel) (by decide +kernel) (by decide) (by decide +kernel) dX3_pack_30 ?_
  refine lv_i2l (v := 0) hx hb dX3_pack_31 (by decide +kernel) ?_
  refine lv_lmul hx hb dX3_pack_32 ?_
  refine relitL (v := 0) (by decide +kernel) ?_
  refine xlst (f' := fun _ => 0) F hP hD hS 1 rfl 0 (by decide +kernel) (by decide +kernel) (by decide) (xup0L _) dX3_pack_33 (fun H locs hP hD hS => ?_)
  have hP : va_P g vwCl [(h3, .inl (aC 0, 128, .inl (fun _ => 0))), (h4, .inl (aC 1, 128, .inr (.inl (fun _ => 0)))), (h2, .inr (8, [.ref h7, x8, x9, x10, x11, x12, x13, x14, x15, x16, x17, x18])), (h7, .inl (aC 0, 5, .inl (fun _ => 0))), (h1, .inr (3, [.int 0, x5, x6, .ref h3, .ref h4]))] H := hP
  have hD : va_D A [(h3, .inl (aC 0, 128, .inl (fun _ => 0))), (h4, .inl (aC 1, 128, .inr (.inl (fun _ => 0)))), (h2, .inr (8, [.ref h7, x8, x9, x10, x11, x12, x13, x14, x15, x16, x17, x18])), (h7, .inl (aC 0, 5, .inl (fun _ => 0))), (h1, .inr (3, [.int 0, x5, x6, .ref h3, .ref h4]))] := hD
  refine lv_iinc (v := 1) (lv' := [(2, .int 1), (0, .ref h1), (1, .ref h2)]) hx hb dX3_pack_34 hl (k := 0) rfl (by decide +kernel) (by decide) rfl (fun ls hl => ?_)
  refine lv_goto (tgt := 7) hx hb dX3_pack_37 (by decide) ?_
  refine lv_iload_n hx hb dX3_pack_7 rfl (lv_at hl 0 rfl) ?_
  refine lv_iconst (v := 1) hx hb dX3_pack_8 (by decide) ?_
  refine lv_aload_n hx hb dX3_pack_9 rfl (lv_at hl 1 rfl) ?_
  refine xget F hP 4 rfl rfl inX3 0 (by decide) tb370 rfl dX3_pack_10 ?_
  refine lv_ishl hx hb dX3_pack_13 ?_
  refine relit (v := 1) (by decide +kernel) ?_
  refine lv_icmp_ge (tgt := 40) hx hb dX3_pack_14 (by decide) (fun _ => ?_) (fun c_ => absurd (by decide +kernel) c_)
  refine lv_aload_n hx hb dX3_pack_40 rfl (lv_at hl 2 rfl) ?_
  refine xget F hP 2 rfl rfl inX8 0 (by decide) tb228 rfl dX3_pack_41 ?_
  refine lv_iconst (v := 4) hx hb dX3_pack_44 (by decide) ?_
  refine xilo (v := 0) F hP 3 rfl 4 (by decide +kernel) (by decide +kernel) (by decide) (by decide +kernel) dX3_pack_45 ?_
  refine lv_iconst (v := 1) hx hb dX3_pack_46 (by decide) ?_
  refine lv_isub hx hb dX3_pack_47 ?_
  refine relit (v := (-1)) (by decide +kernel) ?_
  refine lv_istore_n (lv' := [(2, .int (-1)), (0, .ref h1), (1, .ref h2)]) hx hb dX3_pack_48 rfl hl (by decide) rfl (fun ls hl => ?_)
  refine lv_iload_n hx hb dX3_pack_49 rfl (lv_at hl 0 rfl) ?_
  refine lv_if_lt (tgt := 91) hx hb dX3_pack_50 (by decide) (fun _ => ?_) (fun c_ => absurd (by decide +kernel) c_)
  have hP9 := hP.sub (ws' := [(h3, .inl (aC 0, 128, .inl (fun _ => 0))), (h4, .inl (aC 1, 128, .inr (.inl (fun _ => 0)))), (h2, .inr (8, [.ref h7, x8, x9, x10, x11, x12, x13, x14, x15, x16, x17, x18])), (h7, .inl (aC 0, 5, .inl (fun _ => 0))), (h1, .inr (3, [.int 0, x5, x6, .ref h3, .ref h4]))]) [0, 1, 2, 3, 4] rfl
  have hD9 := hD.sub (ws' := [(h3, .inl (aC 0, 128, .inl (fun _ => 0))), (h4, .inl (aC 1, 128, .inr (.inl (fun _ => 0)))), (h2, .inr (8, [.ref h7, x8, x9, x10, x11, x12, x13, x14, x15, x16, x17, x18])), (h7, .inl (aC 0, 5, .inl (fun _ => 0))), (h1, .inr (3, [.int 0, x5, x6, .ref h3, .ref h4]))]) [0, 1, 2, 3, 4] (by decide) rfl
  exact rV () hx hb hr hlk hS trivial hP9 hD9 (Nat.le_of_ble_eq_true rfl) (Nat.le_of_ble_eq_true rfl) dX3_pack_91

theorem tb963 : (Jvm.Cond.methodLink "StairGang" (246 : Nat) ({ cls := "StairGang$Orders", name := "pack", desc := "(LStairGang$Town;)V" } : Jvm.MethodName)) ∈ gw := lw_m 963 (by decide +kernel)
theorem tb964 : (Jvm.Cond.instanceMethod ({ cls := "StairGang$Orders", name := "pack", desc := "(LStairGang$Town;)V" } : Jvm.MethodName)) ∈ gw := lw_m 964 (by decide +kernel)
theorem tb965 : (Jvm.Cond.selects "StairGang$Orders" ({ cls := "StairGang$Orders", name := "pack", desc := "(LStairGang$Town;)V" } : Jvm.MethodName) ({ cls := "StairGang$Orders", name := "pack", desc := "(LStairGang$Town;)V" } : Jvm.MethodName)) ∈ gw := lw_m 965 (by decide +kernel)
theorem tb966 : (Jvm.Cond.code ({ cls := "StairGang$Orders", name := "pack", desc := "(LStairGang$Town;)V" } : Jvm.MethodName) prog_5_method_3_code (4 : Nat) (Option.none : Option Jvm.ClassFile.FieldType)) ∈ gw := lw_m 966 (by decide +kernel)
theorem dX10_orders_61 : decode cX10_orders 61 = .ok (.iload_n 1, 1) := by decide +kernel
theorem dX10_orders_62 : decode cX10_orders 62 = .ok (.ifCond .ne 11, 3) := by decide +kernel
theorem dX10_orders_65 : decode cX10_orders 65 = .ok (.aload_n 0, 1) := by decide +kernel
theorem dX10_orders_66 : decode cX10_orders 66 = .ok (.getfield 84, 3) := by decide +kernel
theorem dX10_orders_69 : decode cX10_orders 69 = .ok (.invokevirtual 249, 3) := by decide +kernel
theorem dX3_pay_0 : decode cX3_pay 0 = .ok (.aload_n 0, 1) := by decide +kernel
theorem dX3_pay_1 : decode cX3_pay 1 = .ok (.invokevirtual 61, 3) := by decide +kernel
theorem dX3_whole_0 : decode cX3_whole 0 = .ok (.aload_n 0, 1) := by decide +kernel
theorem dX3_whole_1 : decode cX3_whole 1 = .ok (.getfield 21, 3) := by decide +kernel
theorem dX3_whole_4 : decode cX3_whole 4 = .ok (.iconst 1, 1) := by decide +kernel
theorem dX3_whole_5 : decode cX3_whole 5 = .ok (.aload_n 0, 1) := by decide +kernel
theorem dX3_whole_6 : decode cX3_whole 6 = .ok (.getfield 25, 3) := by decide +kernel
theorem dX3_whole_9 : decode cX3_whole 9 = .ok (.ishl, 1) := by decide +kernel
theorem dX3_whole_10 : decode cX3_whole 10 = .ok (.iconst 1, 1) := by decide +kernel
theorem dX3_whole_11 : decode cX3_whole 11 = .ok (.isub, 1) := by decide +kernel
theorem dX3_whole_12 : decode cX3_whole 12 = .ok (.laload, 1) := by decide +kernel
theorem dX3_whole_13 : decode cX3_whole 13 = .ok (.lreturn, 1) := by decide +kernel
set_option maxHeartbeats 4000000 in
set_option maxRecDepth 100000 in
theorem a_X3_whole_1 (l : Launch) (g : va_G) (aC : Nat → ClassId) (aM : Nat → Nat) (h1 h2 : Nat) (x3 x4 x5 : Value) : Ct l g aC aM yX3_whole cX3_whole 1 (some .long) 1 [.ref h1] [(h2, .inl (aC 1, 128, .inr (.inl (fun _ => 0)))), (h1, .inr (3, [.int 0, x3, x4, x5, .ref h2]))] (QL g (fun (r : Int64) (_ : Unit) => r = 0) (fun (_ : Unit) => [(h2, .inl (aC 1, 128, .inr (.inl (fun _ => 0)))), (h1, .inr (3, [.int 0, x3, x4, x5, .ref h2]))])) 0 0 := by
  refine Ct.mk (by decide) (Nat.le_of_ble_eq_true rfl) ?_
  intro p e s m below meth c A ls hx hb hml hown hts hr hlk hnm hK hA hM hM2 hP hD hS hl
  have hown : s.vm.findClass RX3 = some m.cls := hown
  have F : Fx p s m _ c cX3_whole 1 RX3 g aC aM A := ⟨hx, hb, hml, hown, hts, hK, hA, hM, hM2⟩
  have hl : lv_has ls 1 [(0, .ref h1)] := hl
  refine lv_aload_n hx hb dX3_whole_0 rfl (lv_at hl 0 rfl) ?_
  refine xget F hP 1 rfl rfl inX3 4 (by decide) tb375 rfl dX3_whole_1 ?_
  refine lv_iconst (v := 1) hx hb dX3_whole_4 (by decide) ?_
  refine lv_aload_n hx hb dX3_whole_5 rfl (lv_at hl 0 rfl) ?_
  refine xget F hP 1 rfl rfl inX3 0 (by decide) tb370 rfl dX3_whole_6 ?_
  refine lv_ishl hx hb dX3_whole_9 ?_
  refine relit (v := 1) (by decide +kernel) ?_
  refine lv_iconst (v := 1) hx hb dX3_whole_10 (by decide) ?_
  refine lv_isub hx hb dX3_whole_11 ?_
  refine relit (v := 0) (by decide +kernel) ?_
  refine xllo (v := 0) F hP 0 rfl 0 (by decide +kernel) (by decide +kernel) (by decide) (by decide +kernel) dX3_whole_12 ?_
  have hP9 := hP.sub (ws' := [(h2, .inl (aC 1, 128, .inr (.inl (fun _ => 0)))), (h1, .inr (3, [.int 0, x3, x4, x5, .ref h2]))]) [0, 1] rfl
  have hD9 := hD.sub (ws' := [(h2, .inl (aC 1, 128, .inr (.inl (fun _ => 0)))), (h1, .inr (3, [.int 0, x3, x4, x5, .ref h2]))]) [0, 1] (by decide) rfl
  exact rL () hx hb hr hlk hS rfl hP9 hD9 (Nat.le_of_ble_eq_true rfl) (Nat.le_of_ble_eq_true rfl) dX3_whole_13

theorem tb976 : (Jvm.Cond.constantLong "StairGang$Orders" (51 : Nat) (67108864 : Int64)) ∈ gw := lw_m 976 (by decide +kernel)
theorem tb985 : (Jvm.Cond.methodLink "StairGang$Orders" (61 : Nat) ({ cls := "StairGang$Orders", name := "whole", desc := "()J" } : Jvm.MethodName)) ∈ gw := lw_m 985 (by decide +kernel)
theorem tb987 : (Jvm.Cond.instanceMethod ({ cls := "StairGang$Orders", name := "whole", desc := "()J" } : Jvm.MethodName)) ∈ gw := lw_m 987 (by decide +kernel)
theorem tb988 : (Jvm.Cond.code ({ cls := "StairGang$Orders", name := "whole", desc := "()J" } : Jvm.MethodName) prog_5_method_6_code (1 : Nat) (Option.some Jvm.ClassFile.FieldType.long)) ∈ gw := lw_m 988 (by decide +kernel)
theorem tv23 : Cond.selects "StairGang$Orders" ⟨"StairGang$Orders", "whole", "()J"⟩ ⟨"StairGang$Orders", "whole", "()J"⟩ ∈ gw := lw_v 23 (by decide +kernel)
theorem dX3_pay_4 : decode cX3_pay 4 = .ok (.ldc2_w 51, 3) := by decide +kernel
theorem dX3_pay_7 : decode cX3_pay 7 = .ok (.ladd, 1) := by decide +kernel
theorem dX3_pay_8 : decode cX3_pay 8 = .ok (.lconst 1, 1) := by decide +kernel
theorem dX3_pay_9 : decode cX3_pay 9 = .ok (.lsub, 1) := by decide +kernel
theorem dX3_pay_10 : decode cX3_pay 10 = .ok (.ldc2_w 51, 3) := by decide +kernel
theorem dX3_pay_13 : decode cX3_pay 13 = .ok (.ldiv, 1) := by decide +kernel
theorem dX3_pay_14 : decode cX3_pay 14 = .ok (.l2i, 1) := by decide +kernel
theorem dX3_pay_15 : decode cX3_pay 15 = .ok (.ireturn, 1) := by decide +kernel
set_option maxHeartbeats 4000000 in
set_option maxRecDepth 100000 in
theorem a_X3_pay_1 (l : Launch) (g : va_G) (aC : Nat → ClassId) (aM : Nat → Nat) (h1 h2 : Nat) (x3 x4 x5 : Value) : Ct l g aC aM yX3_pay cX3_pay 1 (some .int) 2 [.ref h1] [(h2, .inl (aC 1, 128, .inr (.inl (fun _ => 0)))), (h1, .inr (3, [.int 0, x3, x4, x5, .ref h2]))] (QI g (fun (r : Int32) (_ : Unit) => r = 0) (fun (_ : Unit) => [(h2, .inl (aC 1, 128, .inr (.inl (fun _ => 0)))), (h1, .inr (3, [.int 0, x3, x4, x5, .ref h2]))])) 0 0 := by
  refine Ct.mk (by decide) (Nat.le_of_ble_eq_true rfl) ?_
  intro p e s m below meth c A ls hx hb hml hown hts hr hlk hnm hK hA hM hM2 hP hD hS hl
  have hown : s.vm.findClass RX3 = some m.cls := hown
  have F : Fx p s m _ c cX3_pay 1 RX3 g aC aM A := ⟨hx, hb, hml, hown, hts, hK, hA, hM, hM2⟩
  have hl : lv_has ls 1 [(0, .ref h1)] := hl
  refine lv_aload_n hx hb dX3_pay_0 rfl (lv_at hl 0 rfl) ?_
  refine goL (wr := []) (runV (n := 0) (As := []) (rest := []) F hP hD hS (a_X3_whole_1 l g aC aM h1 h2 x3 x4 x5) [0, 1] (by decide) rfl 1 3 rfl rfl rfl tb988 tb985 tb987 tv23 tb15 ⟨by decide, by decide, by decide +kernel⟩ ⟨Nat.le_of_ble_eq_true rfl, Nat.le_of_ble_eq_true rfl⟩ rfl hl.1 rfl (Nat.le_of_ble_eq_true rfl) dX3_pay_1 ⟨Nat.le_of_ble_eq_true rfl, Nat.le_of_ble_eq_true rfl⟩) hP hD hS hA [0, 1] [] rfl rfl (by decide) (by decide) (fun r_2 w3 H locs hw hP hD hS => ?_)
  have hP : va_P g vwCl [(h2, .inl (aC 1, 128, .inr (.inl (fun _ => 0)))), (h1, .inr (3, [.int 0, x3, x4, x5, .ref h2]))] H := hP
  have hD : va_D A [(h2, .inl (aC 1, 128, .inr (.inl (fun _ => 0)))), (h1, .inr (3, [.int 0, x3, x4, x5, .ref h2]))] := hD
  try dsimp only at hw
  subst hw
  refine lv_ldc2 (v := 67108864) hx hb hown (hts _ tb976) dX3_pay_4 ?_
  refine lv_ladd hx hb dX3_pay_7 ?_
  refine relitL (v := 67108864) (by decide +kernel) ?_
  refine lv_lconst (v := 1) hx hb dX3_pay_8 (by decide) ?_
  refine lv_lsub hx hb dX3_pay_9 ?_
  refine relitL (v := 67108863) (by decide +kernel) ?_
  refine lv_ldc2 (v := 67108864) hx hb hown (hts _ tb976) dX3_pay_10 ?_
  refine lv_ldiv hx hb dX3_pay_13 (by decide +kernel) ?_
  refine relitL (v := 0) (by decide +kernel) ?_
  refine lv_l2i (v := 0) hx hb dX3_pay_14 (by decide +kernel) ?_
  have hP9 := hP.sub (ws' := [(h2, .inl (aC 1, 128, .inr (.inl (fun _ => 0)))), (h1, .inr (3, [.int 0, x3, x4, x5, .ref h2]))]) [0, 1] rfl
  have hD9 := hD.sub (ws' := [(h2, .inl (aC 1, 128, .inr (.inl (fun _ => 0)))), (h1, .inr (3, [.int 0, x3, x4, x5, .ref h2]))]) [0, 1] (by decide) rfl
  exact rI () hx hb hr hlk rfl hS rfl hP9 hD9 (Nat.le_of_ble_eq_true rfl) (Nat.le_of_ble_eq_true rfl) dX3_pay_15

theorem tb977 : (Jvm.Cond.constantLong "StairGang$Orders" (53 : Nat) (131072 : Int64)) ∈ gw := lw_m 977 (by decide +kernel)
theorem tb981 : (Jvm.Cond.methodLink "StairGang" (249 : Nat) ({ cls := "StairGang$Orders", name := "pay", desc := "()I" } : Jvm.MethodName)) ∈ gw := lw_m 981 (by decide +kernel)
theorem tb982 : (Jvm.Cond.instanceMethod ({ cls := "StairGang$Orders", name := "pay", desc := "()I" } : Jvm.MethodName)) ∈ gw := lw_m 982 (by decide +kernel)
theorem tb983 : (Jvm.Cond.selects "StairGang$Orders" ({ cls := "StairGang$Orders", name := "pay", desc := "()I" } : Jvm.MethodName) ({ cls := "StairGang$Orders", name := "pay", desc := "()I" } : Jvm.MethodName)) ∈ gw := lw_m 983 (by decide +kernel)
theorem tb984 : (Jvm.Cond.code ({ cls := "StairGang$Orders", name := "pay", desc := "()I" } : Jvm.MethodName) prog_5_method_7_code (1 : Nat) (Option.some Jvm.ClassFile.FieldType.int)) ∈ gw := lw_m 984 (by decide +kernel)
theorem tb993 : (Jvm.Cond.methodLink "StairGang$Orders" (65 : Nat) ({ cls := "StairGang$Orders", name := "pay", desc := "()I" } : Jvm.MethodName)) ∈ gw := lw_m 993 (by decide +kernel)
theorem dX10_orders_72 : decode cX10_orders 72 = .ok (.ireturn, 1) := by decide +kernel
theorem dX10_orders_73 : decode cX10_orders 73 = .ok (.iload_n 1, 1) := by decide +kernel
theorem dX10_orders_74 : decode cX10_orders 74 = .ok (.iconst 1, 1) := by decide +kernel
theorem dX10_orders_75 : decode cX10_orders 75 = .ok (.if_icmp .ne 13, 3) := by decide +kernel
theorem dX10_orders_78 : decode cX10_orders 78 = .ok (.aload_n 0, 1) := by decide +kernel
theorem dX10_orders_79 : decode cX10_orders 79 = .ok (.getfield 84, 3) := by decide +kernel
theorem dX10_orders_82 : decode cX10_orders 82 = .ok (.invokevirtual 252, 3) := by decide +kernel
theorem dX3_rise_0 : decode cX3_rise 0 = .ok (.aload_n 0, 1) := by decide +kernel
theorem dX3_rise_1 : decode cX3_rise 1 = .ok (.invokevirtual 65, 3) := by decide +kernel
theorem dX3_rise_4 : decode cX3_rise 4 = .ok (.i2l, 1) := by decide +kernel
theorem dX3_rise_5 : decode cX3_rise 5 = .ok (.ldc2_w 51, 3) := by decide +kernel
theorem dX3_rise_8 : decode cX3_rise 8 = .ok (.lmul, 1) := by decide +kernel
theorem dX3_rise_9 : decode cX3_rise 9 = .ok (.aload_n 0, 1) := by decide +kernel
theorem dX3_rise_10 : decode cX3_rise 10 = .ok (.invokevirtual 61, 3) := by decide +kernel
theorem dX3_rise_13 : decode cX3_rise 13 = .ok (.lsub, 1) := by decide +kernel
theorem dX3_rise_14 : decode cX3_rise 14 = .ok (.ldc2_w 53, 3) := by decide +kernel
theorem dX3_rise_17 : decode cX3_rise 17 = .ok (.ldiv, 1) := by decide +kernel
theorem dX3_rise_18 : decode cX3_rise 18 = .ok (.l2i, 1) := by decide +kernel
theorem dX3_rise_19 : decode cX3_rise 19 = .ok (.ireturn, 1) := by decide +kernel
set_option maxHeartbeats 4000000 in
set_option maxRecDepth 100000 in
theorem a_X3_rise_1 (l : Launch) (g : va_G) (aC : Nat → ClassId) (aM : Nat → Nat) (h1 h2 : Nat) (x3 x4 x5 : Value) : Ct l g aC aM yX3_rise cX3_rise 1 (some .int) 3 [.ref h1] [(h2, .inl (aC 1, 128, .inr (.inl (fun _ => 0)))), (h1, .inr (3, [.int 0, x3, x4, x5, .ref h2]))] (QI g (fun (r : Int32) (_ : Unit) => r = 0) (fun (_ : Unit) => [(h2, .inl (aC 1, 128, .inr (.inl (fun _ => 0)))), (h1, .inr (3, [.int 0, x3, x4, x5, .ref h2]))])) 0 0 := by
  refine Ct.mk (by decide) (Nat.le_of_ble_eq_true rfl) ?_
  intro p e s m below meth c A ls hx hb hml hown hts hr hlk hnm hK hA hM hM2 hP hD hS hl
  have hown : s.vm.findClass RX3 = some m.cls := hown
  have F : Fx p s m _ c cX3_rise 1 RX3 g aC aM A := ⟨hx, hb, hml, hown, hts, hK, hA, hM, hM2⟩
  have hl : lv_has ls 1 [(0, .ref h1)] := hl
  refine lv_aload_n hx hb dX3_rise_0 rfl (lv_at hl 0 rfl) ?_
  refine goI (wr := []) (runV (n := 0) (As := []) (rest := []) F hP hD hS (a_X3_pay_1 l g aC aM h1 h2 x3 x4 x5) [0, 1] (by decide) rfl 1 3 rfl rfl rfl tb984 tb993 tb982 tb983 tb15 ⟨by decide, by decide, by decide +kernel⟩ ⟨Nat.le_of_ble_eq_true rfl, Nat.le_of_ble_eq_true rfl⟩ rfl hl.1 rfl (Nat.le_of_ble_eq_true rfl) dX3_rise_1 ⟨Nat.le_of_ble_eq_true rfl, Nat.le_of_ble_eq_true rfl⟩) hP hD hS hA [0, 1] [] rfl rfl (by decide) (by decide) (fun r_2 w3 H locs hw hP hD hS => ?_)
  have hP : va_P g vwCl [(h2, .inl (aC 1, 128, .inr (.inl (fun _ => 0)))), (h1, .inr (3, [.int 0, x3, x4, x5, .ref h2]))] H := hP
  have hD : va_D A [(h2, .inl (aC 1, 128, .inr (.inl (fun _ => 0)))), (h1, .inr (3, [.int 0, x3, x4, x5, .ref h2]))] := hD
  try dsimp only at hw
  subst hw
  refine lv_i2l (v := 0) hx hb dX3_rise_4 (by decide +kernel) ?_
  refine lv_ldc2 (v := 67108864) hx hb hown (hts _ tb976) dX3_rise_5 ?_
  refine lv_lmul hx hb dX3_rise_8 ?_
  refine relitL (v := 0) (by decide +kernel) ?_
  refine lv_aload_n hx hb dX3_rise_9 rfl (lv_at hl 0 rfl) ?_
  refine goL (wr := []) (runV (n := 0) (As := []) (rest := [.long 0]) F hP hD hS (a_X3_whole_1 l g aC aM h1 h2 x3 x4 x5) [0, 1] (by decide) rfl 1 3 rfl rfl rfl tb988 tb985 tb987 tv23 tb15 ⟨by decide, by decide, by decide +kernel⟩ ⟨Nat.le_of_ble_eq_true rfl, Nat.le_of_ble_eq_true rfl⟩ rfl hl.1 rfl (Nat.le_of_ble_eq_true rfl) dX3_rise_10 ⟨Nat.le_of_ble_eq_true rfl, Nat.le_of_ble_eq_true rfl⟩) hP hD hS hA [0, 1] [] rfl rfl (by decide) (by decide) (fun r_5 w6 H locs hw hP hD hS => ?_)
  have hP : va_P g vwCl [(h2, .inl (aC 1, 128, .inr (.inl (fun _ => 0)))), (h1, .inr (3, [.int 0, x3, x4, x5, .ref h2]))] H := hP
  have hD : va_D A [(h2, .inl (aC 1, 128, .inr (.inl (fun _ => 0)))), (h1, .inr (3, [.int 0, x3, x4, x5, .ref h2]))] := hD
  try dsimp only at hw
  subst hw
  refine lv_lsub hx hb dX3_rise_13 ?_
  refine relitL (v := 0) (by decide +kernel) ?_
  refine lv_ldc2 (v := 131072) hx hb hown (hts _ tb977) dX3_rise_14 ?_
  refine lv_ldiv hx hb dX3_rise_17 (by decide +kernel) ?_
  refine relitL (v := 0) (by decide +kernel) ?_
  refine lv_l2i (v := 0) hx hb dX3_rise_18 (by decide +kernel) ?_
  have hP9 := hP.sub (ws' := [(h2, .inl (aC 1, 128, .inr (.inl (fun _ => 0)))), (h1, .inr (3, [.int 0, x3, x4, x5, .ref h2]))]) [0, 1] rfl
  have hD9 := hD.sub (ws' := [(h2, .inl (aC 1, 128, .inr (.inl (fun _ => 0)))), (h1, .inr (3, [.int 0, x3, x4, x5, .ref h2]))]) [0, 1] (by decide) rfl
  exact rI () hx hb hr hlk rfl hS rfl hP9 hD9 (Nat.le_of_ble_eq_true rfl) (Nat.le_of_ble_eq_true rfl) dX3_rise_19

theorem tb989 : (Jvm.Cond.methodLink "StairGang" (252 : Nat) ({ cls := "StairGang$Orders", name := "rise", desc := "()I" } : Jvm.MethodName)) ∈ gw := lw_m 989 (by decide +kernel)
theorem tb990 : (Jvm.Cond.instanceMethod ({ cls := "StairGang$Orders", name := "rise", desc := "()I" } : Jvm.MethodName)) ∈ gw := lw_m 990 (by decide +kernel)
theorem tb991 : (Jvm.Cond.selects "StairGang$Orders" ({ cls := "StairGang$Orders", name := "rise", desc := "()I" } : Jvm.MethodName) ({ cls := "StairGang$Orders", name := "rise", desc := "()I" } : Jvm.MethodName)) ∈ gw := lw_m 991 (by decide +kernel)
theorem tb992 : (Jvm.Cond.code ({ cls := "StairGang$Orders", name := "rise", desc := "()I" } : Jvm.MethodName) prog_5_method_8_code (1 : Nat) (Option.some Jvm.ClassFile.FieldType.int)) ∈ gw := lw_m 992 (by decide +kernel)
theorem dX10_orders_85 : decode cX10_orders 85 = .ok (.goto 11, 3) := by decide +kernel
theorem dX10_orders_96 : decode cX10_orders 96 = .ok (.ireturn, 1) := by decide +kernel
set_option maxHeartbeats 4000000 in
set_option maxRecDepth 100000 in
theorem x_orders_lo (l : Launch) (g : va_G) (aC : Nat → ClassId) (aM : Nat → Nat) (h1 h5 h7 h15 h18 h37 h38 : Nat) (x2 x3 x4 x6 x8 x9 x10 x11 x12 x13 x14 x16 x17 x19 x20 x21 x22 x23 x24 x25 x26 x27 x28 x29 x30 x31 x32 x33 x34 x35 x36 : Value) (n_1 : Int32) (hh1 : n_1 ≤ (-1)) : Ct l g aC aM yX10_orders cX10_orders 3 (some .int) 4 [.ref h1, .int n_1] [(h1, .inr (10, [x2, x3, x4, .ref h5, x6, .ref h7, x8, x9, x10, x11, x12, x13, x14, .ref h15, x16, x17])), (h5, .inr (8, [.ref h18, x19, x20, x21, x22, x23, x24, x25, x26, x27, x28, x29])), (h18, .inl (aC 0, 5, .inl (fun _ => 0))), (h7, .inr (6, [.int 0, x30, x31, x32, x33, x34])), (h15, .inr (3, [.int 0, x35, x36, .ref h37, .ref h38])), (h37, .inl (aC 0, 128, .inl (fun _ => 0))), (h38, .inl (aC 1, 128, .inr (.inl (fun _ => 0))))] (QI g (fun (r : Int32) (_ : Unit) => r = (-2)) (fun (_ : Unit) => [])) 0 0 := by
  refine Ct.mk (by decide) (Nat.le_of_ble_eq_true rfl) ?_
  intro p e s m below meth c A ls hx hb hml hown hts hr hlk hnm hK hA hM hM2 hP hD hS hl
  have hown : s.vm.findClass RX10 = some m.cls := hown
  have F : Fx p s m _ c cX10_orders 3 RX10 g aC aM A := ⟨hx, hb, hml, hown, hts, hK, hA, hM, hM2⟩
  have hl : lv_has ls 3 [(0, .ref h1), (1, .int n_1)] := hl
  refine lv_iload_n hx hb dX10_orders_0 rfl (lv_at hl 1 rfl) ?_
  refine lv_iconst (v := 2) hx hb dX10_orders_1 (by decide) ?_
  refine lv_isub hx hb dX10_orders_2 ?_
  refine lv_istore_n (lv' := [(2, .int (n_1 - 2)), (0, .ref h1), (1, .int n_1)]) hx hb dX10_orders_3 rfl hl (by decide) rfl (fun ls hl => ?_)
  refine lv_aload_n hx hb dX10_orders_4 rfl (lv_at hl 1 rfl) ?_
  refine xget F hP 0 rfl rfl inX10 13 (by decide) tb413 rfl dX10_orders_5 ?_
  refine lv_aload_n hx hb dX10_orders_8 rfl (lv_at hl 1 rfl) ?_
  refine xget F hP 0 rfl rfl inX10 3 (by decide) tb403 rfl dX10_orders_9 ?_
  refine lv_aload_n hx hb dX10_orders_12 rfl (lv_at hl 1 rfl) ?_
  refine xget F hP 0 rfl rfl inX10 3 (by decide) tb403 rfl dX10_orders_13 ?_
  refine goI (wr := [(h1, .inr (10, [x2, x3, x4, .ref h5, x6, .ref h7, x8, x9, x10, x11, x12, x13, x14, .ref h15, x16, x17])), (h7, .inr (6, [.int 0, x30, x31, x32, x33, x34])), (h15, .inr (3, [.int 0, x35, x36, .ref h37, .ref h38])), (h37, .inl (aC 0, 128, .inl (fun _ => 0))), (h38, .inl (aC 1, 128, .inr (.inl (fun _ => 0))))]) (runV (n := 0) (As := []) (rest := [.ref h5, .ref h15]) F hP hD hS (a_X8_all_1 l g aC aM h5 h18 x19 x20 x21 x22 x23 x24 x25 x26 x27 x28 x29) [1, 2] (by decide) rfl 1 8 rfl rfl rfl tb715 tb930 tb713 tb714 tb9 ⟨by decide, by decide, by decide +kernel⟩ ⟨Nat.le_of_ble_eq_true rfl, Nat.le_of_ble_eq_true rfl⟩ rfl hl.1 rfl (Nat.le_of_ble_eq_true rfl) dX10_orders_16 ⟨Nat.le_of_ble_eq_true rfl, Nat.le_of_ble_eq_true rfl⟩) hP hD hS hA [1, 2] [0, 3, 4, 5, 6] rfl rfl (by decide) (by decide) (fun r_2 w3 H locs hw hP hD hS => ?_)
  have hP : va_P g vwCl [(h1, .inr (10, [x2, x3, x4, .ref h5, x6, .ref h7, x8, x9, x10, x11, x12, x13, x14, .ref h15, x16, x17])), (h7, .inr (6, [.int 0, x30, x31, x32, x33, x34])), (h15, .inr (3, [.int 0, x35, x36, .ref h37, .ref h38])), (h37, .inl (aC 0, 128, .inl (fun _ => 0))), (h38, .inl (aC 1, 128, .inr (.inl (fun _ => 0)))), (h5, .inr (8, [.ref h18, x19, x20, x21, x22, x23, x24, x25, x26, x27, x28, x29])), (h18, .inl (aC 0, 5, .inl (fun _ => 0)))] H := hP
  have hD : va_D A [(h1, .inr (10, [x2, x3, x4, .ref h5, x6, .ref h7, x8, x9, x10, x11, x12, x13, x14, .ref h15, x16, x17])), (h7, .inr (6, [.int 0, x30, x31, x32, x33, x34])), (h15, .inr (3, [.int 0, x35, x36, .ref h37, .ref h38])), (h37, .inl (aC 0, 128, .inl (fun _ => 0))), (h38, .inl (aC 1, 128, .inr (.inl (fun _ => 0)))), (h5, .inr (8, [.ref h18, x19, x20, x21, x22, x23, x24, x25, x26, x27, x28, x29])), (h18, .inl (aC 0, 5, .inl (fun _ => 0)))] := hD
  try dsimp only at hw
  subst hw
  refine lv_aload_n hx hb dX10_orders_19 rfl (lv_at hl 1 rfl) ?_
  refine xget F hP 0 rfl rfl inX10 5 (by decide) tb405 rfl dX10_orders_20 ?_
  refine xget F hP 1 rfl rfl inX6 0 (by decide) tb293 rfl dX10_orders_23 ?_
  refine lv_iconst (v := (-1)) hx hb dX10_orders_26 (by decide) ?_
  refine lv_ixor hx hb dX10_orders_27 ?_
  refine relit (v := (-1)) (by decide +kernel) ?_
  refine lv_iand hx hb dX10_orders_28 ?_
  refine relit (v := 0) (by decide +kernel) ?_
  refine goV (wr := [(h1, .inr (10, [x2, x3, x4, .ref h5, x6, .ref h7, x8, x9, x10, x11, x12, x13, x14, .ref h15, x16, x17])), (h7, .inr (6, [.int 0, x30, x31, x32, x33, x34])), (h37, .inl (aC 0, 128, .inl (fun _ => 0))), (h38, .inl (aC 1, 128, .inr (.inl (fun _ => 0))))]) (runV (n := 2) (As := [.ref h5, .int 0]) (rest := []) F hP hD hS (a_X3_choose_1 l g aC aM h15 h5 h18 x35 x36 (.ref h37) (.ref h38) x19 x20 x21 x22 x23 x24 x25 x26 x27 x28 x29) [2, 5, 6] (by decide) rfl 2 3 rfl rfl rfl tb962 tb959 tb960 tb961 tb15 ⟨by decide, by decide, by decide +kernel⟩ ⟨Nat.le_of_ble_eq_true rfl, Nat.le_of_ble_eq_true rfl⟩ rfl hl.1 rfl (Nat.le_of_ble_eq_true rfl) dX10_orders_29 ⟨Nat.le_of_ble_eq_true rfl, Nat.le_of_ble_eq_true rfl⟩) hP hD hS hA [2, 5, 6] [0, 1, 3, 4] rfl rfl (by decide) (by decide) (fun w6 H locs hw hP hD hS => ?_)
  have hP : va_P g vwCl [(h1, .inr (10, [x2, x3, x4, .ref h5, x6, .ref h7, x8, x9, x10, x11, x12, x13, x14, .ref h15, x16, x17])), (h7, .inr (6, [.int 0, x30, x31, x32, x33, x34])), (h37, .inl (aC 0, 128, .inl (fun _ => 0))), (h38, .inl (aC 1, 128, .inr (.inl (fun _ => 0)))), (h15, .inr (3, [.int 0, x35, x36, .ref h37, .ref h38])), (h5, .inr (8, [.ref h18, x19, x20, x21, x22, x23, x24, x25, x26, x27, x28, x29])), (h18, .inl (aC 0, 5, .inl (fun _ => 0)))] H := hP
  have hD : va_D A [(h1, .inr (10, [x2, x3, x4, .ref h5, x6, .ref h7, x8, x9, x10, x11, x12, x13, x14, .ref h15, x16, x17])), (h7, .inr (6, [.int 0, x30, x31, x32, x33, x34])), (h37, .inl (aC 0, 128, .inl (fun _ => 0))), (h38, .inl (aC 1, 128, .inr (.inl (fun _ => 0)))), (h15, .inr (3, [.int 0, x35, x36, .ref h37, .ref h38])), (h5, .inr (8, [.ref h18, x19, x20, x21, x22, x23, x24, x25, x26, x27, x28, x29])), (h18, .inl (aC 0, 5, .inl (fun _ => 0)))] := hD
  refine lv_iload_n hx hb dX10_orders_32 rfl (lv_at hl 2 rfl) ?_
  refine lv_if_lt (tgt := 47) hx hb dX10_orders_33 (by decide) (fun c7 => ?_) (fun c7 => ?_)
  · refine lv_bipush (v := (-2)) hx hb dX10_orders_47 (by decide) ?_
    have hP9 := hP.sub (ws' := []) [] rfl
    have hD9 := hD.sub (ws' := []) [] (by decide) rfl
    exact rI () hx hb hr hlk rfl hS rfl hP9 hD9 (Nat.le_of_ble_eq_true rfl) (Nat.le_of_ble_eq_true rfl) dX10_orders_49
  · exfalso
    simp only [Int32.lt_iff_toInt_lt, Int32.le_iff_toInt_le, ← Int32.toInt_inj, show (-1 : Int32).toInt = -1 by decide, show (0 : Int32).toInt = 0 by decide] at hh1 c7; omega

set_option maxHeartbeats 4000000 in
set_option maxRecDepth 100000 in
theorem x_orders_hi (l : Launch) (g : va_G) (aC : Nat → ClassId) (aM : Nat → Nat) (h1 h5 h7 h15 h18 h37 h38 : Nat) (x2 x3 x4 x6 x8 x9 x10 x11 x12 x13 x14 x16 x17 x19 x20 x21 x22 x23 x24 x25 x26 x27 x28 x29 x30 x31 x32 x33 x34 x35 x36 : Value) (n_1 : Int32) (hl1 : 2 ≤ n_1) : Ct l g aC aM yX10_orders cX10_orders 3 (some .int) 4 [.ref h1, .int n_1] [(h1, .inr (10, [x2, x3, x4, .ref h5, x6, .ref h7, x8, x9, x10, x11, x12, x13, x14, .ref h15, x16, x17])), (h5, .inr (8, [.ref h18, x19, x20, x21, x22, x23, x24, x25, x26, x27, x28, x29])), (h18, .inl (aC 0, 5, .inl (fun _ => 0))), (h7, .inr (6, [.int 0, x30, x31, x32, x33, x34])), (h15, .inr (3, [.int 0, x35, x36, .ref h37, .ref h38])), (h37, .inl (aC 0, 128, .inl (fun _ => 0))), (h38, .inl (aC 1, 128, .inr (.inl (fun _ => 0))))] (QI g (fun (r : Int32) (_ : Unit) => r = (-2)) (fun (_ : Unit) => [])) 0 0 := by
  refine Ct.mk (by decide) (Nat.le_of_ble_eq_true rfl) ?_
  intro p e s m below meth c A ls hx hb hml hown hts hr hlk hnm hK hA hM hM2 hP hD hS hl
  have hown : s.vm.findClass RX10 = some m.cls := hown
  have F : Fx p s m _ c cX10_orders 3 RX10 g aC aM A := ⟨hx, hb, hml, hown, hts, hK, hA, hM, hM2⟩
  have hl : lv_has ls 3 [(0, .ref h1), (1, .int n_1)] := hl
  refine lv_iload_n hx hb dX10_orders_0 rfl (lv_at hl 1 rfl) ?_
  refine lv_iconst (v := 2) hx hb dX10_orders_1 (by decide) ?_
  refine lv_isub hx hb dX10_orders_2 ?_
  refine lv_istore_n (lv' := [(2, .int (n_1 - 2)), (0, .ref h1), (1, .int n_1)]) hx hb dX10_orders_3 rfl hl (by decide) rfl (fun ls hl => ?_)
  refine lv_aload_n hx hb dX10_orders_4 rfl (lv_at hl 1 rfl) ?_
  refine xget F hP 0 rfl rfl inX10 13 (by decide) tb413 rfl dX10_orders_5 ?_
  refine lv_aload_n hx hb dX10_orders_8 rfl (lv_at hl 1 rfl) ?_
  refine xget F hP 0 rfl rfl inX10 3 (by decide) tb403 rfl dX10_orders_9 ?_
  refine lv_aload_n hx hb dX10_orders_12 rfl (lv_at hl 1 rfl) ?_
  refine xget F hP 0 rfl rfl inX10 3 (by decide) tb403 rfl dX10_orders_13 ?_
  refine goI (wr := [(h1, .inr (10, [x2, x3, x4, .ref h5, x6, .ref h7, x8, x9, x10, x11, x12, x13, x14, .ref h15, x16, x17])), (h7, .inr (6, [.int 0, x30, x31, x32, x33, x34])), (h15, .inr (3, [.int 0, x35, x36, .ref h37, .ref h38])), (h37, .inl (aC 0, 128, .inl (fun _ => 0))), (h38, .inl (aC 1, 128, .inr (.inl (fun _ => 0))))]) (runV (n := 0) (As := []) (rest := [.ref h5, .ref h15]) F hP hD hS (a_X8_all_1 l g aC aM h5 h18 x19 x20 x21 x22 x23 x24 x25 x26 x27 x28 x29) [1, 2] (by decide) rfl 1 8 rfl rfl rfl tb715 tb930 tb713 tb714 tb9 ⟨by decide, by decide, by decide +kernel⟩ ⟨Nat.le_of_ble_eq_true rfl, Nat.le_of_ble_eq_true rfl⟩ rfl hl.1 rfl (Nat.le_of_ble_eq_true rfl) dX10_orders_16 ⟨Nat.le_of_ble_eq_true rfl, Nat.le_of_ble_eq_true rfl⟩) hP hD hS hA [1, 2] [0, 3, 4, 5, 6] rfl rfl (by decide) (by decide) (fun r_2 w3 H locs hw hP hD hS => ?_)
  have hP : va_P g vwCl [(h1, .inr (10, [x2, x3, x4, .ref h5, x6, .ref h7, x8, x9, x10, x11, x12, x13, x14, .ref h15, x16, x17])), (h7, .inr (6, [.int 0, x30, x31, x32, x33, x34])), (h15, .inr (3, [.int 0, x35, x36, .ref h37, .ref h38])), (h37, .inl (aC 0, 128, .inl (fun _ => 0))), (h38, .inl (aC 1, 128, .inr (.inl (fun _ => 0)))), (h5, .inr (8, [.ref h18, x19, x20, x21, x22, x23, x24, x25, x26, x27, x28, x29])), (h18, .inl (aC 0, 5, .inl (fun _ => 0)))] H := hP
  have hD : va_D A [(h1, .inr (10, [x2, x3, x4, .ref h5, x6, .ref h7, x8, x9, x10, x11, x12, x13, x14, .ref h15, x16, x17])), (h7, .inr (6, [.int 0, x30, x31, x32, x33, x34])), (h15, .inr (3, [.int 0, x35, x36, .ref h37, .ref h38])), (h37, .inl (aC 0, 128, .inl (fun _ => 0))), (h38, .inl (aC 1, 128, .inr (.inl (fun _ => 0)))), (h5, .inr (8, [.ref h18, x19, x20, x21, x22, x23, x24, x25, x26, x27, x28, x29])), (h18, .inl (aC 0, 5, .inl (fun _ => 0)))] := hD
  try dsimp only at hw
  subst hw
  refine lv_aload_n hx hb dX10_orders_19 rfl (lv_at hl 1 rfl) ?_
  refine xget F hP 0 rfl rfl inX10 5 (by decide) tb405 rfl dX10_orders_20 ?_
  refine xget F hP 1 rfl rfl inX6 0 (by decide) tb293 rfl dX10_orders_23 ?_
  refine lv_iconst (v := (-1)) hx hb dX10_orders_26 (by decide) ?_
  refine lv_ixor hx hb dX10_orders_27 ?_
  refine relit (v := (-1)) (by decide +kernel) ?_
  refine lv_iand hx hb dX10_orders_28 ?_
  refine relit (v := 0) (by decide +kernel) ?_
  refine goV (wr := [(h1, .inr (10, [x2, x3, x4, .ref h5, x6, .ref h7, x8, x9, x10, x11, x12, x13, x14, .ref h15, x16, x17])), (h7, .inr (6, [.int 0, x30, x31, x32, x33, x34])), (h37, .inl (aC 0, 128, .inl (fun _ => 0))), (h38, .inl (aC 1, 128, .inr (.inl (fun _ => 0))))]) (runV (n := 2) (As := [.ref h5, .int 0]) (rest := []) F hP hD hS (a_X3_choose_1 l g aC aM h15 h5 h18 x35 x36 (.ref h37) (.ref h38) x19 x20 x21 x22 x23 x24 x25 x26 x27 x28 x29) [2, 5, 6] (by decide) rfl 2 3 rfl rfl rfl tb962 tb959 tb960 tb961 tb15 ⟨by decide, by decide, by decide +kernel⟩ ⟨Nat.le_of_ble_eq_true rfl, Nat.le_of_ble_eq_true rfl⟩ rfl hl.1 rfl (Nat.le_of_ble_eq_true rfl) dX10_orders_29 ⟨Nat.le_of_ble_eq_true rfl, Nat.le_of_ble_eq_true rfl⟩) hP hD hS hA [2, 5, 6] [0, 1, 3, 4] rfl rfl (by decide) (by decide) (fun w6 H locs hw hP hD hS => ?_)
  have hP : va_P g vwCl [(h1, .inr (10, [x2, x3, x4, .ref h5, x6, .ref h7, x8, x9, x10, x11, x12, x13, x14, .ref h15, x16, x17])), (h7, .inr (6, [.int 0, x30, x31, x32, x33, x34])), (h37, .inl (aC 0, 128, .inl (fun _ => 0))), (h38, .inl (aC 1, 128, .inr (.inl (fun _ => 0)))), (h15, .inr (3, [.int 0, x35, x36, .ref h37, .ref h38])), (h5, .inr (8, [.ref h18, x19, x20, x21, x22, x23, x24, x25, x26, x27, x28, x29])), (h18, .inl (aC 0, 5, .inl (fun _ => 0)))] H := hP
  have hD : va_D A [(h1, .inr (10, [x2, x3, x4, .ref h5, x6, .ref h7, x8, x9, x10, x11, x12, x13, x14, .ref h15, x16, x17])), (h7, .inr (6, [.int 0, x30, x31, x32, x33, x34])), (h37, .inl (aC 0, 128, .inl (fun _ => 0))), (h38, .inl (aC 1, 128, .inr (.inl (fun _ => 0)))), (h15, .inr (3, [.int 0, x35, x36, .ref h37, .ref h38])), (h5, .inr (8, [.ref h18, x19, x20, x21, x22, x23, x24, x25, x26, x27, x28, x29])), (h18, .inl (aC 0, 5, .inl (fun _ => 0)))] := hD
  refine lv_iload_n hx hb dX10_orders_32 rfl (lv_at hl 2 rfl) ?_
  refine lv_if_lt (tgt := 47) hx hb dX10_orders_33 (by decide) (fun c7 => ?_) (fun c7 => ?_)
  · exfalso
    simp only [Int32.lt_iff_toInt_lt, Int32.le_iff_toInt_le, ← Int32.toInt_inj, show (0 : Int32).toInt = 0 by decide, show (2 : Int32).toInt = 2 by decide] at hl1 c7; omega
  · refine lv_iload_n hx hb dX10_orders_36 rfl (lv_at hl 0 rfl) ?_
    refine lv_aload_n hx hb dX10_orders_37 rfl (lv_at hl 1 rfl) ?_
    refine xget F hP 0 rfl rfl inX10 13 (by decide) tb413 rfl dX10_orders_38 ?_
    refine xget F hP 4 rfl rfl inX3 0 (by decide) tb371 rfl dX10_orders_41 ?_
    refine lv_icmp_lt (tgt := 50) hx hb dX10_orders_44 (by decide) (fun c_ => absurd c_ (sub2nn hl1)) (fun _ => ?_)
    refine lv_bipush (v := (-2)) hx hb dX10_orders_47 (by decide) ?_
    have hP9 := hP.sub (ws' := []) [] rfl
    have hD9 := hD.sub (ws' := []) [] (by decide) rfl
    exact rI () hx hb hr hlk rfl hS rfl hP9 hD9 (Nat.le_of_ble_eq_true rfl) (Nat.le_of_ble_eq_true rfl) dX10_orders_49

set_option maxHeartbeats 4000000 in
set_option maxRecDepth 100000 in
theorem x_orders_0 (l : Launch) (g : va_G) (aC : Nat → ClassId) (aM : Nat → Nat) (h1 h5 h7 h15 h18 h37 h38 : Nat) (x2 x3 x4 x6 x8 x9 x10 x11 x12 x13 x14 x16 x17 x19 x20 x21 x22 x23 x24 x25 x26 x27 x28 x29 x30 x31 x32 x33 x34 x35 x36 : Value) : Ct l g aC aM yX10_orders cX10_orders 3 (some .int) 4 [.ref h1, .int 0] [(h1, .inr (10, [x2, x3, x4, .ref h5, x6, .ref h7, x8, x9, x10, x11, x12, x13, x14, .ref h15, x16, x17])), (h5, .inr (8, [.ref h18, x19, x20, x21, x22, x23, x24, x25, x26, x27, x28, x29])), (h18, .inl (aC 0, 5, .inl (fun _ => 0))), (h7, .inr (6, [.int 0, x30, x31, x32, x33, x34])), (h15, .inr (3, [.int 0, x35, x36, .ref h37, .ref h38])), (h37, .inl (aC 0, 128, .inl (fun _ => 0))), (h38, .inl (aC 1, 128, .inr (.inl (fun _ => 0))))] (QI g (fun (r : Int32) (_ : Unit) => r = 0) (fun (_ : Unit) => [])) 0 0 := by
  refine Ct.mk (by decide) (Nat.le_of_ble_eq_true rfl) ?_
  intro p e s m below meth c A ls hx hb hml hown hts hr hlk hnm hK hA hM hM2 hP hD hS hl
  have hown : s.vm.findClass RX10 = some m.cls := hown
  have F : Fx p s m _ c cX10_orders 3 RX10 g aC aM A := ⟨hx, hb, hml, hown, hts, hK, hA, hM, hM2⟩
  have hl : lv_has ls 3 [(0, .ref h1), (1, .int 0)] := hl
  refine lv_iload_n hx hb dX10_orders_0 rfl (lv_at hl 1 rfl) ?_
  refine lv_iconst (v := 2) hx hb dX10_orders_1 (by decide) ?_
  refine lv_isub hx hb dX10_orders_2 ?_
  refine relit (v := (-2)) (by decide +kernel) ?_
  refine lv_istore_n (lv' := [(2, .int (-2)), (0, .ref h1), (1, .int 0)]) hx hb dX10_orders_3 rfl hl (by decide) rfl (fun ls hl => ?_)
  refine lv_aload_n hx hb dX10_orders_4 rfl (lv_at hl 1 rfl) ?_
  refine xget F hP 0 rfl rfl inX10 13 (by decide) tb413 rfl dX10_orders_5 ?_
  refine lv_aload_n hx hb dX10_orders_8 rfl (lv_at hl 1 rfl) ?_
  refine xget F hP 0 rfl rfl inX10 3 (by decide) tb403 rfl dX10_orders_9 ?_
  refine lv_aload_n hx hb dX10_orders_12 rfl (lv_at hl 1 rfl) ?_
  refine xget F hP 0 rfl rfl inX10 3 (by decide) tb403 rfl dX10_orders_13 ?_
  refine goI (wr := [(h1, .inr (10, [x2, x3, x4, .ref h5, x6, .ref h7, x8, x9, x10, x11, x12, x13, x14, .ref h15, x16, x17])), (h7, .inr (6, [.int 0, x30, x31, x32, x33, x34])), (h15, .inr (3, [.int 0, x35, x36, .ref h37, .ref h38])), (h37, .inl (aC 0, 128, .inl (fun _ => 0))), (h38, .inl (aC 1, 128, .inr (.inl (fun _ => 0))))]) (runV (n := 0) (As := []) (rest := [.ref h5, .ref h15]) F hP hD hS (a_X8_all_1 l g aC aM h5 h18 x19 x20 x21 x22 x23 x24 x25 x26 x27 x28 x29) [1, 2] (by decide) rfl 1 8 rfl rfl rfl tb715 tb930 tb713 tb714 tb9 ⟨by decide, by decide, by decide +kernel⟩ ⟨Nat.le_of_ble_eq_true rfl, Nat.le_of_ble_eq_true rfl⟩ rfl hl.1 rfl (Nat.le_of_ble_eq_true rfl) dX10_orders_16 ⟨Nat.le_of_ble_eq_true rfl, Nat.le_of_ble_eq_true rfl⟩) hP hD hS hA [1, 2] [0, 3, 4, 5, 6] rfl rfl (by decide) (by decide) (fun r_2 w3 H locs hw hP hD hS => ?_)
  have hP : va_P g vwCl [(h1, .inr (10, [x2, x3, x4, .ref h5, x6, .ref h7, x8, x9, x10, x11, x12, x13, x14, .ref h15, x16, x17])), (h7, .inr (6, [.int 0, x30, x31, x32, x33, x34])), (h15, .inr (3, [.int 0, x35, x36, .ref h37, .ref h38])), (h37, .inl (aC 0, 128, .inl (fun _ => 0))), (h38, .inl (aC 1, 128, .inr (.inl (fun _ => 0)))), (h5, .inr (8, [.ref h18, x19, x20, x21, x22, x23, x24, x25, x26, x27, x28, x29])), (h18, .inl (aC 0, 5, .inl (fun _ => 0)))] H := hP
  have hD : va_D A [(h1, .inr (10, [x2, x3, x4, .ref h5, x6, .ref h7, x8, x9, x10, x11, x12, x13, x14, .ref h15, x16, x17])), (h7, .inr (6, [.int 0, x30, x31, x32, x33, x34])), (h15, .inr (3, [.int 0, x35, x36, .ref h37, .ref h38])), (h37, .inl (aC 0, 128, .inl (fun _ => 0))), (h38, .inl (aC 1, 128, .inr (.inl (fun _ => 0)))), (h5, .inr (8, [.ref h18, x19, x20, x21, x22, x23, x24, x25, x26, x27, x28, x29])), (h18, .inl (aC 0, 5, .inl (fun _ => 0)))] := hD
  try dsimp only at hw
  subst hw
  refine lv_aload_n hx hb dX10_orders_19 rfl (lv_at hl 1 rfl) ?_
  refine xget F hP 0 rfl rfl inX10 5 (by decide) tb405 rfl dX10_orders_20 ?_
  refine xget F hP 1 rfl rfl inX6 0 (by decide) tb293 rfl dX10_orders_23 ?_
  refine lv_iconst (v := (-1)) hx hb dX10_orders_26 (by decide) ?_
  refine lv_ixor hx hb dX10_orders_27 ?_
  refine relit (v := (-1)) (by decide +kernel) ?_
  refine lv_iand hx hb dX10_orders_28 ?_
  refine relit (v := 0) (by decide +kernel) ?_
  refine goV (wr := [(h1, .inr (10, [x2, x3, x4, .ref h5, x6, .ref h7, x8, x9, x10, x11, x12, x13, x14, .ref h15, x16, x17])), (h7, .inr (6, [.int 0, x30, x31, x32, x33, x34])), (h37, .inl (aC 0, 128, .inl (fun _ => 0))), (h38, .inl (aC 1, 128, .inr (.inl (fun _ => 0))))]) (runV (n := 2) (As := [.ref h5, .int 0]) (rest := []) F hP hD hS (a_X3_choose_1 l g aC aM h15 h5 h18 x35 x36 (.ref h37) (.ref h38) x19 x20 x21 x22 x23 x24 x25 x26 x27 x28 x29) [2, 5, 6] (by decide) rfl 2 3 rfl rfl rfl tb962 tb959 tb960 tb961 tb15 ⟨by decide, by decide, by decide +kernel⟩ ⟨Nat.le_of_ble_eq_true rfl, Nat.le_of_ble_eq_true rfl⟩ rfl hl.1 rfl (Nat.le_of_ble_eq_true rfl) dX10_orders_29 ⟨Nat.le_of_ble_eq_true rfl, Nat.le_of_ble_eq_true rfl⟩) hP hD hS hA [2, 5, 6] [0, 1, 3, 4] rfl rfl (by decide) (by decide) (fun w6 H locs hw hP hD hS => ?_)
  have hP : va_P g vwCl [(h1, .inr (10, [x2, x3, x4, .ref h5, x6, .ref h7, x8, x9, x10, x11, x12, x13, x14, .ref h15, x16, x17])), (h7, .inr (6, [.int 0, x30, x31, x32, x33, x34])), (h37, .inl (aC 0, 128, .inl (fun _ => 0))), (h38, .inl (aC 1, 128, .inr (.inl (fun _ => 0)))), (h15, .inr (3, [.int 0, x35, x36, .ref h37, .ref h38])), (h5, .inr (8, [.ref h18, x19, x20, x21, x22, x23, x24, x25, x26, x27, x28, x29])), (h18, .inl (aC 0, 5, .inl (fun _ => 0)))] H := hP
  have hD : va_D A [(h1, .inr (10, [x2, x3, x4, .ref h5, x6, .ref h7, x8, x9, x10, x11, x12, x13, x14, .ref h15, x16, x17])), (h7, .inr (6, [.int 0, x30, x31, x32, x33, x34])), (h37, .inl (aC 0, 128, .inl (fun _ => 0))), (h38, .inl (aC 1, 128, .inr (.inl (fun _ => 0)))), (h15, .inr (3, [.int 0, x35, x36, .ref h37, .ref h38])), (h5, .inr (8, [.ref h18, x19, x20, x21, x22, x23, x24, x25, x26, x27, x28, x29])), (h18, .inl (aC 0, 5, .inl (fun _ => 0)))] := hD
  refine lv_iload_n hx hb dX10_orders_32 rfl (lv_at hl 2 rfl) ?_
  refine lv_if_lt (tgt := 47) hx hb dX10_orders_33 (by decide) (fun c_ => absurd c_ (by decide +kernel)) (fun _ => ?_)
  refine lv_iload_n hx hb dX10_orders_36 rfl (lv_at hl 0 rfl) ?_
  refine lv_aload_n hx hb dX10_orders_37 rfl (lv_at hl 1 rfl) ?_
  refine xget F hP 0 rfl rfl inX10 13 (by decide) tb413 rfl dX10_orders_38 ?_
  refine xget F hP 4 rfl rfl inX3 0 (by decide) tb371 rfl dX10_orders_41 ?_
  refine lv_icmp_lt (tgt := 50) hx hb dX10_orders_44 (by decide) (fun _ => ?_) (fun c_ => absurd (by decide +kernel) c_)
  refine lv_aload_n hx hb dX10_orders_50 rfl (lv_at hl 1 rfl) ?_
  refine xget F hP 0 rfl rfl inX10 13 (by decide) tb413 rfl dX10_orders_51 ?_
  refine lv_aload_n hx hb dX10_orders_54 rfl (lv_at hl 1 rfl) ?_
  refine xget F hP 0 rfl rfl inX10 3 (by decide) tb403 rfl dX10_orders_55 ?_
  refine goV (wr := [(h1, .inr (10, [x2, x3, x4, .ref h5, x6, .ref h7, x8, x9, x10, x11, x12, x13, x14, .ref h15, x16, x17])), (h7, .inr (6, [.int 0, x30, x31, x32, x33, x34]))]) (runV (n := 1) (As := [.ref h5]) (rest := []) F hP hD hS (a_X3_pack_1 l g aC aM h15 h5 h37 h38 h18 x35 x36 x19 x20 x21 x22 x23 x24 x25 x26 x27 x28 x29) [2, 3, 4, 5, 6] (by decide) rfl 4 3 rfl rfl rfl tb966 tb963 tb964 tb965 tb15 ⟨by decide, by decide, by decide +kernel⟩ ⟨Nat.le_of_ble_eq_true rfl, Nat.le_of_ble_eq_true rfl⟩ rfl hl.1 rfl (Nat.le_of_ble_eq_true rfl) dX10_orders_58 ⟨Nat.le_of_ble_eq_true rfl, Nat.le_of_ble_eq_true rfl⟩) hP hD hS hA [2, 3, 4, 5, 6] [0, 1] rfl rfl (by decide) (by decide) (fun w11 H locs hw hP hD hS => ?_)
  have hP : va_P g vwCl [(h1, .inr (10, [x2, x3, x4, .ref h5, x6, .ref h7, x8, x9, x10, x11, x12, x13, x14, .ref h15, x16, x17])), (h7, .inr (6, [.int 0, x30, x31, x32, x33, x34])), (h37, .inl (aC 0, 128, .inl (fun _ => 0))), (h38, .inl (aC 1, 128, .inr (.inl (fun _ => 0)))), (h5, .inr (8, [.ref h18, x19, x20, x21, x22, x23, x24, x25, x26, x27, x28, x29])), (h18, .inl (aC 0, 5, .inl (fun _ => 0))), (h15, .inr (3, [.int 0, x35, x36, .ref h37, .ref h38]))] H := hP
  have hD : va_D A [(h1, .inr (10, [x2, x3, x4, .ref h5, x6, .ref h7, x8, x9, x10, x11, x12, x13, x14, .ref h15, x16, x17])), (h7, .inr (6, [.int 0, x30, x31, x32, x33, x34])), (h37, .inl (aC 0, 128, .inl (fun _ => 0))), (h38, .inl (aC 1, 128, .inr (.inl (fun _ => 0)))), (h5, .inr (8, [.ref h18, x19, x20, x21, x22, x23, x24, x25, x26, x27, x28, x29])), (h18, .inl (aC 0, 5, .inl (fun _ => 0))), (h15, .inr (3, [.int 0, x35, x36, .ref h37, .ref h38]))] := hD
  refine lv_iload_n hx hb dX10_orders_61 rfl (lv_at hl 2 rfl) ?_
  refine lv_if_ne (tgt := 73) hx hb dX10_orders_62 (by decide) (fun c_ => absurd (by decide +kernel) c_) (fun _ => ?_)
  refine lv_aload_n hx hb dX10_orders_65 rfl (lv_at hl 1 rfl) ?_
  refine xget F hP 0 rfl rfl inX10 13 (by decide) tb413 rfl dX10_orders_66 ?_
  refine goI (wr := [(h1, .inr (10, [x2, x3, x4, .ref h5, x6, .ref h7, x8, x9, x10, x11, x12, x13, x14, .ref h15, x16, x17])), (h7, .inr (6, [.int 0, x30, x31, x32, x33, x34])), (h37, .inl (aC 0, 128, .inl (fun _ => 0))), (h5, .inr (8, [.ref h18, x19, x20, x21, x22, x23, x24, x25, x26, x27, x28, x29])), (h18, .inl (aC 0, 5, .inl (fun _ => 0)))]) (runV (n := 0) (As := []) (rest := []) F hP hD hS (a_X3_pay_1 l g aC aM h15 h38 x35 x36 (.ref h37)) [3, 6] (by decide) rfl 6 3 rfl rfl rfl tb984 tb981 tb982 tb983 tb15 ⟨by decide, by decide, by decide +kernel⟩ ⟨Nat.le_of_ble_eq_true rfl, Nat.le_of_ble_eq_true rfl⟩ rfl hl.1 rfl (Nat.le_of_ble_eq_true rfl) dX10_orders_69 ⟨Nat.le_of_ble_eq_true rfl, Nat.le_of_ble_eq_true rfl⟩) hP hD hS hA [3, 6] [0, 1, 2, 4, 5] rfl rfl (by decide) (by decide) (fun r_14 w15 H locs hw hP hD hS => ?_)
  have hP : va_P g vwCl [(h1, .inr (10, [x2, x3, x4, .ref h5, x6, .ref h7, x8, x9, x10, x11, x12, x13, x14, .ref h15, x16, x17])), (h7, .inr (6, [.int 0, x30, x31, x32, x33, x34])), (h37, .inl (aC 0, 128, .inl (fun _ => 0))), (h5, .inr (8, [.ref h18, x19, x20, x21, x22, x23, x24, x25, x26, x27, x28, x29])), (h18, .inl (aC 0, 5, .inl (fun _ => 0))), (h38, .inl (aC 1, 128, .inr (.inl (fun _ => 0)))), (h15, .inr (3, [.int 0, x35, x36, .ref h37, .ref h38]))] H := hP
  have hD : va_D A [(h1, .inr (10, [x2, x3, x4, .ref h5, x6, .ref h7, x8, x9, x10, x11, x12, x13, x14, .ref h15, x16, x17])), (h7, .inr (6, [.int 0, x30, x31, x32, x33, x34])), (h37, .inl (aC 0, 128, .inl (fun _ => 0))), (h5, .inr (8, [.ref h18, x19, x20, x21, x22, x23, x24, x25, x26, x27, x28, x29])), (h18, .inl (aC 0, 5, .inl (fun _ => 0))), (h38, .inl (aC 1, 128, .inr (.inl (fun _ => 0)))), (h15, .inr (3, [.int 0, x35, x36, .ref h37, .ref h38]))] := hD
  try dsimp only at hw
  subst hw
  have hP9 := hP.sub (ws' := []) [] rfl
  have hD9 := hD.sub (ws' := []) [] (by decide) rfl
  exact rI () hx hb hr hlk rfl hS rfl hP9 hD9 (Nat.le_of_ble_eq_true rfl) (Nat.le_of_ble_eq_true rfl) dX10_orders_72

set_option maxHeartbeats 4000000 in
set_option maxRecDepth 100000 in
theorem x_orders_1 (l : Launch) (g : va_G) (aC : Nat → ClassId) (aM : Nat → Nat) (h1 h5 h7 h15 h18 h37 h38 : Nat) (x2 x3 x4 x6 x8 x9 x10 x11 x12 x13 x14 x16 x17 x19 x20 x21 x22 x23 x24 x25 x26 x27 x28 x29 x30 x31 x32 x33 x34 x35 x36 : Value) : Ct l g aC aM yX10_orders cX10_orders 3 (some .int) 4 [.ref h1, .int 1] [(h1, .inr (10, [x2, x3, x4, .ref h5, x6, .ref h7, x8, x9, x10, x11, x12, x13, x14, .ref h15, x16, x17])), (h5, .inr (8, [.ref h18, x19, x20, x21, x22, x23, x24, x25, x26, x27, x28, x29])), (h18, .inl (aC 0, 5, .inl (fun _ => 0))), (h7, .inr (6, [.int 0, x30, x31, x32, x33, x34])), (h15, .inr (3, [.int 0, x35, x36, .ref h37, .ref h38])), (h37, .inl (aC 0, 128, .inl (fun _ => 0))), (h38, .inl (aC 1, 128, .inr (.inl (fun _ => 0))))] (QI g (fun (r : Int32) (_ : Unit) => r = 0) (fun (_ : Unit) => [])) 0 0 := by
  refine Ct.mk (by decide) (Nat.le_of_ble_eq_true rfl) ?_
  intro p e s m below meth c A ls hx hb hml hown hts hr hlk hnm hK hA hM hM2 hP hD hS hl
  have hown : s.vm.findClass RX10 = some m.cls := hown
  have F : Fx p s m _ c cX10_orders 3 RX10 g aC aM A := ⟨hx, hb, hml, hown, hts, hK, hA, hM, hM2⟩
  have hl : lv_has ls 3 [(0, .ref h1), (1, .int 1)] := hl
  refine lv_iload_n hx hb dX10_orders_0 rfl (lv_at hl 1 rfl) ?_
  refine lv_iconst (v := 2) hx hb dX10_orders_1 (by decide) ?_
  refine lv_isub hx hb dX10_orders_2 ?_
  refine relit (v := (-1)) (by decide +kernel) ?_
  refine lv_istore_n (lv' := [(2, .int (-1)), (0, .ref h1), (1, .int 1)]) hx hb dX10_orders_3 rfl hl (by decide) rfl (fun ls hl => ?_)
  refine lv_aload_n hx hb dX10_orders_4 rfl (lv_at hl 1 rfl) ?_
  refine xget F hP 0 rfl rfl inX10 13 (by decide) tb413 rfl dX10_orders_5 ?_
  refine lv_aload_n hx hb dX10_orders_8 rfl (lv_at hl 1 rfl) ?_
  refine xget F hP 0 rfl rfl inX10 3 (by decide) tb403 rfl dX10_orders_9 ?_
  refine lv_aload_n hx hb dX10_orders_12 rfl (lv_at hl 1 rfl) ?_
  refine xget F hP 0 rfl rfl inX10 3 (by decide) tb403 rfl dX10_orders_13 ?_
  refine goI (wr := [(h1, .inr (10, [x2, x3, x4, .ref h5, x6, .ref h7, x8, x9, x10, x11, x12, x13, x14, .ref h15, x16, x17])), (h7, .inr (6, [.int 0, x30, x31, x32, x33, x34])), (h15, .inr (3, [.int 0, x35, x36, .ref h37, .ref h38])), (h37, .inl (aC 0, 128, .inl (fun _ => 0))), (h38, .inl (aC 1, 128, .inr (.inl (fun _ => 0))))]) (runV (n := 0) (As := []) (rest := [.ref h5, .ref h15]) F hP hD hS (a_X8_all_1 l g aC aM h5 h18 x19 x20 x21 x22 x23 x24 x25 x26 x27 x28 x29) [1, 2] (by decide) rfl 1 8 rfl rfl rfl tb715 tb930 tb713 tb714 tb9 ⟨by decide, by decide, by decide +kernel⟩ ⟨Nat.le_of_ble_eq_true rfl, Nat.le_of_ble_eq_true rfl⟩ rfl hl.1 rfl (Nat.le_of_ble_eq_true rfl) dX10_orders_16 ⟨Nat.le_of_ble_eq_true rfl, Nat.le_of_ble_eq_true rfl⟩) hP hD hS hA [1, 2] [0, 3, 4, 5, 6] rfl rfl (by decide) (by decide) (fun r_2 w3 H locs hw hP hD hS => ?_)
  have hP : va_P g vwCl [(h1, .inr (10, [x2, x3, x4, .ref h5, x6, .ref h7, x8, x9, x10, x11, x12, x13, x14, .ref h15, x16, x17])), (h7, .inr (6, [.int 0, x30, x31, x32, x33, x34])), (h15, .inr (3, [.int 0, x35, x36, .ref h37, .ref h38])), (h37, .inl (aC 0, 128, .inl (fun _ => 0))), (h38, .inl (aC 1, 128, .inr (.inl (fun _ => 0)))), (h5, .inr (8, [.ref h18, x19, x20, x21, x22, x23, x24, x25, x26, x27, x28, x29])), (h18, .inl (aC 0, 5, .inl (fun _ => 0)))] H := hP
  have hD : va_D A [(h1, .inr (10, [x2, x3, x4, .ref h5, x6, .ref h7, x8, x9, x10, x11, x12, x13, x14, .ref h15, x16, x17])), (h7, .inr (6, [.int 0, x30, x31, x32, x33, x34])), (h15, .inr (3, [.int 0, x35, x36, .ref h37, .ref h38])), (h37, .inl (aC 0, 128, .inl (fun _ => 0))), (h38, .inl (aC 1, 128, .inr (.inl (fun _ => 0)))), (h5, .inr (8, [.ref h18, x19, x20, x21, x22, x23, x24, x25, x26, x27, x28, x29])), (h18, .inl (aC 0, 5, .inl (fun _ => 0)))] := hD
  try dsimp only at hw
  subst hw
  refine lv_aload_n hx hb dX10_orders_19 rfl (lv_at hl 1 rfl) ?_
  refine xget F hP 0 rfl rfl inX10 5 (by decide) tb405 rfl dX10_orders_20 ?_
  refine xget F hP 1 rfl rfl inX6 0 (by decide) tb293 rfl dX10_orders_23 ?_
  refine lv_iconst (v := (-1)) hx hb dX10_orders_26 (by decide) ?_
  refine lv_ixor hx hb dX10_orders_27 ?_
  refine relit (v := (-1)) (by decide +kernel) ?_
  refine lv_iand hx hb dX10_orders_28 ?_
  refine relit (v := 0) (by decide +kernel) ?_
  refine goV (wr := [(h1, .inr (10, [x2, x3, x4, .ref h5, x6, .ref h7, x8, x9, x10, x11, x12, x13, x14, .ref h15, x16, x17])), (h7, .inr (6, [.int 0, x30, x31, x32, x33, x34])), (h37, .inl (aC 0, 128, .inl (fun _ => 0))), (h38, .inl (aC 1, 128, .inr (.inl (fun _ => 0))))]) (runV (n := 2) (As := [.ref h5, .int 0]) (rest := []) F hP hD hS (a_X3_choose_1 l g aC aM h15 h5 h18 x35 x36 (.ref h37) (.ref h38) x19 x20 x21 x22 x23 x24 x25 x26 x27 x28 x29) [2, 5, 6] (by decide) rfl 2 3 rfl rfl rfl tb962 tb959 tb960 tb961 tb15 ⟨by decide, by decide, by decide +kernel⟩ ⟨Nat.le_of_ble_eq_true rfl, Nat.le_of_ble_eq_true rfl⟩ rfl hl.1 rfl (Nat.le_of_ble_eq_true rfl) dX10_orders_29 ⟨Nat.le_of_ble_eq_true rfl, Nat.le_of_ble_eq_true rfl⟩) hP hD hS hA [2, 5, 6] [0, 1, 3, 4] rfl rfl (by decide) (by decide) (fun w6 H locs hw hP hD hS => ?_)
  have hP : va_P g vwCl [(h1, .inr (10, [x2, x3, x4, .ref h5, x6, .ref h7, x8, x9, x10, x11, x12, x13, x14, .ref h15, x16, x17])), (h7, .inr (6, [.int 0, x30, x31, x32, x33, x34])), (h37, .inl (aC 0, 128, .inl (fun _ => 0))), (h38, .inl (aC 1, 128, .inr (.inl (fun _ => 0)))), (h15, .inr (3, [.int 0, x35, x36, .ref h37, .ref h38])), (h5, .inr (8, [.ref h18, x19, x20, x21, x22, x23, x24, x25, x26, x27, x28, x29])), (h18, .inl (aC 0, 5, .inl (fun _ => 0)))] H := hP
  have hD : va_D A [(h1, .inr (10, [x2, x3, x4, .ref h5, x6, .ref h7, x8, x9, x10, x11, x12, x13, x14, .ref h15, x16, x17])), (h7, .inr (6, [.int 0, x30, x31, x32, x33, x34])), (h37, .inl (aC 0, 128, .inl (fun _ => 0))), (h38, .inl (aC 1, 128, .inr (.inl (fun _ => 0)))), (h15, .inr (3, [.int 0, x35, x36, .ref h37, .ref h38])), (h5, .inr (8, [.ref h18, x19, x20, x21, x22, x23, x24, x25, x26, x27, x28, x29])), (h18, .inl (aC 0, 5, .inl (fun _ => 0)))] := hD
  refine lv_iload_n hx hb dX10_orders_32 rfl (lv_at hl 2 rfl) ?_
  refine lv_if_lt (tgt := 47) hx hb dX10_orders_33 (by decide) (fun c_ => absurd c_ (by decide +kernel)) (fun _ => ?_)
  refine lv_iload_n hx hb dX10_orders_36 rfl (lv_at hl 0 rfl) ?_
  refine lv_aload_n hx hb dX10_orders_37 rfl (lv_at hl 1 rfl) ?_
  refine xget F hP 0 rfl rfl inX10 13 (by decide) tb413 rfl dX10_orders_38 ?_
  refine xget F hP 4 rfl rfl inX3 0 (by decide) tb371 rfl dX10_orders_41 ?_
  refine lv_icmp_lt (tgt := 50) hx hb dX10_orders_44 (by decide) (fun _ => ?_) (fun c_ => absurd (by decide +kernel) c_)
  refine lv_aload_n hx hb dX10_orders_50 rfl (lv_at hl 1 rfl) ?_
  refine xget F hP 0 rfl rfl inX10 13 (by decide) tb413 rfl dX10_orders_51 ?_
  refine lv_aload_n hx hb dX10_orders_54 rfl (lv_at hl 1 rfl) ?_
  refine xget F hP 0 rfl rfl inX10 3 (by decide) tb403 rfl dX10_orders_55 ?_
  refine goV (wr := [(h1, .inr (10, [x2, x3, x4, .ref h5, x6, .ref h7, x8, x9, x10, x11, x12, x13, x14, .ref h15, x16, x17])), (h7, .inr (6, [.int 0, x30, x31, x32, x33, x34]))]) (runV (n := 1) (As := [.ref h5]) (rest := []) F hP hD hS (a_X3_pack_1 l g aC aM h15 h5 h37 h38 h18 x35 x36 x19 x20 x21 x22 x23 x24 x25 x26 x27 x28 x29) [2, 3, 4, 5, 6] (by decide) rfl 4 3 rfl rfl rfl tb966 tb963 tb964 tb965 tb15 ⟨by decide, by decide, by decide +kernel⟩ ⟨Nat.le_of_ble_eq_true rfl, Nat.le_of_ble_eq_true rfl⟩ rfl hl.1 rfl (Nat.le_of_ble_eq_true rfl) dX10_orders_58 ⟨Nat.le_of_ble_eq_true rfl, Nat.le_of_ble_eq_true rfl⟩) hP hD hS hA [2, 3, 4, 5, 6] [0, 1] rfl rfl (by decide) (by decide) (fun w11 H locs hw hP hD hS => ?_)
  have hP : va_P g vwCl [(h1, .inr (10, [x2, x3, x4, .ref h5, x6, .ref h7, x8, x9, x10, x11, x12, x13, x14, .ref h15, x16, x17])), (h7, .inr (6, [.int 0, x30, x31, x32, x33, x34])), (h37, .inl (aC 0, 128, .inl (fun _ => 0))), (h38, .inl (aC 1, 128, .inr (.inl (fun _ => 0)))), (h5, .inr (8, [.ref h18, x19, x20, x21, x22, x23, x24, x25, x26, x27, x28, x29])), (h18, .inl (aC 0, 5, .inl (fun _ => 0))), (h15, .inr (3, [.int 0, x35, x36, .ref h37, .ref h38]))] H := hP
  have hD : va_D A [(h1, .inr (10, [x2, x3, x4, .ref h5, x6, .ref h7, x8, x9, x10, x11, x12, x13, x14, .ref h15, x16, x17])), (h7, .inr (6, [.int 0, x30, x31, x32, x33, x34])), (h37, .inl (aC 0, 128, .inl (fun _ => 0))), (h38, .inl (aC 1, 128, .inr (.inl (fun _ => 0)))), (h5, .inr (8, [.ref h18, x19, x20, x21, x22, x23, x24, x25, x26, x27, x28, x29])), (h18, .inl (aC 0, 5, .inl (fun _ => 0))), (h15, .inr (3, [.int 0, x35, x36, .ref h37, .ref h38]))] := hD
  refine lv_iload_n hx hb dX10_orders_61 rfl (lv_at hl 2 rfl) ?_
  refine lv_if_ne (tgt := 73) hx hb dX10_orders_62 (by decide) (fun _ => ?_) (fun c_ => absurd c_ (by decide +kernel))
  refine lv_iload_n hx hb dX10_orders_73 rfl (lv_at hl 2 rfl) ?_
  refine lv_iconst (v := 1) hx hb dX10_orders_74 (by decide) ?_
  refine lv_icmp_ne (tgt := 88) hx hb dX10_orders_75 (by decide) (fun c_ => absurd (by decide +kernel) c_) (fun _ => ?_)
  refine lv_aload_n hx hb dX10_orders_78 rfl (lv_at hl 1 rfl) ?_
  refine xget F hP 0 rfl rfl inX10 13 (by decide) tb413 rfl dX10_orders_79 ?_
  refine goI (wr := [(h1, .inr (10, [x2, x3, x4, .ref h5, x6, .ref h7, x8, x9, x10, x11, x12, x13, x14, .ref h15, x16, x17])), (h7, .inr (6, [.int 0, x30, x31, x32, x33, x34])), (h37, .inl (aC 0, 128, .inl (fun _ => 0))), (h5, .inr (8, [.ref h18, x19, x20, x21, x22, x23, x24, x25, x26, x27, x28, x29])), (h18, .inl (aC 0, 5, .inl (fun _ => 0)))]) (runV (n := 0) (As := []) (rest := []) F hP hD hS (a_X3_rise_1 l g aC aM h15 h38 x35 x36 (.ref h37)) [3, 6] (by decide) rfl 6 3 rfl rfl rfl tb992 tb989 tb990 tb991 tb15 ⟨by decide, by decide, by decide +kernel⟩ ⟨Nat.le_of_ble_eq_true rfl, Nat.le_of_ble_eq_true rfl⟩ rfl hl.1 rfl (Nat.le_of_ble_eq_true rfl) dX10_orders_82 ⟨Nat.le_of_ble_eq_true rfl, Nat.le_of_ble_eq_true rfl⟩) hP hD hS hA [3, 6] [0, 1, 2, 4, 5] rfl rfl (by decide) (by decide) (fun r_15 w16 H locs hw hP hD hS => ?_)
  have hP : va_P g vwCl [(h1, .inr (10, [x2, x3, x4, .ref h5, x6, .ref h7, x8, x9, x10, x11, x12, x13, x14, .ref h15, x16, x17])), (h7, .inr (6, [.int 0, x30, x31, x32, x33, x34])), (h37, .inl (aC 0, 128, .inl (fun _ => 0))), (h5, .inr (8, [.ref h18, x19, x20, x21, x22, x23, x24, x25, x26, x27, x28, x29])), (h18, .inl (aC 0, 5, .inl (fun _ => 0))), (h38, .inl (aC 1, 128, .inr (.inl (fun _ => 0)))), (h15, .inr (3, [.int 0, x35, x36, .ref h37, .ref h38]))] H := hP
  have hD : va_D A [(h1, .inr (10, [x2, x3, x4, .ref h5, x6, .ref h7, x8, x9, x10, x11, x12, x13, x14, .ref h15, x16, x17])), (h7, .inr (6, [.int 0, x30, x31, x32, x33, x34])), (h37, .inl (aC 0, 128, .inl (fun _ => 0))), (h5, .inr (8, [.ref h18, x19, x20, x21, x22, x23, x24, x25, x26, x27, x28, x29])), (h18, .inl (aC 0, 5, .inl (fun _ => 0))), (h38, .inl (aC 1, 128, .inr (.inl (fun _ => 0)))), (h15, .inr (3, [.int 0, x35, x36, .ref h37, .ref h38]))] := hD
  try dsimp only at hw
  subst hw
  refine lv_goto (tgt := 96) hx hb dX10_orders_85 (by decide) ?_
  have hP9 := hP.sub (ws' := []) [] rfl
  have hD9 := hD.sub (ws' := []) [] (by decide) rfl
  exact rI () hx hb hr hlk rfl hS rfl hP9 hD9 (Nat.le_of_ble_eq_true rfl) (Nat.le_of_ble_eq_true rfl) dX10_orders_96

theorem dX10_thefts_0 : decode cX10_thefts 0 = .ok (.iload_n 1, 1) := by decide +kernel
theorem dX10_thefts_1 : decode cX10_thefts 1 = .ok (.ifCond .lt 34, 3) := by decide +kernel
theorem dX10_thefts_4 : decode cX10_thefts 4 = .ok (.iload_n 1, 1) := by decide +kernel
theorem dX10_thefts_5 : decode cX10_thefts 5 = .ok (.getstatic 74, 3) := by decide +kernel
theorem dX10_thefts_8 : decode cX10_thefts 8 = .ok (.iconst 1, 1) := by decide +kernel
theorem dX10_thefts_9 : decode cX10_thefts 9 = .ok (.iaload, 1) := by decide +kernel
theorem dX10_thefts_10 : decode cX10_thefts 10 = .ok (.if_icmp .gt 25, 3) := by decide +kernel
theorem dX10_thefts_13 : decode cX10_thefts 13 = .ok (.iload_n 2, 1) := by decide +kernel
theorem dX10_thefts_14 : decode cX10_thefts 14 = .ok (.ifCond .lt 21, 3) := by decide +kernel
theorem dX10_thefts_17 : decode cX10_thefts 17 = .ok (.iload_n 2, 1) := by decide +kernel
theorem dX10_thefts_18 : decode cX10_thefts 18 = .ok (.getstatic 74, 3) := by decide +kernel
theorem dX10_thefts_21 : decode cX10_thefts 21 = .ok (.iconst 3, 1) := by decide +kernel
theorem dX10_thefts_22 : decode cX10_thefts 22 = .ok (.iaload, 1) := by decide +kernel
theorem dX10_thefts_23 : decode cX10_thefts 23 = .ok (.if_icmp .gt 12, 3) := by decide +kernel
theorem dX10_thefts_26 : decode cX10_thefts 26 = .ok (.iload_n 3, 1) := by decide +kernel
theorem dX10_thefts_27 : decode cX10_thefts 27 = .ok (.ifCond .lt 8, 3) := by decide +kernel
theorem dX10_thefts_30 : decode cX10_thefts 30 = .ok (.iload_n 3, 1) := by decide +kernel
theorem dX10_thefts_31 : decode cX10_thefts 31 = .ok (.iconst 1, 1) := by decide +kernel
theorem dX10_thefts_32 : decode cX10_thefts 32 = .ok (.if_icmp .le 5, 3) := by decide +kernel
theorem dX10_thefts_35 : decode cX10_thefts 35 = .ok (.iconst (-1), 1) := by decide +kernel
theorem dX10_thefts_36 : decode cX10_thefts 36 = .ok (.ireturn, 1) := by decide +kernel
theorem dX10_thefts_37 : decode cX10_thefts 37 = .ok (.aload_n 0, 1) := by decide +kernel
theorem dX10_thefts_38 : decode cX10_thefts 38 = .ok (.aload_n 0, 1) := by decide +kernel
theorem dX10_thefts_39 : decode cX10_thefts 39 = .ok (.getfield 45, 3) := by decide +kernel
theorem dX10_thefts_42 : decode cX10_thefts 42 = .ok (.invokevirtual 163, 3) := by decide +kernel
theorem dX10_thefts_45 : decode cX10_thefts 45 = .ok (.iconst (-1), 1) := by decide +kernel
theorem dX10_thefts_46 : decode cX10_thefts 46 = .ok (.istore 4, 2) := by decide +kernel
theorem dX10_thefts_48 : decode cX10_thefts 48 = .ok (.iconst (-1), 1) := by decide +kernel
theorem dX10_thefts_49 : decode cX10_thefts 49 = .ok (.istore 5, 2) := by decide +kernel
theorem dX10_thefts_51 : decode cX10_thefts 51 = .ok (.iconst 0, 1) := by decide +kernel
theorem dX10_thefts_52 : decode cX10_thefts 52 = .ok (.istore 6, 2) := by decide +kernel
theorem dX10_thefts_54 : decode cX10_thefts 54 = .ok (.iload 6, 2) := by decide +kernel
theorem dX10_thefts_56 : decode cX10_thefts 56 = .ok (.aload_n 0, 1) := by decide +kernel
theorem dX10_thefts_57 : decode cX10_thefts 57 = .ok (.getfield 35, 3) := by decide +kernel
theorem dX10_thefts_60 : decode cX10_thefts 60 = .ok (.invokevirtual 212, 3) := by decide +kernel
theorem dX10_thefts_63 : decode cX10_thefts 63 = .ok (.if_icmp .gt 136, 3) := by decide +kernel
theorem dX10_thefts_66 : decode cX10_thefts 66 = .ok (.iload 6, 2) := by decide +kernel
theorem dX10_thefts_68 : decode cX10_thefts 68 = .ok (.aload_n 0, 1) := by decide +kernel
theorem dX10_thefts_69 : decode cX10_thefts 69 = .ok (.getfield 45, 3) := by decide +kernel
theorem dX10_thefts_72 : decode cX10_thefts 72 = .ok (.getfield 133, 3) := by decide +kernel
theorem dX10_thefts_75 : decode cX10_thefts 75 = .ok (.iconst (-1), 1) := by decide +kernel
theorem dX10_thefts_76 : decode cX10_thefts 76 = .ok (.ixor, 1) := by decide +kernel
theorem dX10_thefts_77 : decode cX10_thefts 77 = .ok (.iand, 1) := by decide +kernel
theorem dX10_thefts_78 : decode cX10_thefts 78 = .ok (.ifCond .ne 115, 3) := by decide +kernel
theorem dX10_thefts_81 : decode cX10_thefts 81 = .ok (.iload 6, 2) := by decide +kernel
theorem dX10_thefts_83 : decode cX10_thefts 83 = .ok (.invokestatic 219, 3) := by decide +kernel
theorem dX10_thefts_86 : decode cX10_thefts 86 = .ok (.iload_n 1, 1) := by decide +kernel
theorem dX10_thefts_87 : decode cX10_thefts 87 = .ok (.if_icmp .le 6, 3) := by decide +kernel
theorem dX10_thefts_93 : decode cX10_thefts 93 = .ok (.aload_n 0, 1) := by decide +kernel
theorem dX10_thefts_94 : decode cX10_thefts 94 = .ok (.getfield 35, 3) := by decide +kernel
theorem dX10_thefts_97 : decode cX10_thefts 97 = .ok (.iload 6, 2) := by decide +kernel
theorem dX10_thefts_99 : decode cX10_thefts 99 = .ok (.invokevirtual 159, 3) := by decide +kernel
theorem dX10_thefts_102 : decode cX10_thefts 102 = .ok (.istore 7, 2) := by decide +kernel
theorem dX10_thefts_104 : decode cX10_thefts 104 = .ok (.iload 7, 2) := by decide +kernel
theorem dX10_thefts_106 : decode cX10_thefts 106 = .ok (.iload 4, 2) := by decide +kernel
theorem dX10_thefts_108 : decode cX10_thefts 108 = .ok (.if_icmp .gt 23, 3) := by decide +kernel
theorem dX10_thefts_131 : decode cX10_thefts 131 = .ok (.iconst 1, 1) := by decide +kernel
theorem dX10_thefts_132 : decode cX10_thefts 132 = .ok (.goto 4, 3) := by decide +kernel
theorem dX10_thefts_136 : decode cX10_thefts 136 = .ok (.istore 8, 2) := by decide +kernel
theorem dX10_thefts_138 : decode cX10_thefts 138 = .ok (.iload 8, 2) := by decide +kernel
theorem dX10_thefts_140 : decode cX10_thefts 140 = .ok (.ifCond .eq 53, 3) := by decide +kernel
theorem dX10_thefts_143 : decode cX10_thefts 143 = .ok (.aload_n 0, 1) := by decide +kernel
theorem dX10_thefts_144 : decode cX10_thefts 144 = .ok (.getfield 35, 3) := by decide +kernel
theorem dX10_thefts_147 : decode cX10_thefts 147 = .ok (.iload 6, 2) := by decide +kernel
theorem dX10_thefts_149 : decode cX10_thefts 149 = .ok (.aload_n 0, 1) := by decide +kernel
theorem dX10_thefts_150 : decode cX10_thefts 150 = .ok (.getfield 45, 3) := by decide +kernel
theorem dX10_thefts_153 : decode cX10_thefts 153 = .ok (.getfield 133, 3) := by decide +kernel
theorem dX10_thefts_156 : decode cX10_thefts 156 = .ok (.invokevirtual 224, 3) := by decide +kernel
theorem dX8_fromTop_0 : decode cX8_fromTop 0 = .ok (.iconst 0, 1) := by decide +kernel
theorem dX8_fromTop_1 : decode cX8_fromTop 1 = .ok (.istore_n 3, 1) := by decide +kernel
theorem dX8_fromTop_2 : decode cX8_fromTop 2 = .ok (.iload_n 3, 1) := by decide +kernel
theorem dX8_fromTop_3 : decode cX8_fromTop 3 = .ok (.aload_n 0, 1) := by decide +kernel
theorem dX8_fromTop_4 : decode cX8_fromTop 4 = .ok (.getfield 13, 3) := by decide +kernel
theorem dX8_fromTop_7 : decode cX8_fromTop 7 = .ok (.iconst 1, 1) := by decide +kernel
theorem dX8_fromTop_8 : decode cX8_fromTop 8 = .ok (.iaload, 1) := by decide +kernel
theorem dX8_fromTop_9 : decode cX8_fromTop 9 = .ok (.if_icmp .ge 35, 3) := by decide +kernel
theorem dX8_fromTop_44 : decode cX8_fromTop 44 = .ok (.iconst 1, 1) := by decide +kernel
theorem dX8_fromTop_45 : decode cX8_fromTop 45 = .ok (.ireturn, 1) := by decide +kernel
set_option maxHeartbeats 4000000 in
set_option maxRecDepth 100000 in
theorem a_X8_fromTop_1 (l : Launch) (g : va_G) (aC : Nat → ClassId) (aM : Nat → Nat) (h1 h2 : Nat) (x3 x4 x5 x6 x7 x8 x9 x10 x11 x12 x13 : Value) : Ct l g aC aM yX8_fromTop cX8_fromTop 4 (some .boolean) 1 [.ref h1, .int 0, .int 0] [(h1, .inr (8, [.ref h2, x3, x4, x5, x6, x7, x8, x9, x10, x11, x12, x13])), (h2, .inl (aC 0, 5, .inl (fun _ => 0)))] (QI g (fun (r : Int32) (_ : Unit) => r = 1) (fun (_ : Unit) => [(h1, .inr (8, [.ref h2, x3, x4, x5, x6, x7, x8, x9, x10, x11, x12, x13])), (h2, .inl (aC 0, 5, .inl (fun _ => 0)))])) 0 0 := by
  refine Ct.mk (by decide) (Nat.le_of_ble_eq_true rfl) ?_
  intro p e s m below meth c A ls hx hb hml hown hts hr hlk hnm hK hA hM hM2 hP hD hS hl
  have hown : s.vm.findClass RX8 = some m.cls := hown
  have F : Fx p s m _ c cX8_fromTop 4 RX8 g aC aM A := ⟨hx, hb, hml, hown, hts, hK, hA, hM, hM2⟩
  have hl : lv_has ls 4 [(0, .ref h1), (1, .int 0), (2, .int 0)] := hl
  refine lv_iconst (v := 0) hx hb dX8_fromTop_0 (by decide) ?_
  refine lv_istore_n (lv' := [(3, .int 0), (0, .ref h1), (1, .int 0), (2, .int 0)]) hx hb dX8_fromTop_1 rfl hl (by decide) rfl (fun ls hl => ?_)
  refine lv_iload_n hx hb dX8_fromTop_2 rfl (lv_at hl 0 rfl) ?_
  refine lv_aload_n hx hb dX8_fromTop_3 rfl (lv_at hl 1 rfl) ?_
  refine xget F hP 0 rfl rfl inX8 0 (by decide) tb227 rfl dX8_fromTop_4 ?_
  refine lv_iconst (v := 1) hx hb dX8_fromTop_7 (by decide) ?_
  refine xilo (v := 0) F hP 1 rfl 1 (by decide +kernel) (by decide +kernel) (by decide) (by decide +kernel) dX8_fromTop_8 ?_
  refine lv_icmp_ge (tgt := 44) hx hb dX8_fromTop_9 (by decide) (fun _ => ?_) (fun c_ => absurd (by decide +kernel) c_)
  refine lv_iconst (v := 1) hx hb dX8_fromTop_44 (by decide) ?_
  have hP9 := hP.sub (ws' := [(h1, .inr (8, [.ref h2, x3, x4, x5, x6, x7, x8, x9, x10, x11, x12, x13])), (h2, .inl (aC 0, 5, .inl (fun _ => 0)))]) [0, 1] rfl
  have hD9 := hD.sub (ws' := [(h1, .inr (8, [.ref h2, x3, x4, x5, x6, x7, x8, x9, x10, x11, x12, x13])), (h2, .inl (aC 0, 5, .inl (fun _ => 0)))]) [0, 1] (by decide) rfl
  exact rI () hx hb hr hlk rfl hS rfl hP9 hD9 (Nat.le_of_ble_eq_true rfl) (Nat.le_of_ble_eq_true rfl) dX8_fromTop_45

theorem tb849 : (Jvm.Cond.instanceMethod ({ cls := "StairGang$Town", name := "fromTop", desc := "(II)Z" } : Jvm.MethodName)) ∈ gw := lw_m 849 (by decide +kernel)
theorem tb850 : (Jvm.Cond.selects "StairGang$Town" ({ cls := "StairGang$Town", name := "fromTop", desc := "(II)Z" } : Jvm.MethodName) ({ cls := "StairGang$Town", name := "fromTop", desc := "(II)Z" } : Jvm.MethodName)) ∈ gw := lw_m 850 (by decide +kernel)
theorem tb851 : (Jvm.Cond.code ({ cls := "StairGang$Town", name := "fromTop", desc := "(II)Z" } : Jvm.MethodName) prog_10_method_21_code (4 : Nat) (Option.some Jvm.ClassFile.FieldType.boolean)) ∈ gw := lw_m 851 (by decide +kernel)
theorem tb936 : (Jvm.Cond.methodLink "StairGang" (224 : Nat) ({ cls := "StairGang$Town", name := "fromTop", desc := "(II)Z" } : Jvm.MethodName)) ∈ gw := lw_m 936 (by decide +kernel)
theorem dX10_thefts_159 : decode cX10_thefts 159 = .ok (.ifCond .eq 34, 3) := by decide +kernel
theorem dX10_thefts_162 : decode cX10_thefts 162 = .ok (.aload_n 0, 1) := by decide +kernel
theorem dX10_thefts_163 : decode cX10_thefts 163 = .ok (.aload_n 0, 1) := by decide +kernel
theorem dX10_thefts_164 : decode cX10_thefts 164 = .ok (.getfield 45, 3) := by decide +kernel
theorem dX10_thefts_167 : decode cX10_thefts 167 = .ok (.getfield 133, 3) := by decide +kernel
theorem dX10_thefts_170 : decode cX10_thefts 170 = .ok (.iload 6, 2) := by decide +kernel
theorem dX10_thefts_172 : decode cX10_thefts 172 = .ok (.iconst (-1), 1) := by decide +kernel
theorem dX10_thefts_173 : decode cX10_thefts 173 = .ok (.ixor, 1) := by decide +kernel
theorem dX10_thefts_174 : decode cX10_thefts 174 = .ok (.iand, 1) := by decide +kernel
theorem dX10_thefts_175 : decode cX10_thefts 175 = .ok (.invokevirtual 167, 3) := by decide +kernel
theorem dX10_thefts_178 : decode cX10_thefts 178 = .ok (.invokestatic 219, 3) := by decide +kernel
theorem dX10_thefts_181 : decode cX10_thefts 181 = .ok (.iload_n 2, 1) := by decide +kernel
theorem dX10_thefts_182 : decode cX10_thefts 182 = .ok (.if_icmp .gt 11, 3) := by decide +kernel
theorem dX10_thefts_185 : decode cX10_thefts 185 = .ok (.iload 7, 2) := by decide +kernel
theorem dX10_thefts_187 : decode cX10_thefts 187 = .ok (.istore 4, 2) := by decide +kernel
theorem dX10_thefts_189 : decode cX10_thefts 189 = .ok (.iload 6, 2) := by decide +kernel
theorem dX10_thefts_191 : decode cX10_thefts 191 = .ok (.istore 5, 2) := by decide +kernel
theorem dX10_thefts_193 : decode cX10_thefts 193 = .ok (.iinc 6 1, 3) := by decide +kernel
theorem dX10_thefts_196 : decode cX10_thefts 196 = .ok (.goto (-142), 3) := by decide +kernel
theorem dX10_thefts_199 : decode cX10_thefts 199 = .ok (.iload_n 3, 1) := by decide +kernel
theorem dX10_thefts_200 : decode cX10_thefts 200 = .ok (.ifCond .ne 8, 3) := by decide +kernel
theorem dX10_thefts_203 : decode cX10_thefts 203 = .ok (.iload 4, 2) := by decide +kernel
theorem dX10_thefts_205 : decode cX10_thefts 205 = .ok (.goto 5, 3) := by decide +kernel
theorem dX10_thefts_208 : decode cX10_thefts 208 = .ok (.iload 5, 2) := by decide +kernel
theorem dX10_thefts_210 : decode cX10_thefts 210 = .ok (.ireturn, 1) := by decide +kernel
set_option maxHeartbeats 4000000 in
set_option maxRecDepth 100000 in
theorem x_thefts_1lo (l : Launch) (g : va_G) (aC : Nat → ClassId) (aM : Nat → Nat) (h1 h5 h7 h18 : Nat) (x2 x3 x4 x6 x8 x9 x10 x11 x12 x13 x14 x15 x16 x17 x19 x20 x21 x22 x23 x24 x25 x26 x27 x28 x29 x30 x31 x32 x33 x34 : Value) (n_1 n_2 n_3 : Int32) (hh1 : n_1 ≤ (-1)) : Ct l g aC aM yX10_thefts cX10_thefts 9 (some .int) 2 [.ref h1, .int n_1, .int n_2, .int n_3] [(h1, .inr (10, [x2, x3, x4, .ref h5, x6, .ref h7, x8, x9, x10, x11, x12, x13, x14, x15, x16, x17])), (h5, .inr (8, [.ref h18, x19, x20, x21, x22, x23, x24, x25, x26, x27, x28, x29])), (h18, .inl (aC 0, 5, .inl (fun _ => 0))), (h7, .inr (6, [.int 0, x30, x31, x32, x33, x34]))] (QI g (fun (r : Int32) (_ : Unit) => r = (-1)) (fun (_ : Unit) => [])) 0 0 := by
  refine Ct.mk (by decide) (Nat.le_of_ble_eq_true rfl) ?_
  intro p e s m below meth c A ls hx hb hml hown hts hr hlk hnm hK hA hM hM2 hP hD hS hl
  have hown : s.vm.findClass RX10 = some m.cls := hown
  have F : Fx p s m _ c cX10_thefts 9 RX10 g aC aM A := ⟨hx, hb, hml, hown, hts, hK, hA, hM, hM2⟩
  have hl : lv_has ls 9 [(0, .ref h1), (1, .int n_1), (2, .int n_2), (3, .int n_3)] := hl
  refine lv_iload_n hx hb dX10_thefts_0 rfl (lv_at hl 1 rfl) ?_
  refine lv_if_lt (tgt := 35) hx hb dX10_thefts_1 (by decide) (fun c1 => ?_) (fun c1 => ?_)
  · refine lv_iconst (v := (-1)) hx hb dX10_thefts_35 (by decide) ?_
    have hP9 := hP.sub (ws' := []) [] rfl
    have hD9 := hD.sub (ws' := []) [] (by decide) rfl
    exact rI () hx hb hr hlk rfl hS rfl hP9 hD9 (Nat.le_of_ble_eq_true rfl) (Nat.le_of_ble_eq_true rfl) dX10_thefts_36
  · exfalso
    simp only [Int32.lt_iff_toInt_lt, Int32.le_iff_toInt_le, ← Int32.toInt_inj, show (-1 : Int32).toInt = -1 by decide, show (0 : Int32).toInt = 0 by decide] at hh1 c1; omega

set_option maxHeartbeats 4000000 in
set_option maxRecDepth 100000 in
theorem x_thefts_1hi (l : Launch) (g : va_G) (aC : Nat → ClassId) (aM : Nat → Nat) (h1 h5 h7 h18 : Nat) (x2 x3 x4 x6 x8 x9 x10 x11 x12 x13 x14 x15 x16 x17 x19 x20 x21 x22 x23 x24 x25 x26 x27 x28 x29 x30 x31 x32 x33 x34 : Value) (n_1 n_2 n_3 : Int32) (hl1 : 11 ≤ n_1) : Ct l g aC aM yX10_thefts cX10_thefts 9 (some .int) 2 [.ref h1, .int n_1, .int n_2, .int n_3] [(h1, .inr (10, [x2, x3, x4, .ref h5, x6, .ref h7, x8, x9, x10, x11, x12, x13, x14, x15, x16, x17])), (h5, .inr (8, [.ref h18, x19, x20, x21, x22, x23, x24, x25, x26, x27, x28, x29])), (h18, .inl (aC 0, 5, .inl (fun _ => 0))), (h7, .inr (6, [.int 0, x30, x31, x32, x33, x34]))] (QI g (fun (r : Int32) (_ : Unit) => r = (-1)) (fun (_ : Unit) => [])) 0 0 := by
  refine Ct.mk (by decide) (Nat.le_of_ble_eq_true rfl) ?_
  intro p e s m below meth c A ls hx hb hml hown hts hr hlk hnm hK hA hM hM2 hP hD hS hl
  have hown : s.vm.findClass RX10 = some m.cls := hown
  have F : Fx p s m _ c cX10_thefts 9 RX10 g aC aM A := ⟨hx, hb, hml, hown, hts, hK, hA, hM, hM2⟩
  have hl : lv_has ls 9 [(0, .ref h1), (1, .int n_1), (2, .int n_2), (3, .int n_3)] := hl
  refine lv_iload_n hx hb dX10_thefts_0 rfl (lv_at hl 1 rfl) ?_
  refine lv_if_lt (tgt := 35) hx hb dX10_thefts_1 (by decide) (fun c1 => ?_) (fun c1 => ?_)
  · exfalso
    simp only [Int32.lt_iff_toInt_lt, Int32.le_iff_toInt_le, ← Int32.toInt_inj, show (0 : Int32).toInt = 0 by decide, show (11 : Int32).toInt = 11 by decide] at hl1 c1; omega
  · refine lv_iload_n hx hb dX10_thefts_4 rfl (lv_at hl 1 rfl) ?_
    refine xmost F hS tb363 dX10_thefts_5 ?_
    refine lv_iconst (v := 1) hx hb dX10_thefts_8 (by decide) ?_
    refine xmolo (v := 10) F hS 1 (by decide +kernel) (by decide +kernel) (by decide) rfl dX10_thefts_9 ?_
    refine lv_icmp_gt (tgt := 35) hx hb dX10_thefts_10 (by decide) (fun c2 => ?_) (fun c2 => ?_)
    · refine lv_iconst (v := (-1)) hx hb dX10_thefts_35 (by decide) ?_
      have hP9 := hP.sub (ws' := []) [] rfl
      have hD9 := hD.sub (ws' := []) [] (by decide) rfl
      exact rI () hx hb hr hlk rfl hS rfl hP9 hD9 (Nat.le_of_ble_eq_true rfl) (Nat.le_of_ble_eq_true rfl) dX10_thefts_36
    · exfalso
      simp only [Int32.lt_iff_toInt_lt, Int32.le_iff_toInt_le, ← Int32.toInt_inj, show (0 : Int32).toInt = 0 by decide, show (10 : Int32).toInt = 10 by decide, show (11 : Int32).toInt = 11 by decide] at hl1 c1 c2; omega

set_option maxHeartbeats 4000000 in
set_option maxRecDepth 100000 in
theorem x_thefts_2lo (l : Launch) (g : va_G) (aC : Nat → ClassId) (aM : Nat → Nat) (h1 h5 h7 h18 : Nat) (x2 x3 x4 x6 x8 x9 x10 x11 x12 x13 x14 x15 x16 x17 x19 x20 x21 x22 x23 x24 x25 x26 x27 x28 x29 x30 x31 x32 x33 x34 : Value) (n_1 n_2 n_3 : Int32) (hl1 : 0 ≤ n_1) (hh1 : n_1 ≤ 10) (hh2 : n_2 ≤ (-1)) : Ct l g aC aM yX10_thefts cX10_thefts 9 (some .int) 2 [.ref h1, .int n_1, .int n_2, .int n_3] [(h1, .inr (10, [x2, x3, x4, .ref h5, x6, .ref h7, x8, x9, x10, x11, x12, x13, x14, x15, x16, x17])), (h5, .inr (8, [.ref h18, x19, x20, x21, x22, x23, x24, x25, x26, x27, x28, x29])), (h18, .inl (aC 0, 5, .inl (fun _ => 0))), (h7, .inr (6, [.int 0, x30, x31, x32, x33, x34]))] (QI g (fun (r : Int32) (_ : Unit) => r = (-1)) (fun (_ : Unit) => [])) 0 0 := by
  refine Ct.mk (by decide) (Nat.le_of_ble_eq_true rfl) ?_
  intro p e s m below meth c A ls hx hb hml hown hts hr hlk hnm hK hA hM hM2 hP hD hS hl
  have hown : s.vm.findClass RX10 = some m.cls := hown
  have F : Fx p s m _ c cX10_thefts 9 RX10 g aC aM A := ⟨hx, hb, hml, hown, hts, hK, hA, hM, hM2⟩
  have hl : lv_has ls 9 [(0, .ref h1), (1, .int n_1), (2, .int n_2), (3, .int n_3)] := hl
  refine lv_iload_n hx hb dX10_thefts_0 rfl (lv_at hl 1 rfl) ?_
  refine lv_if_lt (tgt := 35) hx hb dX10_thefts_1 (by decide) (fun c1 => ?_) (fun c1 => ?_)
  · exfalso
    simp only [Int32.lt_iff_toInt_lt, Int32.le_iff_toInt_le, ← Int32.toInt_inj, show (0 : Int32).toInt = 0 by decide, show (10 : Int32).toInt = 10 by decide] at hl1 hh1 c1; omega
  · refine lv_iload_n hx hb dX10_thefts_4 rfl (lv_at hl 1 rfl) ?_
    refine xmost F hS tb363 dX10_thefts_5 ?_
    refine lv_iconst (v := 1) hx hb dX10_thefts_8 (by decide) ?_
    refine xmolo (v := 10) F hS 1 (by decide +kernel) (by decide +kernel) (by decide) rfl dX10_thefts_9 ?_
    refine lv_icmp_gt (tgt := 35) hx hb dX10_thefts_10 (by decide) (fun c2 => ?_) (fun c2 => ?_)
    · exfalso
      simp only [Int32.lt_iff_toInt_lt, Int32.le_iff_toInt_le, ← Int32.toInt_inj, show (0 : Int32).toInt = 0 by decide, show (10 : Int32).toInt = 10 by decide] at hl1 hh1 c1 c2; omega
    · refine lv_iload_n hx hb dX10_thefts_13 rfl (lv_at hl 2 rfl) ?_
      refine lv_if_lt (tgt := 35) hx hb dX10_thefts_14 (by decide) (fun c3 => ?_) (fun c3 => ?_)
      · refine lv_iconst (v := (-1)) hx hb dX10_thefts_35 (by decide) ?_
        have hP9 := hP.sub (ws' := []) [] rfl
        have hD9 := hD.sub (ws' := []) [] (by decide) rfl
        exact rI () hx hb hr hlk rfl hS rfl hP9 hD9 (Nat.le_of_ble_eq_true rfl) (Nat.le_of_ble_eq_true rfl) dX10_thefts_36
      · exfalso
        simp only [Int32.lt_iff_toInt_lt, Int32.le_iff_toInt_le, ← Int32.toInt_inj, show (-1 : Int32).toInt = -1 by decide, show (0 : Int32).toInt = 0 by decide] at hh2 c3; omega

set_option maxHeartbeats 4000000 in
set_option maxRecDepth 100000 in
theorem x_thefts_2hi (l : Launch) (g : va_G) (aC : Nat → ClassId) (aM : Nat → Nat) (h1 h5 h7 h18 : Nat) (x2 x3 x4 x6 x8 x9 x10 x11 x12 x13 x14 x15 x16 x17 x19 x20 x21 x22 x23 x24 x25 x26 x27 x28 x29 x30 x31 x32 x33 x34 : Value) (n_1 n_2 n_3 : Int32) (hl1 : 0 ≤ n_1) (hh1 : n_1 ≤ 10) (hl2 : 6 ≤ n_2) : Ct l g aC aM yX10_thefts cX10_thefts 9 (some .int) 2 [.ref h1, .int n_1, .int n_2, .int n_3] [(h1, .inr (10, [x2, x3, x4, .ref h5, x6, .ref h7, x8, x9, x10, x11, x12, x13, x14, x15, x16, x17])), (h5, .inr (8, [.ref h18, x19, x20, x21, x22, x23, x24, x25, x26, x27, x28, x29])), (h18, .inl (aC 0, 5, .inl (fun _ => 0))), (h7, .inr (6, [.int 0, x30, x31, x32, x33, x34]))] (QI g (fun (r : Int32) (_ : Unit) => r = (-1)) (fun (_ : Unit) => [])) 0 0 := by
  refine Ct.mk (by decide) (Nat.le_of_ble_eq_true rfl) ?_
  intro p e s m below meth c A ls hx hb hml hown hts hr hlk hnm hK hA hM hM2 hP hD hS hl
  have hown : s.vm.findClass RX10 = some m.cls := hown
  have F : Fx p s m _ c cX10_thefts 9 RX10 g aC aM A := ⟨hx, hb, hml, hown, hts, hK, hA, hM, hM2⟩
  have hl : lv_has ls 9 [(0, .ref h1), (1, .int n_1), (2, .int n_2), (3, .int n_3)] := hl
  refine lv_iload_n hx hb dX10_thefts_0 rfl (lv_at hl 1 rfl) ?_
  refine lv_if_lt (tgt := 35) hx hb dX10_thefts_1 (by decide) (fun c1 => ?_) (fun c1 => ?_)
  · exfalso
    simp only [Int32.lt_iff_toInt_lt, Int32.le_iff_toInt_le, ← Int32.toInt_inj, show (0 : Int32).toInt = 0 by decide, show (10 : Int32).toInt = 10 by decide] at hl1 hh1 c1; omega
  · refine lv_iload_n hx hb dX10_thefts_4 rfl (lv_at hl 1 rfl) ?_
    refine xmost F hS tb363 dX10_thefts_5 ?_
    refine lv_iconst (v := 1) hx hb dX10_thefts_8 (by decide) ?_
    refine xmolo (v := 10) F hS 1 (by decide +kernel) (by decide +kernel) (by decide) rfl dX10_thefts_9 ?_
    refine lv_icmp_gt (tgt := 35) hx hb dX10_thefts_10 (by decide) (fun c2 => ?_) (fun c2 => ?_)
    · exfalso
      simp only [Int32.lt_iff_toInt_lt, Int32.le_iff_toInt_le, ← Int32.toInt_inj, show (0 : Int32).toInt = 0 by decide, show (10 : Int32).toInt = 10 by decide] at hl1 hh1 c1 c2; omega
    · refine lv_iload_n hx hb dX10_thefts_13 rfl (lv_at hl 2 rfl) ?_
      refine lv_if_lt (tgt := 35) hx hb dX10_thefts_14 (by decide) (fun c3 => ?_) (fun c3 => ?_)
      · exfalso
        simp only [Int32.lt_iff_toInt_lt, Int32.le_iff_toInt_le, ← Int32.toInt_inj, show (0 : Int32).toInt = 0 by decide, show (6 : Int32).toInt = 6 by decide] at hl2 c3; omega
      · refine lv_iload_n hx hb dX10_thefts_17 rfl (lv_at hl 2 rfl) ?_
        refine xmost F hS tb363 dX10_thefts_18 ?_
        refine lv_iconst (v := 3) hx hb dX10_thefts_21 (by decide) ?_
        refine xmolo (v := 5) F hS 3 (by decide +kernel) (by decide +kernel) (by decide) rfl dX10_thefts_22 ?_
        refine lv_icmp_gt (tgt := 35) hx hb dX10_thefts_23 (by decide) (fun c4 => ?_) (fun c4 => ?_)
        · refine lv_iconst (v := (-1)) hx hb dX10_thefts_35 (by decide) ?_
          have hP9 := hP.sub (ws' := []) [] rfl
          have hD9 := hD.sub (ws' := []) [] (by decide) rfl
          exact rI () hx hb hr hlk rfl hS rfl hP9 hD9 (Nat.le_of_ble_eq_true rfl) (Nat.le_of_ble_eq_true rfl) dX10_thefts_36
        · exfalso
          simp only [Int32.lt_iff_toInt_lt, Int32.le_iff_toInt_le, ← Int32.toInt_inj, show (0 : Int32).toInt = 0 by decide, show (5 : Int32).toInt = 5 by decide, show (6 : Int32).toInt = 6 by decide] at hl2 c3 c4; omega

set_option maxHeartbeats 4000000 in
set_option maxRecDepth 100000 in
theorem x_thefts_3lo (l : Launch) (g : va_G) (aC : Nat → ClassId) (aM : Nat → Nat) (h1 h5 h7 h18 : Nat) (x2 x3 x4 x6 x8 x9 x10 x11 x12 x13 x14 x15 x16 x17 x19 x20 x21 x22 x23 x24 x25 x26 x27 x28 x29 x30 x31 x32 x33 x34 : Value) (n_1 n_2 n_3 : Int32) (hl1 : 0 ≤ n_1) (hh1 : n_1 ≤ 10) (hl2 : 0 ≤ n_2) (hh2 : n_2 ≤ 5) (hh3 : n_3 ≤ (-1)) : Ct l g aC aM yX10_thefts cX10_thefts 9 (some .int) 2 [.ref h1, .int n_1, .int n_2, .int n_3] [(h1, .inr (10, [x2, x3, x4, .ref h5, x6, .ref h7, x8, x9, x10, x11, x12, x13, x14, x15, x16, x17])), (h5, .inr (8, [.ref h18, x19, x20, x21, x22, x23, x24, x25, x26, x27, x28, x29])), (h18, .inl (aC 0, 5, .inl (fun _ => 0))), (h7, .inr (6, [.int 0, x30, x31, x32, x33, x34]))] (QI g (fun (r : Int32) (_ : Unit) => r = (-1)) (fun (_ : Unit) => [])) 0 0 := by
  refine Ct.mk (by decide) (Nat.le_of_ble_eq_true rfl) ?_
  intro p e s m below meth c A ls hx hb hml hown hts hr hlk hnm hK hA hM hM2 hP hD hS hl
  have hown : s.vm.findClass RX10 = some m.cls := hown
  have F : Fx p s m _ c cX10_thefts 9 RX10 g aC aM A := ⟨hx, hb, hml, hown, hts, hK, hA, hM, hM2⟩
  have hl : lv_has ls 9 [(0, .ref h1), (1, .int n_1), (2, .int n_2), (3, .int n_3)] := hl
  refine lv_iload_n hx hb dX10_thefts_0 rfl (lv_at hl 1 rfl) ?_
  refine lv_if_lt (tgt := 35) hx hb dX10_thefts_1 (by decide) (fun c1 => ?_) (fun c1 => ?_)
  · exfalso
    simp only [Int32.lt_iff_toInt_lt, Int32.le_iff_toInt_le, ← Int32.toInt_inj, show (0 : Int32).toInt = 0 by decide, show (10 : Int32).toInt = 10 by decide] at hl1 hh1 c1; omega
  · refine lv_iload_n hx hb dX10_thefts_4 rfl (lv_at hl 1 rfl) ?_
    refine xmost F hS tb363 dX10_thefts_5 ?_
    refine lv_iconst (v := 1) hx hb dX10_thefts_8 (by decide) ?_
    refine xmolo (v := 10) F hS 1 (by decide +kernel) (by decide +kernel) (by decide) rfl dX10_thefts_9 ?_
    refine lv_icmp_gt (tgt := 35) hx hb dX10_thefts_10 (by decide) (fun c2 => ?_) (fun c2 => ?_)
    · exfalso
      simp only [Int32.lt_iff_toInt_lt, Int32.le_iff_toInt_le, ← Int32.toInt_inj, show (0 : Int32).toInt = 0 by decide, show (10 : Int32).toInt = 10 by decide] at hl1 hh1 c1 c2; omega
    · refine lv_iload_n hx hb dX10_thefts_13 rfl (lv_at hl 2 rfl) ?_
      refine lv_if_lt (tgt := 35) hx hb dX10_thefts_14 (by decide) (fun c3 => ?_) (fun c3 => ?_)
      · exfalso
        simp only [Int32.lt_iff_toInt_lt, Int32.le_iff_toInt_le, ← Int32.toInt_inj, show (0 : Int32).toInt = 0 by decide, show (5 : Int32).toInt = 5 by decide] at hl2 hh2 c3; omega
      · refine lv_iload_n hx hb dX10_thefts_17 rfl (lv_at hl 2 rfl) ?_
        refine xmost F hS tb363 dX10_thefts_18 ?_
        refine lv_iconst (v := 3) hx hb dX10_thefts_21 (by decide) ?_
        refine xmolo (v := 5) F hS 3 (by decide +kernel) (by decide +kernel) (by decide) rfl dX10_thefts_22 ?_
        refine lv_icmp_gt (tgt := 35) hx hb dX10_thefts_23 (by decide) (fun c4 => ?_) (fun c4 => ?_)
        · exfalso
          simp only [Int32.lt_iff_toInt_lt, Int32.le_iff_toInt_le, ← Int32.toInt_inj, show (0 : Int32).toInt = 0 by decide, show (5 : Int32).toInt = 5 by decide] at hl2 hh2 c3 c4; omega
        · refine lv_iload_n hx hb dX10_thefts_26 rfl (lv_at hl 3 rfl) ?_
          refine lv_if_lt (tgt := 35) hx hb dX10_thefts_27 (by decide) (fun c5 => ?_) (fun c5 => ?_)
          · refine lv_iconst (v := (-1)) hx hb dX10_thefts_35 (by decide) ?_
            have hP9 := hP.sub (ws' := []) [] rfl
            have hD9 := hD.sub (ws' := []) [] (by decide) rfl
            exact rI () hx hb hr hlk rfl hS rfl hP9 hD9 (Nat.le_of_ble_eq_true rfl) (Nat.le_of_ble_eq_true rfl) dX10_thefts_36
          · exfalso
            simp only [Int32.lt_iff_toInt_lt, Int32.le_iff_toInt_le, ← Int32.toInt_inj, show (-1 : Int32).toInt = -1 by decide, show (0 : Int32).toInt = 0 by decide] at hh3 c5; omega

set_option maxHeartbeats 4000000 in
set_option maxRecDepth 100000 in
theorem x_thefts_3hi (l : Launch) (g : va_G) (aC : Nat → ClassId) (aM : Nat → Nat) (h1 h5 h7 h18 : Nat) (x2 x3 x4 x6 x8 x9 x10 x11 x12 x13 x14 x15 x16 x17 x19 x20 x21 x22 x23 x24 x25 x26 x27 x28 x29 x30 x31 x32 x33 x34 : Value) (n_1 n_2 n_3 : Int32) (hl1 : 0 ≤ n_1) (hh1 : n_1 ≤ 10) (hl2 : 0 ≤ n_2) (hh2 : n_2 ≤ 5) (hl3 : 2 ≤ n_3) : Ct l g aC aM yX10_thefts cX10_thefts 9 (some .int) 2 [.ref h1, .int n_1, .int n_2, .int n_3] [(h1, .inr (10, [x2, x3, x4, .ref h5, x6, .ref h7, x8, x9, x10, x11, x12, x13, x14, x15, x16, x17])), (h5, .inr (8, [.ref h18, x19, x20, x21, x22, x23, x24, x25, x26, x27, x28, x29])), (h18, .inl (aC 0, 5, .inl (fun _ => 0))), (h7, .inr (6, [.int 0, x30, x31, x32, x33, x34]))] (QI g (fun (r : Int32) (_ : Unit) => r = (-1)) (fun (_ : Unit) => [])) 0 0 := by
  refine Ct.mk (by decide) (Nat.le_of_ble_eq_true rfl) ?_
  intro p e s m below meth c A ls hx hb hml hown hts hr hlk hnm hK hA hM hM2 hP hD hS hl
  have hown : s.vm.findClass RX10 = some m.cls := hown
  have F : Fx p s m _ c cX10_thefts 9 RX10 g aC aM A := ⟨hx, hb, hml, hown, hts, hK, hA, hM, hM2⟩
  have hl : lv_has ls 9 [(0, .ref h1), (1, .int n_1), (2, .int n_2), (3, .int n_3)] := hl
  refine lv_iload_n hx hb dX10_thefts_0 rfl (lv_at hl 1 rfl) ?_
  refine lv_if_lt (tgt := 35) hx hb dX10_thefts_1 (by decide) (fun c1 => ?_) (fun c1 => ?_)
  · exfalso
    simp only [Int32.lt_iff_toInt_lt, Int32.le_iff_toInt_le, ← Int32.toInt_inj, show (0 : Int32).toInt = 0 by decide, show (10 : Int32).toInt = 10 by decide] at hl1 hh1 c1; omega
  · refine lv_iload_n hx hb dX10_thefts_4 rfl (lv_at hl 1 rfl) ?_
    refine xmost F hS tb363 dX10_thefts_5 ?_
    refine lv_iconst (v := 1) hx hb dX10_thefts_8 (by decide) ?_
    refine xmolo (v := 10) F hS 1 (by decide +kernel) (by decide +kernel) (by decide) rfl dX10_thefts_9 ?_
    refine lv_icmp_gt (tgt := 35) hx hb dX10_thefts_10 (by decide) (fun c2 => ?_) (fun c2 => ?_)
    · exfalso
      simp only [Int32.lt_iff_toInt_lt, Int32.le_iff_toInt_le, ← Int32.toInt_inj, show (0 : Int32).toInt = 0 by decide, show (10 : Int32).toInt = 10 by decide] at hl1 hh1 c1 c2; omega
    · refine lv_iload_n hx hb dX10_thefts_13 rfl (lv_at hl 2 rfl) ?_
      refine lv_if_lt (tgt := 35) hx hb dX10_thefts_14 (by decide) (fun c3 => ?_) (fun c3 => ?_)
      · exfalso
        simp only [Int32.lt_iff_toInt_lt, Int32.le_iff_toInt_le, ← Int32.toInt_inj, show (0 : Int32).toInt = 0 by decide, show (5 : Int32).toInt = 5 by decide] at hl2 hh2 c3; omega
      · refine lv_iload_n hx hb dX10_thefts_17 rfl (lv_at hl 2 rfl) ?_
        refine xmost F hS tb363 dX10_thefts_18 ?_
        refine lv_iconst (v := 3) hx hb dX10_thefts_21 (by decide) ?_
        refine xmolo (v := 5) F hS 3 (by decide +kernel) (by decide +kernel) (by decide) rfl dX10_thefts_22 ?_
        refine lv_icmp_gt (tgt := 35) hx hb dX10_thefts_23 (by decide) (fun c4 => ?_) (fun c4 => ?_)
        · exfalso
          simp only [Int32.lt_iff_toInt_lt, Int32.le_iff_toInt_le, ← Int32.toInt_inj, show (0 : Int32).toInt = 0 by decide, show (5 : Int32).toInt = 5 by decide] at hl2 hh2 c3 c4; omega
        · refine lv_iload_n hx hb dX10_thefts_26 rfl (lv_at hl 3 rfl) ?_
          refine lv_if_lt (tgt := 35) hx hb dX10_thefts_27 (by decide) (fun c5 => ?_) (fun c5 => ?_)
          · exfalso
            simp only [Int32.lt_iff_toInt_lt, Int32.le_iff_toInt_le, ← Int32.toInt_inj, show (0 : Int32).toInt = 0 by decide, show (2 : Int32).toInt = 2 by decide] at hl3 c5; omega
          · refine lv_iload_n hx hb dX10_thefts_30 rfl (lv_at hl 3 rfl) ?_
            refine lv_iconst (v := 1) hx hb dX10_thefts_31 (by decide) ?_
            refine lv_icmp_le (tgt := 37) hx hb dX10_thefts_32 (by decide) (fun c6 => ?_) (fun c6 => ?_)
            · exfalso
              simp only [Int32.lt_iff_toInt_lt, Int32.le_iff_toInt_le, ← Int32.toInt_inj, show (0 : Int32).toInt = 0 by decide, show (1 : Int32).toInt = 1 by decide, show (2 : Int32).toInt = 2 by decide] at hl3 c5 c6; omega
            · refine lv_iconst (v := (-1)) hx hb dX10_thefts_35 (by decide) ?_
              have hP9 := hP.sub (ws' := []) [] rfl
              have hD9 := hD.sub (ws' := []) [] (by decide) rfl
              exact rI () hx hb hr hlk rfl hS rfl hP9 hD9 (Nat.le_of_ble_eq_true rfl) (Nat.le_of_ble_eq_true rfl) dX10_thefts_36

set_option maxHeartbeats 4000000 in
set_option maxRecDepth 100000 in
theorem x_thefts_ok (l : Launch) (g : va_G) (aC : Nat → ClassId) (aM : Nat → Nat) (h1 h5 h7 h18 : Nat) (x2 x3 x4 x6 x8 x9 x10 x11 x12 x13 x14 x15 x16 x17 x19 x20 x21 x22 x23 x24 x25 x26 x27 x28 x29 x30 x31 x32 x33 x34 : Value) (n_1 n_2 n_3 : Int32) (hl1 : 0 ≤ n_1) (hh1 : n_1 ≤ 10) (hl2 : 0 ≤ n_2) (hh2 : n_2 ≤ 5) (hl3 : 0 ≤ n_3) (hh3 : n_3 ≤ 1) : Ct l g aC aM yX10_thefts cX10_thefts 9 (some .int) 2 [.ref h1, .int n_1, .int n_2, .int n_3] [(h1, .inr (10, [x2, x3, x4, .ref h5, x6, .ref h7, x8, x9, x10, x11, x12, x13, x14, x15, x16, x17])), (h5, .inr (8, [.ref h18, x19, x20, x21, x22, x23, x24, x25, x26, x27, x28, x29])), (h18, .inl (aC 0, 5, .inl (fun _ => 0))), (h7, .inr (6, [.int 0, x30, x31, x32, x33, x34]))] (QI g (fun (r : Int32) (_ : Unit) => r = 0) (fun (_ : Unit) => [])) 0 0 := by
  refine Ct.mk (by decide) (Nat.le_of_ble_eq_true rfl) ?_
  intro p e s m below meth c A ls hx hb hml hown hts hr hlk hnm hK hA hM hM2 hP hD hS hl
  have hown : s.vm.findClass RX10 = some m.cls := hown
  have F : Fx p s m _ c cX10_thefts 9 RX10 g aC aM A := ⟨hx, hb, hml, hown, hts, hK, hA, hM, hM2⟩
  have hl : lv_has ls 9 [(0, .ref h1), (1, .int n_1), (2, .int n_2), (3, .int n_3)] := hl
  refine lv_iload_n hx hb dX10_thefts_0 rfl (lv_at hl 1 rfl) ?_
  refine lv_if_lt (tgt := 35) hx hb dX10_thefts_1 (by decide) (fun c1 => ?_) (fun c1 => ?_)
  · exfalso
    simp only [Int32.lt_iff_toInt_lt, Int32.le_iff_toInt_le, ← Int32.toInt_inj, show (0 : Int32).toInt = 0 by decide, show (10 : Int32).toInt = 10 by decide] at hl1 hh1 c1; omega
  · refine lv_iload_n hx hb dX10_thefts_4 rfl (lv_at hl 1 rfl) ?_
    refine xmost F hS tb363 dX10_thefts_5 ?_
    refine lv_iconst (v := 1) hx hb dX10_thefts_8 (by decide) ?_
    refine xmolo (v := 10) F hS 1 (by decide +kernel) (by decide +kernel) (by decide) rfl dX10_thefts_9 ?_
    refine lv_icmp_gt (tgt := 35) hx hb dX10_thefts_10 (by decide) (fun c2 => ?_) (fun c2 => ?_)
    · exfalso
      simp only [Int32.lt_iff_toInt_lt, Int32.le_iff_toInt_le, ← Int32.toInt_inj, show (0 : Int32).toInt = 0 by decide, show (10 : Int32).toInt = 10 by decide] at hl1 hh1 c1 c2; omega
    · refine lv_iload_n hx hb dX10_thefts_13 rfl (lv_at hl 2 rfl) ?_
      refine lv_if_lt (tgt := 35) hx hb dX10_thefts_14 (by decide) (fun c3 => ?_) (fun c3 => ?_)
      · exfalso
        simp only [Int32.lt_iff_toInt_lt, Int32.le_iff_toInt_le, ← Int32.toInt_inj, show (0 : Int32).toInt = 0 by decide, show (5 : Int32).toInt = 5 by decide] at hl2 hh2 c3; omega
      · refine lv_iload_n hx hb dX10_thefts_17 rfl (lv_at hl 2 rfl) ?_
        refine xmost F hS tb363 dX10_thefts_18 ?_
        refine lv_iconst (v := 3) hx hb dX10_thefts_21 (by decide) ?_
        refine xmolo (v := 5) F hS 3 (by decide +kernel) (by decide +kernel) (by decide) rfl dX10_thefts_22 ?_
        refine lv_icmp_gt (tgt := 35) hx hb dX10_thefts_23 (by decide) (fun c4 => ?_) (fun c4 => ?_)
        · exfalso
          simp only [Int32.lt_iff_toInt_lt, Int32.le_iff_toInt_le, ← Int32.toInt_inj, show (0 : Int32).toInt = 0 by decide, show (5 : Int32).toInt = 5 by decide] at hl2 hh2 c3 c4; omega
        · refine lv_iload_n hx hb dX10_thefts_26 rfl (lv_at hl 3 rfl) ?_
          refine lv_if_lt (tgt := 35) hx hb dX10_thefts_27 (by decide) (fun c5 => ?_) (fun c5 => ?_)
          · exfalso
            simp only [Int32.lt_iff_toInt_lt, Int32.le_iff_toInt_le, ← Int32.toInt_inj, show (0 : Int32).toInt = 0 by decide, show (1 : Int32).toInt = 1 by decide] at hl3 hh3 c5; omega
          · refine lv_iload_n hx hb dX10_thefts_30 rfl (lv_at hl 3 rfl) ?_
            refine lv_iconst (v := 1) hx hb dX10_thefts_31 (by decide) ?_
            refine lv_icmp_le (tgt := 37) hx hb dX10_thefts_32 (by decide) (fun c6 => ?_) (fun c6 => ?_)
            · refine lv_aload_n hx hb dX10_thefts_37 rfl (lv_at hl 0 rfl) ?_
              refine lv_aload_n hx hb dX10_thefts_38 rfl (lv_at hl 0 rfl) ?_
              refine xget F hP 0 rfl rfl inX10 5 (by decide) tb405 rfl dX10_thefts_39 ?_
              refine goV (wr := [(h7, .inr (6, [.int 0, x30, x31, x32, x33, x34]))]) (runV (n := 1) (As := [.ref h7]) (rest := []) F hP hD hS (a_X10_fillLacks_1 l g aC aM h1 h7 h5 h18 x2 x3 x4 x6 (.ref h7) x8 x9 x10 x11 x12 x13 x14 x15 x16 x17 x19 x20 x21 x22 x23 x24 x25 x26 x27 x28 x29) [0, 1, 2] (by decide) rfl 0 10 rfl rfl rfl tb820 tb817 tb819 tv19 tb1 ⟨by decide, by decide, by decide +kernel⟩ ⟨Nat.le_of_ble_eq_true rfl, Nat.le_of_ble_eq_true rfl⟩ rfl hl.1 rfl (Nat.le_of_ble_eq_true rfl) dX10_thefts_42 ⟨Nat.le_of_ble_eq_true rfl, Nat.le_of_ble_eq_true rfl⟩) hP hD hS hA [0, 1, 2] [3] rfl rfl (by decide) (by decide) (fun w9 H locs hw hP hD hS => ?_)
              have hP : va_P g vwCl [(h7, .inr (6, [.int 0, x30, x31, x32, x33, x34])), (h1, .inr (10, [x2, x3, x4, .ref h5, x6, .ref h7, x8, x9, x10, x11, x12, x13, x14, x15, x16, x17])), (h5, .inr (8, [.ref h18, x19, x20, x21, x22, x23, x24, x25, x26, x27, x28, x29])), (h18, .inl (aC 0, 5, .inl (fun _ => 0)))] H := hP
              have hD : va_D A [(h7, .inr (6, [.int 0, x30, x31, x32, x33, x34])), (h1, .inr (10, [x2, x3, x4, .ref h5, x6, .ref h7, x8, x9, x10, x11, x12, x13, x14, x15, x16, x17])), (h5, .inr (8, [.ref h18, x19, x20, x21, x22, x23, x24, x25, x26, x27, x28, x29])), (h18, .inl (aC 0, 5, .inl (fun _ => 0)))] := hD
              refine lv_iconst (v := (-1)) hx hb dX10_thefts_45 (by decide) ?_
              refine lv_istore (lv' := [(4, .int (-1)), (0, .ref h1), (1, .int n_1), (2, .int n_2), (3, .int n_3)]) hx hb dX10_thefts_46 hl (by decide) rfl (fun ls hl => ?_)
              refine lv_iconst (v := (-1)) hx hb dX10_thefts_48 (by decide) ?_
              refine lv_istore (lv' := [(5, .int (-1)), (4, .int (-1)), (0, .ref h1), (1, .int n_1), (2, .int n_2), (3, .int n_3)]) hx hb dX10_thefts_49 hl (by decide) rfl (fun ls hl => ?_)
              refine lv_iconst (v := 0) hx hb dX10_thefts_51 (by decide) ?_
              refine lv_istore (lv' := [(6, .int 0), (5, .int (-1)), (4, .int (-1)), (0, .ref h1), (1, .int n_1), (2, .int n_2), (3, .int n_3)]) hx hb dX10_thefts_52 hl (by decide) rfl (fun ls hl => ?_)
              refine lv_iload hx hb dX10_thefts_54 (lv_at hl 0 rfl) ?_
              refine lv_aload_n hx hb dX10_thefts_56 rfl (lv_at hl 3 rfl) ?_
              refine xget F hP 1 rfl rfl inX10 3 (by decide) tb403 rfl dX10_thefts_57 ?_
              refine goI (wr := [(h7, .inr (6, [.int 0, x30, x31, x32, x33, x34])), (h1, .inr (10, [x2, x3, x4, .ref h5, x6, .ref h7, x8, x9, x10, x11, x12, x13, x14, x15, x16, x17]))]) (runV (n := 0) (As := []) (rest := [.int 0]) F hP hD hS (a_X8_all_1 l g aC aM h5 h18 x19 x20 x21 x22 x23 x24 x25 x26 x27 x28 x29) [2, 3] (by decide) rfl 2 8 rfl rfl rfl tb715 tb930 tb713 tb714 tb9 ⟨by decide, by decide, by decide +kernel⟩ ⟨Nat.le_of_ble_eq_true rfl, Nat.le_of_ble_eq_true rfl⟩ rfl hl.1 rfl (Nat.le_of_ble_eq_true rfl) dX10_thefts_60 ⟨Nat.le_of_ble_eq_true rfl, Nat.le_of_ble_eq_true rfl⟩) hP hD hS hA [2, 3] [0, 1] rfl rfl (by decide) (by decide) (fun r_11 w12 H locs hw hP hD hS => ?_)
              have hP : va_P g vwCl [(h7, .inr (6, [.int 0, x30, x31, x32, x33, x34])), (h1, .inr (10, [x2, x3, x4, .ref h5, x6, .ref h7, x8, x9, x10, x11, x12, x13, x14, x15, x16, x17])), (h5, .inr (8, [.ref h18, x19, x20, x21, x22, x23, x24, x25, x26, x27, x28, x29])), (h18, .inl (aC 0, 5, .inl (fun _ => 0)))] H := hP
              have hD : va_D A [(h7, .inr (6, [.int 0, x30, x31, x32, x33, x34])), (h1, .inr (10, [x2, x3, x4, .ref h5, x6, .ref h7, x8, x9, x10, x11, x12, x13, x14, x15, x16, x17])), (h5, .inr (8, [.ref h18, x19, x20, x21, x22, x23, x24, x25, x26, x27, x28, x29])), (h18, .inl (aC 0, 5, .inl (fun _ => 0)))] := hD
              try dsimp only at hw
              subst hw
              refine lv_icmp_gt (tgt := 199) hx hb dX10_thefts_63 (by decide) (fun c_ => absurd c_ (by decide +kernel)) (fun _ => ?_)
              refine lv_iload hx hb dX10_thefts_66 (lv_at hl 0 rfl) ?_
              refine lv_aload_n hx hb dX10_thefts_68 rfl (lv_at hl 3 rfl) ?_
              refine xget F hP 1 rfl rfl inX10 5 (by decide) tb405 rfl dX10_thefts_69 ?_
              refine xget F hP 0 rfl rfl inX6 0 (by decide) tb293 rfl dX10_thefts_72 ?_
              refine lv_iconst (v := (-1)) hx hb dX10_thefts_75 (by decide) ?_
              refine lv_ixor hx hb dX10_thefts_76 ?_
              refine relit (v := (-1)) (by decide +kernel) ?_
              refine lv_iand hx hb dX10_thefts_77 ?_
              refine relit (v := 0) (by decide +kernel) ?_
              refine lv_if_ne (tgt := 193) hx hb dX10_thefts_78 (by decide) (fun c_ => absurd (by decide +kernel) c_) (fun _ => ?_)
              refine lv_iload hx hb dX10_thefts_81 (lv_at hl 0 rfl) ?_
              refine goI (wr := [(h7, .inr (6, [.int 0, x30, x31, x32, x33, x34])), (h1, .inr (10, [x2, x3, x4, .ref h5, x6, .ref h7, x8, x9, x10, x11, x12, x13, x14, x15, x16, x17])), (h5, .inr (8, [.ref h18, x19, x20, x21, x22, x23, x24, x25, x26, x27, x28, x29])), (h18, .inl (aC 0, 5, .inl (fun _ => 0)))]) (runS (n := 1) (As := [.int 0]) (rest := []) F hP hD hS (k_bitCount0 l g aC aM ) [] (by decide) rfl tb854 tb935 tb853 tb21 ⟨by decide, by decide, by decide +kernel⟩ ⟨Nat.le_of_ble_eq_true rfl, Nat.le_of_ble_eq_true rfl⟩ rfl hl.1 rfl (Nat.le_of_ble_eq_true rfl) dX10_thefts_83 ⟨Nat.le_of_ble_eq_true rfl, Nat.le_of_ble_eq_true rfl⟩) hP hD hS hA [] [0, 1, 2, 3] rfl rfl (by decide) (by decide) (fun r_16 w17 H locs hw hP hD hS => ?_)
              have hP : va_P g vwCl [(h7, .inr (6, [.int 0, x30, x31, x32, x33, x34])), (h1, .inr (10, [x2, x3, x4, .ref h5, x6, .ref h7, x8, x9, x10, x11, x12, x13, x14, x15, x16, x17])), (h5, .inr (8, [.ref h18, x19, x20, x21, x22, x23, x24, x25, x26, x27, x28, x29])), (h18, .inl (aC 0, 5, .inl (fun _ => 0)))] H := hP
              have hD : va_D A [(h7, .inr (6, [.int 0, x30, x31, x32, x33, x34])), (h1, .inr (10, [x2, x3, x4, .ref h5, x6, .ref h7, x8, x9, x10, x11, x12, x13, x14, x15, x16, x17])), (h5, .inr (8, [.ref h18, x19, x20, x21, x22, x23, x24, x25, x26, x27, x28, x29])), (h18, .inl (aC 0, 5, .inl (fun _ => 0)))] := hD
              try dsimp only at hw
              subst hw
              refine lv_iload_n hx hb dX10_thefts_86 rfl (lv_at hl 4 rfl) ?_
              refine lv_icmp_le (tgt := 93) hx hb dX10_thefts_87 (by decide) (fun c18 => ?_) (fun c18 => ?_)
              · refine lv_aload_n hx hb dX10_thefts_93 rfl (lv_at hl 3 rfl) ?_
                refine xget F hP 1 rfl rfl inX10 3 (by decide) tb403 rfl dX10_thefts_94 ?_
                refine lv_iload hx hb dX10_thefts_97 (lv_at hl 0 rfl) ?_
                refine goI (wr := [(h7, .inr (6, [.int 0, x30, x31, x32, x33, x34])), (h1, .inr (10, [x2, x3, x4, .ref h5, x6, .ref h7, x8, x9, x10, x11, x12, x13, x14, x15, x16, x17]))]) (runV (n := 1) (As := [.int 0]) (rest := []) F hP hD hS (a_X8_riseOf_1 l g aC aM h5 h18 x19 x20 x21 x22 x23 x24 x25 x26 x27 x28 x29) [2, 3] (by decide) rfl 2 8 rfl rfl rfl tb812 tb809 tb810 tb811 tb9 ⟨by decide, by decide, by decide +kernel⟩ ⟨Nat.le_of_ble_eq_true rfl, Nat.le_of_ble_eq_true rfl⟩ rfl hl.1 rfl (Nat.le_of_ble_eq_true rfl) dX10_thefts_99 ⟨Nat.le_of_ble_eq_true rfl, Nat.le_of_ble_eq_true rfl⟩) hP hD hS hA [2, 3] [0, 1] rfl rfl (by decide) (by decide) (fun r_20 w21 H locs hw hP hD hS => ?_)
                have hP : va_P g vwCl [(h7, .inr (6, [.int 0, x30, x31, x32, x33, x34])), (h1, .inr (10, [x2, x3, x4, .ref h5, x6, .ref h7, x8, x9, x10, x11, x12, x13, x14, x15, x16, x17])), (h5, .inr (8, [.ref h18, x19, x20, x21, x22, x23, x24, x25, x26, x27, x28, x29])), (h18, .inl (aC 0, 5, .inl (fun _ => 0)))] H := hP
                have hD : va_D A [(h7, .inr (6, [.int 0, x30, x31, x32, x33, x34])), (h1, .inr (10, [x2, x3, x4, .ref h5, x6, .ref h7, x8, x9, x10, x11, x12, x13, x14, x15, x16, x17])), (h5, .inr (8, [.ref h18, x19, x20, x21, x22, x23, x24, x25, x26, x27, x28, x29])), (h18, .inl (aC 0, 5, .inl (fun _ => 0)))] := hD
                try dsimp only at hw
                subst hw
                refine lv_istore (lv' := [(7, .int 0), (6, .int 0), (5, .int (-1)), (4, .int (-1)), (0, .ref h1), (1, .int n_1), (2, .int n_2), (3, .int n_3)]) hx hb dX10_thefts_102 hl (by decide) rfl (fun ls hl => ?_)
                refine lv_iload hx hb dX10_thefts_104 (lv_at hl 0 rfl) ?_
                refine lv_iload hx hb dX10_thefts_106 (lv_at hl 3 rfl) ?_
                refine lv_icmp_gt (tgt := 131) hx hb dX10_thefts_108 (by decide) (fun _ => ?_) (fun c_ => absurd (by decide +kernel) c_)
                refine lv_iconst (v := 1) hx hb dX10_thefts_131 (by decide) ?_
                refine lv_goto (tgt := 136) hx hb dX10_thefts_132 (by decide) ?_
                refine lv_istore (lv' := [(8, .int 1), (7, .int 0), (6, .int 0), (5, .int (-1)), (4, .int (-1)), (0, .ref h1), (1, .int n_1), (2, .int n_2), (3, .int n_3)]) hx hb dX10_thefts_136 hl (by decide) rfl (fun ls hl => ?_)
                refine lv_iload hx hb dX10_thefts_138 (lv_at hl 0 rfl) ?_
                refine lv_if_eq (tgt := 193) hx hb dX10_thefts_140 (by decide) (fun c_ => absurd c_ (by decide +kernel)) (fun _ => ?_)
                refine lv_aload_n hx hb dX10_thefts_143 rfl (lv_at hl 5 rfl) ?_
                refine xget F hP 1 rfl rfl inX10 3 (by decide) tb403 rfl dX10_thefts_144 ?_
                refine lv_iload hx hb dX10_thefts_147 (lv_at hl 2 rfl) ?_
                refine lv_aload_n hx hb dX10_thefts_149 rfl (lv_at hl 5 rfl) ?_
                refine xget F hP 1 rfl rfl inX10 5 (by decide) tb405 rfl dX10_thefts_150 ?_
                refine xget F hP 0 rfl rfl inX6 0 (by decide) tb293 rfl dX10_thefts_153 ?_
                refine goI (wr := [(h7, .inr (6, [.int 0, x30, x31, x32, x33, x34])), (h1, .inr (10, [x2, x3, x4, .ref h5, x6, .ref h7, x8, x9, x10, x11, x12, x13, x14, x15, x16, x17]))]) (runV (n := 2) (As := [.int 0, .int 0]) (rest := []) F hP hD hS (a_X8_fromTop_1 l g aC aM h5 h18 x19 x20 x21 x22 x23 x24 x25 x26 x27 x28 x29) [2, 3] (by decide) rfl 2 8 rfl rfl rfl tb851 tb936 tb849 tb850 tb9 ⟨by decide, by decide, by decide +kernel⟩ ⟨Nat.le_of_ble_eq_true rfl, Nat.le_of_ble_eq_true rfl⟩ rfl hl.1 rfl (Nat.le_of_ble_eq_true rfl) dX10_thefts_156 ⟨Nat.le_of_ble_eq_true rfl, Nat.le_of_ble_eq_true rfl⟩) hP hD hS hA [2, 3] [0, 1] rfl rfl (by decide) (by decide) (fun r_25 w26 H locs hw hP hD hS => ?_)
                have hP : va_P g vwCl [(h7, .inr (6, [.int 0, x30, x31, x32, x33, x34])), (h1, .inr (10, [x2, x3, x4, .ref h5, x6, .ref h7, x8, x9, x10, x11, x12, x13, x14, x15, x16, x17])), (h5, .inr (8, [.ref h18, x19, x20, x21, x22, x23, x24, x25, x26, x27, x28, x29])), (h18, .inl (aC 0, 5, .inl (fun _ => 0)))] H := hP
                have hD : va_D A [(h7, .inr (6, [.int 0, x30, x31, x32, x33, x34])), (h1, .inr (10, [x2, x3, x4, .ref h5, x6, .ref h7, x8, x9, x10, x11, x12, x13, x14, x15, x16, x17])), (h5, .inr (8, [.ref h18, x19, x20, x21, x22, x23, x24, x25, x26, x27, x28, x29])), (h18, .inl (aC 0, 5, .inl (fun _ => 0)))] := hD
                try dsimp only at hw
                subst hw
                refine lv_if_eq (tgt := 193) hx hb dX10_thefts_159 (by decide) (fun c_ => absurd c_ (by decide +kernel)) (fun _ => ?_)
                refine lv_aload_n hx hb dX10_thefts_162 rfl (lv_at hl 5 rfl) ?_
                refine lv_aload_n hx hb dX10_thefts_163 rfl (lv_at hl 5 rfl) ?_
                refine xget F hP 1 rfl rfl inX10 5 (by decide) tb405 rfl dX10_thefts_164 ?_
                refine xget F hP 0 rfl rfl inX6 0 (by decide) tb293 rfl dX10_thefts_167 ?_
                refine lv_iload hx hb dX10_thefts_170 (lv_at hl 2 rfl) ?_
                refine lv_iconst (v := (-1)) hx hb dX10_thefts_172 (by decide) ?_
                refine lv_ixor hx hb dX10_thefts_173 ?_
                refine relit (v := (-1)) (by decide +kernel) ?_
                refine lv_iand hx hb dX10_thefts_174 ?_
                refine relit (v := 0) (by decide +kernel) ?_
                refine goI (wr := [(h7, .inr (6, [.int 0, x30, x31, x32, x33, x34]))]) (runV (n := 1) (As := [.int 0]) (rest := []) F hP hD hS (a_X10_cutBy_1 l g aC aM h1 h5 h18 x2 x3 x4 x6 (.ref h7) x8 x9 x10 x11 x12 x13 x14 x15 x16 x17 x19 x20 x21 x22 x23 x24 x25 x26 x27 x28 x29) [1, 2, 3] (by decide) rfl 1 10 rfl rfl rfl tb829 tb826 tb828 tv20 tb1 ⟨by decide, by decide, by decide +kernel⟩ ⟨Nat.le_of_ble_eq_true rfl, Nat.le_of_ble_eq_true rfl⟩ rfl hl.1 rfl (Nat.le_of_ble_eq_true rfl) dX10_thefts_175 ⟨Nat.le_of_ble_eq_true rfl, Nat.le_of_ble_eq_true rfl⟩) hP hD hS hA [1, 2, 3] [0] rfl rfl (by decide) (by decide) (fun r_29 w30 H locs hw hP hD hS => ?_)
                have hP : va_P g vwCl [(h7, .inr (6, [.int 0, x30, x31, x32, x33, x34])), (h1, .inr (10, [x2, x3, x4, .ref h5, x6, .ref h7, x8, x9, x10, x11, x12, x13, x14, x15, x16, x17])), (h5, .inr (8, [.ref h18, x19, x20, x21, x22, x23, x24, x25, x26, x27, x28, x29])), (h18, .inl (aC 0, 5, .inl (fun _ => 0)))] H := hP
                have hD : va_D A [(h7, .inr (6, [.int 0, x30, x31, x32, x33, x34])), (h1, .inr (10, [x2, x3, x4, .ref h5, x6, .ref h7, x8, x9, x10, x11, x12, x13, x14, x15, x16, x17])), (h5, .inr (8, [.ref h18, x19, x20, x21, x22, x23, x24, x25, x26, x27, x28, x29])), (h18, .inl (aC 0, 5, .inl (fun _ => 0)))] := hD
                try dsimp only at hw
                subst hw
                refine goI (wr := [(h7, .inr (6, [.int 0, x30, x31, x32, x33, x34])), (h1, .inr (10, [x2, x3, x4, .ref h5, x6, .ref h7, x8, x9, x10, x11, x12, x13, x14, x15, x16, x17])), (h5, .inr (8, [.ref h18, x19, x20, x21, x22, x23, x24, x25, x26, x27, x28, x29])), (h18, .inl (aC 0, 5, .inl (fun _ => 0)))]) (runS (n := 1) (As := [.int 0]) (rest := []) F hP hD hS (k_bitCount0 l g aC aM ) [] (by decide) rfl tb854 tb935 tb853 tb21 ⟨by decide, by decide, by decide +kernel⟩ ⟨Nat.le_of_ble_eq_true rfl, Nat.le_of_ble_eq_true rfl⟩ rfl hl.1 rfl (Nat.le_of_ble_eq_true rfl) dX10_thefts_178 ⟨Nat.le_of_ble_eq_true rfl, Nat.le_of_ble_eq_true rfl⟩) hP hD hS hA [] [0, 1, 2, 3] rfl rfl (by decide) (by decide) (fun r_32 w33 H locs hw hP hD hS => ?_)
                have hP : va_P g vwCl [(h7, .inr (6, [.int 0, x30, x31, x32, x33, x34])), (h1, .inr (10, [x2, x3, x4, .ref h5, x6, .ref h7, x8, x9, x10, x11, x12, x13, x14, x15, x16, x17])), (h5, .inr (8, [.ref h18, x19, x20, x21, x22, x23, x24, x25, x26, x27, x28, x29])), (h18, .inl (aC 0, 5, .inl (fun _ => 0)))] H := hP
                have hD : va_D A [(h7, .inr (6, [.int 0, x30, x31, x32, x33, x34])), (h1, .inr (10, [x2, x3, x4, .ref h5, x6, .ref h7, x8, x9, x10, x11, x12, x13, x14, x15, x16, x17])), (h5, .inr (8, [.ref h18, x19, x20, x21, x22, x23, x24, x25, x26, x27, x28, x29])), (h18, .inl (aC 0, 5, .inl (fun _ => 0)))] := hD
                try dsimp only at hw
                subst hw
                refine lv_iload_n hx hb dX10_thefts_181 rfl (lv_at hl 7 rfl) ?_
                refine lv_icmp_gt (tgt := 193) hx hb dX10_thefts_182 (by decide) (fun c34 => ?_) (fun c34 => ?_)
                · exfalso
                  simp only [Int32.lt_iff_toInt_lt, Int32.le_iff_toInt_le, ← Int32.toInt_inj, show (0 : Int32).toInt = 0 by decide, show (5 : Int32).toInt = 5 by decide] at hl2 hh2 c3 c4 c34; omega
                · refine lv_iload hx hb dX10_thefts_185 (lv_at hl 1 rfl) ?_
                  refine lv_istore (lv' := [(4, .int 0), (8, .int 1), (7, .int 0), (6, .int 0), (5, .int (-1)), (0, .ref h1), (1, .int n_1), (2, .int n_2), (3, .int n_3)]) hx hb dX10_thefts_187 hl (by decide) rfl (fun ls hl => ?_)
                  refine lv_iload hx hb dX10_thefts_189 (lv_at hl 3 rfl) ?_
                  refine lv_istore (lv' := [(5, .int 0), (4, .int 0), (8, .int 1), (7, .int 0), (6, .int 0), (0, .ref h1), (1, .int n_1), (2, .int n_2), (3, .int n_3)]) hx hb dX10_thefts_191 hl (by decide) rfl (fun ls hl => ?_)
                  refine lv_iinc (v := 1) (lv' := [(6, .int 1), (5, .int 0), (4, .int 0), (8, .int 1), (7, .int 0), (0, .ref h1), (1, .int n_1), (2, .int n_2), (3, .int n_3)]) hx hb dX10_thefts_193 hl (k := 4) rfl (by decide +kernel) (by decide) rfl (fun ls hl => ?_)
                  refine lv_goto (tgt := 54) hx hb dX10_thefts_196 (by decide) ?_
                  refine lv_iload hx hb dX10_thefts_54 (lv_at hl 0 rfl) ?_
                  refine lv_aload_n hx hb dX10_thefts_56 rfl (lv_at hl 5 rfl) ?_
                  refine xget F hP 1 rfl rfl inX10 3 (by decide) tb403 rfl dX10_thefts_57 ?_
                  refine goI (wr := [(h7, .inr (6, [.int 0, x30, x31, x32, x33, x34])), (h1, .inr (10, [x2, x3, x4, .ref h5, x6, .ref h7, x8, x9, x10, x11, x12, x13, x14, x15, x16, x17]))]) (runV (n := 0) (As := []) (rest := [.int 1]) F hP hD hS (a_X8_all_1 l g aC aM h5 h18 x19 x20 x21 x22 x23 x24 x25 x26 x27 x28 x29) [2, 3] (by decide) rfl 2 8 rfl rfl rfl tb715 tb930 tb713 tb714 tb9 ⟨by decide, by decide, by decide +kernel⟩ ⟨Nat.le_of_ble_eq_true rfl, Nat.le_of_ble_eq_true rfl⟩ rfl hl.1 rfl (Nat.le_of_ble_eq_true rfl) dX10_thefts_60 ⟨Nat.le_of_ble_eq_true rfl, Nat.le_of_ble_eq_true rfl⟩) hP hD hS hA [2, 3] [0, 1] rfl rfl (by decide) (by decide) (fun r_36 w37 H locs hw hP hD hS => ?_)
                  have hP : va_P g vwCl [(h7, .inr (6, [.int 0, x30, x31, x32, x33, x34])), (h1, .inr (10, [x2, x3, x4, .ref h5, x6, .ref h7, x8, x9, x10, x11, x12, x13, x14, x15, x16, x17])), (h5, .inr (8, [.ref h18, x19, x20, x21, x22, x23, x24, x25, x26, x27, x28, x29])), (h18, .inl (aC 0, 5, .inl (fun _ => 0)))] H := hP
                  have hD : va_D A [(h7, .inr (6, [.int 0, x30, x31, x32, x33, x34])), (h1, .inr (10, [x2, x3, x4, .ref h5, x6, .ref h7, x8, x9, x10, x11, x12, x13, x14, x15, x16, x17])), (h5, .inr (8, [.ref h18, x19, x20, x21, x22, x23, x24, x25, x26, x27, x28, x29])), (h18, .inl (aC 0, 5, .inl (fun _ => 0)))] := hD
                  try dsimp only at hw
                  subst hw
                  refine lv_icmp_gt (tgt := 199) hx hb dX10_thefts_63 (by decide) (fun _ => ?_) (fun c_ => absurd (by decide +kernel) c_)
                  refine lv_iload_n hx hb dX10_thefts_199 rfl (lv_at hl 8 rfl) ?_
                  refine lv_if_ne (tgt := 208) hx hb dX10_thefts_200 (by decide) (fun c39 => ?_) (fun c39 => ?_)
                  · refine lv_iload hx hb dX10_thefts_208 (lv_at hl 1 rfl) ?_
                    have hP9 := hP.sub (ws' := []) [] rfl
                    have hD9 := hD.sub (ws' := []) [] (by decide) rfl
                    exact rI () hx hb hr hlk rfl hS rfl hP9 hD9 (Nat.le_of_ble_eq_true rfl) (Nat.le_of_ble_eq_true rfl) dX10_thefts_210
                  · subst c39
                    refine lv_iload hx hb dX10_thefts_203 (lv_at hl 2 rfl) ?_
                    refine lv_goto (tgt := 210) hx hb dX10_thefts_205 (by decide) ?_
                    have hP9 := hP.sub (ws' := []) [] rfl
                    have hD9 := hD.sub (ws' := []) [] (by decide) rfl
                    exact rI () hx hb hr hlk rfl hS rfl hP9 hD9 (Nat.le_of_ble_eq_true rfl) (Nat.le_of_ble_eq_true rfl) dX10_thefts_210
              · exfalso
                simp only [Int32.lt_iff_toInt_lt, Int32.le_iff_toInt_le, ← Int32.toInt_inj, show (0 : Int32).toInt = 0 by decide, show (10 : Int32).toInt = 10 by decide] at hl1 hh1 c1 c2 c18; omega
            · exfalso
              simp only [Int32.lt_iff_toInt_lt, Int32.le_iff_toInt_le, ← Int32.toInt_inj, show (0 : Int32).toInt = 0 by decide, show (1 : Int32).toInt = 1 by decide] at hl3 hh3 c5 c6; omega

theorem tb1060 : (Jvm.Cond.methodLink "StairGang" (298 : Nat) ({ cls := "StairGang", name := "passDrawnNight", desc := "()V" } : Jvm.MethodName)) ∈ gw := lw_m 1060 (by decide +kernel)
theorem tb1062 : (Jvm.Cond.instanceMethod ({ cls := "StairGang", name := "passDrawnNight", desc := "()V" } : Jvm.MethodName)) ∈ gw := lw_m 1062 (by decide +kernel)
theorem tb1063 : (Jvm.Cond.code ({ cls := "StairGang", name := "passDrawnNight", desc := "()V" } : Jvm.MethodName) prog_1_method_41_code (2 : Nat) (Option.none : Option Jvm.ClassFile.FieldType)) ∈ gw := lw_m 1063 (by decide +kernel)
theorem tv29 : Cond.selects "StairGang" ⟨"StairGang", "passDrawnNight", "()V"⟩ ⟨"StairGang", "passDrawnNight", "()V"⟩ ∈ gw := lw_v 29 (by decide +kernel)
theorem dX10_years_0 : decode cX10_years 0 = .ok (.iload_n 1, 1) := by decide +kernel
theorem dX10_years_1 : decode cX10_years 1 = .ok (.ifCond .lt 30, 3) := by decide +kernel
theorem dX10_years_4 : decode cX10_years 4 = .ok (.iload_n 1, 1) := by decide +kernel
theorem dX10_years_5 : decode cX10_years 5 = .ok (.sipush 9999, 3) := by decide +kernel
theorem dX10_years_8 : decode cX10_years 8 = .ok (.if_icmp .gt 23, 3) := by decide +kernel
theorem dX10_years_11 : decode cX10_years 11 = .ok (.iload_n 2, 1) := by decide +kernel
theorem dX10_years_12 : decode cX10_years 12 = .ok (.iconst 1, 1) := by decide +kernel
theorem dX10_years_13 : decode cX10_years 13 = .ok (.if_icmp .lt 18, 3) := by decide +kernel
theorem dX10_years_16 : decode cX10_years 16 = .ok (.iload_n 2, 1) := by decide +kernel
theorem dX10_years_17 : decode cX10_years 17 = .ok (.bipush 100, 2) := by decide +kernel
theorem dX10_years_19 : decode cX10_years 19 = .ok (.if_icmp .gt 12, 3) := by decide +kernel
theorem dX10_years_22 : decode cX10_years 22 = .ok (.iload_n 3, 1) := by decide +kernel
theorem dX10_years_23 : decode cX10_years 23 = .ok (.ifCond .lt 8, 3) := by decide +kernel
theorem dX10_years_26 : decode cX10_years 26 = .ok (.iload_n 3, 1) := by decide +kernel
theorem dX10_years_27 : decode cX10_years 27 = .ok (.iconst 2, 1) := by decide +kernel
theorem dX10_years_28 : decode cX10_years 28 = .ok (.if_icmp .le 5, 3) := by decide +kernel
theorem dX10_years_31 : decode cX10_years 31 = .ok (.iconst (-1), 1) := by decide +kernel
theorem dX10_years_32 : decode cX10_years 32 = .ok (.ireturn, 1) := by decide +kernel
theorem dX10_years_33 : decode cX10_years 33 = .ok (.aload_n 0, 1) := by decide +kernel
theorem dX10_years_34 : decode cX10_years 34 = .ok (.getfield 49, 3) := by decide +kernel
theorem dX10_years_37 : decode cX10_years 37 = .ok (.aload_n 0, 1) := by decide +kernel
theorem dX10_years_38 : decode cX10_years 38 = .ok (.getfield 45, 3) := by decide +kernel
theorem dX10_years_41 : decode cX10_years 41 = .ok (.invokevirtual 170, 3) := by decide +kernel
theorem dX10_years_44 : decode cX10_years 44 = .ok (.aload_n 0, 1) := by decide +kernel
theorem dX10_years_45 : decode cX10_years 45 = .ok (.getfield 49, 3) := by decide +kernel
theorem dX10_years_48 : decode cX10_years 48 = .ok (.iconst 0, 1) := by decide +kernel
theorem dX10_years_49 : decode cX10_years 49 = .ok (.putfield 206, 3) := by decide +kernel
theorem dX10_years_52 : decode cX10_years 52 = .ok (.aload_n 0, 1) := by decide +kernel
theorem dX10_years_53 : decode cX10_years 53 = .ok (.iload_n 1, 1) := by decide +kernel
theorem dX10_years_54 : decode cX10_years 54 = .ok (.i2l, 1) := by decide +kernel
theorem dX10_years_55 : decode cX10_years 55 = .ok (.putfield 294, 3) := by decide +kernel
theorem dX10_years_58 : decode cX10_years 58 = .ok (.aload_n 0, 1) := by decide +kernel
theorem dX10_years_59 : decode cX10_years 59 = .ok (.aload_n 0, 1) := by decide +kernel
theorem dX10_years_60 : decode cX10_years 60 = .ok (.getfield 49, 3) := by decide +kernel
theorem dX10_years_63 : decode cX10_years 63 = .ok (.invokevirtual 163, 3) := by decide +kernel
theorem dX10_years_66 : decode cX10_years 66 = .ok (.iconst 0, 1) := by decide +kernel
theorem dX10_years_67 : decode cX10_years 67 = .ok (.istore 4, 2) := by decide +kernel
theorem dX10_years_69 : decode cX10_years 69 = .ok (.iconst 0, 1) := by decide +kernel
theorem dX10_years_70 : decode cX10_years 70 = .ok (.istore 5, 2) := by decide +kernel
theorem dX10_years_72 : decode cX10_years 72 = .ok (.iload 5, 2) := by decide +kernel
theorem dX10_years_74 : decode cX10_years 74 = .ok (.iload_n 2, 1) := by decide +kernel
theorem dX10_years_75 : decode cX10_years 75 = .ok (.if_icmp .ge 32, 3) := by decide +kernel
theorem dX10_years_78 : decode cX10_years 78 = .ok (.aload_n 0, 1) := by decide +kernel
theorem dX10_years_79 : decode cX10_years 79 = .ok (.invokevirtual 298, 3) := by decide +kernel
theorem dX10_years_82 : decode cX10_years 82 = .ok (.iload 4, 2) := by decide +kernel
theorem dX10_years_84 : decode cX10_years 84 = .ok (.aload_n 0, 1) := by decide +kernel
theorem dX10_years_85 : decode cX10_years 85 = .ok (.aload_n 0, 1) := by decide +kernel
theorem dX10_years_86 : decode cX10_years 86 = .ok (.getfield 49, 3) := by decide +kernel
theorem dX10_years_89 : decode cX10_years 89 = .ok (.getfield 133, 3) := by decide +kernel
theorem dX10_years_92 : decode cX10_years 92 = .ok (.invokevirtual 167, 3) := by decide +kernel
theorem dX10_years_95 : decode cX10_years 95 = .ok (.invokestatic 219, 3) := by decide +kernel
theorem dX10_years_98 : decode cX10_years 98 = .ok (.iadd, 1) := by decide +kernel
theorem dX10_years_99 : decode cX10_years 99 = .ok (.istore 4, 2) := by decide +kernel
theorem dX10_years_101 : decode cX10_years 101 = .ok (.iinc 5 1, 3) := by decide +kernel
theorem dX10_years_104 : decode cX10_years 104 = .ok (.goto (-32), 3) := by decide +kernel
theorem dX10_years_107 : decode cX10_years 107 = .ok (.iload_n 3, 1) := by decide +kernel
theorem dX10_years_108 : decode cX10_years 108 = .ok (.ifCond .ne 11, 3) := by decide +kernel
theorem dX10_years_111 : decode cX10_years 111 = .ok (.aload_n 0, 1) := by decide +kernel
theorem dX10_years_112 : decode cX10_years 112 = .ok (.getfield 49, 3) := by decide +kernel
theorem dX10_years_115 : decode cX10_years 115 = .ok (.getfield 206, 3) := by decide +kernel
theorem dX10_years_118 : decode cX10_years 118 = .ok (.ireturn, 1) := by decide +kernel
theorem dX10_years_119 : decode cX10_years 119 = .ok (.iload_n 3, 1) := by decide +kernel
theorem dX10_years_120 : decode cX10_years 120 = .ok (.iconst 1, 1) := by decide +kernel
theorem dX10_years_121 : decode cX10_years 121 = .ok (.if_icmp .ne 16, 3) := by decide +kernel
theorem dX10_years_124 : decode cX10_years 124 = .ok (.aload_n 0, 1) := by decide +kernel
theorem dX10_years_125 : decode cX10_years 125 = .ok (.getfield 49, 3) := by decide +kernel
theorem dX10_years_128 : decode cX10_years 128 = .ok (.getfield 133, 3) := by decide +kernel
theorem dX10_years_131 : decode cX10_years 131 = .ok (.invokestatic 219, 3) := by decide +kernel
theorem dX10_years_134 : decode cX10_years 134 = .ok (.goto 5, 3) := by decide +kernel
theorem dX10_years_137 : decode cX10_years 137 = .ok (.iload 4, 2) := by decide +kernel
theorem dX10_years_139 : decode cX10_years 139 = .ok (.ireturn, 1) := by decide +kernel
set_option maxHeartbeats 4000000 in
set_option maxRecDepth 100000 in
theorem x_years_1lo (l : Launch) (g : va_G) (aC : Nat → ClassId) (aM : Nat → Nat) (h1 h5 h7 h8 h17 h29 h30 h31 h32 : Nat) (x2 x3 x4 x6 x9 x10 x11 x12 x13 x14 x15 x16 x18 x19 x20 x21 x22 x23 x24 x25 x26 x27 x28 : Value) (n_1 n_2 n_3 : Int32) (hh1 : n_1 ≤ (-1)) : Ct l g aC aM yX10_years cX10_years 6 (some .int) 5 [.ref h1, .int n_1, .int n_2, .int n_3] [(h1, .inr (10, [x2, x3, x4, .ref h5, x6, .ref h7, .ref h8, x9, x10, x11, x12, x13, x14, x15, x16, .long 0])), (h5, .inr (8, [.ref h17, x18, x19, x20, x21, x22, x23, x24, x25, x26, x27, x28])), (h17, .inl (aC 0, 5, .inl (fun _ => 0))), (h7, .inr (6, [.int 0, .ref h29, .ref h30, .int 0, .int 0, .int 0])), (h29, .inl (aC 0, 5, .inl (fun _ => 0))), (h30, .inl (aC 0, 4, .inl (fun _ => 0))), (h8, .inr (6, [.int 0, .ref h31, .ref h32, .int 0, .int 0, .int 0])), (h31, .inl (aC 0, 5, .inl (fun _ => 0))), (h32, .inl (aC 0, 4, .inl (fun _ => 0)))] (QI g (fun (r : Int32) (_ : Unit) => r = (-1)) (fun (_ : Unit) => [])) 0 0 := by
  refine Ct.mk (by decide) (Nat.le_of_ble_eq_true rfl) ?_
  intro p e s m below meth c A ls hx hb hml hown hts hr hlk hnm hK hA hM hM2 hP hD hS hl
  have hown : s.vm.findClass RX10 = some m.cls := hown
  have F : Fx p s m _ c cX10_years 6 RX10 g aC aM A := ⟨hx, hb, hml, hown, hts, hK, hA, hM, hM2⟩
  have hl : lv_has ls 6 [(0, .ref h1), (1, .int n_1), (2, .int n_2), (3, .int n_3)] := hl
  refine lv_iload_n hx hb dX10_years_0 rfl (lv_at hl 1 rfl) ?_
  refine lv_if_lt (tgt := 31) hx hb dX10_years_1 (by decide) (fun c1 => ?_) (fun c1 => ?_)
  · refine lv_iconst (v := (-1)) hx hb dX10_years_31 (by decide) ?_
    have hP9 := hP.sub (ws' := []) [] rfl
    have hD9 := hD.sub (ws' := []) [] (by decide) rfl
    exact rI () hx hb hr hlk rfl hS rfl hP9 hD9 (Nat.le_of_ble_eq_true rfl) (Nat.le_of_ble_eq_true rfl) dX10_years_32
  · exfalso
    simp only [Int32.lt_iff_toInt_lt, Int32.le_iff_toInt_le, ← Int32.toInt_inj, show (-1 : Int32).toInt = -1 by decide, show (0 : Int32).toInt = 0 by decide] at hh1 c1; omega

set_option maxHeartbeats 4000000 in
set_option maxRecDepth 100000 in
theorem x_years_1hi (l : Launch) (g : va_G) (aC : Nat → ClassId) (aM : Nat → Nat) (h1 h5 h7 h8 h17 h29 h30 h31 h32 : Nat) (x2 x3 x4 x6 x9 x10 x11 x12 x13 x14 x15 x16 x18 x19 x20 x21 x22 x23 x24 x25 x26 x27 x28 : Value) (n_1 n_2 n_3 : Int32) (hl1 : 10000 ≤ n_1) : Ct l g aC aM yX10_years cX10_years 6 (some .int) 5 [.ref h1, .int n_1, .int n_2, .int n_3] [(h1, .inr (10, [x2, x3, x4, .ref h5, x6, .ref h7, .ref h8, x9, x10, x11, x12, x13, x14, x15, x16, .long 0])), (h5, .inr (8, [.ref h17, x18, x19, x20, x21, x22, x23, x24, x25, x26, x27, x28])), (h17, .inl (aC 0, 5, .inl (fun _ => 0))), (h7, .inr (6, [.int 0, .ref h29, .ref h30, .int 0, .int 0, .int 0])), (h29, .inl (aC 0, 5, .inl (fun _ => 0))), (h30, .inl (aC 0, 4, .inl (fun _ => 0))), (h8, .inr (6, [.int 0, .ref h31, .ref h32, .int 0, .int 0, .int 0])), (h31, .inl (aC 0, 5, .inl (fun _ => 0))), (h32, .inl (aC 0, 4, .inl (fun _ => 0)))] (QI g (fun (r : Int32) (_ : Unit) => r = (-1)) (fun (_ : Unit) => [])) 0 0 := by
  refine Ct.mk (by decide) (Nat.le_of_ble_eq_true rfl) ?_
  intro p e s m below meth c A ls hx hb hml hown hts hr hlk hnm hK hA hM hM2 hP hD hS hl
  have hown : s.vm.findClass RX10 = some m.cls := hown
  have F : Fx p s m _ c cX10_years 6 RX10 g aC aM A := ⟨hx, hb, hml, hown, hts, hK, hA, hM, hM2⟩
  have hl : lv_has ls 6 [(0, .ref h1), (1, .int n_1), (2, .int n_2), (3, .int n_3)] := hl
  refine lv_iload_n hx hb dX10_years_0 rfl (lv_at hl 1 rfl) ?_
  refine lv_if_lt (tgt := 31) hx hb dX10_years_1 (by decide) (fun c1 => ?_) (fun c1 => ?_)
  · exfalso
    simp only [Int32.lt_iff_toInt_lt, Int32.le_iff_toInt_le, ← Int32.toInt_inj, show (0 : Int32).toInt = 0 by decide, show (10000 : Int32).toInt = 10000 by decide] at hl1 c1; omega
  · refine lv_iload_n hx hb dX10_years_4 rfl (lv_at hl 1 rfl) ?_
    refine lv_sipush (v := 9999) hx hb dX10_years_5 (by decide) ?_
    refine lv_icmp_gt (tgt := 31) hx hb dX10_years_8 (by decide) (fun c2 => ?_) (fun c2 => ?_)
    · refine lv_iconst (v := (-1)) hx hb dX10_years_31 (by decide) ?_
      have hP9 := hP.sub (ws' := []) [] rfl
      have hD9 := hD.sub (ws' := []) [] (by decide) rfl
      exact rI () hx hb hr hlk rfl hS rfl hP9 hD9 (Nat.le_of_ble_eq_true rfl) (Nat.le_of_ble_eq_true rfl) dX10_years_32
    · exfalso
      simp only [Int32.lt_iff_toInt_lt, Int32.le_iff_toInt_le, ← Int32.toInt_inj, show (0 : Int32).toInt = 0 by decide, show (9999 : Int32).toInt = 9999 by decide, show (10000 : Int32).toInt = 10000 by decide] at hl1 c1 c2; omega

set_option maxHeartbeats 4000000 in
set_option maxRecDepth 100000 in
theorem x_years_2lo (l : Launch) (g : va_G) (aC : Nat → ClassId) (aM : Nat → Nat) (h1 h5 h7 h8 h17 h29 h30 h31 h32 : Nat) (x2 x3 x4 x6 x9 x10 x11 x12 x13 x14 x15 x16 x18 x19 x20 x21 x22 x23 x24 x25 x26 x27 x28 : Value) (n_1 n_2 n_3 : Int32) (hl1 : 0 ≤ n_1) (hh1 : n_1 ≤ 9999) (hh2 : n_2 ≤ 0) : Ct l g aC aM yX10_years cX10_years 6 (some .int) 5 [.ref h1, .int n_1, .int n_2, .int n_3] [(h1, .inr (10, [x2, x3, x4, .ref h5, x6, .ref h7, .ref h8, x9, x10, x11, x12, x13, x14, x15, x16, .long 0])), (h5, .inr (8, [.ref h17, x18, x19, x20, x21, x22, x23, x24, x25, x26, x27, x28])), (h17, .inl (aC 0, 5, .inl (fun _ => 0))), (h7, .inr (6, [.int 0, .ref h29, .ref h30, .int 0, .int 0, .int 0])), (h29, .inl (aC 0, 5, .inl (fun _ => 0))), (h30, .inl (aC 0, 4, .inl (fun _ => 0))), (h8, .inr (6, [.int 0, .ref h31, .ref h32, .int 0, .int 0, .int 0])), (h31, .inl (aC 0, 5, .inl (fun _ => 0))), (h32, .inl (aC 0, 4, .inl (fun _ => 0)))] (QI g (fun (r : Int32) (_ : Unit) => r = (-1)) (fun (_ : Unit) => [])) 0 0 := by
  refine Ct.mk (by decide) (Nat.le_of_ble_eq_true rfl) ?_
  intro p e s m below meth c A ls hx hb hml hown hts hr hlk hnm hK hA hM hM2 hP hD hS hl
  have hown : s.vm.findClass RX10 = some m.cls := hown
  have F : Fx p s m _ c cX10_years 6 RX10 g aC aM A := ⟨hx, hb, hml, hown, hts, hK, hA, hM, hM2⟩
  have hl : lv_has ls 6 [(0, .ref h1), (1, .int n_1), (2, .int n_2), (3, .int n_3)] := hl
  refine lv_iload_n hx hb dX10_years_0 rfl (lv_at hl 1 rfl) ?_
  refine lv_if_lt (tgt := 31) hx hb dX10_years_1 (by decide) (fun c1 => ?_) (fun c1 => ?_)
  · exfalso
    simp only [Int32.lt_iff_toInt_lt, Int32.le_iff_toInt_le, ← Int32.toInt_inj, show (0 : Int32).toInt = 0 by decide, show (9999 : Int32).toInt = 9999 by decide] at hl1 hh1 c1; omega
  · refine lv_iload_n hx hb dX10_years_4 rfl (lv_at hl 1 rfl) ?_
    refine lv_sipush (v := 9999) hx hb dX10_years_5 (by decide) ?_
    refine lv_icmp_gt (tgt := 31) hx hb dX10_years_8 (by decide) (fun c2 => ?_) (fun c2 => ?_)
    · exfalso
      simp only [Int32.lt_iff_toInt_lt, Int32.le_iff_toInt_le, ← Int32.toInt_inj, show (0 : Int32).toInt = 0 by decide, show (9999 : Int32).toInt = 9999 by decide] at hl1 hh1 c1 c2; omega
    · refine lv_iload_n hx hb dX10_years_11 rfl (lv_at hl 2 rfl) ?_
      refine lv_iconst (v := 1) hx hb dX10_years_12 (by decide) ?_
      refine lv_icmp_lt (tgt := 31) hx hb dX10_years_13 (by decide) (fun c3 => ?_) (fun c3 => ?_)
      · refine lv_iconst (v := (-1)) hx hb dX10_years_31 (by decide) ?_
        have hP9 := hP.sub (ws' := []) [] rfl
        have hD9 := hD.sub (ws' := []) [] (by decide) rfl
        exact rI () hx hb hr hlk rfl hS rfl hP9 hD9 (Nat.le_of_ble_eq_true rfl) (Nat.le_of_ble_eq_true rfl) dX10_years_32
      · exfalso
        simp only [Int32.lt_iff_toInt_lt, Int32.le_iff_toInt_le, ← Int32.toInt_inj, show (0 : Int32).toInt = 0 by decide, show (1 : Int32).toInt = 1 by decide] at hh2 c3; omega

set_option maxHeartbeats 4000000 in
set_option maxRecDepth 100000 in
theorem x_years_2hi (l : Launch) (g : va_G) (aC : Nat → ClassId) (aM : Nat → Nat) (h1 h5 h7 h8 h17 h29 h30 h31 h32 : Nat) (x2 x3 x4 x6 x9 x10 x11 x12 x13 x14 x15 x16 x18 x19 x20 x21 x22 x23 x24 x25 x26 x27 x28 : Value) (n_1 n_2 n_3 : Int32) (hl1 : 0 ≤ n_1) (hh1 : n_1 ≤ 9999) (hl2 : 101 ≤ n_2) : Ct l g aC aM yX10_years cX10_years 6 (some .int) 5 [.ref h1, .int n_1, .int n_2, .int n_3] [(h1, .inr (10, [x2, x3, x4, .ref h5, x6, .ref h7, .ref h8, x9, x10, x11, x12, x13, x14, x15, x16, .long 0])), (h5, .inr (8, [.ref h17, x18, x19, x20, x21, x22, x23, x24, x25, x26, x27, x28])), (h17, .inl (aC 0, 5, .inl (fun _ => 0))), (h7, .inr (6, [.int 0, .ref h29, .ref h30, .int 0, .int 0, .int 0])), (h29, .inl (aC 0, 5, .inl (fun _ => 0))), (h30, .inl (aC 0, 4, .inl (fun _ => 0))), (h8, .inr (6, [.int 0, .ref h31, .ref h32, .int 0, .int 0, .int 0])), (h31, .inl (aC 0, 5, .inl (fun _ => 0))), (h32, .inl (aC 0, 4, .inl (fun _ => 0)))] (QI g (fun (r : Int32) (_ : Unit) => r = (-1)) (fun (_ : Unit) => [])) 0 0 := by
  refine Ct.mk (by decide) (Nat.le_of_ble_eq_true rfl) ?_
  intro p e s m below meth c A ls hx hb hml hown hts hr hlk hnm hK hA hM hM2 hP hD hS hl
  have hown : s.vm.findClass RX10 = some m.cls := hown
  have F : Fx p s m _ c cX10_years 6 RX10 g aC aM A := ⟨hx, hb, hml, hown, hts, hK, hA, hM, hM2⟩
  have hl : lv_has ls 6 [(0, .ref h1), (1, .int n_1), (2, .int n_2), (3, .int n_3)] := hl
  refine lv_iload_n hx hb dX10_years_0 rfl (lv_at hl 1 rfl) ?_
  refine lv_if_lt (tgt := 31) hx hb dX10_years_1 (by decide) (fun c1 => ?_) (fun c1 => ?_)
  · exfalso
    simp only [Int32.lt_iff_toInt_lt, Int32.le_iff_toInt_le, ← Int32.toInt_inj, show (0 : Int32).toInt = 0 by decide, show (9999 : Int32).toInt = 9999 by decide] at hl1 hh1 c1; omega
  · refine lv_iload_n hx hb dX10_years_4 rfl (lv_at hl 1 rfl) ?_
    refine lv_sipush (v := 9999) hx hb dX10_years_5 (by decide) ?_
    refine lv_icmp_gt (tgt := 31) hx hb dX10_years_8 (by decide) (fun c2 => ?_) (fun c2 => ?_)
    · exfalso
      simp only [Int32.lt_iff_toInt_lt, Int32.le_iff_toInt_le, ← Int32.toInt_inj, show (0 : Int32).toInt = 0 by decide, show (9999 : Int32).toInt = 9999 by decide] at hl1 hh1 c1 c2; omega
    · refine lv_iload_n hx hb dX10_years_11 rfl (lv_at hl 2 rfl) ?_
      refine lv_iconst (v := 1) hx hb dX10_years_12 (by decide) ?_
      refine lv_icmp_lt (tgt := 31) hx hb dX10_years_13 (by decide) (fun c3 => ?_) (fun c3 => ?_)
      · exfalso
        simp only [Int32.lt_iff_toInt_lt, Int32.le_iff_toInt_le, ← Int32.toInt_inj, show (1 : Int32).toInt = 1 by decide, show (101 : Int32).toInt = 101 by decide] at hl2 c3; omega
      · refine lv_iload_n hx hb dX10_years_16 rfl (lv_at hl 2 rfl) ?_
        refine lv_bipush (v := 100) hx hb dX10_years_17 (by decide) ?_
        refine lv_icmp_gt (tgt := 31) hx hb dX10_years_19 (by decide) (fun c4 => ?_) (fun c4 => ?_)
        · refine lv_iconst (v := (-1)) hx hb dX10_years_31 (by decide) ?_
          have hP9 := hP.sub (ws' := []) [] rfl
          have hD9 := hD.sub (ws' := []) [] (by decide) rfl
          exact rI () hx hb hr hlk rfl hS rfl hP9 hD9 (Nat.le_of_ble_eq_true rfl) (Nat.le_of_ble_eq_true rfl) dX10_years_32
        · exfalso
          simp only [Int32.lt_iff_toInt_lt, Int32.le_iff_toInt_le, ← Int32.toInt_inj, show (1 : Int32).toInt = 1 by decide, show (100 : Int32).toInt = 100 by decide, show (101 : Int32).toInt = 101 by decide] at hl2 c3 c4; omega

set_option maxHeartbeats 4000000 in
set_option maxRecDepth 100000 in
theorem x_years_3lo (l : Launch) (g : va_G) (aC : Nat → ClassId) (aM : Nat → Nat) (h1 h5 h7 h8 h17 h29 h30 h31 h32 : Nat) (x2 x3 x4 x6 x9 x10 x11 x12 x13 x14 x15 x16 x18 x19 x20 x21 x22 x23 x24 x25 x26 x27 x28 : Value) (n_1 n_2 n_3 : Int32) (hl1 : 0 ≤ n_1) (hh1 : n_1 ≤ 9999) (hl2 : 1 ≤ n_2) (hh2 : n_2 ≤ 100) (hh3 : n_3 ≤ (-1)) : Ct l g aC aM yX10_years cX10_years 6 (some .int) 5 [.ref h1, .int n_1, .int n_2, .int n_3] [(h1, .inr (10, [x2, x3, x4, .ref h5, x6, .ref h7, .ref h8, x9, x10, x11, x12, x13, x14, x15, x16, .long 0])), (h5, .inr (8, [.ref h17, x18, x19, x20, x21, x22, x23, x24, x25, x26, x27, x28])), (h17, .inl (aC 0, 5, .inl (fun _ => 0))), (h7, .inr (6, [.int 0, .ref h29, .ref h30, .int 0, .int 0, .int 0])), (h29, .inl (aC 0, 5, .inl (fun _ => 0))), (h30, .inl (aC 0, 4, .inl (fun _ => 0))), (h8, .inr (6, [.int 0, .ref h31, .ref h32, .int 0, .int 0, .int 0])), (h31, .inl (aC 0, 5, .inl (fun _ => 0))), (h32, .inl (aC 0, 4, .inl (fun _ => 0)))] (QI g (fun (r : Int32) (_ : Unit) => r = (-1)) (fun (_ : Unit) => [])) 0 0 := by
  refine Ct.mk (by decide) (Nat.le_of_ble_eq_true rfl) ?_
  intro p e s m below meth c A ls hx hb hml hown hts hr hlk hnm hK hA hM hM2 hP hD hS hl
  have hown : s.vm.findClass RX10 = some m.cls := hown
  have F : Fx p s m _ c cX10_years 6 RX10 g aC aM A := ⟨hx, hb, hml, hown, hts, hK, hA, hM, hM2⟩
  have hl : lv_has ls 6 [(0, .ref h1), (1, .int n_1), (2, .int n_2), (3, .int n_3)] := hl
  refine lv_iload_n hx hb dX10_years_0 rfl (lv_at hl 1 rfl) ?_
  refine lv_if_lt (tgt := 31) hx hb dX10_years_1 (by decide) (fun c1 => ?_) (fun c1 => ?_)
  · exfalso
    simp only [Int32.lt_iff_toInt_lt, Int32.le_iff_toInt_le, ← Int32.toInt_inj, show (0 : Int32).toInt = 0 by decide, show (9999 : Int32).toInt = 9999 by decide] at hl1 hh1 c1; omega
  · refine lv_iload_n hx hb dX10_years_4 rfl (lv_at hl 1 rfl) ?_
    refine lv_sipush (v := 9999) hx hb dX10_years_5 (by decide) ?_
    refine lv_icmp_gt (tgt := 31) hx hb dX10_years_8 (by decide) (fun c2 => ?_) (fun c2 => ?_)
    · exfalso
      simp only [Int32.lt_iff_toInt_lt, Int32.le_iff_toInt_le, ← Int32.toInt_inj, show (0 : Int32).toInt = 0 by decide, show (9999 : Int32).toInt = 9999 by decide] at hl1 hh1 c1 c2; omega
    · refine lv_iload_n hx hb dX10_years_11 rfl (lv_at hl 2 rfl) ?_
      refine lv_iconst (v := 1) hx hb dX10_years_12 (by decide) ?_
      refine lv_icmp_lt (tgt := 31) hx hb dX10_years_13 (by decide) (fun c3 => ?_) (fun c3 => ?_)
      · exfalso
        simp only [Int32.lt_iff_toInt_lt, Int32.le_iff_toInt_le, ← Int32.toInt_inj, show (1 : Int32).toInt = 1 by decide, show (100 : Int32).toInt = 100 by decide] at hl2 hh2 c3; omega
      · refine lv_iload_n hx hb dX10_years_16 rfl (lv_at hl 2 rfl) ?_
        refine lv_bipush (v := 100) hx hb dX10_years_17 (by decide) ?_
        refine lv_icmp_gt (tgt := 31) hx hb dX10_years_19 (by decide) (fun c4 => ?_) (fun c4 => ?_)
        · exfalso
          simp only [Int32.lt_iff_toInt_lt, Int32.le_iff_toInt_le, ← Int32.toInt_inj, show (1 : Int32).toInt = 1 by decide, show (100 : Int32).toInt = 100 by decide] at hl2 hh2 c3 c4; omega
        · refine lv_iload_n hx hb dX10_years_22 rfl (lv_at hl 3 rfl) ?_
          refine lv_if_lt (tgt := 31) hx hb dX10_years_23 (by decide) (fun c5 => ?_) (fun c5 => ?_)
          · refine lv_iconst (v := (-1)) hx hb dX10_years_31 (by decide) ?_
            have hP9 := hP.sub (ws' := []) [] rfl
            have hD9 := hD.sub (ws' := []) [] (by decide) rfl
            exact rI () hx hb hr hlk rfl hS rfl hP9 hD9 (Nat.le_of_ble_eq_true rfl) (Nat.le_of_ble_eq_true rfl) dX10_years_32
          · exfalso
            simp only [Int32.lt_iff_toInt_lt, Int32.le_iff_toInt_le, ← Int32.toInt_inj, show (-1 : Int32).toInt = -1 by decide, show (0 : Int32).toInt = 0 by decide] at hh3 c5; omega

set_option maxHeartbeats 4000000 in
set_option maxRecDepth 100000 in
theorem x_years_3hi (l : Launch) (g : va_G) (aC : Nat → ClassId) (aM : Nat → Nat) (h1 h5 h7 h8 h17 h29 h30 h31 h32 : Nat) (x2 x3 x4 x6 x9 x10 x11 x12 x13 x14 x15 x16 x18 x19 x20 x21 x22 x23 x24 x25 x26 x27 x28 : Value) (n_1 n_2 n_3 : Int32) (hl1 : 0 ≤ n_1) (hh1 : n_1 ≤ 9999) (hl2 : 1 ≤ n_2) (hh2 : n_2 ≤ 100) (hl3 : 3 ≤ n_3) : Ct l g aC aM yX10_years cX10_years 6 (some .int) 5 [.ref h1, .int n_1, .int n_2, .int n_3] [(h1, .inr (10, [x2, x3, x4, .ref h5, x6, .ref h7, .ref h8, x9, x10, x11, x12, x13, x14, x15, x16, .long 0])), (h5, .inr (8, [.ref h17, x18, x19, x20, x21, x22, x23, x24, x25, x26, x27, x28])), (h17, .inl (aC 0, 5, .inl (fun _ => 0))), (h7, .inr (6, [.int 0, .ref h29, .ref h30, .int 0, .int 0, .int 0])), (h29, .inl (aC 0, 5, .inl (fun _ => 0))), (h30, .inl (aC 0, 4, .inl (fun _ => 0))), (h8, .inr (6, [.int 0, .ref h31, .ref h32, .int 0, .int 0, .int 0])), (h31, .inl (aC 0, 5, .inl (fun _ => 0))), (h32, .inl (aC 0, 4, .inl (fun _ => 0)))] (QI g (fun (r : Int32) (_ : Unit) => r = (-1)) (fun (_ : Unit) => [])) 0 0 := by
  refine Ct.mk (by decide) (Nat.le_of_ble_eq_true rfl) ?_
  intro p e s m below meth c A ls hx hb hml hown hts hr hlk hnm hK hA hM hM2 hP hD hS hl
  have hown : s.vm.findClass RX10 = some m.cls := hown
  have F : Fx p s m _ c cX10_years 6 RX10 g aC aM A := ⟨hx, hb, hml, hown, hts, hK, hA, hM, hM2⟩
  have hl : lv_has ls 6 [(0, .ref h1), (1, .int n_1), (2, .int n_2), (3, .int n_3)] := hl
  refine lv_iload_n hx hb dX10_years_0 rfl (lv_at hl 1 rfl) ?_
  refine lv_if_lt (tgt := 31) hx hb dX10_years_1 (by decide) (fun c1 => ?_) (fun c1 => ?_)
  · exfalso
    simp only [Int32.lt_iff_toInt_lt, Int32.le_iff_toInt_le, ← Int32.toInt_inj, show (0 : Int32).toInt = 0 by decide, show (9999 : Int32).toInt = 9999 by decide] at hl1 hh1 c1; omega
  · refine lv_iload_n hx hb dX10_years_4 rfl (lv_at hl 1 rfl) ?_
    refine lv_sipush (v := 9999) hx hb dX10_years_5 (by decide) ?_
    refine lv_icmp_gt (tgt := 31) hx hb dX10_years_8 (by decide) (fun c2 => ?_) (fun c2 => ?_)
    · exfalso
      simp only [Int32.lt_iff_toInt_lt, Int32.le_iff_toInt_le, ← Int32.toInt_inj, show (0 : Int32).toInt = 0 by decide, show (9999 : Int32).toInt = 9999 by decide] at hl1 hh1 c1 c2; omega
    · refine lv_iload_n hx hb dX10_years_11 rfl (lv_at hl 2 rfl) ?_
      refine lv_iconst (v := 1) hx hb dX10_years_12 (by decide) ?_
      refine lv_icmp_lt (tgt := 31) hx hb dX10_years_13 (by decide) (fun c3 => ?_) (fun c3 => ?_)
      · exfalso
        simp only [Int32.lt_iff_toInt_lt, Int32.le_iff_toInt_le, ← Int32.toInt_inj, show (1 : Int32).toInt = 1 by decide, show (100 : Int32).toInt = 100 by decide] at hl2 hh2 c3; omega
      · refine lv_iload_n hx hb dX10_years_16 rfl (lv_at hl 2 rfl) ?_
        refine lv_bipush (v := 100) hx hb dX10_years_17 (by decide) ?_
        refine lv_icmp_gt (tgt := 31) hx hb dX10_years_19 (by decide) (fun c4 => ?_) (fun c4 => ?_)
        · exfalso
          simp only [Int32.lt_iff_toInt_lt, Int32.le_iff_toInt_le, ← Int32.toInt_inj, show (1 : Int32).toInt = 1 by decide, show (100 : Int32).toInt = 100 by decide] at hl2 hh2 c3 c4; omega
        · refine lv_iload_n hx hb dX10_years_22 rfl (lv_at hl 3 rfl) ?_
          refine lv_if_lt (tgt := 31) hx hb dX10_years_23 (by decide) (fun c5 => ?_) (fun c5 => ?_)
          · exfalso
            simp only [Int32.lt_iff_toInt_lt, Int32.le_iff_toInt_le, ← Int32.toInt_inj, show (0 : Int32).toInt = 0 by decide, show (3 : Int32).toInt = 3 by decide] at hl3 c5; omega
          · refine lv_iload_n hx hb dX10_years_26 rfl (lv_at hl 3 rfl) ?_
            refine lv_iconst (v := 2) hx hb dX10_years_27 (by decide) ?_
            refine lv_icmp_le (tgt := 33) hx hb dX10_years_28 (by decide) (fun c6 => ?_) (fun c6 => ?_)
            · exfalso
              simp only [Int32.lt_iff_toInt_lt, Int32.le_iff_toInt_le, ← Int32.toInt_inj, show (0 : Int32).toInt = 0 by decide, show (2 : Int32).toInt = 2 by decide, show (3 : Int32).toInt = 3 by decide] at hl3 c5 c6; omega
            · refine lv_iconst (v := (-1)) hx hb dX10_years_31 (by decide) ?_
              have hP9 := hP.sub (ws' := []) [] rfl
              have hD9 := hD.sub (ws' := []) [] (by decide) rfl
              exact rI () hx hb hr hlk rfl hS rfl hP9 hD9 (Nat.le_of_ble_eq_true rfl) (Nat.le_of_ble_eq_true rfl) dX10_years_32

set_option maxHeartbeats 4000000 in
set_option maxRecDepth 100000 in
theorem x_years_ok (l : Launch) (g : va_G) (aC : Nat → ClassId) (aM : Nat → Nat) (h1 h5 h7 h8 h17 h29 h30 h31 h32 : Nat) (x2 x3 x4 x6 x9 x10 x11 x12 x13 x14 x15 x16 x18 x19 x20 x21 x22 x23 x24 x25 x26 x27 x28 : Value) (n_1 n_3 : Int32) (nn : Nat) (hl1 : 0 ≤ n_1) (hh1 : n_1 ≤ 9999) (hl3 : 0 ≤ n_3) (hh3 : n_3 ≤ 2) (hn1 : 1 ≤ nn) (hn2 : nn ≤ 100) : Ct l g aC aM yX10_years cX10_years 6 (some .int) 5 [.ref h1, .int n_1, .int (nI nn), .int n_3] [(h1, .inr (10, [x2, x3, x4, .ref h5, x6, .ref h7, .ref h8, x9, x10, x11, x12, x13, x14, x15, x16, .long 0])), (h5, .inr (8, [.ref h17, x18, x19, x20, x21, x22, x23, x24, x25, x26, x27, x28])), (h17, .inl (aC 0, 5, .inl (fun _ => 0))), (h7, .inr (6, [.int 0, .ref h29, .ref h30, .int 0, .int 0, .int 0])), (h29, .inl (aC 0, 5, .inl (fun _ => 0))), (h30, .inl (aC 0, 4, .inl (fun _ => 0))), (h8, .inr (6, [.int 0, .ref h31, .ref h32, .int 0, .int 0, .int 0])), (h31, .inl (aC 0, 5, .inl (fun _ => 0))), (h32, .inl (aC 0, 4, .inl (fun _ => 0)))] (QI g (fun (r : Int32) (_ : Unit) => r = 0) (fun (_ : Unit) => [])) 0 0 := by
  refine Ct.mk (by decide) (Nat.le_of_ble_eq_true rfl) ?_
  intro p e s m below meth c A ls hx hb hml hown hts hr hlk hnm hK hA hM hM2 hP hD hS hl
  have hown : s.vm.findClass RX10 = some m.cls := hown
  have F : Fx p s m _ c cX10_years 6 RX10 g aC aM A := ⟨hx, hb, hml, hown, hts, hK, hA, hM, hM2⟩
  have hl : lv_has ls 6 [(0, .ref h1), (1, .int n_1), (2, .int (nI nn)), (3, .int n_3)] := hl
  refine lv_iload_n hx hb dX10_years_0 rfl (lv_at hl 1 rfl) ?_
  refine lv_if_lt (tgt := 31) hx hb dX10_years_1 (by decide) (fun c1 => ?_) (fun c1 => ?_)
  · exfalso
    simp only [Int32.lt_iff_toInt_lt, Int32.le_iff_toInt_le, ← Int32.toInt_inj, show (0 : Int32).toInt = 0 by decide, show (9999 : Int32).toInt = 9999 by decide] at hl1 hh1 c1; omega
  · refine lv_iload_n hx hb dX10_years_4 rfl (lv_at hl 1 rfl) ?_
    refine lv_sipush (v := 9999) hx hb dX10_years_5 (by decide) ?_
    refine lv_icmp_gt (tgt := 31) hx hb dX10_years_8 (by decide) (fun c2 => ?_) (fun c2 => ?_)
    · exfalso
      simp only [Int32.lt_iff_toInt_lt, Int32.le_iff_toInt_le, ← Int32.toInt_inj, show (0 : Int32).toInt = 0 by decide, show (9999 : Int32).toInt = 9999 by decide] at hl1 hh1 c1 c2; omega
    · refine lv_iload_n hx hb dX10_years_11 rfl (lv_at hl 2 rfl) ?_
      refine lv_iconst (v := 1) hx hb dX10_years_12 (by decide) ?_
      refine lv_icmp_lt (tgt := 31) hx hb dX10_years_13 (by decide) (fun c_ => absurd c_ (show ¬ (nI nn < nI 1) by rw [nI_ltI (by omega) (by omega)]; omega)) (fun _ => ?_)
      refine lv_iload_n hx hb dX10_years_16 rfl (lv_at hl 2 rfl) ?_
      refine lv_bipush (v := 100) hx hb dX10_years_17 (by decide) ?_
      refine lv_icmp_gt (tgt := 31) hx hb dX10_years_19 (by decide) (fun c_ => absurd c_ (show ¬ (nI 100 < nI nn) by rw [nI_ltI (by omega) (by omega)]; omega)) (fun _ => ?_)
      refine lv_iload_n hx hb dX10_years_22 rfl (lv_at hl 3 rfl) ?_
      refine lv_if_lt (tgt := 31) hx hb dX10_years_23 (by decide) (fun c3 => ?_) (fun c3 => ?_)
      · exfalso
        simp only [Int32.lt_iff_toInt_lt, Int32.le_iff_toInt_le, ← Int32.toInt_inj, show (0 : Int32).toInt = 0 by decide, show (2 : Int32).toInt = 2 by decide] at hl3 hh3 c3; omega
      · refine lv_iload_n hx hb dX10_years_26 rfl (lv_at hl 3 rfl) ?_
        refine lv_iconst (v := 2) hx hb dX10_years_27 (by decide) ?_
        refine lv_icmp_le (tgt := 33) hx hb dX10_years_28 (by decide) (fun c4 => ?_) (fun c4 => ?_)
        · refine lv_aload_n hx hb dX10_years_33 rfl (lv_at hl 0 rfl) ?_
          refine xget F hP 0 rfl rfl inX10 6 (by decide) tb406 rfl dX10_years_34 ?_
          refine lv_aload_n hx hb dX10_years_37 rfl (lv_at hl 0 rfl) ?_
          refine xget F hP 0 rfl rfl inX10 5 (by decide) tb405 rfl dX10_years_38 ?_
          refine goV (wr := [(h1, .inr (10, [x2, x3, x4, .ref h5, x6, .ref h7, .ref h8, x9, x10, x11, x12, x13, x14, x15, x16, .long 0])), (h5, .inr (8, [.ref h17, x18, x19, x20, x21, x22, x23, x24, x25, x26, x27, x28])), (h17, .inl (aC 0, 5, .inl (fun _ => 0)))]) (runV (n := 1) (As := [.ref h7]) (rest := []) F hP hD hS (a_X6_copy_1 l g aC aM h8 h7 h29 h30 h31 h32) [3, 4, 5, 6, 7, 8] (by decide) rfl 6 6 rfl rfl rfl tb837 tb834 tb835 tb836 tb12 ⟨by decide, by decide, by decide +kernel⟩ ⟨Nat.le_of_ble_eq_true rfl, Nat.le_of_ble_eq_true rfl⟩ rfl hl.1 rfl (Nat.le_of_ble_eq_true rfl) dX10_years_41 ⟨Nat.le_of_ble_eq_true rfl, Nat.le_of_ble_eq_true rfl⟩) hP hD hS hA [3, 4, 5, 6, 7, 8] [0, 1, 2] rfl rfl (by decide) (by decide) (fun w7 H locs hw hP hD hS => ?_)
          have hP : va_P g vwCl [(h1, .inr (10, [x2, x3, x4, .ref h5, x6, .ref h7, .ref h8, x9, x10, x11, x12, x13, x14, x15, x16, .long 0])), (h5, .inr (8, [.ref h17, x18, x19, x20, x21, x22, x23, x24, x25, x26, x27, x28])), (h17, .inl (aC 0, 5, .inl (fun _ => 0))), (h7, .inr (6, [.int 0, .ref h29, .ref h30, .int 0, .int 0, .int 0])), (h29, .inl (aC 0, 5, .inl (fun _ => 0))), (h30, .inl (aC 0, 4, .inl (fun _ => 0))), (h8, .inr (6, [.int 0, .ref h31, .ref h32, .int 0, .int 0, .int 0])), (h31, .inl (aC 0, 5, .inl (fun _ => 0))), (h32, .inl (aC 0, 4, .inl (fun _ => 0)))] H := hP
          have hD : va_D A [(h1, .inr (10, [x2, x3, x4, .ref h5, x6, .ref h7, .ref h8, x9, x10, x11, x12, x13, x14, x15, x16, .long 0])), (h5, .inr (8, [.ref h17, x18, x19, x20, x21, x22, x23, x24, x25, x26, x27, x28])), (h17, .inl (aC 0, 5, .inl (fun _ => 0))), (h7, .inr (6, [.int 0, .ref h29, .ref h30, .int 0, .int 0, .int 0])), (h29, .inl (aC 0, 5, .inl (fun _ => 0))), (h30, .inl (aC 0, 4, .inl (fun _ => 0))), (h8, .inr (6, [.int 0, .ref h31, .ref h32, .int 0, .int 0, .int 0])), (h31, .inl (aC 0, 5, .inl (fun _ => 0))), (h32, .inl (aC 0, 4, .inl (fun _ => 0)))] := hD
          refine lv_aload_n hx hb dX10_years_44 rfl (lv_at hl 0 rfl) ?_
          refine xget F hP 0 rfl rfl inX10 6 (by decide) tb406 rfl dX10_years_45 ?_
          refine lv_iconst (v := 0) hx hb dX10_years_48 (by decide) ?_
          refine xput F hP hD hS 6 rfl rfl inX6 tyX6_ok nmX6 5 (by decide) tb303 rfl rfl rfl (Nat.le_of_ble_eq_true rfl) dX10_years_49 (fun H locs hP hD hS => ?_)
          have hP : va_P g vwCl [(h1, .inr (10, [x2, x3, x4, .ref h5, x6, .ref h7, .ref h8, x9, x10, x11, x12, x13, x14, x15, x16, .long 0])), (h5, .inr (8, [.ref h17, x18, x19, x20, x21, x22, x23, x24, x25, x26, x27, x28])), (h17, .inl (aC 0, 5, .inl (fun _ => 0))), (h7, .inr (6, [.int 0, .ref h29, .ref h30, .int 0, .int 0, .int 0])), (h29, .inl (aC 0, 5, .inl (fun _ => 0))), (h30, .inl (aC 0, 4, .inl (fun _ => 0))), (h8, .inr (6, [.int 0, .ref h31, .ref h32, .int 0, .int 0, .int 0])), (h31, .inl (aC 0, 5, .inl (fun _ => 0))), (h32, .inl (aC 0, 4, .inl (fun _ => 0)))] H := hP
          have hD : va_D A [(h1, .inr (10, [x2, x3, x4, .ref h5, x6, .ref h7, .ref h8, x9, x10, x11, x12, x13, x14, x15, x16, .long 0])), (h5, .inr (8, [.ref h17, x18, x19, x20, x21, x22, x23, x24, x25, x26, x27, x28])), (h17, .inl (aC 0, 5, .inl (fun _ => 0))), (h7, .inr (6, [.int 0, .ref h29, .ref h30, .int 0, .int 0, .int 0])), (h29, .inl (aC 0, 5, .inl (fun _ => 0))), (h30, .inl (aC 0, 4, .inl (fun _ => 0))), (h8, .inr (6, [.int 0, .ref h31, .ref h32, .int 0, .int 0, .int 0])), (h31, .inl (aC 0, 5, .inl (fun _ => 0))), (h32, .inl (aC 0, 4, .inl (fun _ => 0)))] := hD
          refine lv_aload_n hx hb dX10_years_52 rfl (lv_at hl 0 rfl) ?_
          refine lv_iload_n hx hb dX10_years_53 rfl (lv_at hl 1 rfl) ?_
          refine lv_i2l (v := n_1.toInt64) hx hb dX10_years_54 rfl ?_
          refine xput F hP hD hS 0 rfl rfl inX10 tyX10_ok nmX10 15 (by decide) tb415 rfl rfl rfl (Nat.le_of_ble_eq_true rfl) dX10_years_55 (fun H locs hP hD hS => ?_)
          have hP : va_P g vwCl [(h1, .inr (10, [x2, x3, x4, .ref h5, x6, .ref h7, .ref h8, x9, x10, x11, x12, x13, x14, x15, x16, .long n_1.toInt64])), (h5, .inr (8, [.ref h17, x18, x19, x20, x21, x22, x23, x24, x25, x26, x27, x28])), (h17, .inl (aC 0, 5, .inl (fun _ => 0))), (h7, .inr (6, [.int 0, .ref h29, .ref h30, .int 0, .int 0, .int 0])), (h29, .inl (aC 0, 5, .inl (fun _ => 0))), (h30, .inl (aC 0, 4, .inl (fun _ => 0))), (h8, .inr (6, [.int 0, .ref h31, .ref h32, .int 0, .int 0, .int 0])), (h31, .inl (aC 0, 5, .inl (fun _ => 0))), (h32, .inl (aC 0, 4, .inl (fun _ => 0)))] H := hP
          have hD : va_D A [(h1, .inr (10, [x2, x3, x4, .ref h5, x6, .ref h7, .ref h8, x9, x10, x11, x12, x13, x14, x15, x16, .long n_1.toInt64])), (h5, .inr (8, [.ref h17, x18, x19, x20, x21, x22, x23, x24, x25, x26, x27, x28])), (h17, .inl (aC 0, 5, .inl (fun _ => 0))), (h7, .inr (6, [.int 0, .ref h29, .ref h30, .int 0, .int 0, .int 0])), (h29, .inl (aC 0, 5, .inl (fun _ => 0))), (h30, .inl (aC 0, 4, .inl (fun _ => 0))), (h8, .inr (6, [.int 0, .ref h31, .ref h32, .int 0, .int 0, .int 0])), (h31, .inl (aC 0, 5, .inl (fun _ => 0))), (h32, .inl (aC 0, 4, .inl (fun _ => 0)))] := hD
          refine lv_aload_n hx hb dX10_years_58 rfl (lv_at hl 0 rfl) ?_
          refine lv_aload_n hx hb dX10_years_59 rfl (lv_at hl 0 rfl) ?_
          refine xget F hP 0 rfl rfl inX10 6 (by decide) tb406 rfl dX10_years_60 ?_
          refine goV (wr := [(h7, .inr (6, [.int 0, .ref h29, .ref h30, .int 0, .int 0, .int 0])), (h29, .inl (aC 0, 5, .inl (fun _ => 0))), (h30, .inl (aC 0, 4, .inl (fun _ => 0))), (h8, .inr (6, [.int 0, .ref h31, .ref h32, .int 0, .int 0, .int 0])), (h31, .inl (aC 0, 5, .inl (fun _ => 0))), (h32, .inl (aC 0, 4, .inl (fun _ => 0)))]) (runV (n := 1) (As := [.ref h8]) (rest := []) F hP hD hS (a_X10_fillLacks_1 l g aC aM h1 h8 h5 h17 x2 x3 x4 x6 (.ref h7) (.ref h8) x9 x10 x11 x12 x13 x14 x15 x16 (.long n_1.toInt64) x18 x19 x20 x21 x22 x23 x24 x25 x26 x27 x28) [0, 1, 2] (by decide) rfl 0 10 rfl rfl rfl tb820 tb817 tb819 tv19 tb1 ⟨by decide, by decide, by decide +kernel⟩ ⟨Nat.le_of_ble_eq_true rfl, Nat.le_of_ble_eq_true rfl⟩ rfl hl.1 rfl (Nat.le_of_ble_eq_true rfl) dX10_years_63 ⟨Nat.le_of_ble_eq_true rfl, Nat.le_of_ble_eq_true rfl⟩) hP hD hS hA [0, 1, 2] [3, 4, 5, 6, 7, 8] rfl rfl (by decide) (by decide) (fun w10 H locs hw hP hD hS => ?_)
          have hP : va_P g vwCl [(h7, .inr (6, [.int 0, .ref h29, .ref h30, .int 0, .int 0, .int 0])), (h29, .inl (aC 0, 5, .inl (fun _ => 0))), (h30, .inl (aC 0, 4, .inl (fun _ => 0))), (h8, .inr (6, [.int 0, .ref h31, .ref h32, .int 0, .int 0, .int 0])), (h31, .inl (aC 0, 5, .inl (fun _ => 0))), (h32, .inl (aC 0, 4, .inl (fun _ => 0))), (h1, .inr (10, [x2, x3, x4, .ref h5, x6, .ref h7, .ref h8, x9, x10, x11, x12, x13, x14, x15, x16, .long n_1.toInt64])), (h5, .inr (8, [.ref h17, x18, x19, x20, x21, x22, x23, x24, x25, x26, x27, x28])), (h17, .inl (aC 0, 5, .inl (fun _ => 0)))] H := hP
          have hD : va_D A [(h7, .inr (6, [.int 0, .ref h29, .ref h30, .int 0, .int 0, .int 0])), (h29, .inl (aC 0, 5, .inl (fun _ => 0))), (h30, .inl (aC 0, 4, .inl (fun _ => 0))), (h8, .inr (6, [.int 0, .ref h31, .ref h32, .int 0, .int 0, .int 0])), (h31, .inl (aC 0, 5, .inl (fun _ => 0))), (h32, .inl (aC 0, 4, .inl (fun _ => 0))), (h1, .inr (10, [x2, x3, x4, .ref h5, x6, .ref h7, .ref h8, x9, x10, x11, x12, x13, x14, x15, x16, .long n_1.toInt64])), (h5, .inr (8, [.ref h17, x18, x19, x20, x21, x22, x23, x24, x25, x26, x27, x28])), (h17, .inl (aC 0, 5, .inl (fun _ => 0)))] := hD
          refine lv_iconst (v := 0) hx hb dX10_years_66 (by decide) ?_
          refine lv_istore (lv' := [(4, .int 0), (0, .ref h1), (1, .int n_1), (2, .int (nI nn)), (3, .int n_3)]) hx hb dX10_years_67 hl (by decide) rfl (fun ls hl => ?_)
          refine lv_iconst (v := 0) hx hb dX10_years_69 (by decide) ?_
          refine lv_istore (lv' := [(5, .int 0), (4, .int 0), (0, .ref h1), (1, .int n_1), (2, .int (nI nn)), (3, .int n_3)]) hx hb dX10_years_70 hl (by decide) rfl (fun ls hl => ?_)
          refine W.widen (k := 0) (n := 0) (Nat.le_of_ble_eq_true rfl) (Nat.le_of_ble_eq_true rfl) ?_
          have hloop72 : ∀ (n k : Nat) (dr_ : Int64) (ni_ : Int32) (H : Heap) (locs : List Loc) (ls : Array Slot), k + n = nn → va_P g vwCl [(h7, .inr (6, [.int 0, .ref h29, .ref h30, .int 0, .int 0, .int 0])), (h29, .inl (aC 0, 5, .inl (fun _ => 0))), (h30, .inl (aC 0, 4, .inl (fun _ => 0))), (h8, .inr (6, [.int 0, .ref h31, .ref h32, .int 0, .int ni_, .int 0])), (h31, .inl (aC 0, 5, .inl (fun _ => 0))), (h32, .inl (aC 0, 4, .inl (fun _ => 0))), (h1, .inr (10, [x2, x3, x4, .ref h5, x6, .ref h7, .ref h8, x9, x10, x11, x12, x13, x14, x15, x16, .long dr_])), (h5, .inr (8, [.ref h17, x18, x19, x20, x21, x22, x23, x24, x25, x26, x27, x28])), (h17, .inl (aC 0, 5, .inl (fun _ => 0)))] H → va_D A [(h7, .inr (6, [.int 0, .ref h29, .ref h30, .int 0, .int 0, .int 0])), (h29, .inl (aC 0, 5, .inl (fun _ => 0))), (h30, .inl (aC 0, 4, .inl (fun _ => 0))), (h8, .inr (6, [.int 0, .ref h31, .ref h32, .int 0, .int ni_, .int 0])), (h31, .inl (aC 0, 5, .inl (fun _ => 0))), (h32, .inl (aC 0, 4, .inl (fun _ => 0))), (h1, .inr (10, [x2, x3, x4, .ref h5, x6, .ref h7, .ref h8, x9, x10, x11, x12, x13, x14, x15, x16, .long dr_])), (h5, .inr (8, [.ref h17, x18, x19, x20, x21, x22, x23, x24, x25, x26, x27, x28])), (h17, .inl (aC 0, 5, .inl (fun _ => 0)))] → va_S A s.heap H locs → lv_has ls 6 [(5, .int (nI k)), (4, .int 0), (0, .ref h1), (1, .int n_1), (2, .int (nI nn)), (3, .int n_3)] → W p l e (rmL 5 0 0) s m [.ref h1, .int n_1, .int (nI nn), .int n_3].toArray below meth c H locs 0 0 (MQ below (QI g (fun (r : Int32) (_ : Unit) => r = 0) (fun (_ : Unit) => []) A) [.ref h1, .int n_1, .int (nI nn), .int n_3].toArray s 0 0 A) (F0 m 72 ls []) := by
            intro n
            induction n with
            | zero =>
              intro k dr_ ni_ H locs ls hk  hP hD hS hl
              obtain rfl : nn = k := by omega
              have hl : lv_has ls 6 [(5, .int (nI nn)), (4, .int 0), (0, .ref h1), (1, .int n_1), (2, .int (nI nn)), (3, .int n_3)] := hl
              refine lv_iload hx hb dX10_years_72 (lv_at hl 0 rfl) ?_
              refine lv_iload_n hx hb dX10_years_74 rfl (lv_at hl 4 rfl) ?_
              refine lv_icmp_ge (tgt := 107) hx hb dX10_years_75 (by decide) (fun _ => ?_) (fun c_ => absurd (show nI nn ≤ nI nn by rw [nI_leI (by omega) (by omega)]; omega) c_)
              refine lv_iload_n hx hb dX10_years_107 rfl (lv_at hl 5 rfl) ?_
              refine lv_if_ne (tgt := 119) hx hb dX10_years_108 (by decide) (fun c11 => ?_) (fun c11 => ?_)
              · refine lv_iload_n hx hb dX10_years_119 rfl (lv_at hl 5 rfl) ?_
                refine lv_iconst (v := 1) hx hb dX10_years_120 (by decide) ?_
                refine lv_icmp_ne (tgt := 137) hx hb dX10_years_121 (by decide) (fun c12 => ?_) (fun c12 => ?_)
                · refine lv_iload hx hb dX10_years_137 (lv_at hl 1 rfl) ?_
                  have hP9 := hP.sub (ws' := []) [] rfl
                  have hD9 := hD.sub (ws' := []) [] (by decide) rfl
                  exact rI () hx hb hr hlk rfl hS rfl hP9 hD9 (Nat.le_of_ble_eq_true rfl) (Nat.le_of_ble_eq_true rfl) dX10_years_139
                · subst c12
                  refine lv_aload_n hx hb dX10_years_124 rfl (lv_at hl 2 rfl) ?_
                  refine xget F hP 6 rfl rfl inX10 6 (by decide) tb406 rfl dX10_years_125 ?_
                  refine xget F hP 3 rfl rfl inX6 0 (by decide) tb293 rfl dX10_years_128 ?_
                  refine goI (wr := [(h7, .inr (6, [.int 0, .ref h29, .ref h30, .int 0, .int 0, .int 0])), (h29, .inl (aC 0, 5, .inl (fun _ => 0))), (h30, .inl (aC 0, 4, .inl (fun _ => 0))), (h8, .inr (6, [.int 0, .ref h31, .ref h32, .int 0, .int ni_, .int 0])), (h31, .inl (aC 0, 5, .inl (fun _ => 0))), (h32, .inl (aC 0, 4, .inl (fun _ => 0))), (h1, .inr (10, [x2, x3, x4, .ref h5, x6, .ref h7, .ref h8, x9, x10, x11, x12, x13, x14, x15, x16, .long dr_])), (h5, .inr (8, [.ref h17, x18, x19, x20, x21, x22, x23, x24, x25, x26, x27, x28])), (h17, .inl (aC 0, 5, .inl (fun _ => 0)))]) (runS (n := 1) (As := [.int 0]) (rest := []) F hP hD hS (k_bitCount0 l g aC aM ) [] (by decide) rfl tb854 tb935 tb853 tb21 ⟨by decide, by decide, by decide +kernel⟩ ⟨Nat.le_of_ble_eq_true rfl, Nat.le_of_ble_eq_true rfl⟩ rfl hl.1 rfl (Nat.le_of_ble_eq_true rfl) dX10_years_131 ⟨Nat.le_of_ble_eq_true rfl, Nat.le_of_ble_eq_true rfl⟩) hP hD hS hA [] [0, 1, 2, 3, 4, 5, 6, 7, 8] rfl rfl (by decide) (by decide) (fun r_14 w15 H locs hw hP hD hS => ?_)
                  have hP : va_P g vwCl [(h7, .inr (6, [.int 0, .ref h29, .ref h30, .int 0, .int 0, .int 0])), (h29, .inl (aC 0, 5, .inl (fun _ => 0))), (h30, .inl (aC 0, 4, .inl (fun _ => 0))), (h8, .inr (6, [.int 0, .ref h31, .ref h32, .int 0, .int ni_, .int 0])), (h31, .inl (aC 0, 5, .inl (fun _ => 0))), (h32, .inl (aC 0, 4, .inl (fun _ => 0))), (h1, .inr (10, [x2, x3, x4, .ref h5, x6, .ref h7, .ref h8, x9, x10, x11, x12, x13, x14, x15, x16, .long dr_])), (h5, .inr (8, [.ref h17, x18, x19, x20, x21, x22, x23, x24, x25, x26, x27, x28])), (h17, .inl (aC 0, 5, .inl (fun _ => 0)))] H := hP
                  have hD : va_D A [(h7, .inr (6, [.int 0, .ref h29, .ref h30, .int 0, .int 0, .int 0])), (h29, .inl (aC 0, 5, .inl (fun _ => 0))), (h30, .inl (aC 0, 4, .inl (fun _ => 0))), (h8, .inr (6, [.int 0, .ref h31, .ref h32, .int 0, .int ni_, .int 0])), (h31, .inl (aC 0, 5, .inl (fun _ => 0))), (h32, .inl (aC 0, 4, .inl (fun _ => 0))), (h1, .inr (10, [x2, x3, x4, .ref h5, x6, .ref h7, .ref h8, x9, x10, x11, x12, x13, x14, x15, x16, .long dr_])), (h5, .inr (8, [.ref h17, x18, x19, x20, x21, x22, x23, x24, x25, x26, x27, x28])), (h17, .inl (aC 0, 5, .inl (fun _ => 0)))] := hD
                  try dsimp only at hw
                  subst hw
                  refine lv_goto (tgt := 139) hx hb dX10_years_134 (by decide) ?_
                  have hP9 := hP.sub (ws' := []) [] rfl
                  have hD9 := hD.sub (ws' := []) [] (by decide) rfl
                  exact rI () hx hb hr hlk rfl hS rfl hP9 hD9 (Nat.le_of_ble_eq_true rfl) (Nat.le_of_ble_eq_true rfl) dX10_years_139
              · subst c11
                refine lv_aload_n hx hb dX10_years_111 rfl (lv_at hl 2 rfl) ?_
                refine xget F hP 6 rfl rfl inX10 6 (by decide) tb406 rfl dX10_years_112 ?_
                refine xget F hP 3 rfl rfl inX6 5 (by decide) tb303 rfl dX10_years_115 ?_
                have hP9 := hP.sub (ws' := []) [] rfl
                have hD9 := hD.sub (ws' := []) [] (by decide) rfl
                exact rI () hx hb hr hlk rfl hS rfl hP9 hD9 (Nat.le_of_ble_eq_true rfl) (Nat.le_of_ble_eq_true rfl) dX10_years_118
            | succ n ih =>
              intro k dr_ ni_ H locs ls hk  hP hD hS hl
              have hk2 : k < nn := by omega
              refine lv_iload hx hb dX10_years_72 (lv_at hl 0 rfl) ?_
              refine lv_iload_n hx hb dX10_years_74 rfl (lv_at hl 4 rfl) ?_
              refine lv_icmp_ge (tgt := 107) hx hb dX10_years_75 (by decide) (fun c_ => absurd c_ (show ¬ (nI nn ≤ nI k) by rw [nI_leI (by omega) (by omega)]; omega)) (fun _ => ?_)
              refine lv_aload_n hx hb dX10_years_78 rfl (lv_at hl 2 rfl) ?_
              refine goV (wr := [(h7, .inr (6, [.int 0, .ref h29, .ref h30, .int 0, .int 0, .int 0])), (h29, .inl (aC 0, 5, .inl (fun _ => 0))), (h30, .inl (aC 0, 4, .inl (fun _ => 0))), (h31, .inl (aC 0, 5, .inl (fun _ => 0))), (h32, .inl (aC 0, 4, .inl (fun _ => 0)))]) (runV (n := 0) (As := []) (rest := []) F hP hD hS (k_pass l g aC aM h1 h5 h17 h8 x18 x19 x20 x21 x22 x23 x24 x25 x26 x27 x28 x2 x3 x4 x6 (.ref h7) x9 x10 x11 x12 x13 x14 x15 x16 (.ref h31) (.ref h32) dr_ ni_) [6, 7, 8, 3] (by decide) rfl 6 10 rfl rfl rfl tb1063 tb1060 tb1062 tv29 tb1 ⟨by decide, by decide, by decide +kernel⟩ ⟨Nat.le_of_ble_eq_true rfl, Nat.le_of_ble_eq_true rfl⟩ rfl hl.1 rfl (Nat.le_of_ble_eq_true rfl) dX10_years_79 ⟨Nat.le_of_ble_eq_true rfl, Nat.le_of_ble_eq_true rfl⟩) hP hD hS hA [6, 7, 8, 3] [0, 1, 2, 4, 5] rfl rfl (by decide) (by decide) (fun w20 H locs hw hP hD hS => ?_)
              obtain ⟨u16, u17⟩ := w20
              have hP : va_P g vwCl [(h7, .inr (6, [.int 0, .ref h29, .ref h30, .int 0, .int 0, .int 0])), (h29, .inl (aC 0, 5, .inl (fun _ => 0))), (h30, .inl (aC 0, 4, .inl (fun _ => 0))), (h31, .inl (aC 0, 5, .inl (fun _ => 0))), (h32, .inl (aC 0, 4, .inl (fun _ => 0))), (h1, .inr (10, [x2, x3, x4, .ref h5, x6, .ref h7, .ref h8, x9, x10, x11, x12, x13, x14, x15, x16, .long u16])), (h5, .inr (8, [.ref h17, x18, x19, x20, x21, x22, x23, x24, x25, x26, x27, x28])), (h17, .inl (aC 0, 5, .inl (fun _ => 0))), (h8, .inr (6, [.int 0, .ref h31, .ref h32, .int 0, .int u17, .int 0]))] H := hP
              have hD : va_D A [(h7, .inr (6, [.int 0, .ref h29, .ref h30, .int 0, .int 0, .int 0])), (h29, .inl (aC 0, 5, .inl (fun _ => 0))), (h30, .inl (aC 0, 4, .inl (fun _ => 0))), (h31, .inl (aC 0, 5, .inl (fun _ => 0))), (h32, .inl (aC 0, 4, .inl (fun _ => 0))), (h1, .inr (10, [x2, x3, x4, .ref h5, x6, .ref h7, .ref h8, x9, x10, x11, x12, x13, x14, x15, x16, .long u16])), (h5, .inr (8, [.ref h17, x18, x19, x20, x21, x22, x23, x24, x25, x26, x27, x28])), (h17, .inl (aC 0, 5, .inl (fun _ => 0))), (h8, .inr (6, [.int 0, .ref h31, .ref h32, .int 0, .int u17, .int 0]))] := hD
              refine lv_iload hx hb dX10_years_82 (lv_at hl 1 rfl) ?_
              refine lv_aload_n hx hb dX10_years_84 rfl (lv_at hl 2 rfl) ?_
              refine lv_aload_n hx hb dX10_years_85 rfl (lv_at hl 2 rfl) ?_
              refine xget F hP 5 rfl rfl inX10 6 (by decide) tb406 rfl dX10_years_86 ?_
              refine xget F hP 8 rfl rfl inX6 0 (by decide) tb293 rfl dX10_years_89 ?_
              refine goI (wr := [(h7, .inr (6, [.int 0, .ref h29, .ref h30, .int 0, .int 0, .int 0])), (h29, .inl (aC 0, 5, .inl (fun _ => 0))), (h30, .inl (aC 0, 4, .inl (fun _ => 0))), (h31, .inl (aC 0, 5, .inl (fun _ => 0))), (h32, .inl (aC 0, 4, .inl (fun _ => 0))), (h8, .inr (6, [.int 0, .ref h31, .ref h32, .int 0, .int u17, .int 0]))]) (runV (n := 1) (As := [.int 0]) (rest := [.int 0]) F hP hD hS (a_X10_cutBy_1 l g aC aM h1 h5 h17 x2 x3 x4 x6 (.ref h7) (.ref h8) x9 x10 x11 x12 x13 x14 x15 x16 (.long u16) x18 x19 x20 x21 x22 x23 x24 x25 x26 x27 x28) [5, 6, 7] (by decide) rfl 5 10 rfl rfl rfl tb829 tb826 tb828 tv20 tb1 ⟨by decide, by decide, by decide +kernel⟩ ⟨Nat.le_of_ble_eq_true rfl, Nat.le_of_ble_eq_true rfl⟩ rfl hl.1 rfl (Nat.le_of_ble_eq_true rfl) dX10_years_92 ⟨Nat.le_of_ble_eq_true rfl, Nat.le_of_ble_eq_true rfl⟩) hP hD hS hA [5, 6, 7] [0, 1, 2, 3, 4, 8] rfl rfl (by decide) (by decide) (fun r_22 w23 H locs hw hP hD hS => ?_)
              have hP : va_P g vwCl [(h7, .inr (6, [.int 0, .ref h29, .ref h30, .int 0, .int 0, .int 0])), (h29, .inl (aC 0, 5, .inl (fun _ => 0))), (h30, .inl (aC 0, 4, .inl (fun _ => 0))), (h31, .inl (aC 0, 5, .inl (fun _ => 0))), (h32, .inl (aC 0, 4, .inl (fun _ => 0))), (h8, .inr (6, [.int 0, .ref h31, .ref h32, .int 0, .int u17, .int 0])), (h1, .inr (10, [x2, x3, x4, .ref h5, x6, .ref h7, .ref h8, x9, x10, x11, x12, x13, x14, x15, x16, .long u16])), (h5, .inr (8, [.ref h17, x18, x19, x20, x21, x22, x23, x24, x25, x26, x27, x28])), (h17, .inl (aC 0, 5, .inl (fun _ => 0)))] H := hP
              have hD : va_D A [(h7, .inr (6, [.int 0, .ref h29, .ref h30, .int 0, .int 0, .int 0])), (h29, .inl (aC 0, 5, .inl (fun _ => 0))), (h30, .inl (aC 0, 4, .inl (fun _ => 0))), (h31, .inl (aC 0, 5, .inl (fun _ => 0))), (h32, .inl (aC 0, 4, .inl (fun _ => 0))), (h8, .inr (6, [.int 0, .ref h31, .ref h32, .int 0, .int u17, .int 0])), (h1, .inr (10, [x2, x3, x4, .ref h5, x6, .ref h7, .ref h8, x9, x10, x11, x12, x13, x14, x15, x16, .long u16])), (h5, .inr (8, [.ref h17, x18, x19, x20, x21, x22, x23, x24, x25, x26, x27, x28])), (h17, .inl (aC 0, 5, .inl (fun _ => 0)))] := hD
              try dsimp only at hw
              subst hw
              refine goI (wr := [(h7, .inr (6, [.int 0, .ref h29, .ref h30, .int 0, .int 0, .int 0])), (h29, .inl (aC 0, 5, .inl (fun _ => 0))), (h30, .inl (aC 0, 4, .inl (fun _ => 0))), (h31, .inl (aC 0, 5, .inl (fun _ => 0))), (h32, .inl (aC 0, 4, .inl (fun _ => 0))), (h8, .inr (6, [.int 0, .ref h31, .ref h32, .int 0, .int u17, .int 0])), (h1, .inr (10, [x2, x3, x4, .ref h5, x6, .ref h7, .ref h8, x9, x10, x11, x12, x13, x14, x15, x16, .long u16])), (h5, .inr (8, [.ref h17, x18, x19, x20, x21, x22, x23, x24, x25, x26, x27, x28])), (h17, .inl (aC 0, 5, .inl (fun _ => 0)))]) (runS (n := 1) (As := [.int 0]) (rest := [.int 0]) F hP hD hS (k_bitCount0 l g aC aM ) [] (by decide) rfl tb854 tb935 tb853 tb21 ⟨by decide, by decide, by decide +kernel⟩ ⟨Nat.le_of_ble_eq_true rfl, Nat.le_of_ble_eq_true rfl⟩ rfl hl.1 rfl (Nat.le_of_ble_eq_true rfl) dX10_years_95 ⟨Nat.le_of_ble_eq_true rfl, Nat.le_of_ble_eq_true rfl⟩) hP hD hS hA [] [0, 1, 2, 3, 4, 5, 6, 7, 8] rfl rfl (by decide) (by decide) (fun r_25 w26 H locs hw hP hD hS => ?_)
              have hP : va_P g vwCl [(h7, .inr (6, [.int 0, .ref h29, .ref h30, .int 0, .int 0, .int 0])), (h29, .inl (aC 0, 5, .inl (fun _ => 0))), (h30, .inl (aC 0, 4, .inl (fun _ => 0))), (h31, .inl (aC 0, 5, .inl (fun _ => 0))), (h32, .inl (aC 0, 4, .inl (fun _ => 0))), (h8, .inr (6, [.int 0, .ref h31, .ref h32, .int 0, .int u17, .int 0])), (h1, .inr (10, [x2, x3, x4, .ref h5, x6, .ref h7, .ref h8, x9, x10, x11, x12, x13, x14, x15, x16, .long u16])), (h5, .inr (8, [.ref h17, x18, x19, x20, x21, x22, x23, x24, x25, x26, x27, x28])), (h17, .inl (aC 0, 5, .inl (fun _ => 0)))] H := hP
              have hD : va_D A [(h7, .inr (6, [.int 0, .ref h29, .ref h30, .int 0, .int 0, .int 0])), (h29, .inl (aC 0, 5, .inl (fun _ => 0))), (h30, .inl (aC 0, 4, .inl (fun _ => 0))), (h31, .inl (aC 0, 5, .inl (fun _ => 0))), (h32, .inl (aC 0, 4, .inl (fun _ => 0))), (h8, .inr (6, [.int 0, .ref h31, .ref h32, .int 0, .int u17, .int 0])), (h1, .inr (10, [x2, x3, x4, .ref h5, x6, .ref h7, .ref h8, x9, x10, x11, x12, x13, x14, x15, x16, .long u16])), (h5, .inr (8, [.ref h17, x18, x19, x20, x21, x22, x23, x24, x25, x26, x27, x28])), (h17, .inl (aC 0, 5, .inl (fun _ => 0)))] := hD
              try dsimp only at hw
              subst hw
              refine lv_iadd hx hb dX10_years_98 ?_
              refine relit (v := 0) (by decide +kernel) ?_
              refine lv_istore (lv' := [(4, .int 0), (5, .int (nI k)), (0, .ref h1), (1, .int n_1), (2, .int (nI nn)), (3, .int n_3)]) hx hb dX10_years_99 hl (by decide) rfl (fun ls hl => ?_)
              refine lv_iinc (v := (nI (k + 1))) (lv' := [(5, .int (nI (k + 1))), (4, .int 0), (0, .ref h1), (1, .int n_1), (2, .int (nI nn)), (3, .int n_3)]) hx hb dX10_years_101 hl (k := 1) rfl (ninc 1 (by omega)) (by decide) rfl (fun ls hl => ?_)
              refine lv_goto (tgt := 72) hx hb dX10_years_104 (by decide) ?_
              exact ih (k + 1) u16 u17 _ _ _ (by omega) (hP.sub [0, 1, 2, 5, 3, 4, 6, 7, 8] rfl) (hD.sub [0, 1, 2, 5, 3, 4, 6, 7, 8] (by decide) rfl) hS (lv_sub hl [0, 1, 2, 3, 4, 5] rfl)
          exact hloop72 nn 0 n_1.toInt64 0 _ _ _ (by omega) hP hD hS hl
        · exfalso
          simp only [Int32.lt_iff_toInt_lt, Int32.le_iff_toInt_le, ← Int32.toInt_inj, show (0 : Int32).toInt = 0 by decide, show (2 : Int32).toInt = 2 by decide] at hl3 hh3 c3 c4; omega

theorem tb1084 : (Jvm.Cond.methodLink "StairGang$Said" (28 : Nat) ({ cls := "StairGang$Said", name := "tell", desc := "([II)V" } : Jvm.MethodName)) ∈ gw := lw_m 1084 (by decide +kernel)
theorem dX10_mark_0 : decode cX10_mark 0 = .ok (.iload_n 1, 1) := by decide +kernel
theorem dX10_mark_1 : decode cX10_mark 1 = .ok (.ifCond .lt 8, 3) := by decide +kernel
theorem dX10_mark_4 : decode cX10_mark 4 = .ok (.iload_n 1, 1) := by decide +kernel
theorem dX10_mark_5 : decode cX10_mark 5 = .ok (.iconst 4, 1) := by decide +kernel
theorem dX10_mark_6 : decode cX10_mark 6 = .ok (.if_icmp .lt 5, 3) := by decide +kernel
theorem dX10_mark_9 : decode cX10_mark 9 = .ok (.iconst 0, 1) := by decide +kernel
theorem dX10_mark_10 : decode cX10_mark 10 = .ok (.ireturn, 1) := by decide +kernel
theorem dX10_mark_11 : decode cX10_mark 11 = .ok (.iload_n 2, 1) := by decide +kernel
theorem dX10_mark_12 : decode cX10_mark 12 = .ok (.ifCond .ne 43, 3) := by decide +kernel
theorem dX10_mark_15 : decode cX10_mark 15 = .ok (.aload_n 0, 1) := by decide +kernel
theorem dX10_mark_16 : decode cX10_mark 16 = .ok (.getfield 66, 3) := by decide +kernel
theorem dX10_mark_19 : decode cX10_mark 19 = .ok (.iload_n 1, 1) := by decide +kernel
theorem dX10_mark_20 : decode cX10_mark 20 = .ok (.aaload, 1) := by decide +kernel
theorem dX10_mark_21 : decode cX10_mark 21 = .ok (.aload_n 0, 1) := by decide +kernel
theorem dX10_mark_22 : decode cX10_mark 22 = .ok (.getfield 45, 3) := by decide +kernel
theorem dX10_mark_25 : decode cX10_mark 25 = .ok (.invokevirtual 170, 3) := by decide +kernel
theorem dX10_mark_28 : decode cX10_mark 28 = .ok (.aload_n 0, 1) := by decide +kernel
theorem dX10_mark_29 : decode cX10_mark 29 = .ok (.getfield 70, 3) := by decide +kernel
theorem dX10_mark_32 : decode cX10_mark 32 = .ok (.iload_n 1, 1) := by decide +kernel
theorem dX10_mark_33 : decode cX10_mark 33 = .ok (.aaload, 1) := by decide +kernel
theorem dX10_mark_34 : decode cX10_mark 34 = .ok (.aload_n 0, 1) := by decide +kernel
theorem dX10_mark_35 : decode cX10_mark 35 = .ok (.getfield 55, 3) := by decide +kernel
theorem dX10_mark_38 : decode cX10_mark 38 = .ok (.invokevirtual 301, 3) := by decide +kernel
theorem dX5_copy_0 : decode cX5_copy 0 = .ok (.aload_n 0, 1) := by decide +kernel
theorem dX5_copy_1 : decode cX5_copy 1 = .ok (.aload_n 1, 1) := by decide +kernel
theorem dX5_copy_2 : decode cX5_copy 2 = .ok (.getfield 9, 3) := by decide +kernel
theorem dX5_copy_5 : decode cX5_copy 5 = .ok (.aload_n 1, 1) := by decide +kernel
theorem dX5_copy_6 : decode cX5_copy 6 = .ok (.getfield 18, 3) := by decide +kernel
theorem dX5_copy_9 : decode cX5_copy 9 = .ok (.invokevirtual 28, 3) := by decide +kernel
theorem dX5_copy_12 : decode cX5_copy 12 = .ok (.aload_n 0, 1) := by decide +kernel
theorem dX5_copy_13 : decode cX5_copy 13 = .ok (.aload_n 1, 1) := by decide +kernel
theorem dX5_copy_14 : decode cX5_copy 14 = .ok (.getfield 22, 3) := by decide +kernel
theorem dX5_copy_17 : decode cX5_copy 17 = .ok (.putfield 22, 3) := by decide +kernel
theorem dX5_copy_20 : decode cX5_copy 20 = .ok (.aload_n 1, 1) := by decide +kernel
theorem dX5_copy_21 : decode cX5_copy 21 = .ok (.getfield 15, 3) := by decide +kernel
theorem dX5_copy_24 : decode cX5_copy 24 = .ok (.iconst 0, 1) := by decide +kernel
theorem dX5_copy_25 : decode cX5_copy 25 = .ok (.aload_n 0, 1) := by decide +kernel
theorem dX5_copy_26 : decode cX5_copy 26 = .ok (.getfield 15, 3) := by decide +kernel
theorem dX5_copy_29 : decode cX5_copy 29 = .ok (.iconst 0, 1) := by decide +kernel
theorem dX5_copy_30 : decode cX5_copy 30 = .ok (.bipush 8, 2) := by decide +kernel
theorem dX5_copy_32 : decode cX5_copy 32 = .ok (.invokestatic 32, 3) := by decide +kernel
theorem dX5_copy_35 : decode cX5_copy 35 = .ok (.aload_n 0, 1) := by decide +kernel
theorem dX5_copy_36 : decode cX5_copy 36 = .ok (.aload_n 1, 1) := by decide +kernel
theorem dX5_copy_37 : decode cX5_copy 37 = .ok (.getfield 25, 3) := by decide +kernel
theorem dX5_copy_40 : decode cX5_copy 40 = .ok (.putfield 25, 3) := by decide +kernel
theorem dX5_copy_43 : decode cX5_copy 43 = .ok (.return_, 1) := by decide +kernel
set_option maxHeartbeats 4000000 in
set_option maxRecDepth 100000 in
theorem a_X5_copy_1 (l : Launch) (g : va_G) (aC : Nat → ClassId) (aM : Nat → Nat) (h1 h2 h3 h4 h5 h6 : Nat) : Ct l g aC aM yX5_copy cX5_copy 2 none 2 [.ref h1, .ref h2] [(h2, .inr (5, [.ref h3, .int 0, .int 0, .ref h4, .int 0])), (h3, .inl (aC 0, 160, .inl (fun _ => 0))), (h4, .inl (aC 0, 8, .inl (fun _ => 0))), (h1, .inr (5, [.ref h5, .int 0, .int 0, .ref h6, .int 0])), (h5, .inl (aC 0, 160, .inl (fun _ => 0))), (h6, .inl (aC 0, 8, .inl (fun _ => 0)))] (QV g (fun (_ : Unit) => True) (fun (_ : Unit) => [(h2, .inr (5, [.ref h3, .int 0, .int 0, .ref h4, .int 0])), (h4, .inl (aC 0, 8, .inl (fun _ => 0))), (h6, .inl (aC 0, 8, .inl (fun _ => 0))), (h3, .inl (aC 0, 160, .inl (fun _ => 0))), (h1, .inr (5, [.ref h5, .int 0, .int 0, .ref h6, .int 0])), (h5, .inl (aC 0, 160, .inl (fun _ => 0)))])) 0 0 := by
  refine Ct.mk (by decide) (Nat.le_of_ble_eq_true rfl) ?_
  intro p e s m below meth c A ls hx hb hml hown hts hr hlk hnm hK hA hM hM2 hP hD hS hl
  have hown : s.vm.findClass RX5 = some m.cls := hown
  have F : Fx p s m _ c cX5_copy 2 RX5 g aC aM A := ⟨hx, hb, hml, hown, hts, hK, hA, hM, hM2⟩
  have hl : lv_has ls 2 [(0, .ref h1), (1, .ref h2)] := hl
  refine lv_aload_n hx hb dX5_copy_0 rfl (lv_at hl 0 rfl) ?_
  refine lv_aload_n hx hb dX5_copy_1 rfl (lv_at hl 1 rfl) ?_
  refine xget F hP 0 rfl rfl inX5 0 (by decide) tb323 rfl dX5_copy_2 ?_
  refine lv_aload_n hx hb dX5_copy_5 rfl (lv_at hl 1 rfl) ?_
  refine xget F hP 0 rfl rfl inX5 1 (by decide) tb325 rfl dX5_copy_6 ?_
  refine goV (wr := [(h2, .inr (5, [.ref h3, .int 0, .int 0, .ref h4, .int 0])), (h4, .inl (aC 0, 8, .inl (fun _ => 0))), (h6, .inl (aC 0, 8, .inl (fun _ => 0)))]) (runV (n := 2) (As := [.ref h3, .int 0]) (rest := []) F hP hD hS (a_X5_tell_1 l g aC aM h1 h3 h5 (.int 0) (.ref h6) (.int 0)) [1, 3, 4] (by decide) rfl 3 5 rfl rfl rfl tb753 tb1084 tb751 tb752 tb13 ⟨by decide, by decide, by decide +kernel⟩ ⟨Nat.le_of_ble_eq_true rfl, Nat.le_of_ble_eq_true rfl⟩ rfl hl.1 rfl (Nat.le_of_ble_eq_true rfl) dX5_copy_9 ⟨Nat.le_of_ble_eq_true rfl, Nat.le_of_ble_eq_true rfl⟩) hP hD hS hA [1, 3, 4] [0, 2, 5] rfl rfl (by decide) (by decide) (fun w3 H locs hw hP hD hS => ?_)
  have hP : va_P g vwCl [(h2, .inr (5, [.ref h3, .int 0, .int 0, .ref h4, .int 0])), (h4, .inl (aC 0, 8, .inl (fun _ => 0))), (h6, .inl (aC 0, 8, .inl (fun _ => 0))), (h3, .inl (aC 0, 160, .inl (fun _ => 0))), (h1, .inr (5, [.ref h5, .int 0, .int 0, .ref h6, .int 0])), (h5, .inl (aC 0, 160, .inl (fun _ => 0)))] H := hP
  have hD : va_D A [(h2, .inr (5, [.ref h3, .int 0, .int 0, .ref h4, .int 0])), (h4, .inl (aC 0, 8, .inl (fun _ => 0))), (h6, .inl (aC 0, 8, .inl (fun _ => 0))), (h3, .inl (aC 0, 160, .inl (fun _ => 0))), (h1, .inr (5, [.ref h5, .int 0, .int 0, .ref h6, .int 0])), (h5, .inl (aC 0, 160, .inl (fun _ => 0)))] := hD
  refine lv_aload_n hx hb dX5_copy_12 rfl (lv_at hl 0 rfl) ?_
  refine lv_aload_n hx hb dX5_copy_13 rfl (lv_at hl 1 rfl) ?_
  refine xget F hP 0 rfl rfl inX5 2 (by decide) tb327 rfl dX5_copy_14 ?_
  refine xput F hP hD hS 4 rfl rfl inX5 tyX5_ok nmX5 2 (by decide) tb327 rfl rfl rfl (Nat.le_of_ble_eq_true rfl) dX5_copy_17 (fun H locs hP hD hS => ?_)
  have hP : va_P g vwCl [(h2, .inr (5, [.ref h3, .int 0, .int 0, .ref h4, .int 0])), (h4, .inl (aC 0, 8, .inl (fun _ => 0))), (h6, .inl (aC 0, 8, .inl (fun _ => 0))), (h3, .inl (aC 0, 160, .inl (fun _ => 0))), (h1, .inr (5, [.ref h5, .int 0, .int 0, .ref h6, .int 0])), (h5, .inl (aC 0, 160, .inl (fun _ => 0)))] H := hP
  have hD : va_D A [(h2, .inr (5, [.ref h3, .int 0, .int 0, .ref h4, .int 0])), (h4, .inl (aC 0, 8, .inl (fun _ => 0))), (h6, .inl (aC 0, 8, .inl (fun _ => 0))), (h3, .inl (aC 0, 160, .inl (fun _ => 0))), (h1, .inr (5, [.ref h5, .int 0, .int 0, .ref h6, .int 0])), (h5, .inl (aC 0, 160, .inl (fun _ => 0)))] := hD
  refine lv_aload_n hx hb dX5_copy_20 rfl (lv_at hl 1 rfl) ?_
  refine xget F hP 0 rfl rfl inX5 3 (by decide) tb329 rfl dX5_copy_21 ?_
  refine lv_iconst (v := 0) hx hb dX5_copy_24 (by decide) ?_
  refine lv_aload_n hx hb dX5_copy_25 rfl (lv_at hl 0 rfl) ?_
  refine xget F hP 4 rfl rfl inX5 3 (by decide) tb329 rfl dX5_copy_26 ?_
  refine lv_iconst (v := 0) hx hb dX5_copy_29 (by decide) ?_
  refine lv_bipush (v := 8) hx hb dX5_copy_30 (by decide) ?_
  refine va_copyi hx hb (hml.trans hl.1.symm) hown (hts _ tb754) (hts _ tb756) (hts _ tb755) (hts _ tb20) hK hP hD hS 1 2 0 0 rfl rfl rfl rfl rfl (by decide +kernel) (by decide +kernel) (by decide +kernel) (by decide +kernel) (by decide +kernel) (fun _ _ => rfl) (Nat.le_of_ble_eq_true rfl) (Nat.le_of_ble_eq_true rfl) dX5_copy_32 (fun H locs hP hD hS => ?_)
  rw [xcpy0] at hP hD
  have hP : va_P g vwCl [(h2, .inr (5, [.ref h3, .int 0, .int 0, .ref h4, .int 0])), (h4, .inl (aC 0, 8, .inl (fun _ => 0))), (h6, .inl (aC 0, 8, .inl (fun _ => 0))), (h3, .inl (aC 0, 160, .inl (fun _ => 0))), (h1, .inr (5, [.ref h5, .int 0, .int 0, .ref h6, .int 0])), (h5, .inl (aC 0, 160, .inl (fun _ => 0)))] H := hP
  have hD : va_D A [(h2, .inr (5, [.ref h3, .int 0, .int 0, .ref h4, .int 0])), (h4, .inl (aC 0, 8, .inl (fun _ => 0))), (h6, .inl (aC 0, 8, .inl (fun _ => 0))), (h3, .inl (aC 0, 160, .inl (fun _ => 0))), (h1, .inr (5, [.ref h5, .int 0, .int 0, .ref h6, .int 0])), (h5, .inl (aC 0, 160, .inl (fun _ => 0)))] := hD
  refine lv_aload_n hx hb dX5_copy_35 rfl (lv_at hl 0 rfl) ?_
  refine lv_aload_n hx hb dX5_copy_36 rfl (lv_at hl 1 rfl) ?_
  refine xget F hP 0 rfl rfl inX5 4 (by decide) tb330 rfl dX5_copy_37 ?_
  refine xput F hP hD hS 4 rfl rfl inX5 tyX5_ok nmX5 4 (by decide) tb330 rfl rfl rfl (Nat.le_of_ble_eq_true rfl) dX5_copy_40 (fun H locs hP hD hS => ?_)
  have hP : va_P g vwCl [(h2, .inr (5, [.ref h3, .int 0, .int 0, .ref h4, .int 0])), (h4, .inl (aC 0, 8, .inl (fun _ => 0))), (h6, .inl (aC 0, 8, .inl (fun _ => 0))), (h3, .inl (aC 0, 160, .inl (fun _ => 0))), (h1, .inr (5, [.ref h5, .int 0, .int 0, .ref h6, .int 0])), (h5, .inl (aC 0, 160, .inl (fun _ => 0)))] H := hP
  have hD : va_D A [(h2, .inr (5, [.ref h3, .int 0, .int 0, .ref h4, .int 0])), (h4, .inl (aC 0, 8, .inl (fun _ => 0))), (h6, .inl (aC 0, 8, .inl (fun _ => 0))), (h3, .inl (aC 0, 160, .inl (fun _ => 0))), (h1, .inr (5, [.ref h5, .int 0, .int 0, .ref h6, .int 0])), (h5, .inl (aC 0, 160, .inl (fun _ => 0)))] := hD
  have hP9 := hP.sub (ws' := [(h2, .inr (5, [.ref h3, .int 0, .int 0, .ref h4, .int 0])), (h4, .inl (aC 0, 8, .inl (fun _ => 0))), (h6, .inl (aC 0, 8, .inl (fun _ => 0))), (h3, .inl (aC 0, 160, .inl (fun _ => 0))), (h1, .inr (5, [.ref h5, .int 0, .int 0, .ref h6, .int 0])), (h5, .inl (aC 0, 160, .inl (fun _ => 0)))]) [0, 1, 2, 3, 4, 5] rfl
  have hD9 := hD.sub (ws' := [(h2, .inr (5, [.ref h3, .int 0, .int 0, .ref h4, .int 0])), (h4, .inl (aC 0, 8, .inl (fun _ => 0))), (h6, .inl (aC 0, 8, .inl (fun _ => 0))), (h3, .inl (aC 0, 160, .inl (fun _ => 0))), (h1, .inr (5, [.ref h5, .int 0, .int 0, .ref h6, .int 0])), (h5, .inl (aC 0, 160, .inl (fun _ => 0)))]) [0, 1, 2, 3, 4, 5] (by decide) rfl
  exact rV () hx hb hr hlk hS trivial hP9 hD9 (Nat.le_of_ble_eq_true rfl) (Nat.le_of_ble_eq_true rfl) dX5_copy_43

theorem tb1080 : (Jvm.Cond.methodLink "StairGang" (301 : Nat) ({ cls := "StairGang$Said", name := "copy", desc := "(LStairGang$Said;)V" } : Jvm.MethodName)) ∈ gw := lw_m 1080 (by decide +kernel)
theorem tb1081 : (Jvm.Cond.instanceMethod ({ cls := "StairGang$Said", name := "copy", desc := "(LStairGang$Said;)V" } : Jvm.MethodName)) ∈ gw := lw_m 1081 (by decide +kernel)
theorem tb1082 : (Jvm.Cond.selects "StairGang$Said" ({ cls := "StairGang$Said", name := "copy", desc := "(LStairGang$Said;)V" } : Jvm.MethodName) ({ cls := "StairGang$Said", name := "copy", desc := "(LStairGang$Said;)V" } : Jvm.MethodName)) ∈ gw := lw_m 1082 (by decide +kernel)
theorem tb1083 : (Jvm.Cond.code ({ cls := "StairGang$Said", name := "copy", desc := "(LStairGang$Said;)V" } : Jvm.MethodName) prog_7_method_3_code (2 : Nat) (Option.none : Option Jvm.ClassFile.FieldType)) ∈ gw := lw_m 1083 (by decide +kernel)
theorem dX10_mark_41 : decode cX10_mark 41 = .ok (.aload_n 0, 1) := by decide +kernel
theorem dX10_mark_42 : decode cX10_mark 42 = .ok (.dup, 1) := by decide +kernel
theorem dX10_mark_43 : decode cX10_mark 43 = .ok (.getfield 115, 3) := by decide +kernel
theorem dX10_mark_46 : decode cX10_mark 46 = .ok (.iconst 1, 1) := by decide +kernel
theorem dX10_mark_47 : decode cX10_mark 47 = .ok (.iload_n 1, 1) := by decide +kernel
theorem dX10_mark_48 : decode cX10_mark 48 = .ok (.ishl, 1) := by decide +kernel
theorem dX10_mark_49 : decode cX10_mark 49 = .ok (.ior, 1) := by decide +kernel
theorem dX10_mark_50 : decode cX10_mark 50 = .ok (.putfield 115, 3) := by decide +kernel
theorem dX10_mark_53 : decode cX10_mark 53 = .ok (.iconst 1, 1) := by decide +kernel
theorem dX10_mark_54 : decode cX10_mark 54 = .ok (.ireturn, 1) := by decide +kernel
theorem dX10_mark_55 : decode cX10_mark 55 = .ok (.aload_n 0, 1) := by decide +kernel
theorem dX10_mark_56 : decode cX10_mark 56 = .ok (.getfield 115, 3) := by decide +kernel
theorem dX10_mark_59 : decode cX10_mark 59 = .ok (.iload_n 1, 1) := by decide +kernel
theorem dX10_mark_60 : decode cX10_mark 60 = .ok (.ishr, 1) := by decide +kernel
theorem dX10_mark_61 : decode cX10_mark 61 = .ok (.iconst 1, 1) := by decide +kernel
theorem dX10_mark_62 : decode cX10_mark 62 = .ok (.iand, 1) := by decide +kernel
theorem dX10_mark_63 : decode cX10_mark 63 = .ok (.ifCond .ne 5, 3) := by decide +kernel
theorem dX10_mark_66 : decode cX10_mark 66 = .ok (.iconst 0, 1) := by decide +kernel
theorem dX10_mark_67 : decode cX10_mark 67 = .ok (.ireturn, 1) := by decide +kernel
set_option maxHeartbeats 4000000 in
set_option maxRecDepth 100000 in
theorem x_mark_lo0 (l : Launch) (g : va_G) (aC : Nat → ClassId) (aM : Nat → Nat) (h1 h7 h9 h11 h12 h17 h18 h19 h20 h21 h22 h23 h24 h25 h26 h27 h28 h29 h30 h31 h32 h33 h34 h35 h36 h37 h38 h39 h40 h41 h42 h43 h44 : Nat) (x2 x3 x4 x5 x6 x8 x10 x13 x14 x15 x16 : Value) (n_1 : Int32) (hh1 : n_1 ≤ (-1)) : Ct l g aC aM yX10_mark cX10_mark 3 (some .boolean) 3 [.ref h1, .int n_1, .int 0] [(h1, .inr (10, [x2, x3, x4, x5, x6, .ref h7, x8, .ref h9, x10, .ref h11, .ref h12, .int 0, x13, x14, x15, x16])), (h7, .inr (6, [.int 0, .ref h17, .ref h18, .int 0, .int 0, .int 0])), (h17, .inl (aC 0, 5, .inl (fun _ => 0))), (h18, .inl (aC 0, 4, .inl (fun _ => 0))), (h9, .inr (5, [.ref h19, .int 0, .int 0, .ref h20, .int 0])), (h19, .inl (aC 0, 160, .inl (fun _ => 0))), (h20, .inl (aC 0, 8, .inl (fun _ => 0))), (h11, .inl (aC 4, 4, .inr (.inr (.inr (.inr (va_up (va_up (va_up (va_up (fun _ => none) 0 (some h21)) 1 (some h22)) 2 (some h23)) 3 (some h24))))))), (h12, .inl (aC 5, 4, .inr (.inr (.inr (.inr (va_up (va_up (va_up (va_up (fun _ => none) 0 (some h25)) 1 (some h26)) 2 (some h27)) 3 (some h28))))))), (h21, .inr (6, [.int 0, .ref h29, .ref h30, .int 0, .int 0, .int 0])), (h29, .inl (aC 0, 5, .inl (fun _ => 0))), (h30, .inl (aC 0, 4, .inl (fun _ => 0))), (h22, .inr (6, [.int 0, .ref h31, .ref h32, .int 0, .int 0, .int 0])), (h31, .inl (aC 0, 5, .inl (fun _ => 0))), (h32, .inl (aC 0, 4, .inl (fun _ => 0))), (h23, .inr (6, [.int 0, .ref h33, .ref h34, .int 0, .int 0, .int 0])), (h33, .inl (aC 0, 5, .inl (fun _ => 0))), (h34, .inl (aC 0, 4, .inl (fun _ => 0))), (h24, .inr (6, [.int 0, .ref h35, .ref h36, .int 0, .int 0, .int 0])), (h35, .inl (aC 0, 5, .inl (fun _ => 0))), (h36, .inl (aC 0, 4, .inl (fun _ => 0))), (h25, .inr (5, [.ref h37, .int 0, .int 0, .ref h38, .int 0])), (h37, .inl (aC 0, 160, .inl (fun _ => 0))), (h38, .inl (aC 0, 8, .inl (fun _ => 0))), (h26, .inr (5, [.ref h39, .int 0, .int 0, .ref h40, .int 0])), (h39, .inl (aC 0, 160, .inl (fun _ => 0))), (h40, .inl (aC 0, 8, .inl (fun _ => 0))), (h27, .inr (5, [.ref h41, .int 0, .int 0, .ref h42, .int 0])), (h41, .inl (aC 0, 160, .inl (fun _ => 0))), (h42, .inl (aC 0, 8, .inl (fun _ => 0))), (h28, .inr (5, [.ref h43, .int 0, .int 0, .ref h44, .int 0])), (h43, .inl (aC 0, 160, .inl (fun _ => 0))), (h44, .inl (aC 0, 8, .inl (fun _ => 0)))] (QI g (fun (r : Int32) (_ : Unit) => r = 0) (fun (_ : Unit) => [])) 0 0 := by
  refine Ct.mk (by decide) (Nat.le_of_ble_eq_true rfl) ?_
  intro p e s m below meth c A ls hx hb hml hown hts hr hlk hnm hK hA hM hM2 hP hD hS hl
  have hown : s.vm.findClass RX10 = some m.cls := hown
  have F : Fx p s m _ c cX10_mark 3 RX10 g aC aM A := ⟨hx, hb, hml, hown, hts, hK, hA, hM, hM2⟩
  have hl : lv_has ls 3 [(0, .ref h1), (1, .int n_1), (2, .int 0)] := hl
  refine lv_iload_n hx hb dX10_mark_0 rfl (lv_at hl 1 rfl) ?_
  refine lv_if_lt (tgt := 9) hx hb dX10_mark_1 (by decide) (fun c1 => ?_) (fun c1 => ?_)
  · refine lv_iconst (v := 0) hx hb dX10_mark_9 (by decide) ?_
    have hP9 := hP.sub (ws' := []) [] rfl
    have hD9 := hD.sub (ws' := []) [] (by decide) rfl
    exact rI () hx hb hr hlk rfl hS rfl hP9 hD9 (Nat.le_of_ble_eq_true rfl) (Nat.le_of_ble_eq_true rfl) dX10_mark_10
  · exfalso
    simp only [Int32.lt_iff_toInt_lt, Int32.le_iff_toInt_le, ← Int32.toInt_inj, show (-1 : Int32).toInt = -1 by decide, show (0 : Int32).toInt = 0 by decide] at hh1 c1; omega

set_option maxHeartbeats 4000000 in
set_option maxRecDepth 100000 in
theorem x_mark_hi0 (l : Launch) (g : va_G) (aC : Nat → ClassId) (aM : Nat → Nat) (h1 h7 h9 h11 h12 h17 h18 h19 h20 h21 h22 h23 h24 h25 h26 h27 h28 h29 h30 h31 h32 h33 h34 h35 h36 h37 h38 h39 h40 h41 h42 h43 h44 : Nat) (x2 x3 x4 x5 x6 x8 x10 x13 x14 x15 x16 : Value) (n_1 : Int32) (hl1 : 4 ≤ n_1) : Ct l g aC aM yX10_mark cX10_mark 3 (some .boolean) 3 [.ref h1, .int n_1, .int 0] [(h1, .inr (10, [x2, x3, x4, x5, x6, .ref h7, x8, .ref h9, x10, .ref h11, .ref h12, .int 0, x13, x14, x15, x16])), (h7, .inr (6, [.int 0, .ref h17, .ref h18, .int 0, .int 0, .int 0])), (h17, .inl (aC 0, 5, .inl (fun _ => 0))), (h18, .inl (aC 0, 4, .inl (fun _ => 0))), (h9, .inr (5, [.ref h19, .int 0, .int 0, .ref h20, .int 0])), (h19, .inl (aC 0, 160, .inl (fun _ => 0))), (h20, .inl (aC 0, 8, .inl (fun _ => 0))), (h11, .inl (aC 4, 4, .inr (.inr (.inr (.inr (va_up (va_up (va_up (va_up (fun _ => none) 0 (some h21)) 1 (some h22)) 2 (some h23)) 3 (some h24))))))), (h12, .inl (aC 5, 4, .inr (.inr (.inr (.inr (va_up (va_up (va_up (va_up (fun _ => none) 0 (some h25)) 1 (some h26)) 2 (some h27)) 3 (some h28))))))), (h21, .inr (6, [.int 0, .ref h29, .ref h30, .int 0, .int 0, .int 0])), (h29, .inl (aC 0, 5, .inl (fun _ => 0))), (h30, .inl (aC 0, 4, .inl (fun _ => 0))), (h22, .inr (6, [.int 0, .ref h31, .ref h32, .int 0, .int 0, .int 0])), (h31, .inl (aC 0, 5, .inl (fun _ => 0))), (h32, .inl (aC 0, 4, .inl (fun _ => 0))), (h23, .inr (6, [.int 0, .ref h33, .ref h34, .int 0, .int 0, .int 0])), (h33, .inl (aC 0, 5, .inl (fun _ => 0))), (h34, .inl (aC 0, 4, .inl (fun _ => 0))), (h24, .inr (6, [.int 0, .ref h35, .ref h36, .int 0, .int 0, .int 0])), (h35, .inl (aC 0, 5, .inl (fun _ => 0))), (h36, .inl (aC 0, 4, .inl (fun _ => 0))), (h25, .inr (5, [.ref h37, .int 0, .int 0, .ref h38, .int 0])), (h37, .inl (aC 0, 160, .inl (fun _ => 0))), (h38, .inl (aC 0, 8, .inl (fun _ => 0))), (h26, .inr (5, [.ref h39, .int 0, .int 0, .ref h40, .int 0])), (h39, .inl (aC 0, 160, .inl (fun _ => 0))), (h40, .inl (aC 0, 8, .inl (fun _ => 0))), (h27, .inr (5, [.ref h41, .int 0, .int 0, .ref h42, .int 0])), (h41, .inl (aC 0, 160, .inl (fun _ => 0))), (h42, .inl (aC 0, 8, .inl (fun _ => 0))), (h28, .inr (5, [.ref h43, .int 0, .int 0, .ref h44, .int 0])), (h43, .inl (aC 0, 160, .inl (fun _ => 0))), (h44, .inl (aC 0, 8, .inl (fun _ => 0)))] (QI g (fun (r : Int32) (_ : Unit) => r = 0) (fun (_ : Unit) => [])) 0 0 := by
  refine Ct.mk (by decide) (Nat.le_of_ble_eq_true rfl) ?_
  intro p e s m below meth c A ls hx hb hml hown hts hr hlk hnm hK hA hM hM2 hP hD hS hl
  have hown : s.vm.findClass RX10 = some m.cls := hown
  have F : Fx p s m _ c cX10_mark 3 RX10 g aC aM A := ⟨hx, hb, hml, hown, hts, hK, hA, hM, hM2⟩
  have hl : lv_has ls 3 [(0, .ref h1), (1, .int n_1), (2, .int 0)] := hl
  refine lv_iload_n hx hb dX10_mark_0 rfl (lv_at hl 1 rfl) ?_
  refine lv_if_lt (tgt := 9) hx hb dX10_mark_1 (by decide) (fun c1 => ?_) (fun c1 => ?_)
  · exfalso
    simp only [Int32.lt_iff_toInt_lt, Int32.le_iff_toInt_le, ← Int32.toInt_inj, show (0 : Int32).toInt = 0 by decide, show (4 : Int32).toInt = 4 by decide] at hl1 c1; omega
  · refine lv_iload_n hx hb dX10_mark_4 rfl (lv_at hl 1 rfl) ?_
    refine lv_iconst (v := 4) hx hb dX10_mark_5 (by decide) ?_
    refine lv_icmp_lt (tgt := 11) hx hb dX10_mark_6 (by decide) (fun c2 => ?_) (fun c2 => ?_)
    · exfalso
      simp only [Int32.lt_iff_toInt_lt, Int32.le_iff_toInt_le, ← Int32.toInt_inj, show (0 : Int32).toInt = 0 by decide, show (4 : Int32).toInt = 4 by decide] at hl1 c1 c2; omega
    · refine lv_iconst (v := 0) hx hb dX10_mark_9 (by decide) ?_
      have hP9 := hP.sub (ws' := []) [] rfl
      have hD9 := hD.sub (ws' := []) [] (by decide) rfl
      exact rI () hx hb hr hlk rfl hS rfl hP9 hD9 (Nat.le_of_ble_eq_true rfl) (Nat.le_of_ble_eq_true rfl) dX10_mark_10

set_option maxHeartbeats 4000000 in
set_option maxRecDepth 100000 in
theorem x_mark_00 (l : Launch) (g : va_G) (aC : Nat → ClassId) (aM : Nat → Nat) (h1 h7 h9 h11 h12 h17 h18 h19 h20 h21 h22 h23 h24 h25 h26 h27 h28 h29 h30 h31 h32 h33 h34 h35 h36 h37 h38 h39 h40 h41 h42 h43 h44 : Nat) (x2 x3 x4 x5 x6 x8 x10 x13 x14 x15 x16 : Value) : Ct l g aC aM yX10_mark cX10_mark 3 (some .boolean) 3 [.ref h1, .int 0, .int 0] [(h1, .inr (10, [x2, x3, x4, x5, x6, .ref h7, x8, .ref h9, x10, .ref h11, .ref h12, .int 0, x13, x14, x15, x16])), (h7, .inr (6, [.int 0, .ref h17, .ref h18, .int 0, .int 0, .int 0])), (h17, .inl (aC 0, 5, .inl (fun _ => 0))), (h18, .inl (aC 0, 4, .inl (fun _ => 0))), (h9, .inr (5, [.ref h19, .int 0, .int 0, .ref h20, .int 0])), (h19, .inl (aC 0, 160, .inl (fun _ => 0))), (h20, .inl (aC 0, 8, .inl (fun _ => 0))), (h11, .inl (aC 4, 4, .inr (.inr (.inr (.inr (va_up (va_up (va_up (va_up (fun _ => none) 0 (some h21)) 1 (some h22)) 2 (some h23)) 3 (some h24))))))), (h12, .inl (aC 5, 4, .inr (.inr (.inr (.inr (va_up (va_up (va_up (va_up (fun _ => none) 0 (some h25)) 1 (some h26)) 2 (some h27)) 3 (some h28))))))), (h21, .inr (6, [.int 0, .ref h29, .ref h30, .int 0, .int 0, .int 0])), (h29, .inl (aC 0, 5, .inl (fun _ => 0))), (h30, .inl (aC 0, 4, .inl (fun _ => 0))), (h22, .inr (6, [.int 0, .ref h31, .ref h32, .int 0, .int 0, .int 0])), (h31, .inl (aC 0, 5, .inl (fun _ => 0))), (h32, .inl (aC 0, 4, .inl (fun _ => 0))), (h23, .inr (6, [.int 0, .ref h33, .ref h34, .int 0, .int 0, .int 0])), (h33, .inl (aC 0, 5, .inl (fun _ => 0))), (h34, .inl (aC 0, 4, .inl (fun _ => 0))), (h24, .inr (6, [.int 0, .ref h35, .ref h36, .int 0, .int 0, .int 0])), (h35, .inl (aC 0, 5, .inl (fun _ => 0))), (h36, .inl (aC 0, 4, .inl (fun _ => 0))), (h25, .inr (5, [.ref h37, .int 0, .int 0, .ref h38, .int 0])), (h37, .inl (aC 0, 160, .inl (fun _ => 0))), (h38, .inl (aC 0, 8, .inl (fun _ => 0))), (h26, .inr (5, [.ref h39, .int 0, .int 0, .ref h40, .int 0])), (h39, .inl (aC 0, 160, .inl (fun _ => 0))), (h40, .inl (aC 0, 8, .inl (fun _ => 0))), (h27, .inr (5, [.ref h41, .int 0, .int 0, .ref h42, .int 0])), (h41, .inl (aC 0, 160, .inl (fun _ => 0))), (h42, .inl (aC 0, 8, .inl (fun _ => 0))), (h28, .inr (5, [.ref h43, .int 0, .int 0, .ref h44, .int 0])), (h43, .inl (aC 0, 160, .inl (fun _ => 0))), (h44, .inl (aC 0, 8, .inl (fun _ => 0)))] (QI g (fun (r : Int32) (_ : Unit) => r = 1) (fun (_ : Unit) => [])) 0 0 := by
  refine Ct.mk (by decide) (Nat.le_of_ble_eq_true rfl) ?_
  intro p e s m below meth c A ls hx hb hml hown hts hr hlk hnm hK hA hM hM2 hP hD hS hl
  have hown : s.vm.findClass RX10 = some m.cls := hown
  have F : Fx p s m _ c cX10_mark 3 RX10 g aC aM A := ⟨hx, hb, hml, hown, hts, hK, hA, hM, hM2⟩
  have hl : lv_has ls 3 [(0, .ref h1), (1, .int 0), (2, .int 0)] := hl
  refine lv_iload_n hx hb dX10_mark_0 rfl (lv_at hl 1 rfl) ?_
  refine lv_if_lt (tgt := 9) hx hb dX10_mark_1 (by decide) (fun c_ => absurd c_ (by decide +kernel)) (fun _ => ?_)
  refine lv_iload_n hx hb dX10_mark_4 rfl (lv_at hl 1 rfl) ?_
  refine lv_iconst (v := 4) hx hb dX10_mark_5 (by decide) ?_
  refine lv_icmp_lt (tgt := 11) hx hb dX10_mark_6 (by decide) (fun _ => ?_) (fun c_ => absurd (by decide +kernel) c_)
  refine lv_iload_n hx hb dX10_mark_11 rfl (lv_at hl 2 rfl) ?_
  refine lv_if_ne (tgt := 55) hx hb dX10_mark_12 (by decide) (fun c_ => absurd (by decide +kernel) c_) (fun _ => ?_)
  refine lv_aload_n hx hb dX10_mark_15 rfl (lv_at hl 0 rfl) ?_
  refine xget F hP 0 rfl rfl inX10 9 (by decide) tb409 rfl dX10_mark_16 ?_
  refine lv_iload_n hx hb dX10_mark_19 rfl (lv_at hl 1 rfl) ?_
  refine xqlo (v := h21) F hP 7 4 rfl rfl 0 (by decide +kernel) (by decide +kernel) (by decide) rfl dX10_mark_20 ?_
  refine lv_aload_n hx hb dX10_mark_21 rfl (lv_at hl 0 rfl) ?_
  refine xget F hP 0 rfl rfl inX10 5 (by decide) tb405 rfl dX10_mark_22 ?_
  refine goV (wr := [(h1, .inr (10, [x2, x3, x4, x5, x6, .ref h7, x8, .ref h9, x10, .ref h11, .ref h12, .int 0, x13, x14, x15, x16])), (h9, .inr (5, [.ref h19, .int 0, .int 0, .ref h20, .int 0])), (h19, .inl (aC 0, 160, .inl (fun _ => 0))), (h20, .inl (aC 0, 8, .inl (fun _ => 0))), (h11, .inl (aC 4, 4, .inr (.inr (.inr (.inr (va_up (va_up (va_up (va_up (fun _ => none) 0 (some h21)) 1 (some h22)) 2 (some h23)) 3 (some h24))))))), (h12, .inl (aC 5, 4, .inr (.inr (.inr (.inr (va_up (va_up (va_up (va_up (fun _ => none) 0 (some h25)) 1 (some h26)) 2 (some h27)) 3 (some h28))))))), (h22, .inr (6, [.int 0, .ref h31, .ref h32, .int 0, .int 0, .int 0])), (h31, .inl (aC 0, 5, .inl (fun _ => 0))), (h32, .inl (aC 0, 4, .inl (fun _ => 0))), (h23, .inr (6, [.int 0, .ref h33, .ref h34, .int 0, .int 0, .int 0])), (h33, .inl (aC 0, 5, .inl (fun _ => 0))), (h34, .inl (aC 0, 4, .inl (fun _ => 0))), (h24, .inr (6, [.int 0, .ref h35, .ref h36, .int 0, .int 0, .int 0])), (h35, .inl (aC 0, 5, .inl (fun _ => 0))), (h36, .inl (aC 0, 4, .inl (fun _ => 0))), (h25, .inr (5, [.ref h37, .int 0, .int 0, .ref h38, .int 0])), (h37, .inl (aC 0, 160, .inl (fun _ => 0))), (h38, .inl (aC 0, 8, .inl (fun _ => 0))), (h26, .inr (5, [.ref h39, .int 0, .int 0, .ref h40, .int 0])), (h39, .inl (aC 0, 160, .inl (fun _ => 0))), (h40, .inl (aC 0, 8, .inl (fun _ => 0))), (h27, .inr (5, [.ref h41, .int 0, .int 0, .ref h42, .int 0])), (h41, .inl (aC 0, 160, .inl (fun _ => 0))), (h42, .inl (aC 0, 8, .inl (fun _ => 0))), (h28, .inr (5, [.ref h43, .int 0, .int 0, .ref h44, .int 0])), (h43, .inl (aC 0, 160, .inl (fun _ => 0))), (h44, .inl (aC 0, 8, .inl (fun _ => 0)))]) (runV (n := 1) (As := [.ref h7]) (rest := []) F hP hD hS (a_X6_copy_1 l g aC aM h21 h7 h17 h18 h29 h30) [1, 2, 3, 9, 10, 11] (by decide) rfl 9 6 rfl rfl rfl tb837 tb834 tb835 tb836 tb12 ⟨by decide, by decide, by decide +kernel⟩ ⟨Nat.le_of_ble_eq_true rfl, Nat.le_of_ble_eq_true rfl⟩ rfl hl.1 rfl (Nat.le_of_ble_eq_true rfl) dX10_mark_25 ⟨Nat.le_of_ble_eq_true rfl, Nat.le_of_ble_eq_true rfl⟩) hP hD hS hA [1, 2, 3, 9, 10, 11] [0, 4, 5, 6, 7, 8, 12, 13, 14, 15, 16, 17, 18, 19, 20, 21, 22, 23, 24, 25, 26, 27, 28, 29, 30, 31, 32] rfl rfl (by decide) (by decide) (fun w6 H locs hw hP hD hS => ?_)
  have hP : va_P g vwCl [(h1, .inr (10, [x2, x3, x4, x5, x6, .ref h7, x8, .ref h9, x10, .ref h11, .ref h12, .int 0, x13, x14, x15, x16])), (h9, .inr (5, [.ref h19, .int 0, .int 0, .ref h20, .int 0])), (h19, .inl (aC 0, 160, .inl (fun _ => 0))), (h20, .inl (aC 0, 8, .inl (fun _ => 0))), (h11, .inl (aC 4, 4, .inr (.inr (.inr (.inr (va_up (va_up (va_up (va_up (fun _ => none) 0 (some h21)) 1 (some h22)) 2 (some h23)) 3 (some h24))))))), (h12, .inl (aC 5, 4, .inr (.inr (.inr (.inr (va_up (va_up (va_up (va_up (fun _ => none) 0 (some h25)) 1 (some h26)) 2 (some h27)) 3 (some h28))))))), (h22, .inr (6, [.int 0, .ref h31, .ref h32, .int 0, .int 0, .int 0])), (h31, .inl (aC 0, 5, .inl (fun _ => 0))), (h32, .inl (aC 0, 4, .inl (fun _ => 0))), (h23, .inr (6, [.int 0, .ref h33, .ref h34, .int 0, .int 0, .int 0])), (h33, .inl (aC 0, 5, .inl (fun _ => 0))), (h34, .inl (aC 0, 4, .inl (fun _ => 0))), (h24, .inr (6, [.int 0, .ref h35, .ref h36, .int 0, .int 0, .int 0])), (h35, .inl (aC 0, 5, .inl (fun _ => 0))), (h36, .inl (aC 0, 4, .inl (fun _ => 0))), (h25, .inr (5, [.ref h37, .int 0, .int 0, .ref h38, .int 0])), (h37, .inl (aC 0, 160, .inl (fun _ => 0))), (h38, .inl (aC 0, 8, .inl (fun _ => 0))), (h26, .inr (5, [.ref h39, .int 0, .int 0, .ref h40, .int 0])), (h39, .inl (aC 0, 160, .inl (fun _ => 0))), (h40, .inl (aC 0, 8, .inl (fun _ => 0))), (h27, .inr (5, [.ref h41, .int 0, .int 0, .ref h42, .int 0])), (h41, .inl (aC 0, 160, .inl (fun _ => 0))), (h42, .inl (aC 0, 8, .inl (fun _ => 0))), (h28, .inr (5, [.ref h43, .int 0, .int 0, .ref h44, .int 0])), (h43, .inl (aC 0, 160, .inl (fun _ => 0))), (h44, .inl (aC 0, 8, .inl (fun _ => 0))), (h7, .inr (6, [.int 0, .ref h17, .ref h18, .int 0, .int 0, .int 0])), (h17, .inl (aC 0, 5, .inl (fun _ => 0))), (h18, .inl (aC 0, 4, .inl (fun _ => 0))), (h21, .inr (6, [.int 0, .ref h29, .ref h30, .int 0, .int 0, .int 0])), (h29, .inl (aC 0, 5, .inl (fun _ => 0))), (h30, .inl (aC 0, 4, .inl (fun _ => 0)))] H := hP
  have hD : va_D A [(h1, .inr (10, [x2, x3, x4, x5, x6, .ref h7, x8, .ref h9, x10, .ref h11, .ref h12, .int 0, x13, x14, x15, x16])), (h9, .inr (5, [.ref h19, .int 0, .int 0, .ref h20, .int 0])), (h19, .inl (aC 0, 160, .inl (fun _ => 0))), (h20, .inl (aC 0, 8, .inl (fun _ => 0))), (h11, .inl (aC 4, 4, .inr (.inr (.inr (.inr (va_up (va_up (va_up (va_up (fun _ => none) 0 (some h21)) 1 (some h22)) 2 (some h23)) 3 (some h24))))))), (h12, .inl (aC 5, 4, .inr (.inr (.inr (.inr (va_up (va_up (va_up (va_up (fun _ => none) 0 (some h25)) 1 (some h26)) 2 (some h27)) 3 (some h28))))))), (h22, .inr (6, [.int 0, .ref h31, .ref h32, .int 0, .int 0, .int 0])), (h31, .inl (aC 0, 5, .inl (fun _ => 0))), (h32, .inl (aC 0, 4, .inl (fun _ => 0))), (h23, .inr (6, [.int 0, .ref h33, .ref h34, .int 0, .int 0, .int 0])), (h33, .inl (aC 0, 5, .inl (fun _ => 0))), (h34, .inl (aC 0, 4, .inl (fun _ => 0))), (h24, .inr (6, [.int 0, .ref h35, .ref h36, .int 0, .int 0, .int 0])), (h35, .inl (aC 0, 5, .inl (fun _ => 0))), (h36, .inl (aC 0, 4, .inl (fun _ => 0))), (h25, .inr (5, [.ref h37, .int 0, .int 0, .ref h38, .int 0])), (h37, .inl (aC 0, 160, .inl (fun _ => 0))), (h38, .inl (aC 0, 8, .inl (fun _ => 0))), (h26, .inr (5, [.ref h39, .int 0, .int 0, .ref h40, .int 0])), (h39, .inl (aC 0, 160, .inl (fun _ => 0))), (h40, .inl (aC 0, 8, .inl (fun _ => 0))), (h27, .inr (5, [.ref h41, .int 0, .int 0, .ref h42, .int 0])), (h41, .inl (aC 0, 160, .inl (fun _ => 0))), (h42, .inl (aC 0, 8, .inl (fun _ => 0))), (h28, .inr (5, [.ref h43, .int 0, .int 0, .ref h44, .int 0])), (h43, .inl (aC 0, 160, .inl (fun _ => 0))), (h44, .inl (aC 0, 8, .inl (fun _ => 0))), (h7, .inr (6, [.int 0, .ref h17, .ref h18, .int 0, .int 0, .int 0])), (h17, .inl (aC 0, 5, .inl (fun _ => 0))), (h18, .inl (aC 0, 4, .inl (fun _ => 0))), (h21, .inr (6, [.int 0, .ref h29, .ref h30, .int 0, .int 0, .int 0])), (h29, .inl (aC 0, 5, .inl (fun _ => 0))), (h30, .inl (aC 0, 4, .inl (fun _ => 0)))] := hD
  refine lv_aload_n hx hb dX10_mark_28 rfl (lv_at hl 0 rfl) ?_
  refine xget F hP 0 rfl rfl inX10 10 (by decide) tb410 rfl dX10_mark_29 ?_
  refine lv_iload_n hx hb dX10_mark_32 rfl (lv_at hl 1 rfl) ?_
  refine xqlo (v := h25) F hP 5 5 rfl rfl 0 (by decide +kernel) (by decide +kernel) (by decide) rfl dX10_mark_33 ?_
  refine lv_aload_n hx hb dX10_mark_34 rfl (lv_at hl 0 rfl) ?_
  refine xget F hP 0 rfl rfl inX10 7 (by decide) tb407 rfl dX10_mark_35 ?_
  refine goV (wr := [(h1, .inr (10, [x2, x3, x4, x5, x6, .ref h7, x8, .ref h9, x10, .ref h11, .ref h12, .int 0, x13, x14, x15, x16])), (h11, .inl (aC 4, 4, .inr (.inr (.inr (.inr (va_up (va_up (va_up (va_up (fun _ => none) 0 (some h21)) 1 (some h22)) 2 (some h23)) 3 (some h24))))))), (h12, .inl (aC 5, 4, .inr (.inr (.inr (.inr (va_up (va_up (va_up (va_up (fun _ => none) 0 (some h25)) 1 (some h26)) 2 (some h27)) 3 (some h28))))))), (h22, .inr (6, [.int 0, .ref h31, .ref h32, .int 0, .int 0, .int 0])), (h31, .inl (aC 0, 5, .inl (fun _ => 0))), (h32, .inl (aC 0, 4, .inl (fun _ => 0))), (h23, .inr (6, [.int 0, .ref h33, .ref h34, .int 0, .int 0, .int 0])), (h33, .inl (aC 0, 5, .inl (fun _ => 0))), (h34, .inl (aC 0, 4, .inl (fun _ => 0))), (h24, .inr (6, [.int 0, .ref h35, .ref h36, .int 0, .int 0, .int 0])), (h35, .inl (aC 0, 5, .inl (fun _ => 0))), (h36, .inl (aC 0, 4, .inl (fun _ => 0))), (h26, .inr (5, [.ref h39, .int 0, .int 0, .ref h40, .int 0])), (h39, .inl (aC 0, 160, .inl (fun _ => 0))), (h40, .inl (aC 0, 8, .inl (fun _ => 0))), (h27, .inr (5, [.ref h41, .int 0, .int 0, .ref h42, .int 0])), (h41, .inl (aC 0, 160, .inl (fun _ => 0))), (h42, .inl (aC 0, 8, .inl (fun _ => 0))), (h28, .inr (5, [.ref h43, .int 0, .int 0, .ref h44, .int 0])), (h43, .inl (aC 0, 160, .inl (fun _ => 0))), (h44, .inl (aC 0, 8, .inl (fun _ => 0))), (h7, .inr (6, [.int 0, .ref h17, .ref h18, .int 0, .int 0, .int 0])), (h17, .inl (aC 0, 5, .inl (fun _ => 0))), (h18, .inl (aC 0, 4, .inl (fun _ => 0))), (h21, .inr (6, [.int 0, .ref h29, .ref h30, .int 0, .int 0, .int 0])), (h29, .inl (aC 0, 5, .inl (fun _ => 0))), (h30, .inl (aC 0, 4, .inl (fun _ => 0)))]) (runV (n := 1) (As := [.ref h9]) (rest := []) F hP hD hS (a_X5_copy_1 l g aC aM h25 h9 h19 h20 h37 h38) [1, 2, 3, 15, 16, 17] (by decide) rfl 15 5 rfl rfl rfl tb1083 tb1080 tb1081 tb1082 tb13 ⟨by decide, by decide, by decide +kernel⟩ ⟨Nat.le_of_ble_eq_true rfl, Nat.le_of_ble_eq_true rfl⟩ rfl hl.1 rfl (Nat.le_of_ble_eq_true rfl) dX10_mark_38 ⟨Nat.le_of_ble_eq_true rfl, Nat.le_of_ble_eq_true rfl⟩) hP hD hS hA [1, 2, 3, 15, 16, 17] [0, 4, 5, 6, 7, 8, 9, 10, 11, 12, 13, 14, 18, 19, 20, 21, 22, 23, 24, 25, 26, 27, 28, 29, 30, 31, 32] rfl rfl (by decide) (by decide) (fun w9 H locs hw hP hD hS => ?_)
  have hP : va_P g vwCl [(h1, .inr (10, [x2, x3, x4, x5, x6, .ref h7, x8, .ref h9, x10, .ref h11, .ref h12, .int 0, x13, x14, x15, x16])), (h11, .inl (aC 4, 4, .inr (.inr (.inr (.inr (va_up (va_up (va_up (va_up (fun _ => none) 0 (some h21)) 1 (some h22)) 2 (some h23)) 3 (some h24))))))), (h12, .inl (aC 5, 4, .inr (.inr (.inr (.inr (va_up (va_up (va_up (va_up (fun _ => none) 0 (some h25)) 1 (some h26)) 2 (some h27)) 3 (some h28))))))), (h22, .inr (6, [.int 0, .ref h31, .ref h32, .int 0, .int 0, .int 0])), (h31, .inl (aC 0, 5, .inl (fun _ => 0))), (h32, .inl (aC 0, 4, .inl (fun _ => 0))), (h23, .inr (6, [.int 0, .ref h33, .ref h34, .int 0, .int 0, .int 0])), (h33, .inl (aC 0, 5, .inl (fun _ => 0))), (h34, .inl (aC 0, 4, .inl (fun _ => 0))), (h24, .inr (6, [.int 0, .ref h35, .ref h36, .int 0, .int 0, .int 0])), (h35, .inl (aC 0, 5, .inl (fun _ => 0))), (h36, .inl (aC 0, 4, .inl (fun _ => 0))), (h26, .inr (5, [.ref h39, .int 0, .int 0, .ref h40, .int 0])), (h39, .inl (aC 0, 160, .inl (fun _ => 0))), (h40, .inl (aC 0, 8, .inl (fun _ => 0))), (h27, .inr (5, [.ref h41, .int 0, .int 0, .ref h42, .int 0])), (h41, .inl (aC 0, 160, .inl (fun _ => 0))), (h42, .inl (aC 0, 8, .inl (fun _ => 0))), (h28, .inr (5, [.ref h43, .int 0, .int 0, .ref h44, .int 0])), (h43, .inl (aC 0, 160, .inl (fun _ => 0))), (h44, .inl (aC 0, 8, .inl (fun _ => 0))), (h7, .inr (6, [.int 0, .ref h17, .ref h18, .int 0, .int 0, .int 0])), (h17, .inl (aC 0, 5, .inl (fun _ => 0))), (h18, .inl (aC 0, 4, .inl (fun _ => 0))), (h21, .inr (6, [.int 0, .ref h29, .ref h30, .int 0, .int 0, .int 0])), (h29, .inl (aC 0, 5, .inl (fun _ => 0))), (h30, .inl (aC 0, 4, .inl (fun _ => 0))), (h9, .inr (5, [.ref h19, .int 0, .int 0, .ref h20, .int 0])), (h20, .inl (aC 0, 8, .inl (fun _ => 0))), (h38, .inl (aC 0, 8, .inl (fun _ => 0))), (h19, .inl (aC 0, 160, .inl (fun _ => 0))), (h25, .inr (5, [.ref h37, .int 0, .int 0, .ref h38, .int 0])), (h37, .inl (aC 0, 160, .inl (fun _ => 0)))] H := hP
  have hD : va_D A [(h1, .inr (10, [x2, x3, x4, x5, x6, .ref h7, x8, .ref h9, x10, .ref h11, .ref h12, .int 0, x13, x14, x15, x16])), (h11, .inl (aC 4, 4, .inr (.inr (.inr (.inr (va_up (va_up (va_up (va_up (fun _ => none) 0 (some h21)) 1 (some h22)) 2 (some h23)) 3 (some h24))))))), (h12, .inl (aC 5, 4, .inr (.inr (.inr (.inr (va_up (va_up (va_up (va_up (fun _ => none) 0 (some h25)) 1 (some h26)) 2 (some h27)) 3 (some h28))))))), (h22, .inr (6, [.int 0, .ref h31, .ref h32, .int 0, .int 0, .int 0])), (h31, .inl (aC 0, 5, .inl (fun _ => 0))), (h32, .inl (aC 0, 4, .inl (fun _ => 0))), (h23, .inr (6, [.int 0, .ref h33, .ref h34, .int 0, .int 0, .int 0])), (h33, .inl (aC 0, 5, .inl (fun _ => 0))), (h34, .inl (aC 0, 4, .inl (fun _ => 0))), (h24, .inr (6, [.int 0, .ref h35, .ref h36, .int 0, .int 0, .int 0])), (h35, .inl (aC 0, 5, .inl (fun _ => 0))), (h36, .inl (aC 0, 4, .inl (fun _ => 0))), (h26, .inr (5, [.ref h39, .int 0, .int 0, .ref h40, .int 0])), (h39, .inl (aC 0, 160, .inl (fun _ => 0))), (h40, .inl (aC 0, 8, .inl (fun _ => 0))), (h27, .inr (5, [.ref h41, .int 0, .int 0, .ref h42, .int 0])), (h41, .inl (aC 0, 160, .inl (fun _ => 0))), (h42, .inl (aC 0, 8, .inl (fun _ => 0))), (h28, .inr (5, [.ref h43, .int 0, .int 0, .ref h44, .int 0])), (h43, .inl (aC 0, 160, .inl (fun _ => 0))), (h44, .inl (aC 0, 8, .inl (fun _ => 0))), (h7, .inr (6, [.int 0, .ref h17, .ref h18, .int 0, .int 0, .int 0])), (h17, .inl (aC 0, 5, .inl (fun _ => 0))), (h18, .inl (aC 0, 4, .inl (fun _ => 0))), (h21, .inr (6, [.int 0, .ref h29, .ref h30, .int 0, .int 0, .int 0])), (h29, .inl (aC 0, 5, .inl (fun _ => 0))), (h30, .inl (aC 0, 4, .inl (fun _ => 0))), (h9, .inr (5, [.ref h19, .int 0, .int 0, .ref h20, .int 0])), (h20, .inl (aC 0, 8, .inl (fun _ => 0))), (h38, .inl (aC 0, 8, .inl (fun _ => 0))), (h19, .inl (aC 0, 160, .inl (fun _ => 0))), (h25, .inr (5, [.ref h37, .int 0, .int 0, .ref h38, .int 0])), (h37, .inl (aC 0, 160, .inl (fun _ => 0)))] := hD
  refine lv_aload_n hx hb dX10_mark_41 rfl (lv_at hl 0 rfl) ?_
  refine lv_dup hx hb dX10_mark_42 rfl ?_
  refine xget F hP 0 rfl rfl inX10 11 (by decide) tb411 rfl dX10_mark_43 ?_
  refine lv_iconst (v := 1) hx hb dX10_mark_46 (by decide) ?_
  refine lv_iload_n hx hb dX10_mark_47 rfl (lv_at hl 1 rfl) ?_
  refine lv_ishl hx hb dX10_mark_48 ?_
  refine relit (v := 1) (by decide +kernel) ?_
  refine lv_ior hx hb dX10_mark_49 ?_
  refine relit (v := 1) (by decide +kernel) ?_
  refine xput F hP hD hS 0 rfl rfl inX10 tyX10_ok nmX10 11 (by decide) tb411 rfl rfl rfl (Nat.le_of_ble_eq_true rfl) dX10_mark_50 (fun H locs hP hD hS => ?_)
  have hP : va_P g vwCl [(h1, .inr (10, [x2, x3, x4, x5, x6, .ref h7, x8, .ref h9, x10, .ref h11, .ref h12, .int 1, x13, x14, x15, x16])), (h11, .inl (aC 4, 4, .inr (.inr (.inr (.inr (va_up (va_up (va_up (va_up (fun _ => none) 0 (some h21)) 1 (some h22)) 2 (some h23)) 3 (some h24))))))), (h12, .inl (aC 5, 4, .inr (.inr (.inr (.inr (va_up (va_up (va_up (va_up (fun _ => none) 0 (some h25)) 1 (some h26)) 2 (some h27)) 3 (some h28))))))), (h22, .inr (6, [.int 0, .ref h31, .ref h32, .int 0, .int 0, .int 0])), (h31, .inl (aC 0, 5, .inl (fun _ => 0))), (h32, .inl (aC 0, 4, .inl (fun _ => 0))), (h23, .inr (6, [.int 0, .ref h33, .ref h34, .int 0, .int 0, .int 0])), (h33, .inl (aC 0, 5, .inl (fun _ => 0))), (h34, .inl (aC 0, 4, .inl (fun _ => 0))), (h24, .inr (6, [.int 0, .ref h35, .ref h36, .int 0, .int 0, .int 0])), (h35, .inl (aC 0, 5, .inl (fun _ => 0))), (h36, .inl (aC 0, 4, .inl (fun _ => 0))), (h26, .inr (5, [.ref h39, .int 0, .int 0, .ref h40, .int 0])), (h39, .inl (aC 0, 160, .inl (fun _ => 0))), (h40, .inl (aC 0, 8, .inl (fun _ => 0))), (h27, .inr (5, [.ref h41, .int 0, .int 0, .ref h42, .int 0])), (h41, .inl (aC 0, 160, .inl (fun _ => 0))), (h42, .inl (aC 0, 8, .inl (fun _ => 0))), (h28, .inr (5, [.ref h43, .int 0, .int 0, .ref h44, .int 0])), (h43, .inl (aC 0, 160, .inl (fun _ => 0))), (h44, .inl (aC 0, 8, .inl (fun _ => 0))), (h7, .inr (6, [.int 0, .ref h17, .ref h18, .int 0, .int 0, .int 0])), (h17, .inl (aC 0, 5, .inl (fun _ => 0))), (h18, .inl (aC 0, 4, .inl (fun _ => 0))), (h21, .inr (6, [.int 0, .ref h29, .ref h30, .int 0, .int 0, .int 0])), (h29, .inl (aC 0, 5, .inl (fun _ => 0))), (h30, .inl (aC 0, 4, .inl (fun _ => 0))), (h9, .inr (5, [.ref h19, .int 0, .int 0, .ref h20, .int 0])), (h20, .inl (aC 0, 8, .inl (fun _ => 0))), (h38, .inl (aC 0, 8, .inl (fun _ => 0))), (h19, .inl (aC 0, 160, .inl (fun _ => 0))), (h25, .inr (5, [.ref h37, .int 0, .int 0, .ref h38, .int 0])), (h37, .inl (aC 0, 160, .inl (fun _ => 0)))] H := hP
  have hD : va_D A [(h1, .inr (10, [x2, x3, x4, x5, x6, .ref h7, x8, .ref h9, x10, .ref h11, .ref h12, .int 1, x13, x14, x15, x16])), (h11, .inl (aC 4, 4, .inr (.inr (.inr (.inr (va_up (va_up (va_up (va_up (fun _ => none) 0 (some h21)) 1 (some h22)) 2 (some h23)) 3 (some h24))))))), (h12, .inl (aC 5, 4, .inr (.inr (.inr (.inr (va_up (va_up (va_up (va_up (fun _ => none) 0 (some h25)) 1 (some h26)) 2 (some h27)) 3 (some h28))))))), (h22, .inr (6, [.int 0, .ref h31, .ref h32, .int 0, .int 0, .int 0])), (h31, .inl (aC 0, 5, .inl (fun _ => 0))), (h32, .inl (aC 0, 4, .inl (fun _ => 0))), (h23, .inr (6, [.int 0, .ref h33, .ref h34, .int 0, .int 0, .int 0])), (h33, .inl (aC 0, 5, .inl (fun _ => 0))), (h34, .inl (aC 0, 4, .inl (fun _ => 0))), (h24, .inr (6, [.int 0, .ref h35, .ref h36, .int 0, .int 0, .int 0])), (h35, .inl (aC 0, 5, .inl (fun _ => 0))), (h36, .inl (aC 0, 4, .inl (fun _ => 0))), (h26, .inr (5, [.ref h39, .int 0, .int 0, .ref h40, .int 0])), (h39, .inl (aC 0, 160, .inl (fun _ => 0))), (h40, .inl (aC 0, 8, .inl (fun _ => 0))), (h27, .inr (5, [.ref h41, .int 0, .int 0, .ref h42, .int 0])), (h41, .inl (aC 0, 160, .inl (fun _ => 0))), (h42, .inl (aC 0, 8, .inl (fun _ => 0))), (h28, .inr (5, [.ref h43, .int 0, .int 0, .ref h44, .int 0])), (h43, .inl (aC 0, 160, .inl (fun _ => 0))), (h44, .inl (aC 0, 8, .inl (fun _ => 0))), (h7, .inr (6, [.int 0, .ref h17, .ref h18, .int 0, .int 0, .int 0])), (h17, .inl (aC 0, 5, .inl (fun _ => 0))), (h18, .inl (aC 0, 4, .inl (fun _ => 0))), (h21, .inr (6, [.int 0, .ref h29, .ref h30, .int 0, .int 0, .int 0])), (h29, .inl (aC 0, 5, .inl (fun _ => 0))), (h30, .inl (aC 0, 4, .inl (fun _ => 0))), (h9, .inr (5, [.ref h19, .int 0, .int 0, .ref h20, .int 0])), (h20, .inl (aC 0, 8, .inl (fun _ => 0))), (h38, .inl (aC 0, 8, .inl (fun _ => 0))), (h19, .inl (aC 0, 160, .inl (fun _ => 0))), (h25, .inr (5, [.ref h37, .int 0, .int 0, .ref h38, .int 0])), (h37, .inl (aC 0, 160, .inl (fun _ => 0)))] := hD
  refine lv_iconst (v := 1) hx hb dX10_mark_53 (by decide) ?_
  have hP9 := hP.sub (ws' := []) [] rfl
  have hD9 := hD.sub (ws' := []) [] (by decide) rfl
  exact rI () hx hb hr hlk rfl hS rfl hP9 hD9 (Nat.le_of_ble_eq_true rfl) (Nat.le_of_ble_eq_true rfl) dX10_mark_54

set_option maxHeartbeats 4000000 in
set_option maxRecDepth 100000 in
theorem x_mark_10 (l : Launch) (g : va_G) (aC : Nat → ClassId) (aM : Nat → Nat) (h1 h7 h9 h11 h12 h17 h18 h19 h20 h21 h22 h23 h24 h25 h26 h27 h28 h29 h30 h31 h32 h33 h34 h35 h36 h37 h38 h39 h40 h41 h42 h43 h44 : Nat) (x2 x3 x4 x5 x6 x8 x10 x13 x14 x15 x16 : Value) : Ct l g aC aM yX10_mark cX10_mark 3 (some .boolean) 3 [.ref h1, .int 1, .int 0] [(h1, .inr (10, [x2, x3, x4, x5, x6, .ref h7, x8, .ref h9, x10, .ref h11, .ref h12, .int 0, x13, x14, x15, x16])), (h7, .inr (6, [.int 0, .ref h17, .ref h18, .int 0, .int 0, .int 0])), (h17, .inl (aC 0, 5, .inl (fun _ => 0))), (h18, .inl (aC 0, 4, .inl (fun _ => 0))), (h9, .inr (5, [.ref h19, .int 0, .int 0, .ref h20, .int 0])), (h19, .inl (aC 0, 160, .inl (fun _ => 0))), (h20, .inl (aC 0, 8, .inl (fun _ => 0))), (h11, .inl (aC 4, 4, .inr (.inr (.inr (.inr (va_up (va_up (va_up (va_up (fun _ => none) 0 (some h21)) 1 (some h22)) 2 (some h23)) 3 (some h24))))))), (h12, .inl (aC 5, 4, .inr (.inr (.inr (.inr (va_up (va_up (va_up (va_up (fun _ => none) 0 (some h25)) 1 (some h26)) 2 (some h27)) 3 (some h28))))))), (h21, .inr (6, [.int 0, .ref h29, .ref h30, .int 0, .int 0, .int 0])), (h29, .inl (aC 0, 5, .inl (fun _ => 0))), (h30, .inl (aC 0, 4, .inl (fun _ => 0))), (h22, .inr (6, [.int 0, .ref h31, .ref h32, .int 0, .int 0, .int 0])), (h31, .inl (aC 0, 5, .inl (fun _ => 0))), (h32, .inl (aC 0, 4, .inl (fun _ => 0))), (h23, .inr (6, [.int 0, .ref h33, .ref h34, .int 0, .int 0, .int 0])), (h33, .inl (aC 0, 5, .inl (fun _ => 0))), (h34, .inl (aC 0, 4, .inl (fun _ => 0))), (h24, .inr (6, [.int 0, .ref h35, .ref h36, .int 0, .int 0, .int 0])), (h35, .inl (aC 0, 5, .inl (fun _ => 0))), (h36, .inl (aC 0, 4, .inl (fun _ => 0))), (h25, .inr (5, [.ref h37, .int 0, .int 0, .ref h38, .int 0])), (h37, .inl (aC 0, 160, .inl (fun _ => 0))), (h38, .inl (aC 0, 8, .inl (fun _ => 0))), (h26, .inr (5, [.ref h39, .int 0, .int 0, .ref h40, .int 0])), (h39, .inl (aC 0, 160, .inl (fun _ => 0))), (h40, .inl (aC 0, 8, .inl (fun _ => 0))), (h27, .inr (5, [.ref h41, .int 0, .int 0, .ref h42, .int 0])), (h41, .inl (aC 0, 160, .inl (fun _ => 0))), (h42, .inl (aC 0, 8, .inl (fun _ => 0))), (h28, .inr (5, [.ref h43, .int 0, .int 0, .ref h44, .int 0])), (h43, .inl (aC 0, 160, .inl (fun _ => 0))), (h44, .inl (aC 0, 8, .inl (fun _ => 0)))] (QI g (fun (r : Int32) (_ : Unit) => r = 1) (fun (_ : Unit) => [])) 0 0 := by
  refine Ct.mk (by decide) (Nat.le_of_ble_eq_true rfl) ?_
  intro p e s m below meth c A ls hx hb hml hown hts hr hlk hnm hK hA hM hM2 hP hD hS hl
  have hown : s.vm.findClass RX10 = some m.cls := hown
  have F : Fx p s m _ c cX10_mark 3 RX10 g aC aM A := ⟨hx, hb, hml, hown, hts, hK, hA, hM, hM2⟩
  have hl : lv_has ls 3 [(0, .ref h1), (1, .int 1), (2, .int 0)] := hl
  refine lv_iload_n hx hb dX10_mark_0 rfl (lv_at hl 1 rfl) ?_
  refine lv_if_lt (tgt := 9) hx hb dX10_mark_1 (by decide) (fun c_ => absurd c_ (by decide +kernel)) (fun _ => ?_)
  refine lv_iload_n hx hb dX10_mark_4 rfl (lv_at hl 1 rfl) ?_
  refine lv_iconst (v := 4) hx hb dX10_mark_5 (by decide) ?_
  refine lv_icmp_lt (tgt := 11) hx hb dX10_mark_6 (by decide) (fun _ => ?_) (fun c_ => absurd (by decide +kernel) c_)
  refine lv_iload_n hx hb dX10_mark_11 rfl (lv_at hl 2 rfl) ?_
  refine lv_if_ne (tgt := 55) hx hb dX10_mark_12 (by decide) (fun c_ => absurd (by decide +kernel) c_) (fun _ => ?_)
  refine lv_aload_n hx hb dX10_mark_15 rfl (lv_at hl 0 rfl) ?_
  refine xget F hP 0 rfl rfl inX10 9 (by decide) tb409 rfl dX10_mark_16 ?_
  refine lv_iload_n hx hb dX10_mark_19 rfl (lv_at hl 1 rfl) ?_
  refine xqlo (v := h22) F hP 7 4 rfl rfl 1 (by decide +kernel) (by decide +kernel) (by decide) rfl dX10_mark_20 ?_
  refine lv_aload_n hx hb dX10_mark_21 rfl (lv_at hl 0 rfl) ?_
  refine xget F hP 0 rfl rfl inX10 5 (by decide) tb405 rfl dX10_mark_22 ?_
  refine goV (wr := [(h1, .inr (10, [x2, x3, x4, x5, x6, .ref h7, x8, .ref h9, x10, .ref h11, .ref h12, .int 0, x13, x14, x15, x16])), (h9, .inr (5, [.ref h19, .int 0, .int 0, .ref h20, .int 0])), (h19, .inl (aC 0, 160, .inl (fun _ => 0))), (h20, .inl (aC 0, 8, .inl (fun _ => 0))), (h11, .inl (aC 4, 4, .inr (.inr (.inr (.inr (va_up (va_up (va_up (va_up (fun _ => none) 0 (some h21)) 1 (some h22)) 2 (some h23)) 3 (some h24))))))), (h12, .inl (aC 5, 4, .inr (.inr (.inr (.inr (va_up (va_up (va_up (va_up (fun _ => none) 0 (some h25)) 1 (some h26)) 2 (some h27)) 3 (some h28))))))), (h21, .inr (6, [.int 0, .ref h29, .ref h30, .int 0, .int 0, .int 0])), (h29, .inl (aC 0, 5, .inl (fun _ => 0))), (h30, .inl (aC 0, 4, .inl (fun _ => 0))), (h23, .inr (6, [.int 0, .ref h33, .ref h34, .int 0, .int 0, .int 0])), (h33, .inl (aC 0, 5, .inl (fun _ => 0))), (h34, .inl (aC 0, 4, .inl (fun _ => 0))), (h24, .inr (6, [.int 0, .ref h35, .ref h36, .int 0, .int 0, .int 0])), (h35, .inl (aC 0, 5, .inl (fun _ => 0))), (h36, .inl (aC 0, 4, .inl (fun _ => 0))), (h25, .inr (5, [.ref h37, .int 0, .int 0, .ref h38, .int 0])), (h37, .inl (aC 0, 160, .inl (fun _ => 0))), (h38, .inl (aC 0, 8, .inl (fun _ => 0))), (h26, .inr (5, [.ref h39, .int 0, .int 0, .ref h40, .int 0])), (h39, .inl (aC 0, 160, .inl (fun _ => 0))), (h40, .inl (aC 0, 8, .inl (fun _ => 0))), (h27, .inr (5, [.ref h41, .int 0, .int 0, .ref h42, .int 0])), (h41, .inl (aC 0, 160, .inl (fun _ => 0))), (h42, .inl (aC 0, 8, .inl (fun _ => 0))), (h28, .inr (5, [.ref h43, .int 0, .int 0, .ref h44, .int 0])), (h43, .inl (aC 0, 160, .inl (fun _ => 0))), (h44, .inl (aC 0, 8, .inl (fun _ => 0)))]) (runV (n := 1) (As := [.ref h7]) (rest := []) F hP hD hS (a_X6_copy_1 l g aC aM h22 h7 h17 h18 h31 h32) [1, 2, 3, 12, 13, 14] (by decide) rfl 12 6 rfl rfl rfl tb837 tb834 tb835 tb836 tb12 ⟨by decide, by decide, by decide +kernel⟩ ⟨Nat.le_of_ble_eq_true rfl, Nat.le_of_ble_eq_true rfl⟩ rfl hl.1 rfl (Nat.le_of_ble_eq_true rfl) dX10_mark_25 ⟨Nat.le_of_ble_eq_true rfl, Nat.le_of_ble_eq_true rfl⟩) hP hD hS hA [1, 2, 3, 12, 13, 14] [0, 4, 5, 6, 7, 8, 9, 10, 11, 15, 16, 17, 18, 19, 20, 21, 22, 23, 24, 25, 26, 27, 28, 29, 30, 31, 32] rfl rfl (by decide) (by decide) (fun w6 H locs hw hP hD hS => ?_)
  have hP : va_P g vwCl [(h1, .inr (10, [x2, x3, x4, x5, x6, .ref h7, x8, .ref h9, x10, .ref h11, .ref h12, .int 0, x13, x14, x15, x16])), (h9, .inr (5, [.ref h19, .int 0, .int 0, .ref h20, .int 0])), (h19, .inl (aC 0, 160, .inl (fun _ => 0))), (h20, .inl (aC 0, 8, .inl (fun _ => 0))), (h11, .inl (aC 4, 4, .inr (.inr (.inr (.inr (va_up (va_up (va_up (va_up (fun _ => none) 0 (some h21)) 1 (some h22)) 2 (some h23)) 3 (some h24))))))), (h12, .inl (aC 5, 4, .inr (.inr (.inr (.inr (va_up (va_up (va_up (va_up (fun _ => none) 0 (some h25)) 1 (some h26)) 2 (some h27)) 3 (some h28))))))), (h21, .inr (6, [.int 0, .ref h29, .ref h30, .int 0, .int 0, .int 0])), (h29, .inl (aC 0, 5, .inl (fun _ => 0))), (h30, .inl (aC 0, 4, .inl (fun _ => 0))), (h23, .inr (6, [.int 0, .ref h33, .ref h34, .int 0, .int 0, .int 0])), (h33, .inl (aC 0, 5, .inl (fun _ => 0))), (h34, .inl (aC 0, 4, .inl (fun _ => 0))), (h24, .inr (6, [.int 0, .ref h35, .ref h36, .int 0, .int 0, .int 0])), (h35, .inl (aC 0, 5, .inl (fun _ => 0))), (h36, .inl (aC 0, 4, .inl (fun _ => 0))), (h25, .inr (5, [.ref h37, .int 0, .int 0, .ref h38, .int 0])), (h37, .inl (aC 0, 160, .inl (fun _ => 0))), (h38, .inl (aC 0, 8, .inl (fun _ => 0))), (h26, .inr (5, [.ref h39, .int 0, .int 0, .ref h40, .int 0])), (h39, .inl (aC 0, 160, .inl (fun _ => 0))), (h40, .inl (aC 0, 8, .inl (fun _ => 0))), (h27, .inr (5, [.ref h41, .int 0, .int 0, .ref h42, .int 0])), (h41, .inl (aC 0, 160, .inl (fun _ => 0))), (h42, .inl (aC 0, 8, .inl (fun _ => 0))), (h28, .inr (5, [.ref h43, .int 0, .int 0, .ref h44, .int 0])), (h43, .inl (aC 0, 160, .inl (fun _ => 0))), (h44, .inl (aC 0, 8, .inl (fun _ => 0))), (h7, .inr (6, [.int 0, .ref h17, .ref h18, .int 0, .int 0, .int 0])), (h17, .inl (aC 0, 5, .inl (fun _ => 0))), (h18, .inl (aC 0, 4, .inl (fun _ => 0))), (h22, .inr (6, [.int 0, .ref h31, .ref h32, .int 0, .int 0, .int 0])), (h31, .inl (aC 0, 5, .inl (fun _ => 0))), (h32, .inl (aC 0, 4, .inl (fun _ => 0)))] H := hP
  have hD : va_D A [(h1, .inr (10, [x2, x3, x4, x5, x6, .ref h7, x8, .ref h9, x10, .ref h11, .ref h12, .int 0, x13, x14, x15, x16])), (h9, .inr (5, [.ref h19, .int 0, .int 0, .ref h20, .int 0])), (h19, .inl (aC 0, 160, .inl (fun _ => 0))), (h20, .inl (aC 0, 8, .inl (fun _ => 0))), (h11, .inl (aC 4, 4, .inr (.inr (.inr (.inr (va_up (va_up (va_up (va_up (fun _ => none) 0 (some h21)) 1 (some h22)) 2 (some h23)) 3 (some h24))))))), (h12, .inl (aC 5, 4, .inr (.inr (.inr (.inr (va_up (va_up (va_up (va_up (fun _ => none) 0 (some h25)) 1 (some h26)) 2 (some h27)) 3 (some h28))))))), (h21, .inr (6, [.int 0, .ref h29, .ref h30, .int 0, .int 0, .int 0])), (h29, .inl (aC 0, 5, .inl (fun _ => 0))), (h30, .inl (aC 0, 4, .inl (fun _ => 0))), (h23, .inr (6, [.int 0, .ref h33, .ref h34, .int 0, .int 0, .int 0])), (h33, .inl (aC 0, 5, .inl (fun _ => 0))), (h34, .inl (aC 0, 4, .inl (fun _ => 0))), (h24, .inr (6, [.int 0, .ref h35, .ref h36, .int 0, .int 0, .int 0])), (h35, .inl (aC 0, 5, .inl (fun _ => 0))), (h36, .inl (aC 0, 4, .inl (fun _ => 0))), (h25, .inr (5, [.ref h37, .int 0, .int 0, .ref h38, .int 0])), (h37, .inl (aC 0, 160, .inl (fun _ => 0))), (h38, .inl (aC 0, 8, .inl (fun _ => 0))), (h26, .inr (5, [.ref h39, .int 0, .int 0, .ref h40, .int 0])), (h39, .inl (aC 0, 160, .inl (fun _ => 0))), (h40, .inl (aC 0, 8, .inl (fun _ => 0))), (h27, .inr (5, [.ref h41, .int 0, .int 0, .ref h42, .int 0])), (h41, .inl (aC 0, 160, .inl (fun _ => 0))), (h42, .inl (aC 0, 8, .inl (fun _ => 0))), (h28, .inr (5, [.ref h43, .int 0, .int 0, .ref h44, .int 0])), (h43, .inl (aC 0, 160, .inl (fun _ => 0))), (h44, .inl (aC 0, 8, .inl (fun _ => 0))), (h7, .inr (6, [.int 0, .ref h17, .ref h18, .int 0, .int 0, .int 0])), (h17, .inl (aC 0, 5, .inl (fun _ => 0))), (h18, .inl (aC 0, 4, .inl (fun _ => 0))), (h22, .inr (6, [.int 0, .ref h31, .ref h32, .int 0, .int 0, .int 0])), (h31, .inl (aC 0, 5, .inl (fun _ => 0))), (h32, .inl (aC 0, 4, .inl (fun _ => 0)))] := hD
  refine lv_aload_n hx hb dX10_mark_28 rfl (lv_at hl 0 rfl) ?_
  refine xget F hP 0 rfl rfl inX10 10 (by decide) tb410 rfl dX10_mark_29 ?_
  refine lv_iload_n hx hb dX10_mark_32 rfl (lv_at hl 1 rfl) ?_
  refine xqlo (v := h26) F hP 5 5 rfl rfl 1 (by decide +kernel) (by decide +kernel) (by decide) rfl dX10_mark_33 ?_
  refine lv_aload_n hx hb dX10_mark_34 rfl (lv_at hl 0 rfl) ?_
  refine xget F hP 0 rfl rfl inX10 7 (by decide) tb407 rfl dX10_mark_35 ?_
  refine goV (wr := [(h1, .inr (10, [x2, x3, x4, x5, x6, .ref h7, x8, .ref h9, x10, .ref h11, .ref h12, .int 0, x13, x14, x15, x16])), (h11, .inl (aC 4, 4, .inr (.inr (.inr (.inr (va_up (va_up (va_up (va_up (fun _ => none) 0 (some h21)) 1 (some h22)) 2 (some h23)) 3 (some h24))))))), (h12, .inl (aC 5, 4, .inr (.inr (.inr (.inr (va_up (va_up (va_up (va_up (fun _ => none) 0 (some h25)) 1 (some h26)) 2 (some h27)) 3 (some h28))))))), (h21, .inr (6, [.int 0, .ref h29, .ref h30, .int 0, .int 0, .int 0])), (h29, .inl (aC 0, 5, .inl (fun _ => 0))), (h30, .inl (aC 0, 4, .inl (fun _ => 0))), (h23, .inr (6, [.int 0, .ref h33, .ref h34, .int 0, .int 0, .int 0])), (h33, .inl (aC 0, 5, .inl (fun _ => 0))), (h34, .inl (aC 0, 4, .inl (fun _ => 0))), (h24, .inr (6, [.int 0, .ref h35, .ref h36, .int 0, .int 0, .int 0])), (h35, .inl (aC 0, 5, .inl (fun _ => 0))), (h36, .inl (aC 0, 4, .inl (fun _ => 0))), (h25, .inr (5, [.ref h37, .int 0, .int 0, .ref h38, .int 0])), (h37, .inl (aC 0, 160, .inl (fun _ => 0))), (h38, .inl (aC 0, 8, .inl (fun _ => 0))), (h27, .inr (5, [.ref h41, .int 0, .int 0, .ref h42, .int 0])), (h41, .inl (aC 0, 160, .inl (fun _ => 0))), (h42, .inl (aC 0, 8, .inl (fun _ => 0))), (h28, .inr (5, [.ref h43, .int 0, .int 0, .ref h44, .int 0])), (h43, .inl (aC 0, 160, .inl (fun _ => 0))), (h44, .inl (aC 0, 8, .inl (fun _ => 0))), (h7, .inr (6, [.int 0, .ref h17, .ref h18, .int 0, .int 0, .int 0])), (h17, .inl (aC 0, 5, .inl (fun _ => 0))), (h18, .inl (aC 0, 4, .inl (fun _ => 0))), (h22, .inr (6, [.int 0, .ref h31, .ref h32, .int 0, .int 0, .int 0])), (h31, .inl (aC 0, 5, .inl (fun _ => 0))), (h32, .inl (aC 0, 4, .inl (fun _ => 0)))]) (runV (n := 1) (As := [.ref h9]) (rest := []) F hP hD hS (a_X5_copy_1 l g aC aM h26 h9 h19 h20 h39 h40) [1, 2, 3, 18, 19, 20] (by decide) rfl 18 5 rfl rfl rfl tb1083 tb1080 tb1081 tb1082 tb13 ⟨by decide, by decide, by decide +kernel⟩ ⟨Nat.le_of_ble_eq_true rfl, Nat.le_of_ble_eq_true rfl⟩ rfl hl.1 rfl (Nat.le_of_ble_eq_true rfl) dX10_mark_38 ⟨Nat.le_of_ble_eq_true rfl, Nat.le_of_ble_eq_true rfl⟩) hP hD hS hA [1, 2, 3, 18, 19, 20] [0, 4, 5, 6, 7, 8, 9, 10, 11, 12, 13, 14, 15, 16, 17, 21, 22, 23, 24, 25, 26, 27, 28, 29, 30, 31, 32] rfl rfl (by decide) (by decide) (fun w9 H locs hw hP hD hS => ?_)
  have hP : va_P g vwCl [(h1, .inr (10, [x2, x3, x4, x5, x6, .ref h7, x8, .ref h9, x10, .ref h11, .ref h12, .int 0, x13, x14, x15, x16])), (h11, .inl (aC 4, 4, .inr (.inr (.inr (.inr (va_up (va_up (va_up (va_up (fun _ => none) 0 (some h21)) 1 (some h22)) 2 (some h23)) 3 (some h24))))))), (h12, .inl (aC 5, 4, .inr (.inr (.inr (.inr (va_up (va_up (va_up (va_up (fun _ => none) 0 (some h25)) 1 (some h26)) 2 (some h27)) 3 (some h28))))))), (h21, .inr (6, [.int 0, .ref h29, .ref h30, .int 0, .int 0, .int 0])), (h29, .inl (aC 0, 5, .inl (fun _ => 0))), (h30, .inl (aC 0, 4, .inl (fun _ => 0))), (h23, .inr (6, [.int 0, .ref h33, .ref h34, .int 0, .int 0, .int 0])), (h33, .inl (aC 0, 5, .inl (fun _ => 0))), (h34, .inl (aC 0, 4, .inl (fun _ => 0))), (h24, .inr (6, [.int 0, .ref h35, .ref h36, .int 0, .int 0, .int 0])), (h35, .inl (aC 0, 5, .inl (fun _ => 0))), (h36, .inl (aC 0, 4, .inl (fun _ => 0))), (h25, .inr (5, [.ref h37, .int 0, .int 0, .ref h38, .int 0])), (h37, .inl (aC 0, 160, .inl (fun _ => 0))), (h38, .inl (aC 0, 8, .inl (fun _ => 0))), (h27, .inr (5, [.ref h41, .int 0, .int 0, .ref h42, .int 0])), (h41, .inl (aC 0, 160, .inl (fun _ => 0))), (h42, .inl (aC 0, 8, .inl (fun _ => 0))), (h28, .inr (5, [.ref h43, .int 0, .int 0, .ref h44, .int 0])), (h43, .inl (aC 0, 160, .inl (fun _ => 0))), (h44, .inl (aC 0, 8, .inl (fun _ => 0))), (h7, .inr (6, [.int 0, .ref h17, .ref h18, .int 0, .int 0, .int 0])), (h17, .inl (aC 0, 5, .inl (fun _ => 0))), (h18, .inl (aC 0, 4, .inl (fun _ => 0))), (h22, .inr (6, [.int 0, .ref h31, .ref h32, .int 0, .int 0, .int 0])), (h31, .inl (aC 0, 5, .inl (fun _ => 0))), (h32, .inl (aC 0, 4, .inl (fun _ => 0))), (h9, .inr (5, [.ref h19, .int 0, .int 0, .ref h20, .int 0])), (h20, .inl (aC 0, 8, .inl (fun _ => 0))), (h40, .inl (aC 0, 8, .inl (fun _ => 0))), (h19, .inl (aC 0, 160, .inl (fun _ => 0))), (h26, .inr (5, [.ref h39, .int 0, .int 0, .ref h40, .int 0])), (h39, .inl (aC 0, 160, .inl (fun _ => 0)))] H := hP
  have hD : va_D A [(h1, .inr (10, [x2, x3, x4, x5, x6, .ref h7, x8, .ref h9, x10, .ref h11, .ref h12, .int 0, x13, x14, x15, x16])), (h11, .inl (aC 4, 4, .inr (.inr (.inr (.inr (va_up (va_up (va_up (va_up (fun _ => none) 0 (some h21)) 1 (some h22)) 2 (some h23)) 3 (some h24))))))), (h12, .inl (aC 5, 4, .inr (.inr (.inr (.inr (va_up (va_up (va_up (va_up (fun _ => none) 0 (some h25)) 1 (some h26)) 2 (some h27)) 3 (some h28))))))), (h21, .inr (6, [.int 0, .ref h29, .ref h30, .int 0, .int 0, .int 0])), (h29, .inl (aC 0, 5, .inl (fun _ => 0))), (h30, .inl (aC 0, 4, .inl (fun _ => 0))), (h23, .inr (6, [.int 0, .ref h33, .ref h34, .int 0, .int 0, .int 0])), (h33, .inl (aC 0, 5, .inl (fun _ => 0))), (h34, .inl (aC 0, 4, .inl (fun _ => 0))), (h24, .inr (6, [.int 0, .ref h35, .ref h36, .int 0, .int 0, .int 0])), (h35, .inl (aC 0, 5, .inl (fun _ => 0))), (h36, .inl (aC 0, 4, .inl (fun _ => 0))), (h25, .inr (5, [.ref h37, .int 0, .int 0, .ref h38, .int 0])), (h37, .inl (aC 0, 160, .inl (fun _ => 0))), (h38, .inl (aC 0, 8, .inl (fun _ => 0))), (h27, .inr (5, [.ref h41, .int 0, .int 0, .ref h42, .int 0])), (h41, .inl (aC 0, 160, .inl (fun _ => 0))), (h42, .inl (aC 0, 8, .inl (fun _ => 0))), (h28, .inr (5, [.ref h43, .int 0, .int 0, .ref h44, .int 0])), (h43, .inl (aC 0, 160, .inl (fun _ => 0))), (h44, .inl (aC 0, 8, .inl (fun _ => 0))), (h7, .inr (6, [.int 0, .ref h17, .ref h18, .int 0, .int 0, .int 0])), (h17, .inl (aC 0, 5, .inl (fun _ => 0))), (h18, .inl (aC 0, 4, .inl (fun _ => 0))), (h22, .inr (6, [.int 0, .ref h31, .ref h32, .int 0, .int 0, .int 0])), (h31, .inl (aC 0, 5, .inl (fun _ => 0))), (h32, .inl (aC 0, 4, .inl (fun _ => 0))), (h9, .inr (5, [.ref h19, .int 0, .int 0, .ref h20, .int 0])), (h20, .inl (aC 0, 8, .inl (fun _ => 0))), (h40, .inl (aC 0, 8, .inl (fun _ => 0))), (h19, .inl (aC 0, 160, .inl (fun _ => 0))), (h26, .inr (5, [.ref h39, .int 0, .int 0, .ref h40, .int 0])), (h39, .inl (aC 0, 160, .inl (fun _ => 0)))] := hD
  refine lv_aload_n hx hb dX10_mark_41 rfl (lv_at hl 0 rfl) ?_
  refine lv_dup hx hb dX10_mark_42 rfl ?_
  refine xget F hP 0 rfl rfl inX10 11 (by decide) tb411 rfl dX10_mark_43 ?_
  refine lv_iconst (v := 1) hx hb dX10_mark_46 (by decide) ?_
  refine lv_iload_n hx hb dX10_mark_47 rfl (lv_at hl 1 rfl) ?_
  refine lv_ishl hx hb dX10_mark_48 ?_
  refine relit (v := 2) (by decide +kernel) ?_
  refine lv_ior hx hb dX10_mark_49 ?_
  refine relit (v := 2) (by decide +kernel) ?_
  refine xput F hP hD hS 0 rfl rfl inX10 tyX10_ok nmX10 11 (by decide) tb411 rfl rfl rfl (Nat.le_of_ble_eq_true rfl) dX10_mark_50 (fun H locs hP hD hS => ?_)
  have hP : va_P g vwCl [(h1, .inr (10, [x2, x3, x4, x5, x6, .ref h7, x8, .ref h9, x10, .ref h11, .ref h12, .int 2, x13, x14, x15, x16])), (h11, .inl (aC 4, 4, .inr (.inr (.inr (.inr (va_up (va_up (va_up (va_up (fun _ => none) 0 (some h21)) 1 (some h22)) 2 (some h23)) 3 (some h24))))))), (h12, .inl (aC 5, 4, .inr (.inr (.inr (.inr (va_up (va_up (va_up (va_up (fun _ => none) 0 (some h25)) 1 (some h26)) 2 (some h27)) 3 (some h28))))))), (h21, .inr (6, [.int 0, .ref h29, .ref h30, .int 0, .int 0, .int 0])), (h29, .inl (aC 0, 5, .inl (fun _ => 0))), (h30, .inl (aC 0, 4, .inl (fun _ => 0))), (h23, .inr (6, [.int 0, .ref h33, .ref h34, .int 0, .int 0, .int 0])), (h33, .inl (aC 0, 5, .inl (fun _ => 0))), (h34, .inl (aC 0, 4, .inl (fun _ => 0))), (h24, .inr (6, [.int 0, .ref h35, .ref h36, .int 0, .int 0, .int 0])), (h35, .inl (aC 0, 5, .inl (fun _ => 0))), (h36, .inl (aC 0, 4, .inl (fun _ => 0))), (h25, .inr (5, [.ref h37, .int 0, .int 0, .ref h38, .int 0])), (h37, .inl (aC 0, 160, .inl (fun _ => 0))), (h38, .inl (aC 0, 8, .inl (fun _ => 0))), (h27, .inr (5, [.ref h41, .int 0, .int 0, .ref h42, .int 0])), (h41, .inl (aC 0, 160, .inl (fun _ => 0))), (h42, .inl (aC 0, 8, .inl (fun _ => 0))), (h28, .inr (5, [.ref h43, .int 0, .int 0, .ref h44, .int 0])), (h43, .inl (aC 0, 160, .inl (fun _ => 0))), (h44, .inl (aC 0, 8, .inl (fun _ => 0))), (h7, .inr (6, [.int 0, .ref h17, .ref h18, .int 0, .int 0, .int 0])), (h17, .inl (aC 0, 5, .inl (fun _ => 0))), (h18, .inl (aC 0, 4, .inl (fun _ => 0))), (h22, .inr (6, [.int 0, .ref h31, .ref h32, .int 0, .int 0, .int 0])), (h31, .inl (aC 0, 5, .inl (fun _ => 0))), (h32, .inl (aC 0, 4, .inl (fun _ => 0))), (h9, .inr (5, [.ref h19, .int 0, .int 0, .ref h20, .int 0])), (h20, .inl (aC 0, 8, .inl (fun _ => 0))), (h40, .inl (aC 0, 8, .inl (fun _ => 0))), (h19, .inl (aC 0, 160, .inl (fun _ => 0))), (h26, .inr (5, [.ref h39, .int 0, .int 0, .ref h40, .int 0])), (h39, .inl (aC 0, 160, .inl (fun _ => 0)))] H := hP
  have hD : va_D A [(h1, .inr (10, [x2, x3, x4, x5, x6, .ref h7, x8, .ref h9, x10, .ref h11, .ref h12, .int 2, x13, x14, x15, x16])), (h11, .inl (aC 4, 4, .inr (.inr (.inr (.inr (va_up (va_up (va_up (va_up (fun _ => none) 0 (some h21)) 1 (some h22)) 2 (some h23)) 3 (some h24))))))), (h12, .inl (aC 5, 4, .inr (.inr (.inr (.inr (va_up (va_up (va_up (va_up (fun _ => none) 0 (some h25)) 1 (some h26)) 2 (some h27)) 3 (some h28))))))), (h21, .inr (6, [.int 0, .ref h29, .ref h30, .int 0, .int 0, .int 0])), (h29, .inl (aC 0, 5, .inl (fun _ => 0))), (h30, .inl (aC 0, 4, .inl (fun _ => 0))), (h23, .inr (6, [.int 0, .ref h33, .ref h34, .int 0, .int 0, .int 0])), (h33, .inl (aC 0, 5, .inl (fun _ => 0))), (h34, .inl (aC 0, 4, .inl (fun _ => 0))), (h24, .inr (6, [.int 0, .ref h35, .ref h36, .int 0, .int 0, .int 0])), (h35, .inl (aC 0, 5, .inl (fun _ => 0))), (h36, .inl (aC 0, 4, .inl (fun _ => 0))), (h25, .inr (5, [.ref h37, .int 0, .int 0, .ref h38, .int 0])), (h37, .inl (aC 0, 160, .inl (fun _ => 0))), (h38, .inl (aC 0, 8, .inl (fun _ => 0))), (h27, .inr (5, [.ref h41, .int 0, .int 0, .ref h42, .int 0])), (h41, .inl (aC 0, 160, .inl (fun _ => 0))), (h42, .inl (aC 0, 8, .inl (fun _ => 0))), (h28, .inr (5, [.ref h43, .int 0, .int 0, .ref h44, .int 0])), (h43, .inl (aC 0, 160, .inl (fun _ => 0))), (h44, .inl (aC 0, 8, .inl (fun _ => 0))), (h7, .inr (6, [.int 0, .ref h17, .ref h18, .int 0, .int 0, .int 0])), (h17, .inl (aC 0, 5, .inl (fun _ => 0))), (h18, .inl (aC 0, 4, .inl (fun _ => 0))), (h22, .inr (6, [.int 0, .ref h31, .ref h32, .int 0, .int 0, .int 0])), (h31, .inl (aC 0, 5, .inl (fun _ => 0))), (h32, .inl (aC 0, 4, .inl (fun _ => 0))), (h9, .inr (5, [.ref h19, .int 0, .int 0, .ref h20, .int 0])), (h20, .inl (aC 0, 8, .inl (fun _ => 0))), (h40, .inl (aC 0, 8, .inl (fun _ => 0))), (h19, .inl (aC 0, 160, .inl (fun _ => 0))), (h26, .inr (5, [.ref h39, .int 0, .int 0, .ref h40, .int 0])), (h39, .inl (aC 0, 160, .inl (fun _ => 0)))] := hD
  refine lv_iconst (v := 1) hx hb dX10_mark_53 (by decide) ?_
  have hP9 := hP.sub (ws' := []) [] rfl
  have hD9 := hD.sub (ws' := []) [] (by decide) rfl
  exact rI () hx hb hr hlk rfl hS rfl hP9 hD9 (Nat.le_of_ble_eq_true rfl) (Nat.le_of_ble_eq_true rfl) dX10_mark_54

set_option maxHeartbeats 4000000 in
set_option maxRecDepth 100000 in
theorem x_mark_20 (l : Launch) (g : va_G) (aC : Nat → ClassId) (aM : Nat → Nat) (h1 h7 h9 h11 h12 h17 h18 h19 h20 h21 h22 h23 h24 h25 h26 h27 h28 h29 h30 h31 h32 h33 h34 h35 h36 h37 h38 h39 h40 h41 h42 h43 h44 : Nat) (x2 x3 x4 x5 x6 x8 x10 x13 x14 x15 x16 : Value) : Ct l g aC aM yX10_mark cX10_mark 3 (some .boolean) 3 [.ref h1, .int 2, .int 0] [(h1, .inr (10, [x2, x3, x4, x5, x6, .ref h7, x8, .ref h9, x10, .ref h11, .ref h12, .int 0, x13, x14, x15, x16])), (h7, .inr (6, [.int 0, .ref h17, .ref h18, .int 0, .int 0, .int 0])), (h17, .inl (aC 0, 5, .inl (fun _ => 0))), (h18, .inl (aC 0, 4, .inl (fun _ => 0))), (h9, .inr (5, [.ref h19, .int 0, .int 0, .ref h20, .int 0])), (h19, .inl (aC 0, 160, .inl (fun _ => 0))), (h20, .inl (aC 0, 8, .inl (fun _ => 0))), (h11, .inl (aC 4, 4, .inr (.inr (.inr (.inr (va_up (va_up (va_up (va_up (fun _ => none) 0 (some h21)) 1 (some h22)) 2 (some h23)) 3 (some h24))))))), (h12, .inl (aC 5, 4, .inr (.inr (.inr (.inr (va_up (va_up (va_up (va_up (fun _ => none) 0 (some h25)) 1 (some h26)) 2 (some h27)) 3 (some h28))))))), (h21, .inr (6, [.int 0, .ref h29, .ref h30, .int 0, .int 0, .int 0])), (h29, .inl (aC 0, 5, .inl (fun _ => 0))), (h30, .inl (aC 0, 4, .inl (fun _ => 0))), (h22, .inr (6, [.int 0, .ref h31, .ref h32, .int 0, .int 0, .int 0])), (h31, .inl (aC 0, 5, .inl (fun _ => 0))), (h32, .inl (aC 0, 4, .inl (fun _ => 0))), (h23, .inr (6, [.int 0, .ref h33, .ref h34, .int 0, .int 0, .int 0])), (h33, .inl (aC 0, 5, .inl (fun _ => 0))), (h34, .inl (aC 0, 4, .inl (fun _ => 0))), (h24, .inr (6, [.int 0, .ref h35, .ref h36, .int 0, .int 0, .int 0])), (h35, .inl (aC 0, 5, .inl (fun _ => 0))), (h36, .inl (aC 0, 4, .inl (fun _ => 0))), (h25, .inr (5, [.ref h37, .int 0, .int 0, .ref h38, .int 0])), (h37, .inl (aC 0, 160, .inl (fun _ => 0))), (h38, .inl (aC 0, 8, .inl (fun _ => 0))), (h26, .inr (5, [.ref h39, .int 0, .int 0, .ref h40, .int 0])), (h39, .inl (aC 0, 160, .inl (fun _ => 0))), (h40, .inl (aC 0, 8, .inl (fun _ => 0))), (h27, .inr (5, [.ref h41, .int 0, .int 0, .ref h42, .int 0])), (h41, .inl (aC 0, 160, .inl (fun _ => 0))), (h42, .inl (aC 0, 8, .inl (fun _ => 0))), (h28, .inr (5, [.ref h43, .int 0, .int 0, .ref h44, .int 0])), (h43, .inl (aC 0, 160, .inl (fun _ => 0))), (h44, .inl (aC 0, 8, .inl (fun _ => 0)))] (QI g (fun (r : Int32) (_ : Unit) => r = 1) (fun (_ : Unit) => [])) 0 0 := by
  refine Ct.mk (by decide) (Nat.le_of_ble_eq_true rfl) ?_
  intro p e s m below meth c A ls hx hb hml hown hts hr hlk hnm hK hA hM hM2 hP hD hS hl
  have hown : s.vm.findClass RX10 = some m.cls := hown
  have F : Fx p s m _ c cX10_mark 3 RX10 g aC aM A := ⟨hx, hb, hml, hown, hts, hK, hA, hM, hM2⟩
  have hl : lv_has ls 3 [(0, .ref h1), (1, .int 2), (2, .int 0)] := hl
  refine lv_iload_n hx hb dX10_mark_0 rfl (lv_at hl 1 rfl) ?_
  refine lv_if_lt (tgt := 9) hx hb dX10_mark_1 (by decide) (fun c_ => absurd c_ (by decide +kernel)) (fun _ => ?_)
  refine lv_iload_n hx hb dX10_mark_4 rfl (lv_at hl 1 rfl) ?_
  refine lv_iconst (v := 4) hx hb dX10_mark_5 (by decide) ?_
  refine lv_icmp_lt (tgt := 11) hx hb dX10_mark_6 (by decide) (fun _ => ?_) (fun c_ => absurd (by decide +kernel) c_)
  refine lv_iload_n hx hb dX10_mark_11 rfl (lv_at hl 2 rfl) ?_
  refine lv_if_ne (tgt := 55) hx hb dX10_mark_12 (by decide) (fun c_ => absurd (by decide +kernel) c_) (fun _ => ?_)
  refine lv_aload_n hx hb dX10_mark_15 rfl (lv_at hl 0 rfl) ?_
  refine xget F hP 0 rfl rfl inX10 9 (by decide) tb409 rfl dX10_mark_16 ?_
  refine lv_iload_n hx hb dX10_mark_19 rfl (lv_at hl 1 rfl) ?_
  refine xqlo (v := h23) F hP 7 4 rfl rfl 2 (by decide +kernel) (by decide +kernel) (by decide) rfl dX10_mark_20 ?_
  refine lv_aload_n hx hb dX10_mark_21 rfl (lv_at hl 0 rfl) ?_
  refine xget F hP 0 rfl rfl inX10 5 (by decide) tb405 rfl dX10_mark_22 ?_
  refine goV (wr := [(h1, .inr (10, [x2, x3, x4, x5, x6, .ref h7, x8, .ref h9, x10, .ref h11, .ref h12, .int 0, x13, x14, x15, x16])), (h9, .inr (5, [.ref h19, .int 0, .int 0, .ref h20, .int 0])), (h19, .inl (aC 0, 160, .inl (fun _ => 0))), (h20, .inl (aC 0, 8, .inl (fun _ => 0))), (h11, .inl (aC 4, 4, .inr (.inr (.inr (.inr (va_up (va_up (va_up (va_up (fun _ => none) 0 (some h21)) 1 (some h22)) 2 (some h23)) 3 (some h24))))))), (h12, .inl (aC 5, 4, .inr (.inr (.inr (.inr (va_up (va_up (va_up (va_up (fun _ => none) 0 (some h25)) 1 (some h26)) 2 (some h27)) 3 (some h28))))))), (h21, .inr (6, [.int 0, .ref h29, .ref h30, .int 0, .int 0, .int 0])), (h29, .inl (aC 0, 5, .inl (fun _ => 0))), (h30, .inl (aC 0, 4, .inl (fun _ => 0))), (h22, .inr (6, [.int 0, .ref h31, .ref h32, .int 0, .int 0, .int 0])), (h31, .inl (aC 0, 5, .inl (fun _ => 0))), (h32, .inl (aC 0, 4, .inl (fun _ => 0))), (h24, .inr (6, [.int 0, .ref h35, .ref h36, .int 0, .int 0, .int 0])), (h35, .inl (aC 0, 5, .inl (fun _ => 0))), (h36, .inl (aC 0, 4, .inl (fun _ => 0))), (h25, .inr (5, [.ref h37, .int 0, .int 0, .ref h38, .int 0])), (h37, .inl (aC 0, 160, .inl (fun _ => 0))), (h38, .inl (aC 0, 8, .inl (fun _ => 0))), (h26, .inr (5, [.ref h39, .int 0, .int 0, .ref h40, .int 0])), (h39, .inl (aC 0, 160, .inl (fun _ => 0))), (h40, .inl (aC 0, 8, .inl (fun _ => 0))), (h27, .inr (5, [.ref h41, .int 0, .int 0, .ref h42, .int 0])), (h41, .inl (aC 0, 160, .inl (fun _ => 0))), (h42, .inl (aC 0, 8, .inl (fun _ => 0))), (h28, .inr (5, [.ref h43, .int 0, .int 0, .ref h44, .int 0])), (h43, .inl (aC 0, 160, .inl (fun _ => 0))), (h44, .inl (aC 0, 8, .inl (fun _ => 0)))]) (runV (n := 1) (As := [.ref h7]) (rest := []) F hP hD hS (a_X6_copy_1 l g aC aM h23 h7 h17 h18 h33 h34) [1, 2, 3, 15, 16, 17] (by decide) rfl 15 6 rfl rfl rfl tb837 tb834 tb835 tb836 tb12 ⟨by decide, by decide, by decide +kernel⟩ ⟨Nat.le_of_ble_eq_true rfl, Nat.le_of_ble_eq_true rfl⟩ rfl hl.1 rfl (Nat.le_of_ble_eq_true rfl) dX10_mark_25 ⟨Nat.le_of_ble_eq_true rfl, Nat.le_of_ble_eq_true rfl⟩) hP hD hS hA [1, 2, 3, 15, 16, 17] [0, 4, 5, 6, 7, 8, 9, 10, 11, 12, 13, 14, 18, 19, 20, 21, 22, 23, 24, 25, 26, 27, 28, 29, 30, 31, 32] rfl rfl (by decide) (by decide) (fun w6 H locs hw hP hD hS => ?_)
  have hP : va_P g vwCl [(h1, .inr (10, [x2, x3, x4, x5, x6, .ref h7, x8, .ref h9, x10, .ref h11, .ref h12, .int 0, x13, x14, x15, x16])), (h9, .inr (5, [.ref h19, .int 0, .int 0, .ref h20, .int 0])), (h19, .inl (aC 0, 160, .inl (fun _ => 0))), (h20, .inl (aC 0, 8, .inl (fun _ => 0))), (h11, .inl (aC 4, 4, .inr (.inr (.inr (.inr (va_up (va_up (va_up (va_up (fun _ => none) 0 (some h21)) 1 (some h22)) 2 (some h23)) 3 (some h24))))))), (h12, .inl (aC 5, 4, .inr (.inr (.inr (.inr (va_up (va_up (va_up (va_up (fun _ => none) 0 (some h25)) 1 (some h26)) 2 (some h27)) 3 (some h28))))))), (h21, .inr (6, [.int 0, .ref h29, .ref h30, .int 0, .int 0, .int 0])), (h29, .inl (aC 0, 5, .inl (fun _ => 0))), (h30, .inl (aC 0, 4, .inl (fun _ => 0))), (h22, .inr (6, [.int 0, .ref h31, .ref h32, .int 0, .int 0, .int 0])), (h31, .inl (aC 0, 5, .inl (fun _ => 0))), (h32, .inl (aC 0, 4, .inl (fun _ => 0))), (h24, .inr (6, [.int 0, .ref h35, .ref h36, .int 0, .int 0, .int 0])), (h35, .inl (aC 0, 5, .inl (fun _ => 0))), (h36, .inl (aC 0, 4, .inl (fun _ => 0))), (h25, .inr (5, [.ref h37, .int 0, .int 0, .ref h38, .int 0])), (h37, .inl (aC 0, 160, .inl (fun _ => 0))), (h38, .inl (aC 0, 8, .inl (fun _ => 0))), (h26, .inr (5, [.ref h39, .int 0, .int 0, .ref h40, .int 0])), (h39, .inl (aC 0, 160, .inl (fun _ => 0))), (h40, .inl (aC 0, 8, .inl (fun _ => 0))), (h27, .inr (5, [.ref h41, .int 0, .int 0, .ref h42, .int 0])), (h41, .inl (aC 0, 160, .inl (fun _ => 0))), (h42, .inl (aC 0, 8, .inl (fun _ => 0))), (h28, .inr (5, [.ref h43, .int 0, .int 0, .ref h44, .int 0])), (h43, .inl (aC 0, 160, .inl (fun _ => 0))), (h44, .inl (aC 0, 8, .inl (fun _ => 0))), (h7, .inr (6, [.int 0, .ref h17, .ref h18, .int 0, .int 0, .int 0])), (h17, .inl (aC 0, 5, .inl (fun _ => 0))), (h18, .inl (aC 0, 4, .inl (fun _ => 0))), (h23, .inr (6, [.int 0, .ref h33, .ref h34, .int 0, .int 0, .int 0])), (h33, .inl (aC 0, 5, .inl (fun _ => 0))), (h34, .inl (aC 0, 4, .inl (fun _ => 0)))] H := hP
  have hD : va_D A [(h1, .inr (10, [x2, x3, x4, x5, x6, .ref h7, x8, .ref h9, x10, .ref h11, .ref h12, .int 0, x13, x14, x15, x16])), (h9, .inr (5, [.ref h19, .int 0, .int 0, .ref h20, .int 0])), (h19, .inl (aC 0, 160, .inl (fun _ => 0))), (h20, .inl (aC 0, 8, .inl (fun _ => 0))), (h11, .inl (aC 4, 4, .inr (.inr (.inr (.inr (va_up (va_up (va_up (va_up (fun _ => none) 0 (some h21)) 1 (some h22)) 2 (some h23)) 3 (some h24))))))), (h12, .inl (aC 5, 4, .inr (.inr (.inr (.inr (va_up (va_up (va_up (va_up (fun _ => none) 0 (some h25)) 1 (some h26)) 2 (some h27)) 3 (some h28))))))), (h21, .inr (6, [.int 0, .ref h29, .ref h30, .int 0, .int 0, .int 0])), (h29, .inl (aC 0, 5, .inl (fun _ => 0))), (h30, .inl (aC 0, 4, .inl (fun _ => 0))), (h22, .inr (6, [.int 0, .ref h31, .ref h32, .int 0, .int 0, .int 0])), (h31, .inl (aC 0, 5, .inl (fun _ => 0))), (h32, .inl (aC 0, 4, .inl (fun _ => 0))), (h24, .inr (6, [.int 0, .ref h35, .ref h36, .int 0, .int 0, .int 0])), (h35, .inl (aC 0, 5, .inl (fun _ => 0))), (h36, .inl (aC 0, 4, .inl (fun _ => 0))), (h25, .inr (5, [.ref h37, .int 0, .int 0, .ref h38, .int 0])), (h37, .inl (aC 0, 160, .inl (fun _ => 0))), (h38, .inl (aC 0, 8, .inl (fun _ => 0))), (h26, .inr (5, [.ref h39, .int 0, .int 0, .ref h40, .int 0])), (h39, .inl (aC 0, 160, .inl (fun _ => 0))), (h40, .inl (aC 0, 8, .inl (fun _ => 0))), (h27, .inr (5, [.ref h41, .int 0, .int 0, .ref h42, .int 0])), (h41, .inl (aC 0, 160, .inl (fun _ => 0))), (h42, .inl (aC 0, 8, .inl (fun _ => 0))), (h28, .inr (5, [.ref h43, .int 0, .int 0, .ref h44, .int 0])), (h43, .inl (aC 0, 160, .inl (fun _ => 0))), (h44, .inl (aC 0, 8, .inl (fun _ => 0))), (h7, .inr (6, [.int 0, .ref h17, .ref h18, .int 0, .int 0, .int 0])), (h17, .inl (aC 0, 5, .inl (fun _ => 0))), (h18, .inl (aC 0, 4, .inl (fun _ => 0))), (h23, .inr (6, [.int 0, .ref h33, .ref h34, .int 0, .int 0, .int 0])), (h33, .inl (aC 0, 5, .inl (fun _ => 0))), (h34, .inl (aC 0, 4, .inl (fun _ => 0)))] := hD
  refine lv_aload_n hx hb dX10_mark_28 rfl (lv_at hl 0 rfl) ?_
  refine xget F hP 0 rfl rfl inX10 10 (by decide) tb410 rfl dX10_mark_29 ?_
  refine lv_iload_n hx hb dX10_mark_32 rfl (lv_at hl 1 rfl) ?_
  refine xqlo (v := h27) F hP 5 5 rfl rfl 2 (by decide +kernel) (by decide +kernel) (by decide) rfl dX10_mark_33 ?_
  refine lv_aload_n hx hb dX10_mark_34 rfl (lv_at hl 0 rfl) ?_
  refine xget F hP 0 rfl rfl inX10 7 (by decide) tb407 rfl dX10_mark_35 ?_
  refine goV (wr := [(h1, .inr (10, [x2, x3, x4, x5, x6, .ref h7, x8, .ref h9, x10, .ref h11, .ref h12, .int 0, x13, x14, x15, x16])), (h11, .inl (aC 4, 4, .inr (.inr (.inr (.inr (va_up (va_up (va_up (va_up (fun _ => none) 0 (some h21)) 1 (some h22)) 2 (some h23)) 3 (some h24))))))), (h12, .inl (aC 5, 4, .inr (.inr (.inr (.inr (va_up (va_up (va_up (va_up (fun _ => none) 0 (some h25)) 1 (some h26)) 2 (some h27)) 3 (some h28))))))), (h21, .inr (6, [.int 0, .ref h29, .ref h30, .int 0, .int 0, .int 0])), (h29, .inl (aC 0, 5, .inl (fun _ => 0))), (h30, .inl (aC 0, 4, .inl (fun _ => 0))), (h22, .inr (6, [.int 0, .ref h31, .ref h32, .int 0, .int 0, .int 0])), (h31, .inl (aC 0, 5, .inl (fun _ => 0))), (h32, .inl (aC 0, 4, .inl (fun _ => 0))), (h24, .inr (6, [.int 0, .ref h35, .ref h36, .int 0, .int 0, .int 0])), (h35, .inl (aC 0, 5, .inl (fun _ => 0))), (h36, .inl (aC 0, 4, .inl (fun _ => 0))), (h25, .inr (5, [.ref h37, .int 0, .int 0, .ref h38, .int 0])), (h37, .inl (aC 0, 160, .inl (fun _ => 0))), (h38, .inl (aC 0, 8, .inl (fun _ => 0))), (h26, .inr (5, [.ref h39, .int 0, .int 0, .ref h40, .int 0])), (h39, .inl (aC 0, 160, .inl (fun _ => 0))), (h40, .inl (aC 0, 8, .inl (fun _ => 0))), (h28, .inr (5, [.ref h43, .int 0, .int 0, .ref h44, .int 0])), (h43, .inl (aC 0, 160, .inl (fun _ => 0))), (h44, .inl (aC 0, 8, .inl (fun _ => 0))), (h7, .inr (6, [.int 0, .ref h17, .ref h18, .int 0, .int 0, .int 0])), (h17, .inl (aC 0, 5, .inl (fun _ => 0))), (h18, .inl (aC 0, 4, .inl (fun _ => 0))), (h23, .inr (6, [.int 0, .ref h33, .ref h34, .int 0, .int 0, .int 0])), (h33, .inl (aC 0, 5, .inl (fun _ => 0))), (h34, .inl (aC 0, 4, .inl (fun _ => 0)))]) (runV (n := 1) (As := [.ref h9]) (rest := []) F hP hD hS (a_X5_copy_1 l g aC aM h27 h9 h19 h20 h41 h42) [1, 2, 3, 21, 22, 23] (by decide) rfl 21 5 rfl rfl rfl tb1083 tb1080 tb1081 tb1082 tb13 ⟨by decide, by decide, by decide +kernel⟩ ⟨Nat.le_of_ble_eq_true rfl, Nat.le_of_ble_eq_true rfl⟩ rfl hl.1 rfl (Nat.le_of_ble_eq_true rfl) dX10_mark_38 ⟨Nat.le_of_ble_eq_true rfl, Nat.le_of_ble_eq_true rfl⟩) hP hD hS hA [1, 2, 3, 21, 22, 23] [0, 4, 5, 6, 7, 8, 9, 10, 11, 12, 13, 14, 15, 16, 17, 18, 19, 20, 24, 25, 26, 27, 28, 29, 30, 31, 32] rfl rfl (by decide) (by decide) (fun w9 H locs hw hP hD hS => ?_)
  have hP : va_P g vwCl [(h1, .inr (10, [x2, x3, x4, x5, x6, .ref h7, x8, .ref h9, x10, .ref h11, .ref h12, .int 0, x13, x14, x15, x16])), (h11, .inl (aC 4, 4, .inr (.inr (.inr (.inr (va_up (va_up (va_up (va_up (fun _ => none) 0 (some h21)) 1 (some h22)) 2 (some h23)) 3 (some h24))))))), (h12, .inl (aC 5, 4, .inr (.inr (.inr (.inr (va_up (va_up (va_up (va_up (fun _ => none) 0 (some h25)) 1 (some h26)) 2 (some h27)) 3 (some h28))))))), (h21, .inr (6, [.int 0, .ref h29, .ref h30, .int 0, .int 0, .int 0])), (h29, .inl (aC 0, 5, .inl (fun _ => 0))), (h30, .inl (aC 0, 4, .inl (fun _ => 0))), (h22, .inr (6, [.int 0, .ref h31, .ref h32, .int 0, .int 0, .int 0])), (h31, .inl (aC 0, 5, .inl (fun _ => 0))), (h32, .inl (aC 0, 4, .inl (fun _ => 0))), (h24, .inr (6, [.int 0, .ref h35, .ref h36, .int 0, .int 0, .int 0])), (h35, .inl (aC 0, 5, .inl (fun _ => 0))), (h36, .inl (aC 0, 4, .inl (fun _ => 0))), (h25, .inr (5, [.ref h37, .int 0, .int 0, .ref h38, .int 0])), (h37, .inl (aC 0, 160, .inl (fun _ => 0))), (h38, .inl (aC 0, 8, .inl (fun _ => 0))), (h26, .inr (5, [.ref h39, .int 0, .int 0, .ref h40, .int 0])), (h39, .inl (aC 0, 160, .inl (fun _ => 0))), (h40, .inl (aC 0, 8, .inl (fun _ => 0))), (h28, .inr (5, [.ref h43, .int 0, .int 0, .ref h44, .int 0])), (h43, .inl (aC 0, 160, .inl (fun _ => 0))), (h44, .inl (aC 0, 8, .inl (fun _ => 0))), (h7, .inr (6, [.int 0, .ref h17, .ref h18, .int 0, .int 0, .int 0])), (h17, .inl (aC 0, 5, .inl (fun _ => 0))), (h18, .inl (aC 0, 4, .inl (fun _ => 0))), (h23, .inr (6, [.int 0, .ref h33, .ref h34, .int 0, .int 0, .int 0])), (h33, .inl (aC 0, 5, .inl (fun _ => 0))), (h34, .inl (aC 0, 4, .inl (fun _ => 0))), (h9, .inr (5, [.ref h19, .int 0, .int 0, .ref h20, .int 0])), (h20, .inl (aC 0, 8, .inl (fun _ => 0))), (h42, .inl (aC 0, 8, .inl (fun _ => 0))), (h19, .inl (aC 0, 160, .inl (fun _ => 0))), (h27, .inr (5, [.ref h41, .int 0, .int 0, .ref h42, .int 0])), (h41, .inl (aC 0, 160, .inl (fun _ => 0)))] H := hP
  have hD : va_D A [(h1, .inr (10, [x2, x3, x4, x5, x6, .ref h7, x8, .ref h9, x10, .ref h11, .ref h12, .int 0, x13, x14, x15, x16])), (h11, .inl (aC 4, 4, .inr (.inr (.inr (.inr (va_up (va_up (va_up (va_up (fun _ => none) 0 (some h21)) 1 (some h22)) 2 (some h23)) 3 (some h24))))))), (h12, .inl (aC 5, 4, .inr (.inr (.inr (.inr (va_up (va_up (va_up (va_up (fun _ => none) 0 (some h25)) 1 (some h26)) 2 (some h27)) 3 (some h28))))))), (h21, .inr (6, [.int 0, .ref h29, .ref h30, .int 0, .int 0, .int 0])), (h29, .inl (aC 0, 5, .inl (fun _ => 0))), (h30, .inl (aC 0, 4, .inl (fun _ => 0))), (h22, .inr (6, [.int 0, .ref h31, .ref h32, .int 0, .int 0, .int 0])), (h31, .inl (aC 0, 5, .inl (fun _ => 0))), (h32, .inl (aC 0, 4, .inl (fun _ => 0))), (h24, .inr (6, [.int 0, .ref h35, .ref h36, .int 0, .int 0, .int 0])), (h35, .inl (aC 0, 5, .inl (fun _ => 0))), (h36, .inl (aC 0, 4, .inl (fun _ => 0))), (h25, .inr (5, [.ref h37, .int 0, .int 0, .ref h38, .int 0])), (h37, .inl (aC 0, 160, .inl (fun _ => 0))), (h38, .inl (aC 0, 8, .inl (fun _ => 0))), (h26, .inr (5, [.ref h39, .int 0, .int 0, .ref h40, .int 0])), (h39, .inl (aC 0, 160, .inl (fun _ => 0))), (h40, .inl (aC 0, 8, .inl (fun _ => 0))), (h28, .inr (5, [.ref h43, .int 0, .int 0, .ref h44, .int 0])), (h43, .inl (aC 0, 160, .inl (fun _ => 0))), (h44, .inl (aC 0, 8, .inl (fun _ => 0))), (h7, .inr (6, [.int 0, .ref h17, .ref h18, .int 0, .int 0, .int 0])), (h17, .inl (aC 0, 5, .inl (fun _ => 0))), (h18, .inl (aC 0, 4, .inl (fun _ => 0))), (h23, .inr (6, [.int 0, .ref h33, .ref h34, .int 0, .int 0, .int 0])), (h33, .inl (aC 0, 5, .inl (fun _ => 0))), (h34, .inl (aC 0, 4, .inl (fun _ => 0))), (h9, .inr (5, [.ref h19, .int 0, .int 0, .ref h20, .int 0])), (h20, .inl (aC 0, 8, .inl (fun _ => 0))), (h42, .inl (aC 0, 8, .inl (fun _ => 0))), (h19, .inl (aC 0, 160, .inl (fun _ => 0))), (h27, .inr (5, [.ref h41, .int 0, .int 0, .ref h42, .int 0])), (h41, .inl (aC 0, 160, .inl (fun _ => 0)))] := hD
  refine lv_aload_n hx hb dX10_mark_41 rfl (lv_at hl 0 rfl) ?_
  refine lv_dup hx hb dX10_mark_42 rfl ?_
  refine xget F hP 0 rfl rfl inX10 11 (by decide) tb411 rfl dX10_mark_43 ?_
  refine lv_iconst (v := 1) hx hb dX10_mark_46 (by decide) ?_
  refine lv_iload_n hx hb dX10_mark_47 rfl (lv_at hl 1 rfl) ?_
  refine lv_ishl hx hb dX10_mark_48 ?_
  refine relit (v := 4) (by decide +kernel) ?_
  refine lv_ior hx hb dX10_mark_49 ?_
  refine relit (v := 4) (by decide +kernel) ?_
  refine xput F hP hD hS 0 rfl rfl inX10 tyX10_ok nmX10 11 (by decide) tb411 rfl rfl rfl (Nat.le_of_ble_eq_true rfl) dX10_mark_50 (fun H locs hP hD hS => ?_)
  have hP : va_P g vwCl [(h1, .inr (10, [x2, x3, x4, x5, x6, .ref h7, x8, .ref h9, x10, .ref h11, .ref h12, .int 4, x13, x14, x15, x16])), (h11, .inl (aC 4, 4, .inr (.inr (.inr (.inr (va_up (va_up (va_up (va_up (fun _ => none) 0 (some h21)) 1 (some h22)) 2 (some h23)) 3 (some h24))))))), (h12, .inl (aC 5, 4, .inr (.inr (.inr (.inr (va_up (va_up (va_up (va_up (fun _ => none) 0 (some h25)) 1 (some h26)) 2 (some h27)) 3 (some h28))))))), (h21, .inr (6, [.int 0, .ref h29, .ref h30, .int 0, .int 0, .int 0])), (h29, .inl (aC 0, 5, .inl (fun _ => 0))), (h30, .inl (aC 0, 4, .inl (fun _ => 0))), (h22, .inr (6, [.int 0, .ref h31, .ref h32, .int 0, .int 0, .int 0])), (h31, .inl (aC 0, 5, .inl (fun _ => 0))), (h32, .inl (aC 0, 4, .inl (fun _ => 0))), (h24, .inr (6, [.int 0, .ref h35, .ref h36, .int 0, .int 0, .int 0])), (h35, .inl (aC 0, 5, .inl (fun _ => 0))), (h36, .inl (aC 0, 4, .inl (fun _ => 0))), (h25, .inr (5, [.ref h37, .int 0, .int 0, .ref h38, .int 0])), (h37, .inl (aC 0, 160, .inl (fun _ => 0))), (h38, .inl (aC 0, 8, .inl (fun _ => 0))), (h26, .inr (5, [.ref h39, .int 0, .int 0, .ref h40, .int 0])), (h39, .inl (aC 0, 160, .inl (fun _ => 0))), (h40, .inl (aC 0, 8, .inl (fun _ => 0))), (h28, .inr (5, [.ref h43, .int 0, .int 0, .ref h44, .int 0])), (h43, .inl (aC 0, 160, .inl (fun _ => 0))), (h44, .inl (aC 0, 8, .inl (fun _ => 0))), (h7, .inr (6, [.int 0, .ref h17, .ref h18, .int 0, .int 0, .int 0])), (h17, .inl (aC 0, 5, .inl (fun _ => 0))), (h18, .inl (aC 0, 4, .inl (fun _ => 0))), (h23, .inr (6, [.int 0, .ref h33, .ref h34, .int 0, .int 0, .int 0])), (h33, .inl (aC 0, 5, .inl (fun _ => 0))), (h34, .inl (aC 0, 4, .inl (fun _ => 0))), (h9, .inr (5, [.ref h19, .int 0, .int 0, .ref h20, .int 0])), (h20, .inl (aC 0, 8, .inl (fun _ => 0))), (h42, .inl (aC 0, 8, .inl (fun _ => 0))), (h19, .inl (aC 0, 160, .inl (fun _ => 0))), (h27, .inr (5, [.ref h41, .int 0, .int 0, .ref h42, .int 0])), (h41, .inl (aC 0, 160, .inl (fun _ => 0)))] H := hP
  have hD : va_D A [(h1, .inr (10, [x2, x3, x4, x5, x6, .ref h7, x8, .ref h9, x10, .ref h11, .ref h12, .int 4, x13, x14, x15, x16])), (h11, .inl (aC 4, 4, .inr (.inr (.inr (.inr (va_up (va_up (va_up (va_up (fun _ => none) 0 (some h21)) 1 (some h22)) 2 (some h23)) 3 (some h24))))))), (h12, .inl (aC 5, 4, .inr (.inr (.inr (.inr (va_up (va_up (va_up (va_up (fun _ => none) 0 (some h25)) 1 (some h26)) 2 (some h27)) 3 (some h28))))))), (h21, .inr (6, [.int 0, .ref h29, .ref h30, .int 0, .int 0, .int 0])), (h29, .inl (aC 0, 5, .inl (fun _ => 0))), (h30, .inl (aC 0, 4, .inl (fun _ => 0))), (h22, .inr (6, [.int 0, .ref h31, .ref h32, .int 0, .int 0, .int 0])), (h31, .inl (aC 0, 5, .inl (fun _ => 0))), (h32, .inl (aC 0, 4, .inl (fun _ => 0))), (h24, .inr (6, [.int 0, .ref h35, .ref h36, .int 0, .int 0, .int 0])), (h35, .inl (aC 0, 5, .inl (fun _ => 0))), (h36, .inl (aC 0, 4, .inl (fun _ => 0))), (h25, .inr (5, [.ref h37, .int 0, .int 0, .ref h38, .int 0])), (h37, .inl (aC 0, 160, .inl (fun _ => 0))), (h38, .inl (aC 0, 8, .inl (fun _ => 0))), (h26, .inr (5, [.ref h39, .int 0, .int 0, .ref h40, .int 0])), (h39, .inl (aC 0, 160, .inl (fun _ => 0))), (h40, .inl (aC 0, 8, .inl (fun _ => 0))), (h28, .inr (5, [.ref h43, .int 0, .int 0, .ref h44, .int 0])), (h43, .inl (aC 0, 160, .inl (fun _ => 0))), (h44, .inl (aC 0, 8, .inl (fun _ => 0))), (h7, .inr (6, [.int 0, .ref h17, .ref h18, .int 0, .int 0, .int 0])), (h17, .inl (aC 0, 5, .inl (fun _ => 0))), (h18, .inl (aC 0, 4, .inl (fun _ => 0))), (h23, .inr (6, [.int 0, .ref h33, .ref h34, .int 0, .int 0, .int 0])), (h33, .inl (aC 0, 5, .inl (fun _ => 0))), (h34, .inl (aC 0, 4, .inl (fun _ => 0))), (h9, .inr (5, [.ref h19, .int 0, .int 0, .ref h20, .int 0])), (h20, .inl (aC 0, 8, .inl (fun _ => 0))), (h42, .inl (aC 0, 8, .inl (fun _ => 0))), (h19, .inl (aC 0, 160, .inl (fun _ => 0))), (h27, .inr (5, [.ref h41, .int 0, .int 0, .ref h42, .int 0])), (h41, .inl (aC 0, 160, .inl (fun _ => 0)))] := hD
  refine lv_iconst (v := 1) hx hb dX10_mark_53 (by decide) ?_
  have hP9 := hP.sub (ws' := []) [] rfl
  have hD9 := hD.sub (ws' := []) [] (by decide) rfl
  exact rI () hx hb hr hlk rfl hS rfl hP9 hD9 (Nat.le_of_ble_eq_true rfl) (Nat.le_of_ble_eq_true rfl) dX10_mark_54

set_option maxHeartbeats 4000000 in
set_option maxRecDepth 100000 in
theorem x_mark_30 (l : Launch) (g : va_G) (aC : Nat → ClassId) (aM : Nat → Nat) (h1 h7 h9 h11 h12 h17 h18 h19 h20 h21 h22 h23 h24 h25 h26 h27 h28 h29 h30 h31 h32 h33 h34 h35 h36 h37 h38 h39 h40 h41 h42 h43 h44 : Nat) (x2 x3 x4 x5 x6 x8 x10 x13 x14 x15 x16 : Value) : Ct l g aC aM yX10_mark cX10_mark 3 (some .boolean) 3 [.ref h1, .int 3, .int 0] [(h1, .inr (10, [x2, x3, x4, x5, x6, .ref h7, x8, .ref h9, x10, .ref h11, .ref h12, .int 0, x13, x14, x15, x16])), (h7, .inr (6, [.int 0, .ref h17, .ref h18, .int 0, .int 0, .int 0])), (h17, .inl (aC 0, 5, .inl (fun _ => 0))), (h18, .inl (aC 0, 4, .inl (fun _ => 0))), (h9, .inr (5, [.ref h19, .int 0, .int 0, .ref h20, .int 0])), (h19, .inl (aC 0, 160, .inl (fun _ => 0))), (h20, .inl (aC 0, 8, .inl (fun _ => 0))), (h11, .inl (aC 4, 4, .inr (.inr (.inr (.inr (va_up (va_up (va_up (va_up (fun _ => none) 0 (some h21)) 1 (some h22)) 2 (some h23)) 3 (some h24))))))), (h12, .inl (aC 5, 4, .inr (.inr (.inr (.inr (va_up (va_up (va_up (va_up (fun _ => none) 0 (some h25)) 1 (some h26)) 2 (some h27)) 3 (some h28))))))), (h21, .inr (6, [.int 0, .ref h29, .ref h30, .int 0, .int 0, .int 0])), (h29, .inl (aC 0, 5, .inl (fun _ => 0))), (h30, .inl (aC 0, 4, .inl (fun _ => 0))), (h22, .inr (6, [.int 0, .ref h31, .ref h32, .int 0, .int 0, .int 0])), (h31, .inl (aC 0, 5, .inl (fun _ => 0))), (h32, .inl (aC 0, 4, .inl (fun _ => 0))), (h23, .inr (6, [.int 0, .ref h33, .ref h34, .int 0, .int 0, .int 0])), (h33, .inl (aC 0, 5, .inl (fun _ => 0))), (h34, .inl (aC 0, 4, .inl (fun _ => 0))), (h24, .inr (6, [.int 0, .ref h35, .ref h36, .int 0, .int 0, .int 0])), (h35, .inl (aC 0, 5, .inl (fun _ => 0))), (h36, .inl (aC 0, 4, .inl (fun _ => 0))), (h25, .inr (5, [.ref h37, .int 0, .int 0, .ref h38, .int 0])), (h37, .inl (aC 0, 160, .inl (fun _ => 0))), (h38, .inl (aC 0, 8, .inl (fun _ => 0))), (h26, .inr (5, [.ref h39, .int 0, .int 0, .ref h40, .int 0])), (h39, .inl (aC 0, 160, .inl (fun _ => 0))), (h40, .inl (aC 0, 8, .inl (fun _ => 0))), (h27, .inr (5, [.ref h41, .int 0, .int 0, .ref h42, .int 0])), (h41, .inl (aC 0, 160, .inl (fun _ => 0))), (h42, .inl (aC 0, 8, .inl (fun _ => 0))), (h28, .inr (5, [.ref h43, .int 0, .int 0, .ref h44, .int 0])), (h43, .inl (aC 0, 160, .inl (fun _ => 0))), (h44, .inl (aC 0, 8, .inl (fun _ => 0)))] (QI g (fun (r : Int32) (_ : Unit) => r = 1) (fun (_ : Unit) => [])) 0 0 := by
  refine Ct.mk (by decide) (Nat.le_of_ble_eq_true rfl) ?_
  intro p e s m below meth c A ls hx hb hml hown hts hr hlk hnm hK hA hM hM2 hP hD hS hl
  have hown : s.vm.findClass RX10 = some m.cls := hown
  have F : Fx p s m _ c cX10_mark 3 RX10 g aC aM A := ⟨hx, hb, hml, hown, hts, hK, hA, hM, hM2⟩
  have hl : lv_has ls 3 [(0, .ref h1), (1, .int 3), (2, .int 0)] := hl
  refine lv_iload_n hx hb dX10_mark_0 rfl (lv_at hl 1 rfl) ?_
  refine lv_if_lt (tgt := 9) hx hb dX10_mark_1 (by decide) (fun c_ => absurd c_ (by decide +kernel)) (fun _ => ?_)
  refine lv_iload_n hx hb dX10_mark_4 rfl (lv_at hl 1 rfl) ?_
  refine lv_iconst (v := 4) hx hb dX10_mark_5 (by decide) ?_
  refine lv_icmp_lt (tgt := 11) hx hb dX10_mark_6 (by decide) (fun _ => ?_) (fun c_ => absurd (by decide +kernel) c_)
  refine lv_iload_n hx hb dX10_mark_11 rfl (lv_at hl 2 rfl) ?_
  refine lv_if_ne (tgt := 55) hx hb dX10_mark_12 (by decide) (fun c_ => absurd (by decide +kernel) c_) (fun _ => ?_)
  refine lv_aload_n hx hb dX10_mark_15 rfl (lv_at hl 0 rfl) ?_
  refine xget F hP 0 rfl rfl inX10 9 (by decide) tb409 rfl dX10_mark_16 ?_
  refine lv_iload_n hx hb dX10_mark_19 rfl (lv_at hl 1 rfl) ?_
  refine xqlo (v := h24) F hP 7 4 rfl rfl 3 (by decide +kernel) (by decide +kernel) (by decide) rfl dX10_mark_20 ?_
  refine lv_aload_n hx hb dX10_mark_21 rfl (lv_at hl 0 rfl) ?_
  refine xget F hP 0 rfl rfl inX10 5 (by decide) tb405 rfl dX10_mark_22 ?_
  refine goV (wr := [(h1, .inr (10, [x2, x3, x4, x5, x6, .ref h7, x8, .ref h9, x10, .ref h11, .ref h12, .int 0, x13, x14, x15, x16])), (h9, .inr (5, [.ref h19, .int 0, .int 0, .ref h20, .int 0])), (h19, .inl (aC 0, 160, .inl (fun _ => 0))), (h20, .inl (aC 0, 8, .inl (fun _ => 0))), (h11, .inl (aC 4, 4, .inr (.inr (.inr (.inr (va_up (va_up (va_up (va_up (fun _ => none) 0 (some h21)) 1 (some h22)) 2 (some h23)) 3 (some h24))))))), (h12, .inl (aC 5, 4, .inr (.inr (.inr (.inr (va_up (va_up (va_up (va_up (fun _ => none) 0 (some h25)) 1 (some h26)) 2 (some h27)) 3 (some h28))))))), (h21, .inr (6, [.int 0, .ref h29, .ref h30, .int 0, .int 0, .int 0])), (h29, .inl (aC 0, 5, .inl (fun _ => 0))), (h30, .inl (aC 0, 4, .inl (fun _ => 0))), (h22, .inr (6, [.int 0, .ref h31, .ref h32, .int 0, .int 0, .int 0])), (h31, .inl (aC 0, 5, .inl (fun _ => 0))), (h32, .inl (aC 0, 4, .inl (fun _ => 0))), (h23, .inr (6, [.int 0, .ref h33, .ref h34, .int 0, .int 0, .int 0])), (h33, .inl (aC 0, 5, .inl (fun _ => 0))), (h34, .inl (aC 0, 4, .inl (fun _ => 0))), (h25, .inr (5, [.ref h37, .int 0, .int 0, .ref h38, .int 0])), (h37, .inl (aC 0, 160, .inl (fun _ => 0))), (h38, .inl (aC 0, 8, .inl (fun _ => 0))), (h26, .inr (5, [.ref h39, .int 0, .int 0, .ref h40, .int 0])), (h39, .inl (aC 0, 160, .inl (fun _ => 0))), (h40, .inl (aC 0, 8, .inl (fun _ => 0))), (h27, .inr (5, [.ref h41, .int 0, .int 0, .ref h42, .int 0])), (h41, .inl (aC 0, 160, .inl (fun _ => 0))), (h42, .inl (aC 0, 8, .inl (fun _ => 0))), (h28, .inr (5, [.ref h43, .int 0, .int 0, .ref h44, .int 0])), (h43, .inl (aC 0, 160, .inl (fun _ => 0))), (h44, .inl (aC 0, 8, .inl (fun _ => 0)))]) (runV (n := 1) (As := [.ref h7]) (rest := []) F hP hD hS (a_X6_copy_1 l g aC aM h24 h7 h17 h18 h35 h36) [1, 2, 3, 18, 19, 20] (by decide) rfl 18 6 rfl rfl rfl tb837 tb834 tb835 tb836 tb12 ⟨by decide, by decide, by decide +kernel⟩ ⟨Nat.le_of_ble_eq_true rfl, Nat.le_of_ble_eq_true rfl⟩ rfl hl.1 rfl (Nat.le_of_ble_eq_true rfl) dX10_mark_25 ⟨Nat.le_of_ble_eq_true rfl, Nat.le_of_ble_eq_true rfl⟩) hP hD hS hA [1, 2, 3, 18, 19, 20] [0, 4, 5, 6, 7, 8, 9, 10, 11, 12, 13, 14, 15, 16, 17, 21, 22, 23, 24, 25, 26, 27, 28, 29, 30, 31, 32] rfl rfl (by decide) (by decide) (fun w6 H locs hw hP hD hS => ?_)
  have hP : va_P g vwCl [(h1, .inr (10, [x2, x3, x4, x5, x6, .ref h7, x8, .ref h9, x10, .ref h11, .ref h12, .int 0, x13, x14, x15, x16])), (h9, .inr (5, [.ref h19, .int 0, .int 0, .ref h20, .int 0])), (h19, .inl (aC 0, 160, .inl (fun _ => 0))), (h20, .inl (aC 0, 8, .inl (fun _ => 0))), (h11, .inl (aC 4, 4, .inr (.inr (.inr (.inr (va_up (va_up (va_up (va_up (fun _ => none) 0 (some h21)) 1 (some h22)) 2 (some h23)) 3 (some h24))))))), (h12, .inl (aC 5, 4, .inr (.inr (.inr (.inr (va_up (va_up (va_up (va_up (fun _ => none) 0 (some h25)) 1 (some h26)) 2 (some h27)) 3 (some h28))))))), (h21, .inr (6, [.int 0, .ref h29, .ref h30, .int 0, .int 0, .int 0])), (h29, .inl (aC 0, 5, .inl (fun _ => 0))), (h30, .inl (aC 0, 4, .inl (fun _ => 0))), (h22, .inr (6, [.int 0, .ref h31, .ref h32, .int 0, .int 0, .int 0])), (h31, .inl (aC 0, 5, .inl (fun _ => 0))), (h32, .inl (aC 0, 4, .inl (fun _ => 0))), (h23, .inr (6, [.int 0, .ref h33, .ref h34, .int 0, .int 0, .int 0])), (h33, .inl (aC 0, 5, .inl (fun _ => 0))), (h34, .inl (aC 0, 4, .inl (fun _ => 0))), (h25, .inr (5, [.ref h37, .int 0, .int 0, .ref h38, .int 0])), (h37, .inl (aC 0, 160, .inl (fun _ => 0))), (h38, .inl (aC 0, 8, .inl (fun _ => 0))), (h26, .inr (5, [.ref h39, .int 0, .int 0, .ref h40, .int 0])), (h39, .inl (aC 0, 160, .inl (fun _ => 0))), (h40, .inl (aC 0, 8, .inl (fun _ => 0))), (h27, .inr (5, [.ref h41, .int 0, .int 0, .ref h42, .int 0])), (h41, .inl (aC 0, 160, .inl (fun _ => 0))), (h42, .inl (aC 0, 8, .inl (fun _ => 0))), (h28, .inr (5, [.ref h43, .int 0, .int 0, .ref h44, .int 0])), (h43, .inl (aC 0, 160, .inl (fun _ => 0))), (h44, .inl (aC 0, 8, .inl (fun _ => 0))), (h7, .inr (6, [.int 0, .ref h17, .ref h18, .int 0, .int 0, .int 0])), (h17, .inl (aC 0, 5, .inl (fun _ => 0))), (h18, .inl (aC 0, 4, .inl (fun _ => 0))), (h24, .inr (6, [.int 0, .ref h35, .ref h36, .int 0, .int 0, .int 0])), (h35, .inl (aC 0, 5, .inl (fun _ => 0))), (h36, .inl (aC 0, 4, .inl (fun _ => 0)))] H := hP
  have hD : va_D A [(h1, .inr (10, [x2, x3, x4, x5, x6, .ref h7, x8, .ref h9, x10, .ref h11, .ref h12, .int 0, x13, x14, x15, x16])), (h9, .inr (5, [.ref h19, .int 0, .int 0, .ref h20, .int 0])), (h19, .inl (aC 0, 160, .inl (fun _ => 0))), (h20, .inl (aC 0, 8, .inl (fun _ => 0))), (h11, .inl (aC 4, 4, .inr (.inr (.inr (.inr (va_up (va_up (va_up (va_up (fun _ => none) 0 (some h21)) 1 (some h22)) 2 (some h23)) 3 (some h24))))))), (h12, .inl (aC 5, 4, .inr (.inr (.inr (.inr (va_up (va_up (va_up (va_up (fun _ => none) 0 (some h25)) 1 (some h26)) 2 (some h27)) 3 (some h28))))))), (h21, .inr (6, [.int 0, .ref h29, .ref h30, .int 0, .int 0, .int 0])), (h29, .inl (aC 0, 5, .inl (fun _ => 0))), (h30, .inl (aC 0, 4, .inl (fun _ => 0))), (h22, .inr (6, [.int 0, .ref h31, .ref h32, .int 0, .int 0, .int 0])), (h31, .inl (aC 0, 5, .inl (fun _ => 0))), (h32, .inl (aC 0, 4, .inl (fun _ => 0))), (h23, .inr (6, [.int 0, .ref h33, .ref h34, .int 0, .int 0, .int 0])), (h33, .inl (aC 0, 5, .inl (fun _ => 0))), (h34, .inl (aC 0, 4, .inl (fun _ => 0))), (h25, .inr (5, [.ref h37, .int 0, .int 0, .ref h38, .int 0])), (h37, .inl (aC 0, 160, .inl (fun _ => 0))), (h38, .inl (aC 0, 8, .inl (fun _ => 0))), (h26, .inr (5, [.ref h39, .int 0, .int 0, .ref h40, .int 0])), (h39, .inl (aC 0, 160, .inl (fun _ => 0))), (h40, .inl (aC 0, 8, .inl (fun _ => 0))), (h27, .inr (5, [.ref h41, .int 0, .int 0, .ref h42, .int 0])), (h41, .inl (aC 0, 160, .inl (fun _ => 0))), (h42, .inl (aC 0, 8, .inl (fun _ => 0))), (h28, .inr (5, [.ref h43, .int 0, .int 0, .ref h44, .int 0])), (h43, .inl (aC 0, 160, .inl (fun _ => 0))), (h44, .inl (aC 0, 8, .inl (fun _ => 0))), (h7, .inr (6, [.int 0, .ref h17, .ref h18, .int 0, .int 0, .int 0])), (h17, .inl (aC 0, 5, .inl (fun _ => 0))), (h18, .inl (aC 0, 4, .inl (fun _ => 0))), (h24, .inr (6, [.int 0, .ref h35, .ref h36, .int 0, .int 0, .int 0])), (h35, .inl (aC 0, 5, .inl (fun _ => 0))), (h36, .inl (aC 0, 4, .inl (fun _ => 0)))] := hD
  refine lv_aload_n hx hb dX10_mark_28 rfl (lv_at hl 0 rfl) ?_
  refine xget F hP 0 rfl rfl inX10 10 (by decide) tb410 rfl dX10_mark_29 ?_
  refine lv_iload_n hx hb dX10_mark_32 rfl (lv_at hl 1 rfl) ?_
  refine xqlo (v := h28) F hP 5 5 rfl rfl 3 (by decide +kernel) (by decide +kernel) (by decide) rfl dX10_mark_33 ?_
  refine lv_aload_n hx hb dX10_mark_34 rfl (lv_at hl 0 rfl) ?_
  refine xget F hP 0 rfl rfl inX10 7 (by decide) tb407 rfl dX10_mark_35 ?_
  refine goV (wr := [(h1, .inr (10, [x2, x3, x4, x5, x6, .ref h7, x8, .ref h9, x10, .ref h11, .ref h12, .int 0, x13, x14, x15, x16])), (h11, .inl (aC 4, 4, .inr (.inr (.inr (.inr (va_up (va_up (va_up (va_up (fun _ => none) 0 (some h21)) 1 (some h22)) 2 (some h23)) 3 (some h24))))))), (h12, .inl (aC 5, 4, .inr (.inr (.inr (.inr (va_up (va_up (va_up (va_up (fun _ => none) 0 (some h25)) 1 (some h26)) 2 (some h27)) 3 (some h28))))))), (h21, .inr (6, [.int 0, .ref h29, .ref h30, .int 0, .int 0, .int 0])), (h29, .inl (aC 0, 5, .inl (fun _ => 0))), (h30, .inl (aC 0, 4, .inl (fun _ => 0))), (h22, .inr (6, [.int 0, .ref h31, .ref h32, .int 0, .int 0, .int 0])), (h31, .inl (aC 0, 5, .inl (fun _ => 0))), (h32, .inl (aC 0, 4, .inl (fun _ => 0))), (h23, .inr (6, [.int 0, .ref h33, .ref h34, .int 0, .int 0, .int 0])), (h33, .inl (aC 0, 5, .inl (fun _ => 0))), (h34, .inl (aC 0, 4, .inl (fun _ => 0))), (h25, .inr (5, [.ref h37, .int 0, .int 0, .ref h38, .int 0])), (h37, .inl (aC 0, 160, .inl (fun _ => 0))), (h38, .inl (aC 0, 8, .inl (fun _ => 0))), (h26, .inr (5, [.ref h39, .int 0, .int 0, .ref h40, .int 0])), (h39, .inl (aC 0, 160, .inl (fun _ => 0))), (h40, .inl (aC 0, 8, .inl (fun _ => 0))), (h27, .inr (5, [.ref h41, .int 0, .int 0, .ref h42, .int 0])), (h41, .inl (aC 0, 160, .inl (fun _ => 0))), (h42, .inl (aC 0, 8, .inl (fun _ => 0))), (h7, .inr (6, [.int 0, .ref h17, .ref h18, .int 0, .int 0, .int 0])), (h17, .inl (aC 0, 5, .inl (fun _ => 0))), (h18, .inl (aC 0, 4, .inl (fun _ => 0))), (h24, .inr (6, [.int 0, .ref h35, .ref h36, .int 0, .int 0, .int 0])), (h35, .inl (aC 0, 5, .inl (fun _ => 0))), (h36, .inl (aC 0, 4, .inl (fun _ => 0)))]) (runV (n := 1) (As := [.ref h9]) (rest := []) F hP hD hS (a_X5_copy_1 l g aC aM h28 h9 h19 h20 h43 h44) [1, 2, 3, 24, 25, 26] (by decide) rfl 24 5 rfl rfl rfl tb1083 tb1080 tb1081 tb1082 tb13 ⟨by decide, by decide, by decide +kernel⟩ ⟨Nat.le_of_ble_eq_true rfl, Nat.le_of_ble_eq_true rfl⟩ rfl hl.1 rfl (Nat.le_of_ble_eq_true rfl) dX10_mark_38 ⟨Nat.le_of_ble_eq_true rfl, Nat.le_of_ble_eq_true rfl⟩) hP hD hS hA [1, 2, 3, 24, 25, 26] [0, 4, 5, 6, 7, 8, 9, 10, 11, 12, 13, 14, 15, 16, 17, 18, 19, 20, 21, 22, 23, 27, 28, 29, 30, 31, 32] rfl rfl (by decide) (by decide) (fun w9 H locs hw hP hD hS => ?_)
  have hP : va_P g vwCl [(h1, .inr (10, [x2, x3, x4, x5, x6, .ref h7, x8, .ref h9, x10, .ref h11, .ref h12, .int 0, x13, x14, x15, x16])), (h11, .inl (aC 4, 4, .inr (.inr (.inr (.inr (va_up (va_up (va_up (va_up (fun _ => none) 0 (some h21)) 1 (some h22)) 2 (some h23)) 3 (some h24))))))), (h12, .inl (aC 5, 4, .inr (.inr (.inr (.inr (va_up (va_up (va_up (va_up (fun _ => none) 0 (some h25)) 1 (some h26)) 2 (some h27)) 3 (some h28))))))), (h21, .inr (6, [.int 0, .ref h29, .ref h30, .int 0, .int 0, .int 0])), (h29, .inl (aC 0, 5, .inl (fun _ => 0))), (h30, .inl (aC 0, 4, .inl (fun _ => 0))), (h22, .inr (6, [.int 0, .ref h31, .ref h32, .int 0, .int 0, .int 0])), (h31, .inl (aC 0, 5, .inl (fun _ => 0))), (h32, .inl (aC 0, 4, .inl (fun _ => 0))), (h23, .inr (6, [.int 0, .ref h33, .ref h34, .int 0, .int 0, .int 0])), (h33, .inl (aC 0, 5, .inl (fun _ => 0))), (h34, .inl (aC 0, 4, .inl (fun _ => 0))), (h25, .inr (5, [.ref h37, .int 0, .int 0, .ref h38, .int 0])), (h37, .inl (aC 0, 160, .inl (fun _ => 0))), (h38, .inl (aC 0, 8, .inl (fun _ => 0))), (h26, .inr (5, [.ref h39, .int 0, .int 0, .ref h40, .int 0])), (h39, .inl (aC 0, 160, .inl (fun _ => 0))), (h40, .inl (aC 0, 8, .inl (fun _ => 0))), (h27, .inr (5, [.ref h41, .int 0, .int 0, .ref h42, .int 0])), (h41, .inl (aC 0, 160, .inl (fun _ => 0))), (h42, .inl (aC 0, 8, .inl (fun _ => 0))), (h7, .inr (6, [.int 0, .ref h17, .ref h18, .int 0, .int 0, .int 0])), (h17, .inl (aC 0, 5, .inl (fun _ => 0))), (h18, .inl (aC 0, 4, .inl (fun _ => 0))), (h24, .inr (6, [.int 0, .ref h35, .ref h36, .int 0, .int 0, .int 0])), (h35, .inl (aC 0, 5, .inl (fun _ => 0))), (h36, .inl (aC 0, 4, .inl (fun _ => 0))), (h9, .inr (5, [.ref h19, .int 0, .int 0, .ref h20, .int 0])), (h20, .inl (aC 0, 8, .inl (fun _ => 0))), (h44, .inl (aC 0, 8, .inl (fun _ => 0))), (h19, .inl (aC 0, 160, .inl (fun _ => 0))), (h28, .inr (5, [.ref h43, .int 0, .int 0, .ref h44, .int 0])), (h43, .inl (aC 0, 160, .inl (fun _ => 0)))] H := hP
  have hD : va_D A [(h1, .inr (10, [x2, x3, x4, x5, x6, .ref h7, x8, .ref h9, x10, .ref h11, .ref h12, .int 0, x13, x14, x15, x16])), (h11, .inl (aC 4, 4, .inr (.inr (.inr (.inr (va_up (va_up (va_up (va_up (fun _ => none) 0 (some h21)) 1 (some h22)) 2 (some h23)) 3 (some h24))))))), (h12, .inl (aC 5, 4, .inr (.inr (.inr (.inr (va_up (va_up (va_up (va_up (fun _ => none) 0 (some h25)) 1 (some h26)) 2 (some h27)) 3 (some h28))))))), (h21, .inr (6, [.int 0, .ref h29, .ref h30, .int 0, .int 0, .int 0])), (h29, .inl (aC 0, 5, .inl (fun _ => 0))), (h30, .inl (aC 0, 4, .inl (fun _ => 0))), (h22, .inr (6, [.int 0, .ref h31, .ref h32, .int 0, .int 0, .int 0])), (h31, .inl (aC 0, 5, .inl (fun _ => 0))), (h32, .inl (aC 0, 4, .inl (fun _ => 0))), (h23, .inr (6, [.int 0, .ref h33, .ref h34, .int 0, .int 0, .int 0])), (h33, .inl (aC 0, 5, .inl (fun _ => 0))), (h34, .inl (aC 0, 4, .inl (fun _ => 0))), (h25, .inr (5, [.ref h37, .int 0, .int 0, .ref h38, .int 0])), (h37, .inl (aC 0, 160, .inl (fun _ => 0))), (h38, .inl (aC 0, 8, .inl (fun _ => 0))), (h26, .inr (5, [.ref h39, .int 0, .int 0, .ref h40, .int 0])), (h39, .inl (aC 0, 160, .inl (fun _ => 0))), (h40, .inl (aC 0, 8, .inl (fun _ => 0))), (h27, .inr (5, [.ref h41, .int 0, .int 0, .ref h42, .int 0])), (h41, .inl (aC 0, 160, .inl (fun _ => 0))), (h42, .inl (aC 0, 8, .inl (fun _ => 0))), (h7, .inr (6, [.int 0, .ref h17, .ref h18, .int 0, .int 0, .int 0])), (h17, .inl (aC 0, 5, .inl (fun _ => 0))), (h18, .inl (aC 0, 4, .inl (fun _ => 0))), (h24, .inr (6, [.int 0, .ref h35, .ref h36, .int 0, .int 0, .int 0])), (h35, .inl (aC 0, 5, .inl (fun _ => 0))), (h36, .inl (aC 0, 4, .inl (fun _ => 0))), (h9, .inr (5, [.ref h19, .int 0, .int 0, .ref h20, .int 0])), (h20, .inl (aC 0, 8, .inl (fun _ => 0))), (h44, .inl (aC 0, 8, .inl (fun _ => 0))), (h19, .inl (aC 0, 160, .inl (fun _ => 0))), (h28, .inr (5, [.ref h43, .int 0, .int 0, .ref h44, .int 0])), (h43, .inl (aC 0, 160, .inl (fun _ => 0)))] := hD
  refine lv_aload_n hx hb dX10_mark_41 rfl (lv_at hl 0 rfl) ?_
  refine lv_dup hx hb dX10_mark_42 rfl ?_
  refine xget F hP 0 rfl rfl inX10 11 (by decide) tb411 rfl dX10_mark_43 ?_
  refine lv_iconst (v := 1) hx hb dX10_mark_46 (by decide) ?_
  refine lv_iload_n hx hb dX10_mark_47 rfl (lv_at hl 1 rfl) ?_
  refine lv_ishl hx hb dX10_mark_48 ?_
  refine relit (v := 8) (by decide +kernel) ?_
  refine lv_ior hx hb dX10_mark_49 ?_
  refine relit (v := 8) (by decide +kernel) ?_
  refine xput F hP hD hS 0 rfl rfl inX10 tyX10_ok nmX10 11 (by decide) tb411 rfl rfl rfl (Nat.le_of_ble_eq_true rfl) dX10_mark_50 (fun H locs hP hD hS => ?_)
  have hP : va_P g vwCl [(h1, .inr (10, [x2, x3, x4, x5, x6, .ref h7, x8, .ref h9, x10, .ref h11, .ref h12, .int 8, x13, x14, x15, x16])), (h11, .inl (aC 4, 4, .inr (.inr (.inr (.inr (va_up (va_up (va_up (va_up (fun _ => none) 0 (some h21)) 1 (some h22)) 2 (some h23)) 3 (some h24))))))), (h12, .inl (aC 5, 4, .inr (.inr (.inr (.inr (va_up (va_up (va_up (va_up (fun _ => none) 0 (some h25)) 1 (some h26)) 2 (some h27)) 3 (some h28))))))), (h21, .inr (6, [.int 0, .ref h29, .ref h30, .int 0, .int 0, .int 0])), (h29, .inl (aC 0, 5, .inl (fun _ => 0))), (h30, .inl (aC 0, 4, .inl (fun _ => 0))), (h22, .inr (6, [.int 0, .ref h31, .ref h32, .int 0, .int 0, .int 0])), (h31, .inl (aC 0, 5, .inl (fun _ => 0))), (h32, .inl (aC 0, 4, .inl (fun _ => 0))), (h23, .inr (6, [.int 0, .ref h33, .ref h34, .int 0, .int 0, .int 0])), (h33, .inl (aC 0, 5, .inl (fun _ => 0))), (h34, .inl (aC 0, 4, .inl (fun _ => 0))), (h25, .inr (5, [.ref h37, .int 0, .int 0, .ref h38, .int 0])), (h37, .inl (aC 0, 160, .inl (fun _ => 0))), (h38, .inl (aC 0, 8, .inl (fun _ => 0))), (h26, .inr (5, [.ref h39, .int 0, .int 0, .ref h40, .int 0])), (h39, .inl (aC 0, 160, .inl (fun _ => 0))), (h40, .inl (aC 0, 8, .inl (fun _ => 0))), (h27, .inr (5, [.ref h41, .int 0, .int 0, .ref h42, .int 0])), (h41, .inl (aC 0, 160, .inl (fun _ => 0))), (h42, .inl (aC 0, 8, .inl (fun _ => 0))), (h7, .inr (6, [.int 0, .ref h17, .ref h18, .int 0, .int 0, .int 0])), (h17, .inl (aC 0, 5, .inl (fun _ => 0))), (h18, .inl (aC 0, 4, .inl (fun _ => 0))), (h24, .inr (6, [.int 0, .ref h35, .ref h36, .int 0, .int 0, .int 0])), (h35, .inl (aC 0, 5, .inl (fun _ => 0))), (h36, .inl (aC 0, 4, .inl (fun _ => 0))), (h9, .inr (5, [.ref h19, .int 0, .int 0, .ref h20, .int 0])), (h20, .inl (aC 0, 8, .inl (fun _ => 0))), (h44, .inl (aC 0, 8, .inl (fun _ => 0))), (h19, .inl (aC 0, 160, .inl (fun _ => 0))), (h28, .inr (5, [.ref h43, .int 0, .int 0, .ref h44, .int 0])), (h43, .inl (aC 0, 160, .inl (fun _ => 0)))] H := hP
  have hD : va_D A [(h1, .inr (10, [x2, x3, x4, x5, x6, .ref h7, x8, .ref h9, x10, .ref h11, .ref h12, .int 8, x13, x14, x15, x16])), (h11, .inl (aC 4, 4, .inr (.inr (.inr (.inr (va_up (va_up (va_up (va_up (fun _ => none) 0 (some h21)) 1 (some h22)) 2 (some h23)) 3 (some h24))))))), (h12, .inl (aC 5, 4, .inr (.inr (.inr (.inr (va_up (va_up (va_up (va_up (fun _ => none) 0 (some h25)) 1 (some h26)) 2 (some h27)) 3 (some h28))))))), (h21, .inr (6, [.int 0, .ref h29, .ref h30, .int 0, .int 0, .int 0])), (h29, .inl (aC 0, 5, .inl (fun _ => 0))), (h30, .inl (aC 0, 4, .inl (fun _ => 0))), (h22, .inr (6, [.int 0, .ref h31, .ref h32, .int 0, .int 0, .int 0])), (h31, .inl (aC 0, 5, .inl (fun _ => 0))), (h32, .inl (aC 0, 4, .inl (fun _ => 0))), (h23, .inr (6, [.int 0, .ref h33, .ref h34, .int 0, .int 0, .int 0])), (h33, .inl (aC 0, 5, .inl (fun _ => 0))), (h34, .inl (aC 0, 4, .inl (fun _ => 0))), (h25, .inr (5, [.ref h37, .int 0, .int 0, .ref h38, .int 0])), (h37, .inl (aC 0, 160, .inl (fun _ => 0))), (h38, .inl (aC 0, 8, .inl (fun _ => 0))), (h26, .inr (5, [.ref h39, .int 0, .int 0, .ref h40, .int 0])), (h39, .inl (aC 0, 160, .inl (fun _ => 0))), (h40, .inl (aC 0, 8, .inl (fun _ => 0))), (h27, .inr (5, [.ref h41, .int 0, .int 0, .ref h42, .int 0])), (h41, .inl (aC 0, 160, .inl (fun _ => 0))), (h42, .inl (aC 0, 8, .inl (fun _ => 0))), (h7, .inr (6, [.int 0, .ref h17, .ref h18, .int 0, .int 0, .int 0])), (h17, .inl (aC 0, 5, .inl (fun _ => 0))), (h18, .inl (aC 0, 4, .inl (fun _ => 0))), (h24, .inr (6, [.int 0, .ref h35, .ref h36, .int 0, .int 0, .int 0])), (h35, .inl (aC 0, 5, .inl (fun _ => 0))), (h36, .inl (aC 0, 4, .inl (fun _ => 0))), (h9, .inr (5, [.ref h19, .int 0, .int 0, .ref h20, .int 0])), (h20, .inl (aC 0, 8, .inl (fun _ => 0))), (h44, .inl (aC 0, 8, .inl (fun _ => 0))), (h19, .inl (aC 0, 160, .inl (fun _ => 0))), (h28, .inr (5, [.ref h43, .int 0, .int 0, .ref h44, .int 0])), (h43, .inl (aC 0, 160, .inl (fun _ => 0)))] := hD
  refine lv_iconst (v := 1) hx hb dX10_mark_53 (by decide) ?_
  have hP9 := hP.sub (ws' := []) [] rfl
  have hD9 := hD.sub (ws' := []) [] (by decide) rfl
  exact rI () hx hb hr hlk rfl hS rfl hP9 hD9 (Nat.le_of_ble_eq_true rfl) (Nat.le_of_ble_eq_true rfl) dX10_mark_54

set_option maxHeartbeats 4000000 in
set_option maxRecDepth 100000 in
theorem x_mark_lo1 (l : Launch) (g : va_G) (aC : Nat → ClassId) (aM : Nat → Nat) (h1 h7 h9 h11 h12 h17 h18 h19 h20 h21 h22 h23 h24 h25 h26 h27 h28 h29 h30 h31 h32 h33 h34 h35 h36 h37 h38 h39 h40 h41 h42 h43 h44 : Nat) (x2 x3 x4 x5 x6 x8 x10 x13 x14 x15 x16 : Value) (n_1 : Int32) (hh1 : n_1 ≤ (-1)) : Ct l g aC aM yX10_mark cX10_mark 3 (some .boolean) 3 [.ref h1, .int n_1, .int 1] [(h1, .inr (10, [x2, x3, x4, x5, x6, .ref h7, x8, .ref h9, x10, .ref h11, .ref h12, .int 0, x13, x14, x15, x16])), (h7, .inr (6, [.int 0, .ref h17, .ref h18, .int 0, .int 0, .int 0])), (h17, .inl (aC 0, 5, .inl (fun _ => 0))), (h18, .inl (aC 0, 4, .inl (fun _ => 0))), (h9, .inr (5, [.ref h19, .int 0, .int 0, .ref h20, .int 0])), (h19, .inl (aC 0, 160, .inl (fun _ => 0))), (h20, .inl (aC 0, 8, .inl (fun _ => 0))), (h11, .inl (aC 4, 4, .inr (.inr (.inr (.inr (va_up (va_up (va_up (va_up (fun _ => none) 0 (some h21)) 1 (some h22)) 2 (some h23)) 3 (some h24))))))), (h12, .inl (aC 5, 4, .inr (.inr (.inr (.inr (va_up (va_up (va_up (va_up (fun _ => none) 0 (some h25)) 1 (some h26)) 2 (some h27)) 3 (some h28))))))), (h21, .inr (6, [.int 0, .ref h29, .ref h30, .int 0, .int 0, .int 0])), (h29, .inl (aC 0, 5, .inl (fun _ => 0))), (h30, .inl (aC 0, 4, .inl (fun _ => 0))), (h22, .inr (6, [.int 0, .ref h31, .ref h32, .int 0, .int 0, .int 0])), (h31, .inl (aC 0, 5, .inl (fun _ => 0))), (h32, .inl (aC 0, 4, .inl (fun _ => 0))), (h23, .inr (6, [.int 0, .ref h33, .ref h34, .int 0, .int 0, .int 0])), (h33, .inl (aC 0, 5, .inl (fun _ => 0))), (h34, .inl (aC 0, 4, .inl (fun _ => 0))), (h24, .inr (6, [.int 0, .ref h35, .ref h36, .int 0, .int 0, .int 0])), (h35, .inl (aC 0, 5, .inl (fun _ => 0))), (h36, .inl (aC 0, 4, .inl (fun _ => 0))), (h25, .inr (5, [.ref h37, .int 0, .int 0, .ref h38, .int 0])), (h37, .inl (aC 0, 160, .inl (fun _ => 0))), (h38, .inl (aC 0, 8, .inl (fun _ => 0))), (h26, .inr (5, [.ref h39, .int 0, .int 0, .ref h40, .int 0])), (h39, .inl (aC 0, 160, .inl (fun _ => 0))), (h40, .inl (aC 0, 8, .inl (fun _ => 0))), (h27, .inr (5, [.ref h41, .int 0, .int 0, .ref h42, .int 0])), (h41, .inl (aC 0, 160, .inl (fun _ => 0))), (h42, .inl (aC 0, 8, .inl (fun _ => 0))), (h28, .inr (5, [.ref h43, .int 0, .int 0, .ref h44, .int 0])), (h43, .inl (aC 0, 160, .inl (fun _ => 0))), (h44, .inl (aC 0, 8, .inl (fun _ => 0)))] (QI g (fun (r : Int32) (_ : Unit) => r = 0) (fun (_ : Unit) => [])) 0 0 := by
  refine Ct.mk (by decide) (Nat.le_of_ble_eq_true rfl) ?_
  intro p e s m below meth c A ls hx hb hml hown hts hr hlk hnm hK hA hM hM2 hP hD hS hl
  have hown : s.vm.findClass RX10 = some m.cls := hown
  have F : Fx p s m _ c cX10_mark 3 RX10 g aC aM A := ⟨hx, hb, hml, hown, hts, hK, hA, hM, hM2⟩
  have hl : lv_has ls 3 [(0, .ref h1), (1, .int n_1), (2, .int 1)] := hl
  refine lv_iload_n hx hb dX10_mark_0 rfl (lv_at hl 1 rfl) ?_
  refine lv_if_lt (tgt := 9) hx hb dX10_mark_1 (by decide) (fun c1 => ?_) (fun c1 => ?_)
  · refine lv_iconst (v := 0) hx hb dX10_mark_9 (by decide) ?_
    have hP9 := hP.sub (ws' := []) [] rfl
    have hD9 := hD.sub (ws' := []) [] (by decide) rfl
    exact rI () hx hb hr hlk rfl hS rfl hP9 hD9 (Nat.le_of_ble_eq_true rfl) (Nat.le_of_ble_eq_true rfl) dX10_mark_10
  · exfalso
    simp only [Int32.lt_iff_toInt_lt, Int32.le_iff_toInt_le, ← Int32.toInt_inj, show (-1 : Int32).toInt = -1 by decide, show (0 : Int32).toInt = 0 by decide] at hh1 c1; omega

set_option maxHeartbeats 4000000 in
set_option maxRecDepth 100000 in
theorem x_mark_hi1 (l : Launch) (g : va_G) (aC : Nat → ClassId) (aM : Nat → Nat) (h1 h7 h9 h11 h12 h17 h18 h19 h20 h21 h22 h23 h24 h25 h26 h27 h28 h29 h30 h31 h32 h33 h34 h35 h36 h37 h38 h39 h40 h41 h42 h43 h44 : Nat) (x2 x3 x4 x5 x6 x8 x10 x13 x14 x15 x16 : Value) (n_1 : Int32) (hl1 : 4 ≤ n_1) : Ct l g aC aM yX10_mark cX10_mark 3 (some .boolean) 3 [.ref h1, .int n_1, .int 1] [(h1, .inr (10, [x2, x3, x4, x5, x6, .ref h7, x8, .ref h9, x10, .ref h11, .ref h12, .int 0, x13, x14, x15, x16])), (h7, .inr (6, [.int 0, .ref h17, .ref h18, .int 0, .int 0, .int 0])), (h17, .inl (aC 0, 5, .inl (fun _ => 0))), (h18, .inl (aC 0, 4, .inl (fun _ => 0))), (h9, .inr (5, [.ref h19, .int 0, .int 0, .ref h20, .int 0])), (h19, .inl (aC 0, 160, .inl (fun _ => 0))), (h20, .inl (aC 0, 8, .inl (fun _ => 0))), (h11, .inl (aC 4, 4, .inr (.inr (.inr (.inr (va_up (va_up (va_up (va_up (fun _ => none) 0 (some h21)) 1 (some h22)) 2 (some h23)) 3 (some h24))))))), (h12, .inl (aC 5, 4, .inr (.inr (.inr (.inr (va_up (va_up (va_up (va_up (fun _ => none) 0 (some h25)) 1 (some h26)) 2 (some h27)) 3 (some h28))))))), (h21, .inr (6, [.int 0, .ref h29, .ref h30, .int 0, .int 0, .int 0])), (h29, .inl (aC 0, 5, .inl (fun _ => 0))), (h30, .inl (aC 0, 4, .inl (fun _ => 0))), (h22, .inr (6, [.int 0, .ref h31, .ref h32, .int 0, .int 0, .int 0])), (h31, .inl (aC 0, 5, .inl (fun _ => 0))), (h32, .inl (aC 0, 4, .inl (fun _ => 0))), (h23, .inr (6, [.int 0, .ref h33, .ref h34, .int 0, .int 0, .int 0])), (h33, .inl (aC 0, 5, .inl (fun _ => 0))), (h34, .inl (aC 0, 4, .inl (fun _ => 0))), (h24, .inr (6, [.int 0, .ref h35, .ref h36, .int 0, .int 0, .int 0])), (h35, .inl (aC 0, 5, .inl (fun _ => 0))), (h36, .inl (aC 0, 4, .inl (fun _ => 0))), (h25, .inr (5, [.ref h37, .int 0, .int 0, .ref h38, .int 0])), (h37, .inl (aC 0, 160, .inl (fun _ => 0))), (h38, .inl (aC 0, 8, .inl (fun _ => 0))), (h26, .inr (5, [.ref h39, .int 0, .int 0, .ref h40, .int 0])), (h39, .inl (aC 0, 160, .inl (fun _ => 0))), (h40, .inl (aC 0, 8, .inl (fun _ => 0))), (h27, .inr (5, [.ref h41, .int 0, .int 0, .ref h42, .int 0])), (h41, .inl (aC 0, 160, .inl (fun _ => 0))), (h42, .inl (aC 0, 8, .inl (fun _ => 0))), (h28, .inr (5, [.ref h43, .int 0, .int 0, .ref h44, .int 0])), (h43, .inl (aC 0, 160, .inl (fun _ => 0))), (h44, .inl (aC 0, 8, .inl (fun _ => 0)))] (QI g (fun (r : Int32) (_ : Unit) => r = 0) (fun (_ : Unit) => [])) 0 0 := by
  refine Ct.mk (by decide) (Nat.le_of_ble_eq_true rfl) ?_
  intro p e s m below meth c A ls hx hb hml hown hts hr hlk hnm hK hA hM hM2 hP hD hS hl
  have hown : s.vm.findClass RX10 = some m.cls := hown
  have F : Fx p s m _ c cX10_mark 3 RX10 g aC aM A := ⟨hx, hb, hml, hown, hts, hK, hA, hM, hM2⟩
  have hl : lv_has ls 3 [(0, .ref h1), (1, .int n_1), (2, .int 1)] := hl
  refine lv_iload_n hx hb dX10_mark_0 rfl (lv_at hl 1 rfl) ?_
  refine lv_if_lt (tgt := 9) hx hb dX10_mark_1 (by decide) (fun c1 => ?_) (fun c1 => ?_)
  · exfalso
    simp only [Int32.lt_iff_toInt_lt, Int32.le_iff_toInt_le, ← Int32.toInt_inj, show (0 : Int32).toInt = 0 by decide, show (4 : Int32).toInt = 4 by decide] at hl1 c1; omega
  · refine lv_iload_n hx hb dX10_mark_4 rfl (lv_at hl 1 rfl) ?_
    refine lv_iconst (v := 4) hx hb dX10_mark_5 (by decide) ?_
    refine lv_icmp_lt (tgt := 11) hx hb dX10_mark_6 (by decide) (fun c2 => ?_) (fun c2 => ?_)
    · exfalso
      simp only [Int32.lt_iff_toInt_lt, Int32.le_iff_toInt_le, ← Int32.toInt_inj, show (0 : Int32).toInt = 0 by decide, show (4 : Int32).toInt = 4 by decide] at hl1 c1 c2; omega
    · refine lv_iconst (v := 0) hx hb dX10_mark_9 (by decide) ?_
      have hP9 := hP.sub (ws' := []) [] rfl
      have hD9 := hD.sub (ws' := []) [] (by decide) rfl
      exact rI () hx hb hr hlk rfl hS rfl hP9 hD9 (Nat.le_of_ble_eq_true rfl) (Nat.le_of_ble_eq_true rfl) dX10_mark_10

set_option maxHeartbeats 4000000 in
set_option maxRecDepth 100000 in
theorem x_mark_01 (l : Launch) (g : va_G) (aC : Nat → ClassId) (aM : Nat → Nat) (h1 h7 h9 h11 h12 h17 h18 h19 h20 h21 h22 h23 h24 h25 h26 h27 h28 h29 h30 h31 h32 h33 h34 h35 h36 h37 h38 h39 h40 h41 h42 h43 h44 : Nat) (x2 x3 x4 x5 x6 x8 x10 x13 x14 x15 x16 : Value) : Ct l g aC aM yX10_mark cX10_mark 3 (some .boolean) 3 [.ref h1, .int 0, .int 1] [(h1, .inr (10, [x2, x3, x4, x5, x6, .ref h7, x8, .ref h9, x10, .ref h11, .ref h12, .int 0, x13, x14, x15, x16])), (h7, .inr (6, [.int 0, .ref h17, .ref h18, .int 0, .int 0, .int 0])), (h17, .inl (aC 0, 5, .inl (fun _ => 0))), (h18, .inl (aC 0, 4, .inl (fun _ => 0))), (h9, .inr (5, [.ref h19, .int 0, .int 0, .ref h20, .int 0])), (h19, .inl (aC 0, 160, .inl (fun _ => 0))), (h20, .inl (aC 0, 8, .inl (fun _ => 0))), (h11, .inl (aC 4, 4, .inr (.inr (.inr (.inr (va_up (va_up (va_up (va_up (fun _ => none) 0 (some h21)) 1 (some h22)) 2 (some h23)) 3 (some h24))))))), (h12, .inl (aC 5, 4, .inr (.inr (.inr (.inr (va_up (va_up (va_up (va_up (fun _ => none) 0 (some h25)) 1 (some h26)) 2 (some h27)) 3 (some h28))))))), (h21, .inr (6, [.int 0, .ref h29, .ref h30, .int 0, .int 0, .int 0])), (h29, .inl (aC 0, 5, .inl (fun _ => 0))), (h30, .inl (aC 0, 4, .inl (fun _ => 0))), (h22, .inr (6, [.int 0, .ref h31, .ref h32, .int 0, .int 0, .int 0])), (h31, .inl (aC 0, 5, .inl (fun _ => 0))), (h32, .inl (aC 0, 4, .inl (fun _ => 0))), (h23, .inr (6, [.int 0, .ref h33, .ref h34, .int 0, .int 0, .int 0])), (h33, .inl (aC 0, 5, .inl (fun _ => 0))), (h34, .inl (aC 0, 4, .inl (fun _ => 0))), (h24, .inr (6, [.int 0, .ref h35, .ref h36, .int 0, .int 0, .int 0])), (h35, .inl (aC 0, 5, .inl (fun _ => 0))), (h36, .inl (aC 0, 4, .inl (fun _ => 0))), (h25, .inr (5, [.ref h37, .int 0, .int 0, .ref h38, .int 0])), (h37, .inl (aC 0, 160, .inl (fun _ => 0))), (h38, .inl (aC 0, 8, .inl (fun _ => 0))), (h26, .inr (5, [.ref h39, .int 0, .int 0, .ref h40, .int 0])), (h39, .inl (aC 0, 160, .inl (fun _ => 0))), (h40, .inl (aC 0, 8, .inl (fun _ => 0))), (h27, .inr (5, [.ref h41, .int 0, .int 0, .ref h42, .int 0])), (h41, .inl (aC 0, 160, .inl (fun _ => 0))), (h42, .inl (aC 0, 8, .inl (fun _ => 0))), (h28, .inr (5, [.ref h43, .int 0, .int 0, .ref h44, .int 0])), (h43, .inl (aC 0, 160, .inl (fun _ => 0))), (h44, .inl (aC 0, 8, .inl (fun _ => 0)))] (QI g (fun (r : Int32) (_ : Unit) => r = 0) (fun (_ : Unit) => [])) 0 0 := by
  refine Ct.mk (by decide) (Nat.le_of_ble_eq_true rfl) ?_
  intro p e s m below meth c A ls hx hb hml hown hts hr hlk hnm hK hA hM hM2 hP hD hS hl
  have hown : s.vm.findClass RX10 = some m.cls := hown
  have F : Fx p s m _ c cX10_mark 3 RX10 g aC aM A := ⟨hx, hb, hml, hown, hts, hK, hA, hM, hM2⟩
  have hl : lv_has ls 3 [(0, .ref h1), (1, .int 0), (2, .int 1)] := hl
  refine lv_iload_n hx hb dX10_mark_0 rfl (lv_at hl 1 rfl) ?_
  refine lv_if_lt (tgt := 9) hx hb dX10_mark_1 (by decide) (fun c_ => absurd c_ (by decide +kernel)) (fun _ => ?_)
  refine lv_iload_n hx hb dX10_mark_4 rfl (lv_at hl 1 rfl) ?_
  refine lv_iconst (v := 4) hx hb dX10_mark_5 (by decide) ?_
  refine lv_icmp_lt (tgt := 11) hx hb dX10_mark_6 (by decide) (fun _ => ?_) (fun c_ => absurd (by decide +kernel) c_)
  refine lv_iload_n hx hb dX10_mark_11 rfl (lv_at hl 2 rfl) ?_
  refine lv_if_ne (tgt := 55) hx hb dX10_mark_12 (by decide) (fun _ => ?_) (fun c_ => absurd c_ (by decide +kernel))
  refine lv_aload_n hx hb dX10_mark_55 rfl (lv_at hl 0 rfl) ?_
  refine xget F hP 0 rfl rfl inX10 11 (by decide) tb411 rfl dX10_mark_56 ?_
  refine lv_iload_n hx hb dX10_mark_59 rfl (lv_at hl 1 rfl) ?_
  refine lv_ishr hx hb dX10_mark_60 ?_
  refine relit (v := 0) (by decide +kernel) ?_
  refine lv_iconst (v := 1) hx hb dX10_mark_61 (by decide) ?_
  refine lv_iand hx hb dX10_mark_62 ?_
  refine relit (v := 0) (by decide +kernel) ?_
  refine lv_if_ne (tgt := 68) hx hb dX10_mark_63 (by decide) (fun c_ => absurd (by decide +kernel) c_) (fun _ => ?_)
  refine lv_iconst (v := 0) hx hb dX10_mark_66 (by decide) ?_
  have hP9 := hP.sub (ws' := []) [] rfl
  have hD9 := hD.sub (ws' := []) [] (by decide) rfl
  exact rI () hx hb hr hlk rfl hS rfl hP9 hD9 (Nat.le_of_ble_eq_true rfl) (Nat.le_of_ble_eq_true rfl) dX10_mark_67

set_option maxHeartbeats 4000000 in
set_option maxRecDepth 100000 in
theorem x_mark_11 (l : Launch) (g : va_G) (aC : Nat → ClassId) (aM : Nat → Nat) (h1 h7 h9 h11 h12 h17 h18 h19 h20 h21 h22 h23 h24 h25 h26 h27 h28 h29 h30 h31 h32 h33 h34 h35 h36 h37 h38 h39 h40 h41 h42 h43 h44 : Nat) (x2 x3 x4 x5 x6 x8 x10 x13 x14 x15 x16 : Value) : Ct l g aC aM yX10_mark cX10_mark 3 (some .boolean) 3 [.ref h1, .int 1, .int 1] [(h1, .inr (10, [x2, x3, x4, x5, x6, .ref h7, x8, .ref h9, x10, .ref h11, .ref h12, .int 0, x13, x14, x15, x16])), (h7, .inr (6, [.int 0, .ref h17, .ref h18, .int 0, .int 0, .int 0])), (h17, .inl (aC 0, 5, .inl (fun _ => 0))), (h18, .inl (aC 0, 4, .inl (fun _ => 0))), (h9, .inr (5, [.ref h19, .int 0, .int 0, .ref h20, .int 0])), (h19, .inl (aC 0, 160, .inl (fun _ => 0))), (h20, .inl (aC 0, 8, .inl (fun _ => 0))), (h11, .inl (aC 4, 4, .inr (.inr (.inr (.inr (va_up (va_up (va_up (va_up (fun _ => none) 0 (some h21)) 1 (some h22)) 2 (some h23)) 3 (some h24))))))), (h12, .inl (aC 5, 4, .inr (.inr (.inr (.inr (va_up (va_up (va_up (va_up (fun _ => none) 0 (some h25)) 1 (some h26)) 2 (some h27)) 3 (some h28))))))), (h21, .inr (6, [.int 0, .ref h29, .ref h30, .int 0, .int 0, .int 0])), (h29, .inl (aC 0, 5, .inl (fun _ => 0))), (h30, .inl (aC 0, 4, .inl (fun _ => 0))), (h22, .inr (6, [.int 0, .ref h31, .ref h32, .int 0, .int 0, .int 0])), (h31, .inl (aC 0, 5, .inl (fun _ => 0))), (h32, .inl (aC 0, 4, .inl (fun _ => 0))), (h23, .inr (6, [.int 0, .ref h33, .ref h34, .int 0, .int 0, .int 0])), (h33, .inl (aC 0, 5, .inl (fun _ => 0))), (h34, .inl (aC 0, 4, .inl (fun _ => 0))), (h24, .inr (6, [.int 0, .ref h35, .ref h36, .int 0, .int 0, .int 0])), (h35, .inl (aC 0, 5, .inl (fun _ => 0))), (h36, .inl (aC 0, 4, .inl (fun _ => 0))), (h25, .inr (5, [.ref h37, .int 0, .int 0, .ref h38, .int 0])), (h37, .inl (aC 0, 160, .inl (fun _ => 0))), (h38, .inl (aC 0, 8, .inl (fun _ => 0))), (h26, .inr (5, [.ref h39, .int 0, .int 0, .ref h40, .int 0])), (h39, .inl (aC 0, 160, .inl (fun _ => 0))), (h40, .inl (aC 0, 8, .inl (fun _ => 0))), (h27, .inr (5, [.ref h41, .int 0, .int 0, .ref h42, .int 0])), (h41, .inl (aC 0, 160, .inl (fun _ => 0))), (h42, .inl (aC 0, 8, .inl (fun _ => 0))), (h28, .inr (5, [.ref h43, .int 0, .int 0, .ref h44, .int 0])), (h43, .inl (aC 0, 160, .inl (fun _ => 0))), (h44, .inl (aC 0, 8, .inl (fun _ => 0)))] (QI g (fun (r : Int32) (_ : Unit) => r = 0) (fun (_ : Unit) => [])) 0 0 := by
  refine Ct.mk (by decide) (Nat.le_of_ble_eq_true rfl) ?_
  intro p e s m below meth c A ls hx hb hml hown hts hr hlk hnm hK hA hM hM2 hP hD hS hl
  have hown : s.vm.findClass RX10 = some m.cls := hown
  have F : Fx p s m _ c cX10_mark 3 RX10 g aC aM A := ⟨hx, hb, hml, hown, hts, hK, hA, hM, hM2⟩
  have hl : lv_has ls 3 [(0, .ref h1), (1, .int 1), (2, .int 1)] := hl
  refine lv_iload_n hx hb dX10_mark_0 rfl (lv_at hl 1 rfl) ?_
  refine lv_if_lt (tgt := 9) hx hb dX10_mark_1 (by decide) (fun c_ => absurd c_ (by decide +kernel)) (fun _ => ?_)
  refine lv_iload_n hx hb dX10_mark_4 rfl (lv_at hl 1 rfl) ?_
  refine lv_iconst (v := 4) hx hb dX10_mark_5 (by decide) ?_
  refine lv_icmp_lt (tgt := 11) hx hb dX10_mark_6 (by decide) (fun _ => ?_) (fun c_ => absurd (by decide +kernel) c_)
  refine lv_iload_n hx hb dX10_mark_11 rfl (lv_at hl 2 rfl) ?_
  refine lv_if_ne (tgt := 55) hx hb dX10_mark_12 (by decide) (fun _ => ?_) (fun c_ => absurd c_ (by decide +kernel))
  refine lv_aload_n hx hb dX10_mark_55 rfl (lv_at hl 0 rfl) ?_
  refine xget F hP 0 rfl rfl inX10 11 (by decide) tb411 rfl dX10_mark_56 ?_
  refine lv_iload_n hx hb dX10_mark_59 rfl (lv_at hl 1 rfl) ?_
  refine lv_ishr hx hb dX10_mark_60 ?_
  refine relit (v := 0) (by decide +kernel) ?_
  refine lv_iconst (v := 1) hx hb dX10_mark_61 (by decide) ?_
  refine lv_iand hx hb dX10_mark_62 ?_
  refine relit (v := 0) (by decide +kernel) ?_
  refine lv_if_ne (tgt := 68) hx hb dX10_mark_63 (by decide) (fun c_ => absurd (by decide +kernel) c_) (fun _ => ?_)
  refine lv_iconst (v := 0) hx hb dX10_mark_66 (by decide) ?_
  have hP9 := hP.sub (ws' := []) [] rfl
  have hD9 := hD.sub (ws' := []) [] (by decide) rfl
  exact rI () hx hb hr hlk rfl hS rfl hP9 hD9 (Nat.le_of_ble_eq_true rfl) (Nat.le_of_ble_eq_true rfl) dX10_mark_67

set_option maxHeartbeats 4000000 in
set_option maxRecDepth 100000 in
theorem x_mark_21 (l : Launch) (g : va_G) (aC : Nat → ClassId) (aM : Nat → Nat) (h1 h7 h9 h11 h12 h17 h18 h19 h20 h21 h22 h23 h24 h25 h26 h27 h28 h29 h30 h31 h32 h33 h34 h35 h36 h37 h38 h39 h40 h41 h42 h43 h44 : Nat) (x2 x3 x4 x5 x6 x8 x10 x13 x14 x15 x16 : Value) : Ct l g aC aM yX10_mark cX10_mark 3 (some .boolean) 3 [.ref h1, .int 2, .int 1] [(h1, .inr (10, [x2, x3, x4, x5, x6, .ref h7, x8, .ref h9, x10, .ref h11, .ref h12, .int 0, x13, x14, x15, x16])), (h7, .inr (6, [.int 0, .ref h17, .ref h18, .int 0, .int 0, .int 0])), (h17, .inl (aC 0, 5, .inl (fun _ => 0))), (h18, .inl (aC 0, 4, .inl (fun _ => 0))), (h9, .inr (5, [.ref h19, .int 0, .int 0, .ref h20, .int 0])), (h19, .inl (aC 0, 160, .inl (fun _ => 0))), (h20, .inl (aC 0, 8, .inl (fun _ => 0))), (h11, .inl (aC 4, 4, .inr (.inr (.inr (.inr (va_up (va_up (va_up (va_up (fun _ => none) 0 (some h21)) 1 (some h22)) 2 (some h23)) 3 (some h24))))))), (h12, .inl (aC 5, 4, .inr (.inr (.inr (.inr (va_up (va_up (va_up (va_up (fun _ => none) 0 (some h25)) 1 (some h26)) 2 (some h27)) 3 (some h28))))))), (h21, .inr (6, [.int 0, .ref h29, .ref h30, .int 0, .int 0, .int 0])), (h29, .inl (aC 0, 5, .inl (fun _ => 0))), (h30, .inl (aC 0, 4, .inl (fun _ => 0))), (h22, .inr (6, [.int 0, .ref h31, .ref h32, .int 0, .int 0, .int 0])), (h31, .inl (aC 0, 5, .inl (fun _ => 0))), (h32, .inl (aC 0, 4, .inl (fun _ => 0))), (h23, .inr (6, [.int 0, .ref h33, .ref h34, .int 0, .int 0, .int 0])), (h33, .inl (aC 0, 5, .inl (fun _ => 0))), (h34, .inl (aC 0, 4, .inl (fun _ => 0))), (h24, .inr (6, [.int 0, .ref h35, .ref h36, .int 0, .int 0, .int 0])), (h35, .inl (aC 0, 5, .inl (fun _ => 0))), (h36, .inl (aC 0, 4, .inl (fun _ => 0))), (h25, .inr (5, [.ref h37, .int 0, .int 0, .ref h38, .int 0])), (h37, .inl (aC 0, 160, .inl (fun _ => 0))), (h38, .inl (aC 0, 8, .inl (fun _ => 0))), (h26, .inr (5, [.ref h39, .int 0, .int 0, .ref h40, .int 0])), (h39, .inl (aC 0, 160, .inl (fun _ => 0))), (h40, .inl (aC 0, 8, .inl (fun _ => 0))), (h27, .inr (5, [.ref h41, .int 0, .int 0, .ref h42, .int 0])), (h41, .inl (aC 0, 160, .inl (fun _ => 0))), (h42, .inl (aC 0, 8, .inl (fun _ => 0))), (h28, .inr (5, [.ref h43, .int 0, .int 0, .ref h44, .int 0])), (h43, .inl (aC 0, 160, .inl (fun _ => 0))), (h44, .inl (aC 0, 8, .inl (fun _ => 0)))] (QI g (fun (r : Int32) (_ : Unit) => r = 0) (fun (_ : Unit) => [])) 0 0 := by
  refine Ct.mk (by decide) (Nat.le_of_ble_eq_true rfl) ?_
  intro p e s m below meth c A ls hx hb hml hown hts hr hlk hnm hK hA hM hM2 hP hD hS hl
  have hown : s.vm.findClass RX10 = some m.cls := hown
  have F : Fx p s m _ c cX10_mark 3 RX10 g aC aM A := ⟨hx, hb, hml, hown, hts, hK, hA, hM, hM2⟩
  have hl : lv_has ls 3 [(0, .ref h1), (1, .int 2), (2, .int 1)] := hl
  refine lv_iload_n hx hb dX10_mark_0 rfl (lv_at hl 1 rfl) ?_
  refine lv_if_lt (tgt := 9) hx hb dX10_mark_1 (by decide) (fun c_ => absurd c_ (by decide +kernel)) (fun _ => ?_)
  refine lv_iload_n hx hb dX10_mark_4 rfl (lv_at hl 1 rfl) ?_
  refine lv_iconst (v := 4) hx hb dX10_mark_5 (by decide) ?_
  refine lv_icmp_lt (tgt := 11) hx hb dX10_mark_6 (by decide) (fun _ => ?_) (fun c_ => absurd (by decide +kernel) c_)
  refine lv_iload_n hx hb dX10_mark_11 rfl (lv_at hl 2 rfl) ?_
  refine lv_if_ne (tgt := 55) hx hb dX10_mark_12 (by decide) (fun _ => ?_) (fun c_ => absurd c_ (by decide +kernel))
  refine lv_aload_n hx hb dX10_mark_55 rfl (lv_at hl 0 rfl) ?_
  refine xget F hP 0 rfl rfl inX10 11 (by decide) tb411 rfl dX10_mark_56 ?_
  refine lv_iload_n hx hb dX10_mark_59 rfl (lv_at hl 1 rfl) ?_
  refine lv_ishr hx hb dX10_mark_60 ?_
  refine relit (v := 0) (by decide +kernel) ?_
  refine lv_iconst (v := 1) hx hb dX10_mark_61 (by decide) ?_
  refine lv_iand hx hb dX10_mark_62 ?_
  refine relit (v := 0) (by decide +kernel) ?_
  refine lv_if_ne (tgt := 68) hx hb dX10_mark_63 (by decide) (fun c_ => absurd (by decide +kernel) c_) (fun _ => ?_)
  refine lv_iconst (v := 0) hx hb dX10_mark_66 (by decide) ?_
  have hP9 := hP.sub (ws' := []) [] rfl
  have hD9 := hD.sub (ws' := []) [] (by decide) rfl
  exact rI () hx hb hr hlk rfl hS rfl hP9 hD9 (Nat.le_of_ble_eq_true rfl) (Nat.le_of_ble_eq_true rfl) dX10_mark_67

set_option maxHeartbeats 4000000 in
set_option maxRecDepth 100000 in
theorem x_mark_31 (l : Launch) (g : va_G) (aC : Nat → ClassId) (aM : Nat → Nat) (h1 h7 h9 h11 h12 h17 h18 h19 h20 h21 h22 h23 h24 h25 h26 h27 h28 h29 h30 h31 h32 h33 h34 h35 h36 h37 h38 h39 h40 h41 h42 h43 h44 : Nat) (x2 x3 x4 x5 x6 x8 x10 x13 x14 x15 x16 : Value) : Ct l g aC aM yX10_mark cX10_mark 3 (some .boolean) 3 [.ref h1, .int 3, .int 1] [(h1, .inr (10, [x2, x3, x4, x5, x6, .ref h7, x8, .ref h9, x10, .ref h11, .ref h12, .int 0, x13, x14, x15, x16])), (h7, .inr (6, [.int 0, .ref h17, .ref h18, .int 0, .int 0, .int 0])), (h17, .inl (aC 0, 5, .inl (fun _ => 0))), (h18, .inl (aC 0, 4, .inl (fun _ => 0))), (h9, .inr (5, [.ref h19, .int 0, .int 0, .ref h20, .int 0])), (h19, .inl (aC 0, 160, .inl (fun _ => 0))), (h20, .inl (aC 0, 8, .inl (fun _ => 0))), (h11, .inl (aC 4, 4, .inr (.inr (.inr (.inr (va_up (va_up (va_up (va_up (fun _ => none) 0 (some h21)) 1 (some h22)) 2 (some h23)) 3 (some h24))))))), (h12, .inl (aC 5, 4, .inr (.inr (.inr (.inr (va_up (va_up (va_up (va_up (fun _ => none) 0 (some h25)) 1 (some h26)) 2 (some h27)) 3 (some h28))))))), (h21, .inr (6, [.int 0, .ref h29, .ref h30, .int 0, .int 0, .int 0])), (h29, .inl (aC 0, 5, .inl (fun _ => 0))), (h30, .inl (aC 0, 4, .inl (fun _ => 0))), (h22, .inr (6, [.int 0, .ref h31, .ref h32, .int 0, .int 0, .int 0])), (h31, .inl (aC 0, 5, .inl (fun _ => 0))), (h32, .inl (aC 0, 4, .inl (fun _ => 0))), (h23, .inr (6, [.int 0, .ref h33, .ref h34, .int 0, .int 0, .int 0])), (h33, .inl (aC 0, 5, .inl (fun _ => 0))), (h34, .inl (aC 0, 4, .inl (fun _ => 0))), (h24, .inr (6, [.int 0, .ref h35, .ref h36, .int 0, .int 0, .int 0])), (h35, .inl (aC 0, 5, .inl (fun _ => 0))), (h36, .inl (aC 0, 4, .inl (fun _ => 0))), (h25, .inr (5, [.ref h37, .int 0, .int 0, .ref h38, .int 0])), (h37, .inl (aC 0, 160, .inl (fun _ => 0))), (h38, .inl (aC 0, 8, .inl (fun _ => 0))), (h26, .inr (5, [.ref h39, .int 0, .int 0, .ref h40, .int 0])), (h39, .inl (aC 0, 160, .inl (fun _ => 0))), (h40, .inl (aC 0, 8, .inl (fun _ => 0))), (h27, .inr (5, [.ref h41, .int 0, .int 0, .ref h42, .int 0])), (h41, .inl (aC 0, 160, .inl (fun _ => 0))), (h42, .inl (aC 0, 8, .inl (fun _ => 0))), (h28, .inr (5, [.ref h43, .int 0, .int 0, .ref h44, .int 0])), (h43, .inl (aC 0, 160, .inl (fun _ => 0))), (h44, .inl (aC 0, 8, .inl (fun _ => 0)))] (QI g (fun (r : Int32) (_ : Unit) => r = 0) (fun (_ : Unit) => [])) 0 0 := by
  refine Ct.mk (by decide) (Nat.le_of_ble_eq_true rfl) ?_
  intro p e s m below meth c A ls hx hb hml hown hts hr hlk hnm hK hA hM hM2 hP hD hS hl
  have hown : s.vm.findClass RX10 = some m.cls := hown
  have F : Fx p s m _ c cX10_mark 3 RX10 g aC aM A := ⟨hx, hb, hml, hown, hts, hK, hA, hM, hM2⟩
  have hl : lv_has ls 3 [(0, .ref h1), (1, .int 3), (2, .int 1)] := hl
  refine lv_iload_n hx hb dX10_mark_0 rfl (lv_at hl 1 rfl) ?_
  refine lv_if_lt (tgt := 9) hx hb dX10_mark_1 (by decide) (fun c_ => absurd c_ (by decide +kernel)) (fun _ => ?_)
  refine lv_iload_n hx hb dX10_mark_4 rfl (lv_at hl 1 rfl) ?_
  refine lv_iconst (v := 4) hx hb dX10_mark_5 (by decide) ?_
  refine lv_icmp_lt (tgt := 11) hx hb dX10_mark_6 (by decide) (fun _ => ?_) (fun c_ => absurd (by decide +kernel) c_)
  refine lv_iload_n hx hb dX10_mark_11 rfl (lv_at hl 2 rfl) ?_
  refine lv_if_ne (tgt := 55) hx hb dX10_mark_12 (by decide) (fun _ => ?_) (fun c_ => absurd c_ (by decide +kernel))
  refine lv_aload_n hx hb dX10_mark_55 rfl (lv_at hl 0 rfl) ?_
  refine xget F hP 0 rfl rfl inX10 11 (by decide) tb411 rfl dX10_mark_56 ?_
  refine lv_iload_n hx hb dX10_mark_59 rfl (lv_at hl 1 rfl) ?_
  refine lv_ishr hx hb dX10_mark_60 ?_
  refine relit (v := 0) (by decide +kernel) ?_
  refine lv_iconst (v := 1) hx hb dX10_mark_61 (by decide) ?_
  refine lv_iand hx hb dX10_mark_62 ?_
  refine relit (v := 0) (by decide +kernel) ?_
  refine lv_if_ne (tgt := 68) hx hb dX10_mark_63 (by decide) (fun c_ => absurd (by decide +kernel) c_) (fun _ => ?_)
  refine lv_iconst (v := 0) hx hb dX10_mark_66 (by decide) ?_
  have hP9 := hP.sub (ws' := []) [] rfl
  have hD9 := hD.sub (ws' := []) [] (by decide) rfl
  exact rI () hx hb hr hlk rfl hS rfl hP9 hD9 (Nat.le_of_ble_eq_true rfl) (Nat.le_of_ble_eq_true rfl) dX10_mark_67
