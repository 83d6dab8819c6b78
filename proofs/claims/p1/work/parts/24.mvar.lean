theorem tb1255 : (Jvm.Cond.fieldLink "StairGangModel" (586 : Nat) "StairGangModel" "g" "J") ∈ gw := lw_m 1255 (by decide +kernel)
theorem tb1906 : (Jvm.Cond.constantLong "StairGangModel" (589 : Nat) (1103515245 : Int64)) ∈ gw := lw_m 1906 (by decide +kernel)
theorem tb1907 : (Jvm.Cond.constantLong "StairGangModel" (591 : Nat) (12345 : Int64)) ∈ gw := lw_m 1907 (by decide +kernel)
theorem tb1908 : (Jvm.Cond.constantLong "StairGangModel" (593 : Nat) (2147483648 : Int64)) ∈ gw := lw_m 1908 (by decide +kernel)
theorem tb1909 : (Jvm.Cond.constantLong "StairGangModel" (595 : Nat) (65536 : Int64)) ∈ gw := lw_m 1909 (by decide +kernel)
theorem dX11_draws_0 : decode cX11_draws 0 = .ok (.aload_n 0, 1) := by decide +kernel
theorem dX11_draws_1 : decode cX11_draws 1 = .ok (.aload_n 0, 1) := by decide +kernel
theorem dX11_draws_2 : decode cX11_draws 2 = .ok (.getfield 586, 3) := by decide +kernel
theorem dX11_draws_5 : decode cX11_draws 5 = .ok (.ldc2_w 589, 3) := by decide +kernel
theorem dX11_draws_8 : decode cX11_draws 8 = .ok (.lmul, 1) := by decide +kernel
theorem dX11_draws_9 : decode cX11_draws 9 = .ok (.ldc2_w 591, 3) := by decide +kernel
theorem dX11_draws_12 : decode cX11_draws 12 = .ok (.ladd, 1) := by decide +kernel
theorem dX11_draws_13 : decode cX11_draws 13 = .ok (.ldc2_w 593, 3) := by decide +kernel
theorem dX11_draws_16 : decode cX11_draws 16 = .ok (.lrem, 1) := by decide +kernel
theorem dX11_draws_17 : decode cX11_draws 17 = .ok (.putfield 586, 3) := by decide +kernel
theorem dX11_draws_20 : decode cX11_draws 20 = .ok (.aload_n 0, 1) := by decide +kernel
theorem dX11_draws_21 : decode cX11_draws 21 = .ok (.getfield 586, 3) := by decide +kernel
theorem dX11_draws_24 : decode cX11_draws 24 = .ok (.ldc2_w 595, 3) := by decide +kernel
theorem dX11_draws_27 : decode cX11_draws 27 = .ok (.ldiv, 1) := by decide +kernel
theorem dX11_draws_28 : decode cX11_draws 28 = .ok (.iload_n 1, 1) := by decide +kernel
theorem dX11_draws_29 : decode cX11_draws 29 = .ok (.i2l, 1) := by decide +kernel
theorem dX11_draws_30 : decode cX11_draws 30 = .ok (.lrem, 1) := by decide +kernel
theorem dX11_draws_31 : decode cX11_draws 31 = .ok (.l2i, 1) := by decide +kernel
theorem dX11_draws_32 : decode cX11_draws 32 = .ok (.ireturn, 1) := by decide +kernel
set_option maxHeartbeats 4000000 in
set_option maxRecDepth 100000 in
theorem k_draws (l : Launch) (g : va_G) (aC : Nat → ClassId) (aM : Nat → Nat) (h0 : Nat) (x0 x1 x2 x3 x4 x5 x6 x7 x8 x9 x10 x11 x12 x13 x14 x15 x16 x17 x18 x19 x20 x21 x22 x23 x24 x25 x26 x27 x28 x29 x30 x31 x32 x33 x34 x35 x36 x37 x38 x39 x40 x41 x42 x43 x44 x45 x46 x47 x48 x49 x50 x51 x52 x53 x54 x55 x56 x57 x58 x59 x60 x61 x62 x63 x64 x65 x66 x67 x68 x69 x70 x71 x72 : Value) (m1 : Int64) : Ct l g aC aM yX11_draws cX11_draws 2 (some .int) 1 [.ref h0, .int 4] [(h0, .inr (11, [x0, x1, x2, x3, x4, x5, x6, x7, x8, x9, x10, x11, x12, x13, x14, x15, x16, x17, x18, x19, x20, x21, x22, x23, x24, x25, x26, x27, x28, x29, x30, x31, x32, x33, x34, x35, x36, x37, x38, x39, x40, x41, x42, x43, x44, x45, x46, x47, x48, x49, x50, x51, x52, x53, x54, x55, x56, x57, x58, x59, x60, x61, x62, x63, x64, x65, x66, x67, x68, x69, x70, x71, x72, .long m1]))] (QI g (fun (r : Int32) (u : Int64) => True) (fun (u : Int64) => [(h0, .inr (11, [x0, x1, x2, x3, x4, x5, x6, x7, x8, x9, x10, x11, x12, x13, x14, x15, x16, x17, x18, x19, x20, x21, x22, x23, x24, x25, x26, x27, x28, x29, x30, x31, x32, x33, x34, x35, x36, x37, x38, x39, x40, x41, x42, x43, x44, x45, x46, x47, x48, x49, x50, x51, x52, x53, x54, x55, x56, x57, x58, x59, x60, x61, x62, x63, x64, x65, x66, x67, x68, x69, x70, x71, x72, .long u]))])) 0 0 := by
  refine Ct.mk (by decide) (Nat.le_of_ble_eq_true rfl) ?_
  intro p e s m below meth c A ls hx hb hml hown hts hr hlk hnm hK hA hM hM2 hP hD hS hl
  have hown : s.vm.findClass RX11 = some m.cls := hown
  have F : Fx p s m _ c cX11_draws 2 RX11 g aC aM A := ⟨hx, hb, hml, hown, hts, hK, hA, hM, hM2⟩
  have hl : lv_has ls 2 [(0, .ref h0), (1, .int 4)] := hl
  refine lv_aload_n hx hb dX11_draws_0 rfl (lv_at hl 0 rfl) ?_
  refine lv_aload_n hx hb dX11_draws_1 rfl (lv_at hl 0 rfl) ?_
  refine xget F hP 0 rfl rfl inX11 73 (by decide) tb1255 rfl dX11_draws_2 ?_
  refine lv_ldc2 (v := 1103515245) hx hb hown (hts _ tb1906) dX11_draws_5 ?_
  refine lv_lmul hx hb dX11_draws_8 ?_
  refine lv_ldc2 (v := 12345) hx hb hown (hts _ tb1907) dX11_draws_9 ?_
  refine lv_ladd hx hb dX11_draws_12 ?_
  refine lv_ldc2 (v := 2147483648) hx hb hown (hts _ tb1908) dX11_draws_13 ?_
  refine lv_lrem hx hb dX11_draws_16 (by decide +kernel) ?_
  refine xput F hP hD hS 0 rfl rfl inX11 tyX11_ok nmX11 73 (by decide) tb1255 rfl rfl rfl (Nat.le_of_ble_eq_true rfl) dX11_draws_17 (fun H locs hP hD hS => ?_)
  have hP : va_P g vwCl [(h0, .inr (11, [x0, x1, x2, x3, x4, x5, x6, x7, x8, x9, x10, x11, x12, x13, x14, x15, x16, x17, x18, x19, x20, x21, x22, x23, x24, x25, x26, x27, x28, x29, x30, x31, x32, x33, x34, x35, x36, x37, x38, x39, x40, x41, x42, x43, x44, x45, x46, x47, x48, x49, x50, x51, x52, x53, x54, x55, x56, x57, x58, x59, x60, x61, x62, x63, x64, x65, x66, x67, x68, x69, x70, x71, x72, .long (((m1 * 1103515245) + 12345) - ((m1 * 1103515245) + 12345) / 2147483648 * 2147483648)]))] H := hP
  have hD : va_D A [(h0, .inr (11, [x0, x1, x2, x3, x4, x5, x6, x7, x8, x9, x10, x11, x12, x13, x14, x15, x16, x17, x18, x19, x20, x21, x22, x23, x24, x25, x26, x27, x28, x29, x30, x31, x32, x33, x34, x35, x36, x37, x38, x39, x40, x41, x42, x43, x44, x45, x46, x47, x48, x49, x50, x51, x52, x53, x54, x55, x56, x57, x58, x59, x60, x61, x62, x63, x64, x65, x66, x67, x68, x69, x70, x71, x72, .long (((m1 * 1103515245) + 12345) - ((m1 * 1103515245) + 12345) / 2147483648 * 2147483648)]))] := hD
  refine lv_aload_n hx hb dX11_draws_20 rfl (lv_at hl 0 rfl) ?_
  refine xget F hP 0 rfl rfl inX11 73 (by decide) tb1255 rfl dX11_draws_21 ?_
  refine lv_ldc2 (v := 65536) hx hb hown (hts _ tb1909) dX11_draws_24 ?_
  refine lv_ldiv hx hb dX11_draws_27 (by decide +kernel) ?_
  refine lv_iload_n hx hb dX11_draws_28 rfl (lv_at hl 1 rfl) ?_
  refine lv_i2l (v := 4) hx hb dX11_draws_29 (by decide +kernel) ?_
  refine lv_lrem hx hb dX11_draws_30 (by decide +kernel) ?_
  refine lv_l2i (v := ((((((m1 * 1103515245) + 12345) - ((m1 * 1103515245) + 12345) / 2147483648 * 2147483648) / 65536) - ((((m1 * 1103515245) + 12345) - ((m1 * 1103515245) + 12345) / 2147483648 * 2147483648) / 65536) / 4 * 4).toInt32)) hx hb dX11_draws_31 rfl ?_
  have hP9 := hP.sub (ws' := [(h0, .inr (11, [x0, x1, x2, x3, x4, x5, x6, x7, x8, x9, x10, x11, x12, x13, x14, x15, x16, x17, x18, x19, x20, x21, x22, x23, x24, x25, x26, x27, x28, x29, x30, x31, x32, x33, x34, x35, x36, x37, x38, x39, x40, x41, x42, x43, x44, x45, x46, x47, x48, x49, x50, x51, x52, x53, x54, x55, x56, x57, x58, x59, x60, x61, x62, x63, x64, x65, x66, x67, x68, x69, x70, x71, x72, .long (((m1 * 1103515245) + 12345) - ((m1 * 1103515245) + 12345) / 2147483648 * 2147483648)]))]) [0] rfl
  have hD9 := hD.sub (ws' := [(h0, .inr (11, [x0, x1, x2, x3, x4, x5, x6, x7, x8, x9, x10, x11, x12, x13, x14, x15, x16, x17, x18, x19, x20, x21, x22, x23, x24, x25, x26, x27, x28, x29, x30, x31, x32, x33, x34, x35, x36, x37, x38, x39, x40, x41, x42, x43, x44, x45, x46, x47, x48, x49, x50, x51, x52, x53, x54, x55, x56, x57, x58, x59, x60, x61, x62, x63, x64, x65, x66, x67, x68, x69, x70, x71, x72, .long (((m1 * 1103515245) + 12345) - ((m1 * 1103515245) + 12345) / 2147483648 * 2147483648)]))]) [0] (by decide) rfl
  exact rI (((m1 * 1103515245) + 12345) - ((m1 * 1103515245) + 12345) / 2147483648 * 2147483648) hx hb hr hlk rfl hS trivial hP9 hD9 (Nat.le_of_ble_eq_true rfl) (Nat.le_of_ble_eq_true rfl) dX11_draws_32

set_option maxHeartbeats 4000000 in
set_option maxRecDepth 100000 in
theorem k_copiesZ (l : Launch) (g : va_G) (aC : Nat → ClassId) (aM : Nat → Nat) (h0 h1 : Nat) : Ct l g aC aM yX11_copies cX11_copies 5 none 1 [.ref h0, .int 0, .ref h1, .int 0] [(h0, .inl (aC 0, 13, .inl (fun _ => 0))), (h1, .inl (aC 0, 13, .inl (fun _ => 0)))] (QV g (fun (_ : Unit) => True) (fun (_ : Unit) => [(h0, .inl (aC 0, 13, .inl (fun _ => 0))), (h1, .inl (aC 0, 13, .inl (fun _ => 0)))])) 0 0 := by
  refine Ct.mk (by decide) (Nat.le_of_ble_eq_true rfl) ?_
  intro p e s m below meth c A ls hx hb hml hown hts hr hlk hnm hK hA hM hM2 hP hD hS hl
  have hown : s.vm.findClass RX11 = some m.cls := hown
  have F : Fx p s m _ c cX11_copies 5 RX11 g aC aM A := ⟨hx, hb, hml, hown, hts, hK, hA, hM, hM2⟩
  have hl : lv_has ls 5 [(0, .ref h0), (1, .int 0), (2, .ref h1), (3, .int 0)] := hl
  refine lv_iconst (v := 0) hx hb dX11_copies_0 (by decide) ?_
  refine lv_istore (lv' := [(4, .int 0), (0, .ref h0), (1, .int 0), (2, .ref h1), (3, .int 0)]) hx hb dX11_copies_1 hl (by decide) rfl (fun ls hl => ?_)
  refine lv_iload hx hb dX11_copies_3 (lv_at hl 0 rfl) ?_
  refine lv_bipush (v := 13) hx hb dX11_copies_5 (by decide) ?_
  refine lv_icmp_ge (tgt := 28) hx hb dX11_copies_7 (by decide) (fun c_ => absurd c_ (by decide +kernel)) (fun _ => ?_)
  refine lv_aload_n hx hb dX11_copies_10 rfl (lv_at hl 3 rfl) ?_
  refine lv_iload_n hx hb dX11_copies_11 rfl (lv_at hl 4 rfl) ?_
  refine lv_iload hx hb dX11_copies_12 (lv_at hl 0 rfl) ?_
  refine lv_iadd hx hb dX11_copies_14 ?_
  refine relit (v := 0) (by decide +kernel) ?_
  refine lv_aload_n hx hb dX11_copies_15 rfl (lv_at hl 1 rfl) ?_
  refine lv_iload_n hx hb dX11_copies_16 rfl (lv_at hl 2 rfl) ?_
  refine lv_iload hx hb dX11_copies_17 (lv_at hl 0 rfl) ?_
  refine lv_iadd hx hb dX11_copies_19 ?_
  refine relit (v := 0) (by decide +kernel) ?_
  refine xilo (v := 0) F hP 0 rfl 0 (by decide +kernel) (by decide +kernel) (by decide) (by decide +kernel) dX11_copies_20 ?_
  refine xist (f' := fun _ => 0) F hP hD hS 1 rfl 0 (by decide +kernel) (by decide +kernel) (by decide) (xup0 _) dX11_copies_21 (fun H locs hP hD hS => ?_)
  have hP : va_P g vwCl [(h0, .inl (aC 0, 13, .inl (fun _ => 0))), (h1, .inl (aC 0, 13, .inl (fun _ => 0)))] H := hP
  have hD : va_D A [(h0, .inl (aC 0, 13, .inl (fun _ => 0))), (h1, .inl (aC 0, 13, .inl (fun _ => 0)))] := hD
  refine lv_iinc (v := 1) (lv' := [(4, .int 1), (0, .ref h0), (1, .int 0), (2, .ref h1), (3, .int 0)]) hx hb dX11_copies_22 hl (k := 0) rfl (by decide +kernel) (by decide) rfl (fun ls hl => ?_)
  refine lv_goto (tgt := 3) hx hb dX11_copies_25 (by decide) ?_
  refine lv_iload hx hb dX11_copies_3 (lv_at hl 0 rfl) ?_
  refine lv_bipush (v := 13) hx hb dX11_copies_5 (by decide) ?_
  refine lv_icmp_ge (tgt := 28) hx hb dX11_copies_7 (by decide) (fun c_ => absurd c_ (by decide +kernel)) (fun _ => ?_)
  refine lv_aload_n hx hb dX11_copies_10 rfl (lv_at hl 3 rfl) ?_
  refine lv_iload_n hx hb dX11_copies_11 rfl (lv_at hl 4 rfl) ?_
  refine lv_iload hx hb dX11_copies_12 (lv_at hl 0 rfl) ?_
  refine lv_iadd hx hb dX11_copies_14 ?_
  refine relit (v := 1) (by decide +kernel) ?_
  refine lv_aload_n hx hb dX11_copies_15 rfl (lv_at hl 1 rfl) ?_
  refine lv_iload_n hx hb dX11_copies_16 rfl (lv_at hl 2 rfl) ?_
  refine lv_iload hx hb dX11_copies_17 (lv_at hl 0 rfl) ?_
  refine lv_iadd hx hb dX11_copies_19 ?_
  refine relit (v := 1) (by decide +kernel) ?_
  refine xilo (v := 0) F hP 0 rfl 1 (by decide +kernel) (by decide +kernel) (by decide) (by decide +kernel) dX11_copies_20 ?_
  refine xist (f' := fun _ => 0) F hP hD hS 1 rfl 1 (by decide +kernel) (by decide +kernel) (by decide) (xup0 _) dX11_copies_21 (fun H locs hP hD hS => ?_)
  have hP : va_P g vwCl [(h0, .inl (aC 0, 13, .inl (fun _ => 0))), (h1, .inl (aC 0, 13, .inl (fun _ => 0)))] H := hP
  have hD : va_D A [(h0, .inl (aC 0, 13, .inl (fun _ => 0))), (h1, .inl (aC 0, 13, .inl (fun _ => 0)))] := hD
  refine lv_iinc (v := 2) (lv' := [(4, .int 2), (0, .ref h0), (1, .int 0), (2, .ref h1), (3, .int 0)]) hx hb dX11_copies_22 hl (k := 0) rfl (by decide +kernel) (by decide) rfl (fun ls hl => ?_)
  refine lv_goto (tgt := 3) hx hb dX11_copies_25 (by decide) ?_
  refine lv_iload hx hb dX11_copies_3 (lv_at hl 0 rfl) ?_
  refine lv_bipush (v := 13) hx hb dX11_copies_5 (by decide) ?_
  refine lv_icmp_ge (tgt := 28) hx hb dX11_copies_7 (by decide) (fun c_ => absurd c_ (by decide +kernel)) (fun _ => ?_)
  refine lv_aload_n hx hb dX11_copies_10 rfl (lv_at hl 3 rfl) ?_
  refine lv_iload_n hx hb dX11_copies_11 rfl (lv_at hl 4 rfl) ?_
  refine lv_iload hx hb dX11_copies_12 (lv_at hl 0 rfl) ?_
  refine lv_iadd hx hb dX11_copies_14 ?_
  refine relit (v := 2) (by decide +kernel) ?_
  refine lv_aload_n hx hb dX11_copies_15 rfl (lv_at hl 1 rfl) ?_
  refine lv_iload_n hx hb dX11_copies_16 rfl (lv_at hl 2 rfl) ?_
  refine lv_iload hx hb dX11_copies_17 (lv_at hl 0 rfl) ?_
  refine lv_iadd hx hb dX11_copies_19 ?_
  refine relit (v := 2) (by decide +kernel) ?_
  refine xilo (v := 0) F hP 0 rfl 2 (by decide +kernel) (by decide +kernel) (by decide) (by decide +kernel) dX11_copies_20 ?_
  refine xist (f' := fun _ => 0) F hP hD hS 1 rfl 2 (by decide +kernel) (by decide +kernel) (by decide) (xup0 _) dX11_copies_21 (fun H locs hP hD hS => ?_)
  have hP : va_P g vwCl [(h0, .inl (aC 0, 13, .inl (fun _ => 0))), (h1, .inl (aC 0, 13, .inl (fun _ => 0)))] H := hP
  have hD : va_D A [(h0, .inl (aC 0, 13, .inl (fun _ => 0))), (h1, .inl (aC 0, 13, .inl (fun _ => 0)))] := hD
  refine lv_iinc (v := 3) (lv' := [(4, .int 3), (0, .ref h0), (1, .int 0), (2, .ref h1), (3, .int 0)]) hx hb dX11_copies_22 hl (k := 0) rfl (by decide +kernel) (by decide) rfl (fun ls hl => ?_)
  refine lv_goto (tgt := 3) hx hb dX11_copies_25 (by decide) ?_
  refine lv_iload hx hb dX11_copies_3 (lv_at hl 0 rfl) ?_
  refine lv_bipush (v := 13) hx hb dX11_copies_5 (by decide) ?_
  refine lv_icmp_ge (tgt := 28) hx hb dX11_copies_7 (by decide) (fun c_ => absurd c_ (by decide +kernel)) (fun _ => ?_)
  refine lv_aload_n hx hb dX11_copies_10 rfl (lv_at hl 3 rfl) ?_
  refine lv_iload_n hx hb dX11_copies_11 rfl (lv_at hl 4 rfl) ?_
  refine lv_iload hx hb dX11_copies_12 (lv_at hl 0 rfl) ?_
  refine lv_iadd hx hb dX11_copies_14 ?_
  refine relit (v := 3) (by decide +kernel) ?_
  refine lv_aload_n hx hb dX11_copies_15 rfl (lv_at hl 1 rfl) ?_
  refine lv_iload_n hx hb dX11_copies_16 rfl (lv_at hl 2 rfl) ?_
  refine lv_iload hx hb dX11_copies_17 (lv_at hl 0 rfl) ?_
  refine lv_iadd hx hb dX11_copies_19 ?_
  refine relit (v := 3) (by decide +kernel) ?_
  refine xilo (v := 0) F hP 0 rfl 3 (by decide +kernel) (by decide +kernel) (by decide) (by decide +kernel) dX11_copies_20 ?_
  refine xist (f' := fun _ => 0) F hP hD hS 1 rfl 3 (by decide +kernel) (by decide +kernel) (by decide) (xup0 _) dX11_copies_21 (fun H locs hP hD hS => ?_)
  have hP : va_P g vwCl [(h0, .inl (aC 0, 13, .inl (fun _ => 0))), (h1, .inl (aC 0, 13, .inl (fun _ => 0)))] H := hP
  have hD : va_D A [(h0, .inl (aC 0, 13, .inl (fun _ => 0))), (h1, .inl (aC 0, 13, .inl (fun _ => 0)))] := hD
  refine lv_iinc (v := 4) (lv' := [(4, .int 4), (0, .ref h0), (1, .int 0), (2, .ref h1), (3, .int 0)]) hx hb dX11_copies_22 hl (k := 0) rfl (by decide +kernel) (by decide) rfl (fun ls hl => ?_)
  refine lv_goto (tgt := 3) hx hb dX11_copies_25 (by decide) ?_
  refine lv_iload hx hb dX11_copies_3 (lv_at hl 0 rfl) ?_
  refine lv_bipush (v := 13) hx hb dX11_copies_5 (by decide) ?_
  refine lv_icmp_ge (tgt := 28) hx hb dX11_copies_7 (by decide) (fun c_ => absurd c_ (by decide +kernel)) (fun _ => ?_)
  refine lv_aload_n hx hb dX11_copies_10 rfl (lv_at hl 3 rfl) ?_
  refine lv_iload_n hx hb dX11_copies_11 rfl (lv_at hl 4 rfl) ?_
  refine lv_iload hx hb dX11_copies_12 (lv_at hl 0 rfl) ?_
  refine lv_iadd hx hb dX11_copies_14 ?_
  refine relit (v := 4) (by decide +kernel) ?_
  refine lv_aload_n hx hb dX11_copies_15 rfl (lv_at hl 1 rfl) ?_
  refine lv_iload_n hx hb dX11_copies_16 rfl (lv_at hl 2 rfl) ?_
  refine lv_iload hx hb dX11_copies_17 (lv_at hl 0 rfl) ?_
  refine lv_iadd hx hb dX11_copies_19 ?_
  refine relit (v := 4) (by decide +kernel) ?_
  refine xilo (v := 0) F hP 0 rfl 4 (by decide +kernel) (by decide +kernel) (by decide) (by decide +kernel) dX11_copies_20 ?_
  refine xist (f' := fun _ => 0) F hP hD hS 1 rfl 4 (by decide +kernel) (by decide +kernel) (by decide) (xup0 _) dX11_copies_21 (fun H locs hP hD hS => ?_)
  have hP : va_P g vwCl [(h0, .inl (aC 0, 13, .inl (fun _ => 0))), (h1, .inl (aC 0, 13, .inl (fun _ => 0)))] H := hP
  have hD : va_D A [(h0, .inl (aC 0, 13, .inl (fun _ => 0))), (h1, .inl (aC 0, 13, .inl (fun _ => 0)))] := hD
  refine lv_iinc (v := 5) (lv' := [(4, .int 5), (0, .ref h0), (1, .int 0), (2, .ref h1), (3, .int 0)]) hx hb dX11_copies_22 hl (k := 0) rfl (by decide +kernel) (by decide) rfl (fun ls hl => ?_)
  refine lv_goto (tgt := 3) hx hb dX11_copies_25 (by decide) ?_
  refine lv_iload hx hb dX11_copies_3 (lv_at hl 0 rfl) ?_
  refine lv_bipush (v := 13) hx hb dX11_copies_5 (by decide) ?_
  refine lv_icmp_ge (tgt := 28) hx hb dX11_copies_7 (by decide) (fun c_ => absurd c_ (by decide +kernel)) (fun _ => ?_)
  refine lv_aload_n hx hb dX11_copies_10 rfl (lv_at hl 3 rfl) ?_
  refine lv_iload_n hx hb dX11_copies_11 rfl (lv_at hl 4 rfl) ?_
  refine lv_iload hx hb dX11_copies_12 (lv_at hl 0 rfl) ?_
  refine lv_iadd hx hb dX11_copies_14 ?_
  refine relit (v := 5) (by decide +kernel) ?_
  refine lv_aload_n hx hb dX11_copies_15 rfl (lv_at hl 1 rfl) ?_
  refine lv_iload_n hx hb dX11_copies_16 rfl (lv_at hl 2 rfl) ?_
  refine lv_iload hx hb dX11_copies_17 (lv_at hl 0 rfl) ?_
  refine lv_iadd hx hb dX11_copies_19 ?_
  refine relit (v := 5) (by decide +kernel) ?_
  refine xilo (v := 0) F hP 0 rfl 5 (by decide +kernel) (by decide +kernel) (by decide) (by decide +kernel) dX11_copies_20 ?_
  refine xist (f' := fun _ => 0) F hP hD hS 1 rfl 5 (by decide +kernel) (by decide +kernel) (by decide) (xup0 _) dX11_copies_21 (fun H locs hP hD hS => ?_)
  have hP : va_P g vwCl [(h0, .inl (aC 0, 13, .inl (fun _ => 0))), (h1, .inl (aC 0, 13, .inl (fun _ => 0)))] H := hP
  have hD : va_D A [(h0, .inl (aC 0, 13, .inl (fun _ => 0))), (h1, .inl (aC 0, 13, .inl (fun _ => 0)))] := hD
  refine lv_iinc (v := 6) (lv' := [(4, .int 6), (0, .ref h0), (1, .int 0), (2, .ref h1), (3, .int 0)]) hx hb dX11_copies_22 hl (k := 0) rfl (by decide +kernel) (by decide) rfl (fun ls hl => ?_)
  refine lv_goto (tgt := 3) hx hb dX11_copies_25 (by decide) ?_
  refine lv_iload hx hb dX11_copies_3 (lv_at hl 0 rfl) ?_
  refine lv_bipush (v := 13) hx hb dX11_copies_5 (by decide) ?_
  refine lv_icmp_ge (tgt := 28) hx hb dX11_copies_7 (by decide) (fun c_ => absurd c_ (by decide +kernel)) (fun _ => ?_)
  refine lv_aload_n hx hb dX11_copies_10 rfl (lv_at hl 3 rfl) ?_
  refine lv_iload_n hx hb dX11_copies_11 rfl (lv_at hl 4 rfl) ?_
  refine lv_iload hx hb dX11_copies_12 (lv_at hl 0 rfl) ?_
  refine lv_iadd hx hb dX11_copies_14 ?_
  refine relit (v := 6) (by decide +kernel) ?_
  refine lv_aload_n hx hb dX11_copies_15 rfl (lv_at hl 1 rfl) ?_
  refine lv_iload_n hx hb dX11_copies_16 rfl (lv_at hl 2 rfl) ?_
  refine lv_iload hx hb dX11_copies_17 (lv_at hl 0 rfl) ?_
  refine lv_iadd hx hb dX11_copies_19 ?_
  refine relit (v := 6) (by decide +kernel) ?_
  refine xilo (v := 0) F hP 0 rfl 6 (by decide +kernel) (by decide +kernel) (by decide) (by decide +kernel) dX11_copies_20 ?_
  refine xist (f' := fun _ => 0) F hP hD hS 1 rfl 6 (by decide +kernel) (by decide +kernel) (by decide) (xup0 _) dX11_copies_21 (fun H locs hP hD hS => ?_)
  have hP : va_P g vwCl [(h0, .inl (aC 0, 13, .inl (fun _ => 0))), (h1, .inl (aC 0, 13, .inl (fun _ => 0)))] H := hP
  have hD : va_D A [(h0, .inl (aC 0, 13, .inl (fun _ => 0))), (h1, .inl (aC 0, 13, .inl (fun _ => 0)))] := hD
  refine lv_iinc (v := 7) (lv' := [(4, .int 7), (0, .ref h0), (1, .int 0), (2, .ref h1), (3, .int 0)]) hx hb dX11_copies_22 hl (k := 0) rfl (by decide +kernel) (by decide) rfl (fun ls hl => ?_)
  refine lv_goto (tgt := 3) hx hb dX11_copies_25 (by decide) ?_
  refine lv_iload hx hb dX11_copies_3 (lv_at hl 0 rfl) ?_
  refine lv_bipush (v := 13) hx hb dX11_copies_5 (by decide) ?_
  refine lv_icmp_ge (tgt := 28) hx hb dX11_copies_7 (by decide) (fun c_ => absurd c_ (by decide +kernel)) (fun _ => ?_)
  refine lv_aload_n hx hb dX11_copies_10 rfl (lv_at hl 3 rfl) ?_
  refine lv_iload_n hx hb dX11_copies_11 rfl (lv_at hl 4 rfl) ?_
  refine lv_iload hx hb dX11_copies_12 (lv_at hl 0 rfl) ?_
  refine lv_iadd hx hb dX11_copies_14 ?_
  refine relit (v := 7) (by decide +kernel) ?_
  refine lv_aload_n hx hb dX11_copies_15 rfl (lv_at hl 1 rfl) ?_
  refine lv_iload_n hx hb dX11_copies_16 rfl (lv_at hl 2 rfl) ?_
  refine lv_iload hx hb dX11_copies_17 (lv_at hl 0 rfl) ?_
  refine lv_iadd hx hb dX11_copies_19 ?_
  refine relit (v := 7) (by decide +kernel) ?_
  refine xilo (v := 0) F hP 0 rfl 7 (by decide +kernel) (by decide +kernel) (by decide) (by decide +kernel) dX11_copies_20 ?_
  refine xist (f' := fun _ => 0) F hP hD hS 1 rfl 7 (by decide +kernel) (by decide +kernel) (by decide) (xup0 _) dX11_copies_21 (fun H locs hP hD hS => ?_)
  have hP : va_P g vwCl [(h0, .inl (aC 0, 13, .inl (fun _ => 0))), (h1, .inl (aC 0, 13, .inl (fun _ => 0)))] H := hP
  have hD : va_D A [(h0, .inl (aC 0, 13, .inl (fun _ => 0))), (h1, .inl (aC 0, 13, .inl (fun _ => 0)))] := hD
  refine lv_iinc (v := 8) (lv' := [(4, .int 8), (0, .ref h0), (1, .int 0), (2, .ref h1), (3, .int 0)]) hx hb dX11_copies_22 hl (k := 0) rfl (by decide +kernel) (by decide) rfl (fun ls hl => ?_)
  refine lv_goto (tgt := 3) hx hb dX11_copies_25 (by decide) ?_
  refine lv_iload hx hb dX11_copies_3 (lv_at hl 0 rfl) ?_
  refine lv_bipush (v := 13) hx hb dX11_copies_5 (by decide) ?_
  refine lv_icmp_ge (tgt := 28) hx hb dX11_copies_7 (by decide) (fun c_ => absurd c_ (by decide +kernel)) (fun _ => ?_)
  refine lv_aload_n hx hb dX11_copies_10 rfl (lv_at hl 3 rfl) ?_
  refine lv_iload_n hx hb dX11_copies_11 rfl (lv_at hl 4 rfl) ?_
  refine lv_iload hx hb dX11_copies_12 (lv_at hl 0 rfl) ?_
  refine lv_iadd hx hb dX11_copies_14 ?_
  refine relit (v := 8) (by decide +kernel) ?_
  refine lv_aload_n hx hb dX11_copies_15 rfl (lv_at hl 1 rfl) ?_
  refine lv_iload_n hx hb dX11_copies_16 rfl (lv_at hl 2 rfl) ?_
  refine lv_iload hx hb dX11_copies_17 (lv_at hl 0 rfl) ?_
  refine lv_iadd hx hb dX11_copies_19 ?_
  refine relit (v := 8) (by decide +kernel) ?_
  refine xilo (v := 0) F hP 0 rfl 8 (by decide +kernel) (by decide +kernel) (by decide) (by decide +kernel) dX11_copies_20 ?_
  refine xist (f' := fun _ => 0) F hP hD hS 1 rfl 8 (by decide +kernel) (by decide +kernel) (by decide) (xup0 _) dX11_copies_21 (fun H locs hP hD hS => ?_)
  have hP : va_P g vwCl [(h0, .inl (aC 0, 13, .inl (fun _ => 0))), (h1, .inl (aC 0, 13, .inl (fun _ => 0)))] H := hP
  have hD : va_D A [(h0, .inl (aC 0, 13, .inl (fun _ => 0))), (h1, .inl (aC 0, 13, .inl (fun _ => 0)))] := hD
  refine lv_iinc (v := 9) (lv' := [(4, .int 9), (0, .ref h0), (1, .int 0), (2, .ref h1), (3, .int 0)]) hx hb dX11_copies_22 hl (k := 0) rfl (by decide +kernel) (by decide) rfl (fun ls hl => ?_)
  refine lv_goto (tgt := 3) hx hb dX11_copies_25 (by decide) ?_
  refine lv_iload hx hb dX11_copies_3 (lv_at hl 0 rfl) ?_
  refine lv_bipush (v := 13) hx hb dX11_copies_5 (by decide) ?_
  refine lv_icmp_ge (tgt := 28) hx hb dX11_copies_7 (by decide) (fun c_ => absurd c_ (by decide +kernel)) (fun _ => ?_)
  refine lv_aload_n hx hb dX11_copies_10 rfl (lv_at hl 3 rfl) ?_
  refine lv_iload_n hx hb dX11_copies_11 rfl (lv_at hl 4 rfl) ?_
  refine lv_iload hx hb dX11_copies_12 (lv_at hl 0 rfl) ?_
  refine lv_iadd hx hb dX11_copies_14 ?_
  refine relit (v := 9) (by decide +kernel) ?_
  refine lv_aload_n hx hb dX11_copies_15 rfl (lv_at hl 1 rfl) ?_
  refine lv_iload_n hx hb dX11_copies_16 rfl (lv_at hl 2 rfl) ?_
  refine lv_iload hx hb dX11_copies_17 (lv_at hl 0 rfl) ?_
  refine lv_iadd hx hb dX11_copies_19 ?_
  refine relit (v := 9) (by decide +kernel) ?_
  refine xilo (v := 0) F hP 0 rfl 9 (by decide +kernel) (by decide +kernel) (by decide) (by decide +kernel) dX11_copies_20 ?_
  refine xist (f' := fun _ => 0) F hP hD hS 1 rfl 9 (by decide +kernel) (by decide +kernel) (by decide) (xup0 _) dX11_copies_21 (fun H locs hP hD hS => ?_)
  have hP : va_P g vwCl [(h0, .inl (aC 0, 13, .inl (fun _ => 0))), (h1, .inl (aC 0, 13, .inl (fun _ => 0)))] H := hP
  have hD : va_D A [(h0, .inl (aC 0, 13, .inl (fun _ => 0))), (h1, .inl (aC 0, 13, .inl (fun _ => 0)))] := hD
  refine lv_iinc (v := 10) (lv' := [(4, .int 10), (0, .ref h0), (1, .int 0), (2, .ref h1), (3, .int 0)]) hx hb dX11_copies_22 hl (k := 0) rfl (by decide +kernel) (by decide) rfl (fun ls hl => ?_)
  refine lv_goto (tgt := 3) hx hb dX11_copies_25 (by decide) ?_
  refine lv_iload hx hb dX11_copies_3 (lv_at hl 0 rfl) ?_
  refine lv_bipush (v := 13) hx hb dX11_copies_5 (by decide) ?_
  refine lv_icmp_ge (tgt := 28) hx hb dX11_copies_7 (by decide) (fun c_ => absurd c_ (by decide +kernel)) (fun _ => ?_)
  refine lv_aload_n hx hb dX11_copies_10 rfl (lv_at hl 3 rfl) ?_
  refine lv_iload_n hx hb dX11_copies_11 rfl (lv_at hl 4 rfl) ?_
  refine lv_iload hx hb dX11_copies_12 (lv_at hl 0 rfl) ?_
  refine lv_iadd hx hb dX11_copies_14 ?_
  refine relit (v := 10) (by decide +kernel) ?_
  refine lv_aload_n hx hb dX11_copies_15 rfl (lv_at hl 1 rfl) ?_
  refine lv_iload_n hx hb dX11_copies_16 rfl (lv_at hl 2 rfl) ?_
  refine lv_iload hx hb dX11_copies_17 (lv_at hl 0 rfl) ?_
  refine lv_iadd hx hb dX11_copies_19 ?_
  refine relit (v := 10) (by decide +kernel) ?_
  refine xilo (v := 0) F hP 0 rfl 10 (by decide +kernel) (by decide +kernel) (by decide) (by decide +kernel) dX11_copies_20 ?_
  refine xist (f' := fun _ => 0) F hP hD hS 1 rfl 10 (by decide +kernel) (by decide +kernel) (by decide) (xup0 _) dX11_copies_21 (fun H locs hP hD hS => ?_)
  have hP : va_P g vwCl [(h0, .inl (aC 0, 13, .inl (fun _ => 0))), (h1, .inl (aC 0, 13, .inl (fun _ => 0)))] H := hP
  have hD : va_D A [(h0, .inl (aC 0, 13, .inl (fun _ => 0))), (h1, .inl (aC 0, 13, .inl (fun _ => 0)))] := hD
  refine lv_iinc (v := 11) (lv' := [(4, .int 11), (0, .ref h0), (1, .int 0), (2, .ref h1), (3, .int 0)]) hx hb dX11_copies_22 hl (k := 0) rfl (by decide +kernel) (by decide) rfl (fun ls hl => ?_)
  refine lv_goto (tgt := 3) hx hb dX11_copies_25 (by decide) ?_
  refine lv_iload hx hb dX11_copies_3 (lv_at hl 0 rfl) ?_
  refine lv_bipush (v := 13) hx hb dX11_copies_5 (by decide) ?_
  refine lv_icmp_ge (tgt := 28) hx hb dX11_copies_7 (by decide) (fun c_ => absurd c_ (by decide +kernel)) (fun _ => ?_)
  refine lv_aload_n hx hb dX11_copies_10 rfl (lv_at hl 3 rfl) ?_
  refine lv_iload_n hx hb dX11_copies_11 rfl (lv_at hl 4 rfl) ?_
  refine lv_iload hx hb dX11_copies_12 (lv_at hl 0 rfl) ?_
  refine lv_iadd hx hb dX11_copies_14 ?_
  refine relit (v := 11) (by decide +kernel) ?_
  refine lv_aload_n hx hb dX11_copies_15 rfl (lv_at hl 1 rfl) ?_
  refine lv_iload_n hx hb dX11_copies_16 rfl (lv_at hl 2 rfl) ?_
  refine lv_iload hx hb dX11_copies_17 (lv_at hl 0 rfl) ?_
  refine lv_iadd hx hb dX11_copies_19 ?_
  refine relit (v := 11) (by decide +kernel) ?_
  refine xilo (v := 0) F hP 0 rfl 11 (by decide +kernel) (by decide +kernel) (by decide) (by decide +kernel) dX11_copies_20 ?_
  refine xist (f' := fun _ => 0) F hP hD hS 1 rfl 11 (by decide +kernel) (by decide +kernel) (by decide) (xup0 _) dX11_copies_21 (fun H locs hP hD hS => ?_)
  have hP : va_P g vwCl [(h0, .inl (aC 0, 13, .inl (fun _ => 0))), (h1, .inl (aC 0, 13, .inl (fun _ => 0)))] H := hP
  have hD : va_D A [(h0, .inl (aC 0, 13, .inl (fun _ => 0))), (h1, .inl (aC 0, 13, .inl (fun _ => 0)))] := hD
  refine lv_iinc (v := 12) (lv' := [(4, .int 12), (0, .ref h0), (1, .int 0), (2, .ref h1), (3, .int 0)]) hx hb dX11_copies_22 hl (k := 0) rfl (by decide +kernel) (by decide) rfl (fun ls hl => ?_)
  refine lv_goto (tgt := 3) hx hb dX11_copies_25 (by decide) ?_
  refine lv_iload hx hb dX11_copies_3 (lv_at hl 0 rfl) ?_
  refine lv_bipush (v := 13) hx hb dX11_copies_5 (by decide) ?_
  refine lv_icmp_ge (tgt := 28) hx hb dX11_copies_7 (by decide) (fun c_ => absurd c_ (by decide +kernel)) (fun _ => ?_)
  refine lv_aload_n hx hb dX11_copies_10 rfl (lv_at hl 3 rfl) ?_
  refine lv_iload_n hx hb dX11_copies_11 rfl (lv_at hl 4 rfl) ?_
  refine lv_iload hx hb dX11_copies_12 (lv_at hl 0 rfl) ?_
  refine lv_iadd hx hb dX11_copies_14 ?_
  refine relit (v := 12) (by decide +kernel) ?_
  refine lv_aload_n hx hb dX11_copies_15 rfl (lv_at hl 1 rfl) ?_
  refine lv_iload_n hx hb dX11_copies_16 rfl (lv_at hl 2 rfl) ?_
  refine lv_iload hx hb dX11_copies_17 (lv_at hl 0 rfl) ?_
  refine lv_iadd hx hb dX11_copies_19 ?_
  refine relit (v := 12) (by decide +kernel) ?_
  refine xilo (v := 0) F hP 0 rfl 12 (by decide +kernel) (by decide +kernel) (by decide) (by decide +kernel) dX11_copies_20 ?_
  refine xist (f' := fun _ => 0) F hP hD hS 1 rfl 12 (by decide +kernel) (by decide +kernel) (by decide) (xup0 _) dX11_copies_21 (fun H locs hP hD hS => ?_)
  have hP : va_P g vwCl [(h0, .inl (aC 0, 13, .inl (fun _ => 0))), (h1, .inl (aC 0, 13, .inl (fun _ => 0)))] H := hP
  have hD : va_D A [(h0, .inl (aC 0, 13, .inl (fun _ => 0))), (h1, .inl (aC 0, 13, .inl (fun _ => 0)))] := hD
  refine lv_iinc (v := 13) (lv' := [(4, .int 13), (0, .ref h0), (1, .int 0), (2, .ref h1), (3, .int 0)]) hx hb dX11_copies_22 hl (k := 0) rfl (by decide +kernel) (by decide) rfl (fun ls hl => ?_)
  refine lv_goto (tgt := 3) hx hb dX11_copies_25 (by decide) ?_
  refine lv_iload hx hb dX11_copies_3 (lv_at hl 0 rfl) ?_
  refine lv_bipush (v := 13) hx hb dX11_copies_5 (by decide) ?_
  refine lv_icmp_ge (tgt := 28) hx hb dX11_copies_7 (by decide) (fun _ => ?_) (fun c_ => absurd (by decide +kernel) c_)
  have hP9 := hP.sub (ws' := [(h0, .inl (aC 0, 13, .inl (fun _ => 0))), (h1, .inl (aC 0, 13, .inl (fun _ => 0)))]) [0, 1] rfl
  have hD9 := hD.sub (ws' := [(h0, .inl (aC 0, 13, .inl (fun _ => 0))), (h1, .inl (aC 0, 13, .inl (fun _ => 0)))]) [0, 1] (by decide) rfl
  exact rV () hx hb hr hlk hS trivial hP9 hD9 (Nat.le_of_ble_eq_true rfl) (Nat.le_of_ble_eq_true rfl) dX11_copies_28

set_option maxHeartbeats 4000000 in
set_option maxRecDepth 100000 in
theorem k_copiesL (l : Launch) (g : va_G) (aC : Nat → ClassId) (aM : Nat → Nat) (h0 h1 : Nat) (f : Nat → Int32) : Ct l g aC aM yX11_copies cX11_copies 5 none 1 [.ref h0, .int 0, .ref h1, .int 0] [(h0, .inl (aC 0, 13, .inl (fun _ => 0))), (h1, .inl (aC 0, 13, .inl f))] (QV g (fun (u : Nat → Int32) => True) (fun (u : Nat → Int32) => [(h0, .inl (aC 0, 13, .inl (fun _ => 0))), (h1, .inl (aC 0, 13, .inl u))])) 0 0 := by
  refine Ct.mk (by decide) (Nat.le_of_ble_eq_true rfl) ?_
  intro p e s m below meth c A ls hx hb hml hown hts hr hlk hnm hK hA hM hM2 hP hD hS hl
  have hown : s.vm.findClass RX11 = some m.cls := hown
  have F : Fx p s m _ c cX11_copies 5 RX11 g aC aM A := ⟨hx, hb, hml, hown, hts, hK, hA, hM, hM2⟩
  have hl : lv_has ls 5 [(0, .ref h0), (1, .int 0), (2, .ref h1), (3, .int 0)] := hl
  refine lv_iconst (v := 0) hx hb dX11_copies_0 (by decide) ?_
  refine lv_istore (lv' := [(4, .int 0), (0, .ref h0), (1, .int 0), (2, .ref h1), (3, .int 0)]) hx hb dX11_copies_1 hl (by decide) rfl (fun ls hl => ?_)
  refine lv_iload hx hb dX11_copies_3 (lv_at hl 0 rfl) ?_
  refine lv_bipush (v := 13) hx hb dX11_copies_5 (by decide) ?_
  refine lv_icmp_ge (tgt := 28) hx hb dX11_copies_7 (by decide) (fun c_ => absurd c_ (by decide +kernel)) (fun _ => ?_)
  refine lv_aload_n hx hb dX11_copies_10 rfl (lv_at hl 3 rfl) ?_
  refine lv_iload_n hx hb dX11_copies_11 rfl (lv_at hl 4 rfl) ?_
  refine lv_iload hx hb dX11_copies_12 (lv_at hl 0 rfl) ?_
  refine lv_iadd hx hb dX11_copies_14 ?_
  refine relit (v := 0) (by decide +kernel) ?_
  refine lv_aload_n hx hb dX11_copies_15 rfl (lv_at hl 1 rfl) ?_
  refine lv_iload_n hx hb dX11_copies_16 rfl (lv_at hl 2 rfl) ?_
  refine lv_iload hx hb dX11_copies_17 (lv_at hl 0 rfl) ?_
  refine lv_iadd hx hb dX11_copies_19 ?_
  refine relit (v := 0) (by decide +kernel) ?_
  refine xilo (v := 0) F hP 0 rfl 0 (by decide +kernel) (by decide +kernel) (by decide) (by decide +kernel) dX11_copies_20 ?_
  refine xistE F hP hD hS 1 rfl 0 (by decide +kernel) (by decide +kernel) (by decide) dX11_copies_21 (fun f_2 H locs hP hD hS => ?_)
  have hP : va_P g vwCl [(h0, .inl (aC 0, 13, .inl (fun _ => 0))), (h1, .inl (aC 0, 13, .inl f_2))] H := hP
  have hD : va_D A [(h0, .inl (aC 0, 13, .inl (fun _ => 0))), (h1, .inl (aC 0, 13, .inl f_2))] := hD
  refine lv_iinc (v := 1) (lv' := [(4, .int 1), (0, .ref h0), (1, .int 0), (2, .ref h1), (3, .int 0)]) hx hb dX11_copies_22 hl (k := 0) rfl (by decide +kernel) (by decide) rfl (fun ls hl => ?_)
  refine lv_goto (tgt := 3) hx hb dX11_copies_25 (by decide) ?_
  refine lv_iload hx hb dX11_copies_3 (lv_at hl 0 rfl) ?_
  refine lv_bipush (v := 13) hx hb dX11_copies_5 (by decide) ?_
  refine lv_icmp_ge (tgt := 28) hx hb dX11_copies_7 (by decide) (fun c_ => absurd c_ (by decide +kernel)) (fun _ => ?_)
  refine lv_aload_n hx hb dX11_copies_10 rfl (lv_at hl 3 rfl) ?_
  refine lv_iload_n hx hb dX11_copies_11 rfl (lv_at hl 4 rfl) ?_
  refine lv_iload hx hb dX11_copies_12 (lv_at hl 0 rfl) ?_
  refine lv_iadd hx hb dX11_copies_14 ?_
  refine relit (v := 1) (by decide +kernel) ?_
  refine lv_aload_n hx hb dX11_copies_15 rfl (lv_at hl 1 rfl) ?_
  refine lv_iload_n hx hb dX11_copies_16 rfl (lv_at hl 2 rfl) ?_
  refine lv_iload hx hb dX11_copies_17 (lv_at hl 0 rfl) ?_
  refine lv_iadd hx hb dX11_copies_19 ?_
  refine relit (v := 1) (by decide +kernel) ?_
  refine xilo (v := 0) F hP 0 rfl 1 (by decide +kernel) (by decide +kernel) (by decide) (by decide +kernel) dX11_copies_20 ?_
  refine xistE F hP hD hS 1 rfl 1 (by decide +kernel) (by decide +kernel) (by decide) dX11_copies_21 (fun f_4 H locs hP hD hS => ?_)
  have hP : va_P g vwCl [(h0, .inl (aC 0, 13, .inl (fun _ => 0))), (h1, .inl (aC 0, 13, .inl f_4))] H := hP
  have hD : va_D A [(h0, .inl (aC 0, 13, .inl (fun _ => 0))), (h1, .inl (aC 0, 13, .inl f_4))] := hD
  refine lv_iinc (v := 2) (lv' := [(4, .int 2), (0, .ref h0), (1, .int 0), (2, .ref h1), (3, .int 0)]) hx hb dX11_copies_22 hl (k := 0) rfl (by decide +kernel) (by decide) rfl (fun ls hl => ?_)
  refine lv_goto (tgt := 3) hx hb dX11_copies_25 (by decide) ?_
  refine lv_iload hx hb dX11_copies_3 (lv_at hl 0 rfl) ?_
  refine lv_bipush (v := 13) hx hb dX11_copies_5 (by decide) ?_
  refine lv_icmp_ge (tgt := 28) hx hb dX11_copies_7 (by decide) (fun c_ => absurd c_ (by decide +kernel)) (fun _ => ?_)
  refine lv_aload_n hx hb dX11_copies_10 rfl (lv_at hl 3 rfl) ?_
  refine lv_iload_n hx hb dX11_copies_11 rfl (lv_at hl 4 rfl) ?_
  refine lv_iload hx hb dX11_copies_12 (lv_at hl 0 rfl) ?_
  refine lv_iadd hx hb dX11_copies_14 ?_
  refine relit (v := 2) (by decide +kernel) ?_
  refine lv_aload_n hx hb dX11_copies_15 rfl (lv_at hl 1 rfl) ?_
  refine lv_iload_n hx hb dX11_copies_16 rfl (lv_at hl 2 rfl) ?_
  refine lv_iload hx hb dX11_copies_17 (lv_at hl 0 rfl) ?_
  refine lv_iadd hx hb dX11_copies_19 ?_
  refine relit (v := 2) (by decide +kernel) ?_
  refine xilo (v := 0) F hP 0 rfl 2 (by decide +kernel) (by decide +kernel) (by decide) (by decide +kernel) dX11_copies_20 ?_
  refine xistE F hP hD hS 1 rfl 2 (by decide +kernel) (by decide +kernel) (by decide) dX11_copies_21 (fun f_6 H locs hP hD hS => ?_)
  have hP : va_P g vwCl [(h0, .inl (aC 0, 13, .inl (fun _ => 0))), (h1, .inl (aC 0, 13, .inl f_6))] H := hP
  have hD : va_D A [(h0, .inl (aC 0, 13, .inl (fun _ => 0))), (h1, .inl (aC 0, 13, .inl f_6))] := hD
  refine lv_iinc (v := 3) (lv' := [(4, .int 3), (0, .ref h0), (1, .int 0), (2, .ref h1), (3, .int 0)]) hx hb dX11_copies_22 hl (k := 0) rfl (by decide +kernel) (by decide) rfl (fun ls hl => ?_)
  refine lv_goto (tgt := 3) hx hb dX11_copies_25 (by decide) ?_
  refine lv_iload hx hb dX11_copies_3 (lv_at hl 0 rfl) ?_
  refine lv_bipush (v := 13) hx hb dX11_copies_5 (by decide) ?_
  refine lv_icmp_ge (tgt := 28) hx hb dX11_copies_7 (by decide) (fun c_ => absurd c_ (by decide +kernel)) (fun _ => ?_)
  refine lv_aload_n hx hb dX11_copies_10 rfl (lv_at hl 3 rfl) ?_
  refine lv_iload_n hx hb dX11_copies_11 rfl (lv_at hl 4 rfl) ?_
  refine lv_iload hx hb dX11_copies_12 (lv_at hl 0 rfl) ?_
  refine lv_iadd hx hb dX11_copies_14 ?_
  refine relit (v := 3) (by decide +kernel) ?_
  refine lv_aload_n hx hb dX11_copies_15 rfl (lv_at hl 1 rfl) ?_
  refine lv_iload_n hx hb dX11_copies_16 rfl (lv_at hl 2 rfl) ?_
  refine lv_iload hx hb dX11_copies_17 (lv_at hl 0 rfl) ?_
  refine lv_iadd hx hb dX11_copies_19 ?_
  refine relit (v := 3) (by decide +kernel) ?_
  refine xilo (v := 0) F hP 0 rfl 3 (by decide +kernel) (by decide +kernel) (by decide) (by decide +kernel) dX11_copies_20 ?_
  refine xistE F hP hD hS 1 rfl 3 (by decide +kernel) (by decide +kernel) (by decide) dX11_copies_21 (fun f_8 H locs hP hD hS => ?_)
  have hP : va_P g vwCl [(h0, .inl (aC 0, 13, .inl (fun _ => 0))), (h1, .inl (aC 0, 13, .inl f_8))] H := hP
  have hD : va_D A [(h0, .inl (aC 0, 13, .inl (fun _ => 0))), (h1, .inl (aC 0, 13, .inl f_8))] := hD
  refine lv_iinc (v := 4) (lv' := [(4, .int 4), (0, .ref h0), (1, .int 0), (2, .ref h1), (3, .int 0)]) hx hb dX11_copies_22 hl (k := 0) rfl (by decide +kernel) (by decide) rfl (fun ls hl => ?_)
  refine lv_goto (tgt := 3) hx hb dX11_copies_25 (by decide) ?_
  refine lv_iload hx hb dX11_copies_3 (lv_at hl 0 rfl) ?_
  refine lv_bipush (v := 13) hx hb dX11_copies_5 (by decide) ?_
  refine lv_icmp_ge (tgt := 28) hx hb dX11_copies_7 (by decide) (fun c_ => absurd c_ (by decide +kernel)) (fun _ => ?_)
  refine lv_aload_n hx hb dX11_copies_10 rfl (lv_at hl 3 rfl) ?_
  refine lv_iload_n hx hb dX11_copies_11 rfl (lv_at hl 4 rfl) ?_
  refine lv_iload hx hb dX11_copies_12 (lv_at hl 0 rfl) ?_
  refine lv_iadd hx hb dX11_copies_14 ?_
  refine relit (v := 4) (by decide +kernel) ?_
  refine lv_aload_n hx hb dX11_copies_15 rfl (lv_at hl 1 rfl) ?_
  refine lv_iload_n hx hb dX11_copies_16 rfl (lv_at hl 2 rfl) ?_
  refine lv_iload hx hb dX11_copies_17 (lv_at hl 0 rfl) ?_
  refine lv_iadd hx hb dX11_copies_19 ?_
  refine relit (v := 4) (by decide +kernel) ?_
  refine xilo (v := 0) F hP 0 rfl 4 (by decide +kernel) (by decide +kernel) (by decide) (by decide +kernel) dX11_copies_20 ?_
  refine xistE F hP hD hS 1 rfl 4 (by decide +kernel) (by decide +kernel) (by decide) dX11_copies_21 (fun f_10 H locs hP hD hS => ?_)
  have hP : va_P g vwCl [(h0, .inl (aC 0, 13, .inl (fun _ => 0))), (h1, .inl (aC 0, 13, .inl f_10))] H := hP
  have hD : va_D A [(h0, .inl (aC 0, 13, .inl (fun _ => 0))), (h1, .inl (aC 0, 13, .inl f_10))] := hD
  refine lv_iinc (v := 5) (lv' := [(4, .int 5), (0, .ref h0), (1, .int 0), (2, .ref h1), (3, .int 0)]) hx hb dX11_copies_22 hl (k := 0) rfl (by decide +kernel) (by decide) rfl (fun ls hl => ?_)
  refine lv_goto (tgt := 3) hx hb dX11_copies_25 (by decide) ?_
  refine lv_iload hx hb dX11_copies_3 (lv_at hl 0 rfl) ?_
  refine lv_bipush (v := 13) hx hb dX11_copies_5 (by decide) ?_
  refine lv_icmp_ge (tgt := 28) hx hb dX11_copies_7 (by decide) (fun c_ => absurd c_ (by decide +kernel)) (fun _ => ?_)
  refine lv_aload_n hx hb dX11_copies_10 rfl (lv_at hl 3 rfl) ?_
  refine lv_iload_n hx hb dX11_copies_11 rfl (lv_at hl 4 rfl) ?_
  refine lv_iload hx hb dX11_copies_12 (lv_at hl 0 rfl) ?_
  refine lv_iadd hx hb dX11_copies_14 ?_
  refine relit (v := 5) (by decide +kernel) ?_
  refine lv_aload_n hx hb dX11_copies_15 rfl (lv_at hl 1 rfl) ?_
  refine lv_iload_n hx hb dX11_copies_16 rfl (lv_at hl 2 rfl) ?_
  refine lv_iload hx hb dX11_copies_17 (lv_at hl 0 rfl) ?_
  refine lv_iadd hx hb dX11_copies_19 ?_
  refine relit (v := 5) (by decide +kernel) ?_
  refine xilo (v := 0) F hP 0 rfl 5 (by decide +kernel) (by decide +kernel) (by decide) (by decide +kernel) dX11_copies_20 ?_
  refine xistE F hP hD hS 1 rfl 5 (by decide +kernel) (by decide +kernel) (by decide) dX11_copies_21 (fun f_12 H locs hP hD hS => ?_)
  have hP : va_P g vwCl [(h0, .inl (aC 0, 13, .inl (fun _ => 0))), (h1, .inl (aC 0, 13, .inl f_12))] H := hP
  have hD : va_D A [(h0, .inl (aC 0, 13, .inl (fun _ => 0))), (h1, .inl (aC 0, 13, .inl f_12))] := hD
  refine lv_iinc (v := 6) (lv' := [(4, .int 6), (0, .ref h0), (1, .int 0), (2, .ref h1), (3, .int 0)]) hx hb dX11_copies_22 hl (k := 0) rfl (by decide +kernel) (by decide) rfl (fun ls hl => ?_)
  refine lv_goto (tgt := 3) hx hb dX11_copies_25 (by decide) ?_
  refine lv_iload hx hb dX11_copies_3 (lv_at hl 0 rfl) ?_
  refine lv_bipush (v := 13) hx hb dX11_copies_5 (by decide) ?_
  refine lv_icmp_ge (tgt := 28) hx hb dX11_copies_7 (by decide) (fun c_ => absurd c_ (by decide +kernel)) (fun _ => ?_)
  refine lv_aload_n hx hb dX11_copies_10 rfl (lv_at hl 3 rfl) ?_
  refine lv_iload_n hx hb dX11_copies_11 rfl (lv_at hl 4 rfl) ?_
  refine lv_iload hx hb dX11_copies_12 (lv_at hl 0 rfl) ?_
  refine lv_iadd hx hb dX11_copies_14 ?_
  refine relit (v := 6) (by decide +kernel) ?_
  refine lv_aload_n hx hb dX11_copies_15 rfl (lv_at hl 1 rfl) ?_
  refine lv_iload_n hx hb dX11_copies_16 rfl (lv_at hl 2 rfl) ?_
  refine lv_iload hx hb dX11_copies_17 (lv_at hl 0 rfl) ?_
  refine lv_iadd hx hb dX11_copies_19 ?_
  refine relit (v := 6) (by decide +kernel) ?_
  refine xilo (v := 0) F hP 0 rfl 6 (by decide +kernel) (by decide +kernel) (by decide) (by decide +kernel) dX11_copies_20 ?_
  refine xistE F hP hD hS 1 rfl 6 (by decide +kernel) (by decide +kernel) (by decide) dX11_copies_21 (fun f_14 H locs hP hD hS => ?_)
  have hP : va_P g vwCl [(h0, .inl (aC 0, 13, .inl (fun _ => 0))), (h1, .inl (aC 0, 13, .inl f_14))] H := hP
  have hD : va_D A [(h0, .inl (aC 0, 13, .inl (fun _ => 0))), (h1, .inl (aC 0, 13, .inl f_14))] := hD
  refine lv_iinc (v := 7) (lv' := [(4, .int 7), (0, .ref h0), (1, .int 0), (2, .ref h1), (3, .int 0)]) hx hb dX11_copies_22 hl (k := 0) rfl (by decide +kernel) (by decide) rfl (fun ls hl => ?_)
  refine lv_goto (tgt := 3) hx hb dX11_copies_25 (by decide) ?_
  refine lv_iload hx hb dX11_copies_3 (lv_at hl 0 rfl) ?_
  refine lv_bipush (v := 13) hx hb dX11_copies_5 (by decide) ?_
  refine lv_icmp_ge (tgt := 28) hx hb dX11_copies_7 (by decide) (fun c_ => absurd c_ (by decide +kernel)) (fun _ => ?_)
  refine lv_aload_n hx hb dX11_copies_10 rfl (lv_at hl 3 rfl) ?_
  refine lv_iload_n hx hb dX11_copies_11 rfl (lv_at hl 4 rfl) ?_
  refine lv_iload hx hb dX11_copies_12 (lv_at hl 0 rfl) ?_
  refine lv_iadd hx hb dX11_copies_14 ?_
  refine relit (v := 7) (by decide +kernel) ?_
  refine lv_aload_n hx hb dX11_copies_15 rfl (lv_at hl 1 rfl) ?_
  refine lv_iload_n hx hb dX11_copies_16 rfl (lv_at hl 2 rfl) ?_
  refine lv_iload hx hb dX11_copies_17 (lv_at hl 0 rfl) ?_
  refine lv_iadd hx hb dX11_copies_19 ?_
  refine relit (v := 7) (by decide +kernel) ?_
  refine xilo (v := 0) F hP 0 rfl 7 (by decide +kernel) (by decide +kernel) (by decide) (by decide +kernel) dX11_copies_20 ?_
  refine xistE F hP hD hS 1 rfl 7 (by decide +kernel) (by decide +kernel) (by decide) dX11_copies_21 (fun f_16 H locs hP hD hS => ?_)
  have hP : va_P g vwCl [(h0, .inl (aC 0, 13, .inl (fun _ => 0))), (h1, .inl (aC 0, 13, .inl f_16))] H := hP
  have hD : va_D A [(h0, .inl (aC 0, 13, .inl (fun _ => 0))), (h1, .inl (aC 0, 13, .inl f_16))] := hD
  refine lv_iinc (v := 8) (lv' := [(4, .int 8), (0, .ref h0), (1, .int 0), (2, .ref h1), (3, .int 0)]) hx hb dX11_copies_22 hl (k := 0) rfl (by decide +kernel) (by decide) rfl (fun ls hl => ?_)
  refine lv_goto (tgt := 3) hx hb dX11_copies_25 (by decide) ?_
  refine lv_iload hx hb dX11_copies_3 (lv_at hl 0 rfl) ?_
  refine lv_bipush (v := 13) hx hb dX11_copies_5 (by decide) ?_
  refine lv_icmp_ge (tgt := 28) hx hb dX11_copies_7 (by decide) (fun c_ => absurd c_ (by decide +kernel)) (fun _ => ?_)
  refine lv_aload_n hx hb dX11_copies_10 rfl (lv_at hl 3 rfl) ?_
  refine lv_iload_n hx hb dX11_copies_11 rfl (lv_at hl 4 rfl) ?_
  refine lv_iload hx hb dX11_copies_12 (lv_at hl 0 rfl) ?_
  refine lv_iadd hx hb dX11_copies_14 ?_
  refine relit (v := 8) (by decide +kernel) ?_
  refine lv_aload_n hx hb dX11_copies_15 rfl (lv_at hl 1 rfl) ?_
  refine lv_iload_n hx hb dX11_copies_16 rfl (lv_at hl 2 rfl) ?_
  refine lv_iload hx hb dX11_copies_17 (lv_at hl 0 rfl) ?_
  refine lv_iadd hx hb dX11_copies_19 ?_
  refine relit (v := 8) (by decide +kernel) ?_
  refine xilo (v := 0) F hP 0 rfl 8 (by decide +kernel) (by decide +kernel) (by decide) (by decide +kernel) dX11_copies_20 ?_
  refine xistE F hP hD hS 1 rfl 8 (by decide +kernel) (by decide +kernel) (by decide) dX11_copies_21 (fun f_18 H locs hP hD hS => ?_)
  have hP : va_P g vwCl [(h0, .inl (aC 0, 13, .inl (fun _ => 0))), (h1, .inl (aC 0, 13, .inl f_18))] H := hP
  have hD : va_D A [(h0, .inl (aC 0, 13, .inl (fun _ => 0))), (h1, .inl (aC 0, 13, .inl f_18))] := hD
  refine lv_iinc (v := 9) (lv' := [(4, .int 9), (0, .ref h0), (1, .int 0), (2, .ref h1), (3, .int 0)]) hx hb dX11_copies_22 hl (k := 0) rfl (by decide +kernel) (by decide) rfl (fun ls hl => ?_)
  refine lv_goto (tgt := 3) hx hb dX11_copies_25 (by decide) ?_
  refine lv_iload hx hb dX11_copies_3 (lv_at hl 0 rfl) ?_
  refine lv_bipush (v := 13) hx hb dX11_copies_5 (by decide) ?_
  refine lv_icmp_ge (tgt := 28) hx hb dX11_copies_7 (by decide) (fun c_ => absurd c_ (by decide +kernel)) (fun _ => ?_)
  refine lv_aload_n hx hb dX11_copies_10 rfl (lv_at hl 3 rfl) ?_
  refine lv_iload_n hx hb dX11_copies_11 rfl (lv_at hl 4 rfl) ?_
  refine lv_iload hx hb dX11_copies_12 (lv_at hl 0 rfl) ?_
  refine lv_iadd hx hb dX11_copies_14 ?_
  refine relit (v := 9) (by decide +kernel) ?_
  refine lv_aload_n hx hb dX11_copies_15 rfl (lv_at hl 1 rfl) ?_
  refine lv_iload_n hx hb dX11_copies_16 rfl (lv_at hl 2 rfl) ?_
  refine lv_iload hx hb dX11_copies_17 (lv_at hl 0 rfl) ?_
  refine lv_iadd hx hb dX11_copies_19 ?_
  refine relit (v := 9) (by decide +kernel) ?_
  refine xilo (v := 0) F hP 0 rfl 9 (by decide +kernel) (by decide +kernel) (by decide) (by decide +kernel) dX11_copies_20 ?_
  refine xistE F hP hD hS 1 rfl 9 (by decide +kernel) (by decide +kernel) (by decide) dX11_copies_21 (fun f_20 H locs hP hD hS => ?_)
  have hP : va_P g vwCl [(h0, .inl (aC 0, 13, .inl (fun _ => 0))), (h1, .inl (aC 0, 13, .inl f_20))] H := hP
  have hD : va_D A [(h0, .inl (aC 0, 13, .inl (fun _ => 0))), (h1, .inl (aC 0, 13, .inl f_20))] := hD
  refine lv_iinc (v := 10) (lv' := [(4, .int 10), (0, .ref h0), (1, .int 0), (2, .ref h1), (3, .int 0)]) hx hb dX11_copies_22 hl (k := 0) rfl (by decide +kernel) (by decide) rfl (fun ls hl => ?_)
  refine lv_goto (tgt := 3) hx hb dX11_copies_25 (by decide) ?_
  refine lv_iload hx hb dX11_copies_3 (lv_at hl 0 rfl) ?_
  refine lv_bipush (v := 13) hx hb dX11_copies_5 (by decide) ?_
  refine lv_icmp_ge (tgt := 28) hx hb dX11_copies_7 (by decide) (fun c_ => absurd c_ (by decide +kernel)) (fun _ => ?_)
  refine lv_aload_n hx hb dX11_copies_10 rfl (lv_at hl 3 rfl) ?_
  refine lv_iload_n hx hb dX11_copies_11 rfl (lv_at hl 4 rfl) ?_
  refine lv_iload hx hb dX11_copies_12 (lv_at hl 0 rfl) ?_
  refine lv_iadd hx hb dX11_copies_14 ?_
  refine relit (v := 10) (by decide +kernel) ?_
  refine lv_aload_n hx hb dX11_copies_15 rfl (lv_at hl 1 rfl) ?_
  refine lv_iload_n hx hb dX11_copies_16 rfl (lv_at hl 2 rfl) ?_
  refine lv_iload hx hb dX11_copies_17 (lv_at hl 0 rfl) ?_
  refine lv_iadd hx hb dX11_copies_19 ?_
  refine relit (v := 10) (by decide +kernel) ?_
  refine xilo (v := 0) F hP 0 rfl 10 (by decide +kernel) (by decide +kernel) (by decide) (by decide +kernel) dX11_copies_20 ?_
  refine xistE F hP hD hS 1 rfl 10 (by decide +kernel) (by decide +kernel) (by decide) dX11_copies_21 (fun f_22 H locs hP hD hS => ?_)
  have hP : va_P g vwCl [(h0, .inl (aC 0, 13, .inl (fun _ => 0))), (h1, .inl (aC 0, 13, .inl f_22))] H := hP
  have hD : va_D A [(h0, .inl (aC 0, 13, .inl (fun _ => 0))), (h1, .inl (aC 0, 13, .inl f_22))] := hD
  refine lv_iinc (v := 11) (lv' := [(4, .int 11), (0, .ref h0), (1, .int 0), (2, .ref h1), (3, .int 0)]) hx hb dX11_copies_22 hl (k := 0) rfl (by decide +kernel) (by decide) rfl (fun ls hl => ?_)
  refine lv_goto (tgt := 3) hx hb dX11_copies_25 (by decide) ?_
  refine lv_iload hx hb dX11_copies_3 (lv_at hl 0 rfl) ?_
  refine lv_bipush (v := 13) hx hb dX11_copies_5 (by decide) ?_
  refine lv_icmp_ge (tgt := 28) hx hb dX11_copies_7 (by decide) (fun c_ => absurd c_ (by decide +kernel)) (fun _ => ?_)
  refine lv_aload_n hx hb dX11_copies_10 rfl (lv_at hl 3 rfl) ?_
  refine lv_iload_n hx hb dX11_copies_11 rfl (lv_at hl 4 rfl) ?_
  refine lv_iload hx hb dX11_copies_12 (lv_at hl 0 rfl) ?_
  refine lv_iadd hx hb dX11_copies_14 ?_
  refine relit (v := 11) (by decide +kernel) ?_
  refine lv_aload_n hx hb dX11_copies_15 rfl (lv_at hl 1 rfl) ?_
  refine lv_iload_n hx hb dX11_copies_16 rfl (lv_at hl 2 rfl) ?_
  refine lv_iload hx hb dX11_copies_17 (lv_at hl 0 rfl) ?_
  refine lv_iadd hx hb dX11_copies_19 ?_
  refine relit (v := 11) (by decide +kernel) ?_
  refine xilo (v := 0) F hP 0 rfl 11 (by decide +kernel) (by decide +kernel) (by decide) (by decide +kernel) dX11_copies_20 ?_
  refine xistE F hP hD hS 1 rfl 11 (by decide +kernel) (by decide +kernel) (by decide) dX11_copies_21 (fun f_24 H locs hP hD hS => ?_)
  have hP : va_P g vwCl [(h0, .inl (aC 0, 13, .inl (fun _ => 0))), (h1, .inl (aC 0, 13, .inl f_24))] H := hP
  have hD : va_D A [(h0, .inl (aC 0, 13, .inl (fun _ => 0))), (h1, .inl (aC 0, 13, .inl f_24))] := hD
  refine lv_iinc (v := 12) (lv' := [(4, .int 12), (0, .ref h0), (1, .int 0), (2, .ref h1), (3, .int 0)]) hx hb dX11_copies_22 hl (k := 0) rfl (by decide +kernel) (by decide) rfl (fun ls hl => ?_)
  refine lv_goto (tgt := 3) hx hb dX11_copies_25 (by decide) ?_
  refine lv_iload hx hb dX11_copies_3 (lv_at hl 0 rfl) ?_
  refine lv_bipush (v := 13) hx hb dX11_copies_5 (by decide) ?_
  refine lv_icmp_ge (tgt := 28) hx hb dX11_copies_7 (by decide) (fun c_ => absurd c_ (by decide +kernel)) (fun _ => ?_)
  refine lv_aload_n hx hb dX11_copies_10 rfl (lv_at hl 3 rfl) ?_
  refine lv_iload_n hx hb dX11_copies_11 rfl (lv_at hl 4 rfl) ?_
  refine lv_iload hx hb dX11_copies_12 (lv_at hl 0 rfl) ?_
  refine lv_iadd hx hb dX11_copies_14 ?_
  refine relit (v := 12) (by decide +kernel) ?_
  refine lv_aload_n hx hb dX11_copies_15 rfl (lv_at hl 1 rfl) ?_
  refine lv_iload_n hx hb dX11_copies_16 rfl (lv_at hl 2 rfl) ?_
  refine lv_iload hx hb dX11_copies_17 (lv_at hl 0 rfl) ?_
  refine lv_iadd hx hb dX11_copies_19 ?_
  refine relit (v := 12) (by decide +kernel) ?_
  refine xilo (v := 0) F hP 0 rfl 12 (by decide +kernel) (by decide +kernel) (by decide) (by decide +kernel) dX11_copies_20 ?_
  refine xistE F hP hD hS 1 rfl 12 (by decide +kernel) (by decide +kernel) (by decide) dX11_copies_21 (fun f_26 H locs hP hD hS => ?_)
  have hP : va_P g vwCl [(h0, .inl (aC 0, 13, .inl (fun _ => 0))), (h1, .inl (aC 0, 13, .inl f_26))] H := hP
  have hD : va_D A [(h0, .inl (aC 0, 13, .inl (fun _ => 0))), (h1, .inl (aC 0, 13, .inl f_26))] := hD
  refine lv_iinc (v := 13) (lv' := [(4, .int 13), (0, .ref h0), (1, .int 0), (2, .ref h1), (3, .int 0)]) hx hb dX11_copies_22 hl (k := 0) rfl (by decide +kernel) (by decide) rfl (fun ls hl => ?_)
  refine lv_goto (tgt := 3) hx hb dX11_copies_25 (by decide) ?_
  refine lv_iload hx hb dX11_copies_3 (lv_at hl 0 rfl) ?_
  refine lv_bipush (v := 13) hx hb dX11_copies_5 (by decide) ?_
  refine lv_icmp_ge (tgt := 28) hx hb dX11_copies_7 (by decide) (fun _ => ?_) (fun c_ => absurd (by decide +kernel) c_)
  have hP9 := hP.sub (ws' := [(h0, .inl (aC 0, 13, .inl (fun _ => 0))), (h1, .inl (aC 0, 13, .inl f_26))]) [0, 1] rfl
  have hD9 := hD.sub (ws' := [(h0, .inl (aC 0, 13, .inl (fun _ => 0))), (h1, .inl (aC 0, 13, .inl f_26))]) [0, 1] (by decide) rfl
  exact rV f_26 hx hb hr hlk hS trivial hP9 hD9 (Nat.le_of_ble_eq_true rfl) (Nat.le_of_ble_eq_true rfl) dX11_copies_28

theorem tb1902 : (Jvm.Cond.methodLink "StairGangModel" (597 : Nat) ({ cls := "StairGangModel", name := "draws", desc := "(I)I" } : Jvm.MethodName)) ∈ gw := lw_m 1902 (by decide +kernel)
theorem tb1904 : (Jvm.Cond.instanceMethod ({ cls := "StairGangModel", name := "draws", desc := "(I)I" } : Jvm.MethodName)) ∈ gw := lw_m 1904 (by decide +kernel)
theorem tb1905 : (Jvm.Cond.code ({ cls := "StairGangModel", name := "draws", desc := "(I)I" } : Jvm.MethodName) prog_13_method_119_code (2 : Nat) (Option.some Jvm.ClassFile.FieldType.int)) ∈ gw := lw_m 1905 (by decide +kernel)
theorem tv112 : Cond.selects "StairGangModel" ⟨"StairGangModel", "draws", "(I)I"⟩ ⟨"StairGangModel", "draws", "(I)I"⟩ ∈ gw := lw_v 112 (by decide +kernel)
theorem dX11_livesNight_0 : decode cX11_livesNight 0 = .ok (.iconst 0, 1) := by decide +kernel
theorem dX11_livesNight_1 : decode cX11_livesNight 1 = .ok (.istore_n 1, 1) := by decide +kernel
theorem dX11_livesNight_2 : decode cX11_livesNight 2 = .ok (.iload_n 1, 1) := by decide +kernel
theorem dX11_livesNight_3 : decode cX11_livesNight 3 = .ok (.aload_n 0, 1) := by decide +kernel
theorem dX11_livesNight_4 : decode cX11_livesNight 4 = .ok (.getfield 13, 3) := by decide +kernel
theorem dX11_livesNight_7 : decode cX11_livesNight 7 = .ok (.iconst 1, 1) := by decide +kernel
theorem dX11_livesNight_8 : decode cX11_livesNight 8 = .ok (.iaload, 1) := by decide +kernel
theorem dX11_livesNight_9 : decode cX11_livesNight 9 = .ok (.if_icmp .ge 38, 3) := by decide +kernel
theorem dX11_livesNight_47 : decode cX11_livesNight 47 = .ok (.aload_n 0, 1) := by decide +kernel
theorem dX11_livesNight_48 : decode cX11_livesNight 48 = .ok (.iconst 4, 1) := by decide +kernel
theorem dX11_livesNight_49 : decode cX11_livesNight 49 = .ok (.invokevirtual 597, 3) := by decide +kernel
theorem dX11_livesNight_52 : decode cX11_livesNight 52 = .ok (.ifCond .ne 7, 3) := by decide +kernel
theorem dX11_livesNight_55 : decode cX11_livesNight 55 = .ok (.iconst 1, 1) := by decide +kernel
theorem dX11_livesNight_56 : decode cX11_livesNight 56 = .ok (.goto 4, 3) := by decide +kernel
theorem dX11_livesNight_59 : decode cX11_livesNight 59 = .ok (.iconst 0, 1) := by decide +kernel
theorem dX11_livesNight_60 : decode cX11_livesNight 60 = .ok (.istore_n 1, 1) := by decide +kernel
theorem dX11_livesNight_61 : decode cX11_livesNight 61 = .ok (.iconst 0, 1) := by decide +kernel
theorem dX11_livesNight_62 : decode cX11_livesNight 62 = .ok (.istore_n 2, 1) := by decide +kernel
theorem dX11_livesNight_63 : decode cX11_livesNight 63 = .ok (.iload_n 2, 1) := by decide +kernel
theorem dX11_livesNight_64 : decode cX11_livesNight 64 = .ok (.aload_n 0, 1) := by decide +kernel
theorem dX11_livesNight_65 : decode cX11_livesNight 65 = .ok (.getfield 13, 3) := by decide +kernel
theorem dX11_livesNight_68 : decode cX11_livesNight 68 = .ok (.iconst 1, 1) := by decide +kernel
theorem dX11_livesNight_69 : decode cX11_livesNight 69 = .ok (.iaload, 1) := by decide +kernel
theorem dX11_livesNight_70 : decode cX11_livesNight 70 = .ok (.if_icmp .ge 23, 3) := by decide +kernel
theorem dX11_livesNight_93 : decode cX11_livesNight 93 = .ok (.iload_n 1, 1) := by decide +kernel
theorem dX11_livesNight_94 : decode cX11_livesNight 94 = .ok (.ifCond .eq 26, 3) := by decide +kernel
theorem dX11_livesNight_97 : decode cX11_livesNight 97 = .ok (.iload_n 2, 1) := by decide +kernel
theorem dX11_livesNight_98 : decode cX11_livesNight 98 = .ok (.aload_n 0, 1) := by decide +kernel
theorem dX11_livesNight_99 : decode cX11_livesNight 99 = .ok (.getfield 13, 3) := by decide +kernel
theorem dX11_livesNight_102 : decode cX11_livesNight 102 = .ok (.iconst 1, 1) := by decide +kernel
theorem dX11_livesNight_103 : decode cX11_livesNight 103 = .ok (.iaload, 1) := by decide +kernel
theorem dX11_livesNight_104 : decode cX11_livesNight 104 = .ok (.if_icmp .ge 16, 3) := by decide +kernel
theorem dX11_livesNight_120 : decode cX11_livesNight 120 = .ok (.aload_n 0, 1) := by decide +kernel
theorem dX11_livesNight_121 : decode cX11_livesNight 121 = .ok (.getfield 141, 3) := by decide +kernel
theorem dX11_livesNight_124 : decode cX11_livesNight 124 = .ok (.bipush 11, 2) := by decide +kernel
theorem dX11_livesNight_126 : decode cX11_livesNight 126 = .ok (.dup2, 1) := by decide +kernel
theorem dX11_livesNight_127 : decode cX11_livesNight 127 = .ok (.iaload, 1) := by decide +kernel
theorem dX11_livesNight_128 : decode cX11_livesNight 128 = .ok (.iconst 1, 1) := by decide +kernel
theorem dX11_livesNight_129 : decode cX11_livesNight 129 = .ok (.iadd, 1) := by decide +kernel
theorem dX11_livesNight_130 : decode cX11_livesNight 130 = .ok (.iastore, 1) := by decide +kernel
theorem dX11_livesNight_131 : decode cX11_livesNight 131 = .ok (.return_, 1) := by decide +kernel
set_option maxHeartbeats 4000000 in
set_option maxRecDepth 100000 in
theorem k_lives (l : Launch) (g : va_G) (aC : Nat → ClassId) (aM : Nat → Nat) (h0 h1 h2 : Nat) (x0 x1 x2 x3 x4 x5 x6 x7 x8 x9 x11 x12 x13 x14 x15 x16 x17 x18 x19 x20 x21 x22 x23 x24 x25 x26 x27 x28 x29 x30 x31 x32 x33 x34 x35 x36 x37 x38 x39 x40 x41 x42 x43 x44 x45 x46 x47 x48 x49 x50 x51 x52 x53 x54 x56 x57 x58 x59 x60 x61 x62 x63 x64 x65 x66 x67 x68 x69 x70 x71 x72 : Value) (m1 : Int64) (n1 : Int32) : Ct l g aC aM yX11_livesNight cX11_livesNight 3 none 3 [.ref h0] [(h0, .inr (11, [x0, x1, x2, x3, x4, x5, x6, x7, x8, x9, .ref h1, x11, x12, x13, x14, x15, x16, x17, x18, x19, x20, x21, x22, x23, x24, x25, x26, x27, x28, x29, x30, x31, x32, x33, x34, x35, x36, x37, x38, x39, x40, x41, x42, x43, x44, x45, x46, x47, x48, x49, x50, x51, x52, x53, x54, .ref h2, x56, x57, x58, x59, x60, x61, x62, x63, x64, x65, x66, x67, x68, x69, x70, x71, x72, .long m1])), (h1, .inl (aC 0, 14, .inl (fun _ => 0))), (h2, .inl (aC 0, 13, .inl (upd (fun _ => 0) 11 n1)))] (QV g (fun (u : Int64 × Int32) => True) (fun (u : Int64 × Int32) => [(h0, .inr (11, [x0, x1, x2, x3, x4, x5, x6, x7, x8, x9, .ref h1, x11, x12, x13, x14, x15, x16, x17, x18, x19, x20, x21, x22, x23, x24, x25, x26, x27, x28, x29, x30, x31, x32, x33, x34, x35, x36, x37, x38, x39, x40, x41, x42, x43, x44, x45, x46, x47, x48, x49, x50, x51, x52, x53, x54, .ref h2, x56, x57, x58, x59, x60, x61, x62, x63, x64, x65, x66, x67, x68, x69, x70, x71, x72, .long u.1])), (h1, .inl (aC 0, 14, .inl (fun _ => 0))), (h2, .inl (aC 0, 13, .inl (upd (fun _ => 0) 11 u.2)))])) 0 0 := by
  refine Ct.mk (by decide) (Nat.le_of_ble_eq_true rfl) ?_
  intro p e s m below meth c A ls hx hb hml hown hts hr hlk hnm hK hA hM hM2 hP hD hS hl
  have hown : s.vm.findClass RX11 = some m.cls := hown
  have F : Fx p s m _ c cX11_livesNight 3 RX11 g aC aM A := ⟨hx, hb, hml, hown, hts, hK, hA, hM, hM2⟩
  have hl : lv_has ls 3 [(0, .ref h0)] := hl
  refine lv_iconst (v := 0) hx hb dX11_livesNight_0 (by decide) ?_
  refine lv_istore_n (lv' := [(1, .int 0), (0, .ref h0)]) hx hb dX11_livesNight_1 rfl hl (by decide) rfl (fun ls hl => ?_)
  refine lv_iload_n hx hb dX11_livesNight_2 rfl (lv_at hl 0 rfl) ?_
  refine lv_aload_n hx hb dX11_livesNight_3 rfl (lv_at hl 1 rfl) ?_
  refine xget F hP 0 rfl rfl inX11 10 (by decide) tb1192 rfl dX11_livesNight_4 ?_
  refine lv_iconst (v := 1) hx hb dX11_livesNight_7 (by decide) ?_
  refine xilo (v := 0) F hP 1 rfl 1 (by decide +kernel) (by decide +kernel) (by decide) (by decide +kernel) dX11_livesNight_8 ?_
  refine lv_icmp_ge (tgt := 47) hx hb dX11_livesNight_9 (by decide) (fun _ => ?_) (fun c_ => absurd (by decide +kernel) c_)
  refine lv_aload_n hx hb dX11_livesNight_47 rfl (lv_at hl 1 rfl) ?_
  refine lv_iconst (v := 4) hx hb dX11_livesNight_48 (by decide) ?_
  refine goI (wr := [(h1, .inl (aC 0, 14, .inl (fun _ => 0))), (h2, .inl (aC 0, 13, .inl (upd (fun _ => 0) 11 n1)))]) (runV (n := 1) (As := [.int 4]) (rest := []) F hP hD hS (k_draws l g aC aM h0 x0 x1 x2 x3 x4 x5 x6 x7 x8 x9 (.ref h1) x11 x12 x13 x14 x15 x16 x17 x18 x19 x20 x21 x22 x23 x24 x25 x26 x27 x28 x29 x30 x31 x32 x33 x34 x35 x36 x37 x38 x39 x40 x41 x42 x43 x44 x45 x46 x47 x48 x49 x50 x51 x52 x53 x54 (.ref h2) x56 x57 x58 x59 x60 x61 x62 x63 x64 x65 x66 x67 x68 x69 x70 x71 x72 m1) [0] (by decide) rfl 0 11 rfl rfl rfl tb1905 tb1902 tb1904 tv112 tb17 ⟨by decide, by decide, by decide +kernel⟩ ⟨Nat.le_of_ble_eq_true rfl, Nat.le_of_ble_eq_true rfl⟩ rfl hl.1 rfl (Nat.le_of_ble_eq_true rfl) dX11_livesNight_49 ⟨Nat.le_of_ble_eq_true rfl, Nat.le_of_ble_eq_true rfl⟩) hP hD hS hA [0] [1, 2] rfl rfl (by decide) (by decide) (fun r_4 w5 H locs hw hP hD hS => ?_)
  obtain ⟨u2, rfl⟩ : ∃ z_, z_ = w5 := ⟨_, rfl⟩
  have hP : va_P g vwCl [(h1, .inl (aC 0, 14, .inl (fun _ => 0))), (h2, .inl (aC 0, 13, .inl (upd (fun _ => 0) 11 n1))), (h0, .inr (11, [x0, x1, x2, x3, x4, x5, x6, x7, x8, x9, .ref h1, x11, x12, x13, x14, x15, x16, x17, x18, x19, x20, x21, x22, x23, x24, x25, x26, x27, x28, x29, x30, x31, x32, x33, x34, x35, x36, x37, x38, x39, x40, x41, x42, x43, x44, x45, x46, x47, x48, x49, x50, x51, x52, x53, x54, .ref h2, x56, x57, x58, x59, x60, x61, x62, x63, x64, x65, x66, x67, x68, x69, x70, x71, x72, .long u2]))] H := hP
  have hD : va_D A [(h1, .inl (aC 0, 14, .inl (fun _ => 0))), (h2, .inl (aC 0, 13, .inl (upd (fun _ => 0) 11 n1))), (h0, .inr (11, [x0, x1, x2, x3, x4, x5, x6, x7, x8, x9, .ref h1, x11, x12, x13, x14, x15, x16, x17, x18, x19, x20, x21, x22, x23, x24, x25, x26, x27, x28, x29, x30, x31, x32, x33, x34, x35, x36, x37, x38, x39, x40, x41, x42, x43, x44, x45, x46, x47, x48, x49, x50, x51, x52, x53, x54, .ref h2, x56, x57, x58, x59, x60, x61, x62, x63, x64, x65, x66, x67, x68, x69, x70, x71, x72, .long u2]))] := hD
  refine lv_if_ne (tgt := 59) hx hb dX11_livesNight_52 (by decide) (fun c6 => ?_) (fun c6 => ?_)
  · refine lv_iconst (v := 0) hx hb dX11_livesNight_59 (by decide) ?_
    refine lv_istore_n (lv' := [(1, .int 0), (0, .ref h0)]) hx hb dX11_livesNight_60 rfl hl (by decide) rfl (fun ls hl => ?_)
    refine lv_iconst (v := 0) hx hb dX11_livesNight_61 (by decide) ?_
    refine lv_istore_n (lv' := [(2, .int 0), (1, .int 0), (0, .ref h0)]) hx hb dX11_livesNight_62 rfl hl (by decide) rfl (fun ls hl => ?_)
    refine lv_iload_n hx hb dX11_livesNight_63 rfl (lv_at hl 0 rfl) ?_
    refine lv_aload_n hx hb dX11_livesNight_64 rfl (lv_at hl 2 rfl) ?_
    refine xget F hP 2 rfl rfl inX11 10 (by decide) tb1192 rfl dX11_livesNight_65 ?_
    refine lv_iconst (v := 1) hx hb dX11_livesNight_68 (by decide) ?_
    refine xilo (v := 0) F hP 0 rfl 1 (by decide +kernel) (by decide +kernel) (by decide) (by decide +kernel) dX11_livesNight_69 ?_
    refine lv_icmp_ge (tgt := 93) hx hb dX11_livesNight_70 (by decide) (fun _ => ?_) (fun c_ => absurd (by decide +kernel) c_)
    refine lv_iload_n hx hb dX11_livesNight_93 rfl (lv_at hl 1 rfl) ?_
    refine lv_if_eq (tgt := 120) hx hb dX11_livesNight_94 (by decide) (fun _ => ?_) (fun c_ => absurd (by decide +kernel) c_)
    refine lv_aload_n hx hb dX11_livesNight_120 rfl (lv_at hl 2 rfl) ?_
    refine xget F hP 2 rfl rfl inX11 55 (by decide) tb1237 rfl dX11_livesNight_121 ?_
    refine lv_bipush (v := 11) hx hb dX11_livesNight_124 (by decide) ?_
    refine lv_dup2_11 hx hb dX11_livesNight_126 rfl rfl ?_
    refine xilo (v := n1) F hP 1 rfl 11 (by decide +kernel) (by decide +kernel) (by decide) rfl dX11_livesNight_127 ?_
    refine lv_iconst (v := 1) hx hb dX11_livesNight_128 (by decide) ?_
    refine lv_iadd hx hb dX11_livesNight_129 ?_
    refine xist (f' := upd (fun _ => 0) 11 (n1 + 1)) F hP hD hS 1 rfl 11 (by decide +kernel) (by decide +kernel) (by decide) (updd _ _ _ _) dX11_livesNight_130 (fun H locs hP hD hS => ?_)
    have hP : va_P g vwCl [(h1, .inl (aC 0, 14, .inl (fun _ => 0))), (h2, .inl (aC 0, 13, .inl (upd (fun _ => 0) 11 (n1 + 1)))), (h0, .inr (11, [x0, x1, x2, x3, x4, x5, x6, x7, x8, x9, .ref h1, x11, x12, x13, x14, x15, x16, x17, x18, x19, x20, x21, x22, x23, x24, x25, x26, x27, x28, x29, x30, x31, x32, x33, x34, x35, x36, x37, x38, x39, x40, x41, x42, x43, x44, x45, x46, x47, x48, x49, x50, x51, x52, x53, x54, .ref h2, x56, x57, x58, x59, x60, x61, x62, x63, x64, x65, x66, x67, x68, x69, x70, x71, x72, .long u2]))] H := hP
    have hD : va_D A [(h1, .inl (aC 0, 14, .inl (fun _ => 0))), (h2, .inl (aC 0, 13, .inl (upd (fun _ => 0) 11 (n1 + 1)))), (h0, .inr (11, [x0, x1, x2, x3, x4, x5, x6, x7, x8, x9, .ref h1, x11, x12, x13, x14, x15, x16, x17, x18, x19, x20, x21, x22, x23, x24, x25, x26, x27, x28, x29, x30, x31, x32, x33, x34, x35, x36, x37, x38, x39, x40, x41, x42, x43, x44, x45, x46, x47, x48, x49, x50, x51, x52, x53, x54, .ref h2, x56, x57, x58, x59, x60, x61, x62, x63, x64, x65, x66, x67, x68, x69, x70, x71, x72, .long u2]))] := hD
    have hP9 := hP.sub (ws' := [(h0, .inr (11, [x0, x1, x2, x3, x4, x5, x6, x7, x8, x9, .ref h1, x11, x12, x13, x14, x15, x16, x17, x18, x19, x20, x21, x22, x23, x24, x25, x26, x27, x28, x29, x30, x31, x32, x33, x34, x35, x36, x37, x38, x39, x40, x41, x42, x43, x44, x45, x46, x47, x48, x49, x50, x51, x52, x53, x54, .ref h2, x56, x57, x58, x59, x60, x61, x62, x63, x64, x65, x66, x67, x68, x69, x70, x71, x72, .long u2])), (h1, .inl (aC 0, 14, .inl (fun _ => 0))), (h2, .inl (aC 0, 13, .inl (upd (fun _ => 0) 11 (n1 + 1))))]) [2, 0, 1] rfl
    have hD9 := hD.sub (ws' := [(h0, .inr (11, [x0, x1, x2, x3, x4, x5, x6, x7, x8, x9, .ref h1, x11, x12, x13, x14, x15, x16, x17, x18, x19, x20, x21, x22, x23, x24, x25, x26, x27, x28, x29, x30, x31, x32, x33, x34, x35, x36, x37, x38, x39, x40, x41, x42, x43, x44, x45, x46, x47, x48, x49, x50, x51, x52, x53, x54, .ref h2, x56, x57, x58, x59, x60, x61, x62, x63, x64, x65, x66, x67, x68, x69, x70, x71, x72, .long u2])), (h1, .inl (aC 0, 14, .inl (fun _ => 0))), (h2, .inl (aC 0, 13, .inl (upd (fun _ => 0) 11 (n1 + 1))))]) [2, 0, 1] (by decide) rfl
    exact rV (u2, (n1 + 1)) hx hb hr hlk hS trivial hP9 hD9 (Nat.le_of_ble_eq_true rfl) (Nat.le_of_ble_eq_true rfl) dX11_livesNight_131
  · subst c6
    refine lv_iconst (v := 1) hx hb dX11_livesNight_55 (by decide) ?_
    refine lv_goto (tgt := 60) hx hb dX11_livesNight_56 (by decide) ?_
    refine lv_istore_n (lv' := [(1, .int 1), (0, .ref h0)]) hx hb dX11_livesNight_60 rfl hl (by decide) rfl (fun ls hl => ?_)
    refine lv_iconst (v := 0) hx hb dX11_livesNight_61 (by decide) ?_
    refine lv_istore_n (lv' := [(2, .int 0), (1, .int 1), (0, .ref h0)]) hx hb dX11_livesNight_62 rfl hl (by decide) rfl (fun ls hl => ?_)
    refine lv_iload_n hx hb dX11_livesNight_63 rfl (lv_at hl 0 rfl) ?_
    refine lv_aload_n hx hb dX11_livesNight_64 rfl (lv_at hl 2 rfl) ?_
    refine xget F hP 2 rfl rfl inX11 10 (by decide) tb1192 rfl dX11_livesNight_65 ?_
    refine lv_iconst (v := 1) hx hb dX11_livesNight_68 (by decide) ?_
    refine xilo (v := 0) F hP 0 rfl 1 (by decide +kernel) (by decide +kernel) (by decide) (by decide +kernel) dX11_livesNight_69 ?_
    refine lv_icmp_ge (tgt := 93) hx hb dX11_livesNight_70 (by decide) (fun _ => ?_) (fun c_ => absurd (by decide +kernel) c_)
    refine lv_iload_n hx hb dX11_livesNight_93 rfl (lv_at hl 1 rfl) ?_
    refine lv_if_eq (tgt := 120) hx hb dX11_livesNight_94 (by decide) (fun c_ => absurd c_ (by decide +kernel)) (fun _ => ?_)
    refine lv_iload_n hx hb dX11_livesNight_97 rfl (lv_at hl 0 rfl) ?_
    refine lv_aload_n hx hb dX11_livesNight_98 rfl (lv_at hl 2 rfl) ?_
    refine xget F hP 2 rfl rfl inX11 10 (by decide) tb1192 rfl dX11_livesNight_99 ?_
    refine lv_iconst (v := 1) hx hb dX11_livesNight_102 (by decide) ?_
    refine xilo (v := 0) F hP 0 rfl 1 (by decide +kernel) (by decide +kernel) (by decide) (by decide +kernel) dX11_livesNight_103 ?_
    refine lv_icmp_ge (tgt := 120) hx hb dX11_livesNight_104 (by decide) (fun _ => ?_) (fun c_ => absurd (by decide +kernel) c_)
    refine lv_aload_n hx hb dX11_livesNight_120 rfl (lv_at hl 2 rfl) ?_
    refine xget F hP 2 rfl rfl inX11 55 (by decide) tb1237 rfl dX11_livesNight_121 ?_
    refine lv_bipush (v := 11) hx hb dX11_livesNight_124 (by decide) ?_
    refine lv_dup2_11 hx hb dX11_livesNight_126 rfl rfl ?_
    refine xilo (v := n1) F hP 1 rfl 11 (by decide +kernel) (by decide +kernel) (by decide) rfl dX11_livesNight_127 ?_
    refine lv_iconst (v := 1) hx hb dX11_livesNight_128 (by decide) ?_
    refine lv_iadd hx hb dX11_livesNight_129 ?_
    refine xist (f' := upd (fun _ => 0) 11 (n1 + 1)) F hP hD hS 1 rfl 11 (by decide +kernel) (by decide +kernel) (by decide) (updd _ _ _ _) dX11_livesNight_130 (fun H locs hP hD hS => ?_)
    have hP : va_P g vwCl [(h1, .inl (aC 0, 14, .inl (fun _ => 0))), (h2, .inl (aC 0, 13, .inl (upd (fun _ => 0) 11 (n1 + 1)))), (h0, .inr (11, [x0, x1, x2, x3, x4, x5, x6, x7, x8, x9, .ref h1, x11, x12, x13, x14, x15, x16, x17, x18, x19, x20, x21, x22, x23, x24, x25, x26, x27, x28, x29, x30, x31, x32, x33, x34, x35, x36, x37, x38, x39, x40, x41, x42, x43, x44, x45, x46, x47, x48, x49, x50, x51, x52, x53, x54, .ref h2, x56, x57, x58, x59, x60, x61, x62, x63, x64, x65, x66, x67, x68, x69, x70, x71, x72, .long u2]))] H := hP
    have hD : va_D A [(h1, .inl (aC 0, 14, .inl (fun _ => 0))), (h2, .inl (aC 0, 13, .inl (upd (fun _ => 0) 11 (n1 + 1)))), (h0, .inr (11, [x0, x1, x2, x3, x4, x5, x6, x7, x8, x9, .ref h1, x11, x12, x13, x14, x15, x16, x17, x18, x19, x20, x21, x22, x23, x24, x25, x26, x27, x28, x29, x30, x31, x32, x33, x34, x35, x36, x37, x38, x39, x40, x41, x42, x43, x44, x45, x46, x47, x48, x49, x50, x51, x52, x53, x54, .ref h2, x56, x57, x58, x59, x60, x61, x62, x63, x64, x65, x66, x67, x68, x69, x70, x71, x72, .long u2]))] := hD
    have hP9 := hP.sub (ws' := [(h0, .inr (11, [x0, x1, x2, x3, x4, x5, x6, x7, x8, x9, .ref h1, x11, x12, x13, x14, x15, x16, x17, x18, x19, x20, x21, x22, x23, x24, x25, x26, x27, x28, x29, x30, x31, x32, x33, x34, x35, x36, x37, x38, x39, x40, x41, x42, x43, x44, x45, x46, x47, x48, x49, x50, x51, x52, x53, x54, .ref h2, x56, x57, x58, x59, x60, x61, x62, x63, x64, x65, x66, x67, x68, x69, x70, x71, x72, .long u2])), (h1, .inl (aC 0, 14, .inl (fun _ => 0))), (h2, .inl (aC 0, 13, .inl (upd (fun _ => 0) 11 (n1 + 1))))]) [2, 0, 1] rfl
    have hD9 := hD.sub (ws' := [(h0, .inr (11, [x0, x1, x2, x3, x4, x5, x6, x7, x8, x9, .ref h1, x11, x12, x13, x14, x15, x16, x17, x18, x19, x20, x21, x22, x23, x24, x25, x26, x27, x28, x29, x30, x31, x32, x33, x34, x35, x36, x37, x38, x39, x40, x41, x42, x43, x44, x45, x46, x47, x48, x49, x50, x51, x52, x53, x54, .ref h2, x56, x57, x58, x59, x60, x61, x62, x63, x64, x65, x66, x67, x68, x69, x70, x71, x72, .long u2])), (h1, .inl (aC 0, 14, .inl (fun _ => 0))), (h2, .inl (aC 0, 13, .inl (upd (fun _ => 0) 11 (n1 + 1))))]) [2, 0, 1] (by decide) rfl
    exact rV (u2, (n1 + 1)) hx hb hr hlk hS trivial hP9 hD9 (Nat.le_of_ble_eq_true rfl) (Nat.le_of_ble_eq_true rfl) dX11_livesNight_131
