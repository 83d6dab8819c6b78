theorem dX11_judged_0 : decode cX11_judged 0 = .ok (.aload_n 0, 1) := by decide +kernel
theorem dX11_judged_1 : decode cX11_judged 1 = .ok (.iconst 0, 1) := by decide +kernel
theorem dX11_judged_2 : decode cX11_judged 2 = .ok (.putfield 180, 3) := by decide +kernel
theorem dX11_judged_5 : decode cX11_judged 5 = .ok (.iload_n 1, 1) := by decide +kernel
theorem dX11_judged_6 : decode cX11_judged 6 = .ok (.iconst 0, 1) := by decide +kernel
theorem dX11_judged_7 : decode cX11_judged 7 = .ok (.iconst 2, 1) := by decide +kernel
theorem dX11_judged_8 : decode cX11_judged 8 = .ok (.invokestatic 313, 3) := by decide +kernel
theorem dX11_judged_11 : decode cX11_judged 11 = .ok (.ifCond .ne 6, 3) := by decide +kernel
theorem dX11_judged_14 : decode cX11_judged 14 = .ok (.bipush (-2), 2) := by decide +kernel
theorem dX11_judged_16 : decode cX11_judged 16 = .ok (.ireturn, 1) := by decide +kernel
set_option maxHeartbeats 4000000 in
set_option maxRecDepth 100000 in
theorem a_X11_within_17 (l : Launch) (g : va_G) (aC : Nat → ClassId) (aM : Nat → Nat)  : Ct l g aC aM yX11_within cX11_within 3 (some .boolean) 1 [.int 0, .int 0, .int 2] [] (QI g (fun (r : Int32) (_ : Unit) => r = 1) (fun (_ : Unit) => [])) 0 0 := by
  refine Ct.mk (by decide) (Nat.le_of_ble_eq_true rfl) ?_
  intro p e s m below meth c A ls hx hb hml hown hts hr hlk hnm hK hA hM hM2 hP hD hS hl
  have hown : s.vm.findClass RX11 = some m.cls := hown
  have F : Fx p s m _ c cX11_within 3 RX11 g aC aM A := ⟨hx, hb, hml, hown, hts, hK, hA, hM, hM2⟩
  have hl : lv_has ls 3 [(0, .int 0), (1, .int 0), (2, .int 2)] := hl
  refine lv_iload_n hx hb dX11_within_0 rfl (lv_at hl 0 rfl) ?_
  refine lv_iload_n hx hb dX11_within_1 rfl (lv_at hl 1 rfl) ?_
  refine lv_icmp_lt (tgt := 14) hx hb dX11_within_2 (by decide) (fun c_ => absurd c_ (by decide +kernel)) (fun _ => ?_)
  refine lv_iload_n hx hb dX11_within_5 rfl (lv_at hl 0 rfl) ?_
  refine lv_iload_n hx hb dX11_within_6 rfl (lv_at hl 2 rfl) ?_
  refine lv_icmp_gt (tgt := 14) hx hb dX11_within_7 (by decide) (fun c_ => absurd c_ (by decide +kernel)) (fun _ => ?_)
  refine lv_iconst (v := 1) hx hb dX11_within_10 (by decide) ?_
  refine lv_goto (tgt := 15) hx hb dX11_within_11 (by decide) ?_
  have hP9 := hP.sub (ws' := []) [] rfl
  have hD9 := hD.sub (ws' := []) [] (by decide) rfl
  exact rI () hx hb hr hlk rfl hS rfl hP9 hD9 (Nat.le_of_ble_eq_true rfl) (Nat.le_of_ble_eq_true rfl) dX11_within_15

theorem dX11_judged_17 : decode cX11_judged 17 = .ok (.aload_n 0, 1) := by decide +kernel
theorem dX11_judged_18 : decode cX11_judged 18 = .ok (.getfield 141, 3) := by decide +kernel
theorem dX11_judged_21 : decode cX11_judged 21 = .ok (.iconst 0, 1) := by decide +kernel
theorem dX11_judged_22 : decode cX11_judged 22 = .ok (.aload_n 0, 1) := by decide +kernel
theorem dX11_judged_23 : decode cX11_judged 23 = .ok (.getfield 144, 3) := by decide +kernel
theorem dX11_judged_26 : decode cX11_judged 26 = .ok (.iconst 0, 1) := by decide +kernel
theorem dX11_judged_27 : decode cX11_judged 27 = .ok (.invokestatic 464, 3) := by decide +kernel
theorem dX11_judged_30 : decode cX11_judged 30 = .ok (.aload_n 0, 1) := by decide +kernel
theorem dX11_judged_31 : decode cX11_judged 31 = .ok (.invokevirtual 413, 3) := by decide +kernel
set_option maxHeartbeats 4000000 in
set_option maxRecDepth 100000 in
theorem a_X11_allFlights_2 (l : Launch) (g : va_G) (aC : Nat → ClassId) (aM : Nat → Nat) (h1 h12 : Nat) (x2 x3 x4 x5 x6 x7 x8 x9 x10 x11 x13 x14 x15 x16 x17 x18 x19 x20 x21 x22 x23 x24 x25 x26 x27 x28 x29 x30 x31 x32 x33 x34 x35 x36 x37 x38 x39 x40 x41 x42 x43 x44 x45 x46 x47 x48 x49 x50 x51 x52 x53 x54 x55 x56 x57 x58 x59 x60 x61 x62 x63 x64 x65 x66 x67 x68 x69 x70 x71 x72 x73 x74 x75 : Value) : Ct l g aC aM yX11_allFlights cX11_allFlights 1 (some .int) 1 [.ref h1] [(h1, .inr (11, [x2, x3, x4, x5, x6, x7, x8, x9, x10, x11, .ref h12, x13, x14, x15, x16, x17, x18, x19, x20, x21, x22, x23, x24, x25, x26, x27, x28, x29, x30, x31, x32, x33, x34, x35, x36, x37, x38, x39, x40, x41, x42, x43, x44, x45, x46, x47, x48, x49, x50, x51, x52, x53, x54, x55, x56, x57, x58, x59, x60, x61, x62, x63, x64, x65, x66, x67, x68, x69, x70, x71, x72, x73, x74, x75])), (h12, .inl (aC 0, 14, .inl (fun _ => 0)))] (QI g (fun (r : Int32) (_ : Unit) => r = 0) (fun (_ : Unit) => [(h1, .inr (11, [x2, x3, x4, x5, x6, x7, x8, x9, x10, x11, .ref h12, x13, x14, x15, x16, x17, x18, x19, x20, x21, x22, x23, x24, x25, x26, x27, x28, x29, x30, x31, x32, x33, x34, x35, x36, x37, x38, x39, x40, x41, x42, x43, x44, x45, x46, x47, x48, x49, x50, x51, x52, x53, x54, x55, x56, x57, x58, x59, x60, x61, x62, x63, x64, x65, x66, x67, x68, x69, x70, x71, x72, x73, x74, x75])), (h12, .inl (aC 0, 14, .inl (fun _ => 0)))])) 0 0 := by
  refine Ct.mk (by decide) (Nat.le_of_ble_eq_true rfl) ?_
  intro p e s m below meth c A ls hx hb hml hown hts hr hlk hnm hK hA hM hM2 hP hD hS hl
  have hown : s.vm.findClass RX11 = some m.cls := hown
  have F : Fx p s m _ c cX11_allFlights 1 RX11 g aC aM A := ⟨hx, hb, hml, hown, hts, hK, hA, hM, hM2⟩
  have hl : lv_has ls 1 [(0, .ref h1)] := hl
  refine lv_iconst (v := 1) hx hb dX11_allFlights_0 (by decide) ?_
  refine lv_aload_n hx hb dX11_allFlights_1 rfl (lv_at hl 0 rfl) ?_
  refine xget F hP 0 rfl rfl inX11 10 (by decide) tb1192 rfl dX11_allFlights_2 ?_
  refine lv_iconst (v := 1) hx hb dX11_allFlights_5 (by decide) ?_
  refine xilo (v := 0) F hP 1 rfl 1 (by decide +kernel) (by decide +kernel) (by decide) (by decide +kernel) dX11_allFlights_6 ?_
  refine lv_ishl hx hb dX11_allFlights_7 ?_
  refine relit (v := 1) (by decide +kernel) ?_
  refine lv_iconst (v := 1) hx hb dX11_allFlights_8 (by decide) ?_
  refine lv_isub hx hb dX11_allFlights_9 ?_
  refine relit (v := 0) (by decide +kernel) ?_
  have hP9 := hP.sub (ws' := [(h1, .inr (11, [x2, x3, x4, x5, x6, x7, x8, x9, x10, x11, .ref h12, x13, x14, x15, x16, x17, x18, x19, x20, x21, x22, x23, x24, x25, x26, x27, x28, x29, x30, x31, x32, x33, x34, x35, x36, x37, x38, x39, x40, x41, x42, x43, x44, x45, x46, x47, x48, x49, x50, x51, x52, x53, x54, x55, x56, x57, x58, x59, x60, x61, x62, x63, x64, x65, x66, x67, x68, x69, x70, x71, x72, x73, x74, x75])), (h12, .inl (aC 0, 14, .inl (fun _ => 0)))]) [0, 1] rfl
  have hD9 := hD.sub (ws' := [(h1, .inr (11, [x2, x3, x4, x5, x6, x7, x8, x9, x10, x11, .ref h12, x13, x14, x15, x16, x17, x18, x19, x20, x21, x22, x23, x24, x25, x26, x27, x28, x29, x30, x31, x32, x33, x34, x35, x36, x37, x38, x39, x40, x41, x42, x43, x44, x45, x46, x47, x48, x49, x50, x51, x52, x53, x54, x55, x56, x57, x58, x59, x60, x61, x62, x63, x64, x65, x66, x67, x68, x69, x70, x71, x72, x73, x74, x75])), (h12, .inl (aC 0, 14, .inl (fun _ => 0)))]) [0, 1] (by decide) rfl
  exact rI () hx hb hr hlk rfl hS rfl hP9 hD9 (Nat.le_of_ble_eq_true rfl) (Nat.le_of_ble_eq_true rfl) dX11_allFlights_10

set_option maxHeartbeats 4000000 in
set_option maxRecDepth 100000 in
theorem a_X11_fresh_2 (l : Launch) (g : va_G) (aC : Nat → ClassId) (aM : Nat → Nat) (h1 h12 h57 : Nat) (x2 x3 x4 x5 x6 x7 x8 x9 x10 x11 x13 x14 x15 x16 x17 x18 x19 x20 x21 x22 x23 x24 x25 x26 x27 x28 x29 x30 x31 x32 x33 x34 x35 x36 x37 x38 x39 x40 x41 x42 x43 x44 x45 x46 x47 x48 x49 x50 x51 x52 x53 x54 x55 x56 x58 x59 x60 x61 x62 x63 x64 x65 x66 x67 x68 x69 x70 x71 x72 x73 x74 x75 : Value) : Ct l g aC aM yX11_fresh cX11_fresh 2 none 2 [.ref h1] [(h1, .inr (11, [x2, x3, x4, x5, x6, x7, x8, x9, x10, x11, .ref h12, x13, x14, x15, x16, x17, x18, x19, x20, x21, x22, x23, x24, x25, x26, x27, x28, x29, x30, x31, x32, x33, x34, x35, x36, x37, x38, x39, x40, x41, x42, x43, x44, x45, x46, x47, x48, x49, x50, x51, x52, x53, x54, x55, x56, .ref h57, x58, x59, x60, x61, x62, x63, x64, x65, x66, x67, x68, x69, x70, x71, x72, x73, x74, x75])), (h12, .inl (aC 0, 14, .inl (fun _ => 0))), (h57, .inl (aC 0, 13, .inl (fun _ => 0)))] (QV g (fun (_ : Unit) => True) (fun (_ : Unit) => [(h57, .inl (aC 0, 13, .inl (fun _ => 0))), (h1, .inr (11, [x2, x3, x4, x5, x6, x7, x8, x9, x10, x11, .ref h12, x13, x14, x15, x16, x17, x18, x19, x20, x21, x22, x23, x24, x25, x26, x27, x28, x29, x30, x31, x32, x33, x34, x35, x36, x37, x38, x39, x40, x41, x42, x43, x44, x45, x46, x47, x48, x49, x50, x51, x52, x53, x54, x55, x56, .ref h57, x58, x59, x60, x61, x62, x63, x64, x65, x66, x67, x68, x69, x70, x71, x72, x73, x74, x75])), (h12, .inl (aC 0, 14, .inl (fun _ => 0)))])) 0 0 := by
  refine Ct.mk (by decide) (Nat.le_of_ble_eq_true rfl) ?_
  intro p e s m below meth c A ls hx hb hml hown hts hr hlk hnm hK hA hM hM2 hP hD hS hl
  have hown : s.vm.findClass RX11 = some m.cls := hown
  have F : Fx p s m _ c cX11_fresh 2 RX11 g aC aM A := ⟨hx, hb, hml, hown, hts, hK, hA, hM, hM2⟩
  have hl : lv_has ls 2 [(0, .ref h1)] := hl
  refine lv_iconst (v := 0) hx hb dX11_fresh_0 (by decide) ?_
  refine lv_istore_n (lv' := [(1, .int 0), (0, .ref h1)]) hx hb dX11_fresh_1 rfl hl (by decide) rfl (fun ls hl => ?_)
  refine lv_iload_n hx hb dX11_fresh_2 rfl (lv_at hl 0 rfl) ?_
  refine lv_bipush (v := 13) hx hb dX11_fresh_3 (by decide) ?_
  refine lv_icmp_ge (tgt := 21) hx hb dX11_fresh_5 (by decide) (fun c_ => absurd c_ (by decide +kernel)) (fun _ => ?_)
  refine lv_aload_n hx hb dX11_fresh_8 rfl (lv_at hl 1 rfl) ?_
  refine xget F hP 0 rfl rfl inX11 55 (by decide) tb1237 rfl dX11_fresh_9 ?_
  refine lv_iload_n hx hb dX11_fresh_12 rfl (lv_at hl 0 rfl) ?_
  refine lv_iconst (v := 0) hx hb dX11_fresh_13 (by decide) ?_
  refine xist (f' := fun _ => 0) F hP hD hS 2 rfl 0 (by decide +kernel) (by decide +kernel) (by decide) (xup0 _) dX11_fresh_14 (fun H locs hP hD hS => ?_)
  have hP : va_P g vwCl [(h1, .inr (11, [x2, x3, x4, x5, x6, x7, x8, x9, x10, x11, .ref h12, x13, x14, x15, x16, x17, x18, x19, x20, x21, x22, x23, x24, x25, x26, x27, x28, x29, x30, x31, x32, x33, x34, x35, x36, x37, x38, x39, x40, x41, x42, x43, x44, x45, x46, x47, x48, x49, x50, x51, x52, x53, x54, x55, x56, .ref h57, x58, x59, x60, x61, x62, x63, x64, x65, x66, x67, x68, x69, x70, x71, x72, x73, x74, x75])), (h12, .inl (aC 0, 14, .inl (fun _ => 0))), (h57, .inl (aC 0, 13, .inl (fun _ => 0)))] H := hP
  have hD : va_D A [(h1, .inr (11, [x2, x3, x4, x5, x6, x7, x8, x9, x10, x11, .ref h12, x13, x14, x15, x16, x17, x18, x19, x20, x21, x22, x23, x24, x25, x26, x27, x28, x29, x30, x31, x32, x33, x34, x35, x36, x37, x38, x39, x40, x41, x42, x43, x44, x45, x46, x47, x48, x49, x50, x51, x52, x53, x54, x55, x56, .ref h57, x58, x59, x60, x61, x62, x63, x64, x65, x66, x67, x68, x69, x70, x71, x72, x73, x74, x75])), (h12, .inl (aC 0, 14, .inl (fun _ => 0))), (h57, .inl (aC 0, 13, .inl (fun _ => 0)))] := hD
  refine lv_iinc (v := 1) (lv' := [(1, .int 1), (0, .ref h1)]) hx hb dX11_fresh_15 hl (k := 0) rfl (by decide +kernel) (by decide) rfl (fun ls hl => ?_)
  refine lv_goto (tgt := 2) hx hb dX11_fresh_18 (by decide) ?_
  refine lv_iload_n hx hb dX11_fresh_2 rfl (lv_at hl 0 rfl) ?_
  refine lv_bipush (v := 13) hx hb dX11_fresh_3 (by decide) ?_
  refine lv_icmp_ge (tgt := 21) hx hb dX11_fresh_5 (by decide) (fun c_ => absurd c_ (by decide +kernel)) (fun _ => ?_)
  refine lv_aload_n hx hb dX11_fresh_8 rfl (lv_at hl 1 rfl) ?_
  refine xget F hP 0 rfl rfl inX11 55 (by decide) tb1237 rfl dX11_fresh_9 ?_
  refine lv_iload_n hx hb dX11_fresh_12 rfl (lv_at hl 0 rfl) ?_
  refine lv_iconst (v := 0) hx hb dX11_fresh_13 (by decide) ?_
  refine xist (f' := fun _ => 0) F hP hD hS 2 rfl 1 (by decide +kernel) (by decide +kernel) (by decide) (xup0 _) dX11_fresh_14 (fun H locs hP hD hS => ?_)
  have hP : va_P g vwCl [(h1, .inr (11, [x2, x3, x4, x5, x6, x7, x8, x9, x10, x11, .ref h12, x13, x14, x15, x16, x17, x18, x19, x20, x21, x22, x23, x24, x25, x26, x27, x28, x29, x30, x31, x32, x33, x34, x35, x36, x37, x38, x39, x40, x41, x42, x43, x44, x45, x46, x47, x48, x49, x50, x51, x52, x53, x54, x55, x56, .ref h57, x58, x59, x60, x61, x62, x63, x64, x65, x66, x67, x68, x69, x70, x71, x72, x73, x74, x75])), (h12, .inl (aC 0, 14, .inl (fun _ => 0))), (h57, .inl (aC 0, 13, .inl (fun _ => 0)))] H := hP
  have hD : va_D A [(h1, .inr (11, [x2, x3, x4, x5, x6, x7, x8, x9, x10, x11, .ref h12, x13, x14, x15, x16, x17, x18, x19, x20, x21, x22, x23, x24, x25, x26, x27, x28, x29, x30, x31, x32, x33, x34, x35, x36, x37, x38, x39, x40, x41, x42, x43, x44, x45, x46, x47, x48, x49, x50, x51, x52, x53, x54, x55, x56, .ref h57, x58, x59, x60, x61, x62, x63, x64, x65, x66, x67, x68, x69, x70, x71, x72, x73, x74, x75])), (h12, .inl (aC 0, 14, .inl (fun _ => 0))), (h57, .inl (aC 0, 13, .inl (fun _ => 0)))] := hD
  refine lv_iinc (v := 2) (lv' := [(1, .int 2), (0, .ref h1)]) hx hb dX11_fresh_15 hl (k := 0) rfl (by decide +kernel) (by decide) rfl (fun ls hl => ?_)
  refine lv_goto (tgt := 2) hx hb dX11_fresh_18 (by decide) ?_
  refine lv_iload_n hx hb dX11_fresh_2 rfl (lv_at hl 0 rfl) ?_
  refine lv_bipush (v := 13) hx hb dX11_fresh_3 (by decide) ?_
  refine lv_icmp_ge (tgt := 21) hx hb dX11_fresh_5 (by decide) (fun c_ => absurd c_ (by decide +kernel)) (fun _ => ?_)
  refine lv_aload_n hx hb dX11_fresh_8 rfl (lv_at hl 1 rfl) ?_
  refine xget F hP 0 rfl rfl inX11 55 (by decide) tb1237 rfl dX11_fresh_9 ?_
  refine lv_iload_n hx hb dX11_fresh_12 rfl (lv_at hl 0 rfl) ?_
  refine lv_iconst (v := 0) hx hb dX11_fresh_13 (by decide) ?_
  refine xist (f' := fun _ => 0) F hP hD hS 2 rfl 2 (by decide +kernel) (by decide +kernel) (by decide) (xup0 _) dX11_fresh_14 (fun H locs hP hD hS => ?_)
  have hP : va_P g vwCl [(h1, .inr (11, [x2, x3, x4, x5, x6, x7, x8, x9, x10, x11, .ref h12, x13, x14, x15, x16, x17, x18, x19, x20, x21, x22, x23, x24, x25, x26, x27, x28, x29, x30, x31, x32, x33, x34, x35, x36, x37, x38, x39, x40, x41, x42, x43, x44, x45, x46, x47, x48, x49, x50, x51, x52, x53, x54, x55, x56, .ref h57, x58, x59, x60, x61, x62, x63, x64, x65, x66, x67, x68, x69, x70, x71, x72, x73, x74, x75])), (h12, .inl (aC 0, 14, .inl (fun _ => 0))), (h57, .inl (aC 0, 13, .inl (fun _ => 0)))] H := hP
  have hD : va_D A [(h1, .inr (11, [x2, x3, x4, x5, x6, x7, x8, x9, x10, x11, .ref h12, x13, x14, x15, x16, x17, x18, x19, x20, x21, x22, x23, x24, x25, x26, x27, x28, x29, x30, x31, x32, x33, x34, x35, x36, x37, x38, x39, x40, x41, x42, x43, x44, x45, x46, x47, x48, x49, x50, x51, x52, x53, x54, x55, x56, .ref h57, x58, x59, x60, x61, x62, x63, x64, x65, x66, x67, x68, x69, x70, x71, x72, x73, x74, x75])), (h12, .inl (aC 0, 14, .inl (fun _ => 0))), (h57, .inl (aC 0, 13, .inl (fun _ => 0)))] := hD
  refine lv_iinc (v := 3) (lv' := [(1, .int 3), (0, .ref h1)]) hx hb dX11_fresh_15 hl (k := 0) rfl (by decide +kernel) (by decide) rfl (fun ls hl => ?_)
  refine lv_goto (tgt := 2) hx hb dX11_fresh_18 (by decide) ?_
  refine lv_iload_n hx hb dX11_fresh_2 rfl (lv_at hl 0 rfl) ?_
  refine lv_bipush (v := 13) hx hb dX11_fresh_3 (by decide) ?_
  refine lv_icmp_ge (tgt := 21) hx hb dX11_fresh_5 (by decide) (fun c_ => absurd c_ (by decide +kernel)) (fun _ => ?_)
  refine lv_aload_n hx hb dX11_fresh_8 rfl (lv_at hl 1 rfl) ?_
  refine xget F hP 0 rfl rfl inX11 55 (by decide) tb1237 rfl dX11_fresh_9 ?_
  refine lv_iload_n hx hb dX11_fresh_12 rfl (lv_at hl 0 rfl) ?_
  refine lv_iconst (v := 0) hx hb dX11_fresh_13 (by decide) ?_
  refine xist (f' := fun _ => 0) F hP hD hS 2 rfl 3 (by decide +kernel) (by decide +kernel) (by decide) (xup0 _) dX11_fresh_14 (fun H locs hP hD hS => ?_)
  have hP : va_P g vwCl [(h1, .inr (11, [x2, x3, x4, x5, x6, x7, x8, x9, x10, x11, .ref h12, x13, x14, x15, x16, x17, x18, x19, x20, x21, x22, x23, x24, x25, x26, x27, x28, x29, x30, x31, x32, x33, x34, x35, x36, x37, x38, x39, x40, x41, x42, x43, x44, x45, x46, x47, x48, x49, x50, x51, x52, x53, x54, x55, x56, .ref h57, x58, x59, x60, x61, x62, x63, x64, x65, x66, x67, x68, x69, x70, x71, x72, x73, x74, x75])), (h12, .inl (aC 0, 14, .inl (fun _ => 0))), (h57, .inl (aC 0, 13, .inl (fun _ => 0)))] H := hP
  have hD : va_D A [(h1, .inr (11, [x2, x3, x4, x5, x6, x7, x8, x9, x10, x11, .ref h12, x13, x14, x15, x16, x17, x18, x19, x20, x21, x22, x23, x24, x25, x26, x27, x28, x29, x30, x31, x32, x33, x34, x35, x36, x37, x38, x39, x40, x41, x42, x43, x44, x45, x46, x47, x48, x49, x50, x51, x52, x53, x54, x55, x56, .ref h57, x58, x59, x60, x61, x62, x63, x64, x65, x66, x67, x68, x69, x70, x71, x72, x73, x74, x75])), (h12, .inl (aC 0, 14, .inl (fun _ => 0))), (h57, .inl (aC 0, 13, .inl (fun _ => 0)))] := hD
  refine lv_iinc (v := 4) (lv' := [(1, .int 4), (0, .ref h1)]) hx hb dX11_fresh_15 hl (k := 0) rfl (by decide +kernel) (by decide) rfl (fun ls hl => ?_)
  refine lv_goto (tgt := 2) hx hb dX11_fresh_18 (by decide) ?_
  refine lv_iload_n hx hb dX11_fresh_2 rfl (lv_at hl 0 rfl) ?_
  refine lv_bipush (v := 13) hx hb dX11_fresh_3 (by decide) ?_
  refine lv_icmp_ge (tgt := 21) hx hb dX11_fresh_5 (by decide) (fun c_ => absurd c_ (by decide +kernel)) (fun _ => ?_)
  refine lv_aload_n hx hb dX11_fresh_8 rfl (lv_at hl 1 rfl) ?_
  refine xget F hP 0 rfl rfl inX11 55 (by decide) tb1237 rfl dX11_fresh_9 ?_
  refine lv_iload_n hx hb dX11_fresh_12 rfl (lv_at hl 0 rfl) ?_
  refine lv_iconst (v := 0) hx hb dX11_fresh_13 (by decide) ?_
  refine xist (f' := fun _ => 0) F hP hD hS 2 rfl 4 (by decide +kernel) (by decide +kernel) (by decide) (xup0 _) dX11_fresh_14 (fun H locs hP hD hS => ?_)
  have hP : va_P g vwCl [(h1, .inr (11, [x2, x3, x4, x5, x6, x7, x8, x9, x10, x11, .ref h12, x13, x14, x15, x16, x17, x18, x19, x20, x21, x22, x23, x24, x25, x26, x27, x28, x29, x30, x31, x32, x33, x34, x35, x36, x37, x38, x39, x40, x41, x42, x43, x44, x45, x46, x47, x48, x49, x50, x51, x52, x53, x54, x55, x56, .ref h57, x58, x59, x60, x61, x62, x63, x64, x65, x66, x67, x68, x69, x70, x71, x72, x73, x74, x75])), (h12, .inl (aC 0, 14, .inl (fun _ => 0))), (h57, .inl (aC 0, 13, .inl (fun _ => 0)))] H := hP
  have hD : va_D A [(h1, .inr (11, [x2, x3, x4, x5, x6, x7, x8, x9, x10, x11, .ref h12, x13, x14, x15, x16, x17, x18, x19, x20, x21, x22, x23, x24, x25, x26, x27, x28, x29, x30, x31, x32, x33, x34, x35, x36, x37, x38, x39, x40, x41, x42, x43, x44, x45, x46, x47, x48, x49, x50, x51, x52, x53, x54, x55, x56, .ref h57, x58, x59, x60, x61, x62, x63, x64, x65, x66, x67, x68, x69, x70, x71, x72, x73, x74, x75])), (h12, .inl (aC 0, 14, .inl (fun _ => 0))), (h57, .inl (aC 0, 13, .inl (fun _ => 0)))] := hD
  refine lv_iinc (v := 5) (lv' := [(1, .int 5), (0, .ref h1)]) hx hb dX11_fresh_15 hl (k := 0) rfl (by decide +kernel) (by decide) rfl (fun ls hl => ?_)
  refine lv_goto (tgt := 2) hx hb dX11_fresh_18 (by decide) ?_
  refine lv_iload_n hx hb dX11_fresh_2 rfl (lv_at hl 0 rfl) ?_
  refine lv_bipush (v := 13) hx hb dX11_fresh_3 (by decide) ?_
  refine lv_icmp_ge (tgt := 21) hx hb dX11_fresh_5 (by decide) (fun c_ => absurd c_ (by decide +kernel)) (fun _ => ?_)
  refine lv_aload_n hx hb dX11_fresh_8 rfl (lv_at hl 1 rfl) ?_
  refine xget F hP 0 rfl rfl inX11 55 (by decide) tb1237 rfl dX11_fresh_9 ?_
  refine lv_iload_n hx hb dX11_fresh_12 rfl (lv_at hl 0 rfl) ?_
  refine lv_iconst (v := 0) hx hb dX11_fresh_13 (by decide) ?_
  refine xist (f' := fun _ => 0) F hP hD hS 2 rfl 5 (by decide +kernel) (by decide +kernel) (by decide) (xup0 _) dX11_fresh_14 (fun H locs hP hD hS => ?_)
  have hP : va_P g vwCl [(h1, .inr (11, [x2, x3, x4, x5, x6, x7, x8, x9, x10, x11, .ref h12, x13, x14, x15, x16, x17, x18, x19, x20, x21, x22, x23, x24, x25, x26, x27, x28, x29, x30, x31, x32, x33, x34, x35, x36, x37, x38, x39, x40, x41, x42, x43, x44, x45, x46, x47, x48, x49, x50, x51, x52, x53, x54, x55, x56, .ref h57, x58, x59, x60, x61, x62, x63, x64, x65, x66, x67, x68, x69, x70, x71, x72, x73, x74, x75])), (h12, .inl (aC 0, 14, .inl (fun _ => 0))), (h57, .inl (aC 0, 13, .inl (fun _ => 0)))] H := hP
  have hD : va_D A [(h1, .inr (11, [x2, x3, x4, x5, x6, x7, x8, x9, x10, x11, .ref h12, x13, x14, x15, x16, x17, x18, x19, x20, x21, x22, x23, x24, x25, x26, x27, x28, x29, x30, x31, x32, x33, x34, x35, x36, x37, x38, x39, x40, x41, x42, x43, x44, x45, x46, x47, x48, x49, x50, x51, x52, x53, x54, x55, x56, .ref h57, x58, x59, x60, x61, x62, x63, x64, x65, x66, x67, x68, x69, x70, x71, x72, x73, x74, x75])), (h12, .inl (aC 0, 14, .inl (fun _ => 0))), (h57, .inl (aC 0, 13, .inl (fun _ => 0)))] := hD
  refine lv_iinc (v := 6) (lv' := [(1, .int 6), (0, .ref h1)]) hx hb dX11_fresh_15 hl (k := 0) rfl (by decide +kernel) (by decide) rfl (fun ls hl => ?_)
  refine lv_goto (tgt := 2) hx hb dX11_fresh_18 (by decide) ?_
  refine lv_iload_n hx hb dX11_fresh_2 rfl (lv_at hl 0 rfl) ?_
  refine lv_bipush (v := 13) hx hb dX11_fresh_3 (by decide) ?_
  refine lv_icmp_ge (tgt := 21) hx hb dX11_fresh_5 (by decide) (fun c_ => absurd c_ (by decide +kernel)) (fun _ => ?_)
  refine lv_aload_n hx hb dX11_fresh_8 rfl (lv_at hl 1 rfl) ?_
  refine xget F hP 0 rfl rfl inX11 55 (by decide) tb1237 rfl dX11_fresh_9 ?_
  refine lv_iload_n hx hb dX11_fresh_12 rfl (lv_at hl 0 rfl) ?_
  refine lv_iconst (v := 0) hx hb dX11_fresh_13 (by decide) ?_
  refine xist (f' := fun _ => 0) F hP hD hS 2 rfl 6 (by decide +kernel) (by decide +kernel) (by decide) (xup0 _) dX11_fresh_14 (fun H locs hP hD hS => ?_)
  have hP : va_P g vwCl [(h1, .inr (11, [x2, x3, x4, x5, x6, x7, x8, x9, x10, x11, .ref h12, x13, x14, x15, x16, x17, x18, x19, x20, x21, x22, x23, x24, x25, x26, x27, x28, x29, x30, x31, x32, x33, x34, x35, x36, x37, x38, x39, x40, x41, x42, x43, x44, x45, x46, x47, x48, x49, x50, x51, x52, x53, x54, x55, x56, .ref h57, x58, x59, x60, x61, x62, x63, x64, x65, x66, x67, x68, x69, x70, x71, x72, x73, x74, x75])), (h12, .inl (aC 0, 14, .inl (fun _ => 0))), (h57, .inl (aC 0, 13, .inl (fun _ => 0)))] H := hP
  have hD : va_D A [(h1, .inr (11, [x2, x3, x4, x5, x6, x7, x8, x9, x10, x11, .ref h12, x13, x14, x15, x16, x17, x18, x19, x20, x21, x22, x23, x24, x25, x26, x27, x28, x29, x30, x31, x32, x33, x34, x35, x36, x37, x38, x39, x40, x41, x42, x43, x44, x45, x46, x47, x48, x49, x50, x51, x52, x53, x54, x55, x56, .ref h57, x58, x59, x60, x61, x62, x63, x64, x65, x66, x67, x68, x69, x70, x71, x72, x73, x74, x75])), (h12, .inl (aC 0, 14, .inl (fun _ => 0))), (h57, .inl (aC 0, 13, .inl (fun _ => 0)))] := hD
  refine lv_iinc (v := 7) (lv' := [(1, .int 7), (0, .ref h1)]) hx hb dX11_fresh_15 hl (k := 0) rfl (by decide +kernel) (by decide) rfl (fun ls hl => ?_)
  refine lv_goto (tgt := 2) hx hb dX11_fresh_18 (by decide) ?_
  refine lv_iload_n hx hb dX11_fresh_2 rfl (lv_at hl 0 rfl) ?_
  refine lv_bipush (v := 13) hx hb dX11_fresh_3 (by decide) ?_
  refine lv_icmp_ge (tgt := 21) hx hb dX11_fresh_5 (by decide) (fun c_ => absurd c_ (by decide +kernel)) (fun _ => ?_)
  refine lv_aload_n hx hb dX11_fresh_8 rfl (lv_at hl 1 rfl) ?_
  refine xget F hP 0 rfl rfl inX11 55 (by decide) tb1237 rfl dX11_fresh_9 ?_
  refine lv_iload_n hx hb dX11_fresh_12 rfl (lv_at hl 0 rfl) ?_
  refine lv_iconst (v := 0) hx hb dX11_fresh_13 (by decide) ?_
  refine xist (f' := fun _ => 0) F hP hD hS 2 rfl 7 (by decide +kernel) (by decide +kernel) (by decide) (xup0 _) dX11_fresh_14 (fun H locs hP hD hS => ?_)
  have hP : va_P g vwCl [(h1, .inr (11, [x2, x3, x4, x5, x6, x7, x8, x9, x10, x11, .ref h12, x13, x14, x15, x16, x17, x18, x19, x20, x21, x22, x23, x24, x25, x26, x27, x28, x29, x30, x31, x32, x33, x34, x35, x36, x37, x38, x39, x40, x41, x42, x43, x44, x45, x46, x47, x48, x49, x50, x51, x52, x53, x54, x55, x56, .ref h57, x58, x59, x60, x61, x62, x63, x64, x65, x66, x67, x68, x69, x70, x71, x72, x73, x74, x75])), (h12, .inl (aC 0, 14, .inl (fun _ => 0))), (h57, .inl (aC 0, 13, .inl (fun _ => 0)))] H := hP
  have hD : va_D A [(h1, .inr (11, [x2, x3, x4, x5, x6, x7, x8, x9, x10, x11, .ref h12, x13, x14, x15, x16, x17, x18, x19, x20, x21, x22, x23, x24, x25, x26, x27, x28, x29, x30, x31, x32, x33, x34, x35, x36, x37, x38, x39, x40, x41, x42, x43, x44, x45, x46, x47, x48, x49, x50, x51, x52, x53, x54, x55, x56, .ref h57, x58, x59, x60, x61, x62, x63, x64, x65, x66, x67, x68, x69, x70, x71, x72, x73, x74, x75])), (h12, .inl (aC 0, 14, .inl (fun _ => 0))), (h57, .inl (aC 0, 13, .inl (fun _ => 0)))] := hD
  refine lv_iinc (v := 8) (lv' := [(1, .int 8), (0, .ref h1)]) hx hb dX11_fresh_15 hl (k := 0) rfl (by decide +kernel) (by decide) rfl (fun ls hl => ?_)
  refine lv_goto (tgt := 2) hx hb dX11_fresh_18 (by decide) ?_
  refine lv_iload_n hx hb dX11_fresh_2 rfl (lv_at hl 0 rfl) ?_
  refine lv_bipush (v := 13) hx hb dX11_fresh_3 (by decide) ?_
  refine lv_icmp_ge (tgt := 21) hx hb dX11_fresh_5 (by decide) (fun c_ => absurd c_ (by decide +kernel)) (fun _ => ?_)
  refine lv_aload_n hx hb dX11_fresh_8 rfl (lv_at hl 1 rfl) ?_
  refine xget F hP 0 rfl rfl inX11 55 (by decide) tb1237 rfl dX11_fresh_9 ?_
  refine lv_iload_n hx hb dX11_fresh_12 rfl (lv_at hl 0 rfl) ?_
  refine lv_iconst (v := 0) hx hb dX11_fresh_13 (by decide) ?_
  refine xist (f' := fun _ => 0) F hP hD hS 2 rfl 8 (by decide +kernel) (by decide +kernel) (by decide) (xup0 _) dX11_fresh_14 (fun H locs hP hD hS => ?_)
  have hP : va_P g vwCl [(h1, .inr (11, [x2, x3, x4, x5, x6, x7, x8, x9, x10, x11, .ref h12, x13, x14, x15, x16, x17, x18, x19, x20, x21, x22, x23, x24, x25, x26, x27, x28, x29, x30, x31, x32, x33, x34, x35, x36, x37, x38, x39, x40, x41, x42, x43, x44, x45, x46, x47, x48, x49, x50, x51, x52, x53, x54, x55, x56, .ref h57, x58, x59, x60, x61, x62, x63, x64, x65, x66, x67, x68, x69, x70, x71, x72, x73, x74, x75])), (h12, .inl (aC 0, 14, .inl (fun _ => 0))), (h57, .inl (aC 0, 13, .inl (fun _ => 0)))] H := hP
  have hD : va_D A [(h1, .inr (11, [x2, x3, x4, x5, x6, x7, x8, x9, x10, x11, .ref h12, x13, x14, x15, x16, x17, x18, x19, x20, x21, x22, x23, x24, x25, x26, x27, x28, x29, x30, x31, x32, x33, x34, x35, x36, x37, x38, x39, x40, x41, x42, x43, x44, x45, x46, x47, x48, x49, x50, x51, x52, x53, x54, x55, x56, .ref h57, x58, x59, x60, x61, x62, x63, x64, x65, x66, x67, x68, x69, x70, x71, x72, x73, x74, x75])), (h12, .inl (aC 0, 14, .inl (fun _ => 0))), (h57, .inl (aC 0, 13, .inl (fun _ => 0)))] := hD
  refine lv_iinc (v := 9) (lv' := [(1, .int 9), (0, .ref h1)]) hx hb dX11_fresh_15 hl (k := 0) rfl (by decide +kernel) (by decide) rfl (fun ls hl => ?_)
  refine lv_goto (tgt := 2) hx hb dX11_fresh_18 (by decide) ?_
  refine lv_iload_n hx hb dX11_fresh_2 rfl (lv_at hl 0 rfl) ?_
  refine lv_bipush (v := 13) hx hb dX11_fresh_3 (by decide) ?_
  refine lv_icmp_ge (tgt := 21) hx hb dX11_fresh_5 (by decide) (fun c_ => absurd c_ (by decide +kernel)) (fun _ => ?_)
  refine lv_aload_n hx hb dX11_fresh_8 rfl (lv_at hl 1 rfl) ?_
  refine xget F hP 0 rfl rfl inX11 55 (by decide) tb1237 rfl dX11_fresh_9 ?_
  refine lv_iload_n hx hb dX11_fresh_12 rfl (lv_at hl 0 rfl) ?_
  refine lv_iconst (v := 0) hx hb dX11_fresh_13 (by decide) ?_
  refine xist (f' := fun _ => 0) F hP hD hS 2 rfl 9 (by decide +kernel) (by decide +kernel) (by decide) (xup0 _) dX11_fresh_14 (fun H locs hP hD hS => ?_)
  have hP : va_P g vwCl [(h1, .inr (11, [x2, x3, x4, x5, x6, x7, x8, x9, x10, x11, .ref h12, x13, x14, x15, x16, x17, x18, x19, x20, x21, x22, x23, x24, x25, x26, x27, x28, x29, x30, x31, x32, x33, x34, x35, x36, x37, x38, x39, x40, x41, x42, x43, x44, x45, x46, x47, x48, x49, x50, x51, x52, x53, x54, x55, x56, .ref h57, x58, x59, x60, x61, x62, x63, x64, x65, x66, x67, x68, x69, x70, x71, x72, x73, x74, x75])), (h12, .inl (aC 0, 14, .inl (fun _ => 0))), (h57, .inl (aC 0, 13, .inl (fun _ => 0)))] H := hP
  have hD : va_D A [(h1, .inr (11, [x2, x3, x4, x5, x6, x7, x8, x9, x10, x11, .ref h12, x13, x14, x15, x16, x17, x18, x19, x20, x21, x22, x23, x24, x25, x26, x27, x28, x29, x30, x31, x32, x33, x34, x35, x36, x37, x38, x39, x40, x41, x42, x43, x44, x45, x46, x47, x48, x49, x50, x51, x52, x53, x54, x55, x56, .ref h57, x58, x59, x60, x61, x62, x63, x64, x65, x66, x67, x68, x69, x70, x71, x72, x73, x74, x75])), (h12, .inl (aC 0, 14, .inl (fun _ => 0))), (h57, .inl (aC 0, 13, .inl (fun _ => 0)))] := hD
  refine lv_iinc (v := 10) (lv' := [(1, .int 10), (0, .ref h1)]) hx hb dX11_fresh_15 hl (k := 0) rfl (by decide +kernel) (by decide) rfl (fun ls hl => ?_)
  refine lv_goto (tgt := 2) hx hb dX11_fresh_18 (by decide) ?_
  refine lv_iload_n hx hb dX11_fresh_2 rfl (lv_at hl 0 rfl) ?_
  refine lv_bipush (v := 13) hx hb dX11_fresh_3 (by decide) ?_
  refine lv_icmp_ge (tgt := 21) hx hb dX11_fresh_5 (by decide) (fun c_ => absurd c_ (by decide +kernel)) (fun _ => ?_)
  refine lv_aload_n hx hb dX11_fresh_8 rfl (lv_at hl 1 rfl) ?_
  refine xget F hP 0 rfl rfl inX11 55 (by decide) tb1237 rfl dX11_fresh_9 ?_
  refine lv_iload_n hx hb dX11_fresh_12 rfl (lv_at hl 0 rfl) ?_
  refine lv_iconst (v := 0) hx hb dX11_fresh_13 (by decide) ?_
  refine xist (f' := fun _ => 0) F hP hD hS 2 rfl 10 (by decide +kernel) (by decide +kernel) (by decide) (xup0 _) dX11_fresh_14 (fun H locs hP hD hS => ?_)
  have hP : va_P g vwCl [(h1, .inr (11, [x2, x3, x4, x5, x6, x7, x8, x9, x10, x11, .ref h12, x13, x14, x15, x16, x17, x18, x19, x20, x21, x22, x23, x24, x25, x26, x27, x28, x29, x30, x31, x32, x33, x34, x35, x36, x37, x38, x39, x40, x41, x42, x43, x44, x45, x46, x47, x48, x49, x50, x51, x52, x53, x54, x55, x56, .ref h57, x58, x59, x60, x61, x62, x63, x64, x65, x66, x67, x68, x69, x70, x71, x72, x73, x74, x75])), (h12, .inl (aC 0, 14, .inl (fun _ => 0))), (h57, .inl (aC 0, 13, .inl (fun _ => 0)))] H := hP
  have hD : va_D A [(h1, .inr (11, [x2, x3, x4, x5, x6, x7, x8, x9, x10, x11, .ref h12, x13, x14, x15, x16, x17, x18, x19, x20, x21, x22, x23, x24, x25, x26, x27, x28, x29, x30, x31, x32, x33, x34, x35, x36, x37, x38, x39, x40, x41, x42, x43, x44, x45, x46, x47, x48, x49, x50, x51, x52, x53, x54, x55, x56, .ref h57, x58, x59, x60, x61, x62, x63, x64, x65, x66, x67, x68, x69, x70, x71, x72, x73, x74, x75])), (h12, .inl (aC 0, 14, .inl (fun _ => 0))), (h57, .inl (aC 0, 13, .inl (fun _ => 0)))] := hD
  refine lv_iinc (v := 11) (lv' := [(1, .int 11), (0, .ref h1)]) hx hb dX11_fresh_15 hl (k := 0) rfl (by decide +kernel) (by decide) rfl (fun ls hl => ?_)
  refine lv_goto (tgt := 2) hx hb dX11_fresh_18 (by decide) ?_
  refine lv_iload_n hx hb dX11_fresh_2 rfl (lv_at hl 0 rfl) ?_
  refine lv_bipush (v := 13) hx hb dX11_fresh_3 (by decide) ?_
  refine lv_icmp_ge (tgt := 21) hx hb dX11_fresh_5 (by decide) (fun c_ => absurd c_ (by decide +kernel)) (fun _ => ?_)
  refine lv_aload_n hx hb dX11_fresh_8 rfl (lv_at hl 1 rfl) ?_
  refine xget F hP 0 rfl rfl inX11 55 (by decide) tb1237 rfl dX11_fresh_9 ?_
  refine lv_iload_n hx hb dX11_fresh_12 rfl (lv_at hl 0 rfl) ?_
  refine lv_iconst (v := 0) hx hb dX11_fresh_13 (by decide) ?_
  refine xist (f' := fun _ => 0) F hP hD hS 2 rfl 11 (by decide +kernel) (by decide +kernel) (by decide) (xup0 _) dX11_fresh_14 (fun H locs hP hD hS => ?_)
  have hP : va_P g vwCl [(h1, .inr (11, [x2, x3, x4, x5, x6, x7, x8, x9, x10, x11, .ref h12, x13, x14, x15, x16, x17, x18, x19, x20, x21, x22, x23, x24, x25, x26, x27, x28, x29, x30, x31, x32, x33, x34, x35, x36, x37, x38, x39, x40, x41, x42, x43, x44, x45, x46, x47, x48, x49, x50, x51, x52, x53, x54, x55, x56, .ref h57, x58, x59, x60, x61, x62, x63, x64, x65, x66, x67, x68, x69, x70, x71, x72, x73, x74, x75])), (h12, .inl (aC 0, 14, .inl (fun _ => 0))), (h57, .inl (aC 0, 13, .inl (fun _ => 0)))] H := hP
  have hD : va_D A [(h1, .inr (11, [x2, x3, x4, x5, x6, x7, x8, x9, x10, x11, .ref h12, x13, x14, x15, x16, x17, x18, x19, x20, x21, x22, x23, x24, x25, x26, x27, x28, x29, x30, x31, x32, x33, x34, x35, x36, x37, x38, x39, x40, x41, x42, x43, x44, x45, x46, x47, x48, x49, x50, x51, x52, x53, x54, x55, x56, .ref h57, x58, x59, x60, x61, x62, x63, x64, x65, x66, x67, x68, x69, x70, x71, x72, x73, x74, x75])), (h12, .inl (aC 0, 14, .inl (fun _ => 0))), (h57, .inl (aC 0, 13, .inl (fun _ => 0)))] := hD
  refine lv_iinc (v := 12) (lv' := [(1, .int 12), (0, .ref h1)]) hx hb dX11_fresh_15 hl (k := 0) rfl (by decide +kernel) (by decide) rfl (fun ls hl => ?_)
  refine lv_goto (tgt := 2) hx hb dX11_fresh_18 (by decide) ?_
  refine lv_iload_n hx hb dX11_fresh_2 rfl (lv_at hl 0 rfl) ?_
  refine lv_bipush (v := 13) hx hb dX11_fresh_3 (by decide) ?_
  refine lv_icmp_ge (tgt := 21) hx hb dX11_fresh_5 (by decide) (fun c_ => absurd c_ (by decide +kernel)) (fun _ => ?_)
  refine lv_aload_n hx hb dX11_fresh_8 rfl (lv_at hl 1 rfl) ?_
  refine xget F hP 0 rfl rfl inX11 55 (by decide) tb1237 rfl dX11_fresh_9 ?_
  refine lv_iload_n hx hb dX11_fresh_12 rfl (lv_at hl 0 rfl) ?_
  refine lv_iconst (v := 0) hx hb dX11_fresh_13 (by decide) ?_
  refine xist (f' := fun _ => 0) F hP hD hS 2 rfl 12 (by decide +kernel) (by decide +kernel) (by decide) (xup0 _) dX11_fresh_14 (fun H locs hP hD hS => ?_)
  have hP : va_P g vwCl [(h1, .inr (11, [x2, x3, x4, x5, x6, x7, x8, x9, x10, x11, .ref h12, x13, x14, x15, x16, x17, x18, x19, x20, x21, x22, x23, x24, x25, x26, x27, x28, x29, x30, x31, x32, x33, x34, x35, x36, x37, x38, x39, x40, x41, x42, x43, x44, x45, x46, x47, x48, x49, x50, x51, x52, x53, x54, x55, x56, .ref h57, x58, x59, x60, x61, x62, x63, x64, x65, x66, x67, x68, x69, x70, x71, x72, x73, x74, x75])), (h12, .inl (aC 0, 14, .inl (fun _ => 0))), (h57, .inl (aC 0, 13, .inl (fun _ => 0)))] H := hP
  have hD : va_D A [(h1, .inr (11, [x2, x3, x4, x5, x6, x7, x8, x9, x10, x11, .ref h12, x13, x14, x15, x16, x17, x18, x19, x20, x21, x22, x23, x24, x25, x26, x27, x28, x29, x30, x31, x32, x33, x34, x35, x36, x37, x38, x39, x40, x41, x42, x43, x44, x45, x46, x47, x48, x49, x50, x51, x52, x53, x54, x55, x56, .ref h57, x58, x59, x60, x61, x62, x63, x64, x65, x66, x67, x68, x69, x70, x71, x72, x73, x74, x75])), (h12, .inl (aC 0, 14, .inl (fun _ => 0))), (h57, .inl (aC 0, 13, .inl (fun _ => 0)))] := hD
  refine lv_iinc (v := 13) (lv' := [(1, .int 13), (0, .ref h1)]) hx hb dX11_fresh_15 hl (k := 0) rfl (by decide +kernel) (by decide) rfl (fun ls hl => ?_)
  refine lv_goto (tgt := 2) hx hb dX11_fresh_18 (by decide) ?_
  refine lv_iload_n hx hb dX11_fresh_2 rfl (lv_at hl 0 rfl) ?_
  refine lv_bipush (v := 13) hx hb dX11_fresh_3 (by decide) ?_
  refine lv_icmp_ge (tgt := 21) hx hb dX11_fresh_5 (by decide) (fun _ => ?_) (fun c_ => absurd (by decide +kernel) c_)
  refine lv_aload_n hx hb dX11_fresh_21 rfl (lv_at hl 1 rfl) ?_
  refine xget F hP 0 rfl rfl inX11 55 (by decide) tb1237 rfl dX11_fresh_22 ?_
  refine lv_iconst (v := 0) hx hb dX11_fresh_25 (by decide) ?_
  refine lv_aload_n hx hb dX11_fresh_26 rfl (lv_at hl 1 rfl) ?_
  refine goI (wr := [(h57, .inl (aC 0, 13, .inl (fun _ => 0)))]) (runV (n := 0) (As := []) (rest := [.int 0, .ref h57]) F hP hD hS (a_X11_allFlights_2 l g aC aM h1 h12 x2 x3 x4 x5 x6 x7 x8 x9 x10 x11 x13 x14 x15 x16 x17 x18 x19 x20 x21 x22 x23 x24 x25 x26 x27 x28 x29 x30 x31 x32 x33 x34 x35 x36 x37 x38 x39 x40 x41 x42 x43 x44 x45 x46 x47 x48 x49 x50 x51 x52 x53 x54 x55 x56 (.ref h57) x58 x59 x60 x61 x62 x63 x64 x65 x66 x67 x68 x69 x70 x71 x72 x73 x74 x75) [0, 1] (by decide) rfl 0 11 rfl rfl rfl tb1592 tb1589 tb1591 tv65 tb17 ⟨by decide, by decide, by decide +kernel⟩ ⟨Nat.le_of_ble_eq_true rfl, Nat.le_of_ble_eq_true rfl⟩ rfl hl.1 rfl (Nat.le_of_ble_eq_true rfl) dX11_fresh_27 ⟨Nat.le_of_ble_eq_true rfl, Nat.le_of_ble_eq_true rfl⟩) hP hD hS hA [0, 1] [2] rfl rfl (by decide) (by decide) (fun r_16 w17 H locs hw hP hD hS => ?_)
  have hP : va_P g vwCl [(h57, .inl (aC 0, 13, .inl (fun _ => 0))), (h1, .inr (11, [x2, x3, x4, x5, x6, x7, x8, x9, x10, x11, .ref h12, x13, x14, x15, x16, x17, x18, x19, x20, x21, x22, x23, x24, x25, x26, x27, x28, x29, x30, x31, x32, x33, x34, x35, x36, x37, x38, x39, x40, x41, x42, x43, x44, x45, x46, x47, x48, x49, x50, x51, x52, x53, x54, x55, x56, .ref h57, x58, x59, x60, x61, x62, x63, x64, x65, x66, x67, x68, x69, x70, x71, x72, x73, x74, x75])), (h12, .inl (aC 0, 14, .inl (fun _ => 0)))] H := hP
  have hD : va_D A [(h57, .inl (aC 0, 13, .inl (fun _ => 0))), (h1, .inr (11, [x2, x3, x4, x5, x6, x7, x8, x9, x10, x11, .ref h12, x13, x14, x15, x16, x17, x18, x19, x20, x21, x22, x23, x24, x25, x26, x27, x28, x29, x30, x31, x32, x33, x34, x35, x36, x37, x38, x39, x40, x41, x42, x43, x44, x45, x46, x47, x48, x49, x50, x51, x52, x53, x54, x55, x56, .ref h57, x58, x59, x60, x61, x62, x63, x64, x65, x66, x67, x68, x69, x70, x71, x72, x73, x74, x75])), (h12, .inl (aC 0, 14, .inl (fun _ => 0)))] := hD
  try dsimp only at hw
  subst hw
  refine xist (f' := fun _ => 0) F hP hD hS 0 rfl 0 (by decide +kernel) (by decide +kernel) (by decide) (xup0 _) dX11_fresh_30 (fun H locs hP hD hS => ?_)
  have hP : va_P g vwCl [(h57, .inl (aC 0, 13, .inl (fun _ => 0))), (h1, .inr (11, [x2, x3, x4, x5, x6, x7, x8, x9, x10, x11, .ref h12, x13, x14, x15, x16, x17, x18, x19, x20, x21, x22, x23, x24, x25, x26, x27, x28, x29, x30, x31, x32, x33, x34, x35, x36, x37, x38, x39, x40, x41, x42, x43, x44, x45, x46, x47, x48, x49, x50, x51, x52, x53, x54, x55, x56, .ref h57, x58, x59, x60, x61, x62, x63, x64, x65, x66, x67, x68, x69, x70, x71, x72, x73, x74, x75])), (h12, .inl (aC 0, 14, .inl (fun _ => 0)))] H := hP
  have hD : va_D A [(h57, .inl (aC 0, 13, .inl (fun _ => 0))), (h1, .inr (11, [x2, x3, x4, x5, x6, x7, x8, x9, x10, x11, .ref h12, x13, x14, x15, x16, x17, x18, x19, x20, x21, x22, x23, x24, x25, x26, x27, x28, x29, x30, x31, x32, x33, x34, x35, x36, x37, x38, x39, x40, x41, x42, x43, x44, x45, x46, x47, x48, x49, x50, x51, x52, x53, x54, x55, x56, .ref h57, x58, x59, x60, x61, x62, x63, x64, x65, x66, x67, x68, x69, x70, x71, x72, x73, x74, x75])), (h12, .inl (aC 0, 14, .inl (fun _ => 0)))] := hD
  refine lv_iconst (v := 0) hx hb dX11_fresh_31 (by decide) ?_
  refine lv_istore_n (lv' := [(1, .int 0), (0, .ref h1)]) hx hb dX11_fresh_32 rfl hl (by decide) rfl (fun ls hl => ?_)
  refine lv_iload_n hx hb dX11_fresh_33 rfl (lv_at hl 0 rfl) ?_
  refine lv_aload_n hx hb dX11_fresh_34 rfl (lv_at hl 1 rfl) ?_
  refine xget F hP 1 rfl rfl inX11 10 (by decide) tb1192 rfl dX11_fresh_35 ?_
  refine lv_iconst (v := 3) hx hb dX11_fresh_38 (by decide) ?_
  refine xilo (v := 0) F hP 2 rfl 3 (by decide +kernel) (by decide +kernel) (by decide) (by decide +kernel) dX11_fresh_39 ?_
  refine lv_icmp_ge (tgt := 63) hx hb dX11_fresh_40 (by decide) (fun _ => ?_) (fun c_ => absurd (by decide +kernel) c_)
  refine lv_iconst (v := 0) hx hb dX11_fresh_63 (by decide) ?_
  refine lv_istore_n (lv' := [(1, .int 0), (0, .ref h1)]) hx hb dX11_fresh_64 rfl hl (by decide) rfl (fun ls hl => ?_)
  refine lv_iload_n hx hb dX11_fresh_65 rfl (lv_at hl 0 rfl) ?_
  refine lv_aload_n hx hb dX11_fresh_66 rfl (lv_at hl 1 rfl) ?_
  refine xget F hP 1 rfl rfl inX11 10 (by decide) tb1192 rfl dX11_fresh_67 ?_
  refine lv_iconst (v := 2) hx hb dX11_fresh_70 (by decide) ?_
  refine xilo (v := 0) F hP 2 rfl 2 (by decide +kernel) (by decide +kernel) (by decide) (by decide +kernel) dX11_fresh_71 ?_
  refine lv_icmp_ge (tgt := 96) hx hb dX11_fresh_72 (by decide) (fun _ => ?_) (fun c_ => absurd (by decide +kernel) c_)
  refine lv_aload_n hx hb dX11_fresh_96 rfl (lv_at hl 1 rfl) ?_
  refine xget F hP 1 rfl rfl inX11 55 (by decide) tb1237 rfl dX11_fresh_97 ?_
  refine lv_bipush (v := 10) hx hb dX11_fresh_100 (by decide) ?_
  refine lv_aload_n hx hb dX11_fresh_102 rfl (lv_at hl 1 rfl) ?_
  refine xget F hP 1 rfl rfl inX11 10 (by decide) tb1192 rfl dX11_fresh_103 ?_
  refine lv_iconst (v := 5) hx hb dX11_fresh_106 (by decide) ?_
  refine xilo (v := 0) F hP 2 rfl 5 (by decide +kernel) (by decide +kernel) (by decide) (by decide +kernel) dX11_fresh_107 ?_
  refine xist (f' := fun _ => 0) F hP hD hS 0 rfl 10 (by decide +kernel) (by decide +kernel) (by decide) (xup0 _) dX11_fresh_108 (fun H locs hP hD hS => ?_)
  have hP : va_P g vwCl [(h57, .inl (aC 0, 13, .inl (fun _ => 0))), (h1, .inr (11, [x2, x3, x4, x5, x6, x7, x8, x9, x10, x11, .ref h12, x13, x14, x15, x16, x17, x18, x19, x20, x21, x22, x23, x24, x25, x26, x27, x28, x29, x30, x31, x32, x33, x34, x35, x36, x37, x38, x39, x40, x41, x42, x43, x44, x45, x46, x47, x48, x49, x50, x51, x52, x53, x54, x55, x56, .ref h57, x58, x59, x60, x61, x62, x63, x64, x65, x66, x67, x68, x69, x70, x71, x72, x73, x74, x75])), (h12, .inl (aC 0, 14, .inl (fun _ => 0)))] H := hP
  have hD : va_D A [(h57, .inl (aC 0, 13, .inl (fun _ => 0))), (h1, .inr (11, [x2, x3, x4, x5, x6, x7, x8, x9, x10, x11, .ref h12, x13, x14, x15, x16, x17, x18, x19, x20, x21, x22, x23, x24, x25, x26, x27, x28, x29, x30, x31, x32, x33, x34, x35, x36, x37, x38, x39, x40, x41, x42, x43, x44, x45, x46, x47, x48, x49, x50, x51, x52, x53, x54, x55, x56, .ref h57, x58, x59, x60, x61, x62, x63, x64, x65, x66, x67, x68, x69, x70, x71, x72, x73, x74, x75])), (h12, .inl (aC 0, 14, .inl (fun _ => 0)))] := hD
  have hP9 := hP.sub (ws' := [(h57, .inl (aC 0, 13, .inl (fun _ => 0))), (h1, .inr (11, [x2, x3, x4, x5, x6, x7, x8, x9, x10, x11, .ref h12, x13, x14, x15, x16, x17, x18, x19, x20, x21, x22, x23, x24, x25, x26, x27, x28, x29, x30, x31, x32, x33, x34, x35, x36, x37, x38, x39, x40, x41, x42, x43, x44, x45, x46, x47, x48, x49, x50, x51, x52, x53, x54, x55, x56, .ref h57, x58, x59, x60, x61, x62, x63, x64, x65, x66, x67, x68, x69, x70, x71, x72, x73, x74, x75])), (h12, .inl (aC 0, 14, .inl (fun _ => 0)))]) [0, 1, 2] rfl
  have hD9 := hD.sub (ws' := [(h57, .inl (aC 0, 13, .inl (fun _ => 0))), (h1, .inr (11, [x2, x3, x4, x5, x6, x7, x8, x9, x10, x11, .ref h12, x13, x14, x15, x16, x17, x18, x19, x20, x21, x22, x23, x24, x25, x26, x27, x28, x29, x30, x31, x32, x33, x34, x35, x36, x37, x38, x39, x40, x41, x42, x43, x44, x45, x46, x47, x48, x49, x50, x51, x52, x53, x54, x55, x56, .ref h57, x58, x59, x60, x61, x62, x63, x64, x65, x66, x67, x68, x69, x70, x71, x72, x73, x74, x75])), (h12, .inl (aC 0, 14, .inl (fun _ => 0)))]) [0, 1, 2] (by decide) rfl
  exact rV () hx hb hr hlk hS trivial hP9 hD9 (Nat.le_of_ble_eq_true rfl) (Nat.le_of_ble_eq_true rfl) dX11_fresh_109

theorem dX11_judged_34 : decode cX11_judged 34 = .ok (.iconst (-1), 1) := by decide +kernel
theorem dX11_judged_35 : decode cX11_judged 35 = .ok (.istore_n 2, 1) := by decide +kernel
theorem dX11_judged_36 : decode cX11_judged 36 = .ok (.iconst (-1), 1) := by decide +kernel
theorem dX11_judged_37 : decode cX11_judged 37 = .ok (.istore_n 3, 1) := by decide +kernel
theorem dX11_judged_38 : decode cX11_judged 38 = .ok (.iconst 0, 1) := by decide +kernel
theorem dX11_judged_39 : decode cX11_judged 39 = .ok (.istore 4, 2) := by decide +kernel
theorem dX11_judged_41 : decode cX11_judged 41 = .ok (.iload 4, 2) := by decide +kernel
theorem dX11_judged_43 : decode cX11_judged 43 = .ok (.aload_n 0, 1) := by decide +kernel
theorem dX11_judged_44 : decode cX11_judged 44 = .ok (.getfield 114, 3) := by decide +kernel
theorem dX11_judged_47 : decode cX11_judged 47 = .ok (.iconst 0, 1) := by decide +kernel
theorem dX11_judged_48 : decode cX11_judged 48 = .ok (.iaload, 1) := by decide +kernel
theorem dX11_judged_49 : decode cX11_judged 49 = .ok (.if_icmp .ge 54, 3) := by decide +kernel
theorem dX11_judged_103 : decode cX11_judged 103 = .ok (.aload_n 0, 1) := by decide +kernel
theorem dX11_judged_104 : decode cX11_judged 104 = .ok (.getfield 141, 3) := by decide +kernel
theorem dX11_judged_107 : decode cX11_judged 107 = .ok (.bipush 12, 2) := by decide +kernel
theorem dX11_judged_109 : decode cX11_judged 109 = .ok (.iaload, 1) := by decide +kernel
theorem dX11_judged_110 : decode cX11_judged 110 = .ok (.istore 4, 2) := by decide +kernel
theorem dX11_judged_112 : decode cX11_judged 112 = .ok (.aload_n 0, 1) := by decide +kernel
theorem dX11_judged_113 : decode cX11_judged 113 = .ok (.getfield 144, 3) := by decide +kernel
theorem dX11_judged_116 : decode cX11_judged 116 = .ok (.iconst 0, 1) := by decide +kernel
theorem dX11_judged_117 : decode cX11_judged 117 = .ok (.aload_n 0, 1) := by decide +kernel
theorem dX11_judged_118 : decode cX11_judged 118 = .ok (.getfield 141, 3) := by decide +kernel
theorem dX11_judged_121 : decode cX11_judged 121 = .ok (.iconst 0, 1) := by decide +kernel
theorem dX11_judged_122 : decode cX11_judged 122 = .ok (.invokestatic 464, 3) := by decide +kernel
theorem dX11_judged_125 : decode cX11_judged 125 = .ok (.iload_n 1, 1) := by decide +kernel
theorem dX11_judged_126 : decode cX11_judged 126 = .ok (.ifCond .ne 7, 3) := by decide +kernel
theorem dX11_judged_129 : decode cX11_judged 129 = .ok (.iload_n 2, 1) := by decide +kernel
theorem dX11_judged_130 : decode cX11_judged 130 = .ok (.goto 14, 3) := by decide +kernel
theorem dX11_judged_144 : decode cX11_judged 144 = .ok (.ireturn, 1) := by decide +kernel
set_option maxHeartbeats 4000000 in
set_option maxRecDepth 100000 in
theorem a_X11_within_18 (l : Launch) (g : va_G) (aC : Nat → ClassId) (aM : Nat → Nat)  : Ct l g aC aM yX11_within cX11_within 3 (some .boolean) 1 [.int 1, .int 0, .int 2] [] (QI g (fun (r : Int32) (_ : Unit) => r = 1) (fun (_ : Unit) => [])) 0 0 := by
  refine Ct.mk (by decide) (Nat.le_of_ble_eq_true rfl) ?_
  intro p e s m below meth c A ls hx hb hml hown hts hr hlk hnm hK hA hM hM2 hP hD hS hl
  have hown : s.vm.findClass RX11 = some m.cls := hown
  have F : Fx p s m _ c cX11_within 3 RX11 g aC aM A := ⟨hx, hb, hml, hown, hts, hK, hA, hM, hM2⟩
  have hl : lv_has ls 3 [(0, .int 1), (1, .int 0), (2, .int 2)] := hl
  refine lv_iload_n hx hb dX11_within_0 rfl (lv_at hl 0 rfl) ?_
  refine lv_iload_n hx hb dX11_within_1 rfl (lv_at hl 1 rfl) ?_
  refine lv_icmp_lt (tgt := 14) hx hb dX11_within_2 (by decide) (fun c_ => absurd c_ (by decide +kernel)) (fun _ => ?_)
  refine lv_iload_n hx hb dX11_within_5 rfl (lv_at hl 0 rfl) ?_
  refine lv_iload_n hx hb dX11_within_6 rfl (lv_at hl 2 rfl) ?_
  refine lv_icmp_gt (tgt := 14) hx hb dX11_within_7 (by decide) (fun c_ => absurd c_ (by decide +kernel)) (fun _ => ?_)
  refine lv_iconst (v := 1) hx hb dX11_within_10 (by decide) ?_
  refine lv_goto (tgt := 15) hx hb dX11_within_11 (by decide) ?_
  have hP9 := hP.sub (ws' := []) [] rfl
  have hD9 := hD.sub (ws' := []) [] (by decide) rfl
  exact rI () hx hb hr hlk rfl hS rfl hP9 hD9 (Nat.le_of_ble_eq_true rfl) (Nat.le_of_ble_eq_true rfl) dX11_within_15

theorem dX11_judged_133 : decode cX11_judged 133 = .ok (.iload_n 1, 1) := by decide +kernel
theorem dX11_judged_134 : decode cX11_judged 134 = .ok (.iconst 1, 1) := by decide +kernel
theorem dX11_judged_135 : decode cX11_judged 135 = .ok (.if_icmp .ne 7, 3) := by decide +kernel
theorem dX11_judged_138 : decode cX11_judged 138 = .ok (.iload_n 3, 1) := by decide +kernel
theorem dX11_judged_139 : decode cX11_judged 139 = .ok (.goto 5, 3) := by decide +kernel
set_option maxHeartbeats 4000000 in
set_option maxRecDepth 100000 in
theorem a_X11_within_19 (l : Launch) (g : va_G) (aC : Nat → ClassId) (aM : Nat → Nat)  : Ct l g aC aM yX11_within cX11_within 3 (some .boolean) 1 [.int 2, .int 0, .int 2] [] (QI g (fun (r : Int32) (_ : Unit) => r = 1) (fun (_ : Unit) => [])) 0 0 := by
  refine Ct.mk (by decide) (Nat.le_of_ble_eq_true rfl) ?_
  intro p e s m below meth c A ls hx hb hml hown hts hr hlk hnm hK hA hM hM2 hP hD hS hl
  have hown : s.vm.findClass RX11 = some m.cls := hown
  have F : Fx p s m _ c cX11_within 3 RX11 g aC aM A := ⟨hx, hb, hml, hown, hts, hK, hA, hM, hM2⟩
  have hl : lv_has ls 3 [(0, .int 2), (1, .int 0), (2, .int 2)] := hl
  refine lv_iload_n hx hb dX11_within_0 rfl (lv_at hl 0 rfl) ?_
  refine lv_iload_n hx hb dX11_within_1 rfl (lv_at hl 1 rfl) ?_
  refine lv_icmp_lt (tgt := 14) hx hb dX11_within_2 (by decide) (fun c_ => absurd c_ (by decide +kernel)) (fun _ => ?_)
  refine lv_iload_n hx hb dX11_within_5 rfl (lv_at hl 0 rfl) ?_
  refine lv_iload_n hx hb dX11_within_6 rfl (lv_at hl 2 rfl) ?_
  refine lv_icmp_gt (tgt := 14) hx hb dX11_within_7 (by decide) (fun c_ => absurd c_ (by decide +kernel)) (fun _ => ?_)
  refine lv_iconst (v := 1) hx hb dX11_within_10 (by decide) ?_
  refine lv_goto (tgt := 15) hx hb dX11_within_11 (by decide) ?_
  have hP9 := hP.sub (ws' := []) [] rfl
  have hD9 := hD.sub (ws' := []) [] (by decide) rfl
  exact rI () hx hb hr hlk rfl hS rfl hP9 hD9 (Nat.le_of_ble_eq_true rfl) (Nat.le_of_ble_eq_true rfl) dX11_within_15

theorem dX11_judged_142 : decode cX11_judged 142 = .ok (.iload 4, 2) := by decide +kernel
set_option maxHeartbeats 4000000 in
set_option maxRecDepth 100000 in
theorem m_judged_lo (l : Launch) (g : va_G) (aC : Nat → ClassId) (aM : Nat → Nat) (h1 h11 h47 h56 h57 : Nat) (x2 x3 x4 x5 x6 x7 x8 x9 x10 x12 x13 x14 x15 x16 x17 x18 x19 x20 x21 x22 x23 x24 x25 x26 x27 x28 x29 x30 x31 x32 x33 x34 x35 x36 x37 x38 x39 x40 x41 x42 x43 x44 x45 x46 x48 x49 x50 x51 x52 x53 x54 x55 x58 x59 x60 x61 x62 x63 x64 x65 x66 x67 x68 x69 x70 x71 x72 x73 x74 : Value) (n_1 : Int32) (hh1 : n_1 ≤ (-1)) : Ct l g aC aM yX11_judged cX11_judged 6 (some .int) 3 [.ref h1, .int n_1] [(h1, .inr (11, [.int 0, x2, x3, x4, x5, x6, x7, x8, x9, x10, .ref h11, x12, x13, x14, x15, x16, x17, x18, x19, x20, x21, x22, x23, x24, x25, x26, x27, x28, x29, x30, x31, x32, x33, x34, x35, x36, x37, x38, x39, x40, x41, x42, x43, x44, x45, x46, .ref h47, x48, x49, x50, x51, x52, x53, x54, x55, .ref h56, .ref h57, x58, x59, x60, x61, x62, x63, x64, x65, x66, x67, x68, x69, x70, x71, x72, x73, x74])), (h11, .inl (aC 0, 14, .inl (fun _ => 0))), (h47, .inl (aC 0, 6, .inl (fun _ => 0))), (h56, .inl (aC 0, 13, .inl (fun _ => 0))), (h57, .inl (aC 0, 13, .inl (fun _ => 0)))] (QI g (fun (r : Int32) (_ : Unit) => r = (-2)) (fun (_ : Unit) => [])) 0 0 := by
  refine Ct.mk (by decide) (Nat.le_of_ble_eq_true rfl) ?_
  intro p e s m below meth c A ls hx hb hml hown hts hr hlk hnm hK hA hM hM2 hP hD hS hl
  have hown : s.vm.findClass RX11 = some m.cls := hown
  have F : Fx p s m _ c cX11_judged 6 RX11 g aC aM A := ⟨hx, hb, hml, hown, hts, hK, hA, hM, hM2⟩
  have hl : lv_has ls 6 [(0, .ref h1), (1, .int n_1)] := hl
  refine lv_aload_n hx hb dX11_judged_0 rfl (lv_at hl 0 rfl) ?_
  refine lv_iconst (v := 0) hx hb dX11_judged_1 (by decide) ?_
  refine xput F hP hD hS 0 rfl rfl inX11 tyX11_ok nmX11 0 (by decide) tb1182 rfl rfl rfl (Nat.le_of_ble_eq_true rfl) dX11_judged_2 (fun H locs hP hD hS => ?_)
  have hP : va_P g vwCl [(h1, .inr (11, [.int 0, x2, x3, x4, x5, x6, x7, x8, x9, x10, .ref h11, x12, x13, x14, x15, x16, x17, x18, x19, x20, x21, x22, x23, x24, x25, x26, x27, x28, x29, x30, x31, x32, x33, x34, x35, x36, x37, x38, x39, x40, x41, x42, x43, x44, x45, x46, .ref h47, x48, x49, x50, x51, x52, x53, x54, x55, .ref h56, .ref h57, x58, x59, x60, x61, x62, x63, x64, x65, x66, x67, x68, x69, x70, x71, x72, x73, x74])), (h11, .inl (aC 0, 14, .inl (fun _ => 0))), (h47, .inl (aC 0, 6, .inl (fun _ => 0))), (h56, .inl (aC 0, 13, .inl (fun _ => 0))), (h57, .inl (aC 0, 13, .inl (fun _ => 0)))] H := hP
  have hD : va_D A [(h1, .inr (11, [.int 0, x2, x3, x4, x5, x6, x7, x8, x9, x10, .ref h11, x12, x13, x14, x15, x16, x17, x18, x19, x20, x21, x22, x23, x24, x25, x26, x27, x28, x29, x30, x31, x32, x33, x34, x35, x36, x37, x38, x39, x40, x41, x42, x43, x44, x45, x46, .ref h47, x48, x49, x50, x51, x52, x53, x54, x55, .ref h56, .ref h57, x58, x59, x60, x61, x62, x63, x64, x65, x66, x67, x68, x69, x70, x71, x72, x73, x74])), (h11, .inl (aC 0, 14, .inl (fun _ => 0))), (h47, .inl (aC 0, 6, .inl (fun _ => 0))), (h56, .inl (aC 0, 13, .inl (fun _ => 0))), (h57, .inl (aC 0, 13, .inl (fun _ => 0)))] := hD
  refine lv_iload_n hx hb dX11_judged_5 rfl (lv_at hl 1 rfl) ?_
  refine lv_iconst (v := 0) hx hb dX11_judged_6 (by decide) ?_
  refine lv_iconst (v := 2) hx hb dX11_judged_7 (by decide) ?_
  refine goI (wr := [(h1, .inr (11, [.int 0, x2, x3, x4, x5, x6, x7, x8, x9, x10, .ref h11, x12, x13, x14, x15, x16, x17, x18, x19, x20, x21, x22, x23, x24, x25, x26, x27, x28, x29, x30, x31, x32, x33, x34, x35, x36, x37, x38, x39, x40, x41, x42, x43, x44, x45, x46, .ref h47, x48, x49, x50, x51, x52, x53, x54, x55, .ref h56, .ref h57, x58, x59, x60, x61, x62, x63, x64, x65, x66, x67, x68, x69, x70, x71, x72, x73, x74])), (h11, .inl (aC 0, 14, .inl (fun _ => 0))), (h47, .inl (aC 0, 6, .inl (fun _ => 0))), (h56, .inl (aC 0, 13, .inl (fun _ => 0))), (h57, .inl (aC 0, 13, .inl (fun _ => 0)))]) (runS (n := 3) (As := [.int n_1, .int 0, .int 2]) (rest := []) F hP hD hS (k_within_lo l g aC aM n_1 0 2 (by have a0_ := hh1; simp only [Int32.lt_iff_toInt_lt, Int32.le_iff_toInt_le, ← Int32.toInt_inj, show (-1 : Int32).toInt = -1 by decide, show (0 : Int32).toInt = 0 by decide, show (2 : Int32).toInt = 2 by decide] at a0_ ⊢; omega)) [] (by decide) rfl tb1511 tb1509 tb1510 tb17 ⟨by decide, by decide, by decide +kernel⟩ ⟨Nat.le_of_ble_eq_true rfl, Nat.le_of_ble_eq_true rfl⟩ rfl hl.1 rfl (Nat.le_of_ble_eq_true rfl) dX11_judged_8 ⟨Nat.le_of_ble_eq_true rfl, Nat.le_of_ble_eq_true rfl⟩) hP hD hS hA [] [0, 1, 2, 3, 4] rfl rfl (by decide) (by decide) (fun r_2 w3 H locs hw hP hD hS => ?_)
  have hP : va_P g vwCl [(h1, .inr (11, [.int 0, x2, x3, x4, x5, x6, x7, x8, x9, x10, .ref h11, x12, x13, x14, x15, x16, x17, x18, x19, x20, x21, x22, x23, x24, x25, x26, x27, x28, x29, x30, x31, x32, x33, x34, x35, x36, x37, x38, x39, x40, x41, x42, x43, x44, x45, x46, .ref h47, x48, x49, x50, x51, x52, x53, x54, x55, .ref h56, .ref h57, x58, x59, x60, x61, x62, x63, x64, x65, x66, x67, x68, x69, x70, x71, x72, x73, x74])), (h11, .inl (aC 0, 14, .inl (fun _ => 0))), (h47, .inl (aC 0, 6, .inl (fun _ => 0))), (h56, .inl (aC 0, 13, .inl (fun _ => 0))), (h57, .inl (aC 0, 13, .inl (fun _ => 0)))] H := hP
  have hD : va_D A [(h1, .inr (11, [.int 0, x2, x3, x4, x5, x6, x7, x8, x9, x10, .ref h11, x12, x13, x14, x15, x16, x17, x18, x19, x20, x21, x22, x23, x24, x25, x26, x27, x28, x29, x30, x31, x32, x33, x34, x35, x36, x37, x38, x39, x40, x41, x42, x43, x44, x45, x46, .ref h47, x48, x49, x50, x51, x52, x53, x54, x55, .ref h56, .ref h57, x58, x59, x60, x61, x62, x63, x64, x65, x66, x67, x68, x69, x70, x71, x72, x73, x74])), (h11, .inl (aC 0, 14, .inl (fun _ => 0))), (h47, .inl (aC 0, 6, .inl (fun _ => 0))), (h56, .inl (aC 0, 13, .inl (fun _ => 0))), (h57, .inl (aC 0, 13, .inl (fun _ => 0)))] := hD
  try dsimp only at hw
  subst hw
  refine lv_if_ne (tgt := 17) hx hb dX11_judged_11 (by decide) (fun c_ => absurd (by decide +kernel) c_) (fun _ => ?_)
  refine lv_bipush (v := (-2)) hx hb dX11_judged_14 (by decide) ?_
  have hP9 := hP.sub (ws' := []) [] rfl
  have hD9 := hD.sub (ws' := []) [] (by decide) rfl
  exact rI () hx hb hr hlk rfl hS rfl hP9 hD9 (Nat.le_of_ble_eq_true rfl) (Nat.le_of_ble_eq_true rfl) dX11_judged_16

set_option maxHeartbeats 4000000 in
set_option maxRecDepth 100000 in
theorem m_judged_hi (l : Launch) (g : va_G) (aC : Nat → ClassId) (aM : Nat → Nat) (h1 h11 h47 h56 h57 : Nat) (x2 x3 x4 x5 x6 x7 x8 x9 x10 x12 x13 x14 x15 x16 x17 x18 x19 x20 x21 x22 x23 x24 x25 x26 x27 x28 x29 x30 x31 x32 x33 x34 x35 x36 x37 x38 x39 x40 x41 x42 x43 x44 x45 x46 x48 x49 x50 x51 x52 x53 x54 x55 x58 x59 x60 x61 x62 x63 x64 x65 x66 x67 x68 x69 x70 x71 x72 x73 x74 : Value) (n_1 : Int32) (hl1 : 3 ≤ n_1) : Ct l g aC aM yX11_judged cX11_judged 6 (some .int) 3 [.ref h1, .int n_1] [(h1, .inr (11, [.int 0, x2, x3, x4, x5, x6, x7, x8, x9, x10, .ref h11, x12, x13, x14, x15, x16, x17, x18, x19, x20, x21, x22, x23, x24, x25, x26, x27, x28, x29, x30, x31, x32, x33, x34, x35, x36, x37, x38, x39, x40, x41, x42, x43, x44, x45, x46, .ref h47, x48, x49, x50, x51, x52, x53, x54, x55, .ref h56, .ref h57, x58, x59, x60, x61, x62, x63, x64, x65, x66, x67, x68, x69, x70, x71, x72, x73, x74])), (h11, .inl (aC 0, 14, .inl (fun _ => 0))), (h47, .inl (aC 0, 6, .inl (fun _ => 0))), (h56, .inl (aC 0, 13, .inl (fun _ => 0))), (h57, .inl (aC 0, 13, .inl (fun _ => 0)))] (QI g (fun (r : Int32) (_ : Unit) => r = (-2)) (fun (_ : Unit) => [])) 0 0 := by
  refine Ct.mk (by decide) (Nat.le_of_ble_eq_true rfl) ?_
  intro p e s m below meth c A ls hx hb hml hown hts hr hlk hnm hK hA hM hM2 hP hD hS hl
  have hown : s.vm.findClass RX11 = some m.cls := hown
  have F : Fx p s m _ c cX11_judged 6 RX11 g aC aM A := ⟨hx, hb, hml, hown, hts, hK, hA, hM, hM2⟩
  have hl : lv_has ls 6 [(0, .ref h1), (1, .int n_1)] := hl
  refine lv_aload_n hx hb dX11_judged_0 rfl (lv_at hl 0 rfl) ?_
  refine lv_iconst (v := 0) hx hb dX11_judged_1 (by decide) ?_
  refine xput F hP hD hS 0 rfl rfl inX11 tyX11_ok nmX11 0 (by decide) tb1182 rfl rfl rfl (Nat.le_of_ble_eq_true rfl) dX11_judged_2 (fun H locs hP hD hS => ?_)
  have hP : va_P g vwCl [(h1, .inr (11, [.int 0, x2, x3, x4, x5, x6, x7, x8, x9, x10, .ref h11, x12, x13, x14, x15, x16, x17, x18, x19, x20, x21, x22, x23, x24, x25, x26, x27, x28, x29, x30, x31, x32, x33, x34, x35, x36, x37, x38, x39, x40, x41, x42, x43, x44, x45, x46, .ref h47, x48, x49, x50, x51, x52, x53, x54, x55, .ref h56, .ref h57, x58, x59, x60, x61, x62, x63, x64, x65, x66, x67, x68, x69, x70, x71, x72, x73, x74])), (h11, .inl (aC 0, 14, .inl (fun _ => 0))), (h47, .inl (aC 0, 6, .inl (fun _ => 0))), (h56, .inl (aC 0, 13, .inl (fun _ => 0))), (h57, .inl (aC 0, 13, .inl (fun _ => 0)))] H := hP
  have hD : va_D A [(h1, .inr (11, [.int 0, x2, x3, x4, x5, x6, x7, x8, x9, x10, .ref h11, x12, x13, x14, x15, x16, x17, x18, x19, x20, x21, x22, x23, x24, x25, x26, x27, x28, x29, x30, x31, x32, x33, x34, x35, x36, x37, x38, x39, x40, x41, x42, x43, x44, x45, x46, .ref h47, x48, x49, x50, x51, x52, x53, x54, x55, .ref h56, .ref h57, x58, x59, x60, x61, x62, x63, x64, x65, x66, x67, x68, x69, x70, x71, x72, x73, x74])), (h11, .inl (aC 0, 14, .inl (fun _ => 0))), (h47, .inl (aC 0, 6, .inl (fun _ => 0))), (h56, .inl (aC 0, 13, .inl (fun _ => 0))), (h57, .inl (aC 0, 13, .inl (fun _ => 0)))] := hD
  refine lv_iload_n hx hb dX11_judged_5 rfl (lv_at hl 1 rfl) ?_
  refine lv_iconst (v := 0) hx hb dX11_judged_6 (by decide) ?_
  refine lv_iconst (v := 2) hx hb dX11_judged_7 (by decide) ?_
  refine goI (wr := [(h1, .inr (11, [.int 0, x2, x3, x4, x5, x6, x7, x8, x9, x10, .ref h11, x12, x13, x14, x15, x16, x17, x18, x19, x20, x21, x22, x23, x24, x25, x26, x27, x28, x29, x30, x31, x32, x33, x34, x35, x36, x37, x38, x39, x40, x41, x42, x43, x44, x45, x46, .ref h47, x48, x49, x50, x51, x52, x53, x54, x55, .ref h56, .ref h57, x58, x59, x60, x61, x62, x63, x64, x65, x66, x67, x68, x69, x70, x71, x72, x73, x74])), (h11, .inl (aC 0, 14, .inl (fun _ => 0))), (h47, .inl (aC 0, 6, .inl (fun _ => 0))), (h56, .inl (aC 0, 13, .inl (fun _ => 0))), (h57, .inl (aC 0, 13, .inl (fun _ => 0)))]) (runS (n := 3) (As := [.int n_1, .int 0, .int 2]) (rest := []) F hP hD hS (k_within_hi l g aC aM n_1 0 2 (by have a0_ := hl1; simp only [Int32.lt_iff_toInt_lt, Int32.le_iff_toInt_le, ← Int32.toInt_inj, show (0 : Int32).toInt = 0 by decide, show (2 : Int32).toInt = 2 by decide, show (3 : Int32).toInt = 3 by decide] at a0_ ⊢; omega) (by have a0_ := hl1; simp only [Int32.lt_iff_toInt_lt, Int32.le_iff_toInt_le, ← Int32.toInt_inj, show (0 : Int32).toInt = 0 by decide, show (2 : Int32).toInt = 2 by decide, show (3 : Int32).toInt = 3 by decide] at a0_ ⊢; omega)) [] (by decide) rfl tb1511 tb1509 tb1510 tb17 ⟨by decide, by decide, by decide +kernel⟩ ⟨Nat.le_of_ble_eq_true rfl, Nat.le_of_ble_eq_true rfl⟩ rfl hl.1 rfl (Nat.le_of_ble_eq_true rfl) dX11_judged_8 ⟨Nat.le_of_ble_eq_true rfl, Nat.le_of_ble_eq_true rfl⟩) hP hD hS hA [] [0, 1, 2, 3, 4] rfl rfl (by decide) (by decide) (fun r_2 w3 H locs hw hP hD hS => ?_)
  have hP : va_P g vwCl [(h1, .inr (11, [.int 0, x2, x3, x4, x5, x6, x7, x8, x9, x10, .ref h11, x12, x13, x14, x15, x16, x17, x18, x19, x20, x21, x22, x23, x24, x25, x26, x27, x28, x29, x30, x31, x32, x33, x34, x35, x36, x37, x38, x39, x40, x41, x42, x43, x44, x45, x46, .ref h47, x48, x49, x50, x51, x52, x53, x54, x55, .ref h56, .ref h57, x58, x59, x60, x61, x62, x63, x64, x65, x66, x67, x68, x69, x70, x71, x72, x73, x74])), (h11, .inl (aC 0, 14, .inl (fun _ => 0))), (h47, .inl (aC 0, 6, .inl (fun _ => 0))), (h56, .inl (aC 0, 13, .inl (fun _ => 0))), (h57, .inl (aC 0, 13, .inl (fun _ => 0)))] H := hP
  have hD : va_D A [(h1, .inr (11, [.int 0, x2, x3, x4, x5, x6, x7, x8, x9, x10, .ref h11, x12, x13, x14, x15, x16, x17, x18, x19, x20, x21, x22, x23, x24, x25, x26, x27, x28, x29, x30, x31, x32, x33, x34, x35, x36, x37, x38, x39, x40, x41, x42, x43, x44, x45, x46, .ref h47, x48, x49, x50, x51, x52, x53, x54, x55, .ref h56, .ref h57, x58, x59, x60, x61, x62, x63, x64, x65, x66, x67, x68, x69, x70, x71, x72, x73, x74])), (h11, .inl (aC 0, 14, .inl (fun _ => 0))), (h47, .inl (aC 0, 6, .inl (fun _ => 0))), (h56, .inl (aC 0, 13, .inl (fun _ => 0))), (h57, .inl (aC 0, 13, .inl (fun _ => 0)))] := hD
  try dsimp only at hw
  subst hw
  refine lv_if_ne (tgt := 17) hx hb dX11_judged_11 (by decide) (fun c_ => absurd (by decide +kernel) c_) (fun _ => ?_)
  refine lv_bipush (v := (-2)) hx hb dX11_judged_14 (by decide) ?_
  have hP9 := hP.sub (ws' := []) [] rfl
  have hD9 := hD.sub (ws' := []) [] (by decide) rfl
  exact rI () hx hb hr hlk rfl hS rfl hP9 hD9 (Nat.le_of_ble_eq_true rfl) (Nat.le_of_ble_eq_true rfl) dX11_judged_16

set_option maxHeartbeats 4000000 in
set_option maxRecDepth 100000 in
theorem m_judged_0 (l : Launch) (g : va_G) (aC : Nat → ClassId) (aM : Nat → Nat) (h1 h11 h47 h56 h57 : Nat) (x2 x3 x4 x5 x6 x7 x8 x9 x10 x12 x13 x14 x15 x16 x17 x18 x19 x20 x21 x22 x23 x24 x25 x26 x27 x28 x29 x30 x31 x32 x33 x34 x35 x36 x37 x38 x39 x40 x41 x42 x43 x44 x45 x46 x48 x49 x50 x51 x52 x53 x54 x55 x58 x59 x60 x61 x62 x63 x64 x65 x66 x67 x68 x69 x70 x71 x72 x73 x74 : Value) : Ct l g aC aM yX11_judged cX11_judged 6 (some .int) 3 [.ref h1, .int 0] [(h1, .inr (11, [.int 0, x2, x3, x4, x5, x6, x7, x8, x9, x10, .ref h11, x12, x13, x14, x15, x16, x17, x18, x19, x20, x21, x22, x23, x24, x25, x26, x27, x28, x29, x30, x31, x32, x33, x34, x35, x36, x37, x38, x39, x40, x41, x42, x43, x44, x45, x46, .ref h47, x48, x49, x50, x51, x52, x53, x54, x55, .ref h56, .ref h57, x58, x59, x60, x61, x62, x63, x64, x65, x66, x67, x68, x69, x70, x71, x72, x73, x74])), (h11, .inl (aC 0, 14, .inl (fun _ => 0))), (h47, .inl (aC 0, 6, .inl (fun _ => 0))), (h56, .inl (aC 0, 13, .inl (fun _ => 0))), (h57, .inl (aC 0, 13, .inl (fun _ => 0)))] (QI g (fun (r : Int32) (_ : Unit) => r = (-1)) (fun (_ : Unit) => [])) 0 0 := by
  refine Ct.mk (by decide) (Nat.le_of_ble_eq_true rfl) ?_
  intro p e s m below meth c A ls hx hb hml hown hts hr hlk hnm hK hA hM hM2 hP hD hS hl
  have hown : s.vm.findClass RX11 = some m.cls := hown
  have F : Fx p s m _ c cX11_judged 6 RX11 g aC aM A := ⟨hx, hb, hml, hown, hts, hK, hA, hM, hM2⟩
  have hl : lv_has ls 6 [(0, .ref h1), (1, .int 0)] := hl
  refine lv_aload_n hx hb dX11_judged_0 rfl (lv_at hl 0 rfl) ?_
  refine lv_iconst (v := 0) hx hb dX11_judged_1 (by decide) ?_
  refine xput F hP hD hS 0 rfl rfl inX11 tyX11_ok nmX11 0 (by decide) tb1182 rfl rfl rfl (Nat.le_of_ble_eq_true rfl) dX11_judged_2 (fun H locs hP hD hS => ?_)
  have hP : va_P g vwCl [(h1, .inr (11, [.int 0, x2, x3, x4, x5, x6, x7, x8, x9, x10, .ref h11, x12, x13, x14, x15, x16, x17, x18, x19, x20, x21, x22, x23, x24, x25, x26, x27, x28, x29, x30, x31, x32, x33, x34, x35, x36, x37, x38, x39, x40, x41, x42, x43, x44, x45, x46, .ref h47, x48, x49, x50, x51, x52, x53, x54, x55, .ref h56, .ref h57, x58, x59, x60, x61, x62, x63, x64, x65, x66, x67, x68, x69, x70, x71, x72, x73, x74])), (h11, .inl (aC 0, 14, .inl (fun _ => 0))), (h47, .inl (aC 0, 6, .inl (fun _ => 0))), (h56, .inl (aC 0, 13, .inl (fun _ => 0))), (h57, .inl (aC 0, 13, .inl (fun _ => 0)))] H := hP
  have hD : va_D A [(h1, .inr (11, [.int 0, x2, x3, x4, x5, x6, x7, x8, x9, x10, .ref h11, x12, x13, x14, x15, x16, x17, x18, x19, x20, x21, x22, x23, x24, x25, x26, x27, x28, x29, x30, x31, x32, x33, x34, x35, x36, x37, x38, x39, x40, x41, x42, x43, x44, x45, x46, .ref h47, x48, x49, x50, x51, x52, x53, x54, x55, .ref h56, .ref h57, x58, x59, x60, x61, x62, x63, x64, x65, x66, x67, x68, x69, x70, x71, x72, x73, x74])), (h11, .inl (aC 0, 14, .inl (fun _ => 0))), (h47, .inl (aC 0, 6, .inl (fun _ => 0))), (h56, .inl (aC 0, 13, .inl (fun _ => 0))), (h57, .inl (aC 0, 13, .inl (fun _ => 0)))] := hD
  refine lv_iload_n hx hb dX11_judged_5 rfl (lv_at hl 1 rfl) ?_
  refine lv_iconst (v := 0) hx hb dX11_judged_6 (by decide) ?_
  refine lv_iconst (v := 2) hx hb dX11_judged_7 (by decide) ?_
  refine goI (wr := [(h1, .inr (11, [.int 0, x2, x3, x4, x5, x6, x7, x8, x9, x10, .ref h11, x12, x13, x14, x15, x16, x17, x18, x19, x20, x21, x22, x23, x24, x25, x26, x27, x28, x29, x30, x31, x32, x33, x34, x35, x36, x37, x38, x39, x40, x41, x42, x43, x44, x45, x46, .ref h47, x48, x49, x50, x51, x52, x53, x54, x55, .ref h56, .ref h57, x58, x59, x60, x61, x62, x63, x64, x65, x66, x67, x68, x69, x70, x71, x72, x73, x74])), (h11, .inl (aC 0, 14, .inl (fun _ => 0))), (h47, .inl (aC 0, 6, .inl (fun _ => 0))), (h56, .inl (aC 0, 13, .inl (fun _ => 0))), (h57, .inl (aC 0, 13, .inl (fun _ => 0)))]) (runS (n := 3) (As := [.int 0, .int 0, .int 2]) (rest := []) F hP hD hS (a_X11_within_17 l g aC aM ) [] (by decide) rfl tb1511 tb1509 tb1510 tb17 ⟨by decide, by decide, by decide +kernel⟩ ⟨Nat.le_of_ble_eq_true rfl, Nat.le_of_ble_eq_true rfl⟩ rfl hl.1 rfl (Nat.le_of_ble_eq_true rfl) dX11_judged_8 ⟨Nat.le_of_ble_eq_true rfl, Nat.le_of_ble_eq_true rfl⟩) hP hD hS hA [] [0, 1, 2, 3, 4] rfl rfl (by decide) (by decide) (fun r_2 w3 H locs hw hP hD hS => ?_)
  have hP : va_P g vwCl [(h1, .inr (11, [.int 0, x2, x3, x4, x5, x6, x7, x8, x9, x10, .ref h11, x12, x13, x14, x15, x16, x17, x18, x19, x20, x21, x22, x23, x24, x25, x26, x27, x28, x29, x30, x31, x32, x33, x34, x35, x36, x37, x38, x39, x40, x41, x42, x43, x44, x45, x46, .ref h47, x48, x49, x50, x51, x52, x53, x54, x55, .ref h56, .ref h57, x58, x59, x60, x61, x62, x63, x64, x65, x66, x67, x68, x69, x70, x71, x72, x73, x74])), (h11, .inl (aC 0, 14, .inl (fun _ => 0))), (h47, .inl (aC 0, 6, .inl (fun _ => 0))), (h56, .inl (aC 0, 13, .inl (fun _ => 0))), (h57, .inl (aC 0, 13, .inl (fun _ => 0)))] H := hP
  have hD : va_D A [(h1, .inr (11, [.int 0, x2, x3, x4, x5, x6, x7, x8, x9, x10, .ref h11, x12, x13, x14, x15, x16, x17, x18, x19, x20, x21, x22, x23, x24, x25, x26, x27, x28, x29, x30, x31, x32, x33, x34, x35, x36, x37, x38, x39, x40, x41, x42, x43, x44, x45, x46, .ref h47, x48, x49, x50, x51, x52, x53, x54, x55, .ref h56, .ref h57, x58, x59, x60, x61, x62, x63, x64, x65, x66, x67, x68, x69, x70, x71, x72, x73, x74])), (h11, .inl (aC 0, 14, .inl (fun _ => 0))), (h47, .inl (aC 0, 6, .inl (fun _ => 0))), (h56, .inl (aC 0, 13, .inl (fun _ => 0))), (h57, .inl (aC 0, 13, .inl (fun _ => 0)))] := hD
  try dsimp only at hw
  subst hw
  refine lv_if_ne (tgt := 17) hx hb dX11_judged_11 (by decide) (fun _ => ?_) (fun c_ => absurd c_ (by decide +kernel))
  refine lv_aload_n hx hb dX11_judged_17 rfl (lv_at hl 0 rfl) ?_
  refine xget F hP 0 rfl rfl inX11 55 (by decide) tb1237 rfl dX11_judged_18 ?_
  refine lv_iconst (v := 0) hx hb dX11_judged_21 (by decide) ?_
  refine lv_aload_n hx hb dX11_judged_22 rfl (lv_at hl 0 rfl) ?_
  refine xget F hP 0 rfl rfl inX11 56 (by decide) tb1238 rfl dX11_judged_23 ?_
  refine lv_iconst (v := 0) hx hb dX11_judged_26 (by decide) ?_
  refine goV (wr := [(h1, .inr (11, [.int 0, x2, x3, x4, x5, x6, x7, x8, x9, x10, .ref h11, x12, x13, x14, x15, x16, x17, x18, x19, x20, x21, x22, x23, x24, x25, x26, x27, x28, x29, x30, x31, x32, x33, x34, x35, x36, x37, x38, x39, x40, x41, x42, x43, x44, x45, x46, .ref h47, x48, x49, x50, x51, x52, x53, x54, x55, .ref h56, .ref h57, x58, x59, x60, x61, x62, x63, x64, x65, x66, x67, x68, x69, x70, x71, x72, x73, x74])), (h11, .inl (aC 0, 14, .inl (fun _ => 0))), (h47, .inl (aC 0, 6, .inl (fun _ => 0)))]) (runS (n := 4) (As := [.ref h56, .int 0, .ref h57, .int 0]) (rest := []) F hP hD hS (k_copiesZ l g aC aM h56 h57) [3, 4] (by decide) rfl tb1700 tb1698 tb1699 tb17 ⟨by decide, by decide, by decide +kernel⟩ ⟨Nat.le_of_ble_eq_true rfl, Nat.le_of_ble_eq_true rfl⟩ rfl hl.1 rfl (Nat.le_of_ble_eq_true rfl) dX11_judged_27 ⟨Nat.le_of_ble_eq_true rfl, Nat.le_of_ble_eq_true rfl⟩) hP hD hS hA [3, 4] [0, 1, 2] rfl rfl (by decide) (by decide) (fun w7 H locs hw hP hD hS => ?_)
  have hP : va_P g vwCl [(h1, .inr (11, [.int 0, x2, x3, x4, x5, x6, x7, x8, x9, x10, .ref h11, x12, x13, x14, x15, x16, x17, x18, x19, x20, x21, x22, x23, x24, x25, x26, x27, x28, x29, x30, x31, x32, x33, x34, x35, x36, x37, x38, x39, x40, x41, x42, x43, x44, x45, x46, .ref h47, x48, x49, x50, x51, x52, x53, x54, x55, .ref h56, .ref h57, x58, x59, x60, x61, x62, x63, x64, x65, x66, x67, x68, x69, x70, x71, x72, x73, x74])), (h11, .inl (aC 0, 14, .inl (fun _ => 0))), (h47, .inl (aC 0, 6, .inl (fun _ => 0))), (h56, .inl (aC 0, 13, .inl (fun _ => 0))), (h57, .inl (aC 0, 13, .inl (fun _ => 0)))] H := hP
  have hD : va_D A [(h1, .inr (11, [.int 0, x2, x3, x4, x5, x6, x7, x8, x9, x10, .ref h11, x12, x13, x14, x15, x16, x17, x18, x19, x20, x21, x22, x23, x24, x25, x26, x27, x28, x29, x30, x31, x32, x33, x34, x35, x36, x37, x38, x39, x40, x41, x42, x43, x44, x45, x46, .ref h47, x48, x49, x50, x51, x52, x53, x54, x55, .ref h56, .ref h57, x58, x59, x60, x61, x62, x63, x64, x65, x66, x67, x68, x69, x70, x71, x72, x73, x74])), (h11, .inl (aC 0, 14, .inl (fun _ => 0))), (h47, .inl (aC 0, 6, .inl (fun _ => 0))), (h56, .inl (aC 0, 13, .inl (fun _ => 0))), (h57, .inl (aC 0, 13, .inl (fun _ => 0)))] := hD
  refine lv_aload_n hx hb dX11_judged_30 rfl (lv_at hl 0 rfl) ?_
  refine goV (wr := [(h47, .inl (aC 0, 6, .inl (fun _ => 0))), (h57, .inl (aC 0, 13, .inl (fun _ => 0)))]) (runV (n := 0) (As := []) (rest := []) F hP hD hS (a_X11_fresh_2 l g aC aM h1 h11 h56 (.int 0) x2 x3 x4 x5 x6 x7 x8 x9 x10 x12 x13 x14 x15 x16 x17 x18 x19 x20 x21 x22 x23 x24 x25 x26 x27 x28 x29 x30 x31 x32 x33 x34 x35 x36 x37 x38 x39 x40 x41 x42 x43 x44 x45 x46 (.ref h47) x48 x49 x50 x51 x52 x53 x54 x55 (.ref h57) x58 x59 x60 x61 x62 x63 x64 x65 x66 x67 x68 x69 x70 x71 x72 x73 x74) [0, 1, 3] (by decide) rfl 0 11 rfl rfl rfl tb1588 tb1585 tb1587 tv64 tb17 ⟨by decide, by decide, by decide +kernel⟩ ⟨Nat.le_of_ble_eq_true rfl, Nat.le_of_ble_eq_true rfl⟩ rfl hl.1 rfl (Nat.le_of_ble_eq_true rfl) dX11_judged_31 ⟨Nat.le_of_ble_eq_true rfl, Nat.le_of_ble_eq_true rfl⟩) hP hD hS hA [0, 1, 3] [2, 4] rfl rfl (by decide) (by decide) (fun w10 H locs hw hP hD hS => ?_)
  have hP : va_P g vwCl [(h47, .inl (aC 0, 6, .inl (fun _ => 0))), (h57, .inl (aC 0, 13, .inl (fun _ => 0))), (h56, .inl (aC 0, 13, .inl (fun _ => 0))), (h1, .inr (11, [.int 0, x2, x3, x4, x5, x6, x7, x8, x9, x10, .ref h11, x12, x13, x14, x15, x16, x17, x18, x19, x20, x21, x22, x23, x24, x25, x26, x27, x28, x29, x30, x31, x32, x33, x34, x35, x36, x37, x38, x39, x40, x41, x42, x43, x44, x45, x46, .ref h47, x48, x49, x50, x51, x52, x53, x54, x55, .ref h56, .ref h57, x58, x59, x60, x61, x62, x63, x64, x65, x66, x67, x68, x69, x70, x71, x72, x73, x74])), (h11, .inl (aC 0, 14, .inl (fun _ => 0)))] H := hP
  have hD : va_D A [(h47, .inl (aC 0, 6, .inl (fun _ => 0))), (h57, .inl (aC 0, 13, .inl (fun _ => 0))), (h56, .inl (aC 0, 13, .inl (fun _ => 0))), (h1, .inr (11, [.int 0, x2, x3, x4, x5, x6, x7, x8, x9, x10, .ref h11, x12, x13, x14, x15, x16, x17, x18, x19, x20, x21, x22, x23, x24, x25, x26, x27, x28, x29, x30, x31, x32, x33, x34, x35, x36, x37, x38, x39, x40, x41, x42, x43, x44, x45, x46, .ref h47, x48, x49, x50, x51, x52, x53, x54, x55, .ref h56, .ref h57, x58, x59, x60, x61, x62, x63, x64, x65, x66, x67, x68, x69, x70, x71, x72, x73, x74])), (h11, .inl (aC 0, 14, .inl (fun _ => 0)))] := hD
  refine lv_iconst (v := (-1)) hx hb dX11_judged_34 (by decide) ?_
  refine lv_istore_n (lv' := [(2, .int (-1)), (0, .ref h1), (1, .int 0)]) hx hb dX11_judged_35 rfl hl (by decide) rfl (fun ls hl => ?_)
  refine lv_iconst (v := (-1)) hx hb dX11_judged_36 (by decide) ?_
  refine lv_istore_n (lv' := [(3, .int (-1)), (2, .int (-1)), (0, .ref h1), (1, .int 0)]) hx hb dX11_judged_37 rfl hl (by decide) rfl (fun ls hl => ?_)
  refine lv_iconst (v := 0) hx hb dX11_judged_38 (by decide) ?_
  refine lv_istore (lv' := [(4, .int 0), (3, .int (-1)), (2, .int (-1)), (0, .ref h1), (1, .int 0)]) hx hb dX11_judged_39 hl (by decide) rfl (fun ls hl => ?_)
  refine lv_iload hx hb dX11_judged_41 (lv_at hl 0 rfl) ?_
  refine lv_aload_n hx hb dX11_judged_43 rfl (lv_at hl 3 rfl) ?_
  refine xget F hP 3 rfl rfl inX11 46 (by decide) tb1228 rfl dX11_judged_44 ?_
  refine lv_iconst (v := 0) hx hb dX11_judged_47 (by decide) ?_
  refine xilo (v := 0) F hP 0 rfl 0 (by decide +kernel) (by decide +kernel) (by decide) (by decide +kernel) dX11_judged_48 ?_
  refine lv_icmp_ge (tgt := 103) hx hb dX11_judged_49 (by decide) (fun _ => ?_) (fun c_ => absurd (by decide +kernel) c_)
  refine lv_aload_n hx hb dX11_judged_103 rfl (lv_at hl 3 rfl) ?_
  refine xget F hP 3 rfl rfl inX11 55 (by decide) tb1237 rfl dX11_judged_104 ?_
  refine lv_bipush (v := 12) hx hb dX11_judged_107 (by decide) ?_
  refine xilo (v := 0) F hP 2 rfl 12 (by decide +kernel) (by decide +kernel) (by decide) (by decide +kernel) dX11_judged_109 ?_
  refine lv_istore (lv' := [(4, .int 0), (3, .int (-1)), (2, .int (-1)), (0, .ref h1), (1, .int 0)]) hx hb dX11_judged_110 hl (by decide) rfl (fun ls hl => ?_)
  refine lv_aload_n hx hb dX11_judged_112 rfl (lv_at hl 3 rfl) ?_
  refine xget F hP 3 rfl rfl inX11 56 (by decide) tb1238 rfl dX11_judged_113 ?_
  refine lv_iconst (v := 0) hx hb dX11_judged_116 (by decide) ?_
  refine lv_aload_n hx hb dX11_judged_117 rfl (lv_at hl 3 rfl) ?_
  refine xget F hP 3 rfl rfl inX11 55 (by decide) tb1237 rfl dX11_judged_118 ?_
  refine lv_iconst (v := 0) hx hb dX11_judged_121 (by decide) ?_
  refine goV (wr := [(h47, .inl (aC 0, 6, .inl (fun _ => 0))), (h1, .inr (11, [.int 0, x2, x3, x4, x5, x6, x7, x8, x9, x10, .ref h11, x12, x13, x14, x15, x16, x17, x18, x19, x20, x21, x22, x23, x24, x25, x26, x27, x28, x29, x30, x31, x32, x33, x34, x35, x36, x37, x38, x39, x40, x41, x42, x43, x44, x45, x46, .ref h47, x48, x49, x50, x51, x52, x53, x54, x55, .ref h56, .ref h57, x58, x59, x60, x61, x62, x63, x64, x65, x66, x67, x68, x69, x70, x71, x72, x73, x74])), (h11, .inl (aC 0, 14, .inl (fun _ => 0)))]) (runS (n := 4) (As := [.ref h57, .int 0, .ref h56, .int 0]) (rest := []) F hP hD hS (k_copiesZ l g aC aM h57 h56) [1, 2] (by decide) rfl tb1700 tb1698 tb1699 tb17 ⟨by decide, by decide, by decide +kernel⟩ ⟨Nat.le_of_ble_eq_true rfl, Nat.le_of_ble_eq_true rfl⟩ rfl hl.1 rfl (Nat.le_of_ble_eq_true rfl) dX11_judged_122 ⟨Nat.le_of_ble_eq_true rfl, Nat.le_of_ble_eq_true rfl⟩) hP hD hS hA [1, 2] [0, 3, 4] rfl rfl (by decide) (by decide) (fun w14 H locs hw hP hD hS => ?_)
  have hP : va_P g vwCl [(h47, .inl (aC 0, 6, .inl (fun _ => 0))), (h1, .inr (11, [.int 0, x2, x3, x4, x5, x6, x7, x8, x9, x10, .ref h11, x12, x13, x14, x15, x16, x17, x18, x19, x20, x21, x22, x23, x24, x25, x26, x27, x28, x29, x30, x31, x32, x33, x34, x35, x36, x37, x38, x39, x40, x41, x42, x43, x44, x45, x46, .ref h47, x48, x49, x50, x51, x52, x53, x54, x55, .ref h56, .ref h57, x58, x59, x60, x61, x62, x63, x64, x65, x66, x67, x68, x69, x70, x71, x72, x73, x74])), (h11, .inl (aC 0, 14, .inl (fun _ => 0))), (h57, .inl (aC 0, 13, .inl (fun _ => 0))), (h56, .inl (aC 0, 13, .inl (fun _ => 0)))] H := hP
  have hD : va_D A [(h47, .inl (aC 0, 6, .inl (fun _ => 0))), (h1, .inr (11, [.int 0, x2, x3, x4, x5, x6, x7, x8, x9, x10, .ref h11, x12, x13, x14, x15, x16, x17, x18, x19, x20, x21, x22, x23, x24, x25, x26, x27, x28, x29, x30, x31, x32, x33, x34, x35, x36, x37, x38, x39, x40, x41, x42, x43, x44, x45, x46, .ref h47, x48, x49, x50, x51, x52, x53, x54, x55, .ref h56, .ref h57, x58, x59, x60, x61, x62, x63, x64, x65, x66, x67, x68, x69, x70, x71, x72, x73, x74])), (h11, .inl (aC 0, 14, .inl (fun _ => 0))), (h57, .inl (aC 0, 13, .inl (fun _ => 0))), (h56, .inl (aC 0, 13, .inl (fun _ => 0)))] := hD
  refine lv_iload_n hx hb dX11_judged_125 rfl (lv_at hl 4 rfl) ?_
  refine lv_if_ne (tgt := 133) hx hb dX11_judged_126 (by decide) (fun c_ => absurd (by decide +kernel) c_) (fun _ => ?_)
  refine lv_iload_n hx hb dX11_judged_129 rfl (lv_at hl 2 rfl) ?_
  refine lv_goto (tgt := 144) hx hb dX11_judged_130 (by decide) ?_
  have hP9 := hP.sub (ws' := []) [] rfl
  have hD9 := hD.sub (ws' := []) [] (by decide) rfl
  exact rI () hx hb hr hlk rfl hS rfl hP9 hD9 (Nat.le_of_ble_eq_true rfl) (Nat.le_of_ble_eq_true rfl) dX11_judged_144

set_option maxHeartbeats 4000000 in
set_option maxRecDepth 100000 in
theorem m_judged_1 (l : Launch) (g : va_G) (aC : Nat → ClassId) (aM : Nat → Nat) (h1 h11 h47 h56 h57 : Nat) (x2 x3 x4 x5 x6 x7 x8 x9 x10 x12 x13 x14 x15 x16 x17 x18 x19 x20 x21 x22 x23 x24 x25 x26 x27 x28 x29 x30 x31 x32 x33 x34 x35 x36 x37 x38 x39 x40 x41 x42 x43 x44 x45 x46 x48 x49 x50 x51 x52 x53 x54 x55 x58 x59 x60 x61 x62 x63 x64 x65 x66 x67 x68 x69 x70 x71 x72 x73 x74 : Value) : Ct l g aC aM yX11_judged cX11_judged 6 (some .int) 3 [.ref h1, .int 1] [(h1, .inr (11, [.int 0, x2, x3, x4, x5, x6, x7, x8, x9, x10, .ref h11, x12, x13, x14, x15, x16, x17, x18, x19, x20, x21, x22, x23, x24, x25, x26, x27, x28, x29, x30, x31, x32, x33, x34, x35, x36, x37, x38, x39, x40, x41, x42, x43, x44, x45, x46, .ref h47, x48, x49, x50, x51, x52, x53, x54, x55, .ref h56, .ref h57, x58, x59, x60, x61, x62, x63, x64, x65, x66, x67, x68, x69, x70, x71, x72, x73, x74])), (h11, .inl (aC 0, 14, .inl (fun _ => 0))), (h47, .inl (aC 0, 6, .inl (fun _ => 0))), (h56, .inl (aC 0, 13, .inl (fun _ => 0))), (h57, .inl (aC 0, 13, .inl (fun _ => 0)))] (QI g (fun (r : Int32) (_ : Unit) => r = (-1)) (fun (_ : Unit) => [])) 0 0 := by
  refine Ct.mk (by decide) (Nat.le_of_ble_eq_true rfl) ?_
  intro p e s m below meth c A ls hx hb hml hown hts hr hlk hnm hK hA hM hM2 hP hD hS hl
  have hown : s.vm.findClass RX11 = some m.cls := hown
  have F : Fx p s m _ c cX11_judged 6 RX11 g aC aM A := ⟨hx, hb, hml, hown, hts, hK, hA, hM, hM2⟩
  have hl : lv_has ls 6 [(0, .ref h1), (1, .int 1)] := hl
  refine lv_aload_n hx hb dX11_judged_0 rfl (lv_at hl 0 rfl) ?_
  refine lv_iconst (v := 0) hx hb dX11_judged_1 (by decide) ?_
  refine xput F hP hD hS 0 rfl rfl inX11 tyX11_ok nmX11 0 (by decide) tb1182 rfl rfl rfl (Nat.le_of_ble_eq_true rfl) dX11_judged_2 (fun H locs hP hD hS => ?_)
  have hP : va_P g vwCl [(h1, .inr (11, [.int 0, x2, x3, x4, x5, x6, x7, x8, x9, x10, .ref h11, x12, x13, x14, x15, x16, x17, x18, x19, x20, x21, x22, x23, x24, x25, x26, x27, x28, x29, x30, x31, x32, x33, x34, x35, x36, x37, x38, x39, x40, x41, x42, x43, x44, x45, x46, .ref h47, x48, x49, x50, x51, x52, x53, x54, x55, .ref h56, .ref h57, x58, x59, x60, x61, x62, x63, x64, x65, x66, x67, x68, x69, x70, x71, x72, x73, x74])), (h11, .inl (aC 0, 14, .inl (fun _ => 0))), (h47, .inl (aC 0, 6, .inl (fun _ => 0))), (h56, .inl (aC 0, 13, .inl (fun _ => 0))), (h57, .inl (aC 0, 13, .inl (fun _ => 0)))] H := hP
  have hD : va_D A [(h1, .inr (11, [.int 0, x2, x3, x4, x5, x6, x7, x8, x9, x10, .ref h11, x12, x13, x14, x15, x16, x17, x18, x19, x20, x21, x22, x23, x24, x25, x26, x27, x28, x29, x30, x31, x32, x33, x34, x35, x36, x37, x38, x39, x40, x41, x42, x43, x44, x45, x46, .ref h47, x48, x49, x50, x51, x52, x53, x54, x55, .ref h56, .ref h57, x58, x59, x60, x61, x62, x63, x64, x65, x66, x67, x68, x69, x70, x71, x72, x73, x74])), (h11, .inl (aC 0, 14, .inl (fun _ => 0))), (h47, .inl (aC 0, 6, .inl (fun _ => 0))), (h56, .inl (aC 0, 13, .inl (fun _ => 0))), (h57, .inl (aC 0, 13, .inl (fun _ => 0)))] := hD
  refine lv_iload_n hx hb dX11_judged_5 rfl (lv_at hl 1 rfl) ?_
  refine lv_iconst (v := 0) hx hb dX11_judged_6 (by decide) ?_
  refine lv_iconst (v := 2) hx hb dX11_judged_7 (by decide) ?_
  refine goI (wr := [(h1, .inr (11, [.int 0, x2, x3, x4, x5, x6, x7, x8, x9, x10, .ref h11, x12, x13, x14, x15, x16, x17, x18, x19, x20, x21, x22, x23, x24, x25, x26, x27, x28, x29, x30, x31, x32, x33, x34, x35, x36, x37, x38, x39, x40, x41, x42, x43, x44, x45, x46, .ref h47, x48, x49, x50, x51, x52, x53, x54, x55, .ref h56, .ref h57, x58, x59, x60, x61, x62, x63, x64, x65, x66, x67, x68, x69, x70, x71, x72, x73, x74])), (h11, .inl (aC 0, 14, .inl (fun _ => 0))), (h47, .inl (aC 0, 6, .inl (fun _ => 0))), (h56, .inl (aC 0, 13, .inl (fun _ => 0))), (h57, .inl (aC 0, 13, .inl (fun _ => 0)))]) (runS (n := 3) (As := [.int 1, .int 0, .int 2]) (rest := []) F hP hD hS (a_X11_within_18 l g aC aM ) [] (by decide) rfl tb1511 tb1509 tb1510 tb17 ⟨by decide, by decide, by decide +kernel⟩ ⟨Nat.le_of_ble_eq_true rfl, Nat.le_of_ble_eq_true rfl⟩ rfl hl.1 rfl (Nat.le_of_ble_eq_true rfl) dX11_judged_8 ⟨Nat.le_of_ble_eq_true rfl, Nat.le_of_ble_eq_true rfl⟩) hP hD hS hA [] [0, 1, 2, 3, 4] rfl rfl (by decide) (by decide) (fun r_2 w3 H locs hw hP hD hS => ?_)
  have hP : va_P g vwCl [(h1, .inr (11, [.int 0, x2, x3, x4, x5, x6, x7, x8, x9, x10, .ref h11, x12, x13, x14, x15, x16, x17, x18, x19, x20, x21, x22, x23, x24, x25, x26, x27, x28, x29, x30, x31, x32, x33, x34, x35, x36, x37, x38, x39, x40, x41, x42, x43, x44, x45, x46, .ref h47, x48, x49, x50, x51, x52, x53, x54, x55, .ref h56, .ref h57, x58, x59, x60, x61, x62, x63, x64, x65, x66, x67, x68, x69, x70, x71, x72, x73, x74])), (h11, .inl (aC 0, 14, .inl (fun _ => 0))), (h47, .inl (aC 0, 6, .inl (fun _ => 0))), (h56, .inl (aC 0, 13, .inl (fun _ => 0))), (h57, .inl (aC 0, 13, .inl (fun _ => 0)))] H := hP
  have hD : va_D A [(h1, .inr (11, [.int 0, x2, x3, x4, x5, x6, x7, x8, x9, x10, .ref h11, x12, x13, x14, x15, x16, x17, x18, x19, x20, x21, x22, x23, x24, x25, x26, x27, x28, x29, x30, x31, x32, x33, x34, x35, x36, x37, x38, x39, x40, x41, x42, x43, x44, x45, x46, .ref h47, x48, x49, x50, x51, x52, x53, x54, x55, .ref h56, .ref h57, x58, x59, x60, x61, x62, x63, x64, x65, x66, x67, x68, x69, x70, x71, x72, x73, x74])), (h11, .inl (aC 0, 14, .inl (fun _ => 0))), (h47, .inl (aC 0, 6, .inl (fun _ => 0))), (h56, .inl (aC 0, 13, .inl (fun _ => 0))), (h57, .inl (aC 0, 13, .inl (fun _ => 0)))] := hD
  try dsimp only at hw
  subst hw
  refine lv_if_ne (tgt := 17) hx hb dX11_judged_11 (by decide) (fun _ => ?_) (fun c_ => absurd c_ (by decide +kernel))
  refine lv_aload_n hx hb dX11_judged_17 rfl (lv_at hl 0 rfl) ?_
  refine xget F hP 0 rfl rfl inX11 55 (by decide) tb1237 rfl dX11_judged_18 ?_
  refine lv_iconst (v := 0) hx hb dX11_judged_21 (by decide) ?_
  refine lv_aload_n hx hb dX11_judged_22 rfl (lv_at hl 0 rfl) ?_
  refine xget F hP 0 rfl rfl inX11 56 (by decide) tb1238 rfl dX11_judged_23 ?_
  refine lv_iconst (v := 0) hx hb dX11_judged_26 (by decide) ?_
  refine goV (wr := [(h1, .inr (11, [.int 0, x2, x3, x4, x5, x6, x7, x8, x9, x10, .ref h11, x12, x13, x14, x15, x16, x17, x18, x19, x20, x21, x22, x23, x24, x25, x26, x27, x28, x29, x30, x31, x32, x33, x34, x35, x36, x37, x38, x39, x40, x41, x42, x43, x44, x45, x46, .ref h47, x48, x49, x50, x51, x52, x53, x54, x55, .ref h56, .ref h57, x58, x59, x60, x61, x62, x63, x64, x65, x66, x67, x68, x69, x70, x71, x72, x73, x74])), (h11, .inl (aC 0, 14, .inl (fun _ => 0))), (h47, .inl (aC 0, 6, .inl (fun _ => 0)))]) (runS (n := 4) (As := [.ref h56, .int 0, .ref h57, .int 0]) (rest := []) F hP hD hS (k_copiesZ l g aC aM h56 h57) [3, 4] (by decide) rfl tb1700 tb1698 tb1699 tb17 ⟨by decide, by decide, by decide +kernel⟩ ⟨Nat.le_of_ble_eq_true rfl, Nat.le_of_ble_eq_true rfl⟩ rfl hl.1 rfl (Nat.le_of_ble_eq_true rfl) dX11_judged_27 ⟨Nat.le_of_ble_eq_true rfl, Nat.le_of_ble_eq_true rfl⟩) hP hD hS hA [3, 4] [0, 1, 2] rfl rfl (by decide) (by decide) (fun w7 H locs hw hP hD hS => ?_)
  have hP : va_P g vwCl [(h1, .inr (11, [.int 0, x2, x3, x4, x5, x6, x7, x8, x9, x10, .ref h11, x12, x13, x14, x15, x16, x17, x18, x19, x20, x21, x22, x23, x24, x25, x26, x27, x28, x29, x30, x31, x32, x33, x34, x35, x36, x37, x38, x39, x40, x41, x42, x43, x44, x45, x46, .ref h47, x48, x49, x50, x51, x52, x53, x54, x55, .ref h56, .ref h57, x58, x59, x60, x61, x62, x63, x64, x65, x66, x67, x68, x69, x70, x71, x72, x73, x74])), (h11, .inl (aC 0, 14, .inl (fun _ => 0))), (h47, .inl (aC 0, 6, .inl (fun _ => 0))), (h56, .inl (aC 0, 13, .inl (fun _ => 0))), (h57, .inl (aC 0, 13, .inl (fun _ => 0)))] H := hP
  have hD : va_D A [(h1, .inr (11, [.int 0, x2, x3, x4, x5, x6, x7, x8, x9, x10, .ref h11, x12, x13, x14, x15, x16, x17, x18, x19, x20, x21, x22, x23, x24, x25, x26, x27, x28, x29, x30, x31, x32, x33, x34, x35, x36, x37, x38, x39, x40, x41, x42, x43, x44, x45, x46, .ref h47, x48, x49, x50, x51, x52, x53, x54, x55, .ref h56, .ref h57, x58, x59, x60, x61, x62, x63, x64, x65, x66, x67, x68, x69, x70, x71, x72, x73, x74])), (h11, .inl (aC 0, 14, .inl (fun _ => 0))), (h47, .inl (aC 0, 6, .inl (fun _ => 0))), (h56, .inl (aC 0, 13, .inl (fun _ => 0))), (h57, .inl (aC 0, 13, .inl (fun _ => 0)))] := hD
  refine lv_aload_n hx hb dX11_judged_30 rfl (lv_at hl 0 rfl) ?_
  refine goV (wr := [(h47, .inl (aC 0, 6, .inl (fun _ => 0))), (h57, .inl (aC 0, 13, .inl (fun _ => 0)))]) (runV (n := 0) (As := []) (rest := []) F hP hD hS (a_X11_fresh_2 l g aC aM h1 h11 h56 (.int 0) x2 x3 x4 x5 x6 x7 x8 x9 x10 x12 x13 x14 x15 x16 x17 x18 x19 x20 x21 x22 x23 x24 x25 x26 x27 x28 x29 x30 x31 x32 x33 x34 x35 x36 x37 x38 x39 x40 x41 x42 x43 x44 x45 x46 (.ref h47) x48 x49 x50 x51 x52 x53 x54 x55 (.ref h57) x58 x59 x60 x61 x62 x63 x64 x65 x66 x67 x68 x69 x70 x71 x72 x73 x74) [0, 1, 3] (by decide) rfl 0 11 rfl rfl rfl tb1588 tb1585 tb1587 tv64 tb17 ⟨by decide, by decide, by decide +kernel⟩ ⟨Nat.le_of_ble_eq_true rfl, Nat.le_of_ble_eq_true rfl⟩ rfl hl.1 rfl (Nat.le_of_ble_eq_true rfl) dX11_judged_31 ⟨Nat.le_of_ble_eq_true rfl, Nat.le_of_ble_eq_true rfl⟩) hP hD hS hA [0, 1, 3] [2, 4] rfl rfl (by decide) (by decide) (fun w10 H locs hw hP hD hS => ?_)
  have hP : va_P g vwCl [(h47, .inl (aC 0, 6, .inl (fun _ => 0))), (h57, .inl (aC 0, 13, .inl (fun _ => 0))), (h56, .inl (aC 0, 13, .inl (fun _ => 0))), (h1, .inr (11, [.int 0, x2, x3, x4, x5, x6, x7, x8, x9, x10, .ref h11, x12, x13, x14, x15, x16, x17, x18, x19, x20, x21, x22, x23, x24, x25, x26, x27, x28, x29, x30, x31, x32, x33, x34, x35, x36, x37, x38, x39, x40, x41, x42, x43, x44, x45, x46, .ref h47, x48, x49, x50, x51, x52, x53, x54, x55, .ref h56, .ref h57, x58, x59, x60, x61, x62, x63, x64, x65, x66, x67, x68, x69, x70, x71, x72, x73, x74])), (h11, .inl (aC 0, 14, .inl (fun _ => 0)))] H := hP
  have hD : va_D A [(h47, .inl (aC 0, 6, .inl (fun _ => 0))), (h57, .inl (aC 0, 13, .inl (fun _ => 0))), (h56, .inl (aC 0, 13, .inl (fun _ => 0))), (h1, .inr (11, [.int 0, x2, x3, x4, x5, x6, x7, x8, x9, x10, .ref h11, x12, x13, x14, x15, x16, x17, x18, x19, x20, x21, x22, x23, x24, x25, x26, x27, x28, x29, x30, x31, x32, x33, x34, x35, x36, x37, x38, x39, x40, x41, x42, x43, x44, x45, x46, .ref h47, x48, x49, x50, x51, x52, x53, x54, x55, .ref h56, .ref h57, x58, x59, x60, x61, x62, x63, x64, x65, x66, x67, x68, x69, x70, x71, x72, x73, x74])), (h11, .inl (aC 0, 14, .inl (fun _ => 0)))] := hD
  refine lv_iconst (v := (-1)) hx hb dX11_judged_34 (by decide) ?_
  refine lv_istore_n (lv' := [(2, .int (-1)), (0, .ref h1), (1, .int 1)]) hx hb dX11_judged_35 rfl hl (by decide) rfl (fun ls hl => ?_)
  refine lv_iconst (v := (-1)) hx hb dX11_judged_36 (by decide) ?_
  refine lv_istore_n (lv' := [(3, .int (-1)), (2, .int (-1)), (0, .ref h1), (1, .int 1)]) hx hb dX11_judged_37 rfl hl (by decide) rfl (fun ls hl => ?_)
  refine lv_iconst (v := 0) hx hb dX11_judged_38 (by decide) ?_
  refine lv_istore (lv' := [(4, .int 0), (3, .int (-1)), (2, .int (-1)), (0, .ref h1), (1, .int 1)]) hx hb dX11_judged_39 hl (by decide) rfl (fun ls hl => ?_)
  refine lv_iload hx hb dX11_judged_41 (lv_at hl 0 rfl) ?_
  refine lv_aload_n hx hb dX11_judged_43 rfl (lv_at hl 3 rfl) ?_
  refine xget F hP 3 rfl rfl inX11 46 (by decide) tb1228 rfl dX11_judged_44 ?_
  refine lv_iconst (v := 0) hx hb dX11_judged_47 (by decide) ?_
  refine xilo (v := 0) F hP 0 rfl 0 (by decide +kernel) (by decide +kernel) (by decide) (by decide +kernel) dX11_judged_48 ?_
  refine lv_icmp_ge (tgt := 103) hx hb dX11_judged_49 (by decide) (fun _ => ?_) (fun c_ => absurd (by decide +kernel) c_)
  refine lv_aload_n hx hb dX11_judged_103 rfl (lv_at hl 3 rfl) ?_
  refine xget F hP 3 rfl rfl inX11 55 (by decide) tb1237 rfl dX11_judged_104 ?_
  refine lv_bipush (v := 12) hx hb dX11_judged_107 (by decide) ?_
  refine xilo (v := 0) F hP 2 rfl 12 (by decide +kernel) (by decide +kernel) (by decide) (by decide +kernel) dX11_judged_109 ?_
  refine lv_istore (lv' := [(4, .int 0), (3, .int (-1)), (2, .int (-1)), (0, .ref h1), (1, .int 1)]) hx hb dX11_judged_110 hl (by decide) rfl (fun ls hl => ?_)
  refine lv_aload_n hx hb dX11_judged_112 rfl (lv_at hl 3 rfl) ?_
  refine xget F hP 3 rfl rfl inX11 56 (by decide) tb1238 rfl dX11_judged_113 ?_
  refine lv_iconst (v := 0) hx hb dX11_judged_116 (by decide) ?_
  refine lv_aload_n hx hb dX11_judged_117 rfl (lv_at hl 3 rfl) ?_
  refine xget F hP 3 rfl rfl inX11 55 (by decide) tb1237 rfl dX11_judged_118 ?_
  refine lv_iconst (v := 0) hx hb dX11_judged_121 (by decide) ?_
  refine goV (wr := [(h47, .inl (aC 0, 6, .inl (fun _ => 0))), (h1, .inr (11, [.int 0, x2, x3, x4, x5, x6, x7, x8, x9, x10, .ref h11, x12, x13, x14, x15, x16, x17, x18, x19, x20, x21, x22, x23, x24, x25, x26, x27, x28, x29, x30, x31, x32, x33, x34, x35, x36, x37, x38, x39, x40, x41, x42, x43, x44, x45, x46, .ref h47, x48, x49, x50, x51, x52, x53, x54, x55, .ref h56, .ref h57, x58, x59, x60, x61, x62, x63, x64, x65, x66, x67, x68, x69, x70, x71, x72, x73, x74])), (h11, .inl (aC 0, 14, .inl (fun _ => 0)))]) (runS (n := 4) (As := [.ref h57, .int 0, .ref h56, .int 0]) (rest := []) F hP hD hS (k_copiesZ l g aC aM h57 h56) [1, 2] (by decide) rfl tb1700 tb1698 tb1699 tb17 ⟨by decide, by decide, by decide +kernel⟩ ⟨Nat.le_of_ble_eq_true rfl, Nat.le_of_ble_eq_true rfl⟩ rfl hl.1 rfl (Nat.le_of_ble_eq_true rfl) dX11_judged_122 ⟨Nat.le_of_ble_eq_true rfl, Nat.le_of_ble_eq_true rfl⟩) hP hD hS hA [1, 2] [0, 3, 4] rfl rfl (by decide) (by decide) (fun w14 H locs hw hP hD hS => ?_)
  have hP : va_P g vwCl [(h47, .inl (aC 0, 6, .inl (fun _ => 0))), (h1, .inr (11, [.int 0, x2, x3, x4, x5, x6, x7, x8, x9, x10, .ref h11, x12, x13, x14, x15, x16, x17, x18, x19, x20, x21, x22, x23, x24, x25, x26, x27, x28, x29, x30, x31, x32, x33, x34, x35, x36, x37, x38, x39, x40, x41, x42, x43, x44, x45, x46, .ref h47, x48, x49, x50, x51, x52, x53, x54, x55, .ref h56, .ref h57, x58, x59, x60, x61, x62, x63, x64, x65, x66, x67, x68, x69, x70, x71, x72, x73, x74])), (h11, .inl (aC 0, 14, .inl (fun _ => 0))), (h57, .inl (aC 0, 13, .inl (fun _ => 0))), (h56, .inl (aC 0, 13, .inl (fun _ => 0)))] H := hP
  have hD : va_D A [(h47, .inl (aC 0, 6, .inl (fun _ => 0))), (h1, .inr (11, [.int 0, x2, x3, x4, x5, x6, x7, x8, x9, x10, .ref h11, x12, x13, x14, x15, x16, x17, x18, x19, x20, x21, x22, x23, x24, x25, x26, x27, x28, x29, x30, x31, x32, x33, x34, x35, x36, x37, x38, x39, x40, x41, x42, x43, x44, x45, x46, .ref h47, x48, x49, x50, x51, x52, x53, x54, x55, .ref h56, .ref h57, x58, x59, x60, x61, x62, x63, x64, x65, x66, x67, x68, x69, x70, x71, x72, x73, x74])), (h11, .inl (aC 0, 14, .inl (fun _ => 0))), (h57, .inl (aC 0, 13, .inl (fun _ => 0))), (h56, .inl (aC 0, 13, .inl (fun _ => 0)))] := hD
  refine lv_iload_n hx hb dX11_judged_125 rfl (lv_at hl 4 rfl) ?_
  refine lv_if_ne (tgt := 133) hx hb dX11_judged_126 (by decide) (fun _ => ?_) (fun c_ => absurd c_ (by decide +kernel))
  refine lv_iload_n hx hb dX11_judged_133 rfl (lv_at hl 4 rfl) ?_
  refine lv_iconst (v := 1) hx hb dX11_judged_134 (by decide) ?_
  refine lv_icmp_ne (tgt := 142) hx hb dX11_judged_135 (by decide) (fun c_ => absurd (by decide +kernel) c_) (fun _ => ?_)
  refine lv_iload_n hx hb dX11_judged_138 rfl (lv_at hl 1 rfl) ?_
  refine lv_goto (tgt := 144) hx hb dX11_judged_139 (by decide) ?_
  have hP9 := hP.sub (ws' := []) [] rfl
  have hD9 := hD.sub (ws' := []) [] (by decide) rfl
  exact rI () hx hb hr hlk rfl hS rfl hP9 hD9 (Nat.le_of_ble_eq_true rfl) (Nat.le_of_ble_eq_true rfl) dX11_judged_144

set_option maxHeartbeats 4000000 in
set_option maxRecDepth 100000 in
theorem m_judged_2 (l : Launch) (g : va_G) (aC : Nat → ClassId) (aM : Nat → Nat) (h1 h11 h47 h56 h57 : Nat) (x2 x3 x4 x5 x6 x7 x8 x9 x10 x12 x13 x14 x15 x16 x17 x18 x19 x20 x21 x22 x23 x24 x25 x26 x27 x28 x29 x30 x31 x32 x33 x34 x35 x36 x37 x38 x39 x40 x41 x42 x43 x44 x45 x46 x48 x49 x50 x51 x52 x53 x54 x55 x58 x59 x60 x61 x62 x63 x64 x65 x66 x67 x68 x69 x70 x71 x72 x73 x74 : Value) : Ct l g aC aM yX11_judged cX11_judged 6 (some .int) 3 [.ref h1, .int 2] [(h1, .inr (11, [.int 0, x2, x3, x4, x5, x6, x7, x8, x9, x10, .ref h11, x12, x13, x14, x15, x16, x17, x18, x19, x20, x21, x22, x23, x24, x25, x26, x27, x28, x29, x30, x31, x32, x33, x34, x35, x36, x37, x38, x39, x40, x41, x42, x43, x44, x45, x46, .ref h47, x48, x49, x50, x51, x52, x53, x54, x55, .ref h56, .ref h57, x58, x59, x60, x61, x62, x63, x64, x65, x66, x67, x68, x69, x70, x71, x72, x73, x74])), (h11, .inl (aC 0, 14, .inl (fun _ => 0))), (h47, .inl (aC 0, 6, .inl (fun _ => 0))), (h56, .inl (aC 0, 13, .inl (fun _ => 0))), (h57, .inl (aC 0, 13, .inl (fun _ => 0)))] (QI g (fun (r : Int32) (_ : Unit) => r = 0) (fun (_ : Unit) => [])) 0 0 := by
  refine Ct.mk (by decide) (Nat.le_of_ble_eq_true rfl) ?_
  intro p e s m below meth c A ls hx hb hml hown hts hr hlk hnm hK hA hM hM2 hP hD hS hl
  have hown : s.vm.findClass RX11 = some m.cls := hown
  have F : Fx p s m _ c cX11_judged 6 RX11 g aC aM A := ⟨hx, hb, hml, hown, hts, hK, hA, hM, hM2⟩
  have hl : lv_has ls 6 [(0, .ref h1), (1, .int 2)] := hl
  refine lv_aload_n hx hb dX11_judged_0 rfl (lv_at hl 0 rfl) ?_
  refine lv_iconst (v := 0) hx hb dX11_judged_1 (by decide) ?_
  refine xput F hP hD hS 0 rfl rfl inX11 tyX11_ok nmX11 0 (by decide) tb1182 rfl rfl rfl (Nat.le_of_ble_eq_true rfl) dX11_judged_2 (fun H locs hP hD hS => ?_)
  have hP : va_P g vwCl [(h1, .inr (11, [.int 0, x2, x3, x4, x5, x6, x7, x8, x9, x10, .ref h11, x12, x13, x14, x15, x16, x17, x18, x19, x20, x21, x22, x23, x24, x25, x26, x27, x28, x29, x30, x31, x32, x33, x34, x35, x36, x37, x38, x39, x40, x41, x42, x43, x44, x45, x46, .ref h47, x48, x49, x50, x51, x52, x53, x54, x55, .ref h56, .ref h57, x58, x59, x60, x61, x62, x63, x64, x65, x66, x67, x68, x69, x70, x71, x72, x73, x74])), (h11, .inl (aC 0, 14, .inl (fun _ => 0))), (h47, .inl (aC 0, 6, .inl (fun _ => 0))), (h56, .inl (aC 0, 13, .inl (fun _ => 0))), (h57, .inl (aC 0, 13, .inl (fun _ => 0)))] H := hP
  have hD : va_D A [(h1, .inr (11, [.int 0, x2, x3, x4, x5, x6, x7, x8, x9, x10, .ref h11, x12, x13, x14, x15, x16, x17, x18, x19, x20, x21, x22, x23, x24, x25, x26, x27, x28, x29, x30, x31, x32, x33, x34, x35, x36, x37, x38, x39, x40, x41, x42, x43, x44, x45, x46, .ref h47, x48, x49, x50, x51, x52, x53, x54, x55, .ref h56, .ref h57, x58, x59, x60, x61, x62, x63, x64, x65, x66, x67, x68, x69, x70, x71, x72, x73, x74])), (h11, .inl (aC 0, 14, .inl (fun _ => 0))), (h47, .inl (aC 0, 6, .inl (fun _ => 0))), (h56, .inl (aC 0, 13, .inl (fun _ => 0))), (h57, .inl (aC 0, 13, .inl (fun _ => 0)))] := hD
  refine lv_iload_n hx hb dX11_judged_5 rfl (lv_at hl 1 rfl) ?_
  refine lv_iconst (v := 0) hx hb dX11_judged_6 (by decide) ?_
  refine lv_iconst (v := 2) hx hb dX11_judged_7 (by decide) ?_
  refine goI (wr := [(h1, .inr (11, [.int 0, x2, x3, x4, x5, x6, x7, x8, x9, x10, .ref h11, x12, x13, x14, x15, x16, x17, x18, x19, x20, x21, x22, x23, x24, x25, x26, x27, x28, x29, x30, x31, x32, x33, x34, x35, x36, x37, x38, x39, x40, x41, x42, x43, x44, x45, x46, .ref h47, x48, x49, x50, x51, x52, x53, x54, x55, .ref h56, .ref h57, x58, x59, x60, x61, x62, x63, x64, x65, x66, x67, x68, x69, x70, x71, x72, x73, x74])), (h11, .inl (aC 0, 14, .inl (fun _ => 0))), (h47, .inl (aC 0, 6, .inl (fun _ => 0))), (h56, .inl (aC 0, 13, .inl (fun _ => 0))), (h57, .inl (aC 0, 13, .inl (fun _ => 0)))]) (runS (n := 3) (As := [.int 2, .int 0, .int 2]) (rest := []) F hP hD hS (a_X11_within_19 l g aC aM ) [] (by decide) rfl tb1511 tb1509 tb1510 tb17 ⟨by decide, by decide, by decide +kernel⟩ ⟨Nat.le_of_ble_eq_true rfl, Nat.le_of_ble_eq_true rfl⟩ rfl hl.1 rfl (Nat.le_of_ble_eq_true rfl) dX11_judged_8 ⟨Nat.le_of_ble_eq_true rfl, Nat.le_of_ble_eq_true rfl⟩) hP hD hS hA [] [0, 1, 2, 3, 4] rfl rfl (by decide) (by decide) (fun r_2 w3 H locs hw hP hD hS => ?_)
  have hP : va_P g vwCl [(h1, .inr (11, [.int 0, x2, x3, x4, x5, x6, x7, x8, x9, x10, .ref h11, x12, x13, x14, x15, x16, x17, x18, x19, x20, x21, x22, x23, x24, x25, x26, x27, x28, x29, x30, x31, x32, x33, x34, x35, x36, x37, x38, x39, x40, x41, x42, x43, x44, x45, x46, .ref h47, x48, x49, x50, x51, x52, x53, x54, x55, .ref h56, .ref h57, x58, x59, x60, x61, x62, x63, x64, x65, x66, x67, x68, x69, x70, x71, x72, x73, x74])), (h11, .inl (aC 0, 14, .inl (fun _ => 0))), (h47, .inl (aC 0, 6, .inl (fun _ => 0))), (h56, .inl (aC 0, 13, .inl (fun _ => 0))), (h57, .inl (aC 0, 13, .inl (fun _ => 0)))] H := hP
  have hD : va_D A [(h1, .inr (11, [.int 0, x2, x3, x4, x5, x6, x7, x8, x9, x10, .ref h11, x12, x13, x14, x15, x16, x17, x18, x19, x20, x21, x22, x23, x24, x25, x26, x27, x28, x29, x30, x31, x32, x33, x34, x35, x36, x37, x38, x39, x40, x41, x42, x43, x44, x45, x46, .ref h47, x48, x49, x50, x51, x52, x53, x54, x55, .ref h56, .ref h57, x58, x59, x60, x61, x62, x63, x64, x65, x66, x67, x68, x69, x70, x71, x72, x73, x74])), (h11, .inl (aC 0, 14, .inl (fun _ => 0))), (h47, .inl (aC 0, 6, .inl (fun _ => 0))), (h56, .inl (aC 0, 13, .inl (fun _ => 0))), (h57, .inl (aC 0, 13, .inl (fun _ => 0)))] := hD
  try dsimp only at hw
  subst hw
  refine lv_if_ne (tgt := 17) hx hb dX11_judged_11 (by decide) (fun _ => ?_) (fun c_ => absurd c_ (by decide +kernel))
  refine lv_aload_n hx hb dX11_judged_17 rfl (lv_at hl 0 rfl) ?_
  refine xget F hP 0 rfl rfl inX11 55 (by decide) tb1237 rfl dX11_judged_18 ?_
  refine lv_iconst (v := 0) hx hb dX11_judged_21 (by decide) ?_
  refine lv_aload_n hx hb dX11_judged_22 rfl (lv_at hl 0 rfl) ?_
  refine xget F hP 0 rfl rfl inX11 56 (by decide) tb1238 rfl dX11_judged_23 ?_
  refine lv_iconst (v := 0) hx hb dX11_judged_26 (by decide) ?_
  refine goV (wr := [(h1, .inr (11, [.int 0, x2, x3, x4, x5, x6, x7, x8, x9, x10, .ref h11, x12, x13, x14, x15, x16, x17, x18, x19, x20, x21, x22, x23, x24, x25, x26, x27, x28, x29, x30, x31, x32, x33, x34, x35, x36, x37, x38, x39, x40, x41, x42, x43, x44, x45, x46, .ref h47, x48, x49, x50, x51, x52, x53, x54, x55, .ref h56, .ref h57, x58, x59, x60, x61, x62, x63, x64, x65, x66, x67, x68, x69, x70, x71, x72, x73, x74])), (h11, .inl (aC 0, 14, .inl (fun _ => 0))), (h47, .inl (aC 0, 6, .inl (fun _ => 0)))]) (runS (n := 4) (As := [.ref h56, .int 0, .ref h57, .int 0]) (rest := []) F hP hD hS (k_copiesZ l g aC aM h56 h57) [3, 4] (by decide) rfl tb1700 tb1698 tb1699 tb17 ⟨by decide, by decide, by decide +kernel⟩ ⟨Nat.le_of_ble_eq_true rfl, Nat.le_of_ble_eq_true rfl⟩ rfl hl.1 rfl (Nat.le_of_ble_eq_true rfl) dX11_judged_27 ⟨Nat.le_of_ble_eq_true rfl, Nat.le_of_ble_eq_true rfl⟩) hP hD hS hA [3, 4] [0, 1, 2] rfl rfl (by decide) (by decide) (fun w7 H locs hw hP hD hS => ?_)
  have hP : va_P g vwCl [(h1, .inr (11, [.int 0, x2, x3, x4, x5, x6, x7, x8, x9, x10, .ref h11, x12, x13, x14, x15, x16, x17, x18, x19, x20, x21, x22, x23, x24, x25, x26, x27, x28, x29, x30, x31, x32, x33, x34, x35, x36, x37, x38, x39, x40, x41, x42, x43, x44, x45, x46, .ref h47, x48, x49, x50, x51, x52, x53, x54, x55, .ref h56, .ref h57, x58, x59, x60, x61, x62, x63, x64, x65, x66, x67, x68, x69, x70, x71, x72, x73, x74])), (h11, .inl (aC 0, 14, .inl (fun _ => 0))), (h47, .inl (aC 0, 6, .inl (fun _ => 0))), (h56, .inl (aC 0, 13, .inl (fun _ => 0))), (h57, .inl (aC 0, 13, .inl (fun _ => 0)))] H := hP
  have hD : va_D A [(h1, .inr (11, [.int 0, x2, x3, x4, x5, x6, x7, x8, x9, x10, .ref h11, x12, x13, x14, x15, x16, x17, x18, x19, x20, x21, x22, x23, x24, x25, x26, x27, x28, x29, x30, x31, x32, x33, x34, x35, x36, x37, x38, x39, x40, x41, x42, x43, x44, x45, x46, .ref h47, x48, x49, x50, x51, x52, x53, x54, x55, .ref h56, .ref h57, x58, x59, x60, x61, x62, x63, x64, x65, x66, x67, x68, x69, x70, x71, x72, x73, x74])), (h11, .inl (aC 0, 14, .inl (fun _ => 0))), (h47, .inl (aC 0, 6, .inl (fun _ => 0))), (h56, .inl (aC 0, 13, .inl (fun _ => 0))), (h57, .inl (aC 0, 13, .inl (fun _ => 0)))] := hD
  refine lv_aload_n hx hb dX11_judged_30 rfl (lv_at hl 0 rfl) ?_
  refine goV (wr := [(h47, .inl (aC 0, 6, .inl (fun _ => 0))), (h57, .inl (aC 0, 13, .inl (fun _ => 0)))]) (runV (n := 0) (As := []) (rest := []) F hP hD hS (a_X11_fresh_2 l g aC aM h1 h11 h56 (.int 0) x2 x3 x4 x5 x6 x7 x8 x9 x10 x12 x13 x14 x15 x16 x17 x18 x19 x20 x21 x22 x23 x24 x25 x26 x27 x28 x29 x30 x31 x32 x33 x34 x35 x36 x37 x38 x39 x40 x41 x42 x43 x44 x45 x46 (.ref h47) x48 x49 x50 x51 x52 x53 x54 x55 (.ref h57) x58 x59 x60 x61 x62 x63 x64 x65 x66 x67 x68 x69 x70 x71 x72 x73 x74) [0, 1, 3] (by decide) rfl 0 11 rfl rfl rfl tb1588 tb1585 tb1587 tv64 tb17 ⟨by decide, by decide, by decide +kernel⟩ ⟨Nat.le_of_ble_eq_true rfl, Nat.le_of_ble_eq_true rfl⟩ rfl hl.1 rfl (Nat.le_of_ble_eq_true rfl) dX11_judged_31 ⟨Nat.le_of_ble_eq_true rfl, Nat.le_of_ble_eq_true rfl⟩) hP hD hS hA [0, 1, 3] [2, 4] rfl rfl (by decide) (by decide) (fun w10 H locs hw hP hD hS => ?_)
  have hP : va_P g vwCl [(h47, .inl (aC 0, 6, .inl (fun _ => 0))), (h57, .inl (aC 0, 13, .inl (fun _ => 0))), (h56, .inl (aC 0, 13, .inl (fun _ => 0))), (h1, .inr (11, [.int 0, x2, x3, x4, x5, x6, x7, x8, x9, x10, .ref h11, x12, x13, x14, x15, x16, x17, x18, x19, x20, x21, x22, x23, x24, x25, x26, x27, x28, x29, x30, x31, x32, x33, x34, x35, x36, x37, x38, x39, x40, x41, x42, x43, x44, x45, x46, .ref h47, x48, x49, x50, x51, x52, x53, x54, x55, .ref h56, .ref h57, x58, x59, x60, x61, x62, x63, x64, x65, x66, x67, x68, x69, x70, x71, x72, x73, x74])), (h11, .inl (aC 0, 14, .inl (fun _ => 0)))] H := hP
  have hD : va_D A [(h47, .inl (aC 0, 6, .inl (fun _ => 0))), (h57, .inl (aC 0, 13, .inl (fun _ => 0))), (h56, .inl (aC 0, 13, .inl (fun _ => 0))), (h1, .inr (11, [.int 0, x2, x3, x4, x5, x6, x7, x8, x9, x10, .ref h11, x12, x13, x14, x15, x16, x17, x18, x19, x20, x21, x22, x23, x24, x25, x26, x27, x28, x29, x30, x31, x32, x33, x34, x35, x36, x37, x38, x39, x40, x41, x42, x43, x44, x45, x46, .ref h47, x48, x49, x50, x51, x52, x53, x54, x55, .ref h56, .ref h57, x58, x59, x60, x61, x62, x63, x64, x65, x66, x67, x68, x69, x70, x71, x72, x73, x74])), (h11, .inl (aC 0, 14, .inl (fun _ => 0)))] := hD
  refine lv_iconst (v := (-1)) hx hb dX11_judged_34 (by decide) ?_
  refine lv_istore_n (lv' := [(2, .int (-1)), (0, .ref h1), (1, .int 2)]) hx hb dX11_judged_35 rfl hl (by decide) rfl (fun ls hl => ?_)
  refine lv_iconst (v := (-1)) hx hb dX11_judged_36 (by decide) ?_
  refine lv_istore_n (lv' := [(3, .int (-1)), (2, .int (-1)), (0, .ref h1), (1, .int 2)]) hx hb dX11_judged_37 rfl hl (by decide) rfl (fun ls hl => ?_)
  refine lv_iconst (v := 0) hx hb dX11_judged_38 (by decide) ?_
  refine lv_istore (lv' := [(4, .int 0), (3, .int (-1)), (2, .int (-1)), (0, .ref h1), (1, .int 2)]) hx hb dX11_judged_39 hl (by decide) rfl (fun ls hl => ?_)
  refine lv_iload hx hb dX11_judged_41 (lv_at hl 0 rfl) ?_
  refine lv_aload_n hx hb dX11_judged_43 rfl (lv_at hl 3 rfl) ?_
  refine xget F hP 3 rfl rfl inX11 46 (by decide) tb1228 rfl dX11_judged_44 ?_
  refine lv_iconst (v := 0) hx hb dX11_judged_47 (by decide) ?_
  refine xilo (v := 0) F hP 0 rfl 0 (by decide +kernel) (by decide +kernel) (by decide) (by decide +kernel) dX11_judged_48 ?_
  refine lv_icmp_ge (tgt := 103) hx hb dX11_judged_49 (by decide) (fun _ => ?_) (fun c_ => absurd (by decide +kernel) c_)
  refine lv_aload_n hx hb dX11_judged_103 rfl (lv_at hl 3 rfl) ?_
  refine xget F hP 3 rfl rfl inX11 55 (by decide) tb1237 rfl dX11_judged_104 ?_
  refine lv_bipush (v := 12) hx hb dX11_judged_107 (by decide) ?_
  refine xilo (v := 0) F hP 2 rfl 12 (by decide +kernel) (by decide +kernel) (by decide) (by decide +kernel) dX11_judged_109 ?_
  refine lv_istore (lv' := [(4, .int 0), (3, .int (-1)), (2, .int (-1)), (0, .ref h1), (1, .int 2)]) hx hb dX11_judged_110 hl (by decide) rfl (fun ls hl => ?_)
  refine lv_aload_n hx hb dX11_judged_112 rfl (lv_at hl 3 rfl) ?_
  refine xget F hP 3 rfl rfl inX11 56 (by decide) tb1238 rfl dX11_judged_113 ?_
  refine lv_iconst (v := 0) hx hb dX11_judged_116 (by decide) ?_
  refine lv_aload_n hx hb dX11_judged_117 rfl (lv_at hl 3 rfl) ?_
  refine xget F hP 3 rfl rfl inX11 55 (by decide) tb1237 rfl dX11_judged_118 ?_
  refine lv_iconst (v := 0) hx hb dX11_judged_121 (by decide) ?_
  refine goV (wr := [(h47, .inl (aC 0, 6, .inl (fun _ => 0))), (h1, .inr (11, [.int 0, x2, x3, x4, x5, x6, x7, x8, x9, x10, .ref h11, x12, x13, x14, x15, x16, x17, x18, x19, x20, x21, x22, x23, x24, x25, x26, x27, x28, x29, x30, x31, x32, x33, x34, x35, x36, x37, x38, x39, x40, x41, x42, x43, x44, x45, x46, .ref h47, x48, x49, x50, x51, x52, x53, x54, x55, .ref h56, .ref h57, x58, x59, x60, x61, x62, x63, x64, x65, x66, x67, x68, x69, x70, x71, x72, x73, x74])), (h11, .inl (aC 0, 14, .inl (fun _ => 0)))]) (runS (n := 4) (As := [.ref h57, .int 0, .ref h56, .int 0]) (rest := []) F hP hD hS (k_copiesZ l g aC aM h57 h56) [1, 2] (by decide) rfl tb1700 tb1698 tb1699 tb17 ⟨by decide, by decide, by decide +kernel⟩ ⟨Nat.le_of_ble_eq_true rfl, Nat.le_of_ble_eq_true rfl⟩ rfl hl.1 rfl (Nat.le_of_ble_eq_true rfl) dX11_judged_122 ⟨Nat.le_of_ble_eq_true rfl, Nat.le_of_ble_eq_true rfl⟩) hP hD hS hA [1, 2] [0, 3, 4] rfl rfl (by decide) (by decide) (fun w14 H locs hw hP hD hS => ?_)
  have hP : va_P g vwCl [(h47, .inl (aC 0, 6, .inl (fun _ => 0))), (h1, .inr (11, [.int 0, x2, x3, x4, x5, x6, x7, x8, x9, x10, .ref h11, x12, x13, x14, x15, x16, x17, x18, x19, x20, x21, x22, x23, x24, x25, x26, x27, x28, x29, x30, x31, x32, x33, x34, x35, x36, x37, x38, x39, x40, x41, x42, x43, x44, x45, x46, .ref h47, x48, x49, x50, x51, x52, x53, x54, x55, .ref h56, .ref h57, x58, x59, x60, x61, x62, x63, x64, x65, x66, x67, x68, x69, x70, x71, x72, x73, x74])), (h11, .inl (aC 0, 14, .inl (fun _ => 0))), (h57, .inl (aC 0, 13, .inl (fun _ => 0))), (h56, .inl (aC 0, 13, .inl (fun _ => 0)))] H := hP
  have hD : va_D A [(h47, .inl (aC 0, 6, .inl (fun _ => 0))), (h1, .inr (11, [.int 0, x2, x3, x4, x5, x6, x7, x8, x9, x10, .ref h11, x12, x13, x14, x15, x16, x17, x18, x19, x20, x21, x22, x23, x24, x25, x26, x27, x28, x29, x30, x31, x32, x33, x34, x35, x36, x37, x38, x39, x40, x41, x42, x43, x44, x45, x46, .ref h47, x48, x49, x50, x51, x52, x53, x54, x55, .ref h56, .ref h57, x58, x59, x60, x61, x62, x63, x64, x65, x66, x67, x68, x69, x70, x71, x72, x73, x74])), (h11, .inl (aC 0, 14, .inl (fun _ => 0))), (h57, .inl (aC 0, 13, .inl (fun _ => 0))), (h56, .inl (aC 0, 13, .inl (fun _ => 0)))] := hD
  refine lv_iload_n hx hb dX11_judged_125 rfl (lv_at hl 4 rfl) ?_
  refine lv_if_ne (tgt := 133) hx hb dX11_judged_126 (by decide) (fun _ => ?_) (fun c_ => absurd c_ (by decide +kernel))
  refine lv_iload_n hx hb dX11_judged_133 rfl (lv_at hl 4 rfl) ?_
  refine lv_iconst (v := 1) hx hb dX11_judged_134 (by decide) ?_
  refine lv_icmp_ne (tgt := 142) hx hb dX11_judged_135 (by decide) (fun _ => ?_) (fun c_ => absurd c_ (by decide +kernel))
  refine lv_iload hx hb dX11_judged_142 (lv_at hl 0 rfl) ?_
  have hP9 := hP.sub (ws' := []) [] rfl
  have hD9 := hD.sub (ws' := []) [] (by decide) rfl
  exact rI () hx hb hr hlk rfl hS rfl hP9 hD9 (Nat.le_of_ble_eq_true rfl) (Nat.le_of_ble_eq_true rfl) dX11_judged_144
