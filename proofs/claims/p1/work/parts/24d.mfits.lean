theorem dX11_fits_0 : decode cX11_fits 0 = .ok (.aload_n 0, 1) := by decide +kernel
theorem dX11_fits_1 : decode cX11_fits 1 = .ok (.iconst 0, 1) := by decide +kernel
theorem dX11_fits_2 : decode cX11_fits 2 = .ok (.putfield 180, 3) := by decide +kernel
theorem dX11_fits_5 : decode cX11_fits 5 = .ok (.iload_n 1, 1) := by decide +kernel
theorem dX11_fits_6 : decode cX11_fits 6 = .ok (.iconst 0, 1) := by decide +kernel
theorem dX11_fits_7 : decode cX11_fits 7 = .ok (.iconst 3, 1) := by decide +kernel
theorem dX11_fits_8 : decode cX11_fits 8 = .ok (.invokestatic 313, 3) := by decide +kernel
theorem dX11_fits_11 : decode cX11_fits 11 = .ok (.ifCond .ne 5, 3) := by decide +kernel
theorem dX11_fits_14 : decode cX11_fits 14 = .ok (.iconst (-1), 1) := by decide +kernel
theorem dX11_fits_15 : decode cX11_fits 15 = .ok (.ireturn, 1) := by decide +kernel
set_option maxHeartbeats 4000000 in
set_option maxRecDepth 100000 in
theorem a_X11_within_22 (l : Launch) (g : va_G) (aC : Nat → ClassId) (aM : Nat → Nat)  : Ct l g aC aM yX11_within cX11_within 3 (some .boolean) 1 [.int 0, .int 0, .int 3] [] (QI g (fun (r : Int32) (_ : Unit) => r = 1) (fun (_ : Unit) => [])) 0 0 := by
  refine Ct.mk (by decide) (Nat.le_of_ble_eq_true rfl) ?_
  intro p e s m below meth c A ls hx hb hml hown hts hr hlk hnm hK hA hM hM2 hP hD hS hl
  have hown : s.vm.findClass RX11 = some m.cls := hown
  have F : Fx p s m _ c cX11_within 3 RX11 g aC aM A := ⟨hx, hb, hml, hown, hts, hK, hA, hM, hM2⟩
  have hl : lv_has ls 3 [(0, .int 0), (1, .int 0), (2, .int 3)] := hl
  refine lv_iload_n hx hb dX11_within_0 rfl (lv_at hl 0 rfl) ?_
  refine lv_iload_n hx hb dX11_within_1 rfl (lv_at hl 1 rfl) ?_
  refine lv_icmp_lt (tgt := 14) hx hb dX11_within_2 (by decide) (fun c_ => absurd c_ (by decide +kernel)) (fun _ => ?_)
  refine lv_iload_n hx hb dX11_within_5 rfl (lv_at hl 0 rfl) ?_
  refine lv_iload_n hx hb dX11_within_6 rfl (lv_at hl 2 rfl) ?_
  refine lv_icmp_gt (tgt := 14) hx hb dX11_within_7 (by decide) (fun c_ => absurd c_ (by decide +kernel)) (fun _ => ?_)
  refine lv_iconst (v := 1) hx hb dX11_within_10 (by decide) ?_
  refine lv_goto (tgt := 15) hx hb dX11_within_11 (by decide) ?_
  have hP9 := hP.sub (ws' := []) [] rfl
  have hD9 := hD.sub (ws' := []) [] (by decide) rfl
  exact rI () hx hb hr hlk rfl hS rfl hP9 hD9 (Nat.le_of_ble_eq_true rfl) (Nat.le_of_ble_eq_true rfl) dX11_within_15

theorem dX11_fits_16 : decode cX11_fits 16 = .ok (.iconst 0, 1) := by decide +kernel
theorem dX11_fits_17 : decode cX11_fits 17 = .ok (.istore_n 2, 1) := by decide +kernel
theorem dX11_fits_18 : decode cX11_fits 18 = .ok (.aload_n 0, 1) := by decide +kernel
theorem dX11_fits_19 : decode cX11_fits 19 = .ok (.invokevirtual 404, 3) := by decide +kernel
theorem dX11_fits_22 : decode cX11_fits 22 = .ok (.istore_n 3, 1) := by decide +kernel
theorem dX11_fits_23 : decode cX11_fits 23 = .ok (.iconst 0, 1) := by decide +kernel
theorem dX11_fits_24 : decode cX11_fits 24 = .ok (.istore 4, 2) := by decide +kernel
theorem dX11_fits_26 : decode cX11_fits 26 = .ok (.iconst (-1), 1) := by decide +kernel
theorem dX11_fits_27 : decode cX11_fits 27 = .ok (.istore 5, 2) := by decide +kernel
theorem dX11_fits_29 : decode cX11_fits 29 = .ok (.iconst 0, 1) := by decide +kernel
theorem dX11_fits_30 : decode cX11_fits 30 = .ok (.istore 6, 2) := by decide +kernel
theorem dX11_fits_32 : decode cX11_fits 32 = .ok (.iload 6, 2) := by decide +kernel
theorem dX11_fits_34 : decode cX11_fits 34 = .ok (.aload_n 0, 1) := by decide +kernel
theorem dX11_fits_35 : decode cX11_fits 35 = .ok (.invokevirtual 404, 3) := by decide +kernel
theorem dX11_fits_38 : decode cX11_fits 38 = .ok (.if_icmp .gt 58, 3) := by decide +kernel
theorem dX11_fits_41 : decode cX11_fits 41 = .ok (.aload_n 0, 1) := by decide +kernel
theorem dX11_fits_42 : decode cX11_fits 42 = .ok (.iload 6, 2) := by decide +kernel
theorem dX11_fits_44 : decode cX11_fits 44 = .ok (.invokevirtual 517, 3) := by decide +kernel
theorem dX11_isAsSeen_0 : decode cX11_isAsSeen 0 = .ok (.iconst 0, 1) := by decide +kernel
theorem dX11_isAsSeen_1 : decode cX11_isAsSeen 1 = .ok (.istore_n 2, 1) := by decide +kernel
theorem dX11_isAsSeen_2 : decode cX11_isAsSeen 2 = .ok (.iload_n 2, 1) := by decide +kernel
theorem dX11_isAsSeen_3 : decode cX11_isAsSeen 3 = .ok (.aload_n 0, 1) := by decide +kernel
theorem dX11_isAsSeen_4 : decode cX11_isAsSeen 4 = .ok (.getfield 129, 3) := by decide +kernel
theorem dX11_isAsSeen_7 : decode cX11_isAsSeen 7 = .ok (.iconst 0, 1) := by decide +kernel
theorem dX11_isAsSeen_8 : decode cX11_isAsSeen 8 = .ok (.iaload, 1) := by decide +kernel
theorem dX11_isAsSeen_9 : decode cX11_isAsSeen 9 = .ok (.if_icmp .ge 69, 3) := by decide +kernel
theorem dX11_isAsSeen_78 : decode cX11_isAsSeen 78 = .ok (.iconst 1, 1) := by decide +kernel
theorem dX11_isAsSeen_79 : decode cX11_isAsSeen 79 = .ok (.ireturn, 1) := by decide +kernel
set_option maxHeartbeats 4000000 in
set_option maxRecDepth 100000 in
theorem a_X11_isAsSeen_1 (l : Launch) (g : va_G) (aC : Nat → ClassId) (aM : Nat → Nat) (h1 h2 : Nat) (x3 x4 x5 x6 x7 x8 x9 x10 x11 x12 x13 x14 x15 x16 x17 x18 x19 x20 x21 x22 x23 x24 x25 x26 x27 x28 x29 x30 x31 x32 x33 x34 x35 x36 x37 x38 x39 x40 x41 x42 x43 x44 x45 x46 x47 x48 x49 x50 x51 x52 x53 x54 x55 x56 x57 x58 x59 x60 x61 x62 x63 x64 x65 x66 x67 x68 x69 x70 x71 x72 x73 x74 x75 : Value) : Ct l g aC aM yX11_isAsSeen cX11_isAsSeen 4 (some .boolean) 1 [.ref h1, .int 0] [(h2, .inl (aC 0, 5, .inl (fun _ => 0))), (h1, .inr (11, [x3, x4, x5, x6, x7, x8, x9, x10, x11, x12, x13, x14, x15, x16, x17, x18, x19, x20, x21, x22, x23, x24, x25, x26, x27, x28, x29, x30, x31, x32, x33, x34, x35, x36, x37, x38, x39, x40, x41, x42, x43, x44, x45, x46, x47, x48, x49, x50, x51, x52, x53, .ref h2, x54, x55, x56, x57, x58, x59, x60, x61, x62, x63, x64, x65, x66, x67, x68, x69, x70, x71, x72, x73, x74, x75]))] (QI g (fun (r : Int32) (_ : Unit) => r = 1) (fun (_ : Unit) => [(h2, .inl (aC 0, 5, .inl (fun _ => 0))), (h1, .inr (11, [x3, x4, x5, x6, x7, x8, x9, x10, x11, x12, x13, x14, x15, x16, x17, x18, x19, x20, x21, x22, x23, x24, x25, x26, x27, x28, x29, x30, x31, x32, x33, x34, x35, x36, x37, x38, x39, x40, x41, x42, x43, x44, x45, x46, x47, x48, x49, x50, x51, x52, x53, .ref h2, x54, x55, x56, x57, x58, x59, x60, x61, x62, x63, x64, x65, x66, x67, x68, x69, x70, x71, x72, x73, x74, x75]))])) 0 0 := by
  refine Ct.mk (by decide) (Nat.le_of_ble_eq_true rfl) ?_
  intro p e s m below meth c A ls hx hb hml hown hts hr hlk hnm hK hA hM hM2 hP hD hS hl
  have hown : s.vm.findClass RX11 = some m.cls := hown
  have F : Fx p s m _ c cX11_isAsSeen 4 RX11 g aC aM A := ⟨hx, hb, hml, hown, hts, hK, hA, hM, hM2⟩
  have hl : lv_has ls 4 [(0, .ref h1), (1, .int 0)] := hl
  refine lv_iconst (v := 0) hx hb dX11_isAsSeen_0 (by decide) ?_
  refine lv_istore_n (lv' := [(2, .int 0), (0, .ref h1), (1, .int 0)]) hx hb dX11_isAsSeen_1 rfl hl (by decide) rfl (fun ls hl => ?_)
  refine lv_iload_n hx hb dX11_isAsSeen_2 rfl (lv_at hl 0 rfl) ?_
  refine lv_aload_n hx hb dX11_isAsSeen_3 rfl (lv_at hl 1 rfl) ?_
  refine xget F hP 1 rfl rfl inX11 51 (by decide) tb1233 rfl dX11_isAsSeen_4 ?_
  refine lv_iconst (v := 0) hx hb dX11_isAsSeen_7 (by decide) ?_
  refine xilo (v := 0) F hP 0 rfl 0 (by decide +kernel) (by decide +kernel) (by decide) (by decide +kernel) dX11_isAsSeen_8 ?_
  refine lv_icmp_ge (tgt := 78) hx hb dX11_isAsSeen_9 (by decide) (fun _ => ?_) (fun c_ => absurd (by decide +kernel) c_)
  refine lv_iconst (v := 1) hx hb dX11_isAsSeen_78 (by decide) ?_
  have hP9 := hP.sub (ws' := [(h2, .inl (aC 0, 5, .inl (fun _ => 0))), (h1, .inr (11, [x3, x4, x5, x6, x7, x8, x9, x10, x11, x12, x13, x14, x15, x16, x17, x18, x19, x20, x21, x22, x23, x24, x25, x26, x27, x28, x29, x30, x31, x32, x33, x34, x35, x36, x37, x38, x39, x40, x41, x42, x43, x44, x45, x46, x47, x48, x49, x50, x51, x52, x53, .ref h2, x54, x55, x56, x57, x58, x59, x60, x61, x62, x63, x64, x65, x66, x67, x68, x69, x70, x71, x72, x73, x74, x75]))]) [0, 1] rfl
  have hD9 := hD.sub (ws' := [(h2, .inl (aC 0, 5, .inl (fun _ => 0))), (h1, .inr (11, [x3, x4, x5, x6, x7, x8, x9, x10, x11, x12, x13, x14, x15, x16, x17, x18, x19, x20, x21, x22, x23, x24, x25, x26, x27, x28, x29, x30, x31, x32, x33, x34, x35, x36, x37, x38, x39, x40, x41, x42, x43, x44, x45, x46, x47, x48, x49, x50, x51, x52, x53, .ref h2, x54, x55, x56, x57, x58, x59, x60, x61, x62, x63, x64, x65, x66, x67, x68, x69, x70, x71, x72, x73, x74, x75]))]) [0, 1] (by decide) rfl
  exact rI () hx hb hr hlk rfl hS rfl hP9 hD9 (Nat.le_of_ble_eq_true rfl) (Nat.le_of_ble_eq_true rfl) dX11_isAsSeen_79

theorem tb1807 : (Jvm.Cond.methodLink "StairGangModel" (517 : Nat) ({ cls := "StairGangModel", name := "isAsSeen", desc := "(I)Z" } : Jvm.MethodName)) ∈ gw := lw_m 1807 (by decide +kernel)
theorem tb1809 : (Jvm.Cond.instanceMethod ({ cls := "StairGangModel", name := "isAsSeen", desc := "(I)Z" } : Jvm.MethodName)) ∈ gw := lw_m 1809 (by decide +kernel)
theorem tb1810 : (Jvm.Cond.code ({ cls := "StairGangModel", name := "isAsSeen", desc := "(I)Z" } : Jvm.MethodName) prog_13_method_98_code (4 : Nat) (Option.some Jvm.ClassFile.FieldType.boolean)) ∈ gw := lw_m 1810 (by decide +kernel)
theorem tv98 : Cond.selects "StairGangModel" ⟨"StairGangModel", "isAsSeen", "(I)Z"⟩ ⟨"StairGangModel", "isAsSeen", "(I)Z"⟩ ∈ gw := lw_v 98 (by decide +kernel)
theorem dX11_fits_47 : decode cX11_fits 47 = .ok (.ifCond .ne 6, 3) := by decide +kernel
theorem dX11_fits_53 : decode cX11_fits 53 = .ok (.iinc 2 1, 3) := by decide +kernel
theorem dX11_fits_56 : decode cX11_fits 56 = .ok (.iload_n 3, 1) := by decide +kernel
theorem dX11_fits_57 : decode cX11_fits 57 = .ok (.iload 6, 2) := by decide +kernel
theorem dX11_fits_59 : decode cX11_fits 59 = .ok (.iand, 1) := by decide +kernel
theorem dX11_fits_60 : decode cX11_fits 60 = .ok (.istore_n 3, 1) := by decide +kernel
theorem dX11_fits_61 : decode cX11_fits 61 = .ok (.iload 4, 2) := by decide +kernel
theorem dX11_fits_63 : decode cX11_fits 63 = .ok (.iload 6, 2) := by decide +kernel
theorem dX11_fits_65 : decode cX11_fits 65 = .ok (.ior, 1) := by decide +kernel
theorem dX11_fits_66 : decode cX11_fits 66 = .ok (.istore 4, 2) := by decide +kernel
theorem dX11_fits_68 : decode cX11_fits 68 = .ok (.iload 5, 2) := by decide +kernel
theorem dX11_fits_70 : decode cX11_fits 70 = .ok (.ifCond .lt 16, 3) := by decide +kernel
theorem dX11_fits_86 : decode cX11_fits 86 = .ok (.iload 6, 2) := by decide +kernel
theorem dX11_fits_88 : decode cX11_fits 88 = .ok (.istore 5, 2) := by decide +kernel
theorem dX11_fits_90 : decode cX11_fits 90 = .ok (.iinc 6 1, 3) := by decide +kernel
theorem dX11_fits_93 : decode cX11_fits 93 = .ok (.goto (-61), 3) := by decide +kernel
theorem dX11_fits_96 : decode cX11_fits 96 = .ok (.iload_n 2, 1) := by decide +kernel
theorem dX11_fits_97 : decode cX11_fits 97 = .ok (.ifCond .eq 7, 3) := by decide +kernel
theorem dX11_fits_100 : decode cX11_fits 100 = .ok (.iload_n 1, 1) := by decide +kernel
theorem dX11_fits_101 : decode cX11_fits 101 = .ok (.ifCond .ne 13, 3) := by decide +kernel
theorem dX11_fits_104 : decode cX11_fits 104 = .ok (.iload_n 1, 1) := by decide +kernel
theorem dX11_fits_105 : decode cX11_fits 105 = .ok (.ifCond .ne 7, 3) := by decide +kernel
theorem dX11_fits_108 : decode cX11_fits 108 = .ok (.iload_n 2, 1) := by decide +kernel
theorem dX11_fits_109 : decode cX11_fits 109 = .ok (.goto 4, 3) := by decide +kernel
theorem dX11_fits_113 : decode cX11_fits 113 = .ok (.ireturn, 1) := by decide +kernel
set_option maxHeartbeats 4000000 in
set_option maxRecDepth 100000 in
theorem a_X11_within_23 (l : Launch) (g : va_G) (aC : Nat → ClassId) (aM : Nat → Nat)  : Ct l g aC aM yX11_within cX11_within 3 (some .boolean) 1 [.int 1, .int 0, .int 3] [] (QI g (fun (r : Int32) (_ : Unit) => r = 1) (fun (_ : Unit) => [])) 0 0 := by
  refine Ct.mk (by decide) (Nat.le_of_ble_eq_true rfl) ?_
  intro p e s m below meth c A ls hx hb hml hown hts hr hlk hnm hK hA hM hM2 hP hD hS hl
  have hown : s.vm.findClass RX11 = some m.cls := hown
  have F : Fx p s m _ c cX11_within 3 RX11 g aC aM A := ⟨hx, hb, hml, hown, hts, hK, hA, hM, hM2⟩
  have hl : lv_has ls 3 [(0, .int 1), (1, .int 0), (2, .int 3)] := hl
  refine lv_iload_n hx hb dX11_within_0 rfl (lv_at hl 0 rfl) ?_
  refine lv_iload_n hx hb dX11_within_1 rfl (lv_at hl 1 rfl) ?_
  refine lv_icmp_lt (tgt := 14) hx hb dX11_within_2 (by decide) (fun c_ => absurd c_ (by decide +kernel)) (fun _ => ?_)
  refine lv_iload_n hx hb dX11_within_5 rfl (lv_at hl 0 rfl) ?_
  refine lv_iload_n hx hb dX11_within_6 rfl (lv_at hl 2 rfl) ?_
  refine lv_icmp_gt (tgt := 14) hx hb dX11_within_7 (by decide) (fun c_ => absurd c_ (by decide +kernel)) (fun _ => ?_)
  refine lv_iconst (v := 1) hx hb dX11_within_10 (by decide) ?_
  refine lv_goto (tgt := 15) hx hb dX11_within_11 (by decide) ?_
  have hP9 := hP.sub (ws' := []) [] rfl
  have hD9 := hD.sub (ws' := []) [] (by decide) rfl
  exact rI () hx hb hr hlk rfl hS rfl hP9 hD9 (Nat.le_of_ble_eq_true rfl) (Nat.le_of_ble_eq_true rfl) dX11_within_15

theorem dX11_fits_114 : decode cX11_fits 114 = .ok (.iload_n 1, 1) := by decide +kernel
theorem dX11_fits_115 : decode cX11_fits 115 = .ok (.iconst 1, 1) := by decide +kernel
theorem dX11_fits_116 : decode cX11_fits 116 = .ok (.if_icmp .ne 7, 3) := by decide +kernel
theorem dX11_fits_119 : decode cX11_fits 119 = .ok (.iload_n 3, 1) := by decide +kernel
theorem dX11_fits_120 : decode cX11_fits 120 = .ok (.goto 15, 3) := by decide +kernel
theorem dX11_fits_135 : decode cX11_fits 135 = .ok (.ireturn, 1) := by decide +kernel
set_option maxHeartbeats 4000000 in
set_option maxRecDepth 100000 in
theorem a_X11_within_24 (l : Launch) (g : va_G) (aC : Nat → ClassId) (aM : Nat → Nat)  : Ct l g aC aM yX11_within cX11_within 3 (some .boolean) 1 [.int 2, .int 0, .int 3] [] (QI g (fun (r : Int32) (_ : Unit) => r = 1) (fun (_ : Unit) => [])) 0 0 := by
  refine Ct.mk (by decide) (Nat.le_of_ble_eq_true rfl) ?_
  intro p e s m below meth c A ls hx hb hml hown hts hr hlk hnm hK hA hM hM2 hP hD hS hl
  have hown : s.vm.findClass RX11 = some m.cls := hown
  have F : Fx p s m _ c cX11_within 3 RX11 g aC aM A := ⟨hx, hb, hml, hown, hts, hK, hA, hM, hM2⟩
  have hl : lv_has ls 3 [(0, .int 2), (1, .int 0), (2, .int 3)] := hl
  refine lv_iload_n hx hb dX11_within_0 rfl (lv_at hl 0 rfl) ?_
  refine lv_iload_n hx hb dX11_within_1 rfl (lv_at hl 1 rfl) ?_
  refine lv_icmp_lt (tgt := 14) hx hb dX11_within_2 (by decide) (fun c_ => absurd c_ (by decide +kernel)) (fun _ => ?_)
  refine lv_iload_n hx hb dX11_within_5 rfl (lv_at hl 0 rfl) ?_
  refine lv_iload_n hx hb dX11_within_6 rfl (lv_at hl 2 rfl) ?_
  refine lv_icmp_gt (tgt := 14) hx hb dX11_within_7 (by decide) (fun c_ => absurd c_ (by decide +kernel)) (fun _ => ?_)
  refine lv_iconst (v := 1) hx hb dX11_within_10 (by decide) ?_
  refine lv_goto (tgt := 15) hx hb dX11_within_11 (by decide) ?_
  have hP9 := hP.sub (ws' := []) [] rfl
  have hD9 := hD.sub (ws' := []) [] (by decide) rfl
  exact rI () hx hb hr hlk rfl hS rfl hP9 hD9 (Nat.le_of_ble_eq_true rfl) (Nat.le_of_ble_eq_true rfl) dX11_within_15

theorem dX11_fits_123 : decode cX11_fits 123 = .ok (.iload_n 1, 1) := by decide +kernel
theorem dX11_fits_124 : decode cX11_fits 124 = .ok (.iconst 2, 1) := by decide +kernel
theorem dX11_fits_125 : decode cX11_fits 125 = .ok (.if_icmp .ne 8, 3) := by decide +kernel
theorem dX11_fits_128 : decode cX11_fits 128 = .ok (.iload 4, 2) := by decide +kernel
theorem dX11_fits_130 : decode cX11_fits 130 = .ok (.goto 5, 3) := by decide +kernel
set_option maxHeartbeats 4000000 in
set_option maxRecDepth 100000 in
theorem a_X11_within_25 (l : Launch) (g : va_G) (aC : Nat → ClassId) (aM : Nat → Nat)  : Ct l g aC aM yX11_within cX11_within 3 (some .boolean) 1 [.int 3, .int 0, .int 3] [] (QI g (fun (r : Int32) (_ : Unit) => r = 1) (fun (_ : Unit) => [])) 0 0 := by
  refine Ct.mk (by decide) (Nat.le_of_ble_eq_true rfl) ?_
  intro p e s m below meth c A ls hx hb hml hown hts hr hlk hnm hK hA hM hM2 hP hD hS hl
  have hown : s.vm.findClass RX11 = some m.cls := hown
  have F : Fx p s m _ c cX11_within 3 RX11 g aC aM A := ⟨hx, hb, hml, hown, hts, hK, hA, hM, hM2⟩
  have hl : lv_has ls 3 [(0, .int 3), (1, .int 0), (2, .int 3)] := hl
  refine lv_iload_n hx hb dX11_within_0 rfl (lv_at hl 0 rfl) ?_
  refine lv_iload_n hx hb dX11_within_1 rfl (lv_at hl 1 rfl) ?_
  refine lv_icmp_lt (tgt := 14) hx hb dX11_within_2 (by decide) (fun c_ => absurd c_ (by decide +kernel)) (fun _ => ?_)
  refine lv_iload_n hx hb dX11_within_5 rfl (lv_at hl 0 rfl) ?_
  refine lv_iload_n hx hb dX11_within_6 rfl (lv_at hl 2 rfl) ?_
  refine lv_icmp_gt (tgt := 14) hx hb dX11_within_7 (by decide) (fun c_ => absurd c_ (by decide +kernel)) (fun _ => ?_)
  refine lv_iconst (v := 1) hx hb dX11_within_10 (by decide) ?_
  refine lv_goto (tgt := 15) hx hb dX11_within_11 (by decide) ?_
  have hP9 := hP.sub (ws' := []) [] rfl
  have hD9 := hD.sub (ws' := []) [] (by decide) rfl
  exact rI () hx hb hr hlk rfl hS rfl hP9 hD9 (Nat.le_of_ble_eq_true rfl) (Nat.le_of_ble_eq_true rfl) dX11_within_15

theorem dX11_fits_133 : decode cX11_fits 133 = .ok (.iload 5, 2) := by decide +kernel
set_option maxHeartbeats 4000000 in
set_option maxRecDepth 100000 in
theorem m_fits_lo (l : Launch) (g : va_G) (aC : Nat → ClassId) (aM : Nat → Nat) (h1 h11 h52 : Nat) (x2 x3 x4 x5 x6 x7 x8 x9 x10 x12 x13 x14 x15 x16 x17 x18 x19 x20 x21 x22 x23 x24 x25 x26 x27 x28 x29 x30 x31 x32 x33 x34 x35 x36 x37 x38 x39 x40 x41 x42 x43 x44 x45 x46 x47 x48 x49 x50 x51 x53 x54 x55 x56 x57 x58 x59 x60 x61 x62 x63 x64 x65 x66 x67 x68 x69 x70 x71 x72 x73 x74 : Value) (n_1 : Int32) (hh1 : n_1 ≤ (-1)) : Ct l g aC aM yX11_fits cX11_fits 7 (some .int) 2 [.ref h1, .int n_1] [(h1, .inr (11, [.int 0, x2, x3, x4, x5, x6, x7, x8, x9, x10, .ref h11, x12, x13, x14, x15, x16, x17, x18, x19, x20, x21, x22, x23, x24, x25, x26, x27, x28, x29, x30, x31, x32, x33, x34, x35, x36, x37, x38, x39, x40, x41, x42, x43, x44, x45, x46, x47, x48, x49, x50, x51, .ref h52, x53, x54, x55, x56, x57, x58, x59, x60, x61, x62, x63, x64, x65, x66, x67, x68, x69, x70, x71, x72, x73, x74])), (h11, .inl (aC 0, 14, .inl (fun _ => 0))), (h52, .inl (aC 0, 5, .inl (fun _ => 0)))] (QI g (fun (r : Int32) (_ : Unit) => r = (-1)) (fun (_ : Unit) => [])) 0 0 := by
  refine Ct.mk (by decide) (Nat.le_of_ble_eq_true rfl) ?_
  intro p e s m below meth c A ls hx hb hml hown hts hr hlk hnm hK hA hM hM2 hP hD hS hl
  have hown : s.vm.findClass RX11 = some m.cls := hown
  have F : Fx p s m _ c cX11_fits 7 RX11 g aC aM A := ⟨hx, hb, hml, hown, hts, hK, hA, hM, hM2⟩
  have hl : lv_has ls 7 [(0, .ref h1), (1, .int n_1)] := hl
  refine lv_aload_n hx hb dX11_fits_0 rfl (lv_at hl 0 rfl) ?_
  refine lv_iconst (v := 0) hx hb dX11_fits_1 (by decide) ?_
  refine xput F hP hD hS 0 rfl rfl inX11 tyX11_ok nmX11 0 (by decide) tb1182 rfl rfl rfl (Nat.le_of_ble_eq_true rfl) dX11_fits_2 (fun H locs hP hD hS => ?_)
  have hP : va_P g vwCl [(h1, .inr (11, [.int 0, x2, x3, x4, x5, x6, x7, x8, x9, x10, .ref h11, x12, x13, x14, x15, x16, x17, x18, x19, x20, x21, x22, x23, x24, x25, x26, x27, x28, x29, x30, x31, x32, x33, x34, x35, x36, x37, x38, x39, x40, x41, x42, x43, x44, x45, x46, x47, x48, x49, x50, x51, .ref h52, x53, x54, x55, x56, x57, x58, x59, x60, x61, x62, x63, x64, x65, x66, x67, x68, x69, x70, x71, x72, x73, x74])), (h11, .inl (aC 0, 14, .inl (fun _ => 0))), (h52, .inl (aC 0, 5, .inl (fun _ => 0)))] H := hP
  have hD : va_D A [(h1, .inr (11, [.int 0, x2, x3, x4, x5, x6, x7, x8, x9, x10, .ref h11, x12, x13, x14, x15, x16, x17, x18, x19, x20, x21, x22, x23, x24, x25, x26, x27, x28, x29, x30, x31, x32, x33, x34, x35, x36, x37, x38, x39, x40, x41, x42, x43, x44, x45, x46, x47, x48, x49, x50, x51, .ref h52, x53, x54, x55, x56, x57, x58, x59, x60, x61, x62, x63, x64, x65, x66, x67, x68, x69, x70, x71, x72, x73, x74])), (h11, .inl (aC 0, 14, .inl (fun _ => 0))), (h52, .inl (aC 0, 5, .inl (fun _ => 0)))] := hD
  refine lv_iload_n hx hb dX11_fits_5 rfl (lv_at hl 1 rfl) ?_
  refine lv_iconst (v := 0) hx hb dX11_fits_6 (by decide) ?_
  refine lv_iconst (v := 3) hx hb dX11_fits_7 (by decide) ?_
  refine goI (wr := [(h1, .inr (11, [.int 0, x2, x3, x4, x5, x6, x7, x8, x9, x10, .ref h11, x12, x13, x14, x15, x16, x17, x18, x19, x20, x21, x22, x23, x24, x25, x26, x27, x28, x29, x30, x31, x32, x33, x34, x35, x36, x37, x38, x39, x40, x41, x42, x43, x44, x45, x46, x47, x48, x49, x50, x51, .ref h52, x53, x54, x55, x56, x57, x58, x59, x60, x61, x62, x63, x64, x65, x66, x67, x68, x69, x70, x71, x72, x73, x74])), (h11, .inl (aC 0, 14, .inl (fun _ => 0))), (h52, .inl (aC 0, 5, .inl (fun _ => 0)))]) (runS (n := 3) (As := [.int n_1, .int 0, .int 3]) (rest := []) F hP hD hS (k_within_lo l g aC aM n_1 0 3 (by have a0_ := hh1; simp only [Int32.lt_iff_toInt_lt, Int32.le_iff_toInt_le, ← Int32.toInt_inj, show (-1 : Int32).toInt = -1 by decide, show (0 : Int32).toInt = 0 by decide, show (3 : Int32).toInt = 3 by decide] at a0_ ⊢; omega)) [] (by decide) rfl tb1511 tb1509 tb1510 tb17 ⟨by decide, by decide, by decide +kernel⟩ ⟨Nat.le_of_ble_eq_true rfl, Nat.le_of_ble_eq_true rfl⟩ rfl hl.1 rfl (Nat.le_of_ble_eq_true rfl) dX11_fits_8 ⟨Nat.le_of_ble_eq_true rfl, Nat.le_of_ble_eq_true rfl⟩) hP hD hS hA [] [0, 1, 2] rfl rfl (by decide) (by decide) (fun r_2 w3 H locs hw hP hD hS => ?_)
  have hP : va_P g vwCl [(h1, .inr (11, [.int 0, x2, x3, x4, x5, x6, x7, x8, x9, x10, .ref h11, x12, x13, x14, x15, x16, x17, x18, x19, x20, x21, x22, x23, x24, x25, x26, x27, x28, x29, x30, x31, x32, x33, x34, x35, x36, x37, x38, x39, x40, x41, x42, x43, x44, x45, x46, x47, x48, x49, x50, x51, .ref h52, x53, x54, x55, x56, x57, x58, x59, x60, x61, x62, x63, x64, x65, x66, x67, x68, x69, x70, x71, x72, x73, x74])), (h11, .inl (aC 0, 14, .inl (fun _ => 0))), (h52, .inl (aC 0, 5, .inl (fun _ => 0)))] H := hP
  have hD : va_D A [(h1, .inr (11, [.int 0, x2, x3, x4, x5, x6, x7, x8, x9, x10, .ref h11, x12, x13, x14, x15, x16, x17, x18, x19, x20, x21, x22, x23, x24, x25, x26, x27, x28, x29, x30, x31, x32, x33, x34, x35, x36, x37, x38, x39, x40, x41, x42, x43, x44, x45, x46, x47, x48, x49, x50, x51, .ref h52, x53, x54, x55, x56, x57, x58, x59, x60, x61, x62, x63, x64, x65, x66, x67, x68, x69, x70, x71, x72, x73, x74])), (h11, .inl (aC 0, 14, .inl (fun _ => 0))), (h52, .inl (aC 0, 5, .inl (fun _ => 0)))] := hD
  try dsimp only at hw
  subst hw
  refine lv_if_ne (tgt := 16) hx hb dX11_fits_11 (by decide) (fun c_ => absurd (by decide +kernel) c_) (fun _ => ?_)
  refine lv_iconst (v := (-1)) hx hb dX11_fits_14 (by decide) ?_
  have hP9 := hP.sub (ws' := []) [] rfl
  have hD9 := hD.sub (ws' := []) [] (by decide) rfl
  exact rI () hx hb hr hlk rfl hS rfl hP9 hD9 (Nat.le_of_ble_eq_true rfl) (Nat.le_of_ble_eq_true rfl) dX11_fits_15

set_option maxHeartbeats 4000000 in
set_option maxRecDepth 100000 in
theorem m_fits_hi (l : Launch) (g : va_G) (aC : Nat → ClassId) (aM : Nat → Nat) (h1 h11 h52 : Nat) (x2 x3 x4 x5 x6 x7 x8 x9 x10 x12 x13 x14 x15 x16 x17 x18 x19 x20 x21 x22 x23 x24 x25 x26 x27 x28 x29 x30 x31 x32 x33 x34 x35 x36 x37 x38 x39 x40 x41 x42 x43 x44 x45 x46 x47 x48 x49 x50 x51 x53 x54 x55 x56 x57 x58 x59 x60 x61 x62 x63 x64 x65 x66 x67 x68 x69 x70 x71 x72 x73 x74 : Value) (n_1 : Int32) (hl1 : 4 ≤ n_1) : Ct l g aC aM yX11_fits cX11_fits 7 (some .int) 2 [.ref h1, .int n_1] [(h1, .inr (11, [.int 0, x2, x3, x4, x5, x6, x7, x8, x9, x10, .ref h11, x12, x13, x14, x15, x16, x17, x18, x19, x20, x21, x22, x23, x24, x25, x26, x27, x28, x29, x30, x31, x32, x33, x34, x35, x36, x37, x38, x39, x40, x41, x42, x43, x44, x45, x46, x47, x48, x49, x50, x51, .ref h52, x53, x54, x55, x56, x57, x58, x59, x60, x61, x62, x63, x64, x65, x66, x67, x68, x69, x70, x71, x72, x73, x74])), (h11, .inl (aC 0, 14, .inl (fun _ => 0))), (h52, .inl (aC 0, 5, .inl (fun _ => 0)))] (QI g (fun (r : Int32) (_ : Unit) => r = (-1)) (fun (_ : Unit) => [])) 0 0 := by
  refine Ct.mk (by decide) (Nat.le_of_ble_eq_true rfl) ?_
  intro p e s m below meth c A ls hx hb hml hown hts hr hlk hnm hK hA hM hM2 hP hD hS hl
  have hown : s.vm.findClass RX11 = some m.cls := hown
  have F : Fx p s m _ c cX11_fits 7 RX11 g aC aM A := ⟨hx, hb, hml, hown, hts, hK, hA, hM, hM2⟩
  have hl : lv_has ls 7 [(0, .ref h1), (1, .int n_1)] := hl
  refine lv_aload_n hx hb dX11_fits_0 rfl (lv_at hl 0 rfl) ?_
  refine lv_iconst (v := 0) hx hb dX11_fits_1 (by decide) ?_
  refine xput F hP hD hS 0 rfl rfl inX11 tyX11_ok nmX11 0 (by decide) tb1182 rfl rfl rfl (Nat.le_of_ble_eq_true rfl) dX11_fits_2 (fun H locs hP hD hS => ?_)
  have hP : va_P g vwCl [(h1, .inr (11, [.int 0, x2, x3, x4, x5, x6, x7, x8, x9, x10, .ref h11, x12, x13, x14, x15, x16, x17, x18, x19, x20, x21, x22, x23, x24, x25, x26, x27, x28, x29, x30, x31, x32, x33, x34, x35, x36, x37, x38, x39, x40, x41, x42, x43, x44, x45, x46, x47, x48, x49, x50, x51, .ref h52, x53, x54, x55, x56, x57, x58, x59, x60, x61, x62, x63, x64, x65, x66, x67, x68, x69, x70, x71, x72, x73, x74])), (h11, .inl (aC 0, 14, .inl (fun _ => 0))), (h52, .inl (aC 0, 5, .inl (fun _ => 0)))] H := hP
  have hD : va_D A [(h1, .inr (11, [.int 0, x2, x3, x4, x5, x6, x7, x8, x9, x10, .ref h11, x12, x13, x14, x15, x16, x17, x18, x19, x20, x21, x22, x23, x24, x25, x26, x27, x28, x29, x30, x31, x32, x33, x34, x35, x36, x37, x38, x39, x40, x41, x42, x43, x44, x45, x46, x47, x48, x49, x50, x51, .ref h52, x53, x54, x55, x56, x57, x58, x59, x60, x61, x62, x63, x64, x65, x66, x67, x68, x69, x70, x71, x72, x73, x74])), (h11, .inl (aC 0, 14, .inl (fun _ => 0))), (h52, .inl (aC 0, 5, .inl (fun _ => 0)))] := hD
  refine lv_iload_n hx hb dX11_fits_5 rfl (lv_at hl 1 rfl) ?_
  refine lv_iconst (v := 0) hx hb dX11_fits_6 (by decide) ?_
  refine lv_iconst (v := 3) hx hb dX11_fits_7 (by decide) ?_
  refine goI (wr := [(h1, .inr (11, [.int 0, x2, x3, x4, x5, x6, x7, x8, x9, x10, .ref h11, x12, x13, x14, x15, x16, x17, x18, x19, x20, x21, x22, x23, x24, x25, x26, x27, x28, x29, x30, x31, x32, x33, x34, x35, x36, x37, x38, x39, x40, x41, x42, x43, x44, x45, x46, x47, x48, x49, x50, x51, .ref h52, x53, x54, x55, x56, x57, x58, x59, x60, x61, x62, x63, x64, x65, x66, x67, x68, x69, x70, x71, x72, x73, x74])), (h11, .inl (aC 0, 14, .inl (fun _ => 0))), (h52, .inl (aC 0, 5, .inl (fun _ => 0)))]) (runS (n := 3) (As := [.int n_1, .int 0, .int 3]) (rest := []) F hP hD hS (k_within_hi l g aC aM n_1 0 3 (by have a0_ := hl1; simp only [Int32.lt_iff_toInt_lt, Int32.le_iff_toInt_le, ← Int32.toInt_inj, show (0 : Int32).toInt = 0 by decide, show (3 : Int32).toInt = 3 by decide, show (4 : Int32).toInt = 4 by decide] at a0_ ⊢; omega) (by have a0_ := hl1; simp only [Int32.lt_iff_toInt_lt, Int32.le_iff_toInt_le, ← Int32.toInt_inj, show (0 : Int32).toInt = 0 by decide, show (3 : Int32).toInt = 3 by decide, show (4 : Int32).toInt = 4 by decide] at a0_ ⊢; omega)) [] (by decide) rfl tb1511 tb1509 tb1510 tb17 ⟨by decide, by decide, by decide +kernel⟩ ⟨Nat.le_of_ble_eq_true rfl, Nat.le_of_ble_eq_true rfl⟩ rfl hl.1 rfl (Nat.le_of_ble_eq_true rfl) dX11_fits_8 ⟨Nat.le_of_ble_eq_true rfl, Nat.le_of_ble_eq_true rfl⟩) hP hD hS hA [] [0, 1, 2] rfl rfl (by decide) (by decide) (fun r_2 w3 H locs hw hP hD hS => ?_)
  have hP : va_P g vwCl [(h1, .inr (11, [.int 0, x2, x3, x4, x5, x6, x7, x8, x9, x10, .ref h11, x12, x13, x14, x15, x16, x17, x18, x19, x20, x21, x22, x23, x24, x25, x26, x27, x28, x29, x30, x31, x32, x33, x34, x35, x36, x37, x38, x39, x40, x41, x42, x43, x44, x45, x46, x47, x48, x49, x50, x51, .ref h52, x53, x54, x55, x56, x57, x58, x59, x60, x61, x62, x63, x64, x65, x66, x67, x68, x69, x70, x71, x72, x73, x74])), (h11, .inl (aC 0, 14, .inl (fun _ => 0))), (h52, .inl (aC 0, 5, .inl (fun _ => 0)))] H := hP
  have hD : va_D A [(h1, .inr (11, [.int 0, x2, x3, x4, x5, x6, x7, x8, x9, x10, .ref h11, x12, x13, x14, x15, x16, x17, x18, x19, x20, x21, x22, x23, x24, x25, x26, x27, x28, x29, x30, x31, x32, x33, x34, x35, x36, x37, x38, x39, x40, x41, x42, x43, x44, x45, x46, x47, x48, x49, x50, x51, .ref h52, x53, x54, x55, x56, x57, x58, x59, x60, x61, x62, x63, x64, x65, x66, x67, x68, x69, x70, x71, x72, x73, x74])), (h11, .inl (aC 0, 14, .inl (fun _ => 0))), (h52, .inl (aC 0, 5, .inl (fun _ => 0)))] := hD
  try dsimp only at hw
  subst hw
  refine lv_if_ne (tgt := 16) hx hb dX11_fits_11 (by decide) (fun c_ => absurd (by decide +kernel) c_) (fun _ => ?_)
  refine lv_iconst (v := (-1)) hx hb dX11_fits_14 (by decide) ?_
  have hP9 := hP.sub (ws' := []) [] rfl
  have hD9 := hD.sub (ws' := []) [] (by decide) rfl
  exact rI () hx hb hr hlk rfl hS rfl hP9 hD9 (Nat.le_of_ble_eq_true rfl) (Nat.le_of_ble_eq_true rfl) dX11_fits_15

set_option maxHeartbeats 4000000 in
set_option maxRecDepth 100000 in
theorem m_fits_0 (l : Launch) (g : va_G) (aC : Nat → ClassId) (aM : Nat → Nat) (h1 h11 h52 : Nat) (x2 x3 x4 x5 x6 x7 x8 x9 x10 x12 x13 x14 x15 x16 x17 x18 x19 x20 x21 x22 x23 x24 x25 x26 x27 x28 x29 x30 x31 x32 x33 x34 x35 x36 x37 x38 x39 x40 x41 x42 x43 x44 x45 x46 x47 x48 x49 x50 x51 x53 x54 x55 x56 x57 x58 x59 x60 x61 x62 x63 x64 x65 x66 x67 x68 x69 x70 x71 x72 x73 x74 : Value) : Ct l g aC aM yX11_fits cX11_fits 7 (some .int) 2 [.ref h1, .int 0] [(h1, .inr (11, [.int 0, x2, x3, x4, x5, x6, x7, x8, x9, x10, .ref h11, x12, x13, x14, x15, x16, x17, x18, x19, x20, x21, x22, x23, x24, x25, x26, x27, x28, x29, x30, x31, x32, x33, x34, x35, x36, x37, x38, x39, x40, x41, x42, x43, x44, x45, x46, x47, x48, x49, x50, x51, .ref h52, x53, x54, x55, x56, x57, x58, x59, x60, x61, x62, x63, x64, x65, x66, x67, x68, x69, x70, x71, x72, x73, x74])), (h11, .inl (aC 0, 14, .inl (fun _ => 0))), (h52, .inl (aC 0, 5, .inl (fun _ => 0)))] (QI g (fun (r : Int32) (_ : Unit) => r = 1) (fun (_ : Unit) => [])) 0 0 := by
  refine Ct.mk (by decide) (Nat.le_of_ble_eq_true rfl) ?_
  intro p e s m below meth c A ls hx hb hml hown hts hr hlk hnm hK hA hM hM2 hP hD hS hl
  have hown : s.vm.findClass RX11 = some m.cls := hown
  have F : Fx p s m _ c cX11_fits 7 RX11 g aC aM A := ⟨hx, hb, hml, hown, hts, hK, hA, hM, hM2⟩
  have hl : lv_has ls 7 [(0, .ref h1), (1, .int 0)] := hl
  refine lv_aload_n hx hb dX11_fits_0 rfl (lv_at hl 0 rfl) ?_
  refine lv_iconst (v := 0) hx hb dX11_fits_1 (by decide) ?_
  refine xput F hP hD hS 0 rfl rfl inX11 tyX11_ok nmX11 0 (by decide) tb1182 rfl rfl rfl (Nat.le_of_ble_eq_true rfl) dX11_fits_2 (fun H locs hP hD hS => ?_)
  have hP : va_P g vwCl [(h1, .inr (11, [.int 0, x2, x3, x4, x5, x6, x7, x8, x9, x10, .ref h11, x12, x13, x14, x15, x16, x17, x18, x19, x20, x21, x22, x23, x24, x25, x26, x27, x28, x29, x30, x31, x32, x33, x34, x35, x36, x37, x38, x39, x40, x41, x42, x43, x44, x45, x46, x47, x48, x49, x50, x51, .ref h52, x53, x54, x55, x56, x57, x58, x59, x60, x61, x62, x63, x64, x65, x66, x67, x68, x69, x70, x71, x72, x73, x74])), (h11, .inl (aC 0, 14, .inl (fun _ => 0))), (h52, .inl (aC 0, 5, .inl (fun _ => 0)))] H := hP
  have hD : va_D A [(h1, .inr (11, [.int 0, x2, x3, x4, x5, x6, x7, x8, x9, x10, .ref h11, x12, x13, x14, x15, x16, x17, x18, x19, x20, x21, x22, x23, x24, x25, x26, x27, x28, x29, x30, x31, x32, x33, x34, x35, x36, x37, x38, x39, x40, x41, x42, x43, x44, x45, x46, x47, x48, x49, x50, x51, .ref h52, x53, x54, x55, x56, x57, x58, x59, x60, x61, x62, x63, x64, x65, x66, x67, x68, x69, x70, x71, x72, x73, x74])), (h11, .inl (aC 0, 14, .inl (fun _ => 0))), (h52, .inl (aC 0, 5, .inl (fun _ => 0)))] := hD
  refine lv_iload_n hx hb dX11_fits_5 rfl (lv_at hl 1 rfl) ?_
  refine lv_iconst (v := 0) hx hb dX11_fits_6 (by decide) ?_
  refine lv_iconst (v := 3) hx hb dX11_fits_7 (by decide) ?_
  refine goI (wr := [(h1, .inr (11, [.int 0, x2, x3, x4, x5, x6, x7, x8, x9, x10, .ref h11, x12, x13, x14, x15, x16, x17, x18, x19, x20, x21, x22, x23, x24, x25, x26, x27, x28, x29, x30, x31, x32, x33, x34, x35, x36, x37, x38, x39, x40, x41, x42, x43, x44, x45, x46, x47, x48, x49, x50, x51, .ref h52, x53, x54, x55, x56, x57, x58, x59, x60, x61, x62, x63, x64, x65, x66, x67, x68, x69, x70, x71, x72, x73, x74])), (h11, .inl (aC 0, 14, .inl (fun _ => 0))), (h52, .inl (aC 0, 5, .inl (fun _ => 0)))]) (runS (n := 3) (As := [.int 0, .int 0, .int 3]) (rest := []) F hP hD hS (a_X11_within_22 l g aC aM ) [] (by decide) rfl tb1511 tb1509 tb1510 tb17 ⟨by decide, by decide, by decide +kernel⟩ ⟨Nat.le_of_ble_eq_true rfl, Nat.le_of_ble_eq_true rfl⟩ rfl hl.1 rfl (Nat.le_of_ble_eq_true rfl) dX11_fits_8 ⟨Nat.le_of_ble_eq_true rfl, Nat.le_of_ble_eq_true rfl⟩) hP hD hS hA [] [0, 1, 2] rfl rfl (by decide) (by decide) (fun r_2 w3 H locs hw hP hD hS => ?_)
  have hP : va_P g vwCl [(h1, .inr (11, [.int 0, x2, x3, x4, x5, x6, x7, x8, x9, x10, .ref h11, x12, x13, x14, x15, x16, x17, x18, x19, x20, x21, x22, x23, x24, x25, x26, x27, x28, x29, x30, x31, x32, x33, x34, x35, x36, x37, x38, x39, x40, x41, x42, x43, x44, x45, x46, x47, x48, x49, x50, x51, .ref h52, x53, x54, x55, x56, x57, x58, x59, x60, x61, x62, x63, x64, x65, x66, x67, x68, x69, x70, x71, x72, x73, x74])), (h11, .inl (aC 0, 14, .inl (fun _ => 0))), (h52, .inl (aC 0, 5, .inl (fun _ => 0)))] H := hP
  have hD : va_D A [(h1, .inr (11, [.int 0, x2, x3, x4, x5, x6, x7, x8, x9, x10, .ref h11, x12, x13, x14, x15, x16, x17, x18, x19, x20, x21, x22, x23, x24, x25, x26, x27, x28, x29, x30, x31, x32, x33, x34, x35, x36, x37, x38, x39, x40, x41, x42, x43, x44, x45, x46, x47, x48, x49, x50, x51, .ref h52, x53, x54, x55, x56, x57, x58, x59, x60, x61, x62, x63, x64, x65, x66, x67, x68, x69, x70, x71, x72, x73, x74])), (h11, .inl (aC 0, 14, .inl (fun _ => 0))), (h52, .inl (aC 0, 5, .inl (fun _ => 0)))] := hD
  try dsimp only at hw
  subst hw
  refine lv_if_ne (tgt := 16) hx hb dX11_fits_11 (by decide) (fun _ => ?_) (fun c_ => absurd c_ (by decide +kernel))
  refine lv_iconst (v := 0) hx hb dX11_fits_16 (by decide) ?_
  refine lv_istore_n (lv' := [(2, .int 0), (0, .ref h1), (1, .int 0)]) hx hb dX11_fits_17 rfl hl (by decide) rfl (fun ls hl => ?_)
  refine lv_aload_n hx hb dX11_fits_18 rfl (lv_at hl 1 rfl) ?_
  refine goI (wr := [(h52, .inl (aC 0, 5, .inl (fun _ => 0)))]) (runV (n := 0) (As := []) (rest := []) F hP hD hS (a_X11_allFlights_2 l g aC aM h1 h11 (.int 0) x2 x3 x4 x5 x6 x7 x8 x9 x10 x12 x13 x14 x15 x16 x17 x18 x19 x20 x21 x22 x23 x24 x25 x26 x27 x28 x29 x30 x31 x32 x33 x34 x35 x36 x37 x38 x39 x40 x41 x42 x43 x44 x45 x46 x47 x48 x49 x50 x51 (.ref h52) x53 x54 x55 x56 x57 x58 x59 x60 x61 x62 x63 x64 x65 x66 x67 x68 x69 x70 x71 x72 x73 x74) [0, 1] (by decide) rfl 0 11 rfl rfl rfl tb1592 tb1589 tb1591 tv65 tb17 ⟨by decide, by decide, by decide +kernel⟩ ⟨Nat.le_of_ble_eq_true rfl, Nat.le_of_ble_eq_true rfl⟩ rfl hl.1 rfl (Nat.le_of_ble_eq_true rfl) dX11_fits_19 ⟨Nat.le_of_ble_eq_true rfl, Nat.le_of_ble_eq_true rfl⟩) hP hD hS hA [0, 1] [2] rfl rfl (by decide) (by decide) (fun r_6 w7 H locs hw hP hD hS => ?_)
  have hP : va_P g vwCl [(h52, .inl (aC 0, 5, .inl (fun _ => 0))), (h1, .inr (11, [.int 0, x2, x3, x4, x5, x6, x7, x8, x9, x10, .ref h11, x12, x13, x14, x15, x16, x17, x18, x19, x20, x21, x22, x23, x24, x25, x26, x27, x28, x29, x30, x31, x32, x33, x34, x35, x36, x37, x38, x39, x40, x41, x42, x43, x44, x45, x46, x47, x48, x49, x50, x51, .ref h52, x53, x54, x55, x56, x57, x58, x59, x60, x61, x62, x63, x64, x65, x66, x67, x68, x69, x70, x71, x72, x73, x74])), (h11, .inl (aC 0, 14, .inl (fun _ => 0)))] H := hP
  have hD : va_D A [(h52, .inl (aC 0, 5, .inl (fun _ => 0))), (h1, .inr (11, [.int 0, x2, x3, x4, x5, x6, x7, x8, x9, x10, .ref h11, x12, x13, x14, x15, x16, x17, x18, x19, x20, x21, x22, x23, x24, x25, x26, x27, x28, x29, x30, x31, x32, x33, x34, x35, x36, x37, x38, x39, x40, x41, x42, x43, x44, x45, x46, x47, x48, x49, x50, x51, .ref h52, x53, x54, x55, x56, x57, x58, x59, x60, x61, x62, x63, x64, x65, x66, x67, x68, x69, x70, x71, x72, x73, x74])), (h11, .inl (aC 0, 14, .inl (fun _ => 0)))] := hD
  try dsimp only at hw
  subst hw
  refine lv_istore_n (lv' := [(3, .int 0), (2, .int 0), (0, .ref h1), (1, .int 0)]) hx hb dX11_fits_22 rfl hl (by decide) rfl (fun ls hl => ?_)
  refine lv_iconst (v := 0) hx hb dX11_fits_23 (by decide) ?_
  refine lv_istore (lv' := [(4, .int 0), (3, .int 0), (2, .int 0), (0, .ref h1), (1, .int 0)]) hx hb dX11_fits_24 hl (by decide) rfl (fun ls hl => ?_)
  refine lv_iconst (v := (-1)) hx hb dX11_fits_26 (by decide) ?_
  refine lv_istore (lv' := [(5, .int (-1)), (4, .int 0), (3, .int 0), (2, .int 0), (0, .ref h1), (1, .int 0)]) hx hb dX11_fits_27 hl (by decide) rfl (fun ls hl => ?_)
  refine lv_iconst (v := 0) hx hb dX11_fits_29 (by decide) ?_
  refine lv_istore (lv' := [(6, .int 0), (5, .int (-1)), (4, .int 0), (3, .int 0), (2, .int 0), (0, .ref h1), (1, .int 0)]) hx hb dX11_fits_30 hl (by decide) rfl (fun ls hl => ?_)
  refine lv_iload hx hb dX11_fits_32 (lv_at hl 0 rfl) ?_
  refine lv_aload_n hx hb dX11_fits_34 rfl (lv_at hl 5 rfl) ?_
  refine goI (wr := [(h52, .inl (aC 0, 5, .inl (fun _ => 0)))]) (runV (n := 0) (As := []) (rest := [.int 0]) F hP hD hS (a_X11_allFlights_2 l g aC aM h1 h11 (.int 0) x2 x3 x4 x5 x6 x7 x8 x9 x10 x12 x13 x14 x15 x16 x17 x18 x19 x20 x21 x22 x23 x24 x25 x26 x27 x28 x29 x30 x31 x32 x33 x34 x35 x36 x37 x38 x39 x40 x41 x42 x43 x44 x45 x46 x47 x48 x49 x50 x51 (.ref h52) x53 x54 x55 x56 x57 x58 x59 x60 x61 x62 x63 x64 x65 x66 x67 x68 x69 x70 x71 x72 x73 x74) [1, 2] (by decide) rfl 1 11 rfl rfl rfl tb1592 tb1589 tb1591 tv65 tb17 ⟨by decide, by decide, by decide +kernel⟩ ⟨Nat.le_of_ble_eq_true rfl, Nat.le_of_ble_eq_true rfl⟩ rfl hl.1 rfl (Nat.le_of_ble_eq_true rfl) dX11_fits_35 ⟨Nat.le_of_ble_eq_true rfl, Nat.le_of_ble_eq_true rfl⟩) hP hD hS hA [1, 2] [0] rfl rfl (by decide) (by decide) (fun r_9 w10 H locs hw hP hD hS => ?_)
  have hP : va_P g vwCl [(h52, .inl (aC 0, 5, .inl (fun _ => 0))), (h1, .inr (11, [.int 0, x2, x3, x4, x5, x6, x7, x8, x9, x10, .ref h11, x12, x13, x14, x15, x16, x17, x18, x19, x20, x21, x22, x23, x24, x25, x26, x27, x28, x29, x30, x31, x32, x33, x34, x35, x36, x37, x38, x39, x40, x41, x42, x43, x44, x45, x46, x47, x48, x49, x50, x51, .ref h52, x53, x54, x55, x56, x57, x58, x59, x60, x61, x62, x63, x64, x65, x66, x67, x68, x69, x70, x71, x72, x73, x74])), (h11, .inl (aC 0, 14, .inl (fun _ => 0)))] H := hP
  have hD : va_D A [(h52, .inl (aC 0, 5, .inl (fun _ => 0))), (h1, .inr (11, [.int 0, x2, x3, x4, x5, x6, x7, x8, x9, x10, .ref h11, x12, x13, x14, x15, x16, x17, x18, x19, x20, x21, x22, x23, x24, x25, x26, x27, x28, x29, x30, x31, x32, x33, x34, x35, x36, x37, x38, x39, x40, x41, x42, x43, x44, x45, x46, x47, x48, x49, x50, x51, .ref h52, x53, x54, x55, x56, x57, x58, x59, x60, x61, x62, x63, x64, x65, x66, x67, x68, x69, x70, x71, x72, x73, x74])), (h11, .inl (aC 0, 14, .inl (fun _ => 0)))] := hD
  try dsimp only at hw
  subst hw
  refine lv_icmp_gt (tgt := 96) hx hb dX11_fits_38 (by decide) (fun c_ => absurd c_ (by decide +kernel)) (fun _ => ?_)
  refine lv_aload_n hx hb dX11_fits_41 rfl (lv_at hl 5 rfl) ?_
  refine lv_iload hx hb dX11_fits_42 (lv_at hl 0 rfl) ?_
  refine goI (wr := [(h11, .inl (aC 0, 14, .inl (fun _ => 0)))]) (runV (n := 1) (As := [.int 0]) (rest := []) F hP hD hS (a_X11_isAsSeen_1 l g aC aM h1 h52 (.int 0) x2 x3 x4 x5 x6 x7 x8 x9 x10 (.ref h11) x12 x13 x14 x15 x16 x17 x18 x19 x20 x21 x22 x23 x24 x25 x26 x27 x28 x29 x30 x31 x32 x33 x34 x35 x36 x37 x38 x39 x40 x41 x42 x43 x44 x45 x46 x47 x48 x49 x50 x51 x53 x54 x55 x56 x57 x58 x59 x60 x61 x62 x63 x64 x65 x66 x67 x68 x69 x70 x71 x72 x73 x74) [0, 1] (by decide) rfl 1 11 rfl rfl rfl tb1810 tb1807 tb1809 tv98 tb17 ⟨by decide, by decide, by decide +kernel⟩ ⟨Nat.le_of_ble_eq_true rfl, Nat.le_of_ble_eq_true rfl⟩ rfl hl.1 rfl (Nat.le_of_ble_eq_true rfl) dX11_fits_44 ⟨Nat.le_of_ble_eq_true rfl, Nat.le_of_ble_eq_true rfl⟩) hP hD hS hA [0, 1] [2] rfl rfl (by decide) (by decide) (fun r_13 w14 H locs hw hP hD hS => ?_)
  have hP : va_P g vwCl [(h11, .inl (aC 0, 14, .inl (fun _ => 0))), (h52, .inl (aC 0, 5, .inl (fun _ => 0))), (h1, .inr (11, [.int 0, x2, x3, x4, x5, x6, x7, x8, x9, x10, .ref h11, x12, x13, x14, x15, x16, x17, x18, x19, x20, x21, x22, x23, x24, x25, x26, x27, x28, x29, x30, x31, x32, x33, x34, x35, x36, x37, x38, x39, x40, x41, x42, x43, x44, x45, x46, x47, x48, x49, x50, x51, .ref h52, x53, x54, x55, x56, x57, x58, x59, x60, x61, x62, x63, x64, x65, x66, x67, x68, x69, x70, x71, x72, x73, x74]))] H := hP
  have hD : va_D A [(h11, .inl (aC 0, 14, .inl (fun _ => 0))), (h52, .inl (aC 0, 5, .inl (fun _ => 0))), (h1, .inr (11, [.int 0, x2, x3, x4, x5, x6, x7, x8, x9, x10, .ref h11, x12, x13, x14, x15, x16, x17, x18, x19, x20, x21, x22, x23, x24, x25, x26, x27, x28, x29, x30, x31, x32, x33, x34, x35, x36, x37, x38, x39, x40, x41, x42, x43, x44, x45, x46, x47, x48, x49, x50, x51, .ref h52, x53, x54, x55, x56, x57, x58, x59, x60, x61, x62, x63, x64, x65, x66, x67, x68, x69, x70, x71, x72, x73, x74]))] := hD
  try dsimp only at hw
  subst hw
  refine lv_if_ne (tgt := 53) hx hb dX11_fits_47 (by decide) (fun _ => ?_) (fun c_ => absurd c_ (by decide +kernel))
  refine lv_iinc (v := 1) (lv' := [(2, .int 1), (6, .int 0), (5, .int (-1)), (4, .int 0), (3, .int 0), (0, .ref h1), (1, .int 0)]) hx hb dX11_fits_53 hl (k := 4) rfl (by decide +kernel) (by decide) rfl (fun ls hl => ?_)
  refine lv_iload_n hx hb dX11_fits_56 rfl (lv_at hl 4 rfl) ?_
  refine lv_iload hx hb dX11_fits_57 (lv_at hl 1 rfl) ?_
  refine lv_iand hx hb dX11_fits_59 ?_
  refine relit (v := 0) (by decide +kernel) ?_
  refine lv_istore_n (lv' := [(3, .int 0), (2, .int 1), (6, .int 0), (5, .int (-1)), (4, .int 0), (0, .ref h1), (1, .int 0)]) hx hb dX11_fits_60 rfl hl (by decide) rfl (fun ls hl => ?_)
  refine lv_iload hx hb dX11_fits_61 (lv_at hl 4 rfl) ?_
  refine lv_iload hx hb dX11_fits_63 (lv_at hl 2 rfl) ?_
  refine lv_ior hx hb dX11_fits_65 ?_
  refine relit (v := 0) (by decide +kernel) ?_
  refine lv_istore (lv' := [(4, .int 0), (3, .int 0), (2, .int 1), (6, .int 0), (5, .int (-1)), (0, .ref h1), (1, .int 0)]) hx hb dX11_fits_66 hl (by decide) rfl (fun ls hl => ?_)
  refine lv_iload hx hb dX11_fits_68 (lv_at hl 4 rfl) ?_
  refine lv_if_lt (tgt := 86) hx hb dX11_fits_70 (by decide) (fun _ => ?_) (fun c_ => absurd (by decide +kernel) c_)
  refine lv_iload hx hb dX11_fits_86 (lv_at hl 3 rfl) ?_
  refine lv_istore (lv' := [(5, .int 0), (4, .int 0), (3, .int 0), (2, .int 1), (6, .int 0), (0, .ref h1), (1, .int 0)]) hx hb dX11_fits_88 hl (by decide) rfl (fun ls hl => ?_)
  refine lv_iinc (v := 1) (lv' := [(6, .int 1), (5, .int 0), (4, .int 0), (3, .int 0), (2, .int 1), (0, .ref h1), (1, .int 0)]) hx hb dX11_fits_90 hl (k := 4) rfl (by decide +kernel) (by decide) rfl (fun ls hl => ?_)
  refine lv_goto (tgt := 32) hx hb dX11_fits_93 (by decide) ?_
  refine lv_iload hx hb dX11_fits_32 (lv_at hl 0 rfl) ?_
  refine lv_aload_n hx hb dX11_fits_34 rfl (lv_at hl 5 rfl) ?_
  refine goI (wr := [(h52, .inl (aC 0, 5, .inl (fun _ => 0)))]) (runV (n := 0) (As := []) (rest := [.int 1]) F hP hD hS (a_X11_allFlights_2 l g aC aM h1 h11 (.int 0) x2 x3 x4 x5 x6 x7 x8 x9 x10 x12 x13 x14 x15 x16 x17 x18 x19 x20 x21 x22 x23 x24 x25 x26 x27 x28 x29 x30 x31 x32 x33 x34 x35 x36 x37 x38 x39 x40 x41 x42 x43 x44 x45 x46 x47 x48 x49 x50 x51 (.ref h52) x53 x54 x55 x56 x57 x58 x59 x60 x61 x62 x63 x64 x65 x66 x67 x68 x69 x70 x71 x72 x73 x74) [2, 0] (by decide) rfl 2 11 rfl rfl rfl tb1592 tb1589 tb1591 tv65 tb17 ⟨by decide, by decide, by decide +kernel⟩ ⟨Nat.le_of_ble_eq_true rfl, Nat.le_of_ble_eq_true rfl⟩ rfl hl.1 rfl (Nat.le_of_ble_eq_true rfl) dX11_fits_35 ⟨Nat.le_of_ble_eq_true rfl, Nat.le_of_ble_eq_true rfl⟩) hP hD hS hA [2, 0] [1] rfl rfl (by decide) (by decide) (fun r_18 w19 H locs hw hP hD hS => ?_)
  have hP : va_P g vwCl [(h52, .inl (aC 0, 5, .inl (fun _ => 0))), (h1, .inr (11, [.int 0, x2, x3, x4, x5, x6, x7, x8, x9, x10, .ref h11, x12, x13, x14, x15, x16, x17, x18, x19, x20, x21, x22, x23, x24, x25, x26, x27, x28, x29, x30, x31, x32, x33, x34, x35, x36, x37, x38, x39, x40, x41, x42, x43, x44, x45, x46, x47, x48, x49, x50, x51, .ref h52, x53, x54, x55, x56, x57, x58, x59, x60, x61, x62, x63, x64, x65, x66, x67, x68, x69, x70, x71, x72, x73, x74])), (h11, .inl (aC 0, 14, .inl (fun _ => 0)))] H := hP
  have hD : va_D A [(h52, .inl (aC 0, 5, .inl (fun _ => 0))), (h1, .inr (11, [.int 0, x2, x3, x4, x5, x6, x7, x8, x9, x10, .ref h11, x12, x13, x14, x15, x16, x17, x18, x19, x20, x21, x22, x23, x24, x25, x26, x27, x28, x29, x30, x31, x32, x33, x34, x35, x36, x37, x38, x39, x40, x41, x42, x43, x44, x45, x46, x47, x48, x49, x50, x51, .ref h52, x53, x54, x55, x56, x57, x58, x59, x60, x61, x62, x63, x64, x65, x66, x67, x68, x69, x70, x71, x72, x73, x74])), (h11, .inl (aC 0, 14, .inl (fun _ => 0)))] := hD
  try dsimp only at hw
  subst hw
  refine lv_icmp_gt (tgt := 96) hx hb dX11_fits_38 (by decide) (fun _ => ?_) (fun c_ => absurd (by decide +kernel) c_)
  refine lv_iload_n hx hb dX11_fits_96 rfl (lv_at hl 4 rfl) ?_
  refine lv_if_eq (tgt := 104) hx hb dX11_fits_97 (by decide) (fun c_ => absurd c_ (by decide +kernel)) (fun _ => ?_)
  refine lv_iload_n hx hb dX11_fits_100 rfl (lv_at hl 6 rfl) ?_
  refine lv_if_ne (tgt := 114) hx hb dX11_fits_101 (by decide) (fun c_ => absurd (by decide +kernel) c_) (fun _ => ?_)
  refine lv_iload_n hx hb dX11_fits_104 rfl (lv_at hl 6 rfl) ?_
  refine lv_if_ne (tgt := 112) hx hb dX11_fits_105 (by decide) (fun c_ => absurd (by decide +kernel) c_) (fun _ => ?_)
  refine lv_iload_n hx hb dX11_fits_108 rfl (lv_at hl 4 rfl) ?_
  refine lv_goto (tgt := 113) hx hb dX11_fits_109 (by decide) ?_
  have hP9 := hP.sub (ws' := []) [] rfl
  have hD9 := hD.sub (ws' := []) [] (by decide) rfl
  exact rI () hx hb hr hlk rfl hS rfl hP9 hD9 (Nat.le_of_ble_eq_true rfl) (Nat.le_of_ble_eq_true rfl) dX11_fits_113

set_option maxHeartbeats 4000000 in
set_option maxRecDepth 100000 in
theorem m_fits_1 (l : Launch) (g : va_G) (aC : Nat → ClassId) (aM : Nat → Nat) (h1 h11 h52 : Nat) (x2 x3 x4 x5 x6 x7 x8 x9 x10 x12 x13 x14 x15 x16 x17 x18 x19 x20 x21 x22 x23 x24 x25 x26 x27 x28 x29 x30 x31 x32 x33 x34 x35 x36 x37 x38 x39 x40 x41 x42 x43 x44 x45 x46 x47 x48 x49 x50 x51 x53 x54 x55 x56 x57 x58 x59 x60 x61 x62 x63 x64 x65 x66 x67 x68 x69 x70 x71 x72 x73 x74 : Value) : Ct l g aC aM yX11_fits cX11_fits 7 (some .int) 2 [.ref h1, .int 1] [(h1, .inr (11, [.int 0, x2, x3, x4, x5, x6, x7, x8, x9, x10, .ref h11, x12, x13, x14, x15, x16, x17, x18, x19, x20, x21, x22, x23, x24, x25, x26, x27, x28, x29, x30, x31, x32, x33, x34, x35, x36, x37, x38, x39, x40, x41, x42, x43, x44, x45, x46, x47, x48, x49, x50, x51, .ref h52, x53, x54, x55, x56, x57, x58, x59, x60, x61, x62, x63, x64, x65, x66, x67, x68, x69, x70, x71, x72, x73, x74])), (h11, .inl (aC 0, 14, .inl (fun _ => 0))), (h52, .inl (aC 0, 5, .inl (fun _ => 0)))] (QI g (fun (r : Int32) (_ : Unit) => r = 0) (fun (_ : Unit) => [])) 0 0 := by
  refine Ct.mk (by decide) (Nat.le_of_ble_eq_true rfl) ?_
  intro p e s m below meth c A ls hx hb hml hown hts hr hlk hnm hK hA hM hM2 hP hD hS hl
  have hown : s.vm.findClass RX11 = some m.cls := hown
  have F : Fx p s m _ c cX11_fits 7 RX11 g aC aM A := ⟨hx, hb, hml, hown, hts, hK, hA, hM, hM2⟩
  have hl : lv_has ls 7 [(0, .ref h1), (1, .int 1)] := hl
  refine lv_aload_n hx hb dX11_fits_0 rfl (lv_at hl 0 rfl) ?_
  refine lv_iconst (v := 0) hx hb dX11_fits_1 (by decide) ?_
  refine xput F hP hD hS 0 rfl rfl inX11 tyX11_ok nmX11 0 (by decide) tb1182 rfl rfl rfl (Nat.le_of_ble_eq_true rfl) dX11_fits_2 (fun H locs hP hD hS => ?_)
  have hP : va_P g vwCl [(h1, .inr (11, [.int 0, x2, x3, x4, x5, x6, x7, x8, x9, x10, .ref h11, x12, x13, x14, x15, x16, x17, x18, x19, x20, x21, x22, x23, x24, x25, x26, x27, x28, x29, x30, x31, x32, x33, x34, x35, x36, x37, x38, x39, x40, x41, x42, x43, x44, x45, x46, x47, x48, x49, x50, x51, .ref h52, x53, x54, x55, x56, x57, x58, x59, x60, x61, x62, x63, x64, x65, x66, x67, x68, x69, x70, x71, x72, x73, x74])), (h11, .inl (aC 0, 14, .inl (fun _ => 0))), (h52, .inl (aC 0, 5, .inl (fun _ => 0)))] H := hP
  have hD : va_D A [(h1, .inr (11, [.int 0, x2, x3, x4, x5, x6, x7, x8, x9, x10, .ref h11, x12, x13, x14, x15, x16, x17, x18, x19, x20, x21, x22, x23, x24, x25, x26, x27, x28, x29, x30, x31, x32, x33, x34, x35, x36, x37, x38, x39, x40, x41, x42, x43, x44, x45, x46, x47, x48, x49, x50, x51, .ref h52, x53, x54, x55, x56, x57, x58, x59, x60, x61, x62, x63, x64, x65, x66, x67, x68, x69, x70, x71, x72, x73, x74])), (h11, .inl (aC 0, 14, .inl (fun _ => 0))), (h52, .inl (aC 0, 5, .inl (fun _ => 0)))] := hD
  refine lv_iload_n hx hb dX11_fits_5 rfl (lv_at hl 1 rfl) ?_
  refine lv_iconst (v := 0) hx hb dX11_fits_6 (by decide) ?_
  refine lv_iconst (v := 3) hx hb dX11_fits_7 (by decide) ?_
  refine goI (wr := [(h1, .inr (11, [.int 0, x2, x3, x4, x5, x6, x7, x8, x9, x10, .ref h11, x12, x13, x14, x15, x16, x17, x18, x19, x20, x21, x22, x23, x24, x25, x26, x27, x28, x29, x30, x31, x32, x33, x34, x35, x36, x37, x38, x39, x40, x41, x42, x43, x44, x45, x46, x47, x48, x49, x50, x51, .ref h52, x53, x54, x55, x56, x57, x58, x59, x60, x61, x62, x63, x64, x65, x66, x67, x68, x69, x70, x71, x72, x73, x74])), (h11, .inl (aC 0, 14, .inl (fun _ => 0))), (h52, .inl (aC 0, 5, .inl (fun _ => 0)))]) (runS (n := 3) (As := [.int 1, .int 0, .int 3]) (rest := []) F hP hD hS (a_X11_within_23 l g aC aM ) [] (by decide) rfl tb1511 tb1509 tb1510 tb17 ⟨by decide, by decide, by decide +kernel⟩ ⟨Nat.le_of_ble_eq_true rfl, Nat.le_of_ble_eq_true rfl⟩ rfl hl.1 rfl (Nat.le_of_ble_eq_true rfl) dX11_fits_8 ⟨Nat.le_of_ble_eq_true rfl, Nat.le_of_ble_eq_true rfl⟩) hP hD hS hA [] [0, 1, 2] rfl rfl (by decide) (by decide) (fun r_2 w3 H locs hw hP hD hS => ?_)
  have hP : va_P g vwCl [(h1, .inr (11, [.int 0, x2, x3, x4, x5, x6, x7, x8, x9, x10, .ref h11, x12, x13, x14, x15, x16, x17, x18, x19, x20, x21, x22, x23, x24, x25, x26, x27, x28, x29, x30, x31, x32, x33, x34, x35, x36, x37, x38, x39, x40, x41, x42, x43, x44, x45, x46, x47, x48, x49, x50, x51, .ref h52, x53, x54, x55, x56, x57, x58, x59, x60, x61, x62, x63, x64, x65, x66, x67, x68, x69, x70, x71, x72, x73, x74])), (h11, .inl (aC 0, 14, .inl (fun _ => 0))), (h52, .inl (aC 0, 5, .inl (fun _ => 0)))] H := hP
  have hD : va_D A [(h1, .inr (11, [.int 0, x2, x3, x4, x5, x6, x7, x8, x9, x10, .ref h11, x12, x13, x14, x15, x16, x17, x18, x19, x20, x21, x22, x23, x24, x25, x26, x27, x28, x29, x30, x31, x32, x33, x34, x35, x36, x37, x38, x39, x40, x41, x42, x43, x44, x45, x46, x47, x48, x49, x50, x51, .ref h52, x53, x54, x55, x56, x57, x58, x59, x60, x61, x62, x63, x64, x65, x66, x67, x68, x69, x70, x71, x72, x73, x74])), (h11, .inl (aC 0, 14, .inl (fun _ => 0))), (h52, .inl (aC 0, 5, .inl (fun _ => 0)))] := hD
  try dsimp only at hw
  subst hw
  refine lv_if_ne (tgt := 16) hx hb dX11_fits_11 (by decide) (fun _ => ?_) (fun c_ => absurd c_ (by decide +kernel))
  refine lv_iconst (v := 0) hx hb dX11_fits_16 (by decide) ?_
  refine lv_istore_n (lv' := [(2, .int 0), (0, .ref h1), (1, .int 1)]) hx hb dX11_fits_17 rfl hl (by decide) rfl (fun ls hl => ?_)
  refine lv_aload_n hx hb dX11_fits_18 rfl (lv_at hl 1 rfl) ?_
  refine goI (wr := [(h52, .inl (aC 0, 5, .inl (fun _ => 0)))]) (runV (n := 0) (As := []) (rest := []) F hP hD hS (a_X11_allFlights_2 l g aC aM h1 h11 (.int 0) x2 x3 x4 x5 x6 x7 x8 x9 x10 x12 x13 x14 x15 x16 x17 x18 x19 x20 x21 x22 x23 x24 x25 x26 x27 x28 x29 x30 x31 x32 x33 x34 x35 x36 x37 x38 x39 x40 x41 x42 x43 x44 x45 x46 x47 x48 x49 x50 x51 (.ref h52) x53 x54 x55 x56 x57 x58 x59 x60 x61 x62 x63 x64 x65 x66 x67 x68 x69 x70 x71 x72 x73 x74) [0, 1] (by decide) rfl 0 11 rfl rfl rfl tb1592 tb1589 tb1591 tv65 tb17 ⟨by decide, by decide, by decide +kernel⟩ ⟨Nat.le_of_ble_eq_true rfl, Nat.le_of_ble_eq_true rfl⟩ rfl hl.1 rfl (Nat.le_of_ble_eq_true rfl) dX11_fits_19 ⟨Nat.le_of_ble_eq_true rfl, Nat.le_of_ble_eq_true rfl⟩) hP hD hS hA [0, 1] [2] rfl rfl (by decide) (by decide) (fun r_6 w7 H locs hw hP hD hS => ?_)
  have hP : va_P g vwCl [(h52, .inl (aC 0, 5, .inl (fun _ => 0))), (h1, .inr (11, [.int 0, x2, x3, x4, x5, x6, x7, x8, x9, x10, .ref h11, x12, x13, x14, x15, x16, x17, x18, x19, x20, x21, x22, x23, x24, x25, x26, x27, x28, x29, x30, x31, x32, x33, x34, x35, x36, x37, x38, x39, x40, x41, x42, x43, x44, x45, x46, x47, x48, x49, x50, x51, .ref h52, x53, x54, x55, x56, x57, x58, x59, x60, x61, x62, x63, x64, x65, x66, x67, x68, x69, x70, x71, x72, x73, x74])), (h11, .inl (aC 0, 14, .inl (fun _ => 0)))] H := hP
  have hD : va_D A [(h52, .inl (aC 0, 5, .inl (fun _ => 0))), (h1, .inr (11, [.int 0, x2, x3, x4, x5, x6, x7, x8, x9, x10, .ref h11, x12, x13, x14, x15, x16, x17, x18, x19, x20, x21, x22, x23, x24, x25, x26, x27, x28, x29, x30, x31, x32, x33, x34, x35, x36, x37, x38, x39, x40, x41, x42, x43, x44, x45, x46, x47, x48, x49, x50, x51, .ref h52, x53, x54, x55, x56, x57, x58, x59, x60, x61, x62, x63, x64, x65, x66, x67, x68, x69, x70, x71, x72, x73, x74])), (h11, .inl (aC 0, 14, .inl (fun _ => 0)))] := hD
  try dsimp only at hw
  subst hw
  refine lv_istore_n (lv' := [(3, .int 0), (2, .int 0), (0, .ref h1), (1, .int 1)]) hx hb dX11_fits_22 rfl hl (by decide) rfl (fun ls hl => ?_)
  refine lv_iconst (v := 0) hx hb dX11_fits_23 (by decide) ?_
  refine lv_istore (lv' := [(4, .int 0), (3, .int 0), (2, .int 0), (0, .ref h1), (1, .int 1)]) hx hb dX11_fits_24 hl (by decide) rfl (fun ls hl => ?_)
  refine lv_iconst (v := (-1)) hx hb dX11_fits_26 (by decide) ?_
  refine lv_istore (lv' := [(5, .int (-1)), (4, .int 0), (3, .int 0), (2, .int 0), (0, .ref h1), (1, .int 1)]) hx hb dX11_fits_27 hl (by decide) rfl (fun ls hl => ?_)
  refine lv_iconst (v := 0) hx hb dX11_fits_29 (by decide) ?_
  refine lv_istore (lv' := [(6, .int 0), (5, .int (-1)), (4, .int 0), (3, .int 0), (2, .int 0), (0, .ref h1), (1, .int 1)]) hx hb dX11_fits_30 hl (by decide) rfl (fun ls hl => ?_)
  refine lv_iload hx hb dX11_fits_32 (lv_at hl 0 rfl) ?_
  refine lv_aload_n hx hb dX11_fits_34 rfl (lv_at hl 5 rfl) ?_
  refine goI (wr := [(h52, .inl (aC 0, 5, .inl (fun _ => 0)))]) (runV (n := 0) (As := []) (rest := [.int 0]) F hP hD hS (a_X11_allFlights_2 l g aC aM h1 h11 (.int 0) x2 x3 x4 x5 x6 x7 x8 x9 x10 x12 x13 x14 x15 x16 x17 x18 x19 x20 x21 x22 x23 x24 x25 x26 x27 x28 x29 x30 x31 x32 x33 x34 x35 x36 x37 x38 x39 x40 x41 x42 x43 x44 x45 x46 x47 x48 x49 x50 x51 (.ref h52) x53 x54 x55 x56 x57 x58 x59 x60 x61 x62 x63 x64 x65 x66 x67 x68 x69 x70 x71 x72 x73 x74) [1, 2] (by decide) rfl 1 11 rfl rfl rfl tb1592 tb1589 tb1591 tv65 tb17 ⟨by decide, by decide, by decide +kernel⟩ ⟨Nat.le_of_ble_eq_true rfl, Nat.le_of_ble_eq_true rfl⟩ rfl hl.1 rfl (Nat.le_of_ble_eq_true rfl) dX11_fits_35 ⟨Nat.le_of_ble_eq_true rfl, Nat.le_of_ble_eq_true rfl⟩) hP hD hS hA [1, 2] [0] rfl rfl (by decide) (by decide) (fun r_9 w10 H locs hw hP hD hS => ?_)
  have hP : va_P g vwCl [(h52, .inl (aC 0, 5, .inl (fun _ => 0))), (h1, .inr (11, [.int 0, x2, x3, x4, x5, x6, x7, x8, x9, x10, .ref h11, x12, x13, x14, x15, x16, x17, x18, x19, x20, x21, x22, x23, x24, x25, x26, x27, x28, x29, x30, x31, x32, x33, x34, x35, x36, x37, x38, x39, x40, x41, x42, x43, x44, x45, x46, x47, x48, x49, x50, x51, .ref h52, x53, x54, x55, x56, x57, x58, x59, x60, x61, x62, x63, x64, x65, x66, x67, x68, x69, x70, x71, x72, x73, x74])), (h11, .inl (aC 0, 14, .inl (fun _ => 0)))] H := hP
  have hD : va_D A [(h52, .inl (aC 0, 5, .inl (fun _ => 0))), (h1, .inr (11, [.int 0, x2, x3, x4, x5, x6, x7, x8, x9, x10, .ref h11, x12, x13, x14, x15, x16, x17, x18, x19, x20, x21, x22, x23, x24, x25, x26, x27, x28, x29, x30, x31, x32, x33, x34, x35, x36, x37, x38, x39, x40, x41, x42, x43, x44, x45, x46, x47, x48, x49, x50, x51, .ref h52, x53, x54, x55, x56, x57, x58, x59, x60, x61, x62, x63, x64, x65, x66, x67, x68, x69, x70, x71, x72, x73, x74])), (h11, .inl (aC 0, 14, .inl (fun _ => 0)))] := hD
  try dsimp only at hw
  subst hw
  refine lv_icmp_gt (tgt := 96) hx hb dX11_fits_38 (by decide) (fun c_ => absurd c_ (by decide +kernel)) (fun _ => ?_)
  refine lv_aload_n hx hb dX11_fits_41 rfl (lv_at hl 5 rfl) ?_
  refine lv_iload hx hb dX11_fits_42 (lv_at hl 0 rfl) ?_
  refine goI (wr := [(h11, .inl (aC 0, 14, .inl (fun _ => 0)))]) (runV (n := 1) (As := [.int 0]) (rest := []) F hP hD hS (a_X11_isAsSeen_1 l g aC aM h1 h52 (.int 0) x2 x3 x4 x5 x6 x7 x8 x9 x10 (.ref h11) x12 x13 x14 x15 x16 x17 x18 x19 x20 x21 x22 x23 x24 x25 x26 x27 x28 x29 x30 x31 x32 x33 x34 x35 x36 x37 x38 x39 x40 x41 x42 x43 x44 x45 x46 x47 x48 x49 x50 x51 x53 x54 x55 x56 x57 x58 x59 x60 x61 x62 x63 x64 x65 x66 x67 x68 x69 x70 x71 x72 x73 x74) [0, 1] (by decide) rfl 1 11 rfl rfl rfl tb1810 tb1807 tb1809 tv98 tb17 ⟨by decide, by decide, by decide +kernel⟩ ⟨Nat.le_of_ble_eq_true rfl, Nat.le_of_ble_eq_true rfl⟩ rfl hl.1 rfl (Nat.le_of_ble_eq_true rfl) dX11_fits_44 ⟨Nat.le_of_ble_eq_true rfl, Nat.le_of_ble_eq_true rfl⟩) hP hD hS hA [0, 1] [2] rfl rfl (by decide) (by decide) (fun r_13 w14 H locs hw hP hD hS => ?_)
  have hP : va_P g vwCl [(h11, .inl (aC 0, 14, .inl (fun _ => 0))), (h52, .inl (aC 0, 5, .inl (fun _ => 0))), (h1, .inr (11, [.int 0, x2, x3, x4, x5, x6, x7, x8, x9, x10, .ref h11, x12, x13, x14, x15, x16, x17, x18, x19, x20, x21, x22, x23, x24, x25, x26, x27, x28, x29, x30, x31, x32, x33, x34, x35, x36, x37, x38, x39, x40, x41, x42, x43, x44, x45, x46, x47, x48, x49, x50, x51, .ref h52, x53, x54, x55, x56, x57, x58, x59, x60, x61, x62, x63, x64, x65, x66, x67, x68, x69, x70, x71, x72, x73, x74]))] H := hP
  have hD : va_D A [(h11, .inl (aC 0, 14, .inl (fun _ => 0))), (h52, .inl (aC 0, 5, .inl (fun _ => 0))), (h1, .inr (11, [.int 0, x2, x3, x4, x5, x6, x7, x8, x9, x10, .ref h11, x12, x13, x14, x15, x16, x17, x18, x19, x20, x21, x22, x23, x24, x25, x26, x27, x28, x29, x30, x31, x32, x33, x34, x35, x36, x37, x38, x39, x40, x41, x42, x43, x44, x45, x46, x47, x48, x49, x50, x51, .ref h52, x53, x54, x55, x56, x57, x58, x59, x60, x61, x62, x63, x64, x65, x66, x67, x68, x69, x70, x71, x72, x73, x74]))] := hD
  try dsimp only at hw
  subst hw
  refine lv_if_ne (tgt := 53) hx hb dX11_fits_47 (by decide) (fun _ => ?_) (fun c_ => absurd c_ (by decide +kernel))
  refine lv_iinc (v := 1) (lv' := [(2, .int 1), (6, .int 0), (5, .int (-1)), (4, .int 0), (3, .int 0), (0, .ref h1), (1, .int 1)]) hx hb dX11_fits_53 hl (k := 4) rfl (by decide +kernel) (by decide) rfl (fun ls hl => ?_)
  refine lv_iload_n hx hb dX11_fits_56 rfl (lv_at hl 4 rfl) ?_
  refine lv_iload hx hb dX11_fits_57 (lv_at hl 1 rfl) ?_
  refine lv_iand hx hb dX11_fits_59 ?_
  refine relit (v := 0) (by decide +kernel) ?_
  refine lv_istore_n (lv' := [(3, .int 0), (2, .int 1), (6, .int 0), (5, .int (-1)), (4, .int 0), (0, .ref h1), (1, .int 1)]) hx hb dX11_fits_60 rfl hl (by decide) rfl (fun ls hl => ?_)
  refine lv_iload hx hb dX11_fits_61 (lv_at hl 4 rfl) ?_
  refine lv_iload hx hb dX11_fits_63 (lv_at hl 2 rfl) ?_
  refine lv_ior hx hb dX11_fits_65 ?_
  refine relit (v := 0) (by decide +kernel) ?_
  refine lv_istore (lv' := [(4, .int 0), (3, .int 0), (2, .int 1), (6, .int 0), (5, .int (-1)), (0, .ref h1), (1, .int 1)]) hx hb dX11_fits_66 hl (by decide) rfl (fun ls hl => ?_)
  refine lv_iload hx hb dX11_fits_68 (lv_at hl 4 rfl) ?_
  refine lv_if_lt (tgt := 86) hx hb dX11_fits_70 (by decide) (fun _ => ?_) (fun c_ => absurd (by decide +kernel) c_)
  refine lv_iload hx hb dX11_fits_86 (lv_at hl 3 rfl) ?_
  refine lv_istore (lv' := [(5, .int 0), (4, .int 0), (3, .int 0), (2, .int 1), (6, .int 0), (0, .ref h1), (1, .int 1)]) hx hb dX11_fits_88 hl (by decide) rfl (fun ls hl => ?_)
  refine lv_iinc (v := 1) (lv' := [(6, .int 1), (5, .int 0), (4, .int 0), (3, .int 0), (2, .int 1), (0, .ref h1), (1, .int 1)]) hx hb dX11_fits_90 hl (k := 4) rfl (by decide +kernel) (by decide) rfl (fun ls hl => ?_)
  refine lv_goto (tgt := 32) hx hb dX11_fits_93 (by decide) ?_
  refine lv_iload hx hb dX11_fits_32 (lv_at hl 0 rfl) ?_
  refine lv_aload_n hx hb dX11_fits_34 rfl (lv_at hl 5 rfl) ?_
  refine goI (wr := [(h52, .inl (aC 0, 5, .inl (fun _ => 0)))]) (runV (n := 0) (As := []) (rest := [.int 1]) F hP hD hS (a_X11_allFlights_2 l g aC aM h1 h11 (.int 0) x2 x3 x4 x5 x6 x7 x8 x9 x10 x12 x13 x14 x15 x16 x17 x18 x19 x20 x21 x22 x23 x24 x25 x26 x27 x28 x29 x30 x31 x32 x33 x34 x35 x36 x37 x38 x39 x40 x41 x42 x43 x44 x45 x46 x47 x48 x49 x50 x51 (.ref h52) x53 x54 x55 x56 x57 x58 x59 x60 x61 x62 x63 x64 x65 x66 x67 x68 x69 x70 x71 x72 x73 x74) [2, 0] (by decide) rfl 2 11 rfl rfl rfl tb1592 tb1589 tb1591 tv65 tb17 ⟨by decide, by decide, by decide +kernel⟩ ⟨Nat.le_of_ble_eq_true rfl, Nat.le_of_ble_eq_true rfl⟩ rfl hl.1 rfl (Nat.le_of_ble_eq_true rfl) dX11_fits_35 ⟨Nat.le_of_ble_eq_true rfl, Nat.le_of_ble_eq_true rfl⟩) hP hD hS hA [2, 0] [1] rfl rfl (by decide) (by decide) (fun r_18 w19 H locs hw hP hD hS => ?_)
  have hP : va_P g vwCl [(h52, .inl (aC 0, 5, .inl (fun _ => 0))), (h1, .inr (11, [.int 0, x2, x3, x4, x5, x6, x7, x8, x9, x10, .ref h11, x12, x13, x14, x15, x16, x17, x18, x19, x20, x21, x22, x23, x24, x25, x26, x27, x28, x29, x30, x31, x32, x33, x34, x35, x36, x37, x38, x39, x40, x41, x42, x43, x44, x45, x46, x47, x48, x49, x50, x51, .ref h52, x53, x54, x55, x56, x57, x58, x59, x60, x61, x62, x63, x64, x65, x66, x67, x68, x69, x70, x71, x72, x73, x74])), (h11, .inl (aC 0, 14, .inl (fun _ => 0)))] H := hP
  have hD : va_D A [(h52, .inl (aC 0, 5, .inl (fun _ => 0))), (h1, .inr (11, [.int 0, x2, x3, x4, x5, x6, x7, x8, x9, x10, .ref h11, x12, x13, x14, x15, x16, x17, x18, x19, x20, x21, x22, x23, x24, x25, x26, x27, x28, x29, x30, x31, x32, x33, x34, x35, x36, x37, x38, x39, x40, x41, x42, x43, x44, x45, x46, x47, x48, x49, x50, x51, .ref h52, x53, x54, x55, x56, x57, x58, x59, x60, x61, x62, x63, x64, x65, x66, x67, x68, x69, x70, x71, x72, x73, x74])), (h11, .inl (aC 0, 14, .inl (fun _ => 0)))] := hD
  try dsimp only at hw
  subst hw
  refine lv_icmp_gt (tgt := 96) hx hb dX11_fits_38 (by decide) (fun _ => ?_) (fun c_ => absurd (by decide +kernel) c_)
  refine lv_iload_n hx hb dX11_fits_96 rfl (lv_at hl 4 rfl) ?_
  refine lv_if_eq (tgt := 104) hx hb dX11_fits_97 (by decide) (fun c_ => absurd c_ (by decide +kernel)) (fun _ => ?_)
  refine lv_iload_n hx hb dX11_fits_100 rfl (lv_at hl 6 rfl) ?_
  refine lv_if_ne (tgt := 114) hx hb dX11_fits_101 (by decide) (fun _ => ?_) (fun c_ => absurd c_ (by decide +kernel))
  refine lv_iload_n hx hb dX11_fits_114 rfl (lv_at hl 6 rfl) ?_
  refine lv_iconst (v := 1) hx hb dX11_fits_115 (by decide) ?_
  refine lv_icmp_ne (tgt := 123) hx hb dX11_fits_116 (by decide) (fun c_ => absurd (by decide +kernel) c_) (fun _ => ?_)
  refine lv_iload_n hx hb dX11_fits_119 rfl (lv_at hl 3 rfl) ?_
  refine lv_goto (tgt := 135) hx hb dX11_fits_120 (by decide) ?_
  have hP9 := hP.sub (ws' := []) [] rfl
  have hD9 := hD.sub (ws' := []) [] (by decide) rfl
  exact rI () hx hb hr hlk rfl hS rfl hP9 hD9 (Nat.le_of_ble_eq_true rfl) (Nat.le_of_ble_eq_true rfl) dX11_fits_135

set_option maxHeartbeats 4000000 in
set_option maxRecDepth 100000 in
theorem m_fits_2 (l : Launch) (g : va_G) (aC : Nat → ClassId) (aM : Nat → Nat) (h1 h11 h52 : Nat) (x2 x3 x4 x5 x6 x7 x8 x9 x10 x12 x13 x14 x15 x16 x17 x18 x19 x20 x21 x22 x23 x24 x25 x26 x27 x28 x29 x30 x31 x32 x33 x34 x35 x36 x37 x38 x39 x40 x41 x42 x43 x44 x45 x46 x47 x48 x49 x50 x51 x53 x54 x55 x56 x57 x58 x59 x60 x61 x62 x63 x64 x65 x66 x67 x68 x69 x70 x71 x72 x73 x74 : Value) : Ct l g aC aM yX11_fits cX11_fits 7 (some .int) 2 [.ref h1, .int 2] [(h1, .inr (11, [.int 0, x2, x3, x4, x5, x6, x7, x8, x9, x10, .ref h11, x12, x13, x14, x15, x16, x17, x18, x19, x20, x21, x22, x23, x24, x25, x26, x27, x28, x29, x30, x31, x32, x33, x34, x35, x36, x37, x38, x39, x40, x41, x42, x43, x44, x45, x46, x47, x48, x49, x50, x51, .ref h52, x53, x54, x55, x56, x57, x58, x59, x60, x61, x62, x63, x64, x65, x66, x67, x68, x69, x70, x71, x72, x73, x74])), (h11, .inl (aC 0, 14, .inl (fun _ => 0))), (h52, .inl (aC 0, 5, .inl (fun _ => 0)))] (QI g (fun (r : Int32) (_ : Unit) => r = 0) (fun (_ : Unit) => [])) 0 0 := by
  refine Ct.mk (by decide) (Nat.le_of_ble_eq_true rfl) ?_
  intro p e s m below meth c A ls hx hb hml hown hts hr hlk hnm hK hA hM hM2 hP hD hS hl
  have hown : s.vm.findClass RX11 = some m.cls := hown
  have F : Fx p s m _ c cX11_fits 7 RX11 g aC aM A := ⟨hx, hb, hml, hown, hts, hK, hA, hM, hM2⟩
  have hl : lv_has ls 7 [(0, .ref h1), (1, .int 2)] := hl
  refine lv_aload_n hx hb dX11_fits_0 rfl (lv_at hl 0 rfl) ?_
  refine lv_iconst (v := 0) hx hb dX11_fits_1 (by decide) ?_
  refine xput F hP hD hS 0 rfl rfl inX11 tyX11_ok nmX11 0 (by decide) tb1182 rfl rfl rfl (Nat.le_of_ble_eq_true rfl) dX11_fits_2 (fun H locs hP hD hS => ?_)
  have hP : va_P g vwCl [(h1, .inr (11, [.int 0, x2, x3, x4, x5, x6, x7, x8, x9, x10, .ref h11, x12, x13, x14, x15, x16, x17, x18, x19, x20, x21, x22, x23, x24, x25, x26, x27, x28, x29, x30, x31, x32, x33, x34, x35, x36, x37, x38, x39, x40, x41, x42, x43, x44, x45, x46, x47, x48, x49, x50, x51, .ref h52, x53, x54, x55, x56, x57, x58, x59, x60, x61, x62, x63, x64, x65, x66, x67, x68, x69, x70, x71, x72, x73, x74])), (h11, .inl (aC 0, 14, .inl (fun _ => 0))), (h52, .inl (aC 0, 5, .inl (fun _ => 0)))] H := hP
  have hD : va_D A [(h1, .inr (11, [.int 0, x2, x3, x4, x5, x6, x7, x8, x9, x10, .ref h11, x12, x13, x14, x15, x16, x17, x18, x19, x20, x21, x22, x23, x24, x25, x26, x27, x28, x29, x30, x31, x32, x33, x34, x35, x36, x37, x38, x39, x40, x41, x42, x43, x44, x45, x46, x47, x48, x49, x50, x51, .ref h52, x53, x54, x55, x56, x57, x58, x59, x60, x61, x62, x63, x64, x65, x66, x67, x68, x69, x70, x71, x72, x73, x74])), (h11, .inl (aC 0, 14, .inl (fun _ => 0))), (h52, .inl (aC 0, 5, .inl (fun _ => 0)))] := hD
  refine lv_iload_n hx hb dX11_fits_5 rfl (lv_at hl 1 rfl) ?_
  refine lv_iconst (v := 0) hx hb dX11_fits_6 (by decide) ?_
  refine lv_iconst (v := 3) hx hb dX11_fits_7 (by decide) ?_
  refine goI (wr := [(h1, .inr (11, [.int 0, x2, x3, x4, x5, x6, x7, x8, x9, x10, .ref h11, x12, x13, x14, x15, x16, x17, x18, x19, x20, x21, x22, x23, x24, x25, x26, x27, x28, x29, x30, x31, x32, x33, x34, x35, x36, x37, x38, x39, x40, x41, x42, x43, x44, x45, x46, x47, x48, x49, x50, x51, .ref h52, x53, x54, x55, x56, x57, x58, x59, x60, x61, x62, x63, x64, x65, x66, x67, x68, x69, x70, x71, x72, x73, x74])), (h11, .inl (aC 0, 14, .inl (fun _ => 0))), (h52, .inl (aC 0, 5, .inl (fun _ => 0)))]) (runS (n := 3) (As := [.int 2, .int 0, .int 3]) (rest := []) F hP hD hS (a_X11_within_24 l g aC aM ) [] (by decide) rfl tb1511 tb1509 tb1510 tb17 ⟨by decide, by decide, by decide +kernel⟩ ⟨Nat.le_of_ble_eq_true rfl, Nat.le_of_ble_eq_true rfl⟩ rfl hl.1 rfl (Nat.le_of_ble_eq_true rfl) dX11_fits_8 ⟨Nat.le_of_ble_eq_true rfl, Nat.le_of_ble_eq_true rfl⟩) hP hD hS hA [] [0, 1, 2] rfl rfl (by decide) (by decide) (fun r_2 w3 H locs hw hP hD hS => ?_)
  have hP : va_P g vwCl [(h1, .inr (11, [.int 0, x2, x3, x4, x5, x6, x7, x8, x9, x10, .ref h11, x12, x13, x14, x15, x16, x17, x18, x19, x20, x21, x22, x23, x24, x25, x26, x27, x28, x29, x30, x31, x32, x33, x34, x35, x36, x37, x38, x39, x40, x41, x42, x43, x44, x45, x46, x47, x48, x49, x50, x51, .ref h52, x53, x54, x55, x56, x57, x58, x59, x60, x61, x62, x63, x64, x65, x66, x67, x68, x69, x70, x71, x72, x73, x74])), (h11, .inl (aC 0, 14, .inl (fun _ => 0))), (h52, .inl (aC 0, 5, .inl (fun _ => 0)))] H := hP
  have hD : va_D A [(h1, .inr (11, [.int 0, x2, x3, x4, x5, x6, x7, x8, x9, x10, .ref h11, x12, x13, x14, x15, x16, x17, x18, x19, x20, x21, x22, x23, x24, x25, x26, x27, x28, x29, x30, x31, x32, x33, x34, x35, x36, x37, x38, x39, x40, x41, x42, x43, x44, x45, x46, x47, x48, x49, x50, x51, .ref h52, x53, x54, x55, x56, x57, x58, x59, x60, x61, x62, x63, x64, x65, x66, x67, x68, x69, x70, x71, x72, x73, x74])), (h11, .inl (aC 0, 14, .inl (fun _ => 0))), (h52, .inl (aC 0, 5, .inl (fun _ => 0)))] := hD
  try dsimp only at hw
  subst hw
  refine lv_if_ne (tgt := 16) hx hb dX11_fits_11 (by decide) (fun _ => ?_) (fun c_ => absurd c_ (by decide +kernel))
  refine lv_iconst (v := 0) hx hb dX11_fits_16 (by decide) ?_
  refine lv_istore_n (lv' := [(2, .int 0), (0, .ref h1), (1, .int 2)]) hx hb dX11_fits_17 rfl hl (by decide) rfl (fun ls hl => ?_)
  refine lv_aload_n hx hb dX11_fits_18 rfl (lv_at hl 1 rfl) ?_
  refine goI (wr := [(h52, .inl (aC 0, 5, .inl (fun _ => 0)))]) (runV (n := 0) (As := []) (rest := []) F hP hD hS (a_X11_allFlights_2 l g aC aM h1 h11 (.int 0) x2 x3 x4 x5 x6 x7 x8 x9 x10 x12 x13 x14 x15 x16 x17 x18 x19 x20 x21 x22 x23 x24 x25 x26 x27 x28 x29 x30 x31 x32 x33 x34 x35 x36 x37 x38 x39 x40 x41 x42 x43 x44 x45 x46 x47 x48 x49 x50 x51 (.ref h52) x53 x54 x55 x56 x57 x58 x59 x60 x61 x62 x63 x64 x65 x66 x67 x68 x69 x70 x71 x72 x73 x74) [0, 1] (by decide) rfl 0 11 rfl rfl rfl tb1592 tb1589 tb1591 tv65 tb17 ⟨by decide, by decide, by decide +kernel⟩ ⟨Nat.le_of_ble_eq_true rfl, Nat.le_of_ble_eq_true rfl⟩ rfl hl.1 rfl (Nat.le_of_ble_eq_true rfl) dX11_fits_19 ⟨Nat.le_of_ble_eq_true rfl, Nat.le_of_ble_eq_true rfl⟩) hP hD hS hA [0, 1] [2] rfl rfl (by decide) (by decide) (fun r_6 w7 H locs hw hP hD hS => ?_)
  have hP : va_P g vwCl [(h52, .inl (aC 0, 5, .inl (fun _ => 0))), (h1, .inr (11, [.int 0, x2, x3, x4, x5, x6, x7, x8, x9, x10, .ref h11, x12, x13, x14, x15, x16, x17, x18, x19, x20, x21, x22, x23, x24, x25, x26, x27, x28, x29, x30, x31, x32, x33, x34, x35, x36, x37, x38, x39, x40, x41, x42, x43, x44, x45, x46, x47, x48, x49, x50, x51, .ref h52, x53, x54, x55, x56, x57, x58, x59, x60, x61, x62, x63, x64, x65, x66, x67, x68, x69, x70, x71, x72, x73, x74])), (h11, .inl (aC 0, 14, .inl (fun _ => 0)))] H := hP
  have hD : va_D A [(h52, .inl (aC 0, 5, .inl (fun _ => 0))), (h1, .inr (11, [.int 0, x2, x3, x4, x5, x6, x7, x8, x9, x10, .ref h11, x12, x13, x14, x15, x16, x17, x18, x19, x20, x21, x22, x23, x24, x25, x26, x27, x28, x29, x30, x31, x32, x33, x34, x35, x36, x37, x38, x39, x40, x41, x42, x43, x44, x45, x46, x47, x48, x49, x50, x51, .ref h52, x53, x54, x55, x56, x57, x58, x59, x60, x61, x62, x63, x64, x65, x66, x67, x68, x69, x70, x71, x72, x73, x74])), (h11, .inl (aC 0, 14, .inl (fun _ => 0)))] := hD
  try dsimp only at hw
  subst hw
  refine lv_istore_n (lv' := [(3, .int 0), (2, .int 0), (0, .ref h1), (1, .int 2)]) hx hb dX11_fits_22 rfl hl (by decide) rfl (fun ls hl => ?_)
  refine lv_iconst (v := 0) hx hb dX11_fits_23 (by decide) ?_
  refine lv_istore (lv' := [(4, .int 0), (3, .int 0), (2, .int 0), (0, .ref h1), (1, .int 2)]) hx hb dX11_fits_24 hl (by decide) rfl (fun ls hl => ?_)
  refine lv_iconst (v := (-1)) hx hb dX11_fits_26 (by decide) ?_
  refine lv_istore (lv' := [(5, .int (-1)), (4, .int 0), (3, .int 0), (2, .int 0), (0, .ref h1), (1, .int 2)]) hx hb dX11_fits_27 hl (by decide) rfl (fun ls hl => ?_)
  refine lv_iconst (v := 0) hx hb dX11_fits_29 (by decide) ?_
  refine lv_istore (lv' := [(6, .int 0), (5, .int (-1)), (4, .int 0), (3, .int 0), (2, .int 0), (0, .ref h1), (1, .int 2)]) hx hb dX11_fits_30 hl (by decide) rfl (fun ls hl => ?_)
  refine lv_iload hx hb dX11_fits_32 (lv_at hl 0 rfl) ?_
  refine lv_aload_n hx hb dX11_fits_34 rfl (lv_at hl 5 rfl) ?_
  refine goI (wr := [(h52, .inl (aC 0, 5, .inl (fun _ => 0)))]) (runV (n := 0) (As := []) (rest := [.int 0]) F hP hD hS (a_X11_allFlights_2 l g aC aM h1 h11 (.int 0) x2 x3 x4 x5 x6 x7 x8 x9 x10 x12 x13 x14 x15 x16 x17 x18 x19 x20 x21 x22 x23 x24 x25 x26 x27 x28 x29 x30 x31 x32 x33 x34 x35 x36 x37 x38 x39 x40 x41 x42 x43 x44 x45 x46 x47 x48 x49 x50 x51 (.ref h52) x53 x54 x55 x56 x57 x58 x59 x60 x61 x62 x63 x64 x65 x66 x67 x68 x69 x70 x71 x72 x73 x74) [1, 2] (by decide) rfl 1 11 rfl rfl rfl tb1592 tb1589 tb1591 tv65 tb17 ⟨by decide, by decide, by decide +kernel⟩ ⟨Nat.le_of_ble_eq_true rfl, Nat.le_of_ble_eq_true rfl⟩ rfl hl.1 rfl (Nat.le_of_ble_eq_true rfl) dX11_fits_35 ⟨Nat.le_of_ble_eq_true rfl, Nat.le_of_ble_eq_true rfl⟩) hP hD hS hA [1, 2] [0] rfl rfl (by decide) (by decide) (fun r_9 w10 H locs hw hP hD hS => ?_)
  have hP : va_P g vwCl [(h52, .inl (aC 0, 5, .inl (fun _ => 0))), (h1, .inr (11, [.int 0, x2, x3, x4, x5, x6, x7, x8, x9, x10, .ref h11, x12, x13, x14, x15, x16, x17, x18, x19, x20, x21, x22, x23, x24, x25, x26, x27, x28, x29, x30, x31, x32, x33, x34, x35, x36, x37, x38, x39, x40, x41, x42, x43, x44, x45, x46, x47, x48, x49, x50, x51, .ref h52, x53, x54, x55, x56, x57, x58, x59, x60, x61, x62, x63, x64, x65, x66, x67, x68, x69, x70, x71, x72, x73, x74])), (h11, .inl (aC 0, 14, .inl (fun _ => 0)))] H := hP
  have hD : va_D A [(h52, .inl (aC 0, 5, .inl (fun _ => 0))), (h1, .inr (11, [.int 0, x2, x3, x4, x5, x6, x7, x8, x9, x10, .ref h11, x12, x13, x14, x15, x16, x17, x18, x19, x20, x21, x22, x23, x24, x25, x26, x27, x28, x29, x30, x31, x32, x33, x34, x35, x36, x37, x38, x39, x40, x41, x42, x43, x44, x45, x46, x47, x48, x49, x50, x51, .ref h52, x53, x54, x55, x56, x57, x58, x59, x60, x61, x62, x63, x64, x65, x66, x67, x68, x69, x70, x71, x72, x73, x74])), (h11, .inl (aC 0, 14, .inl (fun _ => 0)))] := hD
  try dsimp only at hw
  subst hw
  refine lv_icmp_gt (tgt := 96) hx hb dX11_fits_38 (by decide) (fun c_ => absurd c_ (by decide +kernel)) (fun _ => ?_)
  refine lv_aload_n hx hb dX11_fits_41 rfl (lv_at hl 5 rfl) ?_
  refine lv_iload hx hb dX11_fits_42 (lv_at hl 0 rfl) ?_
  refine goI (wr := [(h11, .inl (aC 0, 14, .inl (fun _ => 0)))]) (runV (n := 1) (As := [.int 0]) (rest := []) F hP hD hS (a_X11_isAsSeen_1 l g aC aM h1 h52 (.int 0) x2 x3 x4 x5 x6 x7 x8 x9 x10 (.ref h11) x12 x13 x14 x15 x16 x17 x18 x19 x20 x21 x22 x23 x24 x25 x26 x27 x28 x29 x30 x31 x32 x33 x34 x35 x36 x37 x38 x39 x40 x41 x42 x43 x44 x45 x46 x47 x48 x49 x50 x51 x53 x54 x55 x56 x57 x58 x59 x60 x61 x62 x63 x64 x65 x66 x67 x68 x69 x70 x71 x72 x73 x74) [0, 1] (by decide) rfl 1 11 rfl rfl rfl tb1810 tb1807 tb1809 tv98 tb17 ⟨by decide, by decide, by decide +kernel⟩ ⟨Nat.le_of_ble_eq_true rfl, Nat.le_of_ble_eq_true rfl⟩ rfl hl.1 rfl (Nat.le_of_ble_eq_true rfl) dX11_fits_44 ⟨Nat.le_of_ble_eq_true rfl, Nat.le_of_ble_eq_true rfl⟩) hP hD hS hA [0, 1] [2] rfl rfl (by decide) (by decide) (fun r_13 w14 H locs hw hP hD hS => ?_)
  have hP : va_P g vwCl [(h11, .inl (aC 0, 14, .inl (fun _ => 0))), (h52, .inl (aC 0, 5, .inl (fun _ => 0))), (h1, .inr (11, [.int 0, x2, x3, x4, x5, x6, x7, x8, x9, x10, .ref h11, x12, x13, x14, x15, x16, x17, x18, x19, x20, x21, x22, x23, x24, x25, x26, x27, x28, x29, x30, x31, x32, x33, x34, x35, x36, x37, x38, x39, x40, x41, x42, x43, x44, x45, x46, x47, x48, x49, x50, x51, .ref h52, x53, x54, x55, x56, x57, x58, x59, x60, x61, x62, x63, x64, x65, x66, x67, x68, x69, x70, x71, x72, x73, x74]))] H := hP
  have hD : va_D A [(h11, .inl (aC 0, 14, .inl (fun _ => 0))), (h52, .inl (aC 0, 5, .inl (fun _ => 0))), (h1, .inr (11, [.int 0, x2, x3, x4, x5, x6, x7, x8, x9, x10, .ref h11, x12, x13, x14, x15, x16, x17, x18, x19, x20, x21, x22, x23, x24, x25, x26, x27, x28, x29, x30, x31, x32, x33, x34, x35, x36, x37, x38, x39, x40, x41, x42, x43, x44, x45, x46, x47, x48, x49, x50, x51, .ref h52, x53, x54, x55, x56, x57, x58, x59, x60, x61, x62, x63, x64, x65, x66, x67, x68, x69, x70, x71, x72, x73, x74]))] := hD
  try dsimp only at hw
  subst hw
  refine lv_if_ne (tgt := 53) hx hb dX11_fits_47 (by decide) (fun _ => ?_) (fun c_ => absurd c_ (by decide +kernel))
  refine lv_iinc (v := 1) (lv' := [(2, .int 1), (6, .int 0), (5, .int (-1)), (4, .int 0), (3, .int 0), (0, .ref h1), (1, .int 2)]) hx hb dX11_fits_53 hl (k := 4) rfl (by decide +kernel) (by decide) rfl (fun ls hl => ?_)
  refine lv_iload_n hx hb dX11_fits_56 rfl (lv_at hl 4 rfl) ?_
  refine lv_iload hx hb dX11_fits_57 (lv_at hl 1 rfl) ?_
  refine lv_iand hx hb dX11_fits_59 ?_
  refine relit (v := 0) (by decide +kernel) ?_
  refine lv_istore_n (lv' := [(3, .int 0), (2, .int 1), (6, .int 0), (5, .int (-1)), (4, .int 0), (0, .ref h1), (1, .int 2)]) hx hb dX11_fits_60 rfl hl (by decide) rfl (fun ls hl => ?_)
  refine lv_iload hx hb dX11_fits_61 (lv_at hl 4 rfl) ?_
  refine lv_iload hx hb dX11_fits_63 (lv_at hl 2 rfl) ?_
  refine lv_ior hx hb dX11_fits_65 ?_
  refine relit (v := 0) (by decide +kernel) ?_
  refine lv_istore (lv' := [(4, .int 0), (3, .int 0), (2, .int 1), (6, .int 0), (5, .int (-1)), (0, .ref h1), (1, .int 2)]) hx hb dX11_fits_66 hl (by decide) rfl (fun ls hl => ?_)
  refine lv_iload hx hb dX11_fits_68 (lv_at hl 4 rfl) ?_
  refine lv_if_lt (tgt := 86) hx hb dX11_fits_70 (by decide) (fun _ => ?_) (fun c_ => absurd (by decide +kernel) c_)
  refine lv_iload hx hb dX11_fits_86 (lv_at hl 3 rfl) ?_
  refine lv_istore (lv' := [(5, .int 0), (4, .int 0), (3, .int 0), (2, .int 1), (6, .int 0), (0, .ref h1), (1, .int 2)]) hx hb dX11_fits_88 hl (by decide) rfl (fun ls hl => ?_)
  refine lv_iinc (v := 1) (lv' := [(6, .int 1), (5, .int 0), (4, .int 0), (3, .int 0), (2, .int 1), (0, .ref h1), (1, .int 2)]) hx hb dX11_fits_90 hl (k := 4) rfl (by decide +kernel) (by decide) rfl (fun ls hl => ?_)
  refine lv_goto (tgt := 32) hx hb dX11_fits_93 (by decide) ?_
  refine lv_iload hx hb dX11_fits_32 (lv_at hl 0 rfl) ?_
  refine lv_aload_n hx hb dX11_fits_34 rfl (lv_at hl 5 rfl) ?_
  refine goI (wr := [(h52, .inl (aC 0, 5, .inl (fun _ => 0)))]) (runV (n := 0) (As := []) (rest := [.int 1]) F hP hD hS (a_X11_allFlights_2 l g aC aM h1 h11 (.int 0) x2 x3 x4 x5 x6 x7 x8 x9 x10 x12 x13 x14 x15 x16 x17 x18 x19 x20 x21 x22 x23 x24 x25 x26 x27 x28 x29 x30 x31 x32 x33 x34 x35 x36 x37 x38 x39 x40 x41 x42 x43 x44 x45 x46 x47 x48 x49 x50 x51 (.ref h52) x53 x54 x55 x56 x57 x58 x59 x60 x61 x62 x63 x64 x65 x66 x67 x68 x69 x70 x71 x72 x73 x74) [2, 0] (by decide) rfl 2 11 rfl rfl rfl tb1592 tb1589 tb1591 tv65 tb17 ⟨by decide, by decide, by decide +kernel⟩ ⟨Nat.le_of_ble_eq_true rfl, Nat.le_of_ble_eq_true rfl⟩ rfl hl.1 rfl (Nat.le_of_ble_eq_true rfl) dX11_fits_35 ⟨Nat.le_of_ble_eq_true rfl, Nat.le_of_ble_eq_true rfl⟩) hP hD hS hA [2, 0] [1] rfl rfl (by decide) (by decide) (fun r_18 w19 H locs hw hP hD hS => ?_)
  have hP : va_P g vwCl [(h52, .inl (aC 0, 5, .inl (fun _ => 0))), (h1, .inr (11, [.int 0, x2, x3, x4, x5, x6, x7, x8, x9, x10, .ref h11, x12, x13, x14, x15, x16, x17, x18, x19, x20, x21, x22, x23, x24, x25, x26, x27, x28, x29, x30, x31, x32, x33, x34, x35, x36, x37, x38, x39, x40, x41, x42, x43, x44, x45, x46, x47, x48, x49, x50, x51, .ref h52, x53, x54, x55, x56, x57, x58, x59, x60, x61, x62, x63, x64, x65, x66, x67, x68, x69, x70, x71, x72, x73, x74])), (h11, .inl (aC 0, 14, .inl (fun _ => 0)))] H := hP
  have hD : va_D A [(h52, .inl (aC 0, 5, .inl (fun _ => 0))), (h1, .inr (11, [.int 0, x2, x3, x4, x5, x6, x7, x8, x9, x10, .ref h11, x12, x13, x14, x15, x16, x17, x18, x19, x20, x21, x22, x23, x24, x25, x26, x27, x28, x29, x30, x31, x32, x33, x34, x35, x36, x37, x38, x39, x40, x41, x42, x43, x44, x45, x46, x47, x48, x49, x50, x51, .ref h52, x53, x54, x55, x56, x57, x58, x59, x60, x61, x62, x63, x64, x65, x66, x67, x68, x69, x70, x71, x72, x73, x74])), (h11, .inl (aC 0, 14, .inl (fun _ => 0)))] := hD
  try dsimp only at hw
  subst hw
  refine lv_icmp_gt (tgt := 96) hx hb dX11_fits_38 (by decide) (fun _ => ?_) (fun c_ => absurd (by decide +kernel) c_)
  refine lv_iload_n hx hb dX11_fits_96 rfl (lv_at hl 4 rfl) ?_
  refine lv_if_eq (tgt := 104) hx hb dX11_fits_97 (by decide) (fun c_ => absurd c_ (by decide +kernel)) (fun _ => ?_)
  refine lv_iload_n hx hb dX11_fits_100 rfl (lv_at hl 6 rfl) ?_
  refine lv_if_ne (tgt := 114) hx hb dX11_fits_101 (by decide) (fun _ => ?_) (fun c_ => absurd c_ (by decide +kernel))
  refine lv_iload_n hx hb dX11_fits_114 rfl (lv_at hl 6 rfl) ?_
  refine lv_iconst (v := 1) hx hb dX11_fits_115 (by decide) ?_
  refine lv_icmp_ne (tgt := 123) hx hb dX11_fits_116 (by decide) (fun _ => ?_) (fun c_ => absurd c_ (by decide +kernel))
  refine lv_iload_n hx hb dX11_fits_123 rfl (lv_at hl 6 rfl) ?_
  refine lv_iconst (v := 2) hx hb dX11_fits_124 (by decide) ?_
  refine lv_icmp_ne (tgt := 133) hx hb dX11_fits_125 (by decide) (fun c_ => absurd (by decide +kernel) c_) (fun _ => ?_)
  refine lv_iload hx hb dX11_fits_128 (lv_at hl 2 rfl) ?_
  refine lv_goto (tgt := 135) hx hb dX11_fits_130 (by decide) ?_
  have hP9 := hP.sub (ws' := []) [] rfl
  have hD9 := hD.sub (ws' := []) [] (by decide) rfl
  exact rI () hx hb hr hlk rfl hS rfl hP9 hD9 (Nat.le_of_ble_eq_true rfl) (Nat.le_of_ble_eq_true rfl) dX11_fits_135

set_option maxHeartbeats 4000000 in
set_option maxRecDepth 100000 in
theorem m_fits_3 (l : Launch) (g : va_G) (aC : Nat → ClassId) (aM : Nat → Nat) (h1 h11 h52 : Nat) (x2 x3 x4 x5 x6 x7 x8 x9 x10 x12 x13 x14 x15 x16 x17 x18 x19 x20 x21 x22 x23 x24 x25 x26 x27 x28 x29 x30 x31 x32 x33 x34 x35 x36 x37 x38 x39 x40 x41 x42 x43 x44 x45 x46 x47 x48 x49 x50 x51 x53 x54 x55 x56 x57 x58 x59 x60 x61 x62 x63 x64 x65 x66 x67 x68 x69 x70 x71 x72 x73 x74 : Value) : Ct l g aC aM yX11_fits cX11_fits 7 (some .int) 2 [.ref h1, .int 3] [(h1, .inr (11, [.int 0, x2, x3, x4, x5, x6, x7, x8, x9, x10, .ref h11, x12, x13, x14, x15, x16, x17, x18, x19, x20, x21, x22, x23, x24, x25, x26, x27, x28, x29, x30, x31, x32, x33, x34, x35, x36, x37, x38, x39, x40, x41, x42, x43, x44, x45, x46, x47, x48, x49, x50, x51, .ref h52, x53, x54, x55, x56, x57, x58, x59, x60, x61, x62, x63, x64, x65, x66, x67, x68, x69, x70, x71, x72, x73, x74])), (h11, .inl (aC 0, 14, .inl (fun _ => 0))), (h52, .inl (aC 0, 5, .inl (fun _ => 0)))] (QI g (fun (r : Int32) (_ : Unit) => r = 0) (fun (_ : Unit) => [])) 0 0 := by
  refine Ct.mk (by decide) (Nat.le_of_ble_eq_true rfl) ?_
  intro p e s m below meth c A ls hx hb hml hown hts hr hlk hnm hK hA hM hM2 hP hD hS hl
  have hown : s.vm.findClass RX11 = some m.cls := hown
  have F : Fx p s m _ c cX11_fits 7 RX11 g aC aM A := ⟨hx, hb, hml, hown, hts, hK, hA, hM, hM2⟩
  have hl : lv_has ls 7 [(0, .ref h1), (1, .int 3)] := hl
  refine lv_aload_n hx hb dX11_fits_0 rfl (lv_at hl 0 rfl) ?_
  refine lv_iconst (v := 0) hx hb dX11_fits_1 (by decide) ?_
  refine xput F hP hD hS 0 rfl rfl inX11 tyX11_ok nmX11 0 (by decide) tb1182 rfl rfl rfl (Nat.le_of_ble_eq_true rfl) dX11_fits_2 (fun H locs hP hD hS => ?_)
  have hP : va_P g vwCl [(h1, .inr (11, [.int 0, x2, x3, x4, x5, x6, x7, x8, x9, x10, .ref h11, x12, x13, x14, x15, x16, x17, x18, x19, x20, x21, x22, x23, x24, x25, x26, x27, x28, x29, x30, x31, x32, x33, x34, x35, x36, x37, x38, x39, x40, x41, x42, x43, x44, x45, x46, x47, x48, x49, x50, x51, .ref h52, x53, x54, x55, x56, x57, x58, x59, x60, x61, x62, x63, x64, x65, x66, x67, x68, x69, x70, x71, x72, x73, x74])), (h11, .inl (aC 0, 14, .inl (fun _ => 0))), (h52, .inl (aC 0, 5, .inl (fun _ => 0)))] H := hP
  have hD : va_D A [(h1, .inr (11, [.int 0, x2, x3, x4, x5, x6, x7, x8, x9, x10, .ref h11, x12, x13, x14, x15, x16, x17, x18, x19, x20, x21, x22, x23, x24, x25, x26, x27, x28, x29, x30, x31, x32, x33, x34, x35, x36, x37, x38, x39, x40, x41, x42, x43, x44, x45, x46, x47, x48, x49, x50, x51, .ref h52, x53, x54, x55, x56, x57, x58, x59, x60, x61, x62, x63, x64, x65, x66, x67, x68, x69, x70, x71, x72, x73, x74])), (h11, .inl (aC 0, 14, .inl (fun _ => 0))), (h52, .inl (aC 0, 5, .inl (fun _ => 0)))] := hD
  refine lv_iload_n hx hb dX11_fits_5 rfl (lv_at hl 1 rfl) ?_
  refine lv_iconst (v := 0) hx hb dX11_fits_6 (by decide) ?_
  refine lv_iconst (v := 3) hx hb dX11_fits_7 (by decide) ?_
  refine goI (wr := [(h1, .inr (11, [.int 0, x2, x3, x4, x5, x6, x7, x8, x9, x10, .ref h11, x12, x13, x14, x15, x16, x17, x18, x19, x20, x21, x22, x23, x24, x25, x26, x27, x28, x29, x30, x31, x32, x33, x34, x35, x36, x37, x38, x39, x40, x41, x42, x43, x44, x45, x46, x47, x48, x49, x50, x51, .ref h52, x53, x54, x55, x56, x57, x58, x59, x60, x61, x62, x63, x64, x65, x66, x67, x68, x69, x70, x71, x72, x73, x74])), (h11, .inl (aC 0, 14, .inl (fun _ => 0))), (h52, .inl (aC 0, 5, .inl (fun _ => 0)))]) (runS (n := 3) (As := [.int 3, .int 0, .int 3]) (rest := []) F hP hD hS (a_X11_within_25 l g aC aM ) [] (by decide) rfl tb1511 tb1509 tb1510 tb17 ⟨by decide, by decide, by decide +kernel⟩ ⟨Nat.le_of_ble_eq_true rfl, Nat.le_of_ble_eq_true rfl⟩ rfl hl.1 rfl (Nat.le_of_ble_eq_true rfl) dX11_fits_8 ⟨Nat.le_of_ble_eq_true rfl, Nat.le_of_ble_eq_true rfl⟩) hP hD hS hA [] [0, 1, 2] rfl rfl (by decide) (by decide) (fun r_2 w3 H locs hw hP hD hS => ?_)
  have hP : va_P g vwCl [(h1, .inr (11, [.int 0, x2, x3, x4, x5, x6, x7, x8, x9, x10, .ref h11, x12, x13, x14, x15, x16, x17, x18, x19, x20, x21, x22, x23, x24, x25, x26, x27, x28, x29, x30, x31, x32, x33, x34, x35, x36, x37, x38, x39, x40, x41, x42, x43, x44, x45, x46, x47, x48, x49, x50, x51, .ref h52, x53, x54, x55, x56, x57, x58, x59, x60, x61, x62, x63, x64, x65, x66, x67, x68, x69, x70, x71, x72, x73, x74])), (h11, .inl (aC 0, 14, .inl (fun _ => 0))), (h52, .inl (aC 0, 5, .inl (fun _ => 0)))] H := hP
  have hD : va_D A [(h1, .inr (11, [.int 0, x2, x3, x4, x5, x6, x7, x8, x9, x10, .ref h11, x12, x13, x14, x15, x16, x17, x18, x19, x20, x21, x22, x23, x24, x25, x26, x27, x28, x29, x30, x31, x32, x33, x34, x35, x36, x37, x38, x39, x40, x41, x42, x43, x44, x45, x46, x47, x48, x49, x50, x51, .ref h52, x53, x54, x55, x56, x57, x58, x59, x60, x61, x62, x63, x64, x65, x66, x67, x68, x69, x70, x71, x72, x73, x74])), (h11, .inl (aC 0, 14, .inl (fun _ => 0))), (h52, .inl (aC 0, 5, .inl (fun _ => 0)))] := hD
  try dsimp only at hw
  subst hw
  refine lv_if_ne (tgt := 16) hx hb dX11_fits_11 (by decide) (fun _ => ?_) (fun c_ => absurd c_ (by decide +kernel))
  refine lv_iconst (v := 0) hx hb dX11_fits_16 (by decide) ?_
  refine lv_istore_n (lv' := [(2, .int 0), (0, .ref h1), (1, .int 3)]) hx hb dX11_fits_17 rfl hl (by decide) rfl (fun ls hl => ?_)
  refine lv_aload_n hx hb dX11_fits_18 rfl (lv_at hl 1 rfl) ?_
  refine goI (wr := [(h52, .inl (aC 0, 5, .inl (fun _ => 0)))]) (runV (n := 0) (As := []) (rest := []) F hP hD hS (a_X11_allFlights_2 l g aC aM h1 h11 (.int 0) x2 x3 x4 x5 x6 x7 x8 x9 x10 x12 x13 x14 x15 x16 x17 x18 x19 x20 x21 x22 x23 x24 x25 x26 x27 x28 x29 x30 x31 x32 x33 x34 x35 x36 x37 x38 x39 x40 x41 x42 x43 x44 x45 x46 x47 x48 x49 x50 x51 (.ref h52) x53 x54 x55 x56 x57 x58 x59 x60 x61 x62 x63 x64 x65 x66 x67 x68 x69 x70 x71 x72 x73 x74) [0, 1] (by decide) rfl 0 11 rfl rfl rfl tb1592 tb1589 tb1591 tv65 tb17 ⟨by decide, by decide, by decide +kernel⟩ ⟨Nat.le_of_ble_eq_true rfl, Nat.le_of_ble_eq_true rfl⟩ rfl hl.1 rfl (Nat.le_of_ble_eq_true rfl) dX11_fits_19 ⟨Nat.le_of_ble_eq_true rfl, Nat.le_of_ble_eq_true rfl⟩) hP hD hS hA [0, 1] [2] rfl rfl (by decide) (by decide) (fun r_6 w7 H locs hw hP hD hS => ?_)
  have hP : va_P g vwCl [(h52, .inl (aC 0, 5, .inl (fun _ => 0))), (h1, .inr (11, [.int 0, x2, x3, x4, x5, x6, x7, x8, x9, x10, .ref h11, x12, x13, x14, x15, x16, x17, x18, x19, x20, x21, x22, x23, x24, x25, x26, x27, x28, x29, x30, x31, x32, x33, x34, x35, x36, x37, x38, x39, x40, x41, x42, x43, x44, x45, x46, x47, x48, x49, x50, x51, .ref h52, x53, x54, x55, x56, x57, x58, x59, x60, x61, x62, x63, x64, x65, x66, x67, x68, x69, x70, x71, x72, x73, x74])), (h11, .inl (aC 0, 14, .inl (fun _ => 0)))] H := hP
  have hD : va_D A [(h52, .inl (aC 0, 5, .inl (fun _ => 0))), (h1, .inr (11, [.int 0, x2, x3, x4, x5, x6, x7, x8, x9, x10, .ref h11, x12, x13, x14, x15, x16, x17, x18, x19, x20, x21, x22, x23, x24, x25, x26, x27, x28, x29, x30, x31, x32, x33, x34, x35, x36, x37, x38, x39, x40, x41, x42, x43, x44, x45, x46, x47, x48, x49, x50, x51, .ref h52, x53, x54, x55, x56, x57, x58, x59, x60, x61, x62, x63, x64, x65, x66, x67, x68, x69, x70, x71, x72, x73, x74])), (h11, .inl (aC 0, 14, .inl (fun _ => 0)))] := hD
  try dsimp only at hw
  subst hw
  refine lv_istore_n (lv' := [(3, .int 0), (2, .int 0), (0, .ref h1), (1, .int 3)]) hx hb dX11_fits_22 rfl hl (by decide) rfl (fun ls hl => ?_)
  refine lv_iconst (v := 0) hx hb dX11_fits_23 (by decide) ?_
  refine lv_istore (lv' := [(4, .int 0), (3, .int 0), (2, .int 0), (0, .ref h1), (1, .int 3)]) hx hb dX11_fits_24 hl (by decide) rfl (fun ls hl => ?_)
  refine lv_iconst (v := (-1)) hx hb dX11_fits_26 (by decide) ?_
  refine lv_istore (lv' := [(5, .int (-1)), (4, .int 0), (3, .int 0), (2, .int 0), (0, .ref h1), (1, .int 3)]) hx hb dX11_fits_27 hl (by decide) rfl (fun ls hl => ?_)
  refine lv_iconst (v := 0) hx hb dX11_fits_29 (by decide) ?_
  refine lv_istore (lv' := [(6, .int 0), (5, .int (-1)), (4, .int 0), (3, .int 0), (2, .int 0), (0, .ref h1), (1, .int 3)]) hx hb dX11_fits_30 hl (by decide) rfl (fun ls hl => ?_)
  refine lv_iload hx hb dX11_fits_32 (lv_at hl 0 rfl) ?_
  refine lv_aload_n hx hb dX11_fits_34 rfl (lv_at hl 5 rfl) ?_
  refine goI (wr := [(h52, .inl (aC 0, 5, .inl (fun _ => 0)))]) (runV (n := 0) (As := []) (rest := [.int 0]) F hP hD hS (a_X11_allFlights_2 l g aC aM h1 h11 (.int 0) x2 x3 x4 x5 x6 x7 x8 x9 x10 x12 x13 x14 x15 x16 x17 x18 x19 x20 x21 x22 x23 x24 x25 x26 x27 x28 x29 x30 x31 x32 x33 x34 x35 x36 x37 x38 x39 x40 x41 x42 x43 x44 x45 x46 x47 x48 x49 x50 x51 (.ref h52) x53 x54 x55 x56 x57 x58 x59 x60 x61 x62 x63 x64 x65 x66 x67 x68 x69 x70 x71 x72 x73 x74) [1, 2] (by decide) rfl 1 11 rfl rfl rfl tb1592 tb1589 tb1591 tv65 tb17 ⟨by decide, by decide, by decide +kernel⟩ ⟨Nat.le_of_ble_eq_true rfl, Nat.le_of_ble_eq_true rfl⟩ rfl hl.1 rfl (Nat.le_of_ble_eq_true rfl) dX11_fits_35 ⟨Nat.le_of_ble_eq_true rfl, Nat.le_of_ble_eq_true rfl⟩) hP hD hS hA [1, 2] [0] rfl rfl (by decide) (by decide) (fun r_9 w10 H locs hw hP hD hS => ?_)
  have hP : va_P g vwCl [(h52, .inl (aC 0, 5, .inl (fun _ => 0))), (h1, .inr (11, [.int 0, x2, x3, x4, x5, x6, x7, x8, x9, x10, .ref h11, x12, x13, x14, x15, x16, x17, x18, x19, x20, x21, x22, x23, x24, x25, x26, x27, x28, x29, x30, x31, x32, x33, x34, x35, x36, x37, x38, x39, x40, x41, x42, x43, x44, x45, x46, x47, x48, x49, x50, x51, .ref h52, x53, x54, x55, x56, x57, x58, x59, x60, x61, x62, x63, x64, x65, x66, x67, x68, x69, x70, x71, x72, x73, x74])), (h11, .inl (aC 0, 14, .inl (fun _ => 0)))] H := hP
  have hD : va_D A [(h52, .inl (aC 0, 5, .inl (fun _ => 0))), (h1, .inr (11, [.int 0, x2, x3, x4, x5, x6, x7, x8, x9, x10, .ref h11, x12, x13, x14, x15, x16, x17, x18, x19, x20, x21, x22, x23, x24, x25, x26, x27, x28, x29, x30, x31, x32, x33, x34, x35, x36, x37, x38, x39, x40, x41, x42, x43, x44, x45, x46, x47, x48, x49, x50, x51, .ref h52, x53, x54, x55, x56, x57, x58, x59, x60, x61, x62, x63, x64, x65, x66, x67, x68, x69, x70, x71, x72, x73, x74])), (h11, .inl (aC 0, 14, .inl (fun _ => 0)))] := hD
  try dsimp only at hw
  subst hw
  refine lv_icmp_gt (tgt := 96) hx hb dX11_fits_38 (by decide) (fun c_ => absurd c_ (by decide +kernel)) (fun _ => ?_)
  refine lv_aload_n hx hb dX11_fits_41 rfl (lv_at hl 5 rfl) ?_
  refine lv_iload hx hb dX11_fits_42 (lv_at hl 0 rfl) ?_
  refine goI (wr := [(h11, .inl (aC 0, 14, .inl (fun _ => 0)))]) (runV (n := 1) (As := [.int 0]) (rest := []) F hP hD hS (a_X11_isAsSeen_1 l g aC aM h1 h52 (.int 0) x2 x3 x4 x5 x6 x7 x8 x9 x10 (.ref h11) x12 x13 x14 x15 x16 x17 x18 x19 x20 x21 x22 x23 x24 x25 x26 x27 x28 x29 x30 x31 x32 x33 x34 x35 x36 x37 x38 x39 x40 x41 x42 x43 x44 x45 x46 x47 x48 x49 x50 x51 x53 x54 x55 x56 x57 x58 x59 x60 x61 x62 x63 x64 x65 x66 x67 x68 x69 x70 x71 x72 x73 x74) [0, 1] (by decide) rfl 1 11 rfl rfl rfl tb1810 tb1807 tb1809 tv98 tb17 ⟨by decide, by decide, by decide +kernel⟩ ⟨Nat.le_of_ble_eq_true rfl, Nat.le_of_ble_eq_true rfl⟩ rfl hl.1 rfl (Nat.le_of_ble_eq_true rfl) dX11_fits_44 ⟨Nat.le_of_ble_eq_true rfl, Nat.le_of_ble_eq_true rfl⟩) hP hD hS hA [0, 1] [2] rfl rfl (by decide) (by decide) (fun r_13 w14 H locs hw hP hD hS => ?_)
  have hP : va_P g vwCl [(h11, .inl (aC 0, 14, .inl (fun _ => 0))), (h52, .inl (aC 0, 5, .inl (fun _ => 0))), (h1, .inr (11, [.int 0, x2, x3, x4, x5, x6, x7, x8, x9, x10, .ref h11, x12, x13, x14, x15, x16, x17, x18, x19, x20, x21, x22, x23, x24, x25, x26, x27, x28, x29, x30, x31, x32, x33, x34, x35, x36, x37, x38, x39, x40, x41, x42, x43, x44, x45, x46, x47, x48, x49, x50, x51, .ref h52, x53, x54, x55, x56, x57, x58, x59, x60, x61, x62, x63, x64, x65, x66, x67, x68, x69, x70, x71, x72, x73, x74]))] H := hP
  have hD : va_D A [(h11, .inl (aC 0, 14, .inl (fun _ => 0))), (h52, .inl (aC 0, 5, .inl (fun _ => 0))), (h1, .inr (11, [.int 0, x2, x3, x4, x5, x6, x7, x8, x9, x10, .ref h11, x12, x13, x14, x15, x16, x17, x18, x19, x20, x21, x22, x23, x24, x25, x26, x27, x28, x29, x30, x31, x32, x33, x34, x35, x36, x37, x38, x39, x40, x41, x42, x43, x44, x45, x46, x47, x48, x49, x50, x51, .ref h52, x53, x54, x55, x56, x57, x58, x59, x60, x61, x62, x63, x64, x65, x66, x67, x68, x69, x70, x71, x72, x73, x74]))] := hD
  try dsimp only at hw
  subst hw
  refine lv_if_ne (tgt := 53) hx hb dX11_fits_47 (by decide) (fun _ => ?_) (fun c_ => absurd c_ (by decide +kernel))
  refine lv_iinc (v := 1) (lv' := [(2, .int 1), (6, .int 0), (5, .int (-1)), (4, .int 0), (3, .int 0), (0, .ref h1), (1, .int 3)]) hx hb dX11_fits_53 hl (k := 4) rfl (by decide +kernel) (by decide) rfl (fun ls hl => ?_)
  refine lv_iload_n hx hb dX11_fits_56 rfl (lv_at hl 4 rfl) ?_
  refine lv_iload hx hb dX11_fits_57 (lv_at hl 1 rfl) ?_
  refine lv_iand hx hb dX11_fits_59 ?_
  refine relit (v := 0) (by decide +kernel) ?_
  refine lv_istore_n (lv' := [(3, .int 0), (2, .int 1), (6, .int 0), (5, .int (-1)), (4, .int 0), (0, .ref h1), (1, .int 3)]) hx hb dX11_fits_60 rfl hl (by decide) rfl (fun ls hl => ?_)
  refine lv_iload hx hb dX11_fits_61 (lv_at hl 4 rfl) ?_
  refine lv_iload hx hb dX11_fits_63 (lv_at hl 2 rfl) ?_
  refine lv_ior hx hb dX11_fits_65 ?_
  refine relit (v := 0) (by decide +kernel) ?_
  refine lv_istore (lv' := [(4, .int 0), (3, .int 0), (2, .int 1), (6, .int 0), (5, .int (-1)), (0, .ref h1), (1, .int 3)]) hx hb dX11_fits_66 hl (by decide) rfl (fun ls hl => ?_)
  refine lv_iload hx hb dX11_fits_68 (lv_at hl 4 rfl) ?_
  refine lv_if_lt (tgt := 86) hx hb dX11_fits_70 (by decide) (fun _ => ?_) (fun c_ => absurd (by decide +kernel) c_)
  refine lv_iload hx hb dX11_fits_86 (lv_at hl 3 rfl) ?_
  refine lv_istore (lv' := [(5, .int 0), (4, .int 0), (3, .int 0), (2, .int 1), (6, .int 0), (0, .ref h1), (1, .int 3)]) hx hb dX11_fits_88 hl (by decide) rfl (fun ls hl => ?_)
  refine lv_iinc (v := 1) (lv' := [(6, .int 1), (5, .int 0), (4, .int 0), (3, .int 0), (2, .int 1), (0, .ref h1), (1, .int 3)]) hx hb dX11_fits_90 hl (k := 4) rfl (by decide +kernel) (by decide) rfl (fun ls hl => ?_)
  refine lv_goto (tgt := 32) hx hb dX11_fits_93 (by decide) ?_
  refine lv_iload hx hb dX11_fits_32 (lv_at hl 0 rfl) ?_
  refine lv_aload_n hx hb dX11_fits_34 rfl (lv_at hl 5 rfl) ?_
  refine goI (wr := [(h52, .inl (aC 0, 5, .inl (fun _ => 0)))]) (runV (n := 0) (As := []) (rest := [.int 1]) F hP hD hS (a_X11_allFlights_2 l g aC aM h1 h11 (.int 0) x2 x3 x4 x5 x6 x7 x8 x9 x10 x12 x13 x14 x15 x16 x17 x18 x19 x20 x21 x22 x23 x24 x25 x26 x27 x28 x29 x30 x31 x32 x33 x34 x35 x36 x37 x38 x39 x40 x41 x42 x43 x44 x45 x46 x47 x48 x49 x50 x51 (.ref h52) x53 x54 x55 x56 x57 x58 x59 x60 x61 x62 x63 x64 x65 x66 x67 x68 x69 x70 x71 x72 x73 x74) [2, 0] (by decide) rfl 2 11 rfl rfl rfl tb1592 tb1589 tb1591 tv65 tb17 ⟨by decide, by decide, by decide +kernel⟩ ⟨Nat.le_of_ble_eq_true rfl, Nat.le_of_ble_eq_true rfl⟩ rfl hl.1 rfl (Nat.le_of_ble_eq_true rfl) dX11_fits_35 ⟨Nat.le_of_ble_eq_true rfl, Nat.le_of_ble_eq_true rfl⟩) hP hD hS hA [2, 0] [1] rfl rfl (by decide) (by decide) (fun r_18 w19 H locs hw hP hD hS => ?_)
  have hP : va_P g vwCl [(h52, .inl (aC 0, 5, .inl (fun _ => 0))), (h1, .inr (11, [.int 0, x2, x3, x4, x5, x6, x7, x8, x9, x10, .ref h11, x12, x13, x14, x15, x16, x17, x18, x19, x20, x21, x22, x23, x24, x25, x26, x27, x28, x29, x30, x31, x32, x33, x34, x35, x36, x37, x38, x39, x40, x41, x42, x43, x44, x45, x46, x47, x48, x49, x50, x51, .ref h52, x53, x54, x55, x56, x57, x58, x59, x60, x61, x62, x63, x64, x65, x66, x67, x68, x69, x70, x71, x72, x73, x74])), (h11, .inl (aC 0, 14, .inl (fun _ => 0)))] H := hP
  have hD : va_D A [(h52, .inl (aC 0, 5, .inl (fun _ => 0))), (h1, .inr (11, [.int 0, x2, x3, x4, x5, x6, x7, x8, x9, x10, .ref h11, x12, x13, x14, x15, x16, x17, x18, x19, x20, x21, x22, x23, x24, x25, x26, x27, x28, x29, x30, x31, x32, x33, x34, x35, x36, x37, x38, x39, x40, x41, x42, x43, x44, x45, x46, x47, x48, x49, x50, x51, .ref h52, x53, x54, x55, x56, x57, x58, x59, x60, x61, x62, x63, x64, x65, x66, x67, x68, x69, x70, x71, x72, x73, x74])), (h11, .inl (aC 0, 14, .inl (fun _ => 0)))] := hD
  try dsimp only at hw
  subst hw
  refine lv_icmp_gt (tgt := 96) hx hb dX11_fits_38 (by decide) (fun _ => ?_) (fun c_ => absurd (by decide +kernel) c_)
  refine lv_iload_n hx hb dX11_fits_96 rfl (lv_at hl 4 rfl) ?_
  refine lv_if_eq (tgt := 104) hx hb dX11_fits_97 (by decide) (fun c_ => absurd c_ (by decide +kernel)) (fun _ => ?_)
  refine lv_iload_n hx hb dX11_fits_100 rfl (lv_at hl 6 rfl) ?_
  refine lv_if_ne (tgt := 114) hx hb dX11_fits_101 (by decide) (fun _ => ?_) (fun c_ => absurd c_ (by decide +kernel))
  refine lv_iload_n hx hb dX11_fits_114 rfl (lv_at hl 6 rfl) ?_
  refine lv_iconst (v := 1) hx hb dX11_fits_115 (by decide) ?_
  refine lv_icmp_ne (tgt := 123) hx hb dX11_fits_116 (by decide) (fun _ => ?_) (fun c_ => absurd c_ (by decide +kernel))
  refine lv_iload_n hx hb dX11_fits_123 rfl (lv_at hl 6 rfl) ?_
  refine lv_iconst (v := 2) hx hb dX11_fits_124 (by decide) ?_
  refine lv_icmp_ne (tgt := 133) hx hb dX11_fits_125 (by decide) (fun _ => ?_) (fun c_ => absurd c_ (by decide +kernel))
  refine lv_iload hx hb dX11_fits_133 (lv_at hl 1 rfl) ?_
  have hP9 := hP.sub (ws' := []) [] rfl
  have hD9 := hD.sub (ws' := []) [] (by decide) rfl
  exact rI () hx hb hr hlk rfl hS rfl hP9 hD9 (Nat.le_of_ble_eq_true rfl) (Nat.le_of_ble_eq_true rfl) dX11_fits_135
