theorem dX11_plan_0 : decode cX11_plan 0 = .ok (.aload_n 0, 1) := by decide +kernel
theorem dX11_plan_1 : decode cX11_plan 1 = .ok (.iconst 0, 1) := by decide +kernel
theorem dX11_plan_2 : decode cX11_plan 2 = .ok (.putfield 180, 3) := by decide +kernel
theorem dX11_plan_5 : decode cX11_plan 5 = .ok (.iload_n 1, 1) := by decide +kernel
theorem dX11_plan_6 : decode cX11_plan 6 = .ok (.iconst 0, 1) := by decide +kernel
theorem dX11_plan_7 : decode cX11_plan 7 = .ok (.iconst 1, 1) := by decide +kernel
theorem dX11_plan_8 : decode cX11_plan 8 = .ok (.invokestatic 313, 3) := by decide +kernel
theorem dX11_plan_11 : decode cX11_plan 11 = .ok (.ifCond .ne 5, 3) := by decide +kernel
theorem dX11_plan_14 : decode cX11_plan 14 = .ok (.iconst (-1), 1) := by decide +kernel
theorem dX11_plan_15 : decode cX11_plan 15 = .ok (.ireturn, 1) := by decide +kernel
set_option maxHeartbeats 4000000 in
set_option maxRecDepth 100000 in
theorem a_X11_within_20 (l : Launch) (g : va_G) (aC : Nat → ClassId) (aM : Nat → Nat)  : Ct l g aC aM yX11_within cX11_within 3 (some .boolean) 1 [.int 0, .int 0, .int 1] [] (QI g (fun (r : Int32) (_ : Unit) => r = 1) (fun (_ : Unit) => [])) 0 0 := by
  refine Ct.mk (by decide) (Nat.le_of_ble_eq_true rfl) ?_
  intro p e s m below meth c A ls hx hb hml hown hts hr hlk hnm hK hA hM hM2 hP hD hS hl
  have hown : s.vm.findClass RX11 = some m.cls := hown
  have F : Fx p s m _ c cX11_within 3 RX11 g aC aM A := ⟨hx, hb, hml, hown, hts, hK, hA, hM, hM2⟩
  have hl : lv_has ls 3 [(0, .int 0), (1, .int 0), (2, .int 1)] := hl
  refine lv_iload_n hx hb dX11_within_0 rfl (lv_at hl 0 rfl) ?_
  refine lv_iload_n hx hb dX11_within_1 rfl (lv_at hl 1 rfl) ?_
  refine lv_icmp_lt (tgt := 14) hx hb dX11_within_2 (by decide) (fun c_ => absurd c_ (by decide +kernel)) (fun _ => ?_)
  refine lv_iload_n hx hb dX11_within_5 rfl (lv_at hl 0 rfl) ?_
  refine lv_iload_n hx hb dX11_within_6 rfl (lv_at hl 2 rfl) ?_
  refine lv_icmp_gt (tgt := 14) hx hb dX11_within_7 (by decide) (fun c_ => absurd c_ (by decide +kernel)) (fun _ => ?_)
  refine lv_iconst (v := 1) hx hb dX11_within_10 (by decide) ?_
  refine lv_goto (tgt := 15) hx hb dX11_within_11 (by decide) ?_
  have hP9 := hP.sub (ws' := []) [] rfl
  have hD9 := hD.sub (ws' := []) [] (by decide) rfl
  exact rI () hx hb hr hlk rfl hS rfl hP9 hD9 (Nat.le_of_ble_eq_true rfl) (Nat.le_of_ble_eq_true rfl) dX11_within_15

theorem dX11_plan_16 : decode cX11_plan 16 = .ok (.iconst (-1), 1) := by decide +kernel
theorem dX11_plan_17 : decode cX11_plan 17 = .ok (.istore_n 2, 1) := by decide +kernel
theorem dX11_plan_18 : decode cX11_plan 18 = .ok (.iconst 0, 1) := by decide +kernel
theorem dX11_plan_19 : decode cX11_plan 19 = .ok (.istore_n 3, 1) := by decide +kernel
theorem dX11_plan_20 : decode cX11_plan 20 = .ok (.iload_n 3, 1) := by decide +kernel
theorem dX11_plan_21 : decode cX11_plan 21 = .ok (.aload_n 0, 1) := by decide +kernel
theorem dX11_plan_22 : decode cX11_plan 22 = .ok (.invokevirtual 404, 3) := by decide +kernel
theorem dX11_plan_25 : decode cX11_plan 25 = .ok (.if_icmp .gt 73, 3) := by decide +kernel
theorem dX11_plan_28 : decode cX11_plan 28 = .ok (.aload_n 0, 1) := by decide +kernel
theorem dX11_plan_29 : decode cX11_plan 29 = .ok (.iload_n 3, 1) := by decide +kernel
theorem dX11_plan_30 : decode cX11_plan 30 = .ok (.invokevirtual 511, 3) := by decide +kernel
theorem dX11_riseOf_0 : decode cX11_riseOf 0 = .ok (.iconst 0, 1) := by decide +kernel
theorem dX11_riseOf_1 : decode cX11_riseOf 1 = .ok (.istore_n 2, 1) := by decide +kernel
theorem dX11_riseOf_2 : decode cX11_riseOf 2 = .ok (.iconst 0, 1) := by decide +kernel
theorem dX11_riseOf_3 : decode cX11_riseOf 3 = .ok (.istore_n 3, 1) := by decide +kernel
theorem dX11_riseOf_4 : decode cX11_riseOf 4 = .ok (.iload_n 3, 1) := by decide +kernel
theorem dX11_riseOf_5 : decode cX11_riseOf 5 = .ok (.aload_n 0, 1) := by decide +kernel
theorem dX11_riseOf_6 : decode cX11_riseOf 6 = .ok (.getfield 13, 3) := by decide +kernel
theorem dX11_riseOf_9 : decode cX11_riseOf 9 = .ok (.iconst 1, 1) := by decide +kernel
theorem dX11_riseOf_10 : decode cX11_riseOf 10 = .ok (.iaload, 1) := by decide +kernel
theorem dX11_riseOf_11 : decode cX11_riseOf 11 = .ok (.if_icmp .ge 31, 3) := by decide +kernel
theorem dX11_riseOf_42 : decode cX11_riseOf 42 = .ok (.iload_n 2, 1) := by decide +kernel
theorem dX11_riseOf_43 : decode cX11_riseOf 43 = .ok (.ireturn, 1) := by decide +kernel
set_option maxHeartbeats 4000000 in
set_option maxRecDepth 100000 in
theorem a_X11_riseOf_1 (l : Launch) (g : va_G) (aC : Nat → ClassId) (aM : Nat → Nat) (h1 h12 : Nat) (x2 x3 x4 x5 x6 x7 x8 x9 x10 x11 x13 x14 x15 x16 x17 x18 x19 x20 x21 x22 x23 x24 x25 x26 x27 x28 x29 x30 x31 x32 x33 x34 x35 x36 x37 x38 x39 x40 x41 x42 x43 x44 x45 x46 x47 x48 x49 x50 x51 x52 x53 x54 x55 x56 x57 x58 x59 x60 x61 x62 x63 x64 x65 x66 x67 x68 x69 x70 x71 x72 x73 x74 x75 : Value) : Ct l g aC aM yX11_riseOf cX11_riseOf 4 (some .int) 1 [.ref h1, .int 0] [(h1, .inr (11, [x2, x3, x4, x5, x6, x7, x8, x9, x10, x11, .ref h12, x13, x14, x15, x16, x17, x18, x19, x20, x21, x22, x23, x24, x25, x26, x27, x28, x29, x30, x31, x32, x33, x34, x35, x36, x37, x38, x39, x40, x41, x42, x43, x44, x45, x46, x47, x48, x49, x50, x51, x52, x53, x54, x55, x56, x57, x58, x59, x60, x61, x62, x63, x64, x65, x66, x67, x68, x69, x70, x71, x72, x73, x74, x75])), (h12, .inl (aC 0, 14, .inl (fun _ => 0)))] (QI g (fun (r : Int32) (_ : Unit) => r = 0) (fun (_ : Unit) => [(h1, .inr (11, [x2, x3, x4, x5, x6, x7, x8, x9, x10, x11, .ref h12, x13, x14, x15, x16, x17, x18, x19, x20, x21, x22, x23, x24, x25, x26, x27, x28, x29, x30, x31, x32, x33, x34, x35, x36, x37, x38, x39, x40, x41, x42, x43, x44, x45, x46, x47, x48, x49, x50, x51, x52, x53, x54, x55, x56, x57, x58, x59, x60, x61, x62, x63, x64, x65, x66, x67, x68, x69, x70, x71, x72, x73, x74, x75])), (h12, .inl (aC 0, 14, .inl (fun _ => 0)))])) 0 0 := by
  refine Ct.mk (by decide) (Nat.le_of_ble_eq_true rfl) ?_
  intro p e s m below meth c A ls hx hb hml hown hts hr hlk hnm hK hA hM hM2 hP hD hS hl
  have hown : s.vm.findClass RX11 = some m.cls := hown
  have F : Fx p s m _ c cX11_riseOf 4 RX11 g aC aM A := ⟨hx, hb, hml, hown, hts, hK, hA, hM, hM2⟩
  have hl : lv_has ls 4 [(0, .ref h1), (1, .int 0)] := hl
  refine lv_iconst (v := 0) hx hb dX11_riseOf_0 (by decide) ?_
  refine lv_istore_n (lv' := [(2, .int 0), (0, .ref h1), (1, .int 0)]) hx hb dX11_riseOf_1 rfl hl (by decide) rfl (fun ls hl => ?_)
  refine lv_iconst (v := 0) hx hb dX11_riseOf_2 (by decide) ?_
  refine lv_istore_n (lv' := [(3, .int 0), (2, .int 0), (0, .ref h1), (1, .int 0)]) hx hb dX11_riseOf_3 rfl hl (by decide) rfl (fun ls hl => ?_)
  refine lv_iload_n hx hb dX11_riseOf_4 rfl (lv_at hl 0 rfl) ?_
  refine lv_aload_n hx hb dX11_riseOf_5 rfl (lv_at hl 2 rfl) ?_
  refine xget F hP 0 rfl rfl inX11 10 (by decide) tb1192 rfl dX11_riseOf_6 ?_
  refine lv_iconst (v := 1) hx hb dX11_riseOf_9 (by decide) ?_
  refine xilo (v := 0) F hP 1 rfl 1 (by decide +kernel) (by decide +kernel) (by decide) (by decide +kernel) dX11_riseOf_10 ?_
  refine lv_icmp_ge (tgt := 42) hx hb dX11_riseOf_11 (by decide) (fun _ => ?_) (fun c_ => absurd (by decide +kernel) c_)
  refine lv_iload_n hx hb dX11_riseOf_42 rfl (lv_at hl 1 rfl) ?_
  have hP9 := hP.sub (ws' := [(h1, .inr (11, [x2, x3, x4, x5, x6, x7, x8, x9, x10, x11, .ref h12, x13, x14, x15, x16, x17, x18, x19, x20, x21, x22, x23, x24, x25, x26, x27, x28, x29, x30, x31, x32, x33, x34, x35, x36, x37, x38, x39, x40, x41, x42, x43, x44, x45, x46, x47, x48, x49, x50, x51, x52, x53, x54, x55, x56, x57, x58, x59, x60, x61, x62, x63, x64, x65, x66, x67, x68, x69, x70, x71, x72, x73, x74, x75])), (h12, .inl (aC 0, 14, .inl (fun _ => 0)))]) [0, 1] rfl
  have hD9 := hD.sub (ws' := [(h1, .inr (11, [x2, x3, x4, x5, x6, x7, x8, x9, x10, x11, .ref h12, x13, x14, x15, x16, x17, x18, x19, x20, x21, x22, x23, x24, x25, x26, x27, x28, x29, x30, x31, x32, x33, x34, x35, x36, x37, x38, x39, x40, x41, x42, x43, x44, x45, x46, x47, x48, x49, x50, x51, x52, x53, x54, x55, x56, x57, x58, x59, x60, x61, x62, x63, x64, x65, x66, x67, x68, x69, x70, x71, x72, x73, x74, x75])), (h12, .inl (aC 0, 14, .inl (fun _ => 0)))]) [0, 1] (by decide) rfl
  exact rI () hx hb hr hlk rfl hS rfl hP9 hD9 (Nat.le_of_ble_eq_true rfl) (Nat.le_of_ble_eq_true rfl) dX11_riseOf_43

theorem tb1787 : (Jvm.Cond.methodLink "StairGangModel" (511 : Nat) ({ cls := "StairGangModel", name := "riseOf", desc := "(I)I" } : Jvm.MethodName)) ∈ gw := lw_m 1787 (by decide +kernel)
theorem tb1789 : (Jvm.Cond.instanceMethod ({ cls := "StairGangModel", name := "riseOf", desc := "(I)I" } : Jvm.MethodName)) ∈ gw := lw_m 1789 (by decide +kernel)
theorem tb1790 : (Jvm.Cond.code ({ cls := "StairGangModel", name := "riseOf", desc := "(I)I" } : Jvm.MethodName) prog_13_method_93_code (4 : Nat) (Option.some Jvm.ClassFile.FieldType.int)) ∈ gw := lw_m 1790 (by decide +kernel)
theorem tv96 : Cond.selects "StairGangModel" ⟨"StairGangModel", "riseOf", "(I)I"⟩ ⟨"StairGangModel", "riseOf", "(I)I"⟩ ∈ gw := lw_v 96 (by decide +kernel)
theorem dX11_plan_33 : decode cX11_plan 33 = .ok (.istore 4, 2) := by decide +kernel
theorem dX11_plan_35 : decode cX11_plan 35 = .ok (.iload_n 3, 1) := by decide +kernel
theorem dX11_plan_36 : decode cX11_plan 36 = .ok (.aload_n 0, 1) := by decide +kernel
theorem dX11_plan_37 : decode cX11_plan 37 = .ok (.getfield 141, 3) := by decide +kernel
theorem dX11_plan_40 : decode cX11_plan 40 = .ok (.iconst 0, 1) := by decide +kernel
theorem dX11_plan_41 : decode cX11_plan 41 = .ok (.iaload, 1) := by decide +kernel
theorem dX11_plan_42 : decode cX11_plan 42 = .ok (.iand, 1) := by decide +kernel
theorem dX11_plan_43 : decode cX11_plan 43 = .ok (.ifCond .ne 49, 3) := by decide +kernel
theorem dX11_plan_46 : decode cX11_plan 46 = .ok (.iload 4, 2) := by decide +kernel
theorem dX11_plan_48 : decode cX11_plan 48 = .ok (.aload_n 0, 1) := by decide +kernel
theorem dX11_plan_49 : decode cX11_plan 49 = .ok (.getfield 141, 3) := by decide +kernel
theorem dX11_plan_52 : decode cX11_plan 52 = .ok (.bipush 10, 2) := by decide +kernel
theorem dX11_plan_54 : decode cX11_plan 54 = .ok (.iaload, 1) := by decide +kernel
theorem dX11_plan_55 : decode cX11_plan 55 = .ok (.if_icmp .gt 37, 3) := by decide +kernel
theorem dX11_plan_58 : decode cX11_plan 58 = .ok (.iload_n 2, 1) := by decide +kernel
theorem dX11_plan_59 : decode cX11_plan 59 = .ok (.ifCond .lt 16, 3) := by decide +kernel
theorem dX11_plan_75 : decode cX11_plan 75 = .ok (.aload_n 0, 1) := by decide +kernel
theorem dX11_plan_76 : decode cX11_plan 76 = .ok (.aload_n 0, 1) := by decide +kernel
theorem dX11_plan_77 : decode cX11_plan 77 = .ok (.getfield 141, 3) := by decide +kernel
theorem dX11_plan_80 : decode cX11_plan 80 = .ok (.iconst 0, 1) := by decide +kernel
theorem dX11_plan_81 : decode cX11_plan 81 = .ok (.iaload, 1) := by decide +kernel
theorem dX11_plan_82 : decode cX11_plan 82 = .ok (.iload_n 3, 1) := by decide +kernel
theorem dX11_plan_83 : decode cX11_plan 83 = .ok (.ior, 1) := by decide +kernel
theorem dX11_plan_84 : decode cX11_plan 84 = .ok (.invokevirtual 461, 3) := by decide +kernel
theorem dX11_plan_87 : decode cX11_plan 87 = .ok (.ifCond .ne 5, 3) := by decide +kernel
theorem dX11_plan_90 : decode cX11_plan 90 = .ok (.iload_n 3, 1) := by decide +kernel
theorem dX11_plan_91 : decode cX11_plan 91 = .ok (.istore_n 2, 1) := by decide +kernel
theorem dX11_plan_92 : decode cX11_plan 92 = .ok (.iinc 3 1, 3) := by decide +kernel
theorem dX11_plan_95 : decode cX11_plan 95 = .ok (.goto (-75), 3) := by decide +kernel
theorem dX11_plan_98 : decode cX11_plan 98 = .ok (.iload_n 2, 1) := by decide +kernel
theorem dX11_plan_99 : decode cX11_plan 99 = .ok (.ifCond .lt 8, 3) := by decide +kernel
theorem dX11_plan_102 : decode cX11_plan 102 = .ok (.iload_n 1, 1) := by decide +kernel
theorem dX11_plan_103 : decode cX11_plan 103 = .ok (.iconst 1, 1) := by decide +kernel
theorem dX11_plan_104 : decode cX11_plan 104 = .ok (.if_icmp .ne 7, 3) := by decide +kernel
theorem dX11_plan_111 : decode cX11_plan 111 = .ok (.aload_n 0, 1) := by decide +kernel
theorem dX11_plan_112 : decode cX11_plan 112 = .ok (.iload_n 2, 1) := by decide +kernel
theorem dX11_plan_113 : decode cX11_plan 113 = .ok (.invokevirtual 511, 3) := by decide +kernel
theorem dX11_plan_116 : decode cX11_plan 116 = .ok (.ireturn, 1) := by decide +kernel
set_option maxHeartbeats 4000000 in
set_option maxRecDepth 100000 in
theorem a_X11_within_21 (l : Launch) (g : va_G) (aC : Nat → ClassId) (aM : Nat → Nat)  : Ct l g aC aM yX11_within cX11_within 3 (some .boolean) 1 [.int 1, .int 0, .int 1] [] (QI g (fun (r : Int32) (_ : Unit) => r = 1) (fun (_ : Unit) => [])) 0 0 := by
  refine Ct.mk (by decide) (Nat.le_of_ble_eq_true rfl) ?_
  intro p e s m below meth c A ls hx hb hml hown hts hr hlk hnm hK hA hM hM2 hP hD hS hl
  have hown : s.vm.findClass RX11 = some m.cls := hown
  have F : Fx p s m _ c cX11_within 3 RX11 g aC aM A := ⟨hx, hb, hml, hown, hts, hK, hA, hM, hM2⟩
  have hl : lv_has ls 3 [(0, .int 1), (1, .int 0), (2, .int 1)] := hl
  refine lv_iload_n hx hb dX11_within_0 rfl (lv_at hl 0 rfl) ?_
  refine lv_iload_n hx hb dX11_within_1 rfl (lv_at hl 1 rfl) ?_
  refine lv_icmp_lt (tgt := 14) hx hb dX11_within_2 (by decide) (fun c_ => absurd c_ (by decide +kernel)) (fun _ => ?_)
  refine lv_iload_n hx hb dX11_within_5 rfl (lv_at hl 0 rfl) ?_
  refine lv_iload_n hx hb dX11_within_6 rfl (lv_at hl 2 rfl) ?_
  refine lv_icmp_gt (tgt := 14) hx hb dX11_within_7 (by decide) (fun c_ => absurd c_ (by decide +kernel)) (fun _ => ?_)
  refine lv_iconst (v := 1) hx hb dX11_within_10 (by decide) ?_
  refine lv_goto (tgt := 15) hx hb dX11_within_11 (by decide) ?_
  have hP9 := hP.sub (ws' := []) [] rfl
  have hD9 := hD.sub (ws' := []) [] (by decide) rfl
  exact rI () hx hb hr hlk rfl hS rfl hP9 hD9 (Nat.le_of_ble_eq_true rfl) (Nat.le_of_ble_eq_true rfl) dX11_within_15

theorem dX11_plan_107 : decode cX11_plan 107 = .ok (.iload_n 2, 1) := by decide +kernel
theorem dX11_plan_108 : decode cX11_plan 108 = .ok (.goto 8, 3) := by decide +kernel
set_option maxHeartbeats 4000000 in
set_option maxRecDepth 100000 in
theorem m_plan_lo (l : Launch) (g : va_G) (aC : Nat → ClassId) (aM : Nat → Nat) (h1 h11 h56 : Nat) (x2 x3 x4 x5 x6 x7 x8 x9 x10 x12 x13 x14 x15 x16 x17 x18 x19 x20 x21 x22 x23 x24 x25 x26 x27 x28 x29 x30 x31 x32 x33 x34 x35 x36 x37 x38 x39 x40 x41 x42 x43 x44 x45 x46 x47 x48 x49 x50 x51 x52 x53 x54 x55 x57 x58 x59 x60 x61 x62 x63 x64 x65 x66 x67 x68 x69 x70 x71 x72 x73 x74 : Value) (n_1 : Int32) (hh1 : n_1 ≤ (-1)) : Ct l g aC aM yX11_plan cX11_plan 5 (some .int) 2 [.ref h1, .int n_1] [(h1, .inr (11, [.int 0, x2, x3, x4, x5, x6, x7, x8, x9, x10, .ref h11, x12, x13, x14, x15, x16, x17, x18, x19, x20, x21, x22, x23, x24, x25, x26, x27, x28, x29, x30, x31, x32, x33, x34, x35, x36, x37, x38, x39, x40, x41, x42, x43, x44, x45, x46, x47, x48, x49, x50, x51, x52, x53, x54, x55, .ref h56, x57, x58, x59, x60, x61, x62, x63, x64, x65, x66, x67, x68, x69, x70, x71, x72, x73, x74])), (h11, .inl (aC 0, 14, .inl (fun _ => 0))), (h56, .inl (aC 0, 13, .inl (fun _ => 0)))] (QI g (fun (r : Int32) (_ : Unit) => r = (-1)) (fun (_ : Unit) => [])) 0 0 := by
  refine Ct.mk (by decide) (Nat.le_of_ble_eq_true rfl) ?_
  intro p e s m below meth c A ls hx hb hml hown hts hr hlk hnm hK hA hM hM2 hP hD hS hl
  have hown : s.vm.findClass RX11 = some m.cls := hown
  have F : Fx p s m _ c cX11_plan 5 RX11 g aC aM A := ⟨hx, hb, hml, hown, hts, hK, hA, hM, hM2⟩
  have hl : lv_has ls 5 [(0, .ref h1), (1, .int n_1)] := hl
  refine lv_aload_n hx hb dX11_plan_0 rfl (lv_at hl 0 rfl) ?_
  refine lv_iconst (v := 0) hx hb dX11_plan_1 (by decide) ?_
  refine xput F hP hD hS 0 rfl rfl inX11 tyX11_ok nmX11 0 (by decide) tb1182 rfl rfl rfl (Nat.le_of_ble_eq_true rfl) dX11_plan_2 (fun H locs hP hD hS => ?_)
  have hP : va_P g vwCl [(h1, .inr (11, [.int 0, x2, x3, x4, x5, x6, x7, x8, x9, x10, .ref h11, x12, x13, x14, x15, x16, x17, x18, x19, x20, x21, x22, x23, x24, x25, x26, x27, x28, x29, x30, x31, x32, x33, x34, x35, x36, x37, x38, x39, x40, x41, x42, x43, x44, x45, x46, x47, x48, x49, x50, x51, x52, x53, x54, x55, .ref h56, x57, x58, x59, x60, x61, x62, x63, x64, x65, x66, x67, x68, x69, x70, x71, x72, x73, x74])), (h11, .inl (aC 0, 14, .inl (fun _ => 0))), (h56, .inl (aC 0, 13, .inl (fun _ => 0)))] H := hP
  have hD : va_D A [(h1, .inr (11, [.int 0, x2, x3, x4, x5, x6, x7, x8, x9, x10, .ref h11, x12, x13, x14, x15, x16, x17, x18, x19, x20, x21, x22, x23, x24, x25, x26, x27, x28, x29, x30, x31, x32, x33, x34, x35, x36, x37, x38, x39, x40, x41, x42, x43, x44, x45, x46, x47, x48, x49, x50, x51, x52, x53, x54, x55, .ref h56, x57, x58, x59, x60, x61, x62, x63, x64, x65, x66, x67, x68, x69, x70, x71, x72, x73, x74])), (h11, .inl (aC 0, 14, .inl (fun _ => 0))), (h56, .inl (aC 0, 13, .inl (fun _ => 0)))] := hD
  refine lv_iload_n hx hb dX11_plan_5 rfl (lv_at hl 1 rfl) ?_
  refine lv_iconst (v := 0) hx hb dX11_plan_6 (by decide) ?_
  refine lv_iconst (v := 1) hx hb dX11_plan_7 (by decide) ?_
  refine goI (wr := [(h1, .inr (11, [.int 0, x2, x3, x4, x5, x6, x7, x8, x9, x10, .ref h11, x12, x13, x14, x15, x16, x17, x18, x19, x20, x21, x22, x23, x24, x25, x26, x27, x28, x29, x30, x31, x32, x33, x34, x35, x36, x37, x38, x39, x40, x41, x42, x43, x44, x45, x46, x47, x48, x49, x50, x51, x52, x53, x54, x55, .ref h56, x57, x58, x59, x60, x61, x62, x63, x64, x65, x66, x67, x68, x69, x70, x71, x72, x73, x74])), (h11, .inl (aC 0, 14, .inl (fun _ => 0))), (h56, .inl (aC 0, 13, .inl (fun _ => 0)))]) (runS (n := 3) (As := [.int n_1, .int 0, .int 1]) (rest := []) F hP hD hS (k_within_lo l g aC aM n_1 0 1 (by have a0_ := hh1; simp only [Int32.lt_iff_toInt_lt, Int32.le_iff_toInt_le, ← Int32.toInt_inj, show (-1 : Int32).toInt = -1 by decide, show (0 : Int32).toInt = 0 by decide, show (1 : Int32).toInt = 1 by decide] at a0_ ⊢; omega)) [] (by decide) rfl tb1511 tb1509 tb1510 tb17 ⟨by decide, by decide, by decide +kernel⟩ ⟨Nat.le_of_ble_eq_true rfl, Nat.le_of_ble_eq_true rfl⟩ rfl hl.1 rfl (Nat.le_of_ble_eq_true rfl) dX11_plan_8 ⟨Nat.le_of_ble_eq_true rfl, Nat.le_of_ble_eq_true rfl⟩) hP hD hS hA [] [0, 1, 2] rfl rfl (by decide) (by decide) (fun r_2 w3 H locs hw hP hD hS => ?_)
  have hP : va_P g vwCl [(h1, .inr (11, [.int 0, x2, x3, x4, x5, x6, x7, x8, x9, x10, .ref h11, x12, x13, x14, x15, x16, x17, x18, x19, x20, x21, x22, x23, x24, x25, x26, x27, x28, x29, x30, x31, x32, x33, x34, x35, x36, x37, x38, x39, x40, x41, x42, x43, x44, x45, x46, x47, x48, x49, x50, x51, x52, x53, x54, x55, .ref h56, x57, x58, x59, x60, x61, x62, x63, x64, x65, x66, x67, x68, x69, x70, x71, x72, x73, x74])), (h11, .inl (aC 0, 14, .inl (fun _ => 0))), (h56, .inl (aC 0, 13, .inl (fun _ => 0)))] H := hP
  have hD : va_D A [(h1, .inr (11, [.int 0, x2, x3, x4, x5, x6, x7, x8, x9, x10, .ref h11, x12, x13, x14, x15, x16, x17, x18, x19, x20, x21, x22, x23, x24, x25, x26, x27, x28, x29, x30, x31, x32, x33, x34, x35, x36, x37, x38, x39, x40, x41, x42, x43, x44, x45, x46, x47, x48, x49, x50, x51, x52, x53, x54, x55, .ref h56, x57, x58, x59, x60, x61, x62, x63, x64, x65, x66, x67, x68, x69, x70, x71, x72, x73, x74])), (h11, .inl (aC 0, 14, .inl (fun _ => 0))), (h56, .inl (aC 0, 13, .inl (fun _ => 0)))] := hD
  try dsimp only at hw
  subst hw
  refine lv_if_ne (tgt := 16) hx hb dX11_plan_11 (by decide) (fun c_ => absurd (by decide +kernel) c_) (fun _ => ?_)
  refine lv_iconst (v := (-1)) hx hb dX11_plan_14 (by decide) ?_
  have hP9 := hP.sub (ws' := []) [] rfl
  have hD9 := hD.sub (ws' := []) [] (by decide) rfl
  exact rI () hx hb hr hlk rfl hS rfl hP9 hD9 (Nat.le_of_ble_eq_true rfl) (Nat.le_of_ble_eq_true rfl) dX11_plan_15

set_option maxHeartbeats 4000000 in
set_option maxRecDepth 100000 in
theorem m_plan_hi (l : Launch) (g : va_G) (aC : Nat → ClassId) (aM : Nat → Nat) (h1 h11 h56 : Nat) (x2 x3 x4 x5 x6 x7 x8 x9 x10 x12 x13 x14 x15 x16 x17 x18 x19 x20 x21 x22 x23 x24 x25 x26 x27 x28 x29 x30 x31 x32 x33 x34 x35 x36 x37 x38 x39 x40 x41 x42 x43 x44 x45 x46 x47 x48 x49 x50 x51 x52 x53 x54 x55 x57 x58 x59 x60 x61 x62 x63 x64 x65 x66 x67 x68 x69 x70 x71 x72 x73 x74 : Value) (n_1 : Int32) (hl1 : 2 ≤ n_1) : Ct l g aC aM yX11_plan cX11_plan 5 (some .int) 2 [.ref h1, .int n_1] [(h1, .inr (11, [.int 0, x2, x3, x4, x5, x6, x7, x8, x9, x10, .ref h11, x12, x13, x14, x15, x16, x17, x18, x19, x20, x21, x22, x23, x24, x25, x26, x27, x28, x29, x30, x31, x32, x33, x34, x35, x36, x37, x38, x39, x40, x41, x42, x43, x44, x45, x46, x47, x48, x49, x50, x51, x52, x53, x54, x55, .ref h56, x57, x58, x59, x60, x61, x62, x63, x64, x65, x66, x67, x68, x69, x70, x71, x72, x73, x74])), (h11, .inl (aC 0, 14, .inl (fun _ => 0))), (h56, .inl (aC 0, 13, .inl (fun _ => 0)))] (QI g (fun (r : Int32) (_ : Unit) => r = (-1)) (fun (_ : Unit) => [])) 0 0 := by
  refine Ct.mk (by decide) (Nat.le_of_ble_eq_true rfl) ?_
  intro p e s m below meth c A ls hx hb hml hown hts hr hlk hnm hK hA hM hM2 hP hD hS hl
  have hown : s.vm.findClass RX11 = some m.cls := hown
  have F : Fx p s m _ c cX11_plan 5 RX11 g aC aM A := ⟨hx, hb, hml, hown, hts, hK, hA, hM, hM2⟩
  have hl : lv_has ls 5 [(0, .ref h1), (1, .int n_1)] := hl
  refine lv_aload_n hx hb dX11_plan_0 rfl (lv_at hl 0 rfl) ?_
  refine lv_iconst (v := 0) hx hb dX11_plan_1 (by decide) ?_
  refine xput F hP hD hS 0 rfl rfl inX11 tyX11_ok nmX11 0 (by decide) tb1182 rfl rfl rfl (Nat.le_of_ble_eq_true rfl) dX11_plan_2 (fun H locs hP hD hS => ?_)
  have hP : va_P g vwCl [(h1, .inr (11, [.int 0, x2, x3, x4, x5, x6, x7, x8, x9, x10, .ref h11, x12, x13, x14, x15, x16, x17, x18, x19, x20, x21, x22, x23, x24, x25, x26, x27, x28, x29, x30, x31, x32, x33, x34, x35, x36, x37, x38, x39, x40, x41, x42, x43, x44, x45, x46, x47, x48, x49, x50, x51, x52, x53, x54, x55, .ref h56, x57, x58, x59, x60, x61, x62, x63, x64, x65, x66, x67, x68, x69, x70, x71, x72, x73, x74])), (h11, .inl (aC 0, 14, .inl (fun _ => 0))), (h56, .inl (aC 0, 13, .inl (fun _ => 0)))] H := hP
  have hD : va_D A [(h1, .inr (11, [.int 0, x2, x3, x4, x5, x6, x7, x8, x9, x10, .ref h11, x12, x13, x14, x15, x16, x17, x18, x19, x20, x21, x22, x23, x24, x25, x26, x27, x28, x29, x30, x31, x32, x33, x34, x35, x36, x37, x38, x39, x40, x41, x42, x43, x44, x45, x46, x47, x48, x49, x50, x51, x52, x53, x54, x55, .ref h56, x57, x58, x59, x60, x61, x62, x63, x64, x65, x66, x67, x68, x69, x70, x71, x72, x73, x74])), (h11, .inl (aC 0, 14, .inl (fun _ => 0))), (h56, .inl (aC 0, 13, .inl (fun _ => 0)))] := hD
  refine lv_iload_n hx hb dX11_plan_5 rfl (lv_at hl 1 rfl) ?_
  refine lv_iconst (v := 0) hx hb dX11_plan_6 (by decide) ?_
  refine lv_iconst (v := 1) hx hb dX11_plan_7 (by decide) ?_
  refine goI (wr := [(h1, .inr (11, [.int 0, x2, x3, x4, x5, x6, x7, x8, x9, x10, .ref h11, x12, x13, x14, x15, x16, x17, x18, x19, x20, x21, x22, x23, x24, x25, x26, x27, x28, x29, x30, x31, x32, x33, x34, x35, x36, x37, x38, x39, x40, x41, x42, x43, x44, x45, x46, x47, x48, x49, x50, x51, x52, x53, x54, x55, .ref h56, x57, x58, x59, x60, x61, x62, x63, x64, x65, x66, x67, x68, x69, x70, x71, x72, x73, x74])), (h11, .inl (aC 0, 14, .inl (fun _ => 0))), (h56, .inl (aC 0, 13, .inl (fun _ => 0)))]) (runS (n := 3) (As := [.int n_1, .int 0, .int 1]) (rest := []) F hP hD hS (k_within_hi l g aC aM n_1 0 1 (by have a0_ := hl1; simp only [Int32.lt_iff_toInt_lt, Int32.le_iff_toInt_le, ← Int32.toInt_inj, show (0 : Int32).toInt = 0 by decide, show (1 : Int32).toInt = 1 by decide, show (2 : Int32).toInt = 2 by decide] at a0_ ⊢; omega) (by have a0_ := hl1; simp only [Int32.lt_iff_toInt_lt, Int32.le_iff_toInt_le, ← Int32.toInt_inj, show (0 : Int32).toInt = 0 by decide, show (1 : Int32).toInt = 1 by decide, show (2 : Int32).toInt = 2 by decide] at a0_ ⊢; omega)) [] (by decide) rfl tb1511 tb1509 tb1510 tb17 ⟨by decide, by decide, by decide +kernel⟩ ⟨Nat.le_of_ble_eq_true rfl, Nat.le_of_ble_eq_true rfl⟩ rfl hl.1 rfl (Nat.le_of_ble_eq_true rfl) dX11_plan_8 ⟨Nat.le_of_ble_eq_true rfl, Nat.le_of_ble_eq_true rfl⟩) hP hD hS hA [] [0, 1, 2] rfl rfl (by decide) (by decide) (fun r_2 w3 H locs hw hP hD hS => ?_)
  have hP : va_P g vwCl [(h1, .inr (11, [.int 0, x2, x3, x4, x5, x6, x7, x8, x9, x10, .ref h11, x12, x13, x14, x15, x16, x17, x18, x19, x20, x21, x22, x23, x24, x25, x26, x27, x28, x29, x30, x31, x32, x33, x34, x35, x36, x37, x38, x39, x40, x41, x42, x43, x44, x45, x46, x47, x48, x49, x50, x51, x52, x53, x54, x55, .ref h56, x57, x58, x59, x60, x61, x62, x63, x64, x65, x66, x67, x68, x69, x70, x71, x72, x73, x74])), (h11, .inl (aC 0, 14, .inl (fun _ => 0))), (h56, .inl (aC 0, 13, .inl (fun _ => 0)))] H := hP
  have hD : va_D A [(h1, .inr (11, [.int 0, x2, x3, x4, x5, x6, x7, x8, x9, x10, .ref h11, x12, x13, x14, x15, x16, x17, x18, x19, x20, x21, x22, x23, x24, x25, x26, x27, x28, x29, x30, x31, x32, x33, x34, x35, x36, x37, x38, x39, x40, x41, x42, x43, x44, x45, x46, x47, x48, x49, x50, x51, x52, x53, x54, x55, .ref h56, x57, x58, x59, x60, x61, x62, x63, x64, x65, x66, x67, x68, x69, x70, x71, x72, x73, x74])), (h11, .inl (aC 0, 14, .inl (fun _ => 0))), (h56, .inl (aC 0, 13, .inl (fun _ => 0)))] := hD
  try dsimp only at hw
  subst hw
  refine lv_if_ne (tgt := 16) hx hb dX11_plan_11 (by decide) (fun c_ => absurd (by decide +kernel) c_) (fun _ => ?_)
  refine lv_iconst (v := (-1)) hx hb dX11_plan_14 (by decide) ?_
  have hP9 := hP.sub (ws' := []) [] rfl
  have hD9 := hD.sub (ws' := []) [] (by decide) rfl
  exact rI () hx hb hr hlk rfl hS rfl hP9 hD9 (Nat.le_of_ble_eq_true rfl) (Nat.le_of_ble_eq_true rfl) dX11_plan_15

set_option maxHeartbeats 4000000 in
set_option maxRecDepth 100000 in
theorem m_plan_0 (l : Launch) (g : va_G) (aC : Nat → ClassId) (aM : Nat → Nat) (h1 h11 h56 : Nat) (x2 x3 x4 x5 x6 x7 x8 x9 x10 x12 x13 x14 x15 x16 x17 x18 x19 x20 x21 x22 x23 x24 x25 x26 x27 x28 x29 x30 x31 x32 x33 x34 x35 x36 x37 x38 x39 x40 x41 x42 x43 x44 x45 x46 x47 x48 x49 x50 x51 x52 x53 x54 x55 x57 x58 x59 x60 x61 x62 x63 x64 x65 x66 x67 x68 x69 x70 x71 x72 x73 x74 : Value) : Ct l g aC aM yX11_plan cX11_plan 5 (some .int) 2 [.ref h1, .int 0] [(h1, .inr (11, [.int 0, x2, x3, x4, x5, x6, x7, x8, x9, x10, .ref h11, x12, x13, x14, x15, x16, x17, x18, x19, x20, x21, x22, x23, x24, x25, x26, x27, x28, x29, x30, x31, x32, x33, x34, x35, x36, x37, x38, x39, x40, x41, x42, x43, x44, x45, x46, x47, x48, x49, x50, x51, x52, x53, x54, x55, .ref h56, x57, x58, x59, x60, x61, x62, x63, x64, x65, x66, x67, x68, x69, x70, x71, x72, x73, x74])), (h11, .inl (aC 0, 14, .inl (fun _ => 0))), (h56, .inl (aC 0, 13, .inl (fun _ => 0)))] (QI g (fun (r : Int32) (_ : Unit) => r = 0) (fun (_ : Unit) => [])) 0 0 := by
  refine Ct.mk (by decide) (Nat.le_of_ble_eq_true rfl) ?_
  intro p e s m below meth c A ls hx hb hml hown hts hr hlk hnm hK hA hM hM2 hP hD hS hl
  have hown : s.vm.findClass RX11 = some m.cls := hown
  have F : Fx p s m _ c cX11_plan 5 RX11 g aC aM A := ⟨hx, hb, hml, hown, hts, hK, hA, hM, hM2⟩
  have hl : lv_has ls 5 [(0, .ref h1), (1, .int 0)] := hl
  refine lv_aload_n hx hb dX11_plan_0 rfl (lv_at hl 0 rfl) ?_
  refine lv_iconst (v := 0) hx hb dX11_plan_1 (by decide) ?_
  refine xput F hP hD hS 0 rfl rfl inX11 tyX11_ok nmX11 0 (by decide) tb1182 rfl rfl rfl (Nat.le_of_ble_eq_true rfl) dX11_plan_2 (fun H locs hP hD hS => ?_)
  have hP : va_P g vwCl [(h1, .inr (11, [.int 0, x2, x3, x4, x5, x6, x7, x8, x9, x10, .ref h11, x12, x13, x14, x15, x16, x17, x18, x19, x20, x21, x22, x23, x24, x25, x26, x27, x28, x29, x30, x31, x32, x33, x34, x35, x36, x37, x38, x39, x40, x41, x42, x43, x44, x45, x46, x47, x48, x49, x50, x51, x52, x53, x54, x55, .ref h56, x57, x58, x59, x60, x61, x62, x63, x64, x65, x66, x67, x68, x69, x70, x71, x72, x73, x74])), (h11, .inl (aC 0, 14, .inl (fun _ => 0))), (h56, .inl (aC 0, 13, .inl (fun _ => 0)))] H := hP
  have hD : va_D A [(h1, .inr (11, [.int 0, x2, x3, x4, x5, x6, x7, x8, x9, x10, .ref h11, x12, x13, x14, x15, x16, x17, x18, x19, x20, x21, x22, x23, x24, x25, x26, x27, x28, x29, x30, x31, x32, x33, x34, x35, x36, x37, x38, x39, x40, x41, x42, x43, x44, x45, x46, x47, x48, x49, x50, x51, x52, x53, x54, x55, .ref h56, x57, x58, x59, x60, x61, x62, x63, x64, x65, x66, x67, x68, x69, x70, x71, x72, x73, x74])), (h11, .inl (aC 0, 14, .inl (fun _ => 0))), (h56, .inl (aC 0, 13, .inl (fun _ => 0)))] := hD
  refine lv_iload_n hx hb dX11_plan_5 rfl (lv_at hl 1 rfl) ?_
  refine lv_iconst (v := 0) hx hb dX11_plan_6 (by decide) ?_
  refine lv_iconst (v := 1) hx hb dX11_plan_7 (by decide) ?_
  refine goI (wr := [(h1, .inr (11, [.int 0, x2, x3, x4, x5, x6, x7, x8, x9, x10, .ref h11, x12, x13, x14, x15, x16, x17, x18, x19, x20, x21, x22, x23, x24, x25, x26, x27, x28, x29, x30, x31, x32, x33, x34, x35, x36, x37, x38, x39, x40, x41, x42, x43, x44, x45, x46, x47, x48, x49, x50, x51, x52, x53, x54, x55, .ref h56, x57, x58, x59, x60, x61, x62, x63, x64, x65, x66, x67, x68, x69, x70, x71, x72, x73, x74])), (h11, .inl (aC 0, 14, .inl (fun _ => 0))), (h56, .inl (aC 0, 13, .inl (fun _ => 0)))]) (runS (n := 3) (As := [.int 0, .int 0, .int 1]) (rest := []) F hP hD hS (a_X11_within_20 l g aC aM ) [] (by decide) rfl tb1511 tb1509 tb1510 tb17 ⟨by decide, by decide, by decide +kernel⟩ ⟨Nat.le_of_ble_eq_true rfl, Nat.le_of_ble_eq_true rfl⟩ rfl hl.1 rfl (Nat.le_of_ble_eq_true rfl) dX11_plan_8 ⟨Nat.le_of_ble_eq_true rfl, Nat.le_of_ble_eq_true rfl⟩) hP hD hS hA [] [0, 1, 2] rfl rfl (by decide) (by decide) (fun r_2 w3 H locs hw hP hD hS => ?_)
  have hP : va_P g vwCl [(h1, .inr (11, [.int 0, x2, x3, x4, x5, x6, x7, x8, x9, x10, .ref h11, x12, x13, x14, x15, x16, x17, x18, x19, x20, x21, x22, x23, x24, x25, x26, x27, x28, x29, x30, x31, x32, x33, x34, x35, x36, x37, x38, x39, x40, x41, x42, x43, x44, x45, x46, x47, x48, x49, x50, x51, x52, x53, x54, x55, .ref h56, x57, x58, x59, x60, x61, x62, x63, x64, x65, x66, x67, x68, x69, x70, x71, x72, x73, x74])), (h11, .inl (aC 0, 14, .inl (fun _ => 0))), (h56, .inl (aC 0, 13, .inl (fun _ => 0)))] H := hP
  have hD : va_D A [(h1, .inr (11, [.int 0, x2, x3, x4, x5, x6, x7, x8, x9, x10, .ref h11, x12, x13, x14, x15, x16, x17, x18, x19, x20, x21, x22, x23, x24, x25, x26, x27, x28, x29, x30, x31, x32, x33, x34, x35, x36, x37, x38, x39, x40, x41, x42, x43, x44, x45, x46, x47, x48, x49, x50, x51, x52, x53, x54, x55, .ref h56, x57, x58, x59, x60, x61, x62, x63, x64, x65, x66, x67, x68, x69, x70, x71, x72, x73, x74])), (h11, .inl (aC 0, 14, .inl (fun _ => 0))), (h56, .inl (aC 0, 13, .inl (fun _ => 0)))] := hD
  try dsimp only at hw
  subst hw
  refine lv_if_ne (tgt := 16) hx hb dX11_plan_11 (by decide) (fun _ => ?_) (fun c_ => absurd c_ (by decide +kernel))
  refine lv_iconst (v := (-1)) hx hb dX11_plan_16 (by decide) ?_
  refine lv_istore_n (lv' := [(2, .int (-1)), (0, .ref h1), (1, .int 0)]) hx hb dX11_plan_17 rfl hl (by decide) rfl (fun ls hl => ?_)
  refine lv_iconst (v := 0) hx hb dX11_plan_18 (by decide) ?_
  refine lv_istore_n (lv' := [(3, .int 0), (2, .int (-1)), (0, .ref h1), (1, .int 0)]) hx hb dX11_plan_19 rfl hl (by decide) rfl (fun ls hl => ?_)
  refine lv_iload_n hx hb dX11_plan_20 rfl (lv_at hl 0 rfl) ?_
  refine lv_aload_n hx hb dX11_plan_21 rfl (lv_at hl 2 rfl) ?_
  refine goI (wr := [(h56, .inl (aC 0, 13, .inl (fun _ => 0)))]) (runV (n := 0) (As := []) (rest := [.int 0]) F hP hD hS (a_X11_allFlights_2 l g aC aM h1 h11 (.int 0) x2 x3 x4 x5 x6 x7 x8 x9 x10 x12 x13 x14 x15 x16 x17 x18 x19 x20 x21 x22 x23 x24 x25 x26 x27 x28 x29 x30 x31 x32 x33 x34 x35 x36 x37 x38 x39 x40 x41 x42 x43 x44 x45 x46 x47 x48 x49 x50 x51 x52 x53 x54 x55 (.ref h56) x57 x58 x59 x60 x61 x62 x63 x64 x65 x66 x67 x68 x69 x70 x71 x72 x73 x74) [0, 1] (by decide) rfl 0 11 rfl rfl rfl tb1592 tb1589 tb1591 tv65 tb17 ⟨by decide, by decide, by decide +kernel⟩ ⟨Nat.le_of_ble_eq_true rfl, Nat.le_of_ble_eq_true rfl⟩ rfl hl.1 rfl (Nat.le_of_ble_eq_true rfl) dX11_plan_22 ⟨Nat.le_of_ble_eq_true rfl, Nat.le_of_ble_eq_true rfl⟩) hP hD hS hA [0, 1] [2] rfl rfl (by decide) (by decide) (fun r_6 w7 H locs hw hP hD hS => ?_)
  have hP : va_P g vwCl [(h56, .inl (aC 0, 13, .inl (fun _ => 0))), (h1, .inr (11, [.int 0, x2, x3, x4, x5, x6, x7, x8, x9, x10, .ref h11, x12, x13, x14, x15, x16, x17, x18, x19, x20, x21, x22, x23, x24, x25, x26, x27, x28, x29, x30, x31, x32, x33, x34, x35, x36, x37, x38, x39, x40, x41, x42, x43, x44, x45, x46, x47, x48, x49, x50, x51, x52, x53, x54, x55, .ref h56, x57, x58, x59, x60, x61, x62, x63, x64, x65, x66, x67, x68, x69, x70, x71, x72, x73, x74])), (h11, .inl (aC 0, 14, .inl (fun _ => 0)))] H := hP
  have hD : va_D A [(h56, .inl (aC 0, 13, .inl (fun _ => 0))), (h1, .inr (11, [.int 0, x2, x3, x4, x5, x6, x7, x8, x9, x10, .ref h11, x12, x13, x14, x15, x16, x17, x18, x19, x20, x21, x22, x23, x24, x25, x26, x27, x28, x29, x30, x31, x32, x33, x34, x35, x36, x37, x38, x39, x40, x41, x42, x43, x44, x45, x46, x47, x48, x49, x50, x51, x52, x53, x54, x55, .ref h56, x57, x58, x59, x60, x61, x62, x63, x64, x65, x66, x67, x68, x69, x70, x71, x72, x73, x74])), (h11, .inl (aC 0, 14, .inl (fun _ => 0)))] := hD
  try dsimp only at hw
  subst hw
  refine lv_icmp_gt (tgt := 98) hx hb dX11_plan_25 (by decide) (fun c_ => absurd c_ (by decide +kernel)) (fun _ => ?_)
  refine lv_aload_n hx hb dX11_plan_28 rfl (lv_at hl 2 rfl) ?_
  refine lv_iload_n hx hb dX11_plan_29 rfl (lv_at hl 0 rfl) ?_
  refine goI (wr := [(h56, .inl (aC 0, 13, .inl (fun _ => 0)))]) (runV (n := 1) (As := [.int 0]) (rest := []) F hP hD hS (a_X11_riseOf_1 l g aC aM h1 h11 (.int 0) x2 x3 x4 x5 x6 x7 x8 x9 x10 x12 x13 x14 x15 x16 x17 x18 x19 x20 x21 x22 x23 x24 x25 x26 x27 x28 x29 x30 x31 x32 x33 x34 x35 x36 x37 x38 x39 x40 x41 x42 x43 x44 x45 x46 x47 x48 x49 x50 x51 x52 x53 x54 x55 (.ref h56) x57 x58 x59 x60 x61 x62 x63 x64 x65 x66 x67 x68 x69 x70 x71 x72 x73 x74) [1, 2] (by decide) rfl 1 11 rfl rfl rfl tb1790 tb1787 tb1789 tv96 tb17 ⟨by decide, by decide, by decide +kernel⟩ ⟨Nat.le_of_ble_eq_true rfl, Nat.le_of_ble_eq_true rfl⟩ rfl hl.1 rfl (Nat.le_of_ble_eq_true rfl) dX11_plan_30 ⟨Nat.le_of_ble_eq_true rfl, Nat.le_of_ble_eq_true rfl⟩) hP hD hS hA [1, 2] [0] rfl rfl (by decide) (by decide) (fun r_10 w11 H locs hw hP hD hS => ?_)
  have hP : va_P g vwCl [(h56, .inl (aC 0, 13, .inl (fun _ => 0))), (h1, .inr (11, [.int 0, x2, x3, x4, x5, x6, x7, x8, x9, x10, .ref h11, x12, x13, x14, x15, x16, x17, x18, x19, x20, x21, x22, x23, x24, x25, x26, x27, x28, x29, x30, x31, x32, x33, x34, x35, x36, x37, x38, x39, x40, x41, x42, x43, x44, x45, x46, x47, x48, x49, x50, x51, x52, x53, x54, x55, .ref h56, x57, x58, x59, x60, x61, x62, x63, x64, x65, x66, x67, x68, x69, x70, x71, x72, x73, x74])), (h11, .inl (aC 0, 14, .inl (fun _ => 0)))] H := hP
  have hD : va_D A [(h56, .inl (aC 0, 13, .inl (fun _ => 0))), (h1, .inr (11, [.int 0, x2, x3, x4, x5, x6, x7, x8, x9, x10, .ref h11, x12, x13, x14, x15, x16, x17, x18, x19, x20, x21, x22, x23, x24, x25, x26, x27, x28, x29, x30, x31, x32, x33, x34, x35, x36, x37, x38, x39, x40, x41, x42, x43, x44, x45, x46, x47, x48, x49, x50, x51, x52, x53, x54, x55, .ref h56, x57, x58, x59, x60, x61, x62, x63, x64, x65, x66, x67, x68, x69, x70, x71, x72, x73, x74])), (h11, .inl (aC 0, 14, .inl (fun _ => 0)))] := hD
  try dsimp only at hw
  subst hw
  refine lv_istore (lv' := [(4, .int 0), (3, .int 0), (2, .int (-1)), (0, .ref h1), (1, .int 0)]) hx hb dX11_plan_33 hl (by decide) rfl (fun ls hl => ?_)
  refine lv_iload_n hx hb dX11_plan_35 rfl (lv_at hl 1 rfl) ?_
  refine lv_aload_n hx hb dX11_plan_36 rfl (lv_at hl 3 rfl) ?_
  refine xget F hP 1 rfl rfl inX11 55 (by decide) tb1237 rfl dX11_plan_37 ?_
  refine lv_iconst (v := 0) hx hb dX11_plan_40 (by decide) ?_
  refine xilo (v := 0) F hP 0 rfl 0 (by decide +kernel) (by decide +kernel) (by decide) (by decide +kernel) dX11_plan_41 ?_
  refine lv_iand hx hb dX11_plan_42 ?_
  refine relit (v := 0) (by decide +kernel) ?_
  refine lv_if_ne (tgt := 92) hx hb dX11_plan_43 (by decide) (fun c_ => absurd (by decide +kernel) c_) (fun _ => ?_)
  refine lv_iload hx hb dX11_plan_46 (lv_at hl 0 rfl) ?_
  refine lv_aload_n hx hb dX11_plan_48 rfl (lv_at hl 3 rfl) ?_
  refine xget F hP 1 rfl rfl inX11 55 (by decide) tb1237 rfl dX11_plan_49 ?_
  refine lv_bipush (v := 10) hx hb dX11_plan_52 (by decide) ?_
  refine xilo (v := 0) F hP 0 rfl 10 (by decide +kernel) (by decide +kernel) (by decide) (by decide +kernel) dX11_plan_54 ?_
  refine lv_icmp_gt (tgt := 92) hx hb dX11_plan_55 (by decide) (fun c_ => absurd c_ (by decide +kernel)) (fun _ => ?_)
  refine lv_iload_n hx hb dX11_plan_58 rfl (lv_at hl 2 rfl) ?_
  refine lv_if_lt (tgt := 75) hx hb dX11_plan_59 (by decide) (fun _ => ?_) (fun c_ => absurd (by decide +kernel) c_)
  refine lv_aload_n hx hb dX11_plan_75 rfl (lv_at hl 3 rfl) ?_
  refine lv_aload_n hx hb dX11_plan_76 rfl (lv_at hl 3 rfl) ?_
  refine xget F hP 1 rfl rfl inX11 55 (by decide) tb1237 rfl dX11_plan_77 ?_
  refine lv_iconst (v := 0) hx hb dX11_plan_80 (by decide) ?_
  refine xilo (v := 0) F hP 0 rfl 0 (by decide +kernel) (by decide +kernel) (by decide) (by decide +kernel) dX11_plan_81 ?_
  refine lv_iload_n hx hb dX11_plan_82 rfl (lv_at hl 1 rfl) ?_
  refine lv_ior hx hb dX11_plan_83 ?_
  refine relit (v := 0) (by decide +kernel) ?_
  refine goI (wr := [(h56, .inl (aC 0, 13, .inl (fun _ => 0)))]) (runV (n := 1) (As := [.int 0]) (rest := []) F hP hD hS (a_X11_cutBy_1 l g aC aM h1 h11 (.int 0) x2 x3 x4 x5 x6 x7 x8 x9 x10 x12 x13 x14 x15 x16 x17 x18 x19 x20 x21 x22 x23 x24 x25 x26 x27 x28 x29 x30 x31 x32 x33 x34 x35 x36 x37 x38 x39 x40 x41 x42 x43 x44 x45 x46 x47 x48 x49 x50 x51 x52 x53 x54 x55 (.ref h56) x57 x58 x59 x60 x61 x62 x63 x64 x65 x66 x67 x68 x69 x70 x71 x72 x73 x74) [1, 2] (by decide) rfl 1 11 rfl rfl rfl tb1677 tb1674 tb1676 tv79 tb17 ⟨by decide, by decide, by decide +kernel⟩ ⟨Nat.le_of_ble_eq_true rfl, Nat.le_of_ble_eq_true rfl⟩ rfl hl.1 rfl (Nat.le_of_ble_eq_true rfl) dX11_plan_84 ⟨Nat.le_of_ble_eq_true rfl, Nat.le_of_ble_eq_true rfl⟩) hP hD hS hA [1, 2] [0] rfl rfl (by decide) (by decide) (fun r_16 w17 H locs hw hP hD hS => ?_)
  have hP : va_P g vwCl [(h56, .inl (aC 0, 13, .inl (fun _ => 0))), (h1, .inr (11, [.int 0, x2, x3, x4, x5, x6, x7, x8, x9, x10, .ref h11, x12, x13, x14, x15, x16, x17, x18, x19, x20, x21, x22, x23, x24, x25, x26, x27, x28, x29, x30, x31, x32, x33, x34, x35, x36, x37, x38, x39, x40, x41, x42, x43, x44, x45, x46, x47, x48, x49, x50, x51, x52, x53, x54, x55, .ref h56, x57, x58, x59, x60, x61, x62, x63, x64, x65, x66, x67, x68, x69, x70, x71, x72, x73, x74])), (h11, .inl (aC 0, 14, .inl (fun _ => 0)))] H := hP
  have hD : va_D A [(h56, .inl (aC 0, 13, .inl (fun _ => 0))), (h1, .inr (11, [.int 0, x2, x3, x4, x5, x6, x7, x8, x9, x10, .ref h11, x12, x13, x14, x15, x16, x17, x18, x19, x20, x21, x22, x23, x24, x25, x26, x27, x28, x29, x30, x31, x32, x33, x34, x35, x36, x37, x38, x39, x40, x41, x42, x43, x44, x45, x46, x47, x48, x49, x50, x51, x52, x53, x54, x55, .ref h56, x57, x58, x59, x60, x61, x62, x63, x64, x65, x66, x67, x68, x69, x70, x71, x72, x73, x74])), (h11, .inl (aC 0, 14, .inl (fun _ => 0)))] := hD
  try dsimp only at hw
  subst hw
  refine lv_if_ne (tgt := 92) hx hb dX11_plan_87 (by decide) (fun c_ => absurd (by decide +kernel) c_) (fun _ => ?_)
  refine lv_iload_n hx hb dX11_plan_90 rfl (lv_at hl 1 rfl) ?_
  refine lv_istore_n (lv' := [(2, .int 0), (4, .int 0), (3, .int 0), (0, .ref h1), (1, .int 0)]) hx hb dX11_plan_91 rfl hl (by decide) rfl (fun ls hl => ?_)
  refine lv_iinc (v := 1) (lv' := [(3, .int 1), (2, .int 0), (4, .int 0), (0, .ref h1), (1, .int 0)]) hx hb dX11_plan_92 hl (k := 2) rfl (by decide +kernel) (by decide) rfl (fun ls hl => ?_)
  refine lv_goto (tgt := 20) hx hb dX11_plan_95 (by decide) ?_
  refine lv_iload_n hx hb dX11_plan_20 rfl (lv_at hl 0 rfl) ?_
  refine lv_aload_n hx hb dX11_plan_21 rfl (lv_at hl 3 rfl) ?_
  refine goI (wr := [(h56, .inl (aC 0, 13, .inl (fun _ => 0)))]) (runV (n := 0) (As := []) (rest := [.int 1]) F hP hD hS (a_X11_allFlights_2 l g aC aM h1 h11 (.int 0) x2 x3 x4 x5 x6 x7 x8 x9 x10 x12 x13 x14 x15 x16 x17 x18 x19 x20 x21 x22 x23 x24 x25 x26 x27 x28 x29 x30 x31 x32 x33 x34 x35 x36 x37 x38 x39 x40 x41 x42 x43 x44 x45 x46 x47 x48 x49 x50 x51 x52 x53 x54 x55 (.ref h56) x57 x58 x59 x60 x61 x62 x63 x64 x65 x66 x67 x68 x69 x70 x71 x72 x73 x74) [1, 2] (by decide) rfl 1 11 rfl rfl rfl tb1592 tb1589 tb1591 tv65 tb17 ⟨by decide, by decide, by decide +kernel⟩ ⟨Nat.le_of_ble_eq_true rfl, Nat.le_of_ble_eq_true rfl⟩ rfl hl.1 rfl (Nat.le_of_ble_eq_true rfl) dX11_plan_22 ⟨Nat.le_of_ble_eq_true rfl, Nat.le_of_ble_eq_true rfl⟩) hP hD hS hA [1, 2] [0] rfl rfl (by decide) (by decide) (fun r_20 w21 H locs hw hP hD hS => ?_)
  have hP : va_P g vwCl [(h56, .inl (aC 0, 13, .inl (fun _ => 0))), (h1, .inr (11, [.int 0, x2, x3, x4, x5, x6, x7, x8, x9, x10, .ref h11, x12, x13, x14, x15, x16, x17, x18, x19, x20, x21, x22, x23, x24, x25, x26, x27, x28, x29, x30, x31, x32, x33, x34, x35, x36, x37, x38, x39, x40, x41, x42, x43, x44, x45, x46, x47, x48, x49, x50, x51, x52, x53, x54, x55, .ref h56, x57, x58, x59, x60, x61, x62, x63, x64, x65, x66, x67, x68, x69, x70, x71, x72, x73, x74])), (h11, .inl (aC 0, 14, .inl (fun _ => 0)))] H := hP
  have hD : va_D A [(h56, .inl (aC 0, 13, .inl (fun _ => 0))), (h1, .inr (11, [.int 0, x2, x3, x4, x5, x6, x7, x8, x9, x10, .ref h11, x12, x13, x14, x15, x16, x17, x18, x19, x20, x21, x22, x23, x24, x25, x26, x27, x28, x29, x30, x31, x32, x33, x34, x35, x36, x37, x38, x39, x40, x41, x42, x43, x44, x45, x46, x47, x48, x49, x50, x51, x52, x53, x54, x55, .ref h56, x57, x58, x59, x60, x61, x62, x63, x64, x65, x66, x67, x68, x69, x70, x71, x72, x73, x74])), (h11, .inl (aC 0, 14, .inl (fun _ => 0)))] := hD
  try dsimp only at hw
  subst hw
  refine lv_icmp_gt (tgt := 98) hx hb dX11_plan_25 (by decide) (fun _ => ?_) (fun c_ => absurd (by decide +kernel) c_)
  refine lv_iload_n hx hb dX11_plan_98 rfl (lv_at hl 1 rfl) ?_
  refine lv_if_lt (tgt := 107) hx hb dX11_plan_99 (by decide) (fun c_ => absurd c_ (by decide +kernel)) (fun _ => ?_)
  refine lv_iload_n hx hb dX11_plan_102 rfl (lv_at hl 4 rfl) ?_
  refine lv_iconst (v := 1) hx hb dX11_plan_103 (by decide) ?_
  refine lv_icmp_ne (tgt := 111) hx hb dX11_plan_104 (by decide) (fun _ => ?_) (fun c_ => absurd c_ (by decide +kernel))
  refine lv_aload_n hx hb dX11_plan_111 rfl (lv_at hl 3 rfl) ?_
  refine lv_iload_n hx hb dX11_plan_112 rfl (lv_at hl 1 rfl) ?_
  refine goI (wr := [(h56, .inl (aC 0, 13, .inl (fun _ => 0)))]) (runV (n := 1) (As := [.int 0]) (rest := []) F hP hD hS (a_X11_riseOf_1 l g aC aM h1 h11 (.int 0) x2 x3 x4 x5 x6 x7 x8 x9 x10 x12 x13 x14 x15 x16 x17 x18 x19 x20 x21 x22 x23 x24 x25 x26 x27 x28 x29 x30 x31 x32 x33 x34 x35 x36 x37 x38 x39 x40 x41 x42 x43 x44 x45 x46 x47 x48 x49 x50 x51 x52 x53 x54 x55 (.ref h56) x57 x58 x59 x60 x61 x62 x63 x64 x65 x66 x67 x68 x69 x70 x71 x72 x73 x74) [1, 2] (by decide) rfl 1 11 rfl rfl rfl tb1790 tb1787 tb1789 tv96 tb17 ⟨by decide, by decide, by decide +kernel⟩ ⟨Nat.le_of_ble_eq_true rfl, Nat.le_of_ble_eq_true rfl⟩ rfl hl.1 rfl (Nat.le_of_ble_eq_true rfl) dX11_plan_113 ⟨Nat.le_of_ble_eq_true rfl, Nat.le_of_ble_eq_true rfl⟩) hP hD hS hA [1, 2] [0] rfl rfl (by decide) (by decide) (fun r_26 w27 H locs hw hP hD hS => ?_)
  have hP : va_P g vwCl [(h56, .inl (aC 0, 13, .inl (fun _ => 0))), (h1, .inr (11, [.int 0, x2, x3, x4, x5, x6, x7, x8, x9, x10, .ref h11, x12, x13, x14, x15, x16, x17, x18, x19, x20, x21, x22, x23, x24, x25, x26, x27, x28, x29, x30, x31, x32, x33, x34, x35, x36, x37, x38, x39, x40, x41, x42, x43, x44, x45, x46, x47, x48, x49, x50, x51, x52, x53, x54, x55, .ref h56, x57, x58, x59, x60, x61, x62, x63, x64, x65, x66, x67, x68, x69, x70, x71, x72, x73, x74])), (h11, .inl (aC 0, 14, .inl (fun _ => 0)))] H := hP
  have hD : va_D A [(h56, .inl (aC 0, 13, .inl (fun _ => 0))), (h1, .inr (11, [.int 0, x2, x3, x4, x5, x6, x7, x8, x9, x10, .ref h11, x12, x13, x14, x15, x16, x17, x18, x19, x20, x21, x22, x23, x24, x25, x26, x27, x28, x29, x30, x31, x32, x33, x34, x35, x36, x37, x38, x39, x40, x41, x42, x43, x44, x45, x46, x47, x48, x49, x50, x51, x52, x53, x54, x55, .ref h56, x57, x58, x59, x60, x61, x62, x63, x64, x65, x66, x67, x68, x69, x70, x71, x72, x73, x74])), (h11, .inl (aC 0, 14, .inl (fun _ => 0)))] := hD
  try dsimp only at hw
  subst hw
  have hP9 := hP.sub (ws' := []) [] rfl
  have hD9 := hD.sub (ws' := []) [] (by decide) rfl
  exact rI () hx hb hr hlk rfl hS rfl hP9 hD9 (Nat.le_of_ble_eq_true rfl) (Nat.le_of_ble_eq_true rfl) dX11_plan_116

set_option maxHeartbeats 4000000 in
set_option maxRecDepth 100000 in
theorem m_plan_1 (l : Launch) (g : va_G) (aC : Nat → ClassId) (aM : Nat → Nat) (h1 h11 h56 : Nat) (x2 x3 x4 x5 x6 x7 x8 x9 x10 x12 x13 x14 x15 x16 x17 x18 x19 x20 x21 x22 x23 x24 x25 x26 x27 x28 x29 x30 x31 x32 x33 x34 x35 x36 x37 x38 x39 x40 x41 x42 x43 x44 x45 x46 x47 x48 x49 x50 x51 x52 x53 x54 x55 x57 x58 x59 x60 x61 x62 x63 x64 x65 x66 x67 x68 x69 x70 x71 x72 x73 x74 : Value) : Ct l g aC aM yX11_plan cX11_plan 5 (some .int) 2 [.ref h1, .int 1] [(h1, .inr (11, [.int 0, x2, x3, x4, x5, x6, x7, x8, x9, x10, .ref h11, x12, x13, x14, x15, x16, x17, x18, x19, x20, x21, x22, x23, x24, x25, x26, x27, x28, x29, x30, x31, x32, x33, x34, x35, x36, x37, x38, x39, x40, x41, x42, x43, x44, x45, x46, x47, x48, x49, x50, x51, x52, x53, x54, x55, .ref h56, x57, x58, x59, x60, x61, x62, x63, x64, x65, x66, x67, x68, x69, x70, x71, x72, x73, x74])), (h11, .inl (aC 0, 14, .inl (fun _ => 0))), (h56, .inl (aC 0, 13, .inl (fun _ => 0)))] (QI g (fun (r : Int32) (_ : Unit) => r = 0) (fun (_ : Unit) => [])) 0 0 := by
  refine Ct.mk (by decide) (Nat.le_of_ble_eq_true rfl) ?_
  intro p e s m below meth c A ls hx hb hml hown hts hr hlk hnm hK hA hM hM2 hP hD hS hl
  have hown : s.vm.findClass RX11 = some m.cls := hown
  have F : Fx p s m _ c cX11_plan 5 RX11 g aC aM A := ⟨hx, hb, hml, hown, hts, hK, hA, hM, hM2⟩
  have hl : lv_has ls 5 [(0, .ref h1), (1, .int 1)] := hl
  refine lv_aload_n hx hb dX11_plan_0 rfl (lv_at hl 0 rfl) ?_
  refine lv_iconst (v := 0) hx hb dX11_plan_1 (by decide) ?_
  refine xput F hP hD hS 0 rfl rfl inX11 tyX11_ok nmX11 0 (by decide) tb1182 rfl rfl rfl (Nat.le_of_ble_eq_true rfl) dX11_plan_2 (fun H locs hP hD hS => ?_)
  have hP : va_P g vwCl [(h1, .inr (11, [.int 0, x2, x3, x4, x5, x6, x7, x8, x9, x10, .ref h11, x12, x13, x14, x15, x16, x17, x18, x19, x20, x21, x22, x23, x24, x25, x26, x27, x28, x29, x30, x31, x32, x33, x34, x35, x36, x37, x38, x39, x40, x41, x42, x43, x44, x45, x46, x47, x48, x49, x50, x51, x52, x53, x54, x55, .ref h56, x57, x58, x59, x60, x61, x62, x63, x64, x65, x66, x67, x68, x69, x70, x71, x72, x73, x74])), (h11, .inl (aC 0, 14, .inl (fun _ => 0))), (h56, .inl (aC 0, 13, .inl (fun _ => 0)))] H := hP
  have hD : va_D A [(h1, .inr (11, [.int 0, x2, x3, x4, x5, x6, x7, x8, x9, x10, .ref h11, x12, x13, x14, x15, x16, x17, x18, x19, x20, x21, x22, x23, x24, x25, x26, x27, x28, x29, x30, x31, x32, x33, x34, x35, x36, x37, x38, x39, x40, x41, x42, x43, x44, x45, x46, x47, x48, x49, x50, x51, x52, x53, x54, x55, .ref h56, x57, x58, x59, x60, x61, x62, x63, x64, x65, x66, x67, x68, x69, x70, x71, x72, x73, x74])), (h11, .inl (aC 0, 14, .inl (fun _ => 0))), (h56, .inl (aC 0, 13, .inl (fun _ => 0)))] := hD
  refine lv_iload_n hx hb dX11_plan_5 rfl (lv_at hl 1 rfl) ?_
  refine lv_iconst (v := 0) hx hb dX11_plan_6 (by decide) ?_
  refine lv_iconst (v := 1) hx hb dX11_plan_7 (by decide) ?_
  refine goI (wr := [(h1, .inr (11, [.int 0, x2, x3, x4, x5, x6, x7, x8, x9, x10, .ref h11, x12, x13, x14, x15, x16, x17, x18, x19, x20, x21, x22, x23, x24, x25, x26, x27, x28, x29, x30, x31, x32, x33, x34, x35, x36, x37, x38, x39, x40, x41, x42, x43, x44, x45, x46, x47, x48, x49, x50, x51, x52, x53, x54, x55, .ref h56, x57, x58, x59, x60, x61, x62, x63, x64, x65, x66, x67, x68, x69, x70, x71, x72, x73, x74])), (h11, .inl (aC 0, 14, .inl (fun _ => 0))), (h56, .inl (aC 0, 13, .inl (fun _ => 0)))]) (runS (n := 3) (As := [.int 1, .int 0, .int 1]) (rest := []) F hP hD hS (a_X11_within_21 l g aC aM ) [] (by decide) rfl tb1511 tb1509 tb1510 tb17 ⟨by decide, by decide, by decide +kernel⟩ ⟨Nat.le_of_ble_eq_true rfl, Nat.le_of_ble_eq_true rfl⟩ rfl hl.1 rfl (Nat.le_of_ble_eq_true rfl) dX11_plan_8 ⟨Nat.le_of_ble_eq_true rfl, Nat.le_of_ble_eq_true rfl⟩) hP hD hS hA [] [0, 1, 2] rfl rfl (by decide) (by decide) (fun r_2 w3 H locs hw hP hD hS => ?_)
  have hP : va_P g vwCl [(h1, .inr (11, [.int 0, x2, x3, x4, x5, x6, x7, x8, x9, x10, .ref h11, x12, x13, x14, x15, x16, x17, x18, x19, x20, x21, x22, x23, x24, x25, x26, x27, x28, x29, x30, x31, x32, x33, x34, x35, x36, x37, x38, x39, x40, x41, x42, x43, x44, x45, x46, x47, x48, x49, x50, x51, x52, x53, x54, x55, .ref h56, x57, x58, x59, x60, x61, x62, x63, x64, x65, x66, x67, x68, x69, x70, x71, x72, x73, x74])), (h11, .inl (aC 0, 14, .inl (fun _ => 0))), (h56, .inl (aC 0, 13, .inl (fun _ => 0)))] H := hP
  have hD : va_D A [(h1, .inr (11, [.int 0, x2, x3, x4, x5, x6, x7, x8, x9, x10, .ref h11, x12, x13, x14, x15, x16, x17, x18, x19, x20, x21, x22, x23, x24, x25, x26, x27, x28, x29, x30, x31, x32, x33, x34, x35, x36, x37, x38, x39, x40, x41, x42, x43, x44, x45, x46, x47, x48, x49, x50, x51, x52, x53, x54, x55, .ref h56, x57, x58, x59, x60, x61, x62, x63, x64, x65, x66, x67, x68, x69, x70, x71, x72, x73, x74])), (h11, .inl (aC 0, 14, .inl (fun _ => 0))), (h56, .inl (aC 0, 13, .inl (fun _ => 0)))] := hD
  try dsimp only at hw
  subst hw
  refine lv_if_ne (tgt := 16) hx hb dX11_plan_11 (by decide) (fun _ => ?_) (fun c_ => absurd c_ (by decide +kernel))
  refine lv_iconst (v := (-1)) hx hb dX11_plan_16 (by decide) ?_
  refine lv_istore_n (lv' := [(2, .int (-1)), (0, .ref h1), (1, .int 1)]) hx hb dX11_plan_17 rfl hl (by decide) rfl (fun ls hl => ?_)
  refine lv_iconst (v := 0) hx hb dX11_plan_18 (by decide) ?_
  refine lv_istore_n (lv' := [(3, .int 0), (2, .int (-1)), (0, .ref h1), (1, .int 1)]) hx hb dX11_plan_19 rfl hl (by decide) rfl (fun ls hl => ?_)
  refine lv_iload_n hx hb dX11_plan_20 rfl (lv_at hl 0 rfl) ?_
  refine lv_aload_n hx hb dX11_plan_21 rfl (lv_at hl 2 rfl) ?_
  refine goI (wr := [(h56, .inl (aC 0, 13, .inl (fun _ => 0)))]) (runV (n := 0) (As := []) (rest := [.int 0]) F hP hD hS (a_X11_allFlights_2 l g aC aM h1 h11 (.int 0) x2 x3 x4 x5 x6 x7 x8 x9 x10 x12 x13 x14 x15 x16 x17 x18 x19 x20 x21 x22 x23 x24 x25 x26 x27 x28 x29 x30 x31 x32 x33 x34 x35 x36 x37 x38 x39 x40 x41 x42 x43 x44 x45 x46 x47 x48 x49 x50 x51 x52 x53 x54 x55 (.ref h56) x57 x58 x59 x60 x61 x62 x63 x64 x65 x66 x67 x68 x69 x70 x71 x72 x73 x74) [0, 1] (by decide) rfl 0 11 rfl rfl rfl tb1592 tb1589 tb1591 tv65 tb17 ⟨by decide, by decide, by decide +kernel⟩ ⟨Nat.le_of_ble_eq_true rfl, Nat.le_of_ble_eq_true rfl⟩ rfl hl.1 rfl (Nat.le_of_ble_eq_true rfl) dX11_plan_22 ⟨Nat.le_of_ble_eq_true rfl, Nat.le_of_ble_eq_true rfl⟩) hP hD hS hA [0, 1] [2] rfl rfl (by decide) (by decide) (fun r_6 w7 H locs hw hP hD hS => ?_)
  have hP : va_P g vwCl [(h56, .inl (aC 0, 13, .inl (fun _ => 0))), (h1, .inr (11, [.int 0, x2, x3, x4, x5, x6, x7, x8, x9, x10, .ref h11, x12, x13, x14, x15, x16, x17, x18, x19, x20, x21, x22, x23, x24, x25, x26, x27, x28, x29, x30, x31, x32, x33, x34, x35, x36, x37, x38, x39, x40, x41, x42, x43, x44, x45, x46, x47, x48, x49, x50, x51, x52, x53, x54, x55, .ref h56, x57, x58, x59, x60, x61, x62, x63, x64, x65, x66, x67, x68, x69, x70, x71, x72, x73, x74])), (h11, .inl (aC 0, 14, .inl (fun _ => 0)))] H := hP
  have hD : va_D A [(h56, .inl (aC 0, 13, .inl (fun _ => 0))), (h1, .inr (11, [.int 0, x2, x3, x4, x5, x6, x7, x8, x9, x10, .ref h11, x12, x13, x14, x15, x16, x17, x18, x19, x20, x21, x22, x23, x24, x25, x26, x27, x28, x29, x30, x31, x32, x33, x34, x35, x36, x37, x38, x39, x40, x41, x42, x43, x44, x45, x46, x47, x48, x49, x50, x51, x52, x53, x54, x55, .ref h56, x57, x58, x59, x60, x61, x62, x63, x64, x65, x66, x67, x68, x69, x70, x71, x72, x73, x74])), (h11, .inl (aC 0, 14, .inl (fun _ => 0)))] := hD
  try dsimp only at hw
  subst hw
  refine lv_icmp_gt (tgt := 98) hx hb dX11_plan_25 (by decide) (fun c_ => absurd c_ (by decide +kernel)) (fun _ => ?_)
  refine lv_aload_n hx hb dX11_plan_28 rfl (lv_at hl 2 rfl) ?_
  refine lv_iload_n hx hb dX11_plan_29 rfl (lv_at hl 0 rfl) ?_
  refine goI (wr := [(h56, .inl (aC 0, 13, .inl (fun _ => 0)))]) (runV (n := 1) (As := [.int 0]) (rest := []) F hP hD hS (a_X11_riseOf_1 l g aC aM h1 h11 (.int 0) x2 x3 x4 x5 x6 x7 x8 x9 x10 x12 x13 x14 x15 x16 x17 x18 x19 x20 x21 x22 x23 x24 x25 x26 x27 x28 x29 x30 x31 x32 x33 x34 x35 x36 x37 x38 x39 x40 x41 x42 x43 x44 x45 x46 x47 x48 x49 x50 x51 x52 x53 x54 x55 (.ref h56) x57 x58 x59 x60 x61 x62 x63 x64 x65 x66 x67 x68 x69 x70 x71 x72 x73 x74) [1, 2] (by decide) rfl 1 11 rfl rfl rfl tb1790 tb1787 tb1789 tv96 tb17 ⟨by decide, by decide, by decide +kernel⟩ ⟨Nat.le_of_ble_eq_true rfl, Nat.le_of_ble_eq_true rfl⟩ rfl hl.1 rfl (Nat.le_of_ble_eq_true rfl) dX11_plan_30 ⟨Nat.le_of_ble_eq_true rfl, Nat.le_of_ble_eq_true rfl⟩) hP hD hS hA [1, 2] [0] rfl rfl (by decide) (by decide) (fun r_10 w11 H locs hw hP hD hS => ?_)
  have hP : va_P g vwCl [(h56, .inl (aC 0, 13, .inl (fun _ => 0))), (h1, .inr (11, [.int 0, x2, x3, x4, x5, x6, x7, x8, x9, x10, .ref h11, x12, x13, x14, x15, x16, x17, x18, x19, x20, x21, x22, x23, x24, x25, x26, x27, x28, x29, x30, x31, x32, x33, x34, x35, x36, x37, x38, x39, x40, x41, x42, x43, x44, x45, x46, x47, x48, x49, x50, x51, x52, x53, x54, x55, .ref h56, x57, x58, x59, x60, x61, x62, x63, x64, x65, x66, x67, x68, x69, x70, x71, x72, x73, x74])), (h11, .inl (aC 0, 14, .inl (fun _ => 0)))] H := hP
  have hD : va_D A [(h56, .inl (aC 0, 13, .inl (fun _ => 0))), (h1, .inr (11, [.int 0, x2, x3, x4, x5, x6, x7, x8, x9, x10, .ref h11, x12, x13, x14, x15, x16, x17, x18, x19, x20, x21, x22, x23, x24, x25, x26, x27, x28, x29, x30, x31, x32, x33, x34, x35, x36, x37, x38, x39, x40, x41, x42, x43, x44, x45, x46, x47, x48, x49, x50, x51, x52, x53, x54, x55, .ref h56, x57, x58, x59, x60, x61, x62, x63, x64, x65, x66, x67, x68, x69, x70, x71, x72, x73, x74])), (h11, .inl (aC 0, 14, .inl (fun _ => 0)))] := hD
  try dsimp only at hw
  subst hw
  refine lv_istore (lv' := [(4, .int 0), (3, .int 0), (2, .int (-1)), (0, .ref h1), (1, .int 1)]) hx hb dX11_plan_33 hl (by decide) rfl (fun ls hl => ?_)
  refine lv_iload_n hx hb dX11_plan_35 rfl (lv_at hl 1 rfl) ?_
  refine lv_aload_n hx hb dX11_plan_36 rfl (lv_at hl 3 rfl) ?_
  refine xget F hP 1 rfl rfl inX11 55 (by decide) tb1237 rfl dX11_plan_37 ?_
  refine lv_iconst (v := 0) hx hb dX11_plan_40 (by decide) ?_
  refine xilo (v := 0) F hP 0 rfl 0 (by decide +kernel) (by decide +kernel) (by decide) (by decide +kernel) dX11_plan_41 ?_
  refine lv_iand hx hb dX11_plan_42 ?_
  refine relit (v := 0) (by decide +kernel) ?_
  refine lv_if_ne (tgt := 92) hx hb dX11_plan_43 (by decide) (fun c_ => absurd (by decide +kernel) c_) (fun _ => ?_)
  refine lv_iload hx hb dX11_plan_46 (lv_at hl 0 rfl) ?_
  refine lv_aload_n hx hb dX11_plan_48 rfl (lv_at hl 3 rfl) ?_
  refine xget F hP 1 rfl rfl inX11 55 (by decide) tb1237 rfl dX11_plan_49 ?_
  refine lv_bipush (v := 10) hx hb dX11_plan_52 (by decide) ?_
  refine xilo (v := 0) F hP 0 rfl 10 (by decide +kernel) (by decide +kernel) (by decide) (by decide +kernel) dX11_plan_54 ?_
  refine lv_icmp_gt (tgt := 92) hx hb dX11_plan_55 (by decide) (fun c_ => absurd c_ (by decide +kernel)) (fun _ => ?_)
  refine lv_iload_n hx hb dX11_plan_58 rfl (lv_at hl 2 rfl) ?_
  refine lv_if_lt (tgt := 75) hx hb dX11_plan_59 (by decide) (fun _ => ?_) (fun c_ => absurd (by decide +kernel) c_)
  refine lv_aload_n hx hb dX11_plan_75 rfl (lv_at hl 3 rfl) ?_
  refine lv_aload_n hx hb dX11_plan_76 rfl (lv_at hl 3 rfl) ?_
  refine xget F hP 1 rfl rfl inX11 55 (by decide) tb1237 rfl dX11_plan_77 ?_
  refine lv_iconst (v := 0) hx hb dX11_plan_80 (by decide) ?_
  refine xilo (v := 0) F hP 0 rfl 0 (by decide +kernel) (by decide +kernel) (by decide) (by decide +kernel) dX11_plan_81 ?_
  refine lv_iload_n hx hb dX11_plan_82 rfl (lv_at hl 1 rfl) ?_
  refine lv_ior hx hb dX11_plan_83 ?_
  refine relit (v := 0) (by decide +kernel) ?_
  refine goI (wr := [(h56, .inl (aC 0, 13, .inl (fun _ => 0)))]) (runV (n := 1) (As := [.int 0]) (rest := []) F hP hD hS (a_X11_cutBy_1 l g aC aM h1 h11 (.int 0) x2 x3 x4 x5 x6 x7 x8 x9 x10 x12 x13 x14 x15 x16 x17 x18 x19 x20 x21 x22 x23 x24 x25 x26 x27 x28 x29 x30 x31 x32 x33 x34 x35 x36 x37 x38 x39 x40 x41 x42 x43 x44 x45 x46 x47 x48 x49 x50 x51 x52 x53 x54 x55 (.ref h56) x57 x58 x59 x60 x61 x62 x63 x64 x65 x66 x67 x68 x69 x70 x71 x72 x73 x74) [1, 2] (by decide) rfl 1 11 rfl rfl rfl tb1677 tb1674 tb1676 tv79 tb17 ⟨by decide, by decide, by decide +kernel⟩ ⟨Nat.le_of_ble_eq_true rfl, Nat.le_of_ble_eq_true rfl⟩ rfl hl.1 rfl (Nat.le_of_ble_eq_true rfl) dX11_plan_84 ⟨Nat.le_of_ble_eq_true rfl, Nat.le_of_ble_eq_true rfl⟩) hP hD hS hA [1, 2] [0] rfl rfl (by decide) (by decide) (fun r_16 w17 H locs hw hP hD hS => ?_)
  have hP : va_P g vwCl [(h56, .inl (aC 0, 13, .inl (fun _ => 0))), (h1, .inr (11, [.int 0, x2, x3, x4, x5, x6, x7, x8, x9, x10, .ref h11, x12, x13, x14, x15, x16, x17, x18, x19, x20, x21, x22, x23, x24, x25, x26, x27, x28, x29, x30, x31, x32, x33, x34, x35, x36, x37, x38, x39, x40, x41, x42, x43, x44, x45, x46, x47, x48, x49, x50, x51, x52, x53, x54, x55, .ref h56, x57, x58, x59, x60, x61, x62, x63, x64, x65, x66, x67, x68, x69, x70, x71, x72, x73, x74])), (h11, .inl (aC 0, 14, .inl (fun _ => 0)))] H := hP
  have hD : va_D A [(h56, .inl (aC 0, 13, .inl (fun _ => 0))), (h1, .inr (11, [.int 0, x2, x3, x4, x5, x6, x7, x8, x9, x10, .ref h11, x12, x13, x14, x15, x16, x17, x18, x19, x20, x21, x22, x23, x24, x25, x26, x27, x28, x29, x30, x31, x32, x33, x34, x35, x36, x37, x38, x39, x40, x41, x42, x43, x44, x45, x46, x47, x48, x49, x50, x51, x52, x53, x54, x55, .ref h56, x57, x58, x59, x60, x61, x62, x63, x64, x65, x66, x67, x68, x69, x70, x71, x72, x73, x74])), (h11, .inl (aC 0, 14, .inl (fun _ => 0)))] := hD
  try dsimp only at hw
  subst hw
  refine lv_if_ne (tgt := 92) hx hb dX11_plan_87 (by decide) (fun c_ => absurd (by decide +kernel) c_) (fun _ => ?_)
  refine lv_iload_n hx hb dX11_plan_90 rfl (lv_at hl 1 rfl) ?_
  refine lv_istore_n (lv' := [(2, .int 0), (4, .int 0), (3, .int 0), (0, .ref h1), (1, .int 1)]) hx hb dX11_plan_91 rfl hl (by decide) rfl (fun ls hl => ?_)
  refine lv_iinc (v := 1) (lv' := [(3, .int 1), (2, .int 0), (4, .int 0), (0, .ref h1), (1, .int 1)]) hx hb dX11_plan_92 hl (k := 2) rfl (by decide +kernel) (by decide) rfl (fun ls hl => ?_)
  refine lv_goto (tgt := 20) hx hb dX11_plan_95 (by decide) ?_
  refine lv_iload_n hx hb dX11_plan_20 rfl (lv_at hl 0 rfl) ?_
  refine lv_aload_n hx hb dX11_plan_21 rfl (lv_at hl 3 rfl) ?_
  refine goI (wr := [(h56, .inl (aC 0, 13, .inl (fun _ => 0)))]) (runV (n := 0) (As := []) (rest := [.int 1]) F hP hD hS (a_X11_allFlights_2 l g aC aM h1 h11 (.int 0) x2 x3 x4 x5 x6 x7 x8 x9 x10 x12 x13 x14 x15 x16 x17 x18 x19 x20 x21 x22 x23 x24 x25 x26 x27 x28 x29 x30 x31 x32 x33 x34 x35 x36 x37 x38 x39 x40 x41 x42 x43 x44 x45 x46 x47 x48 x49 x50 x51 x52 x53 x54 x55 (.ref h56) x57 x58 x59 x60 x61 x62 x63 x64 x65 x66 x67 x68 x69 x70 x71 x72 x73 x74) [1, 2] (by decide) rfl 1 11 rfl rfl rfl tb1592 tb1589 tb1591 tv65 tb17 ⟨by decide, by decide, by decide +kernel⟩ ⟨Nat.le_of_ble_eq_true rfl, Nat.le_of_ble_eq_true rfl⟩ rfl hl.1 rfl (Nat.le_of_ble_eq_true rfl) dX11_plan_22 ⟨Nat.le_of_ble_eq_true rfl, Nat.le_of_ble_eq_true rfl⟩) hP hD hS hA [1, 2] [0] rfl rfl (by decide) (by decide) (fun r_20 w21 H locs hw hP hD hS => ?_)
  have hP : va_P g vwCl [(h56, .inl (aC 0, 13, .inl (fun _ => 0))), (h1, .inr (11, [.int 0, x2, x3, x4, x5, x6, x7, x8, x9, x10, .ref h11, x12, x13, x14, x15, x16, x17, x18, x19, x20, x21, x22, x23, x24, x25, x26, x27, x28, x29, x30, x31, x32, x33, x34, x35, x36, x37, x38, x39, x40, x41, x42, x43, x44, x45, x46, x47, x48, x49, x50, x51, x52, x53, x54, x55, .ref h56, x57, x58, x59, x60, x61, x62, x63, x64, x65, x66, x67, x68, x69, x70, x71, x72, x73, x74])), (h11, .inl (aC 0, 14, .inl (fun _ => 0)))] H := hP
  have hD : va_D A [(h56, .inl (aC 0, 13, .inl (fun _ => 0))), (h1, .inr (11, [.int 0, x2, x3, x4, x5, x6, x7, x8, x9, x10, .ref h11, x12, x13, x14, x15, x16, x17, x18, x19, x20, x21, x22, x23, x24, x25, x26, x27, x28, x29, x30, x31, x32, x33, x34, x35, x36, x37, x38, x39, x40, x41, x42, x43, x44, x45, x46, x47, x48, x49, x50, x51, x52, x53, x54, x55, .ref h56, x57, x58, x59, x60, x61, x62, x63, x64, x65, x66, x67, x68, x69, x70, x71, x72, x73, x74])), (h11, .inl (aC 0, 14, .inl (fun _ => 0)))] := hD
  try dsimp only at hw
  subst hw
  refine lv_icmp_gt (tgt := 98) hx hb dX11_plan_25 (by decide) (fun _ => ?_) (fun c_ => absurd (by decide +kernel) c_)
  refine lv_iload_n hx hb dX11_plan_98 rfl (lv_at hl 1 rfl) ?_
  refine lv_if_lt (tgt := 107) hx hb dX11_plan_99 (by decide) (fun c_ => absurd c_ (by decide +kernel)) (fun _ => ?_)
  refine lv_iload_n hx hb dX11_plan_102 rfl (lv_at hl 4 rfl) ?_
  refine lv_iconst (v := 1) hx hb dX11_plan_103 (by decide) ?_
  refine lv_icmp_ne (tgt := 111) hx hb dX11_plan_104 (by decide) (fun c_ => absurd (by decide +kernel) c_) (fun _ => ?_)
  refine lv_iload_n hx hb dX11_plan_107 rfl (lv_at hl 1 rfl) ?_
  refine lv_goto (tgt := 116) hx hb dX11_plan_108 (by decide) ?_
  have hP9 := hP.sub (ws' := []) [] rfl
  have hD9 := hD.sub (ws' := []) [] (by decide) rfl
  exact rI () hx hb hr hlk rfl hS rfl hP9 hD9 (Nat.le_of_ble_eq_true rfl) (Nat.le_of_ble_eq_true rfl) dX11_plan_116
