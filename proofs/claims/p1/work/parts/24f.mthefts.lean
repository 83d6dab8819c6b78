theorem dX11_isFromTop_0 : decode cX11_isFromTop 0 = .ok (.iconst 0, 1) := by decide +kernel
theorem dX11_isFromTop_1 : decode cX11_isFromTop 1 = .ok (.istore_n 2, 1) := by decide +kernel
theorem dX11_isFromTop_2 : decode cX11_isFromTop 2 = .ok (.iload_n 2, 1) := by decide +kernel
theorem dX11_isFromTop_3 : decode cX11_isFromTop 3 = .ok (.aload_n 0, 1) := by decide +kernel
theorem dX11_isFromTop_4 : decode cX11_isFromTop 4 = .ok (.getfield 13, 3) := by decide +kernel
theorem dX11_isFromTop_7 : decode cX11_isFromTop 7 = .ok (.iconst 1, 1) := by decide +kernel
theorem dX11_isFromTop_8 : decode cX11_isFromTop 8 = .ok (.iaload, 1) := by decide +kernel
theorem dX11_isFromTop_9 : decode cX11_isFromTop 9 = .ok (.if_icmp .ge 39, 3) := by decide +kernel
theorem dX11_isFromTop_48 : decode cX11_isFromTop 48 = .ok (.iconst 1, 1) := by decide +kernel
theorem dX11_isFromTop_49 : decode cX11_isFromTop 49 = .ok (.ireturn, 1) := by decide +kernel
theorem dX11_thefts_0 : decode cX11_thefts 0 = .ok (.aload_n 0, 1) := by decide +kernel
theorem dX11_thefts_1 : decode cX11_thefts 1 = .ok (.iconst 0, 1) := by decide +kernel
theorem dX11_thefts_2 : decode cX11_thefts 2 = .ok (.putfield 180, 3) := by decide +kernel
theorem dX11_thefts_5 : decode cX11_thefts 5 = .ok (.iload_n 1, 1) := by decide +kernel
theorem dX11_thefts_6 : decode cX11_thefts 6 = .ok (.iconst 0, 1) := by decide +kernel
theorem dX11_thefts_7 : decode cX11_thefts 7 = .ok (.bipush 10, 2) := by decide +kernel
theorem dX11_thefts_9 : decode cX11_thefts 9 = .ok (.invokestatic 313, 3) := by decide +kernel
theorem dX11_thefts_12 : decode cX11_thefts 12 = .ok (.ifCond .eq 21, 3) := by decide +kernel
theorem dX11_thefts_15 : decode cX11_thefts 15 = .ok (.iload_n 2, 1) := by decide +kernel
theorem dX11_thefts_16 : decode cX11_thefts 16 = .ok (.iconst 0, 1) := by decide +kernel
theorem dX11_thefts_17 : decode cX11_thefts 17 = .ok (.iconst 5, 1) := by decide +kernel
theorem dX11_thefts_18 : decode cX11_thefts 18 = .ok (.invokestatic 313, 3) := by decide +kernel
theorem dX11_thefts_21 : decode cX11_thefts 21 = .ok (.ifCond .eq 12, 3) := by decide +kernel
theorem dX11_thefts_24 : decode cX11_thefts 24 = .ok (.iload_n 3, 1) := by decide +kernel
theorem dX11_thefts_25 : decode cX11_thefts 25 = .ok (.iconst 0, 1) := by decide +kernel
theorem dX11_thefts_26 : decode cX11_thefts 26 = .ok (.iconst 1, 1) := by decide +kernel
theorem dX11_thefts_27 : decode cX11_thefts 27 = .ok (.invokestatic 313, 3) := by decide +kernel
theorem dX11_thefts_30 : decode cX11_thefts 30 = .ok (.ifCond .ne 5, 3) := by decide +kernel
theorem dX11_thefts_33 : decode cX11_thefts 33 = .ok (.iconst (-1), 1) := by decide +kernel
theorem dX11_thefts_34 : decode cX11_thefts 34 = .ok (.ireturn, 1) := by decide +kernel
theorem dX11_thefts_35 : decode cX11_thefts 35 = .ok (.iconst (-1), 1) := by decide +kernel
theorem dX11_thefts_36 : decode cX11_thefts 36 = .ok (.istore 4, 2) := by decide +kernel
theorem dX11_thefts_38 : decode cX11_thefts 38 = .ok (.iconst 0, 1) := by decide +kernel
theorem dX11_thefts_39 : decode cX11_thefts 39 = .ok (.istore 5, 2) := by decide +kernel
theorem dX11_thefts_41 : decode cX11_thefts 41 = .ok (.iload 5, 2) := by decide +kernel
theorem dX11_thefts_43 : decode cX11_thefts 43 = .ok (.aload_n 0, 1) := by decide +kernel
theorem dX11_thefts_44 : decode cX11_thefts 44 = .ok (.invokevirtual 404, 3) := by decide +kernel
theorem dX11_thefts_47 : decode cX11_thefts 47 = .ok (.if_icmp .gt 120, 3) := by decide +kernel
theorem dX11_thefts_50 : decode cX11_thefts 50 = .ok (.iload 5, 2) := by decide +kernel
theorem dX11_thefts_52 : decode cX11_thefts 52 = .ok (.aload_n 0, 1) := by decide +kernel
theorem dX11_thefts_53 : decode cX11_thefts 53 = .ok (.getfield 141, 3) := by decide +kernel
theorem dX11_thefts_56 : decode cX11_thefts 56 = .ok (.iconst 0, 1) := by decide +kernel
theorem dX11_thefts_57 : decode cX11_thefts 57 = .ok (.iaload, 1) := by decide +kernel
theorem dX11_thefts_58 : decode cX11_thefts 58 = .ok (.iconst (-1), 1) := by decide +kernel
theorem dX11_thefts_59 : decode cX11_thefts 59 = .ok (.ixor, 1) := by decide +kernel
theorem dX11_thefts_60 : decode cX11_thefts 60 = .ok (.iand, 1) := by decide +kernel
theorem dX11_thefts_61 : decode cX11_thefts 61 = .ok (.ifCond .ne 100, 3) := by decide +kernel
theorem dX11_thefts_64 : decode cX11_thefts 64 = .ok (.iload 5, 2) := by decide +kernel
theorem dX11_thefts_66 : decode cX11_thefts 66 = .ok (.invokestatic 471, 3) := by decide +kernel
theorem dX11_thefts_69 : decode cX11_thefts 69 = .ok (.iload_n 1, 1) := by decide +kernel
theorem dX11_thefts_70 : decode cX11_thefts 70 = .ok (.if_icmp .gt 91, 3) := by decide +kernel
theorem dX11_thefts_73 : decode cX11_thefts 73 = .ok (.aload_n 0, 1) := by decide +kernel
theorem dX11_thefts_74 : decode cX11_thefts 74 = .ok (.iload 5, 2) := by decide +kernel
theorem dX11_thefts_76 : decode cX11_thefts 76 = .ok (.invokevirtual 514, 3) := by decide +kernel
set_option maxHeartbeats 4000000 in
set_option maxRecDepth 100000 in
theorem a_X11_isFromTop_1 (l : Launch) (g : va_G) (aC : Nat → ClassId) (aM : Nat → Nat) (h1 h12 : Nat) (x2 x3 x4 x5 x6 x7 x8 x9 x10 x11 x13 x14 x15 x16 x17 x18 x19 x20 x21 x22 x23 x24 x25 x26 x27 x28 x29 x30 x31 x32 x33 x34 x35 x36 x37 x38 x39 x40 x41 x42 x43 x44 x45 x46 x47 x48 x49 x50 x51 x52 x53 x54 x55 x56 x57 x58 x59 x60 x61 x62 x63 x64 x65 x66 x67 x68 x69 x70 x71 x72 x73 x74 x75 : Value) : Ct l g aC aM yX11_isFromTop cX11_isFromTop 3 (some .boolean) 1 [.ref h1, .int 0] [(h1, .inr (11, [x2, x3, x4, x5, x6, x7, x8, x9, x10, x11, .ref h12, x13, x14, x15, x16, x17, x18, x19, x20, x21, x22, x23, x24, x25, x26, x27, x28, x29, x30, x31, x32, x33, x34, x35, x36, x37, x38, x39, x40, x41, x42, x43, x44, x45, x46, x47, x48, x49, x50, x51, x52, x53, x54, x55, x56, x57, x58, x59, x60, x61, x62, x63, x64, x65, x66, x67, x68, x69, x70, x71, x72, x73, x74, x75])), (h12, .inl (aC 0, 14, .inl (fun _ => 0)))] (QI g (fun (r : Int32) (_ : Unit) => r = 1) (fun (_ : Unit) => [(h1, .inr (11, [x2, x3, x4, x5, x6, x7, x8, x9, x10, x11, .ref h12, x13, x14, x15, x16, x17, x18, x19, x20, x21, x22, x23, x24, x25, x26, x27, x28, x29, x30, x31, x32, x33, x34, x35, x36, x37, x38, x39, x40, x41, x42, x43, x44, x45, x46, x47, x48, x49, x50, x51, x52, x53, x54, x55, x56, x57, x58, x59, x60, x61, x62, x63, x64, x65, x66, x67, x68, x69, x70, x71, x72, x73, x74, x75])), (h12, .inl (aC 0, 14, .inl (fun _ => 0)))])) 0 0 := by
  refine Ct.mk (by decide) (Nat.le_of_ble_eq_true rfl) ?_
  intro p e s m below meth c A ls hx hb hml hown hts hr hlk hnm hK hA hM hM2 hP hD hS hl
  have hown : s.vm.findClass RX11 = some m.cls := hown
  have F : Fx p s m _ c cX11_isFromTop 3 RX11 g aC aM A := ⟨hx, hb, hml, hown, hts, hK, hA, hM, hM2⟩
  have hl : lv_has ls 3 [(0, .ref h1), (1, .int 0)] := hl
  refine lv_iconst (v := 0) hx hb dX11_isFromTop_0 (by decide) ?_
  refine lv_istore_n (lv' := [(2, .int 0), (0, .ref h1), (1, .int 0)]) hx hb dX11_isFromTop_1 rfl hl (by decide) rfl (fun ls hl => ?_)
  refine lv_iload_n hx hb dX11_isFromTop_2 rfl (lv_at hl 0 rfl) ?_
  refine lv_aload_n hx hb dX11_isFromTop_3 rfl (lv_at hl 1 rfl) ?_
  refine xget F hP 0 rfl rfl inX11 10 (by decide) tb1192 rfl dX11_isFromTop_4 ?_
  refine lv_iconst (v := 1) hx hb dX11_isFromTop_7 (by decide) ?_
  refine xilo (v := 0) F hP 1 rfl 1 (by decide +kernel) (by decide +kernel) (by decide) (by decide +kernel) dX11_isFromTop_8 ?_
  refine lv_icmp_ge (tgt := 48) hx hb dX11_isFromTop_9 (by decide) (fun _ => ?_) (fun c_ => absurd (by decide +kernel) c_)
  refine lv_iconst (v := 1) hx hb dX11_isFromTop_48 (by decide) ?_
  have hP9 := hP.sub (ws' := [(h1, .inr (11, [x2, x3, x4, x5, x6, x7, x8, x9, x10, x11, .ref h12, x13, x14, x15, x16, x17, x18, x19, x20, x21, x22, x23, x24, x25, x26, x27, x28, x29, x30, x31, x32, x33, x34, x35, x36, x37, x38, x39, x40, x41, x42, x43, x44, x45, x46, x47, x48, x49, x50, x51, x52, x53, x54, x55, x56, x57, x58, x59, x60, x61, x62, x63, x64, x65, x66, x67, x68, x69, x70, x71, x72, x73, x74, x75])), (h12, .inl (aC 0, 14, .inl (fun _ => 0)))]) [0, 1] rfl
  have hD9 := hD.sub (ws' := [(h1, .inr (11, [x2, x3, x4, x5, x6, x7, x8, x9, x10, x11, .ref h12, x13, x14, x15, x16, x17, x18, x19, x20, x21, x22, x23, x24, x25, x26, x27, x28, x29, x30, x31, x32, x33, x34, x35, x36, x37, x38, x39, x40, x41, x42, x43, x44, x45, x46, x47, x48, x49, x50, x51, x52, x53, x54, x55, x56, x57, x58, x59, x60, x61, x62, x63, x64, x65, x66, x67, x68, x69, x70, x71, x72, x73, x74, x75])), (h12, .inl (aC 0, 14, .inl (fun _ => 0)))]) [0, 1] (by decide) rfl
  exact rI () hx hb hr hlk rfl hS rfl hP9 hD9 (Nat.le_of_ble_eq_true rfl) (Nat.le_of_ble_eq_true rfl) dX11_isFromTop_49

theorem tb1795 : (Jvm.Cond.methodLink "StairGangModel" (514 : Nat) ({ cls := "StairGangModel", name := "isFromTop", desc := "(I)Z" } : Jvm.MethodName)) ∈ gw := lw_m 1795 (by decide +kernel)
theorem tb1797 : (Jvm.Cond.instanceMethod ({ cls := "StairGangModel", name := "isFromTop", desc := "(I)Z" } : Jvm.MethodName)) ∈ gw := lw_m 1797 (by decide +kernel)
theorem tb1798 : (Jvm.Cond.code ({ cls := "StairGangModel", name := "isFromTop", desc := "(I)Z" } : Jvm.MethodName) prog_13_method_95_code (3 : Nat) (Option.some Jvm.ClassFile.FieldType.boolean)) ∈ gw := lw_m 1798 (by decide +kernel)
theorem tv97 : Cond.selects "StairGangModel" ⟨"StairGangModel", "isFromTop", "(I)Z"⟩ ⟨"StairGangModel", "isFromTop", "(I)Z"⟩ ∈ gw := lw_v 97 (by decide +kernel)
theorem dX11_thefts_79 : decode cX11_thefts 79 = .ok (.ifCond .ne 6, 3) := by decide +kernel
theorem dX11_thefts_85 : decode cX11_thefts 85 = .ok (.iload 4, 2) := by decide +kernel
theorem dX11_thefts_87 : decode cX11_thefts 87 = .ok (.ifCond .ge 7, 3) := by decide +kernel
theorem dX11_thefts_90 : decode cX11_thefts 90 = .ok (.iconst 1, 1) := by decide +kernel
theorem dX11_thefts_91 : decode cX11_thefts 91 = .ok (.goto 16, 3) := by decide +kernel
theorem dX11_thefts_107 : decode cX11_thefts 107 = .ok (.istore 6, 2) := by decide +kernel
theorem dX11_thefts_109 : decode cX11_thefts 109 = .ok (.iload 6, 2) := by decide +kernel
theorem dX11_thefts_111 : decode cX11_thefts 111 = .ok (.ifCond .lt 50, 3) := by decide +kernel
theorem dX11_thefts_114 : decode cX11_thefts 114 = .ok (.iload 6, 2) := by decide +kernel
theorem dX11_thefts_116 : decode cX11_thefts 116 = .ok (.ifCond .ne 19, 3) := by decide +kernel
theorem dX11_thefts_135 : decode cX11_thefts 135 = .ok (.aload_n 0, 1) := by decide +kernel
theorem dX11_thefts_136 : decode cX11_thefts 136 = .ok (.aload_n 0, 1) := by decide +kernel
theorem dX11_thefts_137 : decode cX11_thefts 137 = .ok (.getfield 141, 3) := by decide +kernel
theorem dX11_thefts_140 : decode cX11_thefts 140 = .ok (.iconst 0, 1) := by decide +kernel
theorem dX11_thefts_141 : decode cX11_thefts 141 = .ok (.iaload, 1) := by decide +kernel
theorem dX11_thefts_142 : decode cX11_thefts 142 = .ok (.iload 5, 2) := by decide +kernel
theorem dX11_thefts_144 : decode cX11_thefts 144 = .ok (.iconst (-1), 1) := by decide +kernel
theorem dX11_thefts_145 : decode cX11_thefts 145 = .ok (.ixor, 1) := by decide +kernel
theorem dX11_thefts_146 : decode cX11_thefts 146 = .ok (.iand, 1) := by decide +kernel
theorem dX11_thefts_147 : decode cX11_thefts 147 = .ok (.invokevirtual 461, 3) := by decide +kernel
theorem dX11_thefts_150 : decode cX11_thefts 150 = .ok (.invokestatic 471, 3) := by decide +kernel
theorem dX11_thefts_153 : decode cX11_thefts 153 = .ok (.iload_n 2, 1) := by decide +kernel
theorem dX11_thefts_154 : decode cX11_thefts 154 = .ok (.if_icmp .gt 7, 3) := by decide +kernel
theorem dX11_thefts_157 : decode cX11_thefts 157 = .ok (.iload 5, 2) := by decide +kernel
theorem dX11_thefts_159 : decode cX11_thefts 159 = .ok (.istore 4, 2) := by decide +kernel
theorem dX11_thefts_161 : decode cX11_thefts 161 = .ok (.iinc 5 1, 3) := by decide +kernel
theorem dX11_thefts_164 : decode cX11_thefts 164 = .ok (.goto (-123), 3) := by decide +kernel
theorem dX11_thefts_167 : decode cX11_thefts 167 = .ok (.iload 4, 2) := by decide +kernel
theorem dX11_thefts_169 : decode cX11_thefts 169 = .ok (.ifCond .lt 8, 3) := by decide +kernel
theorem dX11_thefts_172 : decode cX11_thefts 172 = .ok (.iload_n 3, 1) := by decide +kernel
theorem dX11_thefts_173 : decode cX11_thefts 173 = .ok (.iconst 1, 1) := by decide +kernel
theorem dX11_thefts_174 : decode cX11_thefts 174 = .ok (.if_icmp .ne 8, 3) := by decide +kernel
theorem dX11_thefts_177 : decode cX11_thefts 177 = .ok (.iload 4, 2) := by decide +kernel
theorem dX11_thefts_179 : decode cX11_thefts 179 = .ok (.goto 9, 3) := by decide +kernel
theorem dX11_thefts_182 : decode cX11_thefts 182 = .ok (.aload_n 0, 1) := by decide +kernel
theorem dX11_thefts_183 : decode cX11_thefts 183 = .ok (.iload 4, 2) := by decide +kernel
theorem dX11_thefts_185 : decode cX11_thefts 185 = .ok (.invokevirtual 511, 3) := by decide +kernel
theorem dX11_thefts_188 : decode cX11_thefts 188 = .ok (.ireturn, 1) := by decide +kernel
set_option maxHeartbeats 4000000 in
set_option maxRecDepth 100000 in
theorem m_thefts_1lo (l : Launch) (g : va_G) (aC : Nat → ClassId) (aM : Nat → Nat) (h1 h11 h56 : Nat) (x2 x3 x4 x5 x6 x7 x8 x9 x10 x12 x13 x14 x15 x16 x17 x18 x19 x20 x21 x22 x23 x24 x25 x26 x27 x28 x29 x30 x31 x32 x33 x34 x35 x36 x37 x38 x39 x40 x41 x42 x43 x44 x45 x46 x47 x48 x49 x50 x51 x52 x53 x54 x55 x57 x58 x59 x60 x61 x62 x63 x64 x65 x66 x67 x68 x69 x70 x71 x72 x73 x74 : Value) (n_1 n_2 n_3 : Int32) (hh1 : n_1 ≤ (-1)) : Ct l g aC aM yX11_thefts cX11_thefts 7 (some .int) 2 [.ref h1, .int n_1, .int n_2, .int n_3] [(h1, .inr (11, [.int 0, x2, x3, x4, x5, x6, x7, x8, x9, x10, .ref h11, x12, x13, x14, x15, x16, x17, x18, x19, x20, x21, x22, x23, x24, x25, x26, x27, x28, x29, x30, x31, x32, x33, x34, x35, x36, x37, x38, x39, x40, x41, x42, x43, x44, x45, x46, x47, x48, x49, x50, x51, x52, x53, x54, x55, .ref h56, x57, x58, x59, x60, x61, x62, x63, x64, x65, x66, x67, x68, x69, x70, x71, x72, x73, x74])), (h11, .inl (aC 0, 14, .inl (fun _ => 0))), (h56, .inl (aC 0, 13, .inl (fun _ => 0)))] (QI g (fun (r : Int32) (_ : Unit) => r = (-1)) (fun (_ : Unit) => [])) 0 0 := by
  refine Ct.mk (by decide) (Nat.le_of_ble_eq_true rfl) ?_
  intro p e s m below meth c A ls hx hb hml hown hts hr hlk hnm hK hA hM hM2 hP hD hS hl
  have hown : s.vm.findClass RX11 = some m.cls := hown
  have F : Fx p s m _ c cX11_thefts 7 RX11 g aC aM A := ⟨hx, hb, hml, hown, hts, hK, hA, hM, hM2⟩
  have hl : lv_has ls 7 [(0, .ref h1), (1, .int n_1), (2, .int n_2), (3, .int n_3)] := hl
  refine lv_aload_n hx hb dX11_thefts_0 rfl (lv_at hl 0 rfl) ?_
  refine lv_iconst (v := 0) hx hb dX11_thefts_1 (by decide) ?_
  refine xput F hP hD hS 0 rfl rfl inX11 tyX11_ok nmX11 0 (by decide) tb1182 rfl rfl rfl (Nat.le_of_ble_eq_true rfl) dX11_thefts_2 (fun H locs hP hD hS => ?_)
  have hP : va_P g vwCl [(h1, .inr (11, [.int 0, x2, x3, x4, x5, x6, x7, x8, x9, x10, .ref h11, x12, x13, x14, x15, x16, x17, x18, x19, x20, x21, x22, x23, x24, x25, x26, x27, x28, x29, x30, x31, x32, x33, x34, x35, x36, x37, x38, x39, x40, x41, x42, x43, x44, x45, x46, x47, x48, x49, x50, x51, x52, x53, x54, x55, .ref h56, x57, x58, x59, x60, x61, x62, x63, x64, x65, x66, x67, x68, x69, x70, x71, x72, x73, x74])), (h11, .inl (aC 0, 14, .inl (fun _ => 0))), (h56, .inl (aC 0, 13, .inl (fun _ => 0)))] H := hP
  have hD : va_D A [(h1, .inr (11, [.int 0, x2, x3, x4, x5, x6, x7, x8, x9, x10, .ref h11, x12, x13, x14, x15, x16, x17, x18, x19, x20, x21, x22, x23, x24, x25, x26, x27, x28, x29, x30, x31, x32, x33, x34, x35, x36, x37, x38, x39, x40, x41, x42, x43, x44, x45, x46, x47, x48, x49, x50, x51, x52, x53, x54, x55, .ref h56, x57, x58, x59, x60, x61, x62, x63, x64, x65, x66, x67, x68, x69, x70, x71, x72, x73, x74])), (h11, .inl (aC 0, 14, .inl (fun _ => 0))), (h56, .inl (aC 0, 13, .inl (fun _ => 0)))] := hD
  refine lv_iload_n hx hb dX11_thefts_5 rfl (lv_at hl 1 rfl) ?_
  refine lv_iconst (v := 0) hx hb dX11_thefts_6 (by decide) ?_
  refine lv_bipush (v := 10) hx hb dX11_thefts_7 (by decide) ?_
  refine goI (wr := [(h1, .inr (11, [.int 0, x2, x3, x4, x5, x6, x7, x8, x9, x10, .ref h11, x12, x13, x14, x15, x16, x17, x18, x19, x20, x21, x22, x23, x24, x25, x26, x27, x28, x29, x30, x31, x32, x33, x34, x35, x36, x37, x38, x39, x40, x41, x42, x43, x44, x45, x46, x47, x48, x49, x50, x51, x52, x53, x54, x55, .ref h56, x57, x58, x59, x60, x61, x62, x63, x64, x65, x66, x67, x68, x69, x70, x71, x72, x73, x74])), (h11, .inl (aC 0, 14, .inl (fun _ => 0))), (h56, .inl (aC 0, 13, .inl (fun _ => 0)))]) (runS (n := 3) (As := [.int n_1, .int 0, .int 10]) (rest := []) F hP hD hS (k_within_lo l g aC aM n_1 0 10 (by have a0_ := hh1; simp only [Int32.lt_iff_toInt_lt, Int32.le_iff_toInt_le, ← Int32.toInt_inj, show (-1 : Int32).toInt = -1 by decide, show (0 : Int32).toInt = 0 by decide, show (10 : Int32).toInt = 10 by decide] at a0_ ⊢; omega)) [] (by decide) rfl tb1511 tb1509 tb1510 tb17 ⟨by decide, by decide, by decide +kernel⟩ ⟨Nat.le_of_ble_eq_true rfl, Nat.le_of_ble_eq_true rfl⟩ rfl hl.1 rfl (Nat.le_of_ble_eq_true rfl) dX11_thefts_9 ⟨Nat.le_of_ble_eq_true rfl, Nat.le_of_ble_eq_true rfl⟩) hP hD hS hA [] [0, 1, 2] rfl rfl (by decide) (by decide) (fun r_2 w3 H locs hw hP hD hS => ?_)
  have hP : va_P g vwCl [(h1, .inr (11, [.int 0, x2, x3, x4, x5, x6, x7, x8, x9, x10, .ref h11, x12, x13, x14, x15, x16, x17, x18, x19, x20, x21, x22, x23, x24, x25, x26, x27, x28, x29, x30, x31, x32, x33, x34, x35, x36, x37, x38, x39, x40, x41, x42, x43, x44, x45, x46, x47, x48, x49, x50, x51, x52, x53, x54, x55, .ref h56, x57, x58, x59, x60, x61, x62, x63, x64, x65, x66, x67, x68, x69, x70, x71, x72, x73, x74])), (h11, .inl (aC 0, 14, .inl (fun _ => 0))), (h56, .inl (aC 0, 13, .inl (fun _ => 0)))] H := hP
  have hD : va_D A [(h1, .inr (11, [.int 0, x2, x3, x4, x5, x6, x7, x8, x9, x10, .ref h11, x12, x13, x14, x15, x16, x17, x18, x19, x20, x21, x22, x23, x24, x25, x26, x27, x28, x29, x30, x31, x32, x33, x34, x35, x36, x37, x38, x39, x40, x41, x42, x43, x44, x45, x46, x47, x48, x49, x50, x51, x52, x53, x54, x55, .ref h56, x57, x58, x59, x60, x61, x62, x63, x64, x65, x66, x67, x68, x69, x70, x71, x72, x73, x74])), (h11, .inl (aC 0, 14, .inl (fun _ => 0))), (h56, .inl (aC 0, 13, .inl (fun _ => 0)))] := hD
  try dsimp only at hw
  subst hw
  refine lv_if_eq (tgt := 33) hx hb dX11_thefts_12 (by decide) (fun _ => ?_) (fun c_ => absurd (by decide +kernel) c_)
  refine lv_iconst (v := (-1)) hx hb dX11_thefts_33 (by decide) ?_
  have hP9 := hP.sub (ws' := []) [] rfl
  have hD9 := hD.sub (ws' := []) [] (by decide) rfl
  exact rI () hx hb hr hlk rfl hS rfl hP9 hD9 (Nat.le_of_ble_eq_true rfl) (Nat.le_of_ble_eq_true rfl) dX11_thefts_34

set_option maxHeartbeats 4000000 in
set_option maxRecDepth 100000 in
theorem m_thefts_1hi (l : Launch) (g : va_G) (aC : Nat → ClassId) (aM : Nat → Nat) (h1 h11 h56 : Nat) (x2 x3 x4 x5 x6 x7 x8 x9 x10 x12 x13 x14 x15 x16 x17 x18 x19 x20 x21 x22 x23 x24 x25 x26 x27 x28 x29 x30 x31 x32 x33 x34 x35 x36 x37 x38 x39 x40 x41 x42 x43 x44 x45 x46 x47 x48 x49 x50 x51 x52 x53 x54 x55 x57 x58 x59 x60 x61 x62 x63 x64 x65 x66 x67 x68 x69 x70 x71 x72 x73 x74 : Value) (n_1 n_2 n_3 : Int32) (hl1 : 11 ≤ n_1) : Ct l g aC aM yX11_thefts cX11_thefts 7 (some .int) 2 [.ref h1, .int n_1, .int n_2, .int n_3] [(h1, .inr (11, [.int 0, x2, x3, x4, x5, x6, x7, x8, x9, x10, .ref h11, x12, x13, x14, x15, x16, x17, x18, x19, x20, x21, x22, x23, x24, x25, x26, x27, x28, x29, x30, x31, x32, x33, x34, x35, x36, x37, x38, x39, x40, x41, x42, x43, x44, x45, x46, x47, x48, x49, x50, x51, x52, x53, x54, x55, .ref h56, x57, x58, x59, x60, x61, x62, x63, x64, x65, x66, x67, x68, x69, x70, x71, x72, x73, x74])), (h11, .inl (aC 0, 14, .inl (fun _ => 0))), (h56, .inl (aC 0, 13, .inl (fun _ => 0)))] (QI g (fun (r : Int32) (_ : Unit) => r = (-1)) (fun (_ : Unit) => [])) 0 0 := by
  refine Ct.mk (by decide) (Nat.le_of_ble_eq_true rfl) ?_
  intro p e s m below meth c A ls hx hb hml hown hts hr hlk hnm hK hA hM hM2 hP hD hS hl
  have hown : s.vm.findClass RX11 = some m.cls := hown
  have F : Fx p s m _ c cX11_thefts 7 RX11 g aC aM A := ⟨hx, hb, hml, hown, hts, hK, hA, hM, hM2⟩
  have hl : lv_has ls 7 [(0, .ref h1), (1, .int n_1), (2, .int n_2), (3, .int n_3)] := hl
  refine lv_aload_n hx hb dX11_thefts_0 rfl (lv_at hl 0 rfl) ?_
  refine lv_iconst (v := 0) hx hb dX11_thefts_1 (by decide) ?_
  refine xput F hP hD hS 0 rfl rfl inX11 tyX11_ok nmX11 0 (by decide) tb1182 rfl rfl rfl (Nat.le_of_ble_eq_true rfl) dX11_thefts_2 (fun H locs hP hD hS => ?_)
  have hP : va_P g vwCl [(h1, .inr (11, [.int 0, x2, x3, x4, x5, x6, x7, x8, x9, x10, .ref h11, x12, x13, x14, x15, x16, x17, x18, x19, x20, x21, x22, x23, x24, x25, x26, x27, x28, x29, x30, x31, x32, x33, x34, x35, x36, x37, x38, x39, x40, x41, x42, x43, x44, x45, x46, x47, x48, x49, x50, x51, x52, x53, x54, x55, .ref h56, x57, x58, x59, x60, x61, x62, x63, x64, x65, x66, x67, x68, x69, x70, x71, x72, x73, x74])), (h11, .inl (aC 0, 14, .inl (fun _ => 0))), (h56, .inl (aC 0, 13, .inl (fun _ => 0)))] H := hP
  have hD : va_D A [(h1, .inr (11, [.int 0, x2, x3, x4, x5, x6, x7, x8, x9, x10, .ref h11, x12, x13, x14, x15, x16, x17, x18, x19, x20, x21, x22, x23, x24, x25, x26, x27, x28, x29, x30, x31, x32, x33, x34, x35, x36, x37, x38, x39, x40, x41, x42, x43, x44, x45, x46, x47, x48, x49, x50, x51, x52, x53, x54, x55, .ref h56, x57, x58, x59, x60, x61, x62, x63, x64, x65, x66, x67, x68, x69, x70, x71, x72, x73, x74])), (h11, .inl (aC 0, 14, .inl (fun _ => 0))), (h56, .inl (aC 0, 13, .inl (fun _ => 0)))] := hD
  refine lv_iload_n hx hb dX11_thefts_5 rfl (lv_at hl 1 rfl) ?_
  refine lv_iconst (v := 0) hx hb dX11_thefts_6 (by decide) ?_
  refine lv_bipush (v := 10) hx hb dX11_thefts_7 (by decide) ?_
  refine goI (wr := [(h1, .inr (11, [.int 0, x2, x3, x4, x5, x6, x7, x8, x9, x10, .ref h11, x12, x13, x14, x15, x16, x17, x18, x19, x20, x21, x22, x23, x24, x25, x26, x27, x28, x29, x30, x31, x32, x33, x34, x35, x36, x37, x38, x39, x40, x41, x42, x43, x44, x45, x46, x47, x48, x49, x50, x51, x52, x53, x54, x55, .ref h56, x57, x58, x59, x60, x61, x62, x63, x64, x65, x66, x67, x68, x69, x70, x71, x72, x73, x74])), (h11, .inl (aC 0, 14, .inl (fun _ => 0))), (h56, .inl (aC 0, 13, .inl (fun _ => 0)))]) (runS (n := 3) (As := [.int n_1, .int 0, .int 10]) (rest := []) F hP hD hS (k_within_hi l g aC aM n_1 0 10 (by have a0_ := hl1; simp only [Int32.lt_iff_toInt_lt, Int32.le_iff_toInt_le, ← Int32.toInt_inj, show (0 : Int32).toInt = 0 by decide, show (10 : Int32).toInt = 10 by decide, show (11 : Int32).toInt = 11 by decide] at a0_ ⊢; omega) (by have a0_ := hl1; simp only [Int32.lt_iff_toInt_lt, Int32.le_iff_toInt_le, ← Int32.toInt_inj, show (0 : Int32).toInt = 0 by decide, show (10 : Int32).toInt = 10 by decide, show (11 : Int32).toInt = 11 by decide] at a0_ ⊢; omega)) [] (by decide) rfl tb1511 tb1509 tb1510 tb17 ⟨by decide, by decide, by decide +kernel⟩ ⟨Nat.le_of_ble_eq_true rfl, Nat.le_of_ble_eq_true rfl⟩ rfl hl.1 rfl (Nat.le_of_ble_eq_true rfl) dX11_thefts_9 ⟨Nat.le_of_ble_eq_true rfl, Nat.le_of_ble_eq_true rfl⟩) hP hD hS hA [] [0, 1, 2] rfl rfl (by decide) (by decide) (fun r_2 w3 H locs hw hP hD hS => ?_)
  have hP : va_P g vwCl [(h1, .inr (11, [.int 0, x2, x3, x4, x5, x6, x7, x8, x9, x10, .ref h11, x12, x13, x14, x15, x16, x17, x18, x19, x20, x21, x22, x23, x24, x25, x26, x27, x28, x29, x30, x31, x32, x33, x34, x35, x36, x37, x38, x39, x40, x41, x42, x43, x44, x45, x46, x47, x48, x49, x50, x51, x52, x53, x54, x55, .ref h56, x57, x58, x59, x60, x61, x62, x63, x64, x65, x66, x67, x68, x69, x70, x71, x72, x73, x74])), (h11, .inl (aC 0, 14, .inl (fun _ => 0))), (h56, .inl (aC 0, 13, .inl (fun _ => 0)))] H := hP
  have hD : va_D A [(h1, .inr (11, [.int 0, x2, x3, x4, x5, x6, x7, x8, x9, x10, .ref h11, x12, x13, x14, x15, x16, x17, x18, x19, x20, x21, x22, x23, x24, x25, x26, x27, x28, x29, x30, x31, x32, x33, x34, x35, x36, x37, x38, x39, x40, x41, x42, x43, x44, x45, x46, x47, x48, x49, x50, x51, x52, x53, x54, x55, .ref h56, x57, x58, x59, x60, x61, x62, x63, x64, x65, x66, x67, x68, x69, x70, x71, x72, x73, x74])), (h11, .inl (aC 0, 14, .inl (fun _ => 0))), (h56, .inl (aC 0, 13, .inl (fun _ => 0)))] := hD
  try dsimp only at hw
  subst hw
  refine lv_if_eq (tgt := 33) hx hb dX11_thefts_12 (by decide) (fun _ => ?_) (fun c_ => absurd (by decide +kernel) c_)
  refine lv_iconst (v := (-1)) hx hb dX11_thefts_33 (by decide) ?_
  have hP9 := hP.sub (ws' := []) [] rfl
  have hD9 := hD.sub (ws' := []) [] (by decide) rfl
  exact rI () hx hb hr hlk rfl hS rfl hP9 hD9 (Nat.le_of_ble_eq_true rfl) (Nat.le_of_ble_eq_true rfl) dX11_thefts_34

set_option maxHeartbeats 4000000 in
set_option maxRecDepth 100000 in
theorem m_thefts_2lo (l : Launch) (g : va_G) (aC : Nat → ClassId) (aM : Nat → Nat) (h1 h11 h56 : Nat) (x2 x3 x4 x5 x6 x7 x8 x9 x10 x12 x13 x14 x15 x16 x17 x18 x19 x20 x21 x22 x23 x24 x25 x26 x27 x28 x29 x30 x31 x32 x33 x34 x35 x36 x37 x38 x39 x40 x41 x42 x43 x44 x45 x46 x47 x48 x49 x50 x51 x52 x53 x54 x55 x57 x58 x59 x60 x61 x62 x63 x64 x65 x66 x67 x68 x69 x70 x71 x72 x73 x74 : Value) (n_1 n_2 n_3 : Int32) (hl1 : 0 ≤ n_1) (hh1 : n_1 ≤ 10) (hh2 : n_2 ≤ (-1)) : Ct l g aC aM yX11_thefts cX11_thefts 7 (some .int) 2 [.ref h1, .int n_1, .int n_2, .int n_3] [(h1, .inr (11, [.int 0, x2, x3, x4, x5, x6, x7, x8, x9, x10, .ref h11, x12, x13, x14, x15, x16, x17, x18, x19, x20, x21, x22, x23, x24, x25, x26, x27, x28, x29, x30, x31, x32, x33, x34, x35, x36, x37, x38, x39, x40, x41, x42, x43, x44, x45, x46, x47, x48, x49, x50, x51, x52, x53, x54, x55, .ref h56, x57, x58, x59, x60, x61, x62, x63, x64, x65, x66, x67, x68, x69, x70, x71, x72, x73, x74])), (h11, .inl (aC 0, 14, .inl (fun _ => 0))), (h56, .inl (aC 0, 13, .inl (fun _ => 0)))] (QI g (fun (r : Int32) (_ : Unit) => r = (-1)) (fun (_ : Unit) => [])) 0 0 := by
  refine Ct.mk (by decide) (Nat.le_of_ble_eq_true rfl) ?_
  intro p e s m below meth c A ls hx hb hml hown hts hr hlk hnm hK hA hM hM2 hP hD hS hl
  have hown : s.vm.findClass RX11 = some m.cls := hown
  have F : Fx p s m _ c cX11_thefts 7 RX11 g aC aM A := ⟨hx, hb, hml, hown, hts, hK, hA, hM, hM2⟩
  have hl : lv_has ls 7 [(0, .ref h1), (1, .int n_1), (2, .int n_2), (3, .int n_3)] := hl
  refine lv_aload_n hx hb dX11_thefts_0 rfl (lv_at hl 0 rfl) ?_
  refine lv_iconst (v := 0) hx hb dX11_thefts_1 (by decide) ?_
  refine xput F hP hD hS 0 rfl rfl inX11 tyX11_ok nmX11 0 (by decide) tb1182 rfl rfl rfl (Nat.le_of_ble_eq_true rfl) dX11_thefts_2 (fun H locs hP hD hS => ?_)
  have hP : va_P g vwCl [(h1, .inr (11, [.int 0, x2, x3, x4, x5, x6, x7, x8, x9, x10, .ref h11, x12, x13, x14, x15, x16, x17, x18, x19, x20, x21, x22, x23, x24, x25, x26, x27, x28, x29, x30, x31, x32, x33, x34, x35, x36, x37, x38, x39, x40, x41, x42, x43, x44, x45, x46, x47, x48, x49, x50, x51, x52, x53, x54, x55, .ref h56, x57, x58, x59, x60, x61, x62, x63, x64, x65, x66, x67, x68, x69, x70, x71, x72, x73, x74])), (h11, .inl (aC 0, 14, .inl (fun _ => 0))), (h56, .inl (aC 0, 13, .inl (fun _ => 0)))] H := hP
  have hD : va_D A [(h1, .inr (11, [.int 0, x2, x3, x4, x5, x6, x7, x8, x9, x10, .ref h11, x12, x13, x14, x15, x16, x17, x18, x19, x20, x21, x22, x23, x24, x25, x26, x27, x28, x29, x30, x31, x32, x33, x34, x35, x36, x37, x38, x39, x40, x41, x42, x43, x44, x45, x46, x47, x48, x49, x50, x51, x52, x53, x54, x55, .ref h56, x57, x58, x59, x60, x61, x62, x63, x64, x65, x66, x67, x68, x69, x70, x71, x72, x73, x74])), (h11, .inl (aC 0, 14, .inl (fun _ => 0))), (h56, .inl (aC 0, 13, .inl (fun _ => 0)))] := hD
  refine lv_iload_n hx hb dX11_thefts_5 rfl (lv_at hl 1 rfl) ?_
  refine lv_iconst (v := 0) hx hb dX11_thefts_6 (by decide) ?_
  refine lv_bipush (v := 10) hx hb dX11_thefts_7 (by decide) ?_
  refine goI (wr := [(h1, .inr (11, [.int 0, x2, x3, x4, x5, x6, x7, x8, x9, x10, .ref h11, x12, x13, x14, x15, x16, x17, x18, x19, x20, x21, x22, x23, x24, x25, x26, x27, x28, x29, x30, x31, x32, x33, x34, x35, x36, x37, x38, x39, x40, x41, x42, x43, x44, x45, x46, x47, x48, x49, x50, x51, x52, x53, x54, x55, .ref h56, x57, x58, x59, x60, x61, x62, x63, x64, x65, x66, x67, x68, x69, x70, x71, x72, x73, x74])), (h11, .inl (aC 0, 14, .inl (fun _ => 0))), (h56, .inl (aC 0, 13, .inl (fun _ => 0)))]) (runS (n := 3) (As := [.int n_1, .int 0, .int 10]) (rest := []) F hP hD hS (k_within_in l g aC aM n_1 0 10 (by have a0_ := hl1; have a1_ := hh1; simp only [Int32.lt_iff_toInt_lt, Int32.le_iff_toInt_le, ← Int32.toInt_inj, show (0 : Int32).toInt = 0 by decide, show (10 : Int32).toInt = 10 by decide] at a0_ a1_ ⊢; omega) (by have a0_ := hl1; have a1_ := hh1; simp only [Int32.lt_iff_toInt_lt, Int32.le_iff_toInt_le, ← Int32.toInt_inj, show (0 : Int32).toInt = 0 by decide, show (10 : Int32).toInt = 10 by decide] at a0_ a1_ ⊢; omega)) [] (by decide) rfl tb1511 tb1509 tb1510 tb17 ⟨by decide, by decide, by decide +kernel⟩ ⟨Nat.le_of_ble_eq_true rfl, Nat.le_of_ble_eq_true rfl⟩ rfl hl.1 rfl (Nat.le_of_ble_eq_true rfl) dX11_thefts_9 ⟨Nat.le_of_ble_eq_true rfl, Nat.le_of_ble_eq_true rfl⟩) hP hD hS hA [] [0, 1, 2] rfl rfl (by decide) (by decide) (fun r_2 w3 H locs hw hP hD hS => ?_)
  have hP : va_P g vwCl [(h1, .inr (11, [.int 0, x2, x3, x4, x5, x6, x7, x8, x9, x10, .ref h11, x12, x13, x14, x15, x16, x17, x18, x19, x20, x21, x22, x23, x24, x25, x26, x27, x28, x29, x30, x31, x32, x33, x34, x35, x36, x37, x38, x39, x40, x41, x42, x43, x44, x45, x46, x47, x48, x49, x50, x51, x52, x53, x54, x55, .ref h56, x57, x58, x59, x60, x61, x62, x63, x64, x65, x66, x67, x68, x69, x70, x71, x72, x73, x74])), (h11, .inl (aC 0, 14, .inl (fun _ => 0))), (h56, .inl (aC 0, 13, .inl (fun _ => 0)))] H := hP
  have hD : va_D A [(h1, .inr (11, [.int 0, x2, x3, x4, x5, x6, x7, x8, x9, x10, .ref h11, x12, x13, x14, x15, x16, x17, x18, x19, x20, x21, x22, x23, x24, x25, x26, x27, x28, x29, x30, x31, x32, x33, x34, x35, x36, x37, x38, x39, x40, x41, x42, x43, x44, x45, x46, x47, x48, x49, x50, x51, x52, x53, x54, x55, .ref h56, x57, x58, x59, x60, x61, x62, x63, x64, x65, x66, x67, x68, x69, x70, x71, x72, x73, x74])), (h11, .inl (aC 0, 14, .inl (fun _ => 0))), (h56, .inl (aC 0, 13, .inl (fun _ => 0)))] := hD
  try dsimp only at hw
  subst hw
  refine lv_if_eq (tgt := 33) hx hb dX11_thefts_12 (by decide) (fun c_ => absurd c_ (by decide +kernel)) (fun _ => ?_)
  refine lv_iload_n hx hb dX11_thefts_15 rfl (lv_at hl 2 rfl) ?_
  refine lv_iconst (v := 0) hx hb dX11_thefts_16 (by decide) ?_
  refine lv_iconst (v := 5) hx hb dX11_thefts_17 (by decide) ?_
  refine goI (wr := [(h1, .inr (11, [.int 0, x2, x3, x4, x5, x6, x7, x8, x9, x10, .ref h11, x12, x13, x14, x15, x16, x17, x18, x19, x20, x21, x22, x23, x24, x25, x26, x27, x28, x29, x30, x31, x32, x33, x34, x35, x36, x37, x38, x39, x40, x41, x42, x43, x44, x45, x46, x47, x48, x49, x50, x51, x52, x53, x54, x55, .ref h56, x57, x58, x59, x60, x61, x62, x63, x64, x65, x66, x67, x68, x69, x70, x71, x72, x73, x74])), (h11, .inl (aC 0, 14, .inl (fun _ => 0))), (h56, .inl (aC 0, 13, .inl (fun _ => 0)))]) (runS (n := 3) (As := [.int n_2, .int 0, .int 5]) (rest := []) F hP hD hS (k_within_lo l g aC aM n_2 0 5 (by have a0_ := hh2; simp only [Int32.lt_iff_toInt_lt, Int32.le_iff_toInt_le, ← Int32.toInt_inj, show (-1 : Int32).toInt = -1 by decide, show (0 : Int32).toInt = 0 by decide, show (5 : Int32).toInt = 5 by decide] at a0_ ⊢; omega)) [] (by decide) rfl tb1511 tb1509 tb1510 tb17 ⟨by decide, by decide, by decide +kernel⟩ ⟨Nat.le_of_ble_eq_true rfl, Nat.le_of_ble_eq_true rfl⟩ rfl hl.1 rfl (Nat.le_of_ble_eq_true rfl) dX11_thefts_18 ⟨Nat.le_of_ble_eq_true rfl, Nat.le_of_ble_eq_true rfl⟩) hP hD hS hA [] [0, 1, 2] rfl rfl (by decide) (by decide) (fun r_6 w7 H locs hw hP hD hS => ?_)
  have hP : va_P g vwCl [(h1, .inr (11, [.int 0, x2, x3, x4, x5, x6, x7, x8, x9, x10, .ref h11, x12, x13, x14, x15, x16, x17, x18, x19, x20, x21, x22, x23, x24, x25, x26, x27, x28, x29, x30, x31, x32, x33, x34, x35, x36, x37, x38, x39, x40, x41, x42, x43, x44, x45, x46, x47, x48, x49, x50, x51, x52, x53, x54, x55, .ref h56, x57, x58, x59, x60, x61, x62, x63, x64, x65, x66, x67, x68, x69, x70, x71, x72, x73, x74])), (h11, .inl (aC 0, 14, .inl (fun _ => 0))), (h56, .inl (aC 0, 13, .inl (fun _ => 0)))] H := hP
  have hD : va_D A [(h1, .inr (11, [.int 0, x2, x3, x4, x5, x6, x7, x8, x9, x10, .ref h11, x12, x13, x14, x15, x16, x17, x18, x19, x20, x21, x22, x23, x24, x25, x26, x27, x28, x29, x30, x31, x32, x33, x34, x35, x36, x37, x38, x39, x40, x41, x42, x43, x44, x45, x46, x47, x48, x49, x50, x51, x52, x53, x54, x55, .ref h56, x57, x58, x59, x60, x61, x62, x63, x64, x65, x66, x67, x68, x69, x70, x71, x72, x73, x74])), (h11, .inl (aC 0, 14, .inl (fun _ => 0))), (h56, .inl (aC 0, 13, .inl (fun _ => 0)))] := hD
  try dsimp only at hw
  subst hw
  refine lv_if_eq (tgt := 33) hx hb dX11_thefts_21 (by decide) (fun _ => ?_) (fun c_ => absurd (by decide +kernel) c_)
  refine lv_iconst (v := (-1)) hx hb dX11_thefts_33 (by decide) ?_
  have hP9 := hP.sub (ws' := []) [] rfl
  have hD9 := hD.sub (ws' := []) [] (by decide) rfl
  exact rI () hx hb hr hlk rfl hS rfl hP9 hD9 (Nat.le_of_ble_eq_true rfl) (Nat.le_of_ble_eq_true rfl) dX11_thefts_34

set_option maxHeartbeats 4000000 in
set_option maxRecDepth 100000 in
theorem m_thefts_2hi (l : Launch) (g : va_G) (aC : Nat → ClassId) (aM : Nat → Nat) (h1 h11 h56 : Nat) (x2 x3 x4 x5 x6 x7 x8 x9 x10 x12 x13 x14 x15 x16 x17 x18 x19 x20 x21 x22 x23 x24 x25 x26 x27 x28 x29 x30 x31 x32 x33 x34 x35 x36 x37 x38 x39 x40 x41 x42 x43 x44 x45 x46 x47 x48 x49 x50 x51 x52 x53 x54 x55 x57 x58 x59 x60 x61 x62 x63 x64 x65 x66 x67 x68 x69 x70 x71 x72 x73 x74 : Value) (n_1 n_2 n_3 : Int32) (hl1 : 0 ≤ n_1) (hh1 : n_1 ≤ 10) (hl2 : 6 ≤ n_2) : Ct l g aC aM yX11_thefts cX11_thefts 7 (some .int) 2 [.ref h1, .int n_1, .int n_2, .int n_3] [(h1, .inr (11, [.int 0, x2, x3, x4, x5, x6, x7, x8, x9, x10, .ref h11, x12, x13, x14, x15, x16, x17, x18, x19, x20, x21, x22, x23, x24, x25, x26, x27, x28, x29, x30, x31, x32, x33, x34, x35, x36, x37, x38, x39, x40, x41, x42, x43, x44, x45, x46, x47, x48, x49, x50, x51, x52, x53, x54, x55, .ref h56, x57, x58, x59, x60, x61, x62, x63, x64, x65, x66, x67, x68, x69, x70, x71, x72, x73, x74])), (h11, .inl (aC 0, 14, .inl (fun _ => 0))), (h56, .inl (aC 0, 13, .inl (fun _ => 0)))] (QI g (fun (r : Int32) (_ : Unit) => r = (-1)) (fun (_ : Unit) => [])) 0 0 := by
  refine Ct.mk (by decide) (Nat.le_of_ble_eq_true rfl) ?_
  intro p e s m below meth c A ls hx hb hml hown hts hr hlk hnm hK hA hM hM2 hP hD hS hl
  have hown : s.vm.findClass RX11 = some m.cls := hown
  have F : Fx p s m _ c cX11_thefts 7 RX11 g aC aM A := ⟨hx, hb, hml, hown, hts, hK, hA, hM, hM2⟩
  have hl : lv_has ls 7 [(0, .ref h1), (1, .int n_1), (2, .int n_2), (3, .int n_3)] := hl
  refine lv_aload_n hx hb dX11_thefts_0 rfl (lv_at hl 0 rfl) ?_
  refine lv_iconst (v := 0) hx hb dX11_thefts_1 (by decide) ?_
  refine xput F hP hD hS 0 rfl rfl inX11 tyX11_ok nmX11 0 (by decide) tb1182 rfl rfl rfl (Nat.le_of_ble_eq_true rfl) dX11_thefts_2 (fun H locs hP hD hS => ?_)
  have hP : va_P g vwCl [(h1, .inr (11, [.int 0, x2, x3, x4, x5, x6, x7, x8, x9, x10, .ref h11, x12, x13, x14, x15, x16, x17, x18, x19, x20, x21, x22, x23, x24, x25, x26, x27, x28, x29, x30, x31, x32, x33, x34, x35, x36, x37, x38, x39, x40, x41, x42, x43, x44, x45, x46, x47, x48, x49, x50, x51, x52, x53, x54, x55, .ref h56, x57, x58, x59, x60, x61, x62, x63, x64, x65, x66, x67, x68, x69, x70, x71, x72, x73, x74])), (h11, .inl (aC 0, 14, .inl (fun _ => 0))), (h56, .inl (aC 0, 13, .inl (fun _ => 0)))] H := hP
  have hD : va_D A [(h1, .inr (11, [.int 0, x2, x3, x4, x5, x6, x7, x8, x9, x10, .ref h11, x12, x13, x14, x15, x16, x17, x18, x19, x20, x21, x22, x23, x24, x25, x26, x27, x28, x29, x30, x31, x32, x33, x34, x35, x36, x37, x38, x39, x40, x41, x42, x43, x44, x45, x46, x47, x48, x49, x50, x51, x52, x53, x54, x55, .ref h56, x57, x58, x59, x60, x61, x62, x63, x64, x65, x66, x67, x68, x69, x70, x71, x72, x73, x74])), (h11, .inl (aC 0, 14, .inl (fun _ => 0))), (h56, .inl (aC 0, 13, .inl (fun _ => 0)))] := hD
  refine lv_iload_n hx hb dX11_thefts_5 rfl (lv_at hl 1 rfl) ?_
  refine lv_iconst (v := 0) hx hb dX11_thefts_6 (by decide) ?_
  refine lv_bipush (v := 10) hx hb dX11_thefts_7 (by decide) ?_
  refine goI (wr := [(h1, .inr (11, [.int 0, x2, x3, x4, x5, x6, x7, x8, x9, x10, .ref h11, x12, x13, x14, x15, x16, x17, x18, x19, x20, x21, x22, x23, x24, x25, x26, x27, x28, x29, x30, x31, x32, x33, x34, x35, x36, x37, x38, x39, x40, x41, x42, x43, x44, x45, x46, x47, x48, x49, x50, x51, x52, x53, x54, x55, .ref h56, x57, x58, x59, x60, x61, x62, x63, x64, x65, x66, x67, x68, x69, x70, x71, x72, x73, x74])), (h11, .inl (aC 0, 14, .inl (fun _ => 0))), (h56, .inl (aC 0, 13, .inl (fun _ => 0)))]) (runS (n := 3) (As := [.int n_1, .int 0, .int 10]) (rest := []) F hP hD hS (k_within_in l g aC aM n_1 0 10 (by have a0_ := hl1; have a1_ := hh1; simp only [Int32.lt_iff_toInt_lt, Int32.le_iff_toInt_le, ← Int32.toInt_inj, show (0 : Int32).toInt = 0 by decide, show (10 : Int32).toInt = 10 by decide] at a0_ a1_ ⊢; omega) (by have a0_ := hl1; have a1_ := hh1; simp only [Int32.lt_iff_toInt_lt, Int32.le_iff_toInt_le, ← Int32.toInt_inj, show (0 : Int32).toInt = 0 by decide, show (10 : Int32).toInt = 10 by decide] at a0_ a1_ ⊢; omega)) [] (by decide) rfl tb1511 tb1509 tb1510 tb17 ⟨by decide, by decide, by decide +kernel⟩ ⟨Nat.le_of_ble_eq_true rfl, Nat.le_of_ble_eq_true rfl⟩ rfl hl.1 rfl (Nat.le_of_ble_eq_true rfl) dX11_thefts_9 ⟨Nat.le_of_ble_eq_true rfl, Nat.le_of_ble_eq_true rfl⟩) hP hD hS hA [] [0, 1, 2] rfl rfl (by decide) (by decide) (fun r_2 w3 H locs hw hP hD hS => ?_)
  have hP : va_P g vwCl [(h1, .inr (11, [.int 0, x2, x3, x4, x5, x6, x7, x8, x9, x10, .ref h11, x12, x13, x14, x15, x16, x17, x18, x19, x20, x21, x22, x23, x24, x25, x26, x27, x28, x29, x30, x31, x32, x33, x34, x35, x36, x37, x38, x39, x40, x41, x42, x43, x44, x45, x46, x47, x48, x49, x50, x51, x52, x53, x54, x55, .ref h56, x57, x58, x59, x60, x61, x62, x63, x64, x65, x66, x67, x68, x69, x70, x71, x72, x73, x74])), (h11, .inl (aC 0, 14, .inl (fun _ => 0))), (h56, .inl (aC 0, 13, .inl (fun _ => 0)))] H := hP
  have hD : va_D A [(h1, .inr (11, [.int 0, x2, x3, x4, x5, x6, x7, x8, x9, x10, .ref h11, x12, x13, x14, x15, x16, x17, x18, x19, x20, x21, x22, x23, x24, x25, x26, x27, x28, x29, x30, x31, x32, x33, x34, x35, x36, x37, x38, x39, x40, x41, x42, x43, x44, x45, x46, x47, x48, x49, x50, x51, x52, x53, x54, x55, .ref h56, x57, x58, x59, x60, x61, x62, x63, x64, x65, x66, x67, x68, x69, x70, x71, x72, x73, x74])), (h11, .inl (aC 0, 14, .inl (fun _ => 0))), (h56, .inl (aC 0, 13, .inl (fun _ => 0)))] := hD
  try dsimp only at hw
  subst hw
  refine lv_if_eq (tgt := 33) hx hb dX11_thefts_12 (by decide) (fun c_ => absurd c_ (by decide +kernel)) (fun _ => ?_)
  refine lv_iload_n hx hb dX11_thefts_15 rfl (lv_at hl 2 rfl) ?_
  refine lv_iconst (v := 0) hx hb dX11_thefts_16 (by decide) ?_
  refine lv_iconst (v := 5) hx hb dX11_thefts_17 (by decide) ?_
  refine goI (wr := [(h1, .inr (11, [.int 0, x2, x3, x4, x5, x6, x7, x8, x9, x10, .ref h11, x12, x13, x14, x15, x16, x17, x18, x19, x20, x21, x22, x23, x24, x25, x26, x27, x28, x29, x30, x31, x32, x33, x34, x35, x36, x37, x38, x39, x40, x41, x42, x43, x44, x45, x46, x47, x48, x49, x50, x51, x52, x53, x54, x55, .ref h56, x57, x58, x59, x60, x61, x62, x63, x64, x65, x66, x67, x68, x69, x70, x71, x72, x73, x74])), (h11, .inl (aC 0, 14, .inl (fun _ => 0))), (h56, .inl (aC 0, 13, .inl (fun _ => 0)))]) (runS (n := 3) (As := [.int n_2, .int 0, .int 5]) (rest := []) F hP hD hS (k_within_hi l g aC aM n_2 0 5 (by have a0_ := hl2; simp only [Int32.lt_iff_toInt_lt, Int32.le_iff_toInt_le, ← Int32.toInt_inj, show (0 : Int32).toInt = 0 by decide, show (5 : Int32).toInt = 5 by decide, show (6 : Int32).toInt = 6 by decide] at a0_ ⊢; omega) (by have a0_ := hl2; simp only [Int32.lt_iff_toInt_lt, Int32.le_iff_toInt_le, ← Int32.toInt_inj, show (0 : Int32).toInt = 0 by decide, show (5 : Int32).toInt = 5 by decide, show (6 : Int32).toInt = 6 by decide] at a0_ ⊢; omega)) [] (by decide) rfl tb1511 tb1509 tb1510 tb17 ⟨by decide, by decide, by decide +kernel⟩ ⟨Nat.le_of_ble_eq_true rfl, Nat.le_of_ble_eq_true rfl⟩ rfl hl.1 rfl (Nat.le_of_ble_eq_true rfl) dX11_thefts_18 ⟨Nat.le_of_ble_eq_true rfl, Nat.le_of_ble_eq_true rfl⟩) hP hD hS hA [] [0, 1, 2] rfl rfl (by decide) (by decide) (fun r_6 w7 H locs hw hP hD hS => ?_)
  have hP : va_P g vwCl [(h1, .inr (11, [.int 0, x2, x3, x4, x5, x6, x7, x8, x9, x10, .ref h11, x12, x13, x14, x15, x16, x17, x18, x19, x20, x21, x22, x23, x24, x25, x26, x27, x28, x29, x30, x31, x32, x33, x34, x35, x36, x37, x38, x39, x40, x41, x42, x43, x44, x45, x46, x47, x48, x49, x50, x51, x52, x53, x54, x55, .ref h56, x57, x58, x59, x60, x61, x62, x63, x64, x65, x66, x67, x68, x69, x70, x71, x72, x73, x74])), (h11, .inl (aC 0, 14, .inl (fun _ => 0))), (h56, .inl (aC 0, 13, .inl (fun _ => 0)))] H := hP
  have hD : va_D A [(h1, .inr (11, [.int 0, x2, x3, x4, x5, x6, x7, x8, x9, x10, .ref h11, x12, x13, x14, x15, x16, x17, x18, x19, x20, x21, x22, x23, x24, x25, x26, x27, x28, x29, x30, x31, x32, x33, x34, x35, x36, x37, x38, x39, x40, x41, x42, x43, x44, x45, x46, x47, x48, x49, x50, x51, x52, x53, x54, x55, .ref h56, x57, x58, x59, x60, x61, x62, x63, x64, x65, x66, x67, x68, x69, x70, x71, x72, x73, x74])), (h11, .inl (aC 0, 14, .inl (fun _ => 0))), (h56, .inl (aC 0, 13, .inl (fun _ => 0)))] := hD
  try dsimp only at hw
  subst hw
  refine lv_if_eq (tgt := 33) hx hb dX11_thefts_21 (by decide) (fun _ => ?_) (fun c_ => absurd (by decide +kernel) c_)
  refine lv_iconst (v := (-1)) hx hb dX11_thefts_33 (by decide) ?_
  have hP9 := hP.sub (ws' := []) [] rfl
  have hD9 := hD.sub (ws' := []) [] (by decide) rfl
  exact rI () hx hb hr hlk rfl hS rfl hP9 hD9 (Nat.le_of_ble_eq_true rfl) (Nat.le_of_ble_eq_true rfl) dX11_thefts_34

set_option maxHeartbeats 4000000 in
set_option maxRecDepth 100000 in
theorem m_thefts_3lo (l : Launch) (g : va_G) (aC : Nat → ClassId) (aM : Nat → Nat) (h1 h11 h56 : Nat) (x2 x3 x4 x5 x6 x7 x8 x9 x10 x12 x13 x14 x15 x16 x17 x18 x19 x20 x21 x22 x23 x24 x25 x26 x27 x28 x29 x30 x31 x32 x33 x34 x35 x36 x37 x38 x39 x40 x41 x42 x43 x44 x45 x46 x47 x48 x49 x50 x51 x52 x53 x54 x55 x57 x58 x59 x60 x61 x62 x63 x64 x65 x66 x67 x68 x69 x70 x71 x72 x73 x74 : Value) (n_1 n_2 n_3 : Int32) (hl1 : 0 ≤ n_1) (hh1 : n_1 ≤ 10) (hl2 : 0 ≤ n_2) (hh2 : n_2 ≤ 5) (hh3 : n_3 ≤ (-1)) : Ct l g aC aM yX11_thefts cX11_thefts 7 (some .int) 2 [.ref h1, .int n_1, .int n_2, .int n_3] [(h1, .inr (11, [.int 0, x2, x3, x4, x5, x6, x7, x8, x9, x10, .ref h11, x12, x13, x14, x15, x16, x17, x18, x19, x20, x21, x22, x23, x24, x25, x26, x27, x28, x29, x30, x31, x32, x33, x34, x35, x36, x37, x38, x39, x40, x41, x42, x43, x44, x45, x46, x47, x48, x49, x50, x51, x52, x53, x54, x55, .ref h56, x57, x58, x59, x60, x61, x62, x63, x64, x65, x66, x67, x68, x69, x70, x71, x72, x73, x74])), (h11, .inl (aC 0, 14, .inl (fun _ => 0))), (h56, .inl (aC 0, 13, .inl (fun _ => 0)))] (QI g (fun (r : Int32) (_ : Unit) => r = (-1)) (fun (_ : Unit) => [])) 0 0 := by
  refine Ct.mk (by decide) (Nat.le_of_ble_eq_true rfl) ?_
  intro p e s m below meth c A ls hx hb hml hown hts hr hlk hnm hK hA hM hM2 hP hD hS hl
  have hown : s.vm.findClass RX11 = some m.cls := hown
  have F : Fx p s m _ c cX11_thefts 7 RX11 g aC aM A := ⟨hx, hb, hml, hown, hts, hK, hA, hM, hM2⟩
  have hl : lv_has ls 7 [(0, .ref h1), (1, .int n_1), (2, .int n_2), (3, .int n_3)] := hl
  refine lv_aload_n hx hb dX11_thefts_0 rfl (lv_at hl 0 rfl) ?_
  refine lv_iconst (v := 0) hx hb dX11_thefts_1 (by decide) ?_
  refine xput F hP hD hS 0 rfl rfl inX11 tyX11_ok nmX11 0 (by decide) tb1182 rfl rfl rfl (Nat.le_of_ble_eq_true rfl) dX11_thefts_2 (fun H locs hP hD hS => ?_)
  have hP : va_P g vwCl [(h1, .inr (11, [.int 0, x2, x3, x4, x5, x6, x7, x8, x9, x10, .ref h11, x12, x13, x14, x15, x16, x17, x18, x19, x20, x21, x22, x23, x24, x25, x26, x27, x28, x29, x30, x31, x32, x33, x34, x35, x36, x37, x38, x39, x40, x41, x42, x43, x44, x45, x46, x47, x48, x49, x50, x51, x52, x53, x54, x55, .ref h56, x57, x58, x59, x60, x61, x62, x63, x64, x65, x66, x67, x68, x69, x70, x71, x72, x73, x74])), (h11, .inl (aC 0, 14, .inl (fun _ => 0))), (h56, .inl (aC 0, 13, .inl (fun _ => 0)))] H := hP
  have hD : va_D A [(h1, .inr (11, [.int 0, x2, x3, x4, x5, x6, x7, x8, x9, x10, .ref h11, x12, x13, x14, x15, x16, x17, x18, x19, x20, x21, x22, x23, x24, x25, x26, x27, x28, x29, x30, x31, x32, x33, x34, x35, x36, x37, x38, x39, x40, x41, x42, x43, x44, x45, x46, x47, x48, x49, x50, x51, x52, x53, x54, x55, .ref h56, x57, x58, x59, x60, x61, x62, x63, x64, x65, x66, x67, x68, x69, x70, x71, x72, x73, x74])), (h11, .inl (aC 0, 14, .inl (fun _ => 0))), (h56, .inl (aC 0, 13, .inl (fun _ => 0)))] := hD
  refine lv_iload_n hx hb dX11_thefts_5 rfl (lv_at hl 1 rfl) ?_
  refine lv_iconst (v := 0) hx hb dX11_thefts_6 (by decide) ?_
  refine lv_bipush (v := 10) hx hb dX11_thefts_7 (by decide) ?_
  refine goI (wr := [(h1, .inr (11, [.int 0, x2, x3, x4, x5, x6, x7, x8, x9, x10, .ref h11, x12, x13, x14, x15, x16, x17, x18, x19, x20, x21, x22, x23, x24, x25, x26, x27, x28, x29, x30, x31, x32, x33, x34, x35, x36, x37, x38, x39, x40, x41, x42, x43, x44, x45, x46, x47, x48, x49, x50, x51, x52, x53, x54, x55, .ref h56, x57, x58, x59, x60, x61, x62, x63, x64, x65, x66, x67, x68, x69, x70, x71, x72, x73, x74])), (h11, .inl (aC 0, 14, .inl (fun _ => 0))), (h56, .inl (aC 0, 13, .inl (fun _ => 0)))]) (runS (n := 3) (As := [.int n_1, .int 0, .int 10]) (rest := []) F hP hD hS (k_within_in l g aC aM n_1 0 10 (by have a0_ := hl1; have a1_ := hh1; simp only [Int32.lt_iff_toInt_lt, Int32.le_iff_toInt_le, ← Int32.toInt_inj, show (0 : Int32).toInt = 0 by decide, show (10 : Int32).toInt = 10 by decide] at a0_ a1_ ⊢; omega) (by have a0_ := hl1; have a1_ := hh1; simp only [Int32.lt_iff_toInt_lt, Int32.le_iff_toInt_le, ← Int32.toInt_inj, show (0 : Int32).toInt = 0 by decide, show (10 : Int32).toInt = 10 by decide] at a0_ a1_ ⊢; omega)) [] (by decide) rfl tb1511 tb1509 tb1510 tb17 ⟨by decide, by decide, by decide +kernel⟩ ⟨Nat.le_of_ble_eq_true rfl, Nat.le_of_ble_eq_true rfl⟩ rfl hl.1 rfl (Nat.le_of_ble_eq_true rfl) dX11_thefts_9 ⟨Nat.le_of_ble_eq_true rfl, Nat.le_of_ble_eq_true rfl⟩) hP hD hS hA [] [0, 1, 2] rfl rfl (by decide) (by decide) (fun r_2 w3 H locs hw hP hD hS => ?_)
  have hP : va_P g vwCl [(h1, .inr (11, [.int 0, x2, x3, x4, x5, x6, x7, x8, x9, x10, .ref h11, x12, x13, x14, x15, x16, x17, x18, x19, x20, x21, x22, x23, x24, x25, x26, x27, x28, x29, x30, x31, x32, x33, x34, x35, x36, x37, x38, x39, x40, x41, x42, x43, x44, x45, x46, x47, x48, x49, x50, x51, x52, x53, x54, x55, .ref h56, x57, x58, x59, x60, x61, x62, x63, x64, x65, x66, x67, x68, x69, x70, x71, x72, x73, x74])), (h11, .inl (aC 0, 14, .inl (fun _ => 0))), (h56, .inl (aC 0, 13, .inl (fun _ => 0)))] H := hP
  have hD : va_D A [(h1, .inr (11, [.int 0, x2, x3, x4, x5, x6, x7, x8, x9, x10, .ref h11, x12, x13, x14, x15, x16, x17, x18, x19, x20, x21, x22, x23, x24, x25, x26, x27, x28, x29, x30, x31, x32, x33, x34, x35, x36, x37, x38, x39, x40, x41, x42, x43, x44, x45, x46, x47, x48, x49, x50, x51, x52, x53, x54, x55, .ref h56, x57, x58, x59, x60, x61, x62, x63, x64, x65, x66, x67, x68, x69, x70, x71, x72, x73, x74])), (h11, .inl (aC 0, 14, .inl (fun _ => 0))), (h56, .inl (aC 0, 13, .inl (fun _ => 0)))] := hD
  try dsimp only at hw
  subst hw
  refine lv_if_eq (tgt := 33) hx hb dX11_thefts_12 (by decide) (fun c_ => absurd c_ (by decide +kernel)) (fun _ => ?_)
  refine lv_iload_n hx hb dX11_thefts_15 rfl (lv_at hl 2 rfl) ?_
  refine lv_iconst (v := 0) hx hb dX11_thefts_16 (by decide) ?_
  refine lv_iconst (v := 5) hx hb dX11_thefts_17 (by decide) ?_
  refine goI (wr := [(h1, .inr (11, [.int 0, x2, x3, x4, x5, x6, x7, x8, x9, x10, .ref h11, x12, x13, x14, x15, x16, x17, x18, x19, x20, x21, x22, x23, x24, x25, x26, x27, x28, x29, x30, x31, x32, x33, x34, x35, x36, x37, x38, x39, x40, x41, x42, x43, x44, x45, x46, x47, x48, x49, x50, x51, x52, x53, x54, x55, .ref h56, x57, x58, x59, x60, x61, x62, x63, x64, x65, x66, x67, x68, x69, x70, x71, x72, x73, x74])), (h11, .inl (aC 0, 14, .inl (fun _ => 0))), (h56, .inl (aC 0, 13, .inl (fun _ => 0)))]) (runS (n := 3) (As := [.int n_2, .int 0, .int 5]) (rest := []) F hP hD hS (k_within_in l g aC aM n_2 0 5 (by have a0_ := hl2; have a1_ := hh2; simp only [Int32.lt_iff_toInt_lt, Int32.le_iff_toInt_le, ← Int32.toInt_inj, show (0 : Int32).toInt = 0 by decide, show (5 : Int32).toInt = 5 by decide] at a0_ a1_ ⊢; omega) (by have a0_ := hl2; have a1_ := hh2; simp only [Int32.lt_iff_toInt_lt, Int32.le_iff_toInt_le, ← Int32.toInt_inj, show (0 : Int32).toInt = 0 by decide, show (5 : Int32).toInt = 5 by decide] at a0_ a1_ ⊢; omega)) [] (by decide) rfl tb1511 tb1509 tb1510 tb17 ⟨by decide, by decide, by decide +kernel⟩ ⟨Nat.le_of_ble_eq_true rfl, Nat.le_of_ble_eq_true rfl⟩ rfl hl.1 rfl (Nat.le_of_ble_eq_true rfl) dX11_thefts_18 ⟨Nat.le_of_ble_eq_true rfl, Nat.le_of_ble_eq_true rfl⟩) hP hD hS hA [] [0, 1, 2] rfl rfl (by decide) (by decide) (fun r_6 w7 H locs hw hP hD hS => ?_)
  have hP : va_P g vwCl [(h1, .inr (11, [.int 0, x2, x3, x4, x5, x6, x7, x8, x9, x10, .ref h11, x12, x13, x14, x15, x16, x17, x18, x19, x20, x21, x22, x23, x24, x25, x26, x27, x28, x29, x30, x31, x32, x33, x34, x35, x36, x37, x38, x39, x40, x41, x42, x43, x44, x45, x46, x47, x48, x49, x50, x51, x52, x53, x54, x55, .ref h56, x57, x58, x59, x60, x61, x62, x63, x64, x65, x66, x67, x68, x69, x70, x71, x72, x73, x74])), (h11, .inl (aC 0, 14, .inl (fun _ => 0))), (h56, .inl (aC 0, 13, .inl (fun _ => 0)))] H := hP
  have hD : va_D A [(h1, .inr (11, [.int 0, x2, x3, x4, x5, x6, x7, x8, x9, x10, .ref h11, x12, x13, x14, x15, x16, x17, x18, x19, x20, x21, x22, x23, x24, x25, x26, x27, x28, x29, x30, x31, x32, x33, x34, x35, x36, x37, x38, x39, x40, x41, x42, x43, x44, x45, x46, x47, x48, x49, x50, x51, x52, x53, x54, x55, .ref h56, x57, x58, x59, x60, x61, x62, x63, x64, x65, x66, x67, x68, x69, x70, x71, x72, x73, x74])), (h11, .inl (aC 0, 14, .inl (fun _ => 0))), (h56, .inl (aC 0, 13, .inl (fun _ => 0)))] := hD
  try dsimp only at hw
  subst hw
  refine lv_if_eq (tgt := 33) hx hb dX11_thefts_21 (by decide) (fun c_ => absurd c_ (by decide +kernel)) (fun _ => ?_)
  refine lv_iload_n hx hb dX11_thefts_24 rfl (lv_at hl 3 rfl) ?_
  refine lv_iconst (v := 0) hx hb dX11_thefts_25 (by decide) ?_
  refine lv_iconst (v := 1) hx hb dX11_thefts_26 (by decide) ?_
  refine goI (wr := [(h1, .inr (11, [.int 0, x2, x3, x4, x5, x6, x7, x8, x9, x10, .ref h11, x12, x13, x14, x15, x16, x17, x18, x19, x20, x21, x22, x23, x24, x25, x26, x27, x28, x29, x30, x31, x32, x33, x34, x35, x36, x37, x38, x39, x40, x41, x42, x43, x44, x45, x46, x47, x48, x49, x50, x51, x52, x53, x54, x55, .ref h56, x57, x58, x59, x60, x61, x62, x63, x64, x65, x66, x67, x68, x69, x70, x71, x72, x73, x74])), (h11, .inl (aC 0, 14, .inl (fun _ => 0))), (h56, .inl (aC 0, 13, .inl (fun _ => 0)))]) (runS (n := 3) (As := [.int n_3, .int 0, .int 1]) (rest := []) F hP hD hS (k_within_lo l g aC aM n_3 0 1 (by have a0_ := hh3; simp only [Int32.lt_iff_toInt_lt, Int32.le_iff_toInt_le, ← Int32.toInt_inj, show (-1 : Int32).toInt = -1 by decide, show (0 : Int32).toInt = 0 by decide, show (1 : Int32).toInt = 1 by decide] at a0_ ⊢; omega)) [] (by decide) rfl tb1511 tb1509 tb1510 tb17 ⟨by decide, by decide, by decide +kernel⟩ ⟨Nat.le_of_ble_eq_true rfl, Nat.le_of_ble_eq_true rfl⟩ rfl hl.1 rfl (Nat.le_of_ble_eq_true rfl) dX11_thefts_27 ⟨Nat.le_of_ble_eq_true rfl, Nat.le_of_ble_eq_true rfl⟩) hP hD hS hA [] [0, 1, 2] rfl rfl (by decide) (by decide) (fun r_10 w11 H locs hw hP hD hS => ?_)
  have hP : va_P g vwCl [(h1, .inr (11, [.int 0, x2, x3, x4, x5, x6, x7, x8, x9, x10, .ref h11, x12, x13, x14, x15, x16, x17, x18, x19, x20, x21, x22, x23, x24, x25, x26, x27, x28, x29, x30, x31, x32, x33, x34, x35, x36, x37, x38, x39, x40, x41, x42, x43, x44, x45, x46, x47, x48, x49, x50, x51, x52, x53, x54, x55, .ref h56, x57, x58, x59, x60, x61, x62, x63, x64, x65, x66, x67, x68, x69, x70, x71, x72, x73, x74])), (h11, .inl (aC 0, 14, .inl (fun _ => 0))), (h56, .inl (aC 0, 13, .inl (fun _ => 0)))] H := hP
  have hD : va_D A [(h1, .inr (11, [.int 0, x2, x3, x4, x5, x6, x7, x8, x9, x10, .ref h11, x12, x13, x14, x15, x16, x17, x18, x19, x20, x21, x22, x23, x24, x25, x26, x27, x28, x29, x30, x31, x32, x33, x34, x35, x36, x37, x38, x39, x40, x41, x42, x43, x44, x45, x46, x47, x48, x49, x50, x51, x52, x53, x54, x55, .ref h56, x57, x58, x59, x60, x61, x62, x63, x64, x65, x66, x67, x68, x69, x70, x71, x72, x73, x74])), (h11, .inl (aC 0, 14, .inl (fun _ => 0))), (h56, .inl (aC 0, 13, .inl (fun _ => 0)))] := hD
  try dsimp only at hw
  subst hw
  refine lv_if_ne (tgt := 35) hx hb dX11_thefts_30 (by decide) (fun c_ => absurd (by decide +kernel) c_) (fun _ => ?_)
  refine lv_iconst (v := (-1)) hx hb dX11_thefts_33 (by decide) ?_
  have hP9 := hP.sub (ws' := []) [] rfl
  have hD9 := hD.sub (ws' := []) [] (by decide) rfl
  exact rI () hx hb hr hlk rfl hS rfl hP9 hD9 (Nat.le_of_ble_eq_true rfl) (Nat.le_of_ble_eq_true rfl) dX11_thefts_34

set_option maxHeartbeats 4000000 in
set_option maxRecDepth 100000 in
theorem m_thefts_3hi (l : Launch) (g : va_G) (aC : Nat → ClassId) (aM : Nat → Nat) (h1 h11 h56 : Nat) (x2 x3 x4 x5 x6 x7 x8 x9 x10 x12 x13 x14 x15 x16 x17 x18 x19 x20 x21 x22 x23 x24 x25 x26 x27 x28 x29 x30 x31 x32 x33 x34 x35 x36 x37 x38 x39 x40 x41 x42 x43 x44 x45 x46 x47 x48 x49 x50 x51 x52 x53 x54 x55 x57 x58 x59 x60 x61 x62 x63 x64 x65 x66 x67 x68 x69 x70 x71 x72 x73 x74 : Value) (n_1 n_2 n_3 : Int32) (hl1 : 0 ≤ n_1) (hh1 : n_1 ≤ 10) (hl2 : 0 ≤ n_2) (hh2 : n_2 ≤ 5) (hl3 : 2 ≤ n_3) : Ct l g aC aM yX11_thefts cX11_thefts 7 (some .int) 2 [.ref h1, .int n_1, .int n_2, .int n_3] [(h1, .inr (11, [.int 0, x2, x3, x4, x5, x6, x7, x8, x9, x10, .ref h11, x12, x13, x14, x15, x16, x17, x18, x19, x20, x21, x22, x23, x24, x25, x26, x27, x28, x29, x30, x31, x32, x33, x34, x35, x36, x37, x38, x39, x40, x41, x42, x43, x44, x45, x46, x47, x48, x49, x50, x51, x52, x53, x54, x55, .ref h56, x57, x58, x59, x60, x61, x62, x63, x64, x65, x66, x67, x68, x69, x70, x71, x72, x73, x74])), (h11, .inl (aC 0, 14, .inl (fun _ => 0))), (h56, .inl (aC 0, 13, .inl (fun _ => 0)))] (QI g (fun (r : Int32) (_ : Unit) => r = (-1)) (fun (_ : Unit) => [])) 0 0 := by
  refine Ct.mk (by decide) (Nat.le_of_ble_eq_true rfl) ?_
  intro p e s m below meth c A ls hx hb hml hown hts hr hlk hnm hK hA hM hM2 hP hD hS hl
  have hown : s.vm.findClass RX11 = some m.cls := hown
  have F : Fx p s m _ c cX11_thefts 7 RX11 g aC aM A := ⟨hx, hb, hml, hown, hts, hK, hA, hM, hM2⟩
  have hl : lv_has ls 7 [(0, .ref h1), (1, .int n_1), (2, .int n_2), (3, .int n_3)] := hl
  refine lv_aload_n hx hb dX11_thefts_0 rfl (lv_at hl 0 rfl) ?_
  refine lv_iconst (v := 0) hx hb dX11_thefts_1 (by decide) ?_
  refine xput F hP hD hS 0 rfl rfl inX11 tyX11_ok nmX11 0 (by decide) tb1182 rfl rfl rfl (Nat.le_of_ble_eq_true rfl) dX11_thefts_2 (fun H locs hP hD hS => ?_)
  have hP : va_P g vwCl [(h1, .inr (11, [.int 0, x2, x3, x4, x5, x6, x7, x8, x9, x10, .ref h11, x12, x13, x14, x15, x16, x17, x18, x19, x20, x21, x22, x23, x24, x25, x26, x27, x28, x29, x30, x31, x32, x33, x34, x35, x36, x37, x38, x39, x40, x41, x42, x43, x44, x45, x46, x47, x48, x49, x50, x51, x52, x53, x54, x55, .ref h56, x57, x58, x59, x60, x61, x62, x63, x64, x65, x66, x67, x68, x69, x70, x71, x72, x73, x74])), (h11, .inl (aC 0, 14, .inl (fun _ => 0))), (h56, .inl (aC 0, 13, .inl (fun _ => 0)))] H := hP
  have hD : va_D A [(h1, .inr (11, [.int 0, x2, x3, x4, x5, x6, x7, x8, x9, x10, .ref h11, x12, x13, x14, x15, x16, x17, x18, x19, x20, x21, x22, x23, x24, x25, x26, x27, x28, x29, x30, x31, x32, x33, x34, x35, x36, x37, x38, x39, x40, x41, x42, x43, x44, x45, x46, x47, x48, x49, x50, x51, x52, x53, x54, x55, .ref h56, x57, x58, x59, x60, x61, x62, x63, x64, x65, x66, x67, x68, x69, x70, x71, x72, x73, x74])), (h11, .inl (aC 0, 14, .inl (fun _ => 0))), (h56, .inl (aC 0, 13, .inl (fun _ => 0)))] := hD
  refine lv_iload_n hx hb dX11_thefts_5 rfl (lv_at hl 1 rfl) ?_
  refine lv_iconst (v := 0) hx hb dX11_thefts_6 (by decide) ?_
  refine lv_bipush (v := 10) hx hb dX11_thefts_7 (by decide) ?_
  refine goI (wr := [(h1, .inr (11, [.int 0, x2, x3, x4, x5, x6, x7, x8, x9, x10, .ref h11, x12, x13, x14, x15, x16, x17, x18, x19, x20, x21, x22, x23, x24, x25, x26, x27, x28, x29, x30, x31, x32, x33, x34, x35, x36, x37, x38, x39, x40, x41, x42, x43, x44, x45, x46, x47, x48, x49, x50, x51, x52, x53, x54, x55, .ref h56, x57, x58, x59, x60, x61, x62, x63, x64, x65, x66, x67, x68, x69, x70, x71, x72, x73, x74])), (h11, .inl (aC 0, 14, .inl (fun _ => 0))), (h56, .inl (aC 0, 13, .inl (fun _ => 0)))]) (runS (n := 3) (As := [.int n_1, .int 0, .int 10]) (rest := []) F hP hD hS (k_within_in l g aC aM n_1 0 10 (by have a0_ := hl1; have a1_ := hh1; simp only [Int32.lt_iff_toInt_lt, Int32.le_iff_toInt_le, ← Int32.toInt_inj, show (0 : Int32).toInt = 0 by decide, show (10 : Int32).toInt = 10 by decide] at a0_ a1_ ⊢; omega) (by have a0_ := hl1; have a1_ := hh1; simp only [Int32.lt_iff_toInt_lt, Int32.le_iff_toInt_le, ← Int32.toInt_inj, show (0 : Int32).toInt = 0 by decide, show (10 : Int32).toInt = 10 by decide] at a0_ a1_ ⊢; omega)) [] (by decide) rfl tb1511 tb1509 tb1510 tb17 ⟨by decide, by decide, by decide +kernel⟩ ⟨Nat.le_of_ble_eq_true rfl, Nat.le_of_ble_eq_true rfl⟩ rfl hl.1 rfl (Nat.le_of_ble_eq_true rfl) dX11_thefts_9 ⟨Nat.le_of_ble_eq_true rfl, Nat.le_of_ble_eq_true rfl⟩) hP hD hS hA [] [0, 1, 2] rfl rfl (by decide) (by decide) (fun r_2 w3 H locs hw hP hD hS => ?_)
  have hP : va_P g vwCl [(h1, .inr (11, [.int 0, x2, x3, x4, x5, x6, x7, x8, x9, x10, .ref h11, x12, x13, x14, x15, x16, x17, x18, x19, x20, x21, x22, x23, x24, x25, x26, x27, x28, x29, x30, x31, x32, x33, x34, x35, x36, x37, x38, x39, x40, x41, x42, x43, x44, x45, x46, x47, x48, x49, x50, x51, x52, x53, x54, x55, .ref h56, x57, x58, x59, x60, x61, x62, x63, x64, x65, x66, x67, x68, x69, x70, x71, x72, x73, x74])), (h11, .inl (aC 0, 14, .inl (fun _ => 0))), (h56, .inl (aC 0, 13, .inl (fun _ => 0)))] H := hP
  have hD : va_D A [(h1, .inr (11, [.int 0, x2, x3, x4, x5, x6, x7, x8, x9, x10, .ref h11, x12, x13, x14, x15, x16, x17, x18, x19, x20, x21, x22, x23, x24, x25, x26, x27, x28, x29, x30, x31, x32, x33, x34, x35, x36, x37, x38, x39, x40, x41, x42, x43, x44, x45, x46, x47, x48, x49, x50, x51, x52, x53, x54, x55, .ref h56, x57, x58, x59, x60, x61, x62, x63, x64, x65, x66, x67, x68, x69, x70, x71, x72, x73, x74])), (h11, .inl (aC 0, 14, .inl (fun _ => 0))), (h56, .inl (aC 0, 13, .inl (fun _ => 0)))] := hD
  try dsimp only at hw
  subst hw
  refine lv_if_eq (tgt := 33) hx hb dX11_thefts_12 (by decide) (fun c_ => absurd c_ (by decide +kernel)) (fun _ => ?_)
  refine lv_iload_n hx hb dX11_thefts_15 rfl (lv_at hl 2 rfl) ?_
  refine lv_iconst (v := 0) hx hb dX11_thefts_16 (by decide) ?_
  refine lv_iconst (v := 5) hx hb dX11_thefts_17 (by decide) ?_
  refine goI (wr := [(h1, .inr (11, [.int 0, x2, x3, x4, x5, x6, x7, x8, x9, x10, .ref h11, x12, x13, x14, x15, x16, x17, x18, x19, x20, x21, x22, x23, x24, x25, x26, x27, x28, x29, x30, x31, x32, x33, x34, x35, x36, x37, x38, x39, x40, x41, x42, x43, x44, x45, x46, x47, x48, x49, x50, x51, x52, x53, x54, x55, .ref h56, x57, x58, x59, x60, x61, x62, x63, x64, x65, x66, x67, x68, x69, x70, x71, x72, x73, x74])), (h11, .inl (aC 0, 14, .inl (fun _ => 0))), (h56, .inl (aC 0, 13, .inl (fun _ => 0)))]) (runS (n := 3) (As := [.int n_2, .int 0, .int 5]) (rest := []) F hP hD hS (k_within_in l g aC aM n_2 0 5 (by have a0_ := hl2; have a1_ := hh2; simp only [Int32.lt_iff_toInt_lt, Int32.le_iff_toInt_le, ← Int32.toInt_inj, show (0 : Int32).toInt = 0 by decide, show (5 : Int32).toInt = 5 by decide] at a0_ a1_ ⊢; omega) (by have a0_ := hl2; have a1_ := hh2; simp only [Int32.lt_iff_toInt_lt, Int32.le_iff_toInt_le, ← Int32.toInt_inj, show (0 : Int32).toInt = 0 by decide, show (5 : Int32).toInt = 5 by decide] at a0_ a1_ ⊢; omega)) [] (by decide) rfl tb1511 tb1509 tb1510 tb17 ⟨by decide, by decide, by decide +kernel⟩ ⟨Nat.le_of_ble_eq_true rfl, Nat.le_of_ble_eq_true rfl⟩ rfl hl.1 rfl (Nat.le_of_ble_eq_true rfl) dX11_thefts_18 ⟨Nat.le_of_ble_eq_true rfl, Nat.le_of_ble_eq_true rfl⟩) hP hD hS hA [] [0, 1, 2] rfl rfl (by decide) (by decide) (fun r_6 w7 H locs hw hP hD hS => ?_)
  have hP : va_P g vwCl [(h1, .inr (11, [.int 0, x2, x3, x4, x5, x6, x7, x8, x9, x10, .ref h11, x12, x13, x14, x15, x16, x17, x18, x19, x20, x21, x22, x23, x24, x25, x26, x27, x28, x29, x30, x31, x32, x33, x34, x35, x36, x37, x38, x39, x40, x41, x42, x43, x44, x45, x46, x47, x48, x49, x50, x51, x52, x53, x54, x55, .ref h56, x57, x58, x59, x60, x61, x62, x63, x64, x65, x66, x67, x68, x69, x70, x71, x72, x73, x74])), (h11, .inl (aC 0, 14, .inl (fun _ => 0))), (h56, .inl (aC 0, 13, .inl (fun _ => 0)))] H := hP
  have hD : va_D A [(h1, .inr (11, [.int 0, x2, x3, x4, x5, x6, x7, x8, x9, x10, .ref h11, x12, x13, x14, x15, x16, x17, x18, x19, x20, x21, x22, x23, x24, x25, x26, x27, x28, x29, x30, x31, x32, x33, x34, x35, x36, x37, x38, x39, x40, x41, x42, x43, x44, x45, x46, x47, x48, x49, x50, x51, x52, x53, x54, x55, .ref h56, x57, x58, x59, x60, x61, x62, x63, x64, x65, x66, x67, x68, x69, x70, x71, x72, x73, x74])), (h11, .inl (aC 0, 14, .inl (fun _ => 0))), (h56, .inl (aC 0, 13, .inl (fun _ => 0)))] := hD
  try dsimp only at hw
  subst hw
  refine lv_if_eq (tgt := 33) hx hb dX11_thefts_21 (by decide) (fun c_ => absurd c_ (by decide +kernel)) (fun _ => ?_)
  refine lv_iload_n hx hb dX11_thefts_24 rfl (lv_at hl 3 rfl) ?_
  refine lv_iconst (v := 0) hx hb dX11_thefts_25 (by decide) ?_
  refine lv_iconst (v := 1) hx hb dX11_thefts_26 (by decide) ?_
  refine goI (wr := [(h1, .inr (11, [.int 0, x2, x3, x4, x5, x6, x7, x8, x9, x10, .ref h11, x12, x13, x14, x15, x16, x17, x18, x19, x20, x21, x22, x23, x24, x25, x26, x27, x28, x29, x30, x31, x32, x33, x34, x35, x36, x37, x38, x39, x40, x41, x42, x43, x44, x45, x46, x47, x48, x49, x50, x51, x52, x53, x54, x55, .ref h56, x57, x58, x59, x60, x61, x62, x63, x64, x65, x66, x67, x68, x69, x70, x71, x72, x73, x74])), (h11, .inl (aC 0, 14, .inl (fun _ => 0))), (h56, .inl (aC 0, 13, .inl (fun _ => 0)))]) (runS (n := 3) (As := [.int n_3, .int 0, .int 1]) (rest := []) F hP hD hS (k_within_hi l g aC aM n_3 0 1 (by have a0_ := hl3; simp only [Int32.lt_iff_toInt_lt, Int32.le_iff_toInt_le, ← Int32.toInt_inj, show (0 : Int32).toInt = 0 by decide, show (1 : Int32).toInt = 1 by decide, show (2 : Int32).toInt = 2 by decide] at a0_ ⊢; omega) (by have a0_ := hl3; simp only [Int32.lt_iff_toInt_lt, Int32.le_iff_toInt_le, ← Int32.toInt_inj, show (0 : Int32).toInt = 0 by decide, show (1 : Int32).toInt = 1 by decide, show (2 : Int32).toInt = 2 by decide] at a0_ ⊢; omega)) [] (by decide) rfl tb1511 tb1509 tb1510 tb17 ⟨by decide, by decide, by decide +kernel⟩ ⟨Nat.le_of_ble_eq_true rfl, Nat.le_of_ble_eq_true rfl⟩ rfl hl.1 rfl (Nat.le_of_ble_eq_true rfl) dX11_thefts_27 ⟨Nat.le_of_ble_eq_true rfl, Nat.le_of_ble_eq_true rfl⟩) hP hD hS hA [] [0, 1, 2] rfl rfl (by decide) (by decide) (fun r_10 w11 H locs hw hP hD hS => ?_)
  have hP : va_P g vwCl [(h1, .inr (11, [.int 0, x2, x3, x4, x5, x6, x7, x8, x9, x10, .ref h11, x12, x13, x14, x15, x16, x17, x18, x19, x20, x21, x22, x23, x24, x25, x26, x27, x28, x29, x30, x31, x32, x33, x34, x35, x36, x37, x38, x39, x40, x41, x42, x43, x44, x45, x46, x47, x48, x49, x50, x51, x52, x53, x54, x55, .ref h56, x57, x58, x59, x60, x61, x62, x63, x64, x65, x66, x67, x68, x69, x70, x71, x72, x73, x74])), (h11, .inl (aC 0, 14, .inl (fun _ => 0))), (h56, .inl (aC 0, 13, .inl (fun _ => 0)))] H := hP
  have hD : va_D A [(h1, .inr (11, [.int 0, x2, x3, x4, x5, x6, x7, x8, x9, x10, .ref h11, x12, x13, x14, x15, x16, x17, x18, x19, x20, x21, x22, x23, x24, x25, x26, x27, x28, x29, x30, x31, x32, x33, x34, x35, x36, x37, x38, x39, x40, x41, x42, x43, x44, x45, x46, x47, x48, x49, x50, x51, x52, x53, x54, x55, .ref h56, x57, x58, x59, x60, x61, x62, x63, x64, x65, x66, x67, x68, x69, x70, x71, x72, x73, x74])), (h11, .inl (aC 0, 14, .inl (fun _ => 0))), (h56, .inl (aC 0, 13, .inl (fun _ => 0)))] := hD
  try dsimp only at hw
  subst hw
  refine lv_if_ne (tgt := 35) hx hb dX11_thefts_30 (by decide) (fun c_ => absurd (by decide +kernel) c_) (fun _ => ?_)
  refine lv_iconst (v := (-1)) hx hb dX11_thefts_33 (by decide) ?_
  have hP9 := hP.sub (ws' := []) [] rfl
  have hD9 := hD.sub (ws' := []) [] (by decide) rfl
  exact rI () hx hb hr hlk rfl hS rfl hP9 hD9 (Nat.le_of_ble_eq_true rfl) (Nat.le_of_ble_eq_true rfl) dX11_thefts_34

set_option maxHeartbeats 4000000 in
set_option maxRecDepth 100000 in
theorem m_thefts_ok (l : Launch) (g : va_G) (aC : Nat → ClassId) (aM : Nat → Nat) (h1 h11 h56 : Nat) (x2 x3 x4 x5 x6 x7 x8 x9 x10 x12 x13 x14 x15 x16 x17 x18 x19 x20 x21 x22 x23 x24 x25 x26 x27 x28 x29 x30 x31 x32 x33 x34 x35 x36 x37 x38 x39 x40 x41 x42 x43 x44 x45 x46 x47 x48 x49 x50 x51 x52 x53 x54 x55 x57 x58 x59 x60 x61 x62 x63 x64 x65 x66 x67 x68 x69 x70 x71 x72 x73 x74 : Value) (n_1 n_2 n_3 : Int32) (hl1 : 0 ≤ n_1) (hh1 : n_1 ≤ 10) (hl2 : 0 ≤ n_2) (hh2 : n_2 ≤ 5) (hl3 : 0 ≤ n_3) (hh3 : n_3 ≤ 1) : Ct l g aC aM yX11_thefts cX11_thefts 7 (some .int) 2 [.ref h1, .int n_1, .int n_2, .int n_3] [(h1, .inr (11, [.int 0, x2, x3, x4, x5, x6, x7, x8, x9, x10, .ref h11, x12, x13, x14, x15, x16, x17, x18, x19, x20, x21, x22, x23, x24, x25, x26, x27, x28, x29, x30, x31, x32, x33, x34, x35, x36, x37, x38, x39, x40, x41, x42, x43, x44, x45, x46, x47, x48, x49, x50, x51, x52, x53, x54, x55, .ref h56, x57, x58, x59, x60, x61, x62, x63, x64, x65, x66, x67, x68, x69, x70, x71, x72, x73, x74])), (h11, .inl (aC 0, 14, .inl (fun _ => 0))), (h56, .inl (aC 0, 13, .inl (fun _ => 0)))] (QI g (fun (r : Int32) (_ : Unit) => r = 0) (fun (_ : Unit) => [])) 0 0 := by
  refine Ct.mk (by decide) (Nat.le_of_ble_eq_true rfl) ?_
  intro p e s m below meth c A ls hx hb hml hown hts hr hlk hnm hK hA hM hM2 hP hD hS hl
  have hown : s.vm.findClass RX11 = some m.cls := hown
  have F : Fx p s m _ c cX11_thefts 7 RX11 g aC aM A := ⟨hx, hb, hml, hown, hts, hK, hA, hM, hM2⟩
  have hl : lv_has ls 7 [(0, .ref h1), (1, .int n_1), (2, .int n_2), (3, .int n_3)] := hl
  refine lv_aload_n hx hb dX11_thefts_0 rfl (lv_at hl 0 rfl) ?_
  refine lv_iconst (v := 0) hx hb dX11_thefts_1 (by decide) ?_
  refine xput F hP hD hS 0 rfl rfl inX11 tyX11_ok nmX11 0 (by decide) tb1182 rfl rfl rfl (Nat.le_of_ble_eq_true rfl) dX11_thefts_2 (fun H locs hP hD hS => ?_)
  have hP : va_P g vwCl [(h1, .inr (11, [.int 0, x2, x3, x4, x5, x6, x7, x8, x9, x10, .ref h11, x12, x13, x14, x15, x16, x17, x18, x19, x20, x21, x22, x23, x24, x25, x26, x27, x28, x29, x30, x31, x32, x33, x34, x35, x36, x37, x38, x39, x40, x41, x42, x43, x44, x45, x46, x47, x48, x49, x50, x51, x52, x53, x54, x55, .ref h56, x57, x58, x59, x60, x61, x62, x63, x64, x65, x66, x67, x68, x69, x70, x71, x72, x73, x74])), (h11, .inl (aC 0, 14, .inl (fun _ => 0))), (h56, .inl (aC 0, 13, .inl (fun _ => 0)))] H := hP
  have hD : va_D A [(h1, .inr (11, [.int 0, x2, x3, x4, x5, x6, x7, x8, x9, x10, .ref h11, x12, x13, x14, x15, x16, x17, x18, x19, x20, x21, x22, x23, x24, x25, x26, x27, x28, x29, x30, x31, x32, x33, x34, x35, x36, x37, x38, x39, x40, x41, x42, x43, x44, x45, x46, x47, x48, x49, x50, x51, x52, x53, x54, x55, .ref h56, x57, x58, x59, x60, x61, x62, x63, x64, x65, x66, x67, x68, x69, x70, x71, x72, x73, x74])), (h11, .inl (aC 0, 14, .inl (fun _ => 0))), (h56, .inl (aC 0, 13, .inl (fun _ => 0)))] := hD
  refine lv_iload_n hx hb dX11_thefts_5 rfl (lv_at hl 1 rfl) ?_
  refine lv_iconst (v := 0) hx hb dX11_thefts_6 (by decide) ?_
  refine lv_bipush (v := 10) hx hb dX11_thefts_7 (by decide) ?_
  refine goI (wr := [(h1, .inr (11, [.int 0, x2, x3, x4, x5, x6, x7, x8, x9, x10, .ref h11, x12, x13, x14, x15, x16, x17, x18, x19, x20, x21, x22, x23, x24, x25, x26, x27, x28, x29, x30, x31, x32, x33, x34, x35, x36, x37, x38, x39, x40, x41, x42, x43, x44, x45, x46, x47, x48, x49, x50, x51, x52, x53, x54, x55, .ref h56, x57, x58, x59, x60, x61, x62, x63, x64, x65, x66, x67, x68, x69, x70, x71, x72, x73, x74])), (h11, .inl (aC 0, 14, .inl (fun _ => 0))), (h56, .inl (aC 0, 13, .inl (fun _ => 0)))]) (runS (n := 3) (As := [.int n_1, .int 0, .int 10]) (rest := []) F hP hD hS (k_within_in l g aC aM n_1 0 10 (by have a0_ := hl1; have a1_ := hh1; simp only [Int32.lt_iff_toInt_lt, Int32.le_iff_toInt_le, ← Int32.toInt_inj, show (0 : Int32).toInt = 0 by decide, show (10 : Int32).toInt = 10 by decide] at a0_ a1_ ⊢; omega) (by have a0_ := hl1; have a1_ := hh1; simp only [Int32.lt_iff_toInt_lt, Int32.le_iff_toInt_le, ← Int32.toInt_inj, show (0 : Int32).toInt = 0 by decide, show (10 : Int32).toInt = 10 by decide] at a0_ a1_ ⊢; omega)) [] (by decide) rfl tb1511 tb1509 tb1510 tb17 ⟨by decide, by decide, by decide +kernel⟩ ⟨Nat.le_of_ble_eq_true rfl, Nat.le_of_ble_eq_true rfl⟩ rfl hl.1 rfl (Nat.le_of_ble_eq_true rfl) dX11_thefts_9 ⟨Nat.le_of_ble_eq_true rfl, Nat.le_of_ble_eq_true rfl⟩) hP hD hS hA [] [0, 1, 2] rfl rfl (by decide) (by decide) (fun r_2 w3 H locs hw hP hD hS => ?_)
  have hP : va_P g vwCl [(h1, .inr (11, [.int 0, x2, x3, x4, x5, x6, x7, x8, x9, x10, .ref h11, x12, x13, x14, x15, x16, x17, x18, x19, x20, x21, x22, x23, x24, x25, x26, x27, x28, x29, x30, x31, x32, x33, x34, x35, x36, x37, x38, x39, x40, x41, x42, x43, x44, x45, x46, x47, x48, x49, x50, x51, x52, x53, x54, x55, .ref h56, x57, x58, x59, x60, x61, x62, x63, x64, x65, x66, x67, x68, x69, x70, x71, x72, x73, x74])), (h11, .inl (aC 0, 14, .inl (fun _ => 0))), (h56, .inl (aC 0, 13, .inl (fun _ => 0)))] H := hP
  have hD : va_D A [(h1, .inr (11, [.int 0, x2, x3, x4, x5, x6, x7, x8, x9, x10, .ref h11, x12, x13, x14, x15, x16, x17, x18, x19, x20, x21, x22, x23, x24, x25, x26, x27, x28, x29, x30, x31, x32, x33, x34, x35, x36, x37, x38, x39, x40, x41, x42, x43, x44, x45, x46, x47, x48, x49, x50, x51, x52, x53, x54, x55, .ref h56, x57, x58, x59, x60, x61, x62, x63, x64, x65, x66, x67, x68, x69, x70, x71, x72, x73, x74])), (h11, .inl (aC 0, 14, .inl (fun _ => 0))), (h56, .inl (aC 0, 13, .inl (fun _ => 0)))] := hD
  try dsimp only at hw
  subst hw
  refine lv_if_eq (tgt := 33) hx hb dX11_thefts_12 (by decide) (fun c_ => absurd c_ (by decide +kernel)) (fun _ => ?_)
  refine lv_iload_n hx hb dX11_thefts_15 rfl (lv_at hl 2 rfl) ?_
  refine lv_iconst (v := 0) hx hb dX11_thefts_16 (by decide) ?_
  refine lv_iconst (v := 5) hx hb dX11_thefts_17 (by decide) ?_
  refine goI (wr := [(h1, .inr (11, [.int 0, x2, x3, x4, x5, x6, x7, x8, x9, x10, .ref h11, x12, x13, x14, x15, x16, x17, x18, x19, x20, x21, x22, x23, x24, x25, x26, x27, x28, x29, x30, x31, x32, x33, x34, x35, x36, x37, x38, x39, x40, x41, x42, x43, x44, x45, x46, x47, x48, x49, x50, x51, x52, x53, x54, x55, .ref h56, x57, x58, x59, x60, x61, x62, x63, x64, x65, x66, x67, x68, x69, x70, x71, x72, x73, x74])), (h11, .inl (aC 0, 14, .inl (fun _ => 0))), (h56, .inl (aC 0, 13, .inl (fun _ => 0)))]) (runS (n := 3) (As := [.int n_2, .int 0, .int 5]) (rest := []) F hP hD hS (k_within_in l g aC aM n_2 0 5 (by have a0_ := hl2; have a1_ := hh2; simp only [Int32.lt_iff_toInt_lt, Int32.le_iff_toInt_le, ← Int32.toInt_inj, show (0 : Int32).toInt = 0 by decide, show (5 : Int32).toInt = 5 by decide] at a0_ a1_ ⊢; omega) (by have a0_ := hl2; have a1_ := hh2; simp only [Int32.lt_iff_toInt_lt, Int32.le_iff_toInt_le, ← Int32.toInt_inj, show (0 : Int32).toInt = 0 by decide, show (5 : Int32).toInt = 5 by decide] at a0_ a1_ ⊢; omega)) [] (by decide) rfl tb1511 tb1509 tb1510 tb17 ⟨by decide, by decide, by decide +kernel⟩ ⟨Nat.le_of_ble_eq_true rfl, Nat.le_of_ble_eq_true rfl⟩ rfl hl.1 rfl (Nat.le_of_ble_eq_true rfl) dX11_thefts_18 ⟨Nat.le_of_ble_eq_true rfl, Nat.le_of_ble_eq_true rfl⟩) hP hD hS hA [] [0, 1, 2] rfl rfl (by decide) (by decide) (fun r_6 w7 H locs hw hP hD hS => ?_)
  have hP : va_P g vwCl [(h1, .inr (11, [.int 0, x2, x3, x4, x5, x6, x7, x8, x9, x10, .ref h11, x12, x13, x14, x15, x16, x17, x18, x19, x20, x21, x22, x23, x24, x25, x26, x27, x28, x29, x30, x31, x32, x33, x34, x35, x36, x37, x38, x39, x40, x41, x42, x43, x44, x45, x46, x47, x48, x49, x50, x51, x52, x53, x54, x55, .ref h56, x57, x58, x59, x60, x61, x62, x63, x64, x65, x66, x67, x68, x69, x70, x71, x72, x73, x74])), (h11, .inl (aC 0, 14, .inl (fun _ => 0))), (h56, .inl (aC 0, 13, .inl (fun _ => 0)))] H := hP
  have hD : va_D A [(h1, .inr (11, [.int 0, x2, x3, x4, x5, x6, x7, x8, x9, x10, .ref h11, x12, x13, x14, x15, x16, x17, x18, x19, x20, x21, x22, x23, x24, x25, x26, x27, x28, x29, x30, x31, x32, x33, x34, x35, x36, x37, x38, x39, x40, x41, x42, x43, x44, x45, x46, x47, x48, x49, x50, x51, x52, x53, x54, x55, .ref h56, x57, x58, x59, x60, x61, x62, x63, x64, x65, x66, x67, x68, x69, x70, x71, x72, x73, x74])), (h11, .inl (aC 0, 14, .inl (fun _ => 0))), (h56, .inl (aC 0, 13, .inl (fun _ => 0)))] := hD
  try dsimp only at hw
  subst hw
  refine lv_if_eq (tgt := 33) hx hb dX11_thefts_21 (by decide) (fun c_ => absurd c_ (by decide +kernel)) (fun _ => ?_)
  refine lv_iload_n hx hb dX11_thefts_24 rfl (lv_at hl 3 rfl) ?_
  refine lv_iconst (v := 0) hx hb dX11_thefts_25 (by decide) ?_
  refine lv_iconst (v := 1) hx hb dX11_thefts_26 (by decide) ?_
  refine goI (wr := [(h1, .inr (11, [.int 0, x2, x3, x4, x5, x6, x7, x8, x9, x10, .ref h11, x12, x13, x14, x15, x16, x17, x18, x19, x20, x21, x22, x23, x24, x25, x26, x27, x28, x29, x30, x31, x32, x33, x34, x35, x36, x37, x38, x39, x40, x41, x42, x43, x44, x45, x46, x47, x48, x49, x50, x51, x52, x53, x54, x55, .ref h56, x57, x58, x59, x60, x61, x62, x63, x64, x65, x66, x67, x68, x69, x70, x71, x72, x73, x74])), (h11, .inl (aC 0, 14, .inl (fun _ => 0))), (h56, .inl (aC 0, 13, .inl (fun _ => 0)))]) (runS (n := 3) (As := [.int n_3, .int 0, .int 1]) (rest := []) F hP hD hS (k_within_in l g aC aM n_3 0 1 (by have a0_ := hl3; have a1_ := hh3; simp only [Int32.lt_iff_toInt_lt, Int32.le_iff_toInt_le, ← Int32.toInt_inj, show (0 : Int32).toInt = 0 by decide, show (1 : Int32).toInt = 1 by decide] at a0_ a1_ ⊢; omega) (by have a0_ := hl3; have a1_ := hh3; simp only [Int32.lt_iff_toInt_lt, Int32.le_iff_toInt_le, ← Int32.toInt_inj, show (0 : Int32).toInt = 0 by decide, show (1 : Int32).toInt = 1 by decide] at a0_ a1_ ⊢; omega)) [] (by decide) rfl tb1511 tb1509 tb1510 tb17 ⟨by decide, by decide, by decide +kernel⟩ ⟨Nat.le_of_ble_eq_true rfl, Nat.le_of_ble_eq_true rfl⟩ rfl hl.1 rfl (Nat.le_of_ble_eq_true rfl) dX11_thefts_27 ⟨Nat.le_of_ble_eq_true rfl, Nat.le_of_ble_eq_true rfl⟩) hP hD hS hA [] [0, 1, 2] rfl rfl (by decide) (by decide) (fun r_10 w11 H locs hw hP hD hS => ?_)
  have hP : va_P g vwCl [(h1, .inr (11, [.int 0, x2, x3, x4, x5, x6, x7, x8, x9, x10, .ref h11, x12, x13, x14, x15, x16, x17, x18, x19, x20, x21, x22, x23, x24, x25, x26, x27, x28, x29, x30, x31, x32, x33, x34, x35, x36, x37, x38, x39, x40, x41, x42, x43, x44, x45, x46, x47, x48, x49, x50, x51, x52, x53, x54, x55, .ref h56, x57, x58, x59, x60, x61, x62, x63, x64, x65, x66, x67, x68, x69, x70, x71, x72, x73, x74])), (h11, .inl (aC 0, 14, .inl (fun _ => 0))), (h56, .inl (aC 0, 13, .inl (fun _ => 0)))] H := hP
  have hD : va_D A [(h1, .inr (11, [.int 0, x2, x3, x4, x5, x6, x7, x8, x9, x10, .ref h11, x12, x13, x14, x15, x16, x17, x18, x19, x20, x21, x22, x23, x24, x25, x26, x27, x28, x29, x30, x31, x32, x33, x34, x35, x36, x37, x38, x39, x40, x41, x42, x43, x44, x45, x46, x47, x48, x49, x50, x51, x52, x53, x54, x55, .ref h56, x57, x58, x59, x60, x61, x62, x63, x64, x65, x66, x67, x68, x69, x70, x71, x72, x73, x74])), (h11, .inl (aC 0, 14, .inl (fun _ => 0))), (h56, .inl (aC 0, 13, .inl (fun _ => 0)))] := hD
  try dsimp only at hw
  subst hw
  refine lv_if_ne (tgt := 35) hx hb dX11_thefts_30 (by decide) (fun _ => ?_) (fun c_ => absurd c_ (by decide +kernel))
  refine lv_iconst (v := (-1)) hx hb dX11_thefts_35 (by decide) ?_
  refine lv_istore (lv' := [(4, .int (-1)), (0, .ref h1), (1, .int n_1), (2, .int n_2), (3, .int n_3)]) hx hb dX11_thefts_36 hl (by decide) rfl (fun ls hl => ?_)
  refine lv_iconst (v := 0) hx hb dX11_thefts_38 (by decide) ?_
  refine lv_istore (lv' := [(5, .int 0), (4, .int (-1)), (0, .ref h1), (1, .int n_1), (2, .int n_2), (3, .int n_3)]) hx hb dX11_thefts_39 hl (by decide) rfl (fun ls hl => ?_)
  refine lv_iload hx hb dX11_thefts_41 (lv_at hl 0 rfl) ?_
  refine lv_aload_n hx hb dX11_thefts_43 rfl (lv_at hl 2 rfl) ?_
  refine goI (wr := [(h56, .inl (aC 0, 13, .inl (fun _ => 0)))]) (runV (n := 0) (As := []) (rest := [.int 0]) F hP hD hS (a_X11_allFlights_2 l g aC aM h1 h11 (.int 0) x2 x3 x4 x5 x6 x7 x8 x9 x10 x12 x13 x14 x15 x16 x17 x18 x19 x20 x21 x22 x23 x24 x25 x26 x27 x28 x29 x30 x31 x32 x33 x34 x35 x36 x37 x38 x39 x40 x41 x42 x43 x44 x45 x46 x47 x48 x49 x50 x51 x52 x53 x54 x55 (.ref h56) x57 x58 x59 x60 x61 x62 x63 x64 x65 x66 x67 x68 x69 x70 x71 x72 x73 x74) [0, 1] (by decide) rfl 0 11 rfl rfl rfl tb1592 tb1589 tb1591 tv65 tb17 ⟨by decide, by decide, by decide +kernel⟩ ⟨Nat.le_of_ble_eq_true rfl, Nat.le_of_ble_eq_true rfl⟩ rfl hl.1 rfl (Nat.le_of_ble_eq_true rfl) dX11_thefts_44 ⟨Nat.le_of_ble_eq_true rfl, Nat.le_of_ble_eq_true rfl⟩) hP hD hS hA [0, 1] [2] rfl rfl (by decide) (by decide) (fun r_14 w15 H locs hw hP hD hS => ?_)
  have hP : va_P g vwCl [(h56, .inl (aC 0, 13, .inl (fun _ => 0))), (h1, .inr (11, [.int 0, x2, x3, x4, x5, x6, x7, x8, x9, x10, .ref h11, x12, x13, x14, x15, x16, x17, x18, x19, x20, x21, x22, x23, x24, x25, x26, x27, x28, x29, x30, x31, x32, x33, x34, x35, x36, x37, x38, x39, x40, x41, x42, x43, x44, x45, x46, x47, x48, x49, x50, x51, x52, x53, x54, x55, .ref h56, x57, x58, x59, x60, x61, x62, x63, x64, x65, x66, x67, x68, x69, x70, x71, x72, x73, x74])), (h11, .inl (aC 0, 14, .inl (fun _ => 0)))] H := hP
  have hD : va_D A [(h56, .inl (aC 0, 13, .inl (fun _ => 0))), (h1, .inr (11, [.int 0, x2, x3, x4, x5, x6, x7, x8, x9, x10, .ref h11, x12, x13, x14, x15, x16, x17, x18, x19, x20, x21, x22, x23, x24, x25, x26, x27, x28, x29, x30, x31, x32, x33, x34, x35, x36, x37, x38, x39, x40, x41, x42, x43, x44, x45, x46, x47, x48, x49, x50, x51, x52, x53, x54, x55, .ref h56, x57, x58, x59, x60, x61, x62, x63, x64, x65, x66, x67, x68, x69, x70, x71, x72, x73, x74])), (h11, .inl (aC 0, 14, .inl (fun _ => 0)))] := hD
  try dsimp only at hw
  subst hw
  refine lv_icmp_gt (tgt := 167) hx hb dX11_thefts_47 (by decide) (fun c_ => absurd c_ (by decide +kernel)) (fun _ => ?_)
  refine lv_iload hx hb dX11_thefts_50 (lv_at hl 0 rfl) ?_
  refine lv_aload_n hx hb dX11_thefts_52 rfl (lv_at hl 2 rfl) ?_
  refine xget F hP 1 rfl rfl inX11 55 (by decide) tb1237 rfl dX11_thefts_53 ?_
  refine lv_iconst (v := 0) hx hb dX11_thefts_56 (by decide) ?_
  refine xilo (v := 0) F hP 0 rfl 0 (by decide +kernel) (by decide +kernel) (by decide) (by decide +kernel) dX11_thefts_57 ?_
  refine lv_iconst (v := (-1)) hx hb dX11_thefts_58 (by decide) ?_
  refine lv_ixor hx hb dX11_thefts_59 ?_
  refine relit (v := (-1)) (by decide +kernel) ?_
  refine lv_iand hx hb dX11_thefts_60 ?_
  refine relit (v := 0) (by decide +kernel) ?_
  refine lv_if_ne (tgt := 161) hx hb dX11_thefts_61 (by decide) (fun c_ => absurd (by decide +kernel) c_) (fun _ => ?_)
  refine lv_iload hx hb dX11_thefts_64 (lv_at hl 0 rfl) ?_
  refine goI (wr := [(h56, .inl (aC 0, 13, .inl (fun _ => 0))), (h1, .inr (11, [.int 0, x2, x3, x4, x5, x6, x7, x8, x9, x10, .ref h11, x12, x13, x14, x15, x16, x17, x18, x19, x20, x21, x22, x23, x24, x25, x26, x27, x28, x29, x30, x31, x32, x33, x34, x35, x36, x37, x38, x39, x40, x41, x42, x43, x44, x45, x46, x47, x48, x49, x50, x51, x52, x53, x54, x55, .ref h56, x57, x58, x59, x60, x61, x62, x63, x64, x65, x66, x67, x68, x69, x70, x71, x72, x73, x74])), (h11, .inl (aC 0, 14, .inl (fun _ => 0)))]) (runS (n := 1) (As := [.int 0]) (rest := []) F hP hD hS (a_X11_bits_1 l g aC aM ) [] (by decide) rfl tb1711 tb1709 tb1710 tb17 ⟨by decide, by decide, by decide +kernel⟩ ⟨Nat.le_of_ble_eq_true rfl, Nat.le_of_ble_eq_true rfl⟩ rfl hl.1 rfl (Nat.le_of_ble_eq_true rfl) dX11_thefts_66 ⟨Nat.le_of_ble_eq_true rfl, Nat.le_of_ble_eq_true rfl⟩) hP hD hS hA [] [0, 1, 2] rfl rfl (by decide) (by decide) (fun r_19 w20 H locs hw hP hD hS => ?_)
  have hP : va_P g vwCl [(h56, .inl (aC 0, 13, .inl (fun _ => 0))), (h1, .inr (11, [.int 0, x2, x3, x4, x5, x6, x7, x8, x9, x10, .ref h11, x12, x13, x14, x15, x16, x17, x18, x19, x20, x21, x22, x23, x24, x25, x26, x27, x28, x29, x30, x31, x32, x33, x34, x35, x36, x37, x38, x39, x40, x41, x42, x43, x44, x45, x46, x47, x48, x49, x50, x51, x52, x53, x54, x55, .ref h56, x57, x58, x59, x60, x61, x62, x63, x64, x65, x66, x67, x68, x69, x70, x71, x72, x73, x74])), (h11, .inl (aC 0, 14, .inl (fun _ => 0)))] H := hP
  have hD : va_D A [(h56, .inl (aC 0, 13, .inl (fun _ => 0))), (h1, .inr (11, [.int 0, x2, x3, x4, x5, x6, x7, x8, x9, x10, .ref h11, x12, x13, x14, x15, x16, x17, x18, x19, x20, x21, x22, x23, x24, x25, x26, x27, x28, x29, x30, x31, x32, x33, x34, x35, x36, x37, x38, x39, x40, x41, x42, x43, x44, x45, x46, x47, x48, x49, x50, x51, x52, x53, x54, x55, .ref h56, x57, x58, x59, x60, x61, x62, x63, x64, x65, x66, x67, x68, x69, x70, x71, x72, x73, x74])), (h11, .inl (aC 0, 14, .inl (fun _ => 0)))] := hD
  try dsimp only at hw
  subst hw
  refine lv_iload_n hx hb dX11_thefts_69 rfl (lv_at hl 3 rfl) ?_
  refine lv_icmp_gt (tgt := 161) hx hb dX11_thefts_70 (by decide) (fun c21 => ?_) (fun c21 => ?_)
  · exfalso
    simp only [Int32.lt_iff_toInt_lt, Int32.le_iff_toInt_le, ← Int32.toInt_inj, show (0 : Int32).toInt = 0 by decide, show (10 : Int32).toInt = 10 by decide] at hl1 hh1 c21; omega
  · refine lv_aload_n hx hb dX11_thefts_73 rfl (lv_at hl 2 rfl) ?_
    refine lv_iload hx hb dX11_thefts_74 (lv_at hl 0 rfl) ?_
    refine goI (wr := [(h56, .inl (aC 0, 13, .inl (fun _ => 0)))]) (runV (n := 1) (As := [.int 0]) (rest := []) F hP hD hS (a_X11_isFromTop_1 l g aC aM h1 h11 (.int 0) x2 x3 x4 x5 x6 x7 x8 x9 x10 x12 x13 x14 x15 x16 x17 x18 x19 x20 x21 x22 x23 x24 x25 x26 x27 x28 x29 x30 x31 x32 x33 x34 x35 x36 x37 x38 x39 x40 x41 x42 x43 x44 x45 x46 x47 x48 x49 x50 x51 x52 x53 x54 x55 (.ref h56) x57 x58 x59 x60 x61 x62 x63 x64 x65 x66 x67 x68 x69 x70 x71 x72 x73 x74) [1, 2] (by decide) rfl 1 11 rfl rfl rfl tb1798 tb1795 tb1797 tv97 tb17 ⟨by decide, by decide, by decide +kernel⟩ ⟨Nat.le_of_ble_eq_true rfl, Nat.le_of_ble_eq_true rfl⟩ rfl hl.1 rfl (Nat.le_of_ble_eq_true rfl) dX11_thefts_76 ⟨Nat.le_of_ble_eq_true rfl, Nat.le_of_ble_eq_true rfl⟩) hP hD hS hA [1, 2] [0] rfl rfl (by decide) (by decide) (fun r_23 w24 H locs hw hP hD hS => ?_)
    have hP : va_P g vwCl [(h56, .inl (aC 0, 13, .inl (fun _ => 0))), (h1, .inr (11, [.int 0, x2, x3, x4, x5, x6, x7, x8, x9, x10, .ref h11, x12, x13, x14, x15, x16, x17, x18, x19, x20, x21, x22, x23, x24, x25, x26, x27, x28, x29, x30, x31, x32, x33, x34, x35, x36, x37, x38, x39, x40, x41, x42, x43, x44, x45, x46, x47, x48, x49, x50, x51, x52, x53, x54, x55, .ref h56, x57, x58, x59, x60, x61, x62, x63, x64, x65, x66, x67, x68, x69, x70, x71, x72, x73, x74])), (h11, .inl (aC 0, 14, .inl (fun _ => 0)))] H := hP
    have hD : va_D A [(h56, .inl (aC 0, 13, .inl (fun _ => 0))), (h1, .inr (11, [.int 0, x2, x3, x4, x5, x6, x7, x8, x9, x10, .ref h11, x12, x13, x14, x15, x16, x17, x18, x19, x20, x21, x22, x23, x24, x25, x26, x27, x28, x29, x30, x31, x32, x33, x34, x35, x36, x37, x38, x39, x40, x41, x42, x43, x44, x45, x46, x47, x48, x49, x50, x51, x52, x53, x54, x55, .ref h56, x57, x58, x59, x60, x61, x62, x63, x64, x65, x66, x67, x68, x69, x70, x71, x72, x73, x74])), (h11, .inl (aC 0, 14, .inl (fun _ => 0)))] := hD
    try dsimp only at hw
    subst hw
    refine lv_if_ne (tgt := 85) hx hb dX11_thefts_79 (by decide) (fun _ => ?_) (fun c_ => absurd c_ (by decide +kernel))
    refine lv_iload hx hb dX11_thefts_85 (lv_at hl 1 rfl) ?_
    refine lv_if_ge (tgt := 94) hx hb dX11_thefts_87 (by decide) (fun c_ => absurd c_ (by decide +kernel)) (fun _ => ?_)
    refine lv_iconst (v := 1) hx hb dX11_thefts_90 (by decide) ?_
    refine lv_goto (tgt := 107) hx hb dX11_thefts_91 (by decide) ?_
    refine lv_istore (lv' := [(6, .int 1), (5, .int 0), (4, .int (-1)), (0, .ref h1), (1, .int n_1), (2, .int n_2), (3, .int n_3)]) hx hb dX11_thefts_107 hl (by decide) rfl (fun ls hl => ?_)
    refine lv_iload hx hb dX11_thefts_109 (lv_at hl 0 rfl) ?_
    refine lv_if_lt (tgt := 161) hx hb dX11_thefts_111 (by decide) (fun c_ => absurd c_ (by decide +kernel)) (fun _ => ?_)
    refine lv_iload hx hb dX11_thefts_114 (lv_at hl 0 rfl) ?_
    refine lv_if_ne (tgt := 135) hx hb dX11_thefts_116 (by decide) (fun _ => ?_) (fun c_ => absurd c_ (by decide +kernel))
    refine lv_aload_n hx hb dX11_thefts_135 rfl (lv_at hl 3 rfl) ?_
    refine lv_aload_n hx hb dX11_thefts_136 rfl (lv_at hl 3 rfl) ?_
    refine xget F hP 1 rfl rfl inX11 55 (by decide) tb1237 rfl dX11_thefts_137 ?_
    refine lv_iconst (v := 0) hx hb dX11_thefts_140 (by decide) ?_
    refine xilo (v := 0) F hP 0 rfl 0 (by decide +kernel) (by decide +kernel) (by decide) (by decide +kernel) dX11_thefts_141 ?_
    refine lv_iload hx hb dX11_thefts_142 (lv_at hl 1 rfl) ?_
    refine lv_iconst (v := (-1)) hx hb dX11_thefts_144 (by decide) ?_
    refine lv_ixor hx hb dX11_thefts_145 ?_
    refine relit (v := (-1)) (by decide +kernel) ?_
    refine lv_iand hx hb dX11_thefts_146 ?_
    refine relit (v := 0) (by decide +kernel) ?_
    refine goI (wr := [(h56, .inl (aC 0, 13, .inl (fun _ => 0)))]) (runV (n := 1) (As := [.int 0]) (rest := []) F hP hD hS (a_X11_cutBy_1 l g aC aM h1 h11 (.int 0) x2 x3 x4 x5 x6 x7 x8 x9 x10 x12 x13 x14 x15 x16 x17 x18 x19 x20 x21 x22 x23 x24 x25 x26 x27 x28 x29 x30 x31 x32 x33 x34 x35 x36 x37 x38 x39 x40 x41 x42 x43 x44 x45 x46 x47 x48 x49 x50 x51 x52 x53 x54 x55 (.ref h56) x57 x58 x59 x60 x61 x62 x63 x64 x65 x66 x67 x68 x69 x70 x71 x72 x73 x74) [1, 2] (by decide) rfl 1 11 rfl rfl rfl tb1677 tb1674 tb1676 tv79 tb17 ⟨by decide, by decide, by decide +kernel⟩ ⟨Nat.le_of_ble_eq_true rfl, Nat.le_of_ble_eq_true rfl⟩ rfl hl.1 rfl (Nat.le_of_ble_eq_true rfl) dX11_thefts_147 ⟨Nat.le_of_ble_eq_true rfl, Nat.le_of_ble_eq_true rfl⟩) hP hD hS hA [1, 2] [0] rfl rfl (by decide) (by decide) (fun r_30 w31 H locs hw hP hD hS => ?_)
    have hP : va_P g vwCl [(h56, .inl (aC 0, 13, .inl (fun _ => 0))), (h1, .inr (11, [.int 0, x2, x3, x4, x5, x6, x7, x8, x9, x10, .ref h11, x12, x13, x14, x15, x16, x17, x18, x19, x20, x21, x22, x23, x24, x25, x26, x27, x28, x29, x30, x31, x32, x33, x34, x35, x36, x37, x38, x39, x40, x41, x42, x43, x44, x45, x46, x47, x48, x49, x50, x51, x52, x53, x54, x55, .ref h56, x57, x58, x59, x60, x61, x62, x63, x64, x65, x66, x67, x68, x69, x70, x71, x72, x73, x74])), (h11, .inl (aC 0, 14, .inl (fun _ => 0)))] H := hP
    have hD : va_D A [(h56, .inl (aC 0, 13, .inl (fun _ => 0))), (h1, .inr (11, [.int 0, x2, x3, x4, x5, x6, x7, x8, x9, x10, .ref h11, x12, x13, x14, x15, x16, x17, x18, x19, x20, x21, x22, x23, x24, x25, x26, x27, x28, x29, x30, x31, x32, x33, x34, x35, x36, x37, x38, x39, x40, x41, x42, x43, x44, x45, x46, x47, x48, x49, x50, x51, x52, x53, x54, x55, .ref h56, x57, x58, x59, x60, x61, x62, x63, x64, x65, x66, x67, x68, x69, x70, x71, x72, x73, x74])), (h11, .inl (aC 0, 14, .inl (fun _ => 0)))] := hD
    try dsimp only at hw
    subst hw
    refine goI (wr := [(h56, .inl (aC 0, 13, .inl (fun _ => 0))), (h1, .inr (11, [.int 0, x2, x3, x4, x5, x6, x7, x8, x9, x10, .ref h11, x12, x13, x14, x15, x16, x17, x18, x19, x20, x21, x22, x23, x24, x25, x26, x27, x28, x29, x30, x31, x32, x33, x34, x35, x36, x37, x38, x39, x40, x41, x42, x43, x44, x45, x46, x47, x48, x49, x50, x51, x52, x53, x54, x55, .ref h56, x57, x58, x59, x60, x61, x62, x63, x64, x65, x66, x67, x68, x69, x70, x71, x72, x73, x74])), (h11, .inl (aC 0, 14, .inl (fun _ => 0)))]) (runS (n := 1) (As := [.int 0]) (rest := []) F hP hD hS (a_X11_bits_1 l g aC aM ) [] (by decide) rfl tb1711 tb1709 tb1710 tb17 ⟨by decide, by decide, by decide +kernel⟩ ⟨Nat.le_of_ble_eq_true rfl, Nat.le_of_ble_eq_true rfl⟩ rfl hl.1 rfl (Nat.le_of_ble_eq_true rfl) dX11_thefts_150 ⟨Nat.le_of_ble_eq_true rfl, Nat.le_of_ble_eq_true rfl⟩) hP hD hS hA [] [0, 1, 2] rfl rfl (by decide) (by decide) (fun r_33 w34 H locs hw hP hD hS => ?_)
    have hP : va_P g vwCl [(h56, .inl (aC 0, 13, .inl (fun _ => 0))), (h1, .inr (11, [.int 0, x2, x3, x4, x5, x6, x7, x8, x9, x10, .ref h11, x12, x13, x14, x15, x16, x17, x18, x19, x20, x21, x22, x23, x24, x25, x26, x27, x28, x29, x30, x31, x32, x33, x34, x35, x36, x37, x38, x39, x40, x41, x42, x43, x44, x45, x46, x47, x48, x49, x50, x51, x52, x53, x54, x55, .ref h56, x57, x58, x59, x60, x61, x62, x63, x64, x65, x66, x67, x68, x69, x70, x71, x72, x73, x74])), (h11, .inl (aC 0, 14, .inl (fun _ => 0)))] H := hP
    have hD : va_D A [(h56, .inl (aC 0, 13, .inl (fun _ => 0))), (h1, .inr (11, [.int 0, x2, x3, x4, x5, x6, x7, x8, x9, x10, .ref h11, x12, x13, x14, x15, x16, x17, x18, x19, x20, x21, x22, x23, x24, x25, x26, x27, x28, x29, x30, x31, x32, x33, x34, x35, x36, x37, x38, x39, x40, x41, x42, x43, x44, x45, x46, x47, x48, x49, x50, x51, x52, x53, x54, x55, .ref h56, x57, x58, x59, x60, x61, x62, x63, x64, x65, x66, x67, x68, x69, x70, x71, x72, x73, x74])), (h11, .inl (aC 0, 14, .inl (fun _ => 0)))] := hD
    try dsimp only at hw
    subst hw
    refine lv_iload_n hx hb dX11_thefts_153 rfl (lv_at hl 5 rfl) ?_
    refine lv_icmp_gt (tgt := 161) hx hb dX11_thefts_154 (by decide) (fun c35 => ?_) (fun c35 => ?_)
    · exfalso
      simp only [Int32.lt_iff_toInt_lt, Int32.le_iff_toInt_le, ← Int32.toInt_inj, show (0 : Int32).toInt = 0 by decide, show (5 : Int32).toInt = 5 by decide] at hl2 hh2 c35; omega
    · refine lv_iload hx hb dX11_thefts_157 (lv_at hl 1 rfl) ?_
      refine lv_istore (lv' := [(4, .int 0), (6, .int 1), (5, .int 0), (0, .ref h1), (1, .int n_1), (2, .int n_2), (3, .int n_3)]) hx hb dX11_thefts_159 hl (by decide) rfl (fun ls hl => ?_)
      refine lv_iinc (v := 1) (lv' := [(5, .int 1), (4, .int 0), (6, .int 1), (0, .ref h1), (1, .int n_1), (2, .int n_2), (3, .int n_3)]) hx hb dX11_thefts_161 hl (k := 2) rfl (by decide +kernel) (by decide) rfl (fun ls hl => ?_)
      refine lv_goto (tgt := 41) hx hb dX11_thefts_164 (by decide) ?_
      refine lv_iload hx hb dX11_thefts_41 (lv_at hl 0 rfl) ?_
      refine lv_aload_n hx hb dX11_thefts_43 rfl (lv_at hl 3 rfl) ?_
      refine goI (wr := [(h56, .inl (aC 0, 13, .inl (fun _ => 0)))]) (runV (n := 0) (As := []) (rest := [.int 1]) F hP hD hS (a_X11_allFlights_2 l g aC aM h1 h11 (.int 0) x2 x3 x4 x5 x6 x7 x8 x9 x10 x12 x13 x14 x15 x16 x17 x18 x19 x20 x21 x22 x23 x24 x25 x26 x27 x28 x29 x30 x31 x32 x33 x34 x35 x36 x37 x38 x39 x40 x41 x42 x43 x44 x45 x46 x47 x48 x49 x50 x51 x52 x53 x54 x55 (.ref h56) x57 x58 x59 x60 x61 x62 x63 x64 x65 x66 x67 x68 x69 x70 x71 x72 x73 x74) [1, 2] (by decide) rfl 1 11 rfl rfl rfl tb1592 tb1589 tb1591 tv65 tb17 ⟨by decide, by decide, by decide +kernel⟩ ⟨Nat.le_of_ble_eq_true rfl, Nat.le_of_ble_eq_true rfl⟩ rfl hl.1 rfl (Nat.le_of_ble_eq_true rfl) dX11_thefts_44 ⟨Nat.le_of_ble_eq_true rfl, Nat.le_of_ble_eq_true rfl⟩) hP hD hS hA [1, 2] [0] rfl rfl (by decide) (by decide) (fun r_37 w38 H locs hw hP hD hS => ?_)
      have hP : va_P g vwCl [(h56, .inl (aC 0, 13, .inl (fun _ => 0))), (h1, .inr (11, [.int 0, x2, x3, x4, x5, x6, x7, x8, x9, x10, .ref h11, x12, x13, x14, x15, x16, x17, x18, x19, x20, x21, x22, x23, x24, x25, x26, x27, x28, x29, x30, x31, x32, x33, x34, x35, x36, x37, x38, x39, x40, x41, x42, x43, x44, x45, x46, x47, x48, x49, x50, x51, x52, x53, x54, x55, .ref h56, x57, x58, x59, x60, x61, x62, x63, x64, x65, x66, x67, x68, x69, x70, x71, x72, x73, x74])), (h11, .inl (aC 0, 14, .inl (fun _ => 0)))] H := hP
      have hD : va_D A [(h56, .inl (aC 0, 13, .inl (fun _ => 0))), (h1, .inr (11, [.int 0, x2, x3, x4, x5, x6, x7, x8, x9, x10, .ref h11, x12, x13, x14, x15, x16, x17, x18, x19, x20, x21, x22, x23, x24, x25, x26, x27, x28, x29, x30, x31, x32, x33, x34, x35, x36, x37, x38, x39, x40, x41, x42, x43, x44, x45, x46, x47, x48, x49, x50, x51, x52, x53, x54, x55, .ref h56, x57, x58, x59, x60, x61, x62, x63, x64, x65, x66, x67, x68, x69, x70, x71, x72, x73, x74])), (h11, .inl (aC 0, 14, .inl (fun _ => 0)))] := hD
      try dsimp only at hw
      subst hw
      refine lv_icmp_gt (tgt := 167) hx hb dX11_thefts_47 (by decide) (fun _ => ?_) (fun c_ => absurd (by decide +kernel) c_)
      refine lv_iload hx hb dX11_thefts_167 (lv_at hl 1 rfl) ?_
      refine lv_if_lt (tgt := 177) hx hb dX11_thefts_169 (by decide) (fun c_ => absurd c_ (by decide +kernel)) (fun _ => ?_)
      refine lv_iload_n hx hb dX11_thefts_172 rfl (lv_at hl 6 rfl) ?_
      refine lv_iconst (v := 1) hx hb dX11_thefts_173 (by decide) ?_
      refine lv_icmp_ne (tgt := 182) hx hb dX11_thefts_174 (by decide) (fun c41 => ?_) (fun c41 => ?_)
      · refine lv_aload_n hx hb dX11_thefts_182 rfl (lv_at hl 3 rfl) ?_
        refine lv_iload hx hb dX11_thefts_183 (lv_at hl 1 rfl) ?_
        refine goI (wr := [(h56, .inl (aC 0, 13, .inl (fun _ => 0)))]) (runV (n := 1) (As := [.int 0]) (rest := []) F hP hD hS (a_X11_riseOf_1 l g aC aM h1 h11 (.int 0) x2 x3 x4 x5 x6 x7 x8 x9 x10 x12 x13 x14 x15 x16 x17 x18 x19 x20 x21 x22 x23 x24 x25 x26 x27 x28 x29 x30 x31 x32 x33 x34 x35 x36 x37 x38 x39 x40 x41 x42 x43 x44 x45 x46 x47 x48 x49 x50 x51 x52 x53 x54 x55 (.ref h56) x57 x58 x59 x60 x61 x62 x63 x64 x65 x66 x67 x68 x69 x70 x71 x72 x73 x74) [1, 2] (by decide) rfl 1 11 rfl rfl rfl tb1790 tb1787 tb1789 tv96 tb17 ⟨by decide, by decide, by decide +kernel⟩ ⟨Nat.le_of_ble_eq_true rfl, Nat.le_of_ble_eq_true rfl⟩ rfl hl.1 rfl (Nat.le_of_ble_eq_true rfl) dX11_thefts_185 ⟨Nat.le_of_ble_eq_true rfl, Nat.le_of_ble_eq_true rfl⟩) hP hD hS hA [1, 2] [0] rfl rfl (by decide) (by decide) (fun r_43 w44 H locs hw hP hD hS => ?_)
        have hP : va_P g vwCl [(h56, .inl (aC 0, 13, .inl (fun _ => 0))), (h1, .inr (11, [.int 0, x2, x3, x4, x5, x6, x7, x8, x9, x10, .ref h11, x12, x13, x14, x15, x16, x17, x18, x19, x20, x21, x22, x23, x24, x25, x26, x27, x28, x29, x30, x31, x32, x33, x34, x35, x36, x37, x38, x39, x40, x41, x42, x43, x44, x45, x46, x47, x48, x49, x50, x51, x52, x53, x54, x55, .ref h56, x57, x58, x59, x60, x61, x62, x63, x64, x65, x66, x67, x68, x69, x70, x71, x72, x73, x74])), (h11, .inl (aC 0, 14, .inl (fun _ => 0)))] H := hP
        have hD : va_D A [(h56, .inl (aC 0, 13, .inl (fun _ => 0))), (h1, .inr (11, [.int 0, x2, x3, x4, x5, x6, x7, x8, x9, x10, .ref h11, x12, x13, x14, x15, x16, x17, x18, x19, x20, x21, x22, x23, x24, x25, x26, x27, x28, x29, x30, x31, x32, x33, x34, x35, x36, x37, x38, x39, x40, x41, x42, x43, x44, x45, x46, x47, x48, x49, x50, x51, x52, x53, x54, x55, .ref h56, x57, x58, x59, x60, x61, x62, x63, x64, x65, x66, x67, x68, x69, x70, x71, x72, x73, x74])), (h11, .inl (aC 0, 14, .inl (fun _ => 0)))] := hD
        try dsimp only at hw
        subst hw
        have hP9 := hP.sub (ws' := []) [] rfl
        have hD9 := hD.sub (ws' := []) [] (by decide) rfl
        exact rI () hx hb hr hlk rfl hS rfl hP9 hD9 (Nat.le_of_ble_eq_true rfl) (Nat.le_of_ble_eq_true rfl) dX11_thefts_188
      · subst c41
        refine lv_iload hx hb dX11_thefts_177 (lv_at hl 1 rfl) ?_
        refine lv_goto (tgt := 188) hx hb dX11_thefts_179 (by decide) ?_
        have hP9 := hP.sub (ws' := []) [] rfl
        have hD9 := hD.sub (ws' := []) [] (by decide) rfl
        exact rI () hx hb hr hlk rfl hS rfl hP9 hD9 (Nat.le_of_ble_eq_true rfl) (Nat.le_of_ble_eq_true rfl) dX11_thefts_188
