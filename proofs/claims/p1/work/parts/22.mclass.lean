theorem tb1182 : (Jvm.Cond.fieldLink "StairGangModel" (180 : Nat) "StairGangModel" "thrown" "I") ∈ gw := lw_m 1182 (by decide +kernel)
theorem dX11_flight_0 : decode cX11_flight 0 = .ok (.aload_n 0, 1) := by decide +kernel
theorem dX11_flight_1 : decode cX11_flight 1 = .ok (.iconst 0, 1) := by decide +kernel
theorem dX11_flight_2 : decode cX11_flight 2 = .ok (.putfield 180, 3) := by decide +kernel
theorem dX11_flight_5 : decode cX11_flight 5 = .ok (.aload_n 0, 1) := by decide +kernel
theorem dX11_flight_6 : decode cX11_flight 6 = .ok (.iload_n 1, 1) := by decide +kernel
theorem dX11_flight_7 : decode cX11_flight 7 = .ok (.invokevirtual 442, 3) := by decide +kernel
theorem dX11_isFlight_0 : decode cX11_isFlight 0 = .ok (.iload_n 1, 1) := by decide +kernel
theorem dX11_isFlight_1 : decode cX11_isFlight 1 = .ok (.ifCond .lt 17, 3) := by decide +kernel
theorem dX11_isFlight_4 : decode cX11_isFlight 4 = .ok (.iload_n 1, 1) := by decide +kernel
theorem dX11_isFlight_5 : decode cX11_isFlight 5 = .ok (.aload_n 0, 1) := by decide +kernel
theorem dX11_isFlight_6 : decode cX11_isFlight 6 = .ok (.getfield 13, 3) := by decide +kernel
theorem dX11_isFlight_9 : decode cX11_isFlight 9 = .ok (.iconst 1, 1) := by decide +kernel
theorem dX11_isFlight_10 : decode cX11_isFlight 10 = .ok (.iaload, 1) := by decide +kernel
theorem dX11_isFlight_11 : decode cX11_isFlight 11 = .ok (.if_icmp .ge 7, 3) := by decide +kernel
theorem dX11_isFlight_18 : decode cX11_isFlight 18 = .ok (.iconst 0, 1) := by decide +kernel
theorem dX11_isFlight_19 : decode cX11_isFlight 19 = .ok (.ireturn, 1) := by decide +kernel
set_option maxHeartbeats 4000000 in
set_option maxRecDepth 100000 in
theorem a_X11_isFlight_1 (l : Launch) (g : va_G) (aC : Nat → ClassId) (aM : Nat → Nat) (h1 h13 : Nat) (x3 x4 x5 x6 x7 x8 x9 x10 x11 x12 x14 x15 x16 x17 x18 x19 x20 x21 x22 x23 x24 x25 x26 x27 x28 x29 x30 x31 x32 x33 x34 x35 x36 x37 x38 x39 x40 x41 x42 x43 x44 x45 x46 x47 x48 x49 x50 x51 x52 x53 x54 x55 x56 x57 x58 x59 x60 x61 x62 x63 x64 x65 x66 x67 x68 x69 x70 x71 x72 x73 x74 x75 x76 : Value) (n2 : Int32) : Ct l g aC aM yX11_isFlight cX11_isFlight 2 (some .boolean) 1 [.ref h1, .int n2] [(h1, .inr (11, [x3, x4, x5, x6, x7, x8, x9, x10, x11, x12, .ref h13, x14, x15, x16, x17, x18, x19, x20, x21, x22, x23, x24, x25, x26, x27, x28, x29, x30, x31, x32, x33, x34, x35, x36, x37, x38, x39, x40, x41, x42, x43, x44, x45, x46, x47, x48, x49, x50, x51, x52, x53, x54, x55, x56, x57, x58, x59, x60, x61, x62, x63, x64, x65, x66, x67, x68, x69, x70, x71, x72, x73, x74, x75, x76])), (h13, .inl (aC 0, 14, .inl (fun _ => 0)))] (QI g (fun (r : Int32) (_ : Unit) => r = 0) (fun (_ : Unit) => [(h1, .inr (11, [x3, x4, x5, x6, x7, x8, x9, x10, x11, x12, .ref h13, x14, x15, x16, x17, x18, x19, x20, x21, x22, x23, x24, x25, x26, x27, x28, x29, x30, x31, x32, x33, x34, x35, x36, x37, x38, x39, x40, x41, x42, x43, x44, x45, x46, x47, x48, x49, x50, x51, x52, x53, x54, x55, x56, x57, x58, x59, x60, x61, x62, x63, x64, x65, x66, x67, x68, x69, x70, x71, x72, x73, x74, x75, x76])), (h13, .inl (aC 0, 14, .inl (fun _ => 0)))])) 0 0 := by
  refine Ct.mk (by decide) (Nat.le_of_ble_eq_true rfl) ?_
  intro p e s m below meth c A ls hx hb hml hown hts hr hlk hnm hK hA hM hM2 hP hD hS hl
  have hown : s.vm.findClass RX11 = some m.cls := hown
  have F : Fx p s m _ c cX11_isFlight 2 RX11 g aC aM A := ⟨hx, hb, hml, hown, hts, hK, hA, hM, hM2⟩
  have hl : lv_has ls 2 [(0, .ref h1), (1, .int n2)] := hl
  refine lv_iload_n hx hb dX11_isFlight_0 rfl (lv_at hl 1 rfl) ?_
  refine lv_if_lt (tgt := 18) hx hb dX11_isFlight_1 (by decide) (fun c1 => ?_) (fun c1 => ?_)
  · refine lv_iconst (v := 0) hx hb dX11_isFlight_18 (by decide) ?_
    have hP9 := hP.sub (ws' := [(h1, .inr (11, [x3, x4, x5, x6, x7, x8, x9, x10, x11, x12, .ref h13, x14, x15, x16, x17, x18, x19, x20, x21, x22, x23, x24, x25, x26, x27, x28, x29, x30, x31, x32, x33, x34, x35, x36, x37, x38, x39, x40, x41, x42, x43, x44, x45, x46, x47, x48, x49, x50, x51, x52, x53, x54, x55, x56, x57, x58, x59, x60, x61, x62, x63, x64, x65, x66, x67, x68, x69, x70, x71, x72, x73, x74, x75, x76])), (h13, .inl (aC 0, 14, .inl (fun _ => 0)))]) [0, 1] rfl
    have hD9 := hD.sub (ws' := [(h1, .inr (11, [x3, x4, x5, x6, x7, x8, x9, x10, x11, x12, .ref h13, x14, x15, x16, x17, x18, x19, x20, x21, x22, x23, x24, x25, x26, x27, x28, x29, x30, x31, x32, x33, x34, x35, x36, x37, x38, x39, x40, x41, x42, x43, x44, x45, x46, x47, x48, x49, x50, x51, x52, x53, x54, x55, x56, x57, x58, x59, x60, x61, x62, x63, x64, x65, x66, x67, x68, x69, x70, x71, x72, x73, x74, x75, x76])), (h13, .inl (aC 0, 14, .inl (fun _ => 0)))]) [0, 1] (by decide) rfl
    exact rI () hx hb hr hlk rfl hS rfl hP9 hD9 (Nat.le_of_ble_eq_true rfl) (Nat.le_of_ble_eq_true rfl) dX11_isFlight_19
  · refine lv_iload_n hx hb dX11_isFlight_4 rfl (lv_at hl 1 rfl) ?_
    refine lv_aload_n hx hb dX11_isFlight_5 rfl (lv_at hl 0 rfl) ?_
    refine xget F hP 0 rfl rfl inX11 10 (by decide) tb1192 rfl dX11_isFlight_6 ?_
    refine lv_iconst (v := 1) hx hb dX11_isFlight_9 (by decide) ?_
    refine xilo (v := 0) F hP 1 rfl 1 (by decide +kernel) (by decide +kernel) (by decide) (by decide +kernel) dX11_isFlight_10 ?_
    refine lv_icmp_ge (tgt := 18) hx hb dX11_isFlight_11 (by decide) (fun c2 => ?_) (fun c2 => ?_)
    · refine lv_iconst (v := 0) hx hb dX11_isFlight_18 (by decide) ?_
      have hP9 := hP.sub (ws' := [(h1, .inr (11, [x3, x4, x5, x6, x7, x8, x9, x10, x11, x12, .ref h13, x14, x15, x16, x17, x18, x19, x20, x21, x22, x23, x24, x25, x26, x27, x28, x29, x30, x31, x32, x33, x34, x35, x36, x37, x38, x39, x40, x41, x42, x43, x44, x45, x46, x47, x48, x49, x50, x51, x52, x53, x54, x55, x56, x57, x58, x59, x60, x61, x62, x63, x64, x65, x66, x67, x68, x69, x70, x71, x72, x73, x74, x75, x76])), (h13, .inl (aC 0, 14, .inl (fun _ => 0)))]) [0, 1] rfl
      have hD9 := hD.sub (ws' := [(h1, .inr (11, [x3, x4, x5, x6, x7, x8, x9, x10, x11, x12, .ref h13, x14, x15, x16, x17, x18, x19, x20, x21, x22, x23, x24, x25, x26, x27, x28, x29, x30, x31, x32, x33, x34, x35, x36, x37, x38, x39, x40, x41, x42, x43, x44, x45, x46, x47, x48, x49, x50, x51, x52, x53, x54, x55, x56, x57, x58, x59, x60, x61, x62, x63, x64, x65, x66, x67, x68, x69, x70, x71, x72, x73, x74, x75, x76])), (h13, .inl (aC 0, 14, .inl (fun _ => 0)))]) [0, 1] (by decide) rfl
      exact rI () hx hb hr hlk rfl hS rfl hP9 hD9 (Nat.le_of_ble_eq_true rfl) (Nat.le_of_ble_eq_true rfl) dX11_isFlight_19
    · exfalso
      simp only [Int32.lt_iff_toInt_lt, Int32.le_iff_toInt_le, ← Int32.toInt_inj, show (0 : Int32).toInt = 0 by decide] at c1 c2; omega

theorem tb17 : (Jvm.Cond.initialized "StairGangModel") ∈ gw := lw_m 17 (by decide +kernel)
theorem tb1613 : (Jvm.Cond.methodLink "StairGangModel" (442 : Nat) ({ cls := "StairGangModel", name := "isFlight", desc := "(I)Z" } : Jvm.MethodName)) ∈ gw := lw_m 1613 (by decide +kernel)
theorem tb1615 : (Jvm.Cond.instanceMethod ({ cls := "StairGangModel", name := "isFlight", desc := "(I)Z" } : Jvm.MethodName)) ∈ gw := lw_m 1615 (by decide +kernel)
theorem tb1616 : (Jvm.Cond.code ({ cls := "StairGangModel", name := "isFlight", desc := "(I)Z" } : Jvm.MethodName) prog_13_method_55_code (2 : Nat) (Option.some Jvm.ClassFile.FieldType.boolean)) ∈ gw := lw_m 1616 (by decide +kernel)
theorem tv69 : Cond.selects "StairGangModel" ⟨"StairGangModel", "isFlight", "(I)Z"⟩ ⟨"StairGangModel", "isFlight", "(I)Z"⟩ ∈ gw := lw_v 69 (by decide +kernel)
theorem dX11_flight_10 : decode cX11_flight 10 = .ok (.ifCond .eq 12, 3) := by decide +kernel
theorem dX11_flight_22 : decode cX11_flight 22 = .ok (.iconst (-1), 1) := by decide +kernel
theorem dX11_flight_23 : decode cX11_flight 23 = .ok (.ireturn, 1) := by decide +kernel
set_option maxHeartbeats 4000000 in
set_option maxRecDepth 100000 in
theorem m_flight (l : Launch) (g : va_G) (aC : Nat → ClassId) (aM : Nat → Nat) (h1 h11 : Nat) (x2 x3 x4 x5 x6 x7 x8 x9 x10 x12 x13 x14 x15 x16 x17 x18 x19 x20 x21 x22 x23 x24 x25 x26 x27 x28 x29 x30 x31 x32 x33 x34 x35 x36 x37 x38 x39 x40 x41 x42 x43 x44 x45 x46 x47 x48 x49 x50 x51 x52 x53 x54 x55 x56 x57 x58 x59 x60 x61 x62 x63 x64 x65 x66 x67 x68 x69 x70 x71 x72 x73 x74 : Value) (n_1 n_2 : Int32) : Ct l g aC aM yX11_flight cX11_flight 3 (some .int) 2 [.ref h1, .int n_1, .int n_2] [(h1, .inr (11, [.int 0, x2, x3, x4, x5, x6, x7, x8, x9, x10, .ref h11, x12, x13, x14, x15, x16, x17, x18, x19, x20, x21, x22, x23, x24, x25, x26, x27, x28, x29, x30, x31, x32, x33, x34, x35, x36, x37, x38, x39, x40, x41, x42, x43, x44, x45, x46, x47, x48, x49, x50, x51, x52, x53, x54, x55, x56, x57, x58, x59, x60, x61, x62, x63, x64, x65, x66, x67, x68, x69, x70, x71, x72, x73, x74])), (h11, .inl (aC 0, 14, .inl (fun _ => 0)))] (QI g (fun (r : Int32) (_ : Unit) => r = (-1)) (fun (_ : Unit) => [])) 0 0 := by
  refine Ct.mk (by decide) (Nat.le_of_ble_eq_true rfl) ?_
  intro p e s m below meth c A ls hx hb hml hown hts hr hlk hnm hK hA hM hM2 hP hD hS hl
  have hown : s.vm.findClass RX11 = some m.cls := hown
  have F : Fx p s m _ c cX11_flight 3 RX11 g aC aM A := ⟨hx, hb, hml, hown, hts, hK, hA, hM, hM2⟩
  have hl : lv_has ls 3 [(0, .ref h1), (1, .int n_1), (2, .int n_2)] := hl
  refine lv_aload_n hx hb dX11_flight_0 rfl (lv_at hl 0 rfl) ?_
  refine lv_iconst (v := 0) hx hb dX11_flight_1 (by decide) ?_
  refine xput F hP hD hS 0 rfl rfl inX11 tyX11_ok nmX11 0 (by decide) tb1182 rfl rfl rfl (Nat.le_of_ble_eq_true rfl) dX11_flight_2 (fun H locs hP hD hS => ?_)
  have hP : va_P g vwCl [(h1, .inr (11, [.int 0, x2, x3, x4, x5, x6, x7, x8, x9, x10, .ref h11, x12, x13, x14, x15, x16, x17, x18, x19, x20, x21, x22, x23, x24, x25, x26, x27, x28, x29, x30, x31, x32, x33, x34, x35, x36, x37, x38, x39, x40, x41, x42, x43, x44, x45, x46, x47, x48, x49, x50, x51, x52, x53, x54, x55, x56, x57, x58, x59, x60, x61, x62, x63, x64, x65, x66, x67, x68, x69, x70, x71, x72, x73, x74])), (h11, .inl (aC 0, 14, .inl (fun _ => 0)))] H := hP
  have hD : va_D A [(h1, .inr (11, [.int 0, x2, x3, x4, x5, x6, x7, x8, x9, x10, .ref h11, x12, x13, x14, x15, x16, x17, x18, x19, x20, x21, x22, x23, x24, x25, x26, x27, x28, x29, x30, x31, x32, x33, x34, x35, x36, x37, x38, x39, x40, x41, x42, x43, x44, x45, x46, x47, x48, x49, x50, x51, x52, x53, x54, x55, x56, x57, x58, x59, x60, x61, x62, x63, x64, x65, x66, x67, x68, x69, x70, x71, x72, x73, x74])), (h11, .inl (aC 0, 14, .inl (fun _ => 0)))] := hD
  refine lv_aload_n hx hb dX11_flight_5 rfl (lv_at hl 0 rfl) ?_
  refine lv_iload_n hx hb dX11_flight_6 rfl (lv_at hl 1 rfl) ?_
  refine goI (wr := []) (runV (n := 1) (As := [.int n_1]) (rest := []) F hP hD hS (a_X11_isFlight_1 l g aC aM h1 h11 (.int 0) x2 x3 x4 x5 x6 x7 x8 x9 x10 x12 x13 x14 x15 x16 x17 x18 x19 x20 x21 x22 x23 x24 x25 x26 x27 x28 x29 x30 x31 x32 x33 x34 x35 x36 x37 x38 x39 x40 x41 x42 x43 x44 x45 x46 x47 x48 x49 x50 x51 x52 x53 x54 x55 x56 x57 x58 x59 x60 x61 x62 x63 x64 x65 x66 x67 x68 x69 x70 x71 x72 x73 x74 n_1) [0, 1] (by decide) rfl 0 11 rfl rfl rfl tb1616 tb1613 tb1615 tv69 tb17 ⟨by decide, by decide, by decide +kernel⟩ ⟨Nat.le_of_ble_eq_true rfl, Nat.le_of_ble_eq_true rfl⟩ rfl hl.1 rfl (Nat.le_of_ble_eq_true rfl) dX11_flight_7 ⟨Nat.le_of_ble_eq_true rfl, Nat.le_of_ble_eq_true rfl⟩) hP hD hS hA [0, 1] [] rfl rfl (by decide) (by decide) (fun r_2 w3 H locs hw hP hD hS => ?_)
  have hP : va_P g vwCl [(h1, .inr (11, [.int 0, x2, x3, x4, x5, x6, x7, x8, x9, x10, .ref h11, x12, x13, x14, x15, x16, x17, x18, x19, x20, x21, x22, x23, x24, x25, x26, x27, x28, x29, x30, x31, x32, x33, x34, x35, x36, x37, x38, x39, x40, x41, x42, x43, x44, x45, x46, x47, x48, x49, x50, x51, x52, x53, x54, x55, x56, x57, x58, x59, x60, x61, x62, x63, x64, x65, x66, x67, x68, x69, x70, x71, x72, x73, x74])), (h11, .inl (aC 0, 14, .inl (fun _ => 0)))] H := hP
  have hD : va_D A [(h1, .inr (11, [.int 0, x2, x3, x4, x5, x6, x7, x8, x9, x10, .ref h11, x12, x13, x14, x15, x16, x17, x18, x19, x20, x21, x22, x23, x24, x25, x26, x27, x28, x29, x30, x31, x32, x33, x34, x35, x36, x37, x38, x39, x40, x41, x42, x43, x44, x45, x46, x47, x48, x49, x50, x51, x52, x53, x54, x55, x56, x57, x58, x59, x60, x61, x62, x63, x64, x65, x66, x67, x68, x69, x70, x71, x72, x73, x74])), (h11, .inl (aC 0, 14, .inl (fun _ => 0)))] := hD
  try dsimp only at hw
  subst hw
  refine lv_if_eq (tgt := 22) hx hb dX11_flight_10 (by decide) (fun _ => ?_) (fun c_ => absurd (by decide +kernel) c_)
  refine lv_iconst (v := (-1)) hx hb dX11_flight_22 (by decide) ?_
  have hP9 := hP.sub (ws' := []) [] rfl
  have hD9 := hD.sub (ws' := []) [] (by decide) rfl
  exact rI () hx hb hr hlk rfl hS rfl hP9 hD9 (Nat.le_of_ble_eq_true rfl) (Nat.le_of_ble_eq_true rfl) dX11_flight_23

theorem dX11_isPerson_0 : decode cX11_isPerson 0 = .ok (.iload_n 1, 1) := by decide +kernel
theorem dX11_isPerson_1 : decode cX11_isPerson 1 = .ok (.ifCond .lt 17, 3) := by decide +kernel
theorem dX11_isPerson_4 : decode cX11_isPerson 4 = .ok (.iload_n 1, 1) := by decide +kernel
theorem dX11_isPerson_5 : decode cX11_isPerson 5 = .ok (.aload_n 0, 1) := by decide +kernel
theorem dX11_isPerson_6 : decode cX11_isPerson 6 = .ok (.getfield 13, 3) := by decide +kernel
theorem dX11_isPerson_9 : decode cX11_isPerson 9 = .ok (.iconst 3, 1) := by decide +kernel
theorem dX11_isPerson_10 : decode cX11_isPerson 10 = .ok (.iaload, 1) := by decide +kernel
theorem dX11_isPerson_11 : decode cX11_isPerson 11 = .ok (.if_icmp .ge 7, 3) := by decide +kernel
theorem dX11_isPerson_18 : decode cX11_isPerson 18 = .ok (.iconst 0, 1) := by decide +kernel
theorem dX11_isPerson_19 : decode cX11_isPerson 19 = .ok (.ireturn, 1) := by decide +kernel
theorem dX11_person_0 : decode cX11_person 0 = .ok (.aload_n 0, 1) := by decide +kernel
theorem dX11_person_1 : decode cX11_person 1 = .ok (.iconst 0, 1) := by decide +kernel
theorem dX11_person_2 : decode cX11_person 2 = .ok (.putfield 180, 3) := by decide +kernel
theorem dX11_person_5 : decode cX11_person 5 = .ok (.aload_n 0, 1) := by decide +kernel
theorem dX11_person_6 : decode cX11_person 6 = .ok (.iload_n 1, 1) := by decide +kernel
theorem dX11_person_7 : decode cX11_person 7 = .ok (.invokevirtual 445, 3) := by decide +kernel
set_option maxHeartbeats 4000000 in
set_option maxRecDepth 100000 in
theorem a_X11_isPerson_1 (l : Launch) (g : va_G) (aC : Nat → ClassId) (aM : Nat → Nat) (h1 h13 : Nat) (x3 x4 x5 x6 x7 x8 x9 x10 x11 x12 x14 x15 x16 x17 x18 x19 x20 x21 x22 x23 x24 x25 x26 x27 x28 x29 x30 x31 x32 x33 x34 x35 x36 x37 x38 x39 x40 x41 x42 x43 x44 x45 x46 x47 x48 x49 x50 x51 x52 x53 x54 x55 x56 x57 x58 x59 x60 x61 x62 x63 x64 x65 x66 x67 x68 x69 x70 x71 x72 x73 x74 x75 x76 : Value) (n2 : Int32) : Ct l g aC aM yX11_isPerson cX11_isPerson 2 (some .boolean) 1 [.ref h1, .int n2] [(h1, .inr (11, [x3, x4, x5, x6, x7, x8, x9, x10, x11, x12, .ref h13, x14, x15, x16, x17, x18, x19, x20, x21, x22, x23, x24, x25, x26, x27, x28, x29, x30, x31, x32, x33, x34, x35, x36, x37, x38, x39, x40, x41, x42, x43, x44, x45, x46, x47, x48, x49, x50, x51, x52, x53, x54, x55, x56, x57, x58, x59, x60, x61, x62, x63, x64, x65, x66, x67, x68, x69, x70, x71, x72, x73, x74, x75, x76])), (h13, .inl (aC 0, 14, .inl (fun _ => 0)))] (QI g (fun (r : Int32) (_ : Unit) => r = 0) (fun (_ : Unit) => [(h1, .inr (11, [x3, x4, x5, x6, x7, x8, x9, x10, x11, x12, .ref h13, x14, x15, x16, x17, x18, x19, x20, x21, x22, x23, x24, x25, x26, x27, x28, x29, x30, x31, x32, x33, x34, x35, x36, x37, x38, x39, x40, x41, x42, x43, x44, x45, x46, x47, x48, x49, x50, x51, x52, x53, x54, x55, x56, x57, x58, x59, x60, x61, x62, x63, x64, x65, x66, x67, x68, x69, x70, x71, x72, x73, x74, x75, x76])), (h13, .inl (aC 0, 14, .inl (fun _ => 0)))])) 0 0 := by
  refine Ct.mk (by decide) (Nat.le_of_ble_eq_true rfl) ?_
  intro p e s m below meth c A ls hx hb hml hown hts hr hlk hnm hK hA hM hM2 hP hD hS hl
  have hown : s.vm.findClass RX11 = some m.cls := hown
  have F : Fx p s m _ c cX11_isPerson 2 RX11 g aC aM A := ⟨hx, hb, hml, hown, hts, hK, hA, hM, hM2⟩
  have hl : lv_has ls 2 [(0, .ref h1), (1, .int n2)] := hl
  refine lv_iload_n hx hb dX11_isPerson_0 rfl (lv_at hl 1 rfl) ?_
  refine lv_if_lt (tgt := 18) hx hb dX11_isPerson_1 (by decide) (fun c1 => ?_) (fun c1 => ?_)
  · refine lv_iconst (v := 0) hx hb dX11_isPerson_18 (by decide) ?_
    have hP9 := hP.sub (ws' := [(h1, .inr (11, [x3, x4, x5, x6, x7, x8, x9, x10, x11, x12, .ref h13, x14, x15, x16, x17, x18, x19, x20, x21, x22, x23, x24, x25, x26, x27, x28, x29, x30, x31, x32, x33, x34, x35, x36, x37, x38, x39, x40, x41, x42, x43, x44, x45, x46, x47, x48, x49, x50, x51, x52, x53, x54, x55, x56, x57, x58, x59, x60, x61, x62, x63, x64, x65, x66, x67, x68, x69, x70, x71, x72, x73, x74, x75, x76])), (h13, .inl (aC 0, 14, .inl (fun _ => 0)))]) [0, 1] rfl
    have hD9 := hD.sub (ws' := [(h1, .inr (11, [x3, x4, x5, x6, x7, x8, x9, x10, x11, x12, .ref h13, x14, x15, x16, x17, x18, x19, x20, x21, x22, x23, x24, x25, x26, x27, x28, x29, x30, x31, x32, x33, x34, x35, x36, x37, x38, x39, x40, x41, x42, x43, x44, x45, x46, x47, x48, x49, x50, x51, x52, x53, x54, x55, x56, x57, x58, x59, x60, x61, x62, x63, x64, x65, x66, x67, x68, x69, x70, x71, x72, x73, x74, x75, x76])), (h13, .inl (aC 0, 14, .inl (fun _ => 0)))]) [0, 1] (by decide) rfl
    exact rI () hx hb hr hlk rfl hS rfl hP9 hD9 (Nat.le_of_ble_eq_true rfl) (Nat.le_of_ble_eq_true rfl) dX11_isPerson_19
  · refine lv_iload_n hx hb dX11_isPerson_4 rfl (lv_at hl 1 rfl) ?_
    refine lv_aload_n hx hb dX11_isPerson_5 rfl (lv_at hl 0 rfl) ?_
    refine xget F hP 0 rfl rfl inX11 10 (by decide) tb1192 rfl dX11_isPerson_6 ?_
    refine lv_iconst (v := 3) hx hb dX11_isPerson_9 (by decide) ?_
    refine xilo (v := 0) F hP 1 rfl 3 (by decide +kernel) (by decide +kernel) (by decide) (by decide +kernel) dX11_isPerson_10 ?_
    refine lv_icmp_ge (tgt := 18) hx hb dX11_isPerson_11 (by decide) (fun c2 => ?_) (fun c2 => ?_)
    · refine lv_iconst (v := 0) hx hb dX11_isPerson_18 (by decide) ?_
      have hP9 := hP.sub (ws' := [(h1, .inr (11, [x3, x4, x5, x6, x7, x8, x9, x10, x11, x12, .ref h13, x14, x15, x16, x17, x18, x19, x20, x21, x22, x23, x24, x25, x26, x27, x28, x29, x30, x31, x32, x33, x34, x35, x36, x37, x38, x39, x40, x41, x42, x43, x44, x45, x46, x47, x48, x49, x50, x51, x52, x53, x54, x55, x56, x57, x58, x59, x60, x61, x62, x63, x64, x65, x66, x67, x68, x69, x70, x71, x72, x73, x74, x75, x76])), (h13, .inl (aC 0, 14, .inl (fun _ => 0)))]) [0, 1] rfl
      have hD9 := hD.sub (ws' := [(h1, .inr (11, [x3, x4, x5, x6, x7, x8, x9, x10, x11, x12, .ref h13, x14, x15, x16, x17, x18, x19, x20, x21, x22, x23, x24, x25, x26, x27, x28, x29, x30, x31, x32, x33, x34, x35, x36, x37, x38, x39, x40, x41, x42, x43, x44, x45, x46, x47, x48, x49, x50, x51, x52, x53, x54, x55, x56, x57, x58, x59, x60, x61, x62, x63, x64, x65, x66, x67, x68, x69, x70, x71, x72, x73, x74, x75, x76])), (h13, .inl (aC 0, 14, .inl (fun _ => 0)))]) [0, 1] (by decide) rfl
      exact rI () hx hb hr hlk rfl hS rfl hP9 hD9 (Nat.le_of_ble_eq_true rfl) (Nat.le_of_ble_eq_true rfl) dX11_isPerson_19
    · exfalso
      simp only [Int32.lt_iff_toInt_lt, Int32.le_iff_toInt_le, ← Int32.toInt_inj, show (0 : Int32).toInt = 0 by decide] at c1 c2; omega

theorem tb1621 : (Jvm.Cond.methodLink "StairGangModel" (445 : Nat) ({ cls := "StairGangModel", name := "isPerson", desc := "(I)Z" } : Jvm.MethodName)) ∈ gw := lw_m 1621 (by decide +kernel)
theorem tb1623 : (Jvm.Cond.instanceMethod ({ cls := "StairGangModel", name := "isPerson", desc := "(I)Z" } : Jvm.MethodName)) ∈ gw := lw_m 1623 (by decide +kernel)
theorem tb1624 : (Jvm.Cond.code ({ cls := "StairGangModel", name := "isPerson", desc := "(I)Z" } : Jvm.MethodName) prog_13_method_56_code (2 : Nat) (Option.some Jvm.ClassFile.FieldType.boolean)) ∈ gw := lw_m 1624 (by decide +kernel)
theorem tv70 : Cond.selects "StairGangModel" ⟨"StairGangModel", "isPerson", "(I)Z"⟩ ⟨"StairGangModel", "isPerson", "(I)Z"⟩ ∈ gw := lw_v 70 (by decide +kernel)
theorem dX11_person_10 : decode cX11_person 10 = .ok (.ifCond .eq 12, 3) := by decide +kernel
theorem dX11_person_22 : decode cX11_person 22 = .ok (.iconst (-1), 1) := by decide +kernel
theorem dX11_person_23 : decode cX11_person 23 = .ok (.ireturn, 1) := by decide +kernel
set_option maxHeartbeats 4000000 in
set_option maxRecDepth 100000 in
theorem m_person (l : Launch) (g : va_G) (aC : Nat → ClassId) (aM : Nat → Nat) (h1 h11 : Nat) (x2 x3 x4 x5 x6 x7 x8 x9 x10 x12 x13 x14 x15 x16 x17 x18 x19 x20 x21 x22 x23 x24 x25 x26 x27 x28 x29 x30 x31 x32 x33 x34 x35 x36 x37 x38 x39 x40 x41 x42 x43 x44 x45 x46 x47 x48 x49 x50 x51 x52 x53 x54 x55 x56 x57 x58 x59 x60 x61 x62 x63 x64 x65 x66 x67 x68 x69 x70 x71 x72 x73 x74 : Value) (n_1 n_2 : Int32) : Ct l g aC aM yX11_person cX11_person 3 (some .int) 2 [.ref h1, .int n_1, .int n_2] [(h1, .inr (11, [.int 0, x2, x3, x4, x5, x6, x7, x8, x9, x10, .ref h11, x12, x13, x14, x15, x16, x17, x18, x19, x20, x21, x22, x23, x24, x25, x26, x27, x28, x29, x30, x31, x32, x33, x34, x35, x36, x37, x38, x39, x40, x41, x42, x43, x44, x45, x46, x47, x48, x49, x50, x51, x52, x53, x54, x55, x56, x57, x58, x59, x60, x61, x62, x63, x64, x65, x66, x67, x68, x69, x70, x71, x72, x73, x74])), (h11, .inl (aC 0, 14, .inl (fun _ => 0)))] (QI g (fun (r : Int32) (_ : Unit) => r = (-1)) (fun (_ : Unit) => [])) 0 0 := by
  refine Ct.mk (by decide) (Nat.le_of_ble_eq_true rfl) ?_
  intro p e s m below meth c A ls hx hb hml hown hts hr hlk hnm hK hA hM hM2 hP hD hS hl
  have hown : s.vm.findClass RX11 = some m.cls := hown
  have F : Fx p s m _ c cX11_person 3 RX11 g aC aM A := ⟨hx, hb, hml, hown, hts, hK, hA, hM, hM2⟩
  have hl : lv_has ls 3 [(0, .ref h1), (1, .int n_1), (2, .int n_2)] := hl
  refine lv_aload_n hx hb dX11_person_0 rfl (lv_at hl 0 rfl) ?_
  refine lv_iconst (v := 0) hx hb dX11_person_1 (by decide) ?_
  refine xput F hP hD hS 0 rfl rfl inX11 tyX11_ok nmX11 0 (by decide) tb1182 rfl rfl rfl (Nat.le_of_ble_eq_true rfl) dX11_person_2 (fun H locs hP hD hS => ?_)
  have hP : va_P g vwCl [(h1, .inr (11, [.int 0, x2, x3, x4, x5, x6, x7, x8, x9, x10, .ref h11, x12, x13, x14, x15, x16, x17, x18, x19, x20, x21, x22, x23, x24, x25, x26, x27, x28, x29, x30, x31, x32, x33, x34, x35, x36, x37, x38, x39, x40, x41, x42, x43, x44, x45, x46, x47, x48, x49, x50, x51, x52, x53, x54, x55, x56, x57, x58, x59, x60, x61, x62, x63, x64, x65, x66, x67, x68, x69, x70, x71, x72, x73, x74])), (h11, .inl (aC 0, 14, .inl (fun _ => 0)))] H := hP
  have hD : va_D A [(h1, .inr (11, [.int 0, x2, x3, x4, x5, x6, x7, x8, x9, x10, .ref h11, x12, x13, x14, x15, x16, x17, x18, x19, x20, x21, x22, x23, x24, x25, x26, x27, x28, x29, x30, x31, x32, x33, x34, x35, x36, x37, x38, x39, x40, x41, x42, x43, x44, x45, x46, x47, x48, x49, x50, x51, x52, x53, x54, x55, x56, x57, x58, x59, x60, x61, x62, x63, x64, x65, x66, x67, x68, x69, x70, x71, x72, x73, x74])), (h11, .inl (aC 0, 14, .inl (fun _ => 0)))] := hD
  refine lv_aload_n hx hb dX11_person_5 rfl (lv_at hl 0 rfl) ?_
  refine lv_iload_n hx hb dX11_person_6 rfl (lv_at hl 1 rfl) ?_
  refine goI (wr := []) (runV (n := 1) (As := [.int n_1]) (rest := []) F hP hD hS (a_X11_isPerson_1 l g aC aM h1 h11 (.int 0) x2 x3 x4 x5 x6 x7 x8 x9 x10 x12 x13 x14 x15 x16 x17 x18 x19 x20 x21 x22 x23 x24 x25 x26 x27 x28 x29 x30 x31 x32 x33 x34 x35 x36 x37 x38 x39 x40 x41 x42 x43 x44 x45 x46 x47 x48 x49 x50 x51 x52 x53 x54 x55 x56 x57 x58 x59 x60 x61 x62 x63 x64 x65 x66 x67 x68 x69 x70 x71 x72 x73 x74 n_1) [0, 1] (by decide) rfl 0 11 rfl rfl rfl tb1624 tb1621 tb1623 tv70 tb17 ⟨by decide, by decide, by decide +kernel⟩ ⟨Nat.le_of_ble_eq_true rfl, Nat.le_of_ble_eq_true rfl⟩ rfl hl.1 rfl (Nat.le_of_ble_eq_true rfl) dX11_person_7 ⟨Nat.le_of_ble_eq_true rfl, Nat.le_of_ble_eq_true rfl⟩) hP hD hS hA [0, 1] [] rfl rfl (by decide) (by decide) (fun r_2 w3 H locs hw hP hD hS => ?_)
  have hP : va_P g vwCl [(h1, .inr (11, [.int 0, x2, x3, x4, x5, x6, x7, x8, x9, x10, .ref h11, x12, x13, x14, x15, x16, x17, x18, x19, x20, x21, x22, x23, x24, x25, x26, x27, x28, x29, x30, x31, x32, x33, x34, x35, x36, x37, x38, x39, x40, x41, x42, x43, x44, x45, x46, x47, x48, x49, x50, x51, x52, x53, x54, x55, x56, x57, x58, x59, x60, x61, x62, x63, x64, x65, x66, x67, x68, x69, x70, x71, x72, x73, x74])), (h11, .inl (aC 0, 14, .inl (fun _ => 0)))] H := hP
  have hD : va_D A [(h1, .inr (11, [.int 0, x2, x3, x4, x5, x6, x7, x8, x9, x10, .ref h11, x12, x13, x14, x15, x16, x17, x18, x19, x20, x21, x22, x23, x24, x25, x26, x27, x28, x29, x30, x31, x32, x33, x34, x35, x36, x37, x38, x39, x40, x41, x42, x43, x44, x45, x46, x47, x48, x49, x50, x51, x52, x53, x54, x55, x56, x57, x58, x59, x60, x61, x62, x63, x64, x65, x66, x67, x68, x69, x70, x71, x72, x73, x74])), (h11, .inl (aC 0, 14, .inl (fun _ => 0)))] := hD
  try dsimp only at hw
  subst hw
  refine lv_if_eq (tgt := 22) hx hb dX11_person_10 (by decide) (fun _ => ?_) (fun c_ => absurd (by decide +kernel) c_)
  refine lv_iconst (v := (-1)) hx hb dX11_person_22 (by decide) ?_
  have hP9 := hP.sub (ws' := []) [] rfl
  have hD9 := hD.sub (ws' := []) [] (by decide) rfl
  exact rI () hx hb hr hlk rfl hS rfl hP9 hD9 (Nat.le_of_ble_eq_true rfl) (Nat.le_of_ble_eq_true rfl) dX11_person_23

theorem dX11_isThing_0 : decode cX11_isThing 0 = .ok (.iload_n 1, 1) := by decide +kernel
theorem dX11_isThing_1 : decode cX11_isThing 1 = .ok (.ifCond .lt 17, 3) := by decide +kernel
theorem dX11_isThing_4 : decode cX11_isThing 4 = .ok (.iload_n 1, 1) := by decide +kernel
theorem dX11_isThing_5 : decode cX11_isThing 5 = .ok (.aload_n 0, 1) := by decide +kernel
theorem dX11_isThing_6 : decode cX11_isThing 6 = .ok (.getfield 13, 3) := by decide +kernel
theorem dX11_isThing_9 : decode cX11_isThing 9 = .ok (.iconst 2, 1) := by decide +kernel
theorem dX11_isThing_10 : decode cX11_isThing 10 = .ok (.iaload, 1) := by decide +kernel
theorem dX11_isThing_11 : decode cX11_isThing 11 = .ok (.if_icmp .ge 7, 3) := by decide +kernel
theorem dX11_isThing_18 : decode cX11_isThing 18 = .ok (.iconst 0, 1) := by decide +kernel
theorem dX11_isThing_19 : decode cX11_isThing 19 = .ok (.ireturn, 1) := by decide +kernel
theorem dX11_thing_0 : decode cX11_thing 0 = .ok (.aload_n 0, 1) := by decide +kernel
theorem dX11_thing_1 : decode cX11_thing 1 = .ok (.iconst 0, 1) := by decide +kernel
theorem dX11_thing_2 : decode cX11_thing 2 = .ok (.putfield 180, 3) := by decide +kernel
theorem dX11_thing_5 : decode cX11_thing 5 = .ok (.aload_n 0, 1) := by decide +kernel
theorem dX11_thing_6 : decode cX11_thing 6 = .ok (.iload_n 1, 1) := by decide +kernel
theorem dX11_thing_7 : decode cX11_thing 7 = .ok (.invokevirtual 448, 3) := by decide +kernel
set_option maxHeartbeats 4000000 in
set_option maxRecDepth 100000 in
theorem a_X11_isThing_1 (l : Launch) (g : va_G) (aC : Nat → ClassId) (aM : Nat → Nat) (h1 h13 : Nat) (x3 x4 x5 x6 x7 x8 x9 x10 x11 x12 x14 x15 x16 x17 x18 x19 x20 x21 x22 x23 x24 x25 x26 x27 x28 x29 x30 x31 x32 x33 x34 x35 x36 x37 x38 x39 x40 x41 x42 x43 x44 x45 x46 x47 x48 x49 x50 x51 x52 x53 x54 x55 x56 x57 x58 x59 x60 x61 x62 x63 x64 x65 x66 x67 x68 x69 x70 x71 x72 x73 x74 x75 x76 : Value) (n2 : Int32) : Ct l g aC aM yX11_isThing cX11_isThing 2 (some .boolean) 1 [.ref h1, .int n2] [(h1, .inr (11, [x3, x4, x5, x6, x7, x8, x9, x10, x11, x12, .ref h13, x14, x15, x16, x17, x18, x19, x20, x21, x22, x23, x24, x25, x26, x27, x28, x29, x30, x31, x32, x33, x34, x35, x36, x37, x38, x39, x40, x41, x42, x43, x44, x45, x46, x47, x48, x49, x50, x51, x52, x53, x54, x55, x56, x57, x58, x59, x60, x61, x62, x63, x64, x65, x66, x67, x68, x69, x70, x71, x72, x73, x74, x75, x76])), (h13, .inl (aC 0, 14, .inl (fun _ => 0)))] (QI g (fun (r : Int32) (_ : Unit) => r = 0) (fun (_ : Unit) => [(h1, .inr (11, [x3, x4, x5, x6, x7, x8, x9, x10, x11, x12, .ref h13, x14, x15, x16, x17, x18, x19, x20, x21, x22, x23, x24, x25, x26, x27, x28, x29, x30, x31, x32, x33, x34, x35, x36, x37, x38, x39, x40, x41, x42, x43, x44, x45, x46, x47, x48, x49, x50, x51, x52, x53, x54, x55, x56, x57, x58, x59, x60, x61, x62, x63, x64, x65, x66, x67, x68, x69, x70, x71, x72, x73, x74, x75, x76])), (h13, .inl (aC 0, 14, .inl (fun _ => 0)))])) 0 0 := by
  refine Ct.mk (by decide) (Nat.le_of_ble_eq_true rfl) ?_
  intro p e s m below meth c A ls hx hb hml hown hts hr hlk hnm hK hA hM hM2 hP hD hS hl
  have hown : s.vm.findClass RX11 = some m.cls := hown
  have F : Fx p s m _ c cX11_isThing 2 RX11 g aC aM A := ⟨hx, hb, hml, hown, hts, hK, hA, hM, hM2⟩
  have hl : lv_has ls 2 [(0, .ref h1), (1, .int n2)] := hl
  refine lv_iload_n hx hb dX11_isThing_0 rfl (lv_at hl 1 rfl) ?_
  refine lv_if_lt (tgt := 18) hx hb dX11_isThing_1 (by decide) (fun c1 => ?_) (fun c1 => ?_)
  · refine lv_iconst (v := 0) hx hb dX11_isThing_18 (by decide) ?_
    have hP9 := hP.sub (ws' := [(h1, .inr (11, [x3, x4, x5, x6, x7, x8, x9, x10, x11, x12, .ref h13, x14, x15, x16, x17, x18, x19, x20, x21, x22, x23, x24, x25, x26, x27, x28, x29, x30, x31, x32, x33, x34, x35, x36, x37, x38, x39, x40, x41, x42, x43, x44, x45, x46, x47, x48, x49, x50, x51, x52, x53, x54, x55, x56, x57, x58, x59, x60, x61, x62, x63, x64, x65, x66, x67, x68, x69, x70, x71, x72, x73, x74, x75, x76])), (h13, .inl (aC 0, 14, .inl (fun _ => 0)))]) [0, 1] rfl
    have hD9 := hD.sub (ws' := [(h1, .inr (11, [x3, x4, x5, x6, x7, x8, x9, x10, x11, x12, .ref h13, x14, x15, x16, x17, x18, x19, x20, x21, x22, x23, x24, x25, x26, x27, x28, x29, x30, x31, x32, x33, x34, x35, x36, x37, x38, x39, x40, x41, x42, x43, x44, x45, x46, x47, x48, x49, x50, x51, x52, x53, x54, x55, x56, x57, x58, x59, x60, x61, x62, x63, x64, x65, x66, x67, x68, x69, x70, x71, x72, x73, x74, x75, x76])), (h13, .inl (aC 0, 14, .inl (fun _ => 0)))]) [0, 1] (by decide) rfl
    exact rI () hx hb hr hlk rfl hS rfl hP9 hD9 (Nat.le_of_ble_eq_true rfl) (Nat.le_of_ble_eq_true rfl) dX11_isThing_19
  · refine lv_iload_n hx hb dX11_isThing_4 rfl (lv_at hl 1 rfl) ?_
    refine lv_aload_n hx hb dX11_isThing_5 rfl (lv_at hl 0 rfl) ?_
    refine xget F hP 0 rfl rfl inX11 10 (by decide) tb1192 rfl dX11_isThing_6 ?_
    refine lv_iconst (v := 2) hx hb dX11_isThing_9 (by decide) ?_
    refine xilo (v := 0) F hP 1 rfl 2 (by decide +kernel) (by decide +kernel) (by decide) (by decide +kernel) dX11_isThing_10 ?_
    refine lv_icmp_ge (tgt := 18) hx hb dX11_isThing_11 (by decide) (fun c2 => ?_) (fun c2 => ?_)
    · refine lv_iconst (v := 0) hx hb dX11_isThing_18 (by decide) ?_
      have hP9 := hP.sub (ws' := [(h1, .inr (11, [x3, x4, x5, x6, x7, x8, x9, x10, x11, x12, .ref h13, x14, x15, x16, x17, x18, x19, x20, x21, x22, x23, x24, x25, x26, x27, x28, x29, x30, x31, x32, x33, x34, x35, x36, x37, x38, x39, x40, x41, x42, x43, x44, x45, x46, x47, x48, x49, x50, x51, x52, x53, x54, x55, x56, x57, x58, x59, x60, x61, x62, x63, x64, x65, x66, x67, x68, x69, x70, x71, x72, x73, x74, x75, x76])), (h13, .inl (aC 0, 14, .inl (fun _ => 0)))]) [0, 1] rfl
      have hD9 := hD.sub (ws' := [(h1, .inr (11, [x3, x4, x5, x6, x7, x8, x9, x10, x11, x12, .ref h13, x14, x15, x16, x17, x18, x19, x20, x21, x22, x23, x24, x25, x26, x27, x28, x29, x30, x31, x32, x33, x34, x35, x36, x37, x38, x39, x40, x41, x42, x43, x44, x45, x46, x47, x48, x49, x50, x51, x52, x53, x54, x55, x56, x57, x58, x59, x60, x61, x62, x63, x64, x65, x66, x67, x68, x69, x70, x71, x72, x73, x74, x75, x76])), (h13, .inl (aC 0, 14, .inl (fun _ => 0)))]) [0, 1] (by decide) rfl
      exact rI () hx hb hr hlk rfl hS rfl hP9 hD9 (Nat.le_of_ble_eq_true rfl) (Nat.le_of_ble_eq_true rfl) dX11_isThing_19
    · exfalso
      simp only [Int32.lt_iff_toInt_lt, Int32.le_iff_toInt_le, ← Int32.toInt_inj, show (0 : Int32).toInt = 0 by decide] at c1 c2; omega

theorem tb1629 : (Jvm.Cond.methodLink "StairGangModel" (448 : Nat) ({ cls := "StairGangModel", name := "isThing", desc := "(I)Z" } : Jvm.MethodName)) ∈ gw := lw_m 1629 (by decide +kernel)
theorem tb1631 : (Jvm.Cond.instanceMethod ({ cls := "StairGangModel", name := "isThing", desc := "(I)Z" } : Jvm.MethodName)) ∈ gw := lw_m 1631 (by decide +kernel)
theorem tb1632 : (Jvm.Cond.code ({ cls := "StairGangModel", name := "isThing", desc := "(I)Z" } : Jvm.MethodName) prog_13_method_57_code (2 : Nat) (Option.some Jvm.ClassFile.FieldType.boolean)) ∈ gw := lw_m 1632 (by decide +kernel)
theorem tv71 : Cond.selects "StairGangModel" ⟨"StairGangModel", "isThing", "(I)Z"⟩ ⟨"StairGangModel", "isThing", "(I)Z"⟩ ∈ gw := lw_v 71 (by decide +kernel)
theorem dX11_thing_10 : decode cX11_thing 10 = .ok (.ifCond .eq 15, 3) := by decide +kernel
theorem dX11_thing_25 : decode cX11_thing 25 = .ok (.iconst (-1), 1) := by decide +kernel
theorem dX11_thing_26 : decode cX11_thing 26 = .ok (.ireturn, 1) := by decide +kernel
set_option maxHeartbeats 4000000 in
set_option maxRecDepth 100000 in
theorem m_thing (l : Launch) (g : va_G) (aC : Nat → ClassId) (aM : Nat → Nat) (h1 h11 : Nat) (x2 x3 x4 x5 x6 x7 x8 x9 x10 x12 x13 x14 x15 x16 x17 x18 x19 x20 x21 x22 x23 x24 x25 x26 x27 x28 x29 x30 x31 x32 x33 x34 x35 x36 x37 x38 x39 x40 x41 x42 x43 x44 x45 x46 x47 x48 x49 x50 x51 x52 x53 x54 x55 x56 x57 x58 x59 x60 x61 x62 x63 x64 x65 x66 x67 x68 x69 x70 x71 x72 x73 x74 : Value) (n_1 : Int32) : Ct l g aC aM yX11_thing cX11_thing 2 (some .int) 2 [.ref h1, .int n_1] [(h1, .inr (11, [.int 0, x2, x3, x4, x5, x6, x7, x8, x9, x10, .ref h11, x12, x13, x14, x15, x16, x17, x18, x19, x20, x21, x22, x23, x24, x25, x26, x27, x28, x29, x30, x31, x32, x33, x34, x35, x36, x37, x38, x39, x40, x41, x42, x43, x44, x45, x46, x47, x48, x49, x50, x51, x52, x53, x54, x55, x56, x57, x58, x59, x60, x61, x62, x63, x64, x65, x66, x67, x68, x69, x70, x71, x72, x73, x74])), (h11, .inl (aC 0, 14, .inl (fun _ => 0)))] (QI g (fun (r : Int32) (_ : Unit) => r = (-1)) (fun (_ : Unit) => [])) 0 0 := by
  refine Ct.mk (by decide) (Nat.le_of_ble_eq_true rfl) ?_
  intro p e s m below meth c A ls hx hb hml hown hts hr hlk hnm hK hA hM hM2 hP hD hS hl
  have hown : s.vm.findClass RX11 = some m.cls := hown
  have F : Fx p s m _ c cX11_thing 2 RX11 g aC aM A := ⟨hx, hb, hml, hown, hts, hK, hA, hM, hM2⟩
  have hl : lv_has ls 2 [(0, .ref h1), (1, .int n_1)] := hl
  refine lv_aload_n hx hb dX11_thing_0 rfl (lv_at hl 0 rfl) ?_
  refine lv_iconst (v := 0) hx hb dX11_thing_1 (by decide) ?_
  refine xput F hP hD hS 0 rfl rfl inX11 tyX11_ok nmX11 0 (by decide) tb1182 rfl rfl rfl (Nat.le_of_ble_eq_true rfl) dX11_thing_2 (fun H locs hP hD hS => ?_)
  have hP : va_P g vwCl [(h1, .inr (11, [.int 0, x2, x3, x4, x5, x6, x7, x8, x9, x10, .ref h11, x12, x13, x14, x15, x16, x17, x18, x19, x20, x21, x22, x23, x24, x25, x26, x27, x28, x29, x30, x31, x32, x33, x34, x35, x36, x37, x38, x39, x40, x41, x42, x43, x44, x45, x46, x47, x48, x49, x50, x51, x52, x53, x54, x55, x56, x57, x58, x59, x60, x61, x62, x63, x64, x65, x66, x67, x68, x69, x70, x71, x72, x73, x74])), (h11, .inl (aC 0, 14, .inl (fun _ => 0)))] H := hP
  have hD : va_D A [(h1, .inr (11, [.int 0, x2, x3, x4, x5, x6, x7, x8, x9, x10, .ref h11, x12, x13, x14, x15, x16, x17, x18, x19, x20, x21, x22, x23, x24, x25, x26, x27, x28, x29, x30, x31, x32, x33, x34, x35, x36, x37, x38, x39, x40, x41, x42, x43, x44, x45, x46, x47, x48, x49, x50, x51, x52, x53, x54, x55, x56, x57, x58, x59, x60, x61, x62, x63, x64, x65, x66, x67, x68, x69, x70, x71, x72, x73, x74])), (h11, .inl (aC 0, 14, .inl (fun _ => 0)))] := hD
  refine lv_aload_n hx hb dX11_thing_5 rfl (lv_at hl 0 rfl) ?_
  refine lv_iload_n hx hb dX11_thing_6 rfl (lv_at hl 1 rfl) ?_
  refine goI (wr := []) (runV (n := 1) (As := [.int n_1]) (rest := []) F hP hD hS (a_X11_isThing_1 l g aC aM h1 h11 (.int 0) x2 x3 x4 x5 x6 x7 x8 x9 x10 x12 x13 x14 x15 x16 x17 x18 x19 x20 x21 x22 x23 x24 x25 x26 x27 x28 x29 x30 x31 x32 x33 x34 x35 x36 x37 x38 x39 x40 x41 x42 x43 x44 x45 x46 x47 x48 x49 x50 x51 x52 x53 x54 x55 x56 x57 x58 x59 x60 x61 x62 x63 x64 x65 x66 x67 x68 x69 x70 x71 x72 x73 x74 n_1) [0, 1] (by decide) rfl 0 11 rfl rfl rfl tb1632 tb1629 tb1631 tv71 tb17 ⟨by decide, by decide, by decide +kernel⟩ ⟨Nat.le_of_ble_eq_true rfl, Nat.le_of_ble_eq_true rfl⟩ rfl hl.1 rfl (Nat.le_of_ble_eq_true rfl) dX11_thing_7 ⟨Nat.le_of_ble_eq_true rfl, Nat.le_of_ble_eq_true rfl⟩) hP hD hS hA [0, 1] [] rfl rfl (by decide) (by decide) (fun r_2 w3 H locs hw hP hD hS => ?_)
  have hP : va_P g vwCl [(h1, .inr (11, [.int 0, x2, x3, x4, x5, x6, x7, x8, x9, x10, .ref h11, x12, x13, x14, x15, x16, x17, x18, x19, x20, x21, x22, x23, x24, x25, x26, x27, x28, x29, x30, x31, x32, x33, x34, x35, x36, x37, x38, x39, x40, x41, x42, x43, x44, x45, x46, x47, x48, x49, x50, x51, x52, x53, x54, x55, x56, x57, x58, x59, x60, x61, x62, x63, x64, x65, x66, x67, x68, x69, x70, x71, x72, x73, x74])), (h11, .inl (aC 0, 14, .inl (fun _ => 0)))] H := hP
  have hD : va_D A [(h1, .inr (11, [.int 0, x2, x3, x4, x5, x6, x7, x8, x9, x10, .ref h11, x12, x13, x14, x15, x16, x17, x18, x19, x20, x21, x22, x23, x24, x25, x26, x27, x28, x29, x30, x31, x32, x33, x34, x35, x36, x37, x38, x39, x40, x41, x42, x43, x44, x45, x46, x47, x48, x49, x50, x51, x52, x53, x54, x55, x56, x57, x58, x59, x60, x61, x62, x63, x64, x65, x66, x67, x68, x69, x70, x71, x72, x73, x74])), (h11, .inl (aC 0, 14, .inl (fun _ => 0)))] := hD
  try dsimp only at hw
  subst hw
  refine lv_if_eq (tgt := 25) hx hb dX11_thing_10 (by decide) (fun _ => ?_) (fun c_ => absurd (by decide +kernel) c_)
  refine lv_iconst (v := (-1)) hx hb dX11_thing_25 (by decide) ?_
  have hP9 := hP.sub (ws' := []) [] rfl
  have hD9 := hD.sub (ws' := []) [] (by decide) rfl
  exact rI () hx hb hr hlk rfl hS rfl hP9 hD9 (Nat.le_of_ble_eq_true rfl) (Nat.le_of_ble_eq_true rfl) dX11_thing_26

theorem dX11_reach_0 : decode cX11_reach 0 = .ok (.aload_n 0, 1) := by decide +kernel
theorem dX11_reach_1 : decode cX11_reach 1 = .ok (.iconst 0, 1) := by decide +kernel
theorem dX11_reach_2 : decode cX11_reach 2 = .ok (.putfield 180, 3) := by decide +kernel
theorem dX11_reach_5 : decode cX11_reach 5 = .ok (.aload_n 0, 1) := by decide +kernel
theorem dX11_reach_6 : decode cX11_reach 6 = .ok (.iload_n 1, 1) := by decide +kernel
theorem dX11_reach_7 : decode cX11_reach 7 = .ok (.invokevirtual 445, 3) := by decide +kernel
theorem dX11_reach_10 : decode cX11_reach 10 = .ok (.ifCond .eq 11, 3) := by decide +kernel
theorem dX11_reach_21 : decode cX11_reach 21 = .ok (.iconst (-1), 1) := by decide +kernel
theorem dX11_reach_22 : decode cX11_reach 22 = .ok (.ireturn, 1) := by decide +kernel
set_option maxHeartbeats 4000000 in
set_option maxRecDepth 100000 in
theorem m_reach (l : Launch) (g : va_G) (aC : Nat → ClassId) (aM : Nat → Nat) (h1 h11 : Nat) (x2 x3 x4 x5 x6 x7 x8 x9 x10 x12 x13 x14 x15 x16 x17 x18 x19 x20 x21 x22 x23 x24 x25 x26 x27 x28 x29 x30 x31 x32 x33 x34 x35 x36 x37 x38 x39 x40 x41 x42 x43 x44 x45 x46 x47 x48 x49 x50 x51 x52 x53 x54 x55 x56 x57 x58 x59 x60 x61 x62 x63 x64 x65 x66 x67 x68 x69 x70 x71 x72 x73 x74 : Value) (n_1 : Int32) : Ct l g aC aM yX11_reach cX11_reach 2 (some .int) 2 [.ref h1, .int n_1] [(h1, .inr (11, [.int 0, x2, x3, x4, x5, x6, x7, x8, x9, x10, .ref h11, x12, x13, x14, x15, x16, x17, x18, x19, x20, x21, x22, x23, x24, x25, x26, x27, x28, x29, x30, x31, x32, x33, x34, x35, x36, x37, x38, x39, x40, x41, x42, x43, x44, x45, x46, x47, x48, x49, x50, x51, x52, x53, x54, x55, x56, x57, x58, x59, x60, x61, x62, x63, x64, x65, x66, x67, x68, x69, x70, x71, x72, x73, x74])), (h11, .inl (aC 0, 14, .inl (fun _ => 0)))] (QI g (fun (r : Int32) (_ : Unit) => r = (-1)) (fun (_ : Unit) => [])) 0 0 := by
  refine Ct.mk (by decide) (Nat.le_of_ble_eq_true rfl) ?_
  intro p e s m below meth c A ls hx hb hml hown hts hr hlk hnm hK hA hM hM2 hP hD hS hl
  have hown : s.vm.findClass RX11 = some m.cls := hown
  have F : Fx p s m _ c cX11_reach 2 RX11 g aC aM A := ⟨hx, hb, hml, hown, hts, hK, hA, hM, hM2⟩
  have hl : lv_has ls 2 [(0, .ref h1), (1, .int n_1)] := hl
  refine lv_aload_n hx hb dX11_reach_0 rfl (lv_at hl 0 rfl) ?_
  refine lv_iconst (v := 0) hx hb dX11_reach_1 (by decide) ?_
  refine xput F hP hD hS 0 rfl rfl inX11 tyX11_ok nmX11 0 (by decide) tb1182 rfl rfl rfl (Nat.le_of_ble_eq_true rfl) dX11_reach_2 (fun H locs hP hD hS => ?_)
  have hP : va_P g vwCl [(h1, .inr (11, [.int 0, x2, x3, x4, x5, x6, x7, x8, x9, x10, .ref h11, x12, x13, x14, x15, x16, x17, x18, x19, x20, x21, x22, x23, x24, x25, x26, x27, x28, x29, x30, x31, x32, x33, x34, x35, x36, x37, x38, x39, x40, x41, x42, x43, x44, x45, x46, x47, x48, x49, x50, x51, x52, x53, x54, x55, x56, x57, x58, x59, x60, x61, x62, x63, x64, x65, x66, x67, x68, x69, x70, x71, x72, x73, x74])), (h11, .inl (aC 0, 14, .inl (fun _ => 0)))] H := hP
  have hD : va_D A [(h1, .inr (11, [.int 0, x2, x3, x4, x5, x6, x7, x8, x9, x10, .ref h11, x12, x13, x14, x15, x16, x17, x18, x19, x20, x21, x22, x23, x24, x25, x26, x27, x28, x29, x30, x31, x32, x33, x34, x35, x36, x37, x38, x39, x40, x41, x42, x43, x44, x45, x46, x47, x48, x49, x50, x51, x52, x53, x54, x55, x56, x57, x58, x59, x60, x61, x62, x63, x64, x65, x66, x67, x68, x69, x70, x71, x72, x73, x74])), (h11, .inl (aC 0, 14, .inl (fun _ => 0)))] := hD
  refine lv_aload_n hx hb dX11_reach_5 rfl (lv_at hl 0 rfl) ?_
  refine lv_iload_n hx hb dX11_reach_6 rfl (lv_at hl 1 rfl) ?_
  refine goI (wr := []) (runV (n := 1) (As := [.int n_1]) (rest := []) F hP hD hS (a_X11_isPerson_1 l g aC aM h1 h11 (.int 0) x2 x3 x4 x5 x6 x7 x8 x9 x10 x12 x13 x14 x15 x16 x17 x18 x19 x20 x21 x22 x23 x24 x25 x26 x27 x28 x29 x30 x31 x32 x33 x34 x35 x36 x37 x38 x39 x40 x41 x42 x43 x44 x45 x46 x47 x48 x49 x50 x51 x52 x53 x54 x55 x56 x57 x58 x59 x60 x61 x62 x63 x64 x65 x66 x67 x68 x69 x70 x71 x72 x73 x74 n_1) [0, 1] (by decide) rfl 0 11 rfl rfl rfl tb1624 tb1621 tb1623 tv70 tb17 ⟨by decide, by decide, by decide +kernel⟩ ⟨Nat.le_of_ble_eq_true rfl, Nat.le_of_ble_eq_true rfl⟩ rfl hl.1 rfl (Nat.le_of_ble_eq_true rfl) dX11_reach_7 ⟨Nat.le_of_ble_eq_true rfl, Nat.le_of_ble_eq_true rfl⟩) hP hD hS hA [0, 1] [] rfl rfl (by decide) (by decide) (fun r_2 w3 H locs hw hP hD hS => ?_)
  have hP : va_P g vwCl [(h1, .inr (11, [.int 0, x2, x3, x4, x5, x6, x7, x8, x9, x10, .ref h11, x12, x13, x14, x15, x16, x17, x18, x19, x20, x21, x22, x23, x24, x25, x26, x27, x28, x29, x30, x31, x32, x33, x34, x35, x36, x37, x38, x39, x40, x41, x42, x43, x44, x45, x46, x47, x48, x49, x50, x51, x52, x53, x54, x55, x56, x57, x58, x59, x60, x61, x62, x63, x64, x65, x66, x67, x68, x69, x70, x71, x72, x73, x74])), (h11, .inl (aC 0, 14, .inl (fun _ => 0)))] H := hP
  have hD : va_D A [(h1, .inr (11, [.int 0, x2, x3, x4, x5, x6, x7, x8, x9, x10, .ref h11, x12, x13, x14, x15, x16, x17, x18, x19, x20, x21, x22, x23, x24, x25, x26, x27, x28, x29, x30, x31, x32, x33, x34, x35, x36, x37, x38, x39, x40, x41, x42, x43, x44, x45, x46, x47, x48, x49, x50, x51, x52, x53, x54, x55, x56, x57, x58, x59, x60, x61, x62, x63, x64, x65, x66, x67, x68, x69, x70, x71, x72, x73, x74])), (h11, .inl (aC 0, 14, .inl (fun _ => 0)))] := hD
  try dsimp only at hw
  subst hw
  refine lv_if_eq (tgt := 21) hx hb dX11_reach_10 (by decide) (fun _ => ?_) (fun c_ => absurd (by decide +kernel) c_)
  refine lv_iconst (v := (-1)) hx hb dX11_reach_21 (by decide) ?_
  have hP9 := hP.sub (ws' := []) [] rfl
  have hD9 := hD.sub (ws' := []) [] (by decide) rfl
  exact rI () hx hb hr hlk rfl hS rfl hP9 hD9 (Nat.le_of_ble_eq_true rfl) (Nat.le_of_ble_eq_true rfl) dX11_reach_22

theorem dX11_cost_0 : decode cX11_cost 0 = .ok (.aload_n 0, 1) := by decide +kernel
theorem dX11_cost_1 : decode cX11_cost 1 = .ok (.iconst 0, 1) := by decide +kernel
theorem dX11_cost_2 : decode cX11_cost 2 = .ok (.putfield 180, 3) := by decide +kernel
theorem dX11_cost_5 : decode cX11_cost 5 = .ok (.aload_n 0, 1) := by decide +kernel
theorem dX11_cost_6 : decode cX11_cost 6 = .ok (.iload_n 1, 1) := by decide +kernel
theorem dX11_cost_7 : decode cX11_cost 7 = .ok (.invokevirtual 445, 3) := by decide +kernel
theorem dX11_cost_10 : decode cX11_cost 10 = .ok (.ifCond .eq 11, 3) := by decide +kernel
theorem dX11_cost_21 : decode cX11_cost 21 = .ok (.iconst (-1), 1) := by decide +kernel
theorem dX11_cost_22 : decode cX11_cost 22 = .ok (.ireturn, 1) := by decide +kernel
set_option maxHeartbeats 4000000 in
set_option maxRecDepth 100000 in
theorem m_cost (l : Launch) (g : va_G) (aC : Nat → ClassId) (aM : Nat → Nat) (h1 h11 : Nat) (x2 x3 x4 x5 x6 x7 x8 x9 x10 x12 x13 x14 x15 x16 x17 x18 x19 x20 x21 x22 x23 x24 x25 x26 x27 x28 x29 x30 x31 x32 x33 x34 x35 x36 x37 x38 x39 x40 x41 x42 x43 x44 x45 x46 x47 x48 x49 x50 x51 x52 x53 x54 x55 x56 x57 x58 x59 x60 x61 x62 x63 x64 x65 x66 x67 x68 x69 x70 x71 x72 x73 x74 : Value) (n_1 n_2 : Int32) : Ct l g aC aM yX11_cost cX11_cost 8 (some .int) 2 [.ref h1, .int n_1, .int n_2] [(h1, .inr (11, [.int 0, x2, x3, x4, x5, x6, x7, x8, x9, x10, .ref h11, x12, x13, x14, x15, x16, x17, x18, x19, x20, x21, x22, x23, x24, x25, x26, x27, x28, x29, x30, x31, x32, x33, x34, x35, x36, x37, x38, x39, x40, x41, x42, x43, x44, x45, x46, x47, x48, x49, x50, x51, x52, x53, x54, x55, x56, x57, x58, x59, x60, x61, x62, x63, x64, x65, x66, x67, x68, x69, x70, x71, x72, x73, x74])), (h11, .inl (aC 0, 14, .inl (fun _ => 0)))] (QI g (fun (r : Int32) (_ : Unit) => r = (-1)) (fun (_ : Unit) => [])) 0 0 := by
  refine Ct.mk (by decide) (Nat.le_of_ble_eq_true rfl) ?_
  intro p e s m below meth c A ls hx hb hml hown hts hr hlk hnm hK hA hM hM2 hP hD hS hl
  have hown : s.vm.findClass RX11 = some m.cls := hown
  have F : Fx p s m _ c cX11_cost 8 RX11 g aC aM A := ⟨hx, hb, hml, hown, hts, hK, hA, hM, hM2⟩
  have hl : lv_has ls 8 [(0, .ref h1), (1, .int n_1), (2, .int n_2)] := hl
  refine lv_aload_n hx hb dX11_cost_0 rfl (lv_at hl 0 rfl) ?_
  refine lv_iconst (v := 0) hx hb dX11_cost_1 (by decide) ?_
  refine xput F hP hD hS 0 rfl rfl inX11 tyX11_ok nmX11 0 (by decide) tb1182 rfl rfl rfl (Nat.le_of_ble_eq_true rfl) dX11_cost_2 (fun H locs hP hD hS => ?_)
  have hP : va_P g vwCl [(h1, .inr (11, [.int 0, x2, x3, x4, x5, x6, x7, x8, x9, x10, .ref h11, x12, x13, x14, x15, x16, x17, x18, x19, x20, x21, x22, x23, x24, x25, x26, x27, x28, x29, x30, x31, x32, x33, x34, x35, x36, x37, x38, x39, x40, x41, x42, x43, x44, x45, x46, x47, x48, x49, x50, x51, x52, x53, x54, x55, x56, x57, x58, x59, x60, x61, x62, x63, x64, x65, x66, x67, x68, x69, x70, x71, x72, x73, x74])), (h11, .inl (aC 0, 14, .inl (fun _ => 0)))] H := hP
  have hD : va_D A [(h1, .inr (11, [.int 0, x2, x3, x4, x5, x6, x7, x8, x9, x10, .ref h11, x12, x13, x14, x15, x16, x17, x18, x19, x20, x21, x22, x23, x24, x25, x26, x27, x28, x29, x30, x31, x32, x33, x34, x35, x36, x37, x38, x39, x40, x41, x42, x43, x44, x45, x46, x47, x48, x49, x50, x51, x52, x53, x54, x55, x56, x57, x58, x59, x60, x61, x62, x63, x64, x65, x66, x67, x68, x69, x70, x71, x72, x73, x74])), (h11, .inl (aC 0, 14, .inl (fun _ => 0)))] := hD
  refine lv_aload_n hx hb dX11_cost_5 rfl (lv_at hl 0 rfl) ?_
  refine lv_iload_n hx hb dX11_cost_6 rfl (lv_at hl 1 rfl) ?_
  refine goI (wr := []) (runV (n := 1) (As := [.int n_1]) (rest := []) F hP hD hS (a_X11_isPerson_1 l g aC aM h1 h11 (.int 0) x2 x3 x4 x5 x6 x7 x8 x9 x10 x12 x13 x14 x15 x16 x17 x18 x19 x20 x21 x22 x23 x24 x25 x26 x27 x28 x29 x30 x31 x32 x33 x34 x35 x36 x37 x38 x39 x40 x41 x42 x43 x44 x45 x46 x47 x48 x49 x50 x51 x52 x53 x54 x55 x56 x57 x58 x59 x60 x61 x62 x63 x64 x65 x66 x67 x68 x69 x70 x71 x72 x73 x74 n_1) [0, 1] (by decide) rfl 0 11 rfl rfl rfl tb1624 tb1621 tb1623 tv70 tb17 ⟨by decide, by decide, by decide +kernel⟩ ⟨Nat.le_of_ble_eq_true rfl, Nat.le_of_ble_eq_true rfl⟩ rfl hl.1 rfl (Nat.le_of_ble_eq_true rfl) dX11_cost_7 ⟨Nat.le_of_ble_eq_true rfl, Nat.le_of_ble_eq_true rfl⟩) hP hD hS hA [0, 1] [] rfl rfl (by decide) (by decide) (fun r_2 w3 H locs hw hP hD hS => ?_)
  have hP : va_P g vwCl [(h1, .inr (11, [.int 0, x2, x3, x4, x5, x6, x7, x8, x9, x10, .ref h11, x12, x13, x14, x15, x16, x17, x18, x19, x20, x21, x22, x23, x24, x25, x26, x27, x28, x29, x30, x31, x32, x33, x34, x35, x36, x37, x38, x39, x40, x41, x42, x43, x44, x45, x46, x47, x48, x49, x50, x51, x52, x53, x54, x55, x56, x57, x58, x59, x60, x61, x62, x63, x64, x65, x66, x67, x68, x69, x70, x71, x72, x73, x74])), (h11, .inl (aC 0, 14, .inl (fun _ => 0)))] H := hP
  have hD : va_D A [(h1, .inr (11, [.int 0, x2, x3, x4, x5, x6, x7, x8, x9, x10, .ref h11, x12, x13, x14, x15, x16, x17, x18, x19, x20, x21, x22, x23, x24, x25, x26, x27, x28, x29, x30, x31, x32, x33, x34, x35, x36, x37, x38, x39, x40, x41, x42, x43, x44, x45, x46, x47, x48, x49, x50, x51, x52, x53, x54, x55, x56, x57, x58, x59, x60, x61, x62, x63, x64, x65, x66, x67, x68, x69, x70, x71, x72, x73, x74])), (h11, .inl (aC 0, 14, .inl (fun _ => 0)))] := hD
  try dsimp only at hw
  subst hw
  refine lv_if_eq (tgt := 21) hx hb dX11_cost_10 (by decide) (fun _ => ?_) (fun c_ => absurd (by decide +kernel) c_)
  refine lv_iconst (v := (-1)) hx hb dX11_cost_21 (by decide) ?_
  have hP9 := hP.sub (ws' := []) [] rfl
  have hD9 := hD.sub (ws' := []) [] (by decide) rfl
  exact rI () hx hb hr hlk rfl hS rfl hP9 hD9 (Nat.le_of_ble_eq_true rfl) (Nat.le_of_ble_eq_true rfl) dX11_cost_22

theorem dX11_cut_0 : decode cX11_cut 0 = .ok (.aload_n 0, 1) := by decide +kernel
theorem dX11_cut_1 : decode cX11_cut 1 = .ok (.iconst 0, 1) := by decide +kernel
theorem dX11_cut_2 : decode cX11_cut 2 = .ok (.putfield 180, 3) := by decide +kernel
theorem dX11_cut_5 : decode cX11_cut 5 = .ok (.aload_n 0, 1) := by decide +kernel
theorem dX11_cut_6 : decode cX11_cut 6 = .ok (.aload_n 0, 1) := by decide +kernel
theorem dX11_cut_7 : decode cX11_cut 7 = .ok (.getfield 141, 3) := by decide +kernel
theorem dX11_cut_10 : decode cX11_cut 10 = .ok (.iconst 0, 1) := by decide +kernel
theorem dX11_cut_11 : decode cX11_cut 11 = .ok (.iaload, 1) := by decide +kernel
theorem dX11_cut_12 : decode cX11_cut 12 = .ok (.invokevirtual 461, 3) := by decide +kernel
theorem dX11_cutBy_0 : decode cX11_cutBy 0 = .ok (.iconst 0, 1) := by decide +kernel
theorem dX11_cutBy_1 : decode cX11_cutBy 1 = .ok (.istore_n 2, 1) := by decide +kernel
theorem dX11_cutBy_2 : decode cX11_cutBy 2 = .ok (.iconst 0, 1) := by decide +kernel
theorem dX11_cutBy_3 : decode cX11_cutBy 3 = .ok (.istore_n 3, 1) := by decide +kernel
theorem dX11_cutBy_4 : decode cX11_cutBy 4 = .ok (.iload_n 3, 1) := by decide +kernel
theorem dX11_cutBy_5 : decode cX11_cutBy 5 = .ok (.aload_n 0, 1) := by decide +kernel
theorem dX11_cutBy_6 : decode cX11_cutBy 6 = .ok (.getfield 13, 3) := by decide +kernel
theorem dX11_cutBy_9 : decode cX11_cutBy 9 = .ok (.iconst 3, 1) := by decide +kernel
theorem dX11_cutBy_10 : decode cX11_cutBy 10 = .ok (.iaload, 1) := by decide +kernel
theorem dX11_cutBy_11 : decode cX11_cutBy 11 = .ok (.if_icmp .ge 36, 3) := by decide +kernel
theorem dX11_cutBy_47 : decode cX11_cutBy 47 = .ok (.iload_n 2, 1) := by decide +kernel
theorem dX11_cutBy_48 : decode cX11_cutBy 48 = .ok (.ireturn, 1) := by decide +kernel
set_option maxHeartbeats 4000000 in
set_option maxRecDepth 100000 in
theorem a_X11_cutBy_1 (l : Launch) (g : va_G) (aC : Nat → ClassId) (aM : Nat → Nat) (h1 h12 : Nat) (x2 x3 x4 x5 x6 x7 x8 x9 x10 x11 x13 x14 x15 x16 x17 x18 x19 x20 x21 x22 x23 x24 x25 x26 x27 x28 x29 x30 x31 x32 x33 x34 x35 x36 x37 x38 x39 x40 x41 x42 x43 x44 x45 x46 x47 x48 x49 x50 x51 x52 x53 x54 x55 x56 x57 x58 x59 x60 x61 x62 x63 x64 x65 x66 x67 x68 x69 x70 x71 x72 x73 x74 x75 : Value) : Ct l g aC aM yX11_cutBy cX11_cutBy 4 (some .int) 1 [.ref h1, .int 0] [(h1, .inr (11, [x2, x3, x4, x5, x6, x7, x8, x9, x10, x11, .ref h12, x13, x14, x15, x16, x17, x18, x19, x20, x21, x22, x23, x24, x25, x26, x27, x28, x29, x30, x31, x32, x33, x34, x35, x36, x37, x38, x39, x40, x41, x42, x43, x44, x45, x46, x47, x48, x49, x50, x51, x52, x53, x54, x55, x56, x57, x58, x59, x60, x61, x62, x63, x64, x65, x66, x67, x68, x69, x70, x71, x72, x73, x74, x75])), (h12, .inl (aC 0, 14, .inl (fun _ => 0)))] (QI g (fun (r : Int32) (_ : Unit) => r = 0) (fun (_ : Unit) => [(h1, .inr (11, [x2, x3, x4, x5, x6, x7, x8, x9, x10, x11, .ref h12, x13, x14, x15, x16, x17, x18, x19, x20, x21, x22, x23, x24, x25, x26, x27, x28, x29, x30, x31, x32, x33, x34, x35, x36, x37, x38, x39, x40, x41, x42, x43, x44, x45, x46, x47, x48, x49, x50, x51, x52, x53, x54, x55, x56, x57, x58, x59, x60, x61, x62, x63, x64, x65, x66, x67, x68, x69, x70, x71, x72, x73, x74, x75])), (h12, .inl (aC 0, 14, .inl (fun _ => 0)))])) 0 0 := by
  refine Ct.mk (by decide) (Nat.le_of_ble_eq_true rfl) ?_
  intro p e s m below meth c A ls hx hb hml hown hts hr hlk hnm hK hA hM hM2 hP hD hS hl
  have hown : s.vm.findClass RX11 = some m.cls := hown
  have F : Fx p s m _ c cX11_cutBy 4 RX11 g aC aM A := ⟨hx, hb, hml, hown, hts, hK, hA, hM, hM2⟩
  have hl : lv_has ls 4 [(0, .ref h1), (1, .int 0)] := hl
  refine lv_iconst (v := 0) hx hb dX11_cutBy_0 (by decide) ?_
  refine lv_istore_n (lv' := [(2, .int 0), (0, .ref h1), (1, .int 0)]) hx hb dX11_cutBy_1 rfl hl (by decide) rfl (fun ls hl => ?_)
  refine lv_iconst (v := 0) hx hb dX11_cutBy_2 (by decide) ?_
  refine lv_istore_n (lv' := [(3, .int 0), (2, .int 0), (0, .ref h1), (1, .int 0)]) hx hb dX11_cutBy_3 rfl hl (by decide) rfl (fun ls hl => ?_)
  refine lv_iload_n hx hb dX11_cutBy_4 rfl (lv_at hl 0 rfl) ?_
  refine lv_aload_n hx hb dX11_cutBy_5 rfl (lv_at hl 2 rfl) ?_
  refine xget F hP 0 rfl rfl inX11 10 (by decide) tb1192 rfl dX11_cutBy_6 ?_
  refine lv_iconst (v := 3) hx hb dX11_cutBy_9 (by decide) ?_
  refine xilo (v := 0) F hP 1 rfl 3 (by decide +kernel) (by decide +kernel) (by decide) (by decide +kernel) dX11_cutBy_10 ?_
  refine lv_icmp_ge (tgt := 47) hx hb dX11_cutBy_11 (by decide) (fun _ => ?_) (fun c_ => absurd (by decide +kernel) c_)
  refine lv_iload_n hx hb dX11_cutBy_47 rfl (lv_at hl 1 rfl) ?_
  have hP9 := hP.sub (ws' := [(h1, .inr (11, [x2, x3, x4, x5, x6, x7, x8, x9, x10, x11, .ref h12, x13, x14, x15, x16, x17, x18, x19, x20, x21, x22, x23, x24, x25, x26, x27, x28, x29, x30, x31, x32, x33, x34, x35, x36, x37, x38, x39, x40, x41, x42, x43, x44, x45, x46, x47, x48, x49, x50, x51, x52, x53, x54, x55, x56, x57, x58, x59, x60, x61, x62, x63, x64, x65, x66, x67, x68, x69, x70, x71, x72, x73, x74, x75])), (h12, .inl (aC 0, 14, .inl (fun _ => 0)))]) [0, 1] rfl
  have hD9 := hD.sub (ws' := [(h1, .inr (11, [x2, x3, x4, x5, x6, x7, x8, x9, x10, x11, .ref h12, x13, x14, x15, x16, x17, x18, x19, x20, x21, x22, x23, x24, x25, x26, x27, x28, x29, x30, x31, x32, x33, x34, x35, x36, x37, x38, x39, x40, x41, x42, x43, x44, x45, x46, x47, x48, x49, x50, x51, x52, x53, x54, x55, x56, x57, x58, x59, x60, x61, x62, x63, x64, x65, x66, x67, x68, x69, x70, x71, x72, x73, x74, x75])), (h12, .inl (aC 0, 14, .inl (fun _ => 0)))]) [0, 1] (by decide) rfl
  exact rI () hx hb hr hlk rfl hS rfl hP9 hD9 (Nat.le_of_ble_eq_true rfl) (Nat.le_of_ble_eq_true rfl) dX11_cutBy_48

theorem tb1674 : (Jvm.Cond.methodLink "StairGangModel" (461 : Nat) ({ cls := "StairGangModel", name := "cutBy", desc := "(I)I" } : Jvm.MethodName)) ∈ gw := lw_m 1674 (by decide +kernel)
theorem tb1676 : (Jvm.Cond.instanceMethod ({ cls := "StairGangModel", name := "cutBy", desc := "(I)I" } : Jvm.MethodName)) ∈ gw := lw_m 1676 (by decide +kernel)
theorem tb1677 : (Jvm.Cond.code ({ cls := "StairGangModel", name := "cutBy", desc := "(I)I" } : Jvm.MethodName) prog_13_method_66_code (4 : Nat) (Option.some Jvm.ClassFile.FieldType.int)) ∈ gw := lw_m 1677 (by decide +kernel)
theorem tv79 : Cond.selects "StairGangModel" ⟨"StairGangModel", "cutBy", "(I)I"⟩ ⟨"StairGangModel", "cutBy", "(I)I"⟩ ∈ gw := lw_v 79 (by decide +kernel)
theorem dX11_cut_15 : decode cX11_cut 15 = .ok (.ireturn, 1) := by decide +kernel
set_option maxHeartbeats 4000000 in
set_option maxRecDepth 100000 in
theorem m_cut (l : Launch) (g : va_G) (aC : Nat → ClassId) (aM : Nat → Nat) (h1 h11 h56 : Nat) (x2 x3 x4 x5 x6 x7 x8 x9 x10 x12 x13 x14 x15 x16 x17 x18 x19 x20 x21 x22 x23 x24 x25 x26 x27 x28 x29 x30 x31 x32 x33 x34 x35 x36 x37 x38 x39 x40 x41 x42 x43 x44 x45 x46 x47 x48 x49 x50 x51 x52 x53 x54 x55 x57 x58 x59 x60 x61 x62 x63 x64 x65 x66 x67 x68 x69 x70 x71 x72 x73 x74 : Value) : Ct l g aC aM yX11_cut cX11_cut 1 (some .int) 2 [.ref h1] [(h1, .inr (11, [.int 0, x2, x3, x4, x5, x6, x7, x8, x9, x10, .ref h11, x12, x13, x14, x15, x16, x17, x18, x19, x20, x21, x22, x23, x24, x25, x26, x27, x28, x29, x30, x31, x32, x33, x34, x35, x36, x37, x38, x39, x40, x41, x42, x43, x44, x45, x46, x47, x48, x49, x50, x51, x52, x53, x54, x55, .ref h56, x57, x58, x59, x60, x61, x62, x63, x64, x65, x66, x67, x68, x69, x70, x71, x72, x73, x74])), (h11, .inl (aC 0, 14, .inl (fun _ => 0))), (h56, .inl (aC 0, 13, .inl (fun _ => 0)))] (QI g (fun (r : Int32) (_ : Unit) => r = 0) (fun (_ : Unit) => [])) 0 0 := by
  refine Ct.mk (by decide) (Nat.le_of_ble_eq_true rfl) ?_
  intro p e s m below meth c A ls hx hb hml hown hts hr hlk hnm hK hA hM hM2 hP hD hS hl
  have hown : s.vm.findClass RX11 = some m.cls := hown
  have F : Fx p s m _ c cX11_cut 1 RX11 g aC aM A := ⟨hx, hb, hml, hown, hts, hK, hA, hM, hM2⟩
  have hl : lv_has ls 1 [(0, .ref h1)] := hl
  refine lv_aload_n hx hb dX11_cut_0 rfl (lv_at hl 0 rfl) ?_
  refine lv_iconst (v := 0) hx hb dX11_cut_1 (by decide) ?_
  refine xput F hP hD hS 0 rfl rfl inX11 tyX11_ok nmX11 0 (by decide) tb1182 rfl rfl rfl (Nat.le_of_ble_eq_true rfl) dX11_cut_2 (fun H locs hP hD hS => ?_)
  have hP : va_P g vwCl [(h1, .inr (11, [.int 0, x2, x3, x4, x5, x6, x7, x8, x9, x10, .ref h11, x12, x13, x14, x15, x16, x17, x18, x19, x20, x21, x22, x23, x24, x25, x26, x27, x28, x29, x30, x31, x32, x33, x34, x35, x36, x37, x38, x39, x40, x41, x42, x43, x44, x45, x46, x47, x48, x49, x50, x51, x52, x53, x54, x55, .ref h56, x57, x58, x59, x60, x61, x62, x63, x64, x65, x66, x67, x68, x69, x70, x71, x72, x73, x74])), (h11, .inl (aC 0, 14, .inl (fun _ => 0))), (h56, .inl (aC 0, 13, .inl (fun _ => 0)))] H := hP
  have hD : va_D A [(h1, .inr (11, [.int 0, x2, x3, x4, x5, x6, x7, x8, x9, x10, .ref h11, x12, x13, x14, x15, x16, x17, x18, x19, x20, x21, x22, x23, x24, x25, x26, x27, x28, x29, x30, x31, x32, x33, x34, x35, x36, x37, x38, x39, x40, x41, x42, x43, x44, x45, x46, x47, x48, x49, x50, x51, x52, x53, x54, x55, .ref h56, x57, x58, x59, x60, x61, x62, x63, x64, x65, x66, x67, x68, x69, x70, x71, x72, x73, x74])), (h11, .inl (aC 0, 14, .inl (fun _ => 0))), (h56, .inl (aC 0, 13, .inl (fun _ => 0)))] := hD
  refine lv_aload_n hx hb dX11_cut_5 rfl (lv_at hl 0 rfl) ?_
  refine lv_aload_n hx hb dX11_cut_6 rfl (lv_at hl 0 rfl) ?_
  refine xget F hP 0 rfl rfl inX11 55 (by decide) tb1237 rfl dX11_cut_7 ?_
  refine lv_iconst (v := 0) hx hb dX11_cut_10 (by decide) ?_
  refine xilo (v := 0) F hP 2 rfl 0 (by decide +kernel) (by decide +kernel) (by decide) (by decide +kernel) dX11_cut_11 ?_
  refine goI (wr := [(h56, .inl (aC 0, 13, .inl (fun _ => 0)))]) (runV (n := 1) (As := [.int 0]) (rest := []) F hP hD hS (a_X11_cutBy_1 l g aC aM h1 h11 (.int 0) x2 x3 x4 x5 x6 x7 x8 x9 x10 x12 x13 x14 x15 x16 x17 x18 x19 x20 x21 x22 x23 x24 x25 x26 x27 x28 x29 x30 x31 x32 x33 x34 x35 x36 x37 x38 x39 x40 x41 x42 x43 x44 x45 x46 x47 x48 x49 x50 x51 x52 x53 x54 x55 (.ref h56) x57 x58 x59 x60 x61 x62 x63 x64 x65 x66 x67 x68 x69 x70 x71 x72 x73 x74) [0, 1] (by decide) rfl 0 11 rfl rfl rfl tb1677 tb1674 tb1676 tv79 tb17 ⟨by decide, by decide, by decide +kernel⟩ ⟨Nat.le_of_ble_eq_true rfl, Nat.le_of_ble_eq_true rfl⟩ rfl hl.1 rfl (Nat.le_of_ble_eq_true rfl) dX11_cut_12 ⟨Nat.le_of_ble_eq_true rfl, Nat.le_of_ble_eq_true rfl⟩) hP hD hS hA [0, 1] [2] rfl rfl (by decide) (by decide) (fun r_2 w3 H locs hw hP hD hS => ?_)
  have hP : va_P g vwCl [(h56, .inl (aC 0, 13, .inl (fun _ => 0))), (h1, .inr (11, [.int 0, x2, x3, x4, x5, x6, x7, x8, x9, x10, .ref h11, x12, x13, x14, x15, x16, x17, x18, x19, x20, x21, x22, x23, x24, x25, x26, x27, x28, x29, x30, x31, x32, x33, x34, x35, x36, x37, x38, x39, x40, x41, x42, x43, x44, x45, x46, x47, x48, x49, x50, x51, x52, x53, x54, x55, .ref h56, x57, x58, x59, x60, x61, x62, x63, x64, x65, x66, x67, x68, x69, x70, x71, x72, x73, x74])), (h11, .inl (aC 0, 14, .inl (fun _ => 0)))] H := hP
  have hD : va_D A [(h56, .inl (aC 0, 13, .inl (fun _ => 0))), (h1, .inr (11, [.int 0, x2, x3, x4, x5, x6, x7, x8, x9, x10, .ref h11, x12, x13, x14, x15, x16, x17, x18, x19, x20, x21, x22, x23, x24, x25, x26, x27, x28, x29, x30, x31, x32, x33, x34, x35, x36, x37, x38, x39, x40, x41, x42, x43, x44, x45, x46, x47, x48, x49, x50, x51, x52, x53, x54, x55, .ref h56, x57, x58, x59, x60, x61, x62, x63, x64, x65, x66, x67, x68, x69, x70, x71, x72, x73, x74])), (h11, .inl (aC 0, 14, .inl (fun _ => 0)))] := hD
  try dsimp only at hw
  subst hw
  have hP9 := hP.sub (ws' := []) [] rfl
  have hD9 := hD.sub (ws' := []) [] (by decide) rfl
  exact rI () hx hb hr hlk rfl hS rfl hP9 hD9 (Nat.le_of_ble_eq_true rfl) (Nat.le_of_ble_eq_true rfl) dX11_cut_15

theorem dX11_steal_0 : decode cX11_steal 0 = .ok (.aload_n 0, 1) := by decide +kernel
theorem dX11_steal_1 : decode cX11_steal 1 = .ok (.iconst 0, 1) := by decide +kernel
theorem dX11_steal_2 : decode cX11_steal 2 = .ok (.putfield 180, 3) := by decide +kernel
theorem dX11_steal_5 : decode cX11_steal 5 = .ok (.aload_n 0, 1) := by decide +kernel
theorem dX11_steal_6 : decode cX11_steal 6 = .ok (.iload_n 1, 1) := by decide +kernel
theorem dX11_steal_7 : decode cX11_steal 7 = .ok (.invokevirtual 442, 3) := by decide +kernel
theorem dX11_steal_10 : decode cX11_steal 10 = .ok (.ifCond .eq 11, 3) := by decide +kernel
theorem dX11_steal_21 : decode cX11_steal 21 = .ok (.iconst (-1), 1) := by decide +kernel
theorem dX11_steal_22 : decode cX11_steal 22 = .ok (.ireturn, 1) := by decide +kernel
set_option maxHeartbeats 4000000 in
set_option maxRecDepth 100000 in
theorem m_steal (l : Launch) (g : va_G) (aC : Nat → ClassId) (aM : Nat → Nat) (h1 h11 : Nat) (x2 x3 x4 x5 x6 x7 x8 x9 x10 x12 x13 x14 x15 x16 x17 x18 x19 x20 x21 x22 x23 x24 x25 x26 x27 x28 x29 x30 x31 x32 x33 x34 x35 x36 x37 x38 x39 x40 x41 x42 x43 x44 x45 x46 x47 x48 x49 x50 x51 x52 x53 x54 x55 x56 x57 x58 x59 x60 x61 x62 x63 x64 x65 x66 x67 x68 x69 x70 x71 x72 x73 x74 : Value) (n_1 : Int32) : Ct l g aC aM yX11_steal cX11_steal 2 (some .int) 2 [.ref h1, .int n_1] [(h1, .inr (11, [.int 0, x2, x3, x4, x5, x6, x7, x8, x9, x10, .ref h11, x12, x13, x14, x15, x16, x17, x18, x19, x20, x21, x22, x23, x24, x25, x26, x27, x28, x29, x30, x31, x32, x33, x34, x35, x36, x37, x38, x39, x40, x41, x42, x43, x44, x45, x46, x47, x48, x49, x50, x51, x52, x53, x54, x55, x56, x57, x58, x59, x60, x61, x62, x63, x64, x65, x66, x67, x68, x69, x70, x71, x72, x73, x74])), (h11, .inl (aC 0, 14, .inl (fun _ => 0)))] (QI g (fun (r : Int32) (_ : Unit) => r = (-1)) (fun (_ : Unit) => [])) 0 0 := by
  refine Ct.mk (by decide) (Nat.le_of_ble_eq_true rfl) ?_
  intro p e s m below meth c A ls hx hb hml hown hts hr hlk hnm hK hA hM hM2 hP hD hS hl
  have hown : s.vm.findClass RX11 = some m.cls := hown
  have F : Fx p s m _ c cX11_steal 2 RX11 g aC aM A := ⟨hx, hb, hml, hown, hts, hK, hA, hM, hM2⟩
  have hl : lv_has ls 2 [(0, .ref h1), (1, .int n_1)] := hl
  refine lv_aload_n hx hb dX11_steal_0 rfl (lv_at hl 0 rfl) ?_
  refine lv_iconst (v := 0) hx hb dX11_steal_1 (by decide) ?_
  refine xput F hP hD hS 0 rfl rfl inX11 tyX11_ok nmX11 0 (by decide) tb1182 rfl rfl rfl (Nat.le_of_ble_eq_true rfl) dX11_steal_2 (fun H locs hP hD hS => ?_)
  have hP : va_P g vwCl [(h1, .inr (11, [.int 0, x2, x3, x4, x5, x6, x7, x8, x9, x10, .ref h11, x12, x13, x14, x15, x16, x17, x18, x19, x20, x21, x22, x23, x24, x25, x26, x27, x28, x29, x30, x31, x32, x33, x34, x35, x36, x37, x38, x39, x40, x41, x42, x43, x44, x45, x46, x47, x48, x49, x50, x51, x52, x53, x54, x55, x56, x57, x58, x59, x60, x61, x62, x63, x64, x65, x66, x67, x68, x69, x70, x71, x72, x73, x74])), (h11, .inl (aC 0, 14, .inl (fun _ => 0)))] H := hP
  have hD : va_D A [(h1, .inr (11, [.int 0, x2, x3, x4, x5, x6, x7, x8, x9, x10, .ref h11, x12, x13, x14, x15, x16, x17, x18, x19, x20, x21, x22, x23, x24, x25, x26, x27, x28, x29, x30, x31, x32, x33, x34, x35, x36, x37, x38, x39, x40, x41, x42, x43, x44, x45, x46, x47, x48, x49, x50, x51, x52, x53, x54, x55, x56, x57, x58, x59, x60, x61, x62, x63, x64, x65, x66, x67, x68, x69, x70, x71, x72, x73, x74])), (h11, .inl (aC 0, 14, .inl (fun _ => 0)))] := hD
  refine lv_aload_n hx hb dX11_steal_5 rfl (lv_at hl 0 rfl) ?_
  refine lv_iload_n hx hb dX11_steal_6 rfl (lv_at hl 1 rfl) ?_
  refine goI (wr := []) (runV (n := 1) (As := [.int n_1]) (rest := []) F hP hD hS (a_X11_isFlight_1 l g aC aM h1 h11 (.int 0) x2 x3 x4 x5 x6 x7 x8 x9 x10 x12 x13 x14 x15 x16 x17 x18 x19 x20 x21 x22 x23 x24 x25 x26 x27 x28 x29 x30 x31 x32 x33 x34 x35 x36 x37 x38 x39 x40 x41 x42 x43 x44 x45 x46 x47 x48 x49 x50 x51 x52 x53 x54 x55 x56 x57 x58 x59 x60 x61 x62 x63 x64 x65 x66 x67 x68 x69 x70 x71 x72 x73 x74 n_1) [0, 1] (by decide) rfl 0 11 rfl rfl rfl tb1616 tb1613 tb1615 tv69 tb17 ⟨by decide, by decide, by decide +kernel⟩ ⟨Nat.le_of_ble_eq_true rfl, Nat.le_of_ble_eq_true rfl⟩ rfl hl.1 rfl (Nat.le_of_ble_eq_true rfl) dX11_steal_7 ⟨Nat.le_of_ble_eq_true rfl, Nat.le_of_ble_eq_true rfl⟩) hP hD hS hA [0, 1] [] rfl rfl (by decide) (by decide) (fun r_2 w3 H locs hw hP hD hS => ?_)
  have hP : va_P g vwCl [(h1, .inr (11, [.int 0, x2, x3, x4, x5, x6, x7, x8, x9, x10, .ref h11, x12, x13, x14, x15, x16, x17, x18, x19, x20, x21, x22, x23, x24, x25, x26, x27, x28, x29, x30, x31, x32, x33, x34, x35, x36, x37, x38, x39, x40, x41, x42, x43, x44, x45, x46, x47, x48, x49, x50, x51, x52, x53, x54, x55, x56, x57, x58, x59, x60, x61, x62, x63, x64, x65, x66, x67, x68, x69, x70, x71, x72, x73, x74])), (h11, .inl (aC 0, 14, .inl (fun _ => 0)))] H := hP
  have hD : va_D A [(h1, .inr (11, [.int 0, x2, x3, x4, x5, x6, x7, x8, x9, x10, .ref h11, x12, x13, x14, x15, x16, x17, x18, x19, x20, x21, x22, x23, x24, x25, x26, x27, x28, x29, x30, x31, x32, x33, x34, x35, x36, x37, x38, x39, x40, x41, x42, x43, x44, x45, x46, x47, x48, x49, x50, x51, x52, x53, x54, x55, x56, x57, x58, x59, x60, x61, x62, x63, x64, x65, x66, x67, x68, x69, x70, x71, x72, x73, x74])), (h11, .inl (aC 0, 14, .inl (fun _ => 0)))] := hD
  try dsimp only at hw
  subst hw
  refine lv_if_eq (tgt := 21) hx hb dX11_steal_10 (by decide) (fun _ => ?_) (fun c_ => absurd (by decide +kernel) c_)
  refine lv_iconst (v := (-1)) hx hb dX11_steal_21 (by decide) ?_
  have hP9 := hP.sub (ws' := []) [] rfl
  have hD9 := hD.sub (ws' := []) [] (by decide) rfl
  exact rI () hx hb hr hlk rfl hS rfl hP9 hD9 (Nat.le_of_ble_eq_true rfl) (Nat.le_of_ble_eq_true rfl) dX11_steal_22

theorem dX11_build_0 : decode cX11_build 0 = .ok (.aload_n 0, 1) := by decide +kernel
theorem dX11_build_1 : decode cX11_build 1 = .ok (.iconst 0, 1) := by decide +kernel
theorem dX11_build_2 : decode cX11_build 2 = .ok (.putfield 180, 3) := by decide +kernel
theorem dX11_build_5 : decode cX11_build 5 = .ok (.aload_n 0, 1) := by decide +kernel
theorem dX11_build_6 : decode cX11_build 6 = .ok (.iload_n 1, 1) := by decide +kernel
theorem dX11_build_7 : decode cX11_build 7 = .ok (.invokevirtual 442, 3) := by decide +kernel
theorem dX11_build_10 : decode cX11_build 10 = .ok (.ifCond .eq 11, 3) := by decide +kernel
theorem dX11_build_21 : decode cX11_build 21 = .ok (.iconst (-1), 1) := by decide +kernel
theorem dX11_build_22 : decode cX11_build 22 = .ok (.ireturn, 1) := by decide +kernel
set_option maxHeartbeats 4000000 in
set_option maxRecDepth 100000 in
theorem m_build (l : Launch) (g : va_G) (aC : Nat → ClassId) (aM : Nat → Nat) (h1 h11 : Nat) (x2 x3 x4 x5 x6 x7 x8 x9 x10 x12 x13 x14 x15 x16 x17 x18 x19 x20 x21 x22 x23 x24 x25 x26 x27 x28 x29 x30 x31 x32 x33 x34 x35 x36 x37 x38 x39 x40 x41 x42 x43 x44 x45 x46 x47 x48 x49 x50 x51 x52 x53 x54 x55 x56 x57 x58 x59 x60 x61 x62 x63 x64 x65 x66 x67 x68 x69 x70 x71 x72 x73 x74 : Value) (n_1 : Int32) : Ct l g aC aM yX11_build cX11_build 2 (some .int) 2 [.ref h1, .int n_1] [(h1, .inr (11, [.int 0, x2, x3, x4, x5, x6, x7, x8, x9, x10, .ref h11, x12, x13, x14, x15, x16, x17, x18, x19, x20, x21, x22, x23, x24, x25, x26, x27, x28, x29, x30, x31, x32, x33, x34, x35, x36, x37, x38, x39, x40, x41, x42, x43, x44, x45, x46, x47, x48, x49, x50, x51, x52, x53, x54, x55, x56, x57, x58, x59, x60, x61, x62, x63, x64, x65, x66, x67, x68, x69, x70, x71, x72, x73, x74])), (h11, .inl (aC 0, 14, .inl (fun _ => 0)))] (QI g (fun (r : Int32) (_ : Unit) => r = (-1)) (fun (_ : Unit) => [])) 0 0 := by
  refine Ct.mk (by decide) (Nat.le_of_ble_eq_true rfl) ?_
  intro p e s m below meth c A ls hx hb hml hown hts hr hlk hnm hK hA hM hM2 hP hD hS hl
  have hown : s.vm.findClass RX11 = some m.cls := hown
  have F : Fx p s m _ c cX11_build 2 RX11 g aC aM A := ⟨hx, hb, hml, hown, hts, hK, hA, hM, hM2⟩
  have hl : lv_has ls 2 [(0, .ref h1), (1, .int n_1)] := hl
  refine lv_aload_n hx hb dX11_build_0 rfl (lv_at hl 0 rfl) ?_
  refine lv_iconst (v := 0) hx hb dX11_build_1 (by decide) ?_
  refine xput F hP hD hS 0 rfl rfl inX11 tyX11_ok nmX11 0 (by decide) tb1182 rfl rfl rfl (Nat.le_of_ble_eq_true rfl) dX11_build_2 (fun H locs hP hD hS => ?_)
  have hP : va_P g vwCl [(h1, .inr (11, [.int 0, x2, x3, x4, x5, x6, x7, x8, x9, x10, .ref h11, x12, x13, x14, x15, x16, x17, x18, x19, x20, x21, x22, x23, x24, x25, x26, x27, x28, x29, x30, x31, x32, x33, x34, x35, x36, x37, x38, x39, x40, x41, x42, x43, x44, x45, x46, x47, x48, x49, x50, x51, x52, x53, x54, x55, x56, x57, x58, x59, x60, x61, x62, x63, x64, x65, x66, x67, x68, x69, x70, x71, x72, x73, x74])), (h11, .inl (aC 0, 14, .inl (fun _ => 0)))] H := hP
  have hD : va_D A [(h1, .inr (11, [.int 0, x2, x3, x4, x5, x6, x7, x8, x9, x10, .ref h11, x12, x13, x14, x15, x16, x17, x18, x19, x20, x21, x22, x23, x24, x25, x26, x27, x28, x29, x30, x31, x32, x33, x34, x35, x36, x37, x38, x39, x40, x41, x42, x43, x44, x45, x46, x47, x48, x49, x50, x51, x52, x53, x54, x55, x56, x57, x58, x59, x60, x61, x62, x63, x64, x65, x66, x67, x68, x69, x70, x71, x72, x73, x74])), (h11, .inl (aC 0, 14, .inl (fun _ => 0)))] := hD
  refine lv_aload_n hx hb dX11_build_5 rfl (lv_at hl 0 rfl) ?_
  refine lv_iload_n hx hb dX11_build_6 rfl (lv_at hl 1 rfl) ?_
  refine goI (wr := []) (runV (n := 1) (As := [.int n_1]) (rest := []) F hP hD hS (a_X11_isFlight_1 l g aC aM h1 h11 (.int 0) x2 x3 x4 x5 x6 x7 x8 x9 x10 x12 x13 x14 x15 x16 x17 x18 x19 x20 x21 x22 x23 x24 x25 x26 x27 x28 x29 x30 x31 x32 x33 x34 x35 x36 x37 x38 x39 x40 x41 x42 x43 x44 x45 x46 x47 x48 x49 x50 x51 x52 x53 x54 x55 x56 x57 x58 x59 x60 x61 x62 x63 x64 x65 x66 x67 x68 x69 x70 x71 x72 x73 x74 n_1) [0, 1] (by decide) rfl 0 11 rfl rfl rfl tb1616 tb1613 tb1615 tv69 tb17 ⟨by decide, by decide, by decide +kernel⟩ ⟨Nat.le_of_ble_eq_true rfl, Nat.le_of_ble_eq_true rfl⟩ rfl hl.1 rfl (Nat.le_of_ble_eq_true rfl) dX11_build_7 ⟨Nat.le_of_ble_eq_true rfl, Nat.le_of_ble_eq_true rfl⟩) hP hD hS hA [0, 1] [] rfl rfl (by decide) (by decide) (fun r_2 w3 H locs hw hP hD hS => ?_)
  have hP : va_P g vwCl [(h1, .inr (11, [.int 0, x2, x3, x4, x5, x6, x7, x8, x9, x10, .ref h11, x12, x13, x14, x15, x16, x17, x18, x19, x20, x21, x22, x23, x24, x25, x26, x27, x28, x29, x30, x31, x32, x33, x34, x35, x36, x37, x38, x39, x40, x41, x42, x43, x44, x45, x46, x47, x48, x49, x50, x51, x52, x53, x54, x55, x56, x57, x58, x59, x60, x61, x62, x63, x64, x65, x66, x67, x68, x69, x70, x71, x72, x73, x74])), (h11, .inl (aC 0, 14, .inl (fun _ => 0)))] H := hP
  have hD : va_D A [(h1, .inr (11, [.int 0, x2, x3, x4, x5, x6, x7, x8, x9, x10, .ref h11, x12, x13, x14, x15, x16, x17, x18, x19, x20, x21, x22, x23, x24, x25, x26, x27, x28, x29, x30, x31, x32, x33, x34, x35, x36, x37, x38, x39, x40, x41, x42, x43, x44, x45, x46, x47, x48, x49, x50, x51, x52, x53, x54, x55, x56, x57, x58, x59, x60, x61, x62, x63, x64, x65, x66, x67, x68, x69, x70, x71, x72, x73, x74])), (h11, .inl (aC 0, 14, .inl (fun _ => 0)))] := hD
  try dsimp only at hw
  subst hw
  refine lv_if_eq (tgt := 21) hx hb dX11_build_10 (by decide) (fun _ => ?_) (fun c_ => absurd (by decide +kernel) c_)
  refine lv_iconst (v := (-1)) hx hb dX11_build_21 (by decide) ?_
  have hP9 := hP.sub (ws' := []) [] rfl
  have hD9 := hD.sub (ws' := []) [] (by decide) rfl
  exact rI () hx hb hr hlk rfl hS rfl hP9 hD9 (Nat.le_of_ble_eq_true rfl) (Nat.le_of_ble_eq_true rfl) dX11_build_22

theorem dX11_go_0 : decode cX11_go 0 = .ok (.aload_n 0, 1) := by decide +kernel
theorem dX11_go_1 : decode cX11_go 1 = .ok (.iconst 0, 1) := by decide +kernel
theorem dX11_go_2 : decode cX11_go 2 = .ok (.putfield 180, 3) := by decide +kernel
theorem dX11_go_5 : decode cX11_go 5 = .ok (.aload_n 0, 1) := by decide +kernel
theorem dX11_go_6 : decode cX11_go 6 = .ok (.iload_n 1, 1) := by decide +kernel
theorem dX11_go_7 : decode cX11_go 7 = .ok (.invokevirtual 445, 3) := by decide +kernel
theorem dX11_go_10 : decode cX11_go 10 = .ok (.ifCond .eq 20, 3) := by decide +kernel
theorem dX11_go_30 : decode cX11_go 30 = .ok (.iconst 0, 1) := by decide +kernel
theorem dX11_go_31 : decode cX11_go 31 = .ok (.ireturn, 1) := by decide +kernel
set_option maxHeartbeats 4000000 in
set_option maxRecDepth 100000 in
theorem m_go (l : Launch) (g : va_G) (aC : Nat → ClassId) (aM : Nat → Nat) (h1 h11 : Nat) (x2 x3 x4 x5 x6 x7 x8 x9 x10 x12 x13 x14 x15 x16 x17 x18 x19 x20 x21 x22 x23 x24 x25 x26 x27 x28 x29 x30 x31 x32 x33 x34 x35 x36 x37 x38 x39 x40 x41 x42 x43 x44 x45 x46 x47 x48 x49 x50 x51 x52 x53 x54 x55 x56 x57 x58 x59 x60 x61 x62 x63 x64 x65 x66 x67 x68 x69 x70 x71 x72 x73 x74 : Value) (n_1 n_2 : Int32) : Ct l g aC aM yX11_go cX11_go 3 (some .boolean) 2 [.ref h1, .int n_1, .int n_2] [(h1, .inr (11, [.int 0, x2, x3, x4, x5, x6, x7, x8, x9, x10, .ref h11, x12, x13, x14, x15, x16, x17, x18, x19, x20, x21, x22, x23, x24, x25, x26, x27, x28, x29, x30, x31, x32, x33, x34, x35, x36, x37, x38, x39, x40, x41, x42, x43, x44, x45, x46, x47, x48, x49, x50, x51, x52, x53, x54, x55, x56, x57, x58, x59, x60, x61, x62, x63, x64, x65, x66, x67, x68, x69, x70, x71, x72, x73, x74])), (h11, .inl (aC 0, 14, .inl (fun _ => 0)))] (QI g (fun (r : Int32) (_ : Unit) => r = 0) (fun (_ : Unit) => [])) 0 0 := by
  refine Ct.mk (by decide) (Nat.le_of_ble_eq_true rfl) ?_
  intro p e s m below meth c A ls hx hb hml hown hts hr hlk hnm hK hA hM hM2 hP hD hS hl
  have hown : s.vm.findClass RX11 = some m.cls := hown
  have F : Fx p s m _ c cX11_go 3 RX11 g aC aM A := ⟨hx, hb, hml, hown, hts, hK, hA, hM, hM2⟩
  have hl : lv_has ls 3 [(0, .ref h1), (1, .int n_1), (2, .int n_2)] := hl
  refine lv_aload_n hx hb dX11_go_0 rfl (lv_at hl 0 rfl) ?_
  refine lv_iconst (v := 0) hx hb dX11_go_1 (by decide) ?_
  refine xput F hP hD hS 0 rfl rfl inX11 tyX11_ok nmX11 0 (by decide) tb1182 rfl rfl rfl (Nat.le_of_ble_eq_true rfl) dX11_go_2 (fun H locs hP hD hS => ?_)
  have hP : va_P g vwCl [(h1, .inr (11, [.int 0, x2, x3, x4, x5, x6, x7, x8, x9, x10, .ref h11, x12, x13, x14, x15, x16, x17, x18, x19, x20, x21, x22, x23, x24, x25, x26, x27, x28, x29, x30, x31, x32, x33, x34, x35, x36, x37, x38, x39, x40, x41, x42, x43, x44, x45, x46, x47, x48, x49, x50, x51, x52, x53, x54, x55, x56, x57, x58, x59, x60, x61, x62, x63, x64, x65, x66, x67, x68, x69, x70, x71, x72, x73, x74])), (h11, .inl (aC 0, 14, .inl (fun _ => 0)))] H := hP
  have hD : va_D A [(h1, .inr (11, [.int 0, x2, x3, x4, x5, x6, x7, x8, x9, x10, .ref h11, x12, x13, x14, x15, x16, x17, x18, x19, x20, x21, x22, x23, x24, x25, x26, x27, x28, x29, x30, x31, x32, x33, x34, x35, x36, x37, x38, x39, x40, x41, x42, x43, x44, x45, x46, x47, x48, x49, x50, x51, x52, x53, x54, x55, x56, x57, x58, x59, x60, x61, x62, x63, x64, x65, x66, x67, x68, x69, x70, x71, x72, x73, x74])), (h11, .inl (aC 0, 14, .inl (fun _ => 0)))] := hD
  refine lv_aload_n hx hb dX11_go_5 rfl (lv_at hl 0 rfl) ?_
  refine lv_iload_n hx hb dX11_go_6 rfl (lv_at hl 1 rfl) ?_
  refine goI (wr := []) (runV (n := 1) (As := [.int n_1]) (rest := []) F hP hD hS (a_X11_isPerson_1 l g aC aM h1 h11 (.int 0) x2 x3 x4 x5 x6 x7 x8 x9 x10 x12 x13 x14 x15 x16 x17 x18 x19 x20 x21 x22 x23 x24 x25 x26 x27 x28 x29 x30 x31 x32 x33 x34 x35 x36 x37 x38 x39 x40 x41 x42 x43 x44 x45 x46 x47 x48 x49 x50 x51 x52 x53 x54 x55 x56 x57 x58 x59 x60 x61 x62 x63 x64 x65 x66 x67 x68 x69 x70 x71 x72 x73 x74 n_1) [0, 1] (by decide) rfl 0 11 rfl rfl rfl tb1624 tb1621 tb1623 tv70 tb17 ⟨by decide, by decide, by decide +kernel⟩ ⟨Nat.le_of_ble_eq_true rfl, Nat.le_of_ble_eq_true rfl⟩ rfl hl.1 rfl (Nat.le_of_ble_eq_true rfl) dX11_go_7 ⟨Nat.le_of_ble_eq_true rfl, Nat.le_of_ble_eq_true rfl⟩) hP hD hS hA [0, 1] [] rfl rfl (by decide) (by decide) (fun r_2 w3 H locs hw hP hD hS => ?_)
  have hP : va_P g vwCl [(h1, .inr (11, [.int 0, x2, x3, x4, x5, x6, x7, x8, x9, x10, .ref h11, x12, x13, x14, x15, x16, x17, x18, x19, x20, x21, x22, x23, x24, x25, x26, x27, x28, x29, x30, x31, x32, x33, x34, x35, x36, x37, x38, x39, x40, x41, x42, x43, x44, x45, x46, x47, x48, x49, x50, x51, x52, x53, x54, x55, x56, x57, x58, x59, x60, x61, x62, x63, x64, x65, x66, x67, x68, x69, x70, x71, x72, x73, x74])), (h11, .inl (aC 0, 14, .inl (fun _ => 0)))] H := hP
  have hD : va_D A [(h1, .inr (11, [.int 0, x2, x3, x4, x5, x6, x7, x8, x9, x10, .ref h11, x12, x13, x14, x15, x16, x17, x18, x19, x20, x21, x22, x23, x24, x25, x26, x27, x28, x29, x30, x31, x32, x33, x34, x35, x36, x37, x38, x39, x40, x41, x42, x43, x44, x45, x46, x47, x48, x49, x50, x51, x52, x53, x54, x55, x56, x57, x58, x59, x60, x61, x62, x63, x64, x65, x66, x67, x68, x69, x70, x71, x72, x73, x74])), (h11, .inl (aC 0, 14, .inl (fun _ => 0)))] := hD
  try dsimp only at hw
  subst hw
  refine lv_if_eq (tgt := 30) hx hb dX11_go_10 (by decide) (fun _ => ?_) (fun c_ => absurd (by decide +kernel) c_)
  refine lv_iconst (v := 0) hx hb dX11_go_30 (by decide) ?_
  have hP9 := hP.sub (ws' := []) [] rfl
  have hD9 := hD.sub (ws' := []) [] (by decide) rfl
  exact rI () hx hb hr hlk rfl hS rfl hP9 hD9 (Nat.le_of_ble_eq_true rfl) (Nat.le_of_ble_eq_true rfl) dX11_go_31

theorem dX11_carry_0 : decode cX11_carry 0 = .ok (.aload_n 0, 1) := by decide +kernel
theorem dX11_carry_1 : decode cX11_carry 1 = .ok (.iconst 0, 1) := by decide +kernel
theorem dX11_carry_2 : decode cX11_carry 2 = .ok (.putfield 180, 3) := by decide +kernel
theorem dX11_carry_5 : decode cX11_carry 5 = .ok (.aload_n 0, 1) := by decide +kernel
theorem dX11_carry_6 : decode cX11_carry 6 = .ok (.iload_n 1, 1) := by decide +kernel
theorem dX11_carry_7 : decode cX11_carry 7 = .ok (.invokevirtual 445, 3) := by decide +kernel
theorem dX11_carry_10 : decode cX11_carry 10 = .ok (.ifCond .eq 29, 3) := by decide +kernel
theorem dX11_carry_39 : decode cX11_carry 39 = .ok (.iconst 0, 1) := by decide +kernel
theorem dX11_carry_40 : decode cX11_carry 40 = .ok (.ireturn, 1) := by decide +kernel
set_option maxHeartbeats 4000000 in
set_option maxRecDepth 100000 in
theorem m_carry (l : Launch) (g : va_G) (aC : Nat → ClassId) (aM : Nat → Nat) (h1 h11 : Nat) (x2 x3 x4 x5 x6 x7 x8 x9 x10 x12 x13 x14 x15 x16 x17 x18 x19 x20 x21 x22 x23 x24 x25 x26 x27 x28 x29 x30 x31 x32 x33 x34 x35 x36 x37 x38 x39 x40 x41 x42 x43 x44 x45 x46 x47 x48 x49 x50 x51 x52 x53 x54 x55 x56 x57 x58 x59 x60 x61 x62 x63 x64 x65 x66 x67 x68 x69 x70 x71 x72 x73 x74 : Value) (n_1 n_2 n_3 : Int32) : Ct l g aC aM yX11_carry cX11_carry 4 (some .boolean) 2 [.ref h1, .int n_1, .int n_2, .int n_3] [(h1, .inr (11, [.int 0, x2, x3, x4, x5, x6, x7, x8, x9, x10, .ref h11, x12, x13, x14, x15, x16, x17, x18, x19, x20, x21, x22, x23, x24, x25, x26, x27, x28, x29, x30, x31, x32, x33, x34, x35, x36, x37, x38, x39, x40, x41, x42, x43, x44, x45, x46, x47, x48, x49, x50, x51, x52, x53, x54, x55, x56, x57, x58, x59, x60, x61, x62, x63, x64, x65, x66, x67, x68, x69, x70, x71, x72, x73, x74])), (h11, .inl (aC 0, 14, .inl (fun _ => 0)))] (QI g (fun (r : Int32) (_ : Unit) => r = 0) (fun (_ : Unit) => [])) 0 0 := by
  refine Ct.mk (by decide) (Nat.le_of_ble_eq_true rfl) ?_
  intro p e s m below meth c A ls hx hb hml hown hts hr hlk hnm hK hA hM hM2 hP hD hS hl
  have hown : s.vm.findClass RX11 = some m.cls := hown
  have F : Fx p s m _ c cX11_carry 4 RX11 g aC aM A := ⟨hx, hb, hml, hown, hts, hK, hA, hM, hM2⟩
  have hl : lv_has ls 4 [(0, .ref h1), (1, .int n_1), (2, .int n_2), (3, .int n_3)] := hl
  refine lv_aload_n hx hb dX11_carry_0 rfl (lv_at hl 0 rfl) ?_
  refine lv_iconst (v := 0) hx hb dX11_carry_1 (by decide) ?_
  refine xput F hP hD hS 0 rfl rfl inX11 tyX11_ok nmX11 0 (by decide) tb1182 rfl rfl rfl (Nat.le_of_ble_eq_true rfl) dX11_carry_2 (fun H locs hP hD hS => ?_)
  have hP : va_P g vwCl [(h1, .inr (11, [.int 0, x2, x3, x4, x5, x6, x7, x8, x9, x10, .ref h11, x12, x13, x14, x15, x16, x17, x18, x19, x20, x21, x22, x23, x24, x25, x26, x27, x28, x29, x30, x31, x32, x33, x34, x35, x36, x37, x38, x39, x40, x41, x42, x43, x44, x45, x46, x47, x48, x49, x50, x51, x52, x53, x54, x55, x56, x57, x58, x59, x60, x61, x62, x63, x64, x65, x66, x67, x68, x69, x70, x71, x72, x73, x74])), (h11, .inl (aC 0, 14, .inl (fun _ => 0)))] H := hP
  have hD : va_D A [(h1, .inr (11, [.int 0, x2, x3, x4, x5, x6, x7, x8, x9, x10, .ref h11, x12, x13, x14, x15, x16, x17, x18, x19, x20, x21, x22, x23, x24, x25, x26, x27, x28, x29, x30, x31, x32, x33, x34, x35, x36, x37, x38, x39, x40, x41, x42, x43, x44, x45, x46, x47, x48, x49, x50, x51, x52, x53, x54, x55, x56, x57, x58, x59, x60, x61, x62, x63, x64, x65, x66, x67, x68, x69, x70, x71, x72, x73, x74])), (h11, .inl (aC 0, 14, .inl (fun _ => 0)))] := hD
  refine lv_aload_n hx hb dX11_carry_5 rfl (lv_at hl 0 rfl) ?_
  refine lv_iload_n hx hb dX11_carry_6 rfl (lv_at hl 1 rfl) ?_
  refine goI (wr := []) (runV (n := 1) (As := [.int n_1]) (rest := []) F hP hD hS (a_X11_isPerson_1 l g aC aM h1 h11 (.int 0) x2 x3 x4 x5 x6 x7 x8 x9 x10 x12 x13 x14 x15 x16 x17 x18 x19 x20 x21 x22 x23 x24 x25 x26 x27 x28 x29 x30 x31 x32 x33 x34 x35 x36 x37 x38 x39 x40 x41 x42 x43 x44 x45 x46 x47 x48 x49 x50 x51 x52 x53 x54 x55 x56 x57 x58 x59 x60 x61 x62 x63 x64 x65 x66 x67 x68 x69 x70 x71 x72 x73 x74 n_1) [0, 1] (by decide) rfl 0 11 rfl rfl rfl tb1624 tb1621 tb1623 tv70 tb17 ⟨by decide, by decide, by decide +kernel⟩ ⟨Nat.le_of_ble_eq_true rfl, Nat.le_of_ble_eq_true rfl⟩ rfl hl.1 rfl (Nat.le_of_ble_eq_true rfl) dX11_carry_7 ⟨Nat.le_of_ble_eq_true rfl, Nat.le_of_ble_eq_true rfl⟩) hP hD hS hA [0, 1] [] rfl rfl (by decide) (by decide) (fun r_2 w3 H locs hw hP hD hS => ?_)
  have hP : va_P g vwCl [(h1, .inr (11, [.int 0, x2, x3, x4, x5, x6, x7, x8, x9, x10, .ref h11, x12, x13, x14, x15, x16, x17, x18, x19, x20, x21, x22, x23, x24, x25, x26, x27, x28, x29, x30, x31, x32, x33, x34, x35, x36, x37, x38, x39, x40, x41, x42, x43, x44, x45, x46, x47, x48, x49, x50, x51, x52, x53, x54, x55, x56, x57, x58, x59, x60, x61, x62, x63, x64, x65, x66, x67, x68, x69, x70, x71, x72, x73, x74])), (h11, .inl (aC 0, 14, .inl (fun _ => 0)))] H := hP
  have hD : va_D A [(h1, .inr (11, [.int 0, x2, x3, x4, x5, x6, x7, x8, x9, x10, .ref h11, x12, x13, x14, x15, x16, x17, x18, x19, x20, x21, x22, x23, x24, x25, x26, x27, x28, x29, x30, x31, x32, x33, x34, x35, x36, x37, x38, x39, x40, x41, x42, x43, x44, x45, x46, x47, x48, x49, x50, x51, x52, x53, x54, x55, x56, x57, x58, x59, x60, x61, x62, x63, x64, x65, x66, x67, x68, x69, x70, x71, x72, x73, x74])), (h11, .inl (aC 0, 14, .inl (fun _ => 0)))] := hD
  try dsimp only at hw
  subst hw
  refine lv_if_eq (tgt := 39) hx hb dX11_carry_10 (by decide) (fun _ => ?_) (fun c_ => absurd (by decide +kernel) c_)
  refine lv_iconst (v := 0) hx hb dX11_carry_39 (by decide) ?_
  have hP9 := hP.sub (ws' := []) [] rfl
  have hD9 := hD.sub (ws' := []) [] (by decide) rfl
  exact rI () hx hb hr hlk rfl hS rfl hP9 hD9 (Nat.le_of_ble_eq_true rfl) (Nat.le_of_ble_eq_true rfl) dX11_carry_40

theorem tb1242 : (Jvm.Cond.fieldLink "StairGangModel" (416 : Nat) "StairGangModel" "done" "I") ∈ gw := lw_m 1242 (by decide +kernel)
theorem dX11_copies_0 : decode cX11_copies 0 = .ok (.iconst 0, 1) := by decide +kernel
theorem dX11_copies_1 : decode cX11_copies 1 = .ok (.istore 4, 2) := by decide +kernel
theorem dX11_copies_3 : decode cX11_copies 3 = .ok (.iload 4, 2) := by decide +kernel
theorem dX11_copies_5 : decode cX11_copies 5 = .ok (.bipush 13, 2) := by decide +kernel
theorem dX11_copies_7 : decode cX11_copies 7 = .ok (.if_icmp .ge 21, 3) := by decide +kernel
theorem dX11_copies_10 : decode cX11_copies 10 = .ok (.aload_n 2, 1) := by decide +kernel
theorem dX11_copies_11 : decode cX11_copies 11 = .ok (.iload_n 3, 1) := by decide +kernel
theorem dX11_copies_12 : decode cX11_copies 12 = .ok (.iload 4, 2) := by decide +kernel
theorem dX11_copies_14 : decode cX11_copies 14 = .ok (.iadd, 1) := by decide +kernel
theorem dX11_copies_15 : decode cX11_copies 15 = .ok (.aload_n 0, 1) := by decide +kernel
theorem dX11_copies_16 : decode cX11_copies 16 = .ok (.iload_n 1, 1) := by decide +kernel
theorem dX11_copies_17 : decode cX11_copies 17 = .ok (.iload 4, 2) := by decide +kernel
theorem dX11_copies_19 : decode cX11_copies 19 = .ok (.iadd, 1) := by decide +kernel
theorem dX11_copies_20 : decode cX11_copies 20 = .ok (.iaload, 1) := by decide +kernel
theorem dX11_copies_21 : decode cX11_copies 21 = .ok (.iastore, 1) := by decide +kernel
theorem dX11_copies_22 : decode cX11_copies 22 = .ok (.iinc 4 1, 3) := by decide +kernel
theorem dX11_copies_25 : decode cX11_copies 25 = .ok (.goto (-22), 3) := by decide +kernel
theorem dX11_copies_28 : decode cX11_copies 28 = .ok (.return_, 1) := by decide +kernel
theorem dX11_keeps_0 : decode cX11_keeps 0 = .ok (.aload_n 0, 1) := by decide +kernel
theorem dX11_keeps_1 : decode cX11_keeps 1 = .ok (.getfield 416, 3) := by decide +kernel
theorem dX11_keeps_4 : decode cX11_keeps 4 = .ok (.bipush 16, 2) := by decide +kernel
theorem dX11_keeps_6 : decode cX11_keeps 6 = .ok (.if_icmp .ne 43, 3) := by decide +kernel
theorem dX11_keeps_49 : decode cX11_keeps 49 = .ok (.aload_n 0, 1) := by decide +kernel
theorem dX11_keeps_50 : decode cX11_keeps 50 = .ok (.getfield 141, 3) := by decide +kernel
theorem dX11_keeps_53 : decode cX11_keeps 53 = .ok (.iconst 0, 1) := by decide +kernel
theorem dX11_keeps_54 : decode cX11_keeps 54 = .ok (.aload_n 0, 1) := by decide +kernel
theorem dX11_keeps_55 : decode cX11_keeps 55 = .ok (.getfield 150, 3) := by decide +kernel
theorem dX11_keeps_58 : decode cX11_keeps 58 = .ok (.bipush 13, 2) := by decide +kernel
theorem dX11_keeps_60 : decode cX11_keeps 60 = .ok (.aload_n 0, 1) := by decide +kernel
theorem dX11_keeps_61 : decode cX11_keeps 61 = .ok (.getfield 416, 3) := by decide +kernel
theorem dX11_keeps_64 : decode cX11_keeps 64 = .ok (.imul, 1) := by decide +kernel
theorem dX11_keeps_65 : decode cX11_keeps 65 = .ok (.invokestatic 464, 3) := by decide +kernel
theorem dX11_night_0 : decode cX11_night 0 = .ok (.aload_n 0, 1) := by decide +kernel
theorem dX11_night_1 : decode cX11_night 1 = .ok (.iconst 0, 1) := by decide +kernel
theorem dX11_night_2 : decode cX11_night 2 = .ok (.putfield 180, 3) := by decide +kernel
theorem dX11_night_5 : decode cX11_night 5 = .ok (.aload_n 0, 1) := by decide +kernel
theorem dX11_night_6 : decode cX11_night 6 = .ok (.invokevirtual 486, 3) := by decide +kernel
set_option maxHeartbeats 4000000 in
set_option maxRecDepth 100000 in
theorem a_X11_copies_1 (l : Launch) (g : va_G) (aC : Nat → ClassId) (aM : Nat → Nat) (h1 h2 : Nat) : Ct l g aC aM yX11_copies cX11_copies 5 none 1 [.ref h1, .int 0, .ref h2, .int 0] [(h1, .inl (aC 0, 13, .inl (fun _ => 0))), (h2, .inl (aC 0, 208, .inl (fun _ => 0)))] (QV g (fun (_ : Unit) => True) (fun (_ : Unit) => [(h1, .inl (aC 0, 13, .inl (fun _ => 0))), (h2, .inl (aC 0, 208, .inl (fun _ => 0)))])) 0 0 := by
  refine Ct.mk (by decide) (Nat.le_of_ble_eq_true rfl) ?_
  intro p e s m below meth c A ls hx hb hml hown hts hr hlk hnm hK hA hM hM2 hP hD hS hl
  have hown : s.vm.findClass RX11 = some m.cls := hown
  have F : Fx p s m _ c cX11_copies 5 RX11 g aC aM A := ⟨hx, hb, hml, hown, hts, hK, hA, hM, hM2⟩
  have hl : lv_has ls 5 [(0, .ref h1), (1, .int 0), (2, .ref h2), (3, .int 0)] := hl
  refine lv_iconst (v := 0) hx hb dX11_copies_0 (by decide) ?_
  refine lv_istore (lv' := [(4, .int 0), (0, .ref h1), (1, .int 0), (2, .ref h2), (3, .int 0)]) hx hb dX11_copies_1 hl (by decide) rfl (fun ls hl => ?_)
  refine lv_iload hx hb dX11_copies_3 (lv_at hl 0 rfl) ?_
  refine lv_bipush (v := 13) hx hb dX11_copies_5 (by decide) ?_
  refine lv_icmp_ge (tgt := 28) hx hb dX11_copies_7 (by decide) (fun c_ => absurd c_ (by decide +kernel)) (fun _ => ?_)
  refine lv_aload_n hx hb dX11_copies_10 rfl (lv_at hl 3 rfl) ?_
  refine lv_iload_n hx hb dX11_copies_11 rfl (lv_at hl 4 rfl) ?_
  refine lv_iload hx hb dX11_copies_12 (lv_at hl 0 rfl) ?_
  refine lv_iadd hx hb dX11_copies_14 ?_
  refine relit (v := 0) (by decide +kernel) ?_
  refine lv_aload_n hx hb dX11_copies_15 rfl (lv_at hl 1 rfl) ?_
  refine lv_iload_n hx hb dX11_copies_16 rfl (lv_at hl 2 rfl) ?_
  refine lv_iload hx hb dX11_copies_17 (lv_at hl 0 rfl) ?_
  refine lv_iadd hx hb dX11_copies_19 ?_
  refine relit (v := 0) (by decide +kernel) ?_
  refine xilo (v := 0) F hP 0 rfl 0 (by decide +kernel) (by decide +kernel) (by decide) (by decide +kernel) dX11_copies_20 ?_
  refine xist (f' := fun _ => 0) F hP hD hS 1 rfl 0 (by decide +kernel) (by decide +kernel) (by decide) (xup0 _) dX11_copies_21 (fun H locs hP hD hS => ?_)
  have hP : va_P g vwCl [(h1, .inl (aC 0, 13, .inl (fun _ => 0))), (h2, .inl (aC 0, 208, .inl (fun _ => 0)))] H := hP
  have hD : va_D A [(h1, .inl (aC 0, 13, .inl (fun _ => 0))), (h2, .inl (aC 0, 208, .inl (fun _ => 0)))] := hD
  refine lv_iinc (v := 1) (lv' := [(4, .int 1), (0, .ref h1), (1, .int 0), (2, .ref h2), (3, .int 0)]) hx hb dX11_copies_22 hl (k := 0) rfl (by decide +kernel) (by decide) rfl (fun ls hl => ?_)
  refine lv_goto (tgt := 3) hx hb dX11_copies_25 (by decide) ?_
  refine lv_iload hx hb dX11_copies_3 (lv_at hl 0 rfl) ?_
  refine lv_bipush (v := 13) hx hb dX11_copies_5 (by decide) ?_
  refine lv_icmp_ge (tgt := 28) hx hb dX11_copies_7 (by decide) (fun c_ => absurd c_ (by decide +kernel)) (fun _ => ?_)
  refine lv_aload_n hx hb dX11_copies_10 rfl (lv_at hl 3 rfl) ?_
  refine lv_iload_n hx hb dX11_copies_11 rfl (lv_at hl 4 rfl) ?_
  refine lv_iload hx hb dX11_copies_12 (lv_at hl 0 rfl) ?_
  refine lv_iadd hx hb dX11_copies_14 ?_
  refine relit (v := 1) (by decide +kernel) ?_
  refine lv_aload_n hx hb dX11_copies_15 rfl (lv_at hl 1 rfl) ?_
  refine lv_iload_n hx hb dX11_copies_16 rfl (lv_at hl 2 rfl) ?_
  refine lv_iload hx hb dX11_copies_17 (lv_at hl 0 rfl) ?_
  refine lv_iadd hx hb dX11_copies_19 ?_
  refine relit (v := 1) (by decide +kernel) ?_
  refine xilo (v := 0) F hP 0 rfl 1 (by decide +kernel) (by decide +kernel) (by decide) (by decide +kernel) dX11_copies_20 ?_
  refine xist (f' := fun _ => 0) F hP hD hS 1 rfl 1 (by decide +kernel) (by decide +kernel) (by decide) (xup0 _) dX11_copies_21 (fun H locs hP hD hS => ?_)
  have hP : va_P g vwCl [(h1, .inl (aC 0, 13, .inl (fun _ => 0))), (h2, .inl (aC 0, 208, .inl (fun _ => 0)))] H := hP
  have hD : va_D A [(h1, .inl (aC 0, 13, .inl (fun _ => 0))), (h2, .inl (aC 0, 208, .inl (fun _ => 0)))] := hD
  refine lv_iinc (v := 2) (lv' := [(4, .int 2), (0, .ref h1), (1, .int 0), (2, .ref h2), (3, .int 0)]) hx hb dX11_copies_22 hl (k := 0) rfl (by decide +kernel) (by decide) rfl (fun ls hl => ?_)
  refine lv_goto (tgt := 3) hx hb dX11_copies_25 (by decide) ?_
  refine lv_iload hx hb dX11_copies_3 (lv_at hl 0 rfl) ?_
  refine lv_bipush (v := 13) hx hb dX11_copies_5 (by decide) ?_
  refine lv_icmp_ge (tgt := 28) hx hb dX11_copies_7 (by decide) (fun c_ => absurd c_ (by decide +kernel)) (fun _ => ?_)
  refine lv_aload_n hx hb dX11_copies_10 rfl (lv_at hl 3 rfl) ?_
  refine lv_iload_n hx hb dX11_copies_11 rfl (lv_at hl 4 rfl) ?_
  refine lv_iload hx hb dX11_copies_12 (lv_at hl 0 rfl) ?_
  refine lv_iadd hx hb dX11_copies_14 ?_
  refine relit (v := 2) (by decide +kernel) ?_
  refine lv_aload_n hx hb dX11_copies_15 rfl (lv_at hl 1 rfl) ?_
  refine lv_iload_n hx hb dX11_copies_16 rfl (lv_at hl 2 rfl) ?_
  refine lv_iload hx hb dX11_copies_17 (lv_at hl 0 rfl) ?_
  refine lv_iadd hx hb dX11_copies_19 ?_
  refine relit (v := 2) (by decide +kernel) ?_
  refine xilo (v := 0) F hP 0 rfl 2 (by decide +kernel) (by decide +kernel) (by decide) (by decide +kernel) dX11_copies_20 ?_
  refine xist (f' := fun _ => 0) F hP hD hS 1 rfl 2 (by decide +kernel) (by decide +kernel) (by decide) (xup0 _) dX11_copies_21 (fun H locs hP hD hS => ?_)
  have hP : va_P g vwCl [(h1, .inl (aC 0, 13, .inl (fun _ => 0))), (h2, .inl (aC 0, 208, .inl (fun _ => 0)))] H := hP
  have hD : va_D A [(h1, .inl (aC 0, 13, .inl (fun _ => 0))), (h2, .inl (aC 0, 208, .inl (fun _ => 0)))] := hD
  refine lv_iinc (v := 3) (lv' := [(4, .int 3), (0, .ref h1), (1, .int 0), (2, .ref h2), (3, .int 0)]) hx hb dX11_copies_22 hl (k := 0) rfl (by decide +kernel) (by decide) rfl (fun ls hl => ?_)
  refine lv_goto (tgt := 3) hx hb dX11_copies_25 (by decide) ?_
  refine lv_iload hx hb dX11_copies_3 (lv_at hl 0 rfl) ?_
  refine lv_bipush (v := 13) hx hb dX11_copies_5 (by decide) ?_
  refine lv_icmp_ge (tgt := 28) hx hb dX11_copies_7 (by decide) (fun c_ => absurd c_ (by decide +kernel)) (fun _ => ?_)
  refine lv_aload_n hx hb dX11_copies_10 rfl (lv_at hl 3 rfl) ?_
  refine lv_iload_n hx hb dX11_copies_11 rfl (lv_at hl 4 rfl) ?_
  refine lv_iload hx hb dX11_copies_12 (lv_at hl 0 rfl) ?_
  refine lv_iadd hx hb dX11_copies_14 ?_
  refine relit (v := 3) (by decide +kernel) ?_
  refine lv_aload_n hx hb dX11_copies_15 rfl (lv_at hl 1 rfl) ?_
  refine lv_iload_n hx hb dX11_copies_16 rfl (lv_at hl 2 rfl) ?_
  refine lv_iload hx hb dX11_copies_17 (lv_at hl 0 rfl) ?_
  refine lv_iadd hx hb dX11_copies_19 ?_
  refine relit (v := 3) (by decide +kernel) ?_
  refine xilo (v := 0) F hP 0 rfl 3 (by decide +kernel) (by decide +kernel) (by decide) (by decide +kernel) dX11_copies_20 ?_
  refine xist (f' := fun _ => 0) F hP hD hS 1 rfl 3 (by decide +kernel) (by decide +kernel) (by decide) (xup0 _) dX11_copies_21 (fun H locs hP hD hS => ?_)
  have hP : va_P g vwCl [(h1, .inl (aC 0, 13, .inl (fun _ => 0))), (h2, .inl (aC 0, 208, .inl (fun _ => 0)))] H := hP
  have hD : va_D A [(h1, .inl (aC 0, 13, .inl (fun _ => 0))), (h2, .inl (aC 0, 208, .inl (fun _ => 0)))] := hD
  refine lv_iinc (v := 4) (lv' := [(4, .int 4), (0, .ref h1), (1, .int 0), (2, .ref h2), (3, .int 0)]) hx hb dX11_copies_22 hl (k := 0) rfl (by decide +kernel) (by decide) rfl (fun ls hl => ?_)
  refine lv_goto (tgt := 3) hx hb dX11_copies_25 (by decide) ?_
  refine lv_iload hx hb dX11_copies_3 (lv_at hl 0 rfl) ?_
  refine lv_bipush (v := 13) hx hb dX11_copies_5 (by decide) ?_
  refine lv_icmp_ge (tgt := 28) hx hb dX11_copies_7 (by decide) (fun c_ => absurd c_ (by decide +kernel)) (fun _ => ?_)
  refine lv_aload_n hx hb dX11_copies_10 rfl (lv_at hl 3 rfl) ?_
  refine lv_iload_n hx hb dX11_copies_11 rfl (lv_at hl 4 rfl) ?_
  refine lv_iload hx hb dX11_copies_12 (lv_at hl 0 rfl) ?_
  refine lv_iadd hx hb dX11_copies_14 ?_
  refine relit (v := 4) (by decide +kernel) ?_
  refine lv_aload_n hx hb dX11_copies_15 rfl (lv_at hl 1 rfl) ?_
  refine lv_iload_n hx hb dX11_copies_16 rfl (lv_at hl 2 rfl) ?_
  refine lv_iload hx hb dX11_copies_17 (lv_at hl 0 rfl) ?_
  refine lv_iadd hx hb dX11_copies_19 ?_
  refine relit (v := 4) (by decide +kernel) ?_
  refine xilo (v := 0) F hP 0 rfl 4 (by decide +kernel) (by decide +kernel) (by decide) (by decide +kernel) dX11_copies_20 ?_
  refine xist (f' := fun _ => 0) F hP hD hS 1 rfl 4 (by decide +kernel) (by decide +kernel) (by decide) (xup0 _) dX11_copies_21 (fun H locs hP hD hS => ?_)
  have hP : va_P g vwCl [(h1, .inl (aC 0, 13, .inl (fun _ => 0))), (h2, .inl (aC 0, 208, .inl (fun _ => 0)))] H := hP
  have hD : va_D A [(h1, .inl (aC 0, 13, .inl (fun _ => 0))), (h2, .inl (aC 0, 208, .inl (fun _ => 0)))] := hD
  refine lv_iinc (v := 5) (lv' := [(4, .int 5), (0, .ref h1), (1, .int 0), (2, .ref h2), (3, .int 0)]) hx hb dX11_copies_22 hl (k := 0) rfl (by decide +kernel) (by decide) rfl (fun ls hl => ?_)
  refine lv_goto (tgt := 3) hx hb dX11_copies_25 (by decide) ?_
  refine lv_iload hx hb dX11_copies_3 (lv_at hl 0 rfl) ?_
  refine lv_bipush (v := 13) hx hb dX11_copies_5 (by decide) ?_
  refine lv_icmp_ge (tgt := 28) hx hb dX11_copies_7 (by decide) (fun c_ => absurd c_ (by decide +kernel)) (fun _ => ?_)
  refine lv_aload_n hx hb dX11_copies_10 rfl (lv_at hl 3 rfl) ?_
  refine lv_iload_n hx hb dX11_copies_11 rfl (lv_at hl 4 rfl) ?_
  refine lv_iload hx hb dX11_copies_12 (lv_at hl 0 rfl) ?_
  refine lv_iadd hx hb dX11_copies_14 ?_
  refine relit (v := 5) (by decide +kernel) ?_
  refine lv_aload_n hx hb dX11_copies_15 rfl (lv_at hl 1 rfl) ?_
  refine lv_iload_n hx hb dX11_copies_16 rfl (lv_at hl 2 rfl) ?_
  refine lv_iload hx hb dX11_copies_17 (lv_at hl 0 rfl) ?_
  refine lv_iadd hx hb dX11_copies_19 ?_
  refine relit (v := 5) (by decide +kernel) ?_
  refine xilo (v := 0) F hP 0 rfl 5 (by decide +kernel) (by decide +kernel) (by decide) (by decide +kernel) dX11_copies_20 ?_
  refine xist (f' := fun _ => 0) F hP hD hS 1 rfl 5 (by decide +kernel) (by decide +kernel) (by decide) (xup0 _) dX11_copies_21 (fun H locs hP hD hS => ?_)
  have hP : va_P g vwCl [(h1, .inl (aC 0, 13, .inl (fun _ => 0))), (h2, .inl (aC 0, 208, .inl (fun _ => 0)))] H := hP
  have hD : va_D A [(h1, .inl (aC 0, 13, .inl (fun _ => 0))), (h2, .inl (aC 0, 208, .inl (fun _ => 0)))] := hD
  refine lv_iinc (v := 6) (lv' := [(4, .int 6), (0, .ref h1), (1, .int 0), (2, .ref h2), (3, .int 0)]) hx hb dX11_copies_22 hl (k := 0) rfl (by decide +kernel) (by decide) rfl (fun ls hl => ?_)
  refine lv_goto (tgt := 3) hx hb dX11_copies_25 (by decide) ?_
  refine lv_iload hx hb dX11_copies_3 (lv_at hl 0 rfl) ?_
  refine lv_bipush (v := 13) hx hb dX11_copies_5 (by decide) ?_
  refine lv_icmp_ge (tgt := 28) hx hb dX11_copies_7 (by decide) (fun c_ => absurd c_ (by decide +kernel)) (fun _ => ?_)
  refine lv_aload_n hx hb dX11_copies_10 rfl (lv_at hl 3 rfl) ?_
  refine lv_iload_n hx hb dX11_copies_11 rfl (lv_at hl 4 rfl) ?_
  refine lv_iload hx hb dX11_copies_12 (lv_at hl 0 rfl) ?_
  refine lv_iadd hx hb dX11_copies_14 ?_
  refine relit (v := 6) (by decide +kernel) ?_
  refine lv_aload_n hx hb dX11_copies_15 rfl (lv_at hl 1 rfl) ?_
  refine lv_iload_n hx hb dX11_copies_16 rfl (lv_at hl 2 rfl) ?_
  refine lv_iload hx hb dX11_copies_17 (lv_at hl 0 rfl) ?_
  refine lv_iadd hx hb dX11_copies_19 ?_
  refine relit (v := 6) (by decide +kernel) ?_
  refine xilo (v := 0) F hP 0 rfl 6 (by decide +kernel) (by decide +kernel) (by decide) (by decide +kernel) dX11_copies_20 ?_
  refine xist (f' := fun _ => 0) F hP hD hS 1 rfl 6 (by decide +kernel) (by decide +kernel) (by decide) (xup0 _) dX11_copies_21 (fun H locs hP hD hS => ?_)
  have hP : va_P g vwCl [(h1, .inl (aC 0, 13, .inl (fun _ => 0))), (h2, .inl (aC 0, 208, .inl (fun _ => 0)))] H := hP
  have hD : va_D A [(h1, .inl (aC 0, 13, .inl (fun _ => 0))), (h2, .inl (aC 0, 208, .inl (fun _ => 0)))] := hD
  refine lv_iinc (v := 7) (lv' := [(4, .int 7), (0, .ref h1), (1, .int 0), (2, .ref h2), (3, .int 0)]) hx hb dX11_copies_22 hl (k := 0) rfl (by decide +kernel) (by decide) rfl (fun ls hl => ?_)
  refine lv_goto (tgt := 3) hx hb dX11_copies_25 (by decide) ?_
  refine lv_iload hx hb dX11_copies_3 (lv_at hl 0 rfl) ?_
  refine lv_bipush (v := 13) hx hb dX11_copies_5 (by decide) ?_
  refine lv_icmp_ge (tgt := 28) hx hb dX11_copies_7 (by decide) (fun c_ => absurd c_ (by decide +kernel)) (fun _ => ?_)
  refine lv_aload_n hx hb dX11_copies_10 rfl (lv_at hl 3 rfl) ?_
  refine lv_iload_n hx hb dX11_copies_11 rfl (lv_at hl 4 rfl) ?_
  refine lv_iload hx hb dX11_copies_12 (lv_at hl 0 rfl) ?_
  refine lv_iadd hx hb dX11_copies_14 ?_
  refine relit (v := 7) (by decide +kernel) ?_
  refine lv_aload_n hx hb dX11_copies_15 rfl (lv_at hl 1 rfl) ?_
  refine lv_iload_n hx hb dX11_copies_16 rfl (lv_at hl 2 rfl) ?_
  refine lv_iload hx hb dX11_copies_17 (lv_at hl 0 rfl) ?_
  refine lv_iadd hx hb dX11_copies_19 ?_
  refine relit (v := 7) (by decide +kernel) ?_
  refine xilo (v := 0) F hP 0 rfl 7 (by decide +kernel) (by decide +kernel) (by decide) (by decide +kernel) dX11_copies_20 ?_
  refine xist (f' := fun _ => 0) F hP hD hS 1 rfl 7 (by decide +kernel) (by decide +kernel) (by decide) (xup0 _) dX11_copies_21 (fun H locs hP hD hS => ?_)
  have hP : va_P g vwCl [(h1, .inl (aC 0, 13, .inl (fun _ => 0))), (h2, .inl (aC 0, 208, .inl (fun _ => 0)))] H := hP
  have hD : va_D A [(h1, .inl (aC 0, 13, .inl (fun _ => 0))), (h2, .inl (aC 0, 208, .inl (fun _ => 0)))] := hD
  refine lv_iinc (v := 8) (lv' := [(4, .int 8), (0, .ref h1), (1, .int 0), (2, .ref h2), (3, .int 0)]) hx hb dX11_copies_22 hl (k := 0) rfl (by decide +kernel) (by decide) rfl (fun ls hl => ?_)
  refine lv_goto (tgt := 3) hx hb dX11_copies_25 (by decide) ?_
  refine lv_iload hx hb dX11_copies_3 (lv_at hl 0 rfl) ?_
  refine lv_bipush (v := 13) hx hb dX11_copies_5 (by decide) ?_
  refine lv_icmp_ge (tgt := 28) hx hb dX11_copies_7 (by decide) (fun c_ => absurd c_ (by decide +kernel)) (fun _ => ?_)
  refine lv_aload_n hx hb dX11_copies_10 rfl (lv_at hl 3 rfl) ?_
  refine lv_iload_n hx hb dX11_copies_11 rfl (lv_at hl 4 rfl) ?_
  refine lv_iload hx hb dX11_copies_12 (lv_at hl 0 rfl) ?_
  refine lv_iadd hx hb dX11_copies_14 ?_
  refine relit (v := 8) (by decide +kernel) ?_
  refine lv_aload_n hx hb dX11_copies_15 rfl (lv_at hl 1 rfl) ?_
  refine lv_iload_n hx hb dX11_copies_16 rfl (lv_at hl 2 rfl) ?_
  refine lv_iload hx hb dX11_copies_17 (lv_at hl 0 rfl) ?_
  refine lv_iadd hx hb dX11_copies_19 ?_
  refine relit (v := 8) (by decide +kernel) ?_
  refine xilo (v := 0) F hP 0 rfl 8 (by decide +kernel) (by decide +kernel) (by decide) (by decide +kernel) dX11_copies_20 ?_
  refine xist (f' := fun _ => 0) F hP hD hS 1 rfl 8 (by decide +kernel) (by decide +kernel) (by decide) (xup0 _) dX11_copies_21 (fun H locs hP hD hS => ?_)
  have hP : va_P g vwCl [(h1, .inl (aC 0, 13, .inl (fun _ => 0))), (h2, .inl (aC 0, 208, .inl (fun _ => 0)))] H := hP
  have hD : va_D A [(h1, .inl (aC 0, 13, .inl (fun _ => 0))), (h2, .inl (aC 0, 208, .inl (fun _ => 0)))] := hD
  refine lv_iinc (v := 9) (lv' := [(4, .int 9), (0, .ref h1), (1, .int 0), (2, .ref h2), (3, .int 0)]) hx hb dX11_copies_22 hl (k := 0) rfl (by decide +kernel) (by decide) rfl (fun ls hl => ?_)
  refine lv_goto (tgt := 3) hx hb dX11_copies_25 (by decide) ?_
  refine lv_iload hx hb dX11_copies_3 (lv_at hl 0 rfl) ?_
  refine lv_bipush (v := 13) hx hb dX11_copies_5 (by decide) ?_
  refine lv_icmp_ge (tgt := 28) hx hb dX11_copies_7 (by decide) (fun c_ => absurd c_ (by decide +kernel)) (fun _ => ?_)
  refine lv_aload_n hx hb dX11_copies_10 rfl (lv_at hl 3 rfl) ?_
  refine lv_iload_n hx hb dX11_copies_11 rfl (lv_at hl 4 rfl) ?_
  refine lv_iload hx hb dX11_copies_12 (lv_at hl 0 rfl) ?_
  refine lv_iadd hx hb dX11_copies_14 ?_
  refine relit (v := 9) (by decide +kernel) ?_
  refine lv_aload_n hx hb dX11_copies_15 rfl (lv_at hl 1 rfl) ?_
  refine lv_iload_n hx hb dX11_copies_16 rfl (lv_at hl 2 rfl) ?_
  refine lv_iload hx hb dX11_copies_17 (lv_at hl 0 rfl) ?_
  refine lv_iadd hx hb dX11_copies_19 ?_
  refine relit (v := 9) (by decide +kernel) ?_
  refine xilo (v := 0) F hP 0 rfl 9 (by decide +kernel) (by decide +kernel) (by decide) (by decide +kernel) dX11_copies_20 ?_
  refine xist (f' := fun _ => 0) F hP hD hS 1 rfl 9 (by decide +kernel) (by decide +kernel) (by decide) (xup0 _) dX11_copies_21 (fun H locs hP hD hS => ?_)
  have hP : va_P g vwCl [(h1, .inl (aC 0, 13, .inl (fun _ => 0))), (h2, .inl (aC 0, 208, .inl (fun _ => 0)))] H := hP
  have hD : va_D A [(h1, .inl (aC 0, 13, .inl (fun _ => 0))), (h2, .inl (aC 0, 208, .inl (fun _ => 0)))] := hD
  refine lv_iinc (v := 10) (lv' := [(4, .int 10), (0, .ref h1), (1, .int 0), (2, .ref h2), (3, .int 0)]) hx hb dX11_copies_22 hl (k := 0) rfl (by decide +kernel) (by decide) rfl (fun ls hl => ?_)
  refine lv_goto (tgt := 3) hx hb dX11_copies_25 (by decide) ?_
  refine lv_iload hx hb dX11_copies_3 (lv_at hl 0 rfl) ?_
  refine lv_bipush (v := 13) hx hb dX11_copies_5 (by decide) ?_
  refine lv_icmp_ge (tgt := 28) hx hb dX11_copies_7 (by decide) (fun c_ => absurd c_ (by decide +kernel)) (fun _ => ?_)
  refine lv_aload_n hx hb dX11_copies_10 rfl (lv_at hl 3 rfl) ?_
  refine lv_iload_n hx hb dX11_copies_11 rfl (lv_at hl 4 rfl) ?_
  refine lv_iload hx hb dX11_copies_12 (lv_at hl 0 rfl) ?_
  refine lv_iadd hx hb dX11_copies_14 ?_
  refine relit (v := 10) (by decide +kernel) ?_
  refine lv_aload_n hx hb dX11_copies_15 rfl (lv_at hl 1 rfl) ?_
  refine lv_iload_n hx hb dX11_copies_16 rfl (lv_at hl 2 rfl) ?_
  refine lv_iload hx hb dX11_copies_17 (lv_at hl 0 rfl) ?_
  refine lv_iadd hx hb dX11_copies_19 ?_
  refine relit (v := 10) (by decide +kernel) ?_
  refine xilo (v := 0) F hP 0 rfl 10 (by decide +kernel) (by decide +kernel) (by decide) (by decide +kernel) dX11_copies_20 ?_
  refine xist (f' := fun _ => 0) F hP hD hS 1 rfl 10 (by decide +kernel) (by decide +kernel) (by decide) (xup0 _) dX11_copies_21 (fun H locs hP hD hS => ?_)
  have hP : va_P g vwCl [(h1, .inl (aC 0, 13, .inl (fun _ => 0))), (h2, .inl (aC 0, 208, .inl (fun _ => 0)))] H := hP
  have hD : va_D A [(h1, .inl (aC 0, 13, .inl (fun _ => 0))), (h2, .inl (aC 0, 208, .inl (fun _ => 0)))] := hD
  refine lv_iinc (v := 11) (lv' := [(4, .int 11), (0, .ref h1), (1, .int 0), (2, .ref h2), (3, .int 0)]) hx hb dX11_copies_22 hl (k := 0) rfl (by decide +kernel) (by decide) rfl (fun ls hl => ?_)
  refine lv_goto (tgt := 3) hx hb dX11_copies_25 (by decide) ?_
  refine lv_iload hx hb dX11_copies_3 (lv_at hl 0 rfl) ?_
  refine lv_bipush (v := 13) hx hb dX11_copies_5 (by decide) ?_
  refine lv_icmp_ge (tgt := 28) hx hb dX11_copies_7 (by decide) (fun c_ => absurd c_ (by decide +kernel)) (fun _ => ?_)
  refine lv_aload_n hx hb dX11_copies_10 rfl (lv_at hl 3 rfl) ?_
  refine lv_iload_n hx hb dX11_copies_11 rfl (lv_at hl 4 rfl) ?_
  refine lv_iload hx hb dX11_copies_12 (lv_at hl 0 rfl) ?_
  refine lv_iadd hx hb dX11_copies_14 ?_
  refine relit (v := 11) (by decide +kernel) ?_
  refine lv_aload_n hx hb dX11_copies_15 rfl (lv_at hl 1 rfl) ?_
  refine lv_iload_n hx hb dX11_copies_16 rfl (lv_at hl 2 rfl) ?_
  refine lv_iload hx hb dX11_copies_17 (lv_at hl 0 rfl) ?_
  refine lv_iadd hx hb dX11_copies_19 ?_
  refine relit (v := 11) (by decide +kernel) ?_
  refine xilo (v := 0) F hP 0 rfl 11 (by decide +kernel) (by decide +kernel) (by decide) (by decide +kernel) dX11_copies_20 ?_
  refine xist (f' := fun _ => 0) F hP hD hS 1 rfl 11 (by decide +kernel) (by decide +kernel) (by decide) (xup0 _) dX11_copies_21 (fun H locs hP hD hS => ?_)
  have hP : va_P g vwCl [(h1, .inl (aC 0, 13, .inl (fun _ => 0))), (h2, .inl (aC 0, 208, .inl (fun _ => 0)))] H := hP
  have hD : va_D A [(h1, .inl (aC 0, 13, .inl (fun _ => 0))), (h2, .inl (aC 0, 208, .inl (fun _ => 0)))] := hD
  refine lv_iinc (v := 12) (lv' := [(4, .int 12), (0, .ref h1), (1, .int 0), (2, .ref h2), (3, .int 0)]) hx hb dX11_copies_22 hl (k := 0) rfl (by decide +kernel) (by decide) rfl (fun ls hl => ?_)
  refine lv_goto (tgt := 3) hx hb dX11_copies_25 (by decide) ?_
  refine lv_iload hx hb dX11_copies_3 (lv_at hl 0 rfl) ?_
  refine lv_bipush (v := 13) hx hb dX11_copies_5 (by decide) ?_
  refine lv_icmp_ge (tgt := 28) hx hb dX11_copies_7 (by decide) (fun c_ => absurd c_ (by decide +kernel)) (fun _ => ?_)
  refine lv_aload_n hx hb dX11_copies_10 rfl (lv_at hl 3 rfl) ?_
  refine lv_iload_n hx hb dX11_copies_11 rfl (lv_at hl 4 rfl) ?_
  refine lv_iload hx hb dX11_copies_12 (lv_at hl 0 rfl) ?_
  refine lv_iadd hx hb dX11_copies_14 ?_
  refine relit (v := 12) (by decide +kernel) ?_
  refine lv_aload_n hx hb dX11_copies_15 rfl (lv_at hl 1 rfl) ?_
  refine lv_iload_n hx hb dX11_copies_16 rfl (lv_at hl 2 rfl) ?_
  refine lv_iload hx hb dX11_copies_17 (lv_at hl 0 rfl) ?_
  refine lv_iadd hx hb dX11_copies_19 ?_
  refine relit (v := 12) (by decide +kernel) ?_
  refine xilo (v := 0) F hP 0 rfl 12 (by decide +kernel) (by decide +kernel) (by decide) (by decide +kernel) dX11_copies_20 ?_
  refine xist (f' := fun _ => 0) F hP hD hS 1 rfl 12 (by decide +kernel) (by decide +kernel) (by decide) (xup0 _) dX11_copies_21 (fun H locs hP hD hS => ?_)
  have hP : va_P g vwCl [(h1, .inl (aC 0, 13, .inl (fun _ => 0))), (h2, .inl (aC 0, 208, .inl (fun _ => 0)))] H := hP
  have hD : va_D A [(h1, .inl (aC 0, 13, .inl (fun _ => 0))), (h2, .inl (aC 0, 208, .inl (fun _ => 0)))] := hD
  refine lv_iinc (v := 13) (lv' := [(4, .int 13), (0, .ref h1), (1, .int 0), (2, .ref h2), (3, .int 0)]) hx hb dX11_copies_22 hl (k := 0) rfl (by decide +kernel) (by decide) rfl (fun ls hl => ?_)
  refine lv_goto (tgt := 3) hx hb dX11_copies_25 (by decide) ?_
  refine lv_iload hx hb dX11_copies_3 (lv_at hl 0 rfl) ?_
  refine lv_bipush (v := 13) hx hb dX11_copies_5 (by decide) ?_
  refine lv_icmp_ge (tgt := 28) hx hb dX11_copies_7 (by decide) (fun _ => ?_) (fun c_ => absurd (by decide +kernel) c_)
  have hP9 := hP.sub (ws' := [(h1, .inl (aC 0, 13, .inl (fun _ => 0))), (h2, .inl (aC 0, 208, .inl (fun _ => 0)))]) [0, 1] rfl
  have hD9 := hD.sub (ws' := [(h1, .inl (aC 0, 13, .inl (fun _ => 0))), (h2, .inl (aC 0, 208, .inl (fun _ => 0)))]) [0, 1] (by decide) rfl
  exact rV () hx hb hr hlk hS trivial hP9 hD9 (Nat.le_of_ble_eq_true rfl) (Nat.le_of_ble_eq_true rfl) dX11_copies_28

theorem tb1698 : (Jvm.Cond.methodLink "StairGangModel" (464 : Nat) ({ cls := "StairGangModel", name := "copies", desc := "([II[II)V" } : Jvm.MethodName)) ∈ gw := lw_m 1698 (by decide +kernel)
theorem tb1699 : (Jvm.Cond.static ({ cls := "StairGangModel", name := "copies", desc := "([II[II)V" } : Jvm.MethodName)) ∈ gw := lw_m 1699 (by decide +kernel)
theorem tb1700 : (Jvm.Cond.code ({ cls := "StairGangModel", name := "copies", desc := "([II[II)V" } : Jvm.MethodName) prog_13_method_46_code (5 : Nat) (Option.none : Option Jvm.ClassFile.FieldType)) ∈ gw := lw_m 1700 (by decide +kernel)
theorem dX11_keeps_68 : decode cX11_keeps 68 = .ok (.aload_n 0, 1) := by decide +kernel
theorem dX11_keeps_69 : decode cX11_keeps 69 = .ok (.dup, 1) := by decide +kernel
theorem dX11_keeps_70 : decode cX11_keeps 70 = .ok (.getfield 416, 3) := by decide +kernel
theorem dX11_keeps_73 : decode cX11_keeps 73 = .ok (.iconst 1, 1) := by decide +kernel
theorem dX11_keeps_74 : decode cX11_keeps 74 = .ok (.iadd, 1) := by decide +kernel
theorem dX11_keeps_75 : decode cX11_keeps 75 = .ok (.putfield 416, 3) := by decide +kernel
theorem dX11_keeps_78 : decode cX11_keeps 78 = .ok (.return_, 1) := by decide +kernel
set_option maxHeartbeats 4000000 in
set_option maxRecDepth 100000 in
theorem a_X11_keeps_1 (l : Launch) (g : va_G) (aC : Nat → ClassId) (aM : Nat → Nat) (h1 h57 h60 : Nat) (x2 x3 x4 x5 x6 x7 x8 x9 x10 x11 x12 x13 x14 x15 x16 x17 x18 x19 x20 x21 x22 x23 x24 x25 x26 x27 x28 x29 x30 x31 x32 x33 x34 x35 x36 x37 x38 x39 x40 x41 x42 x43 x44 x45 x46 x47 x48 x49 x50 x51 x52 x53 x54 x55 x56 x58 x59 x61 x62 x63 x64 x65 x66 x67 x68 x69 x70 x71 x72 x73 x74 : Value) : Ct l g aC aM yX11_keeps cX11_keeps 2 none 2 [.ref h1] [(h1, .inr (11, [x2, x3, x4, x5, x6, x7, x8, x9, x10, x11, x12, x13, x14, x15, x16, x17, x18, x19, x20, x21, x22, x23, x24, x25, x26, x27, x28, x29, x30, x31, x32, x33, x34, x35, x36, x37, x38, x39, x40, x41, x42, x43, x44, x45, x46, x47, x48, x49, x50, x51, x52, x53, x54, x55, x56, .ref h57, x58, x59, .ref h60, x61, .int 0, x62, x63, x64, x65, x66, x67, x68, x69, x70, x71, x72, x73, x74])), (h57, .inl (aC 0, 13, .inl (fun _ => 0))), (h60, .inl (aC 0, 208, .inl (fun _ => 0)))] (QV g (fun (_ : Unit) => True) (fun (_ : Unit) => [(h1, .inr (11, [x2, x3, x4, x5, x6, x7, x8, x9, x10, x11, x12, x13, x14, x15, x16, x17, x18, x19, x20, x21, x22, x23, x24, x25, x26, x27, x28, x29, x30, x31, x32, x33, x34, x35, x36, x37, x38, x39, x40, x41, x42, x43, x44, x45, x46, x47, x48, x49, x50, x51, x52, x53, x54, x55, x56, .ref h57, x58, x59, .ref h60, x61, .int 1, x62, x63, x64, x65, x66, x67, x68, x69, x70, x71, x72, x73, x74])), (h57, .inl (aC 0, 13, .inl (fun _ => 0))), (h60, .inl (aC 0, 208, .inl (fun _ => 0)))])) 0 0 := by
  refine Ct.mk (by decide) (Nat.le_of_ble_eq_true rfl) ?_
  intro p e s m below meth c A ls hx hb hml hown hts hr hlk hnm hK hA hM hM2 hP hD hS hl
  have hown : s.vm.findClass RX11 = some m.cls := hown
  have F : Fx p s m _ c cX11_keeps 2 RX11 g aC aM A := ⟨hx, hb, hml, hown, hts, hK, hA, hM, hM2⟩
  have hl : lv_has ls 2 [(0, .ref h1)] := hl
  refine lv_aload_n hx hb dX11_keeps_0 rfl (lv_at hl 0 rfl) ?_
  refine xget F hP 0 rfl rfl inX11 60 (by decide) tb1242 rfl dX11_keeps_1 ?_
  refine lv_bipush (v := 16) hx hb dX11_keeps_4 (by decide) ?_
  refine lv_icmp_ne (tgt := 49) hx hb dX11_keeps_6 (by decide) (fun _ => ?_) (fun c_ => absurd c_ (by decide +kernel))
  refine lv_aload_n hx hb dX11_keeps_49 rfl (lv_at hl 0 rfl) ?_
  refine xget F hP 0 rfl rfl inX11 55 (by decide) tb1237 rfl dX11_keeps_50 ?_
  refine lv_iconst (v := 0) hx hb dX11_keeps_53 (by decide) ?_
  refine lv_aload_n hx hb dX11_keeps_54 rfl (lv_at hl 0 rfl) ?_
  refine xget F hP 0 rfl rfl inX11 58 (by decide) tb1240 rfl dX11_keeps_55 ?_
  refine lv_bipush (v := 13) hx hb dX11_keeps_58 (by decide) ?_
  refine lv_aload_n hx hb dX11_keeps_60 rfl (lv_at hl 0 rfl) ?_
  refine xget F hP 0 rfl rfl inX11 60 (by decide) tb1242 rfl dX11_keeps_61 ?_
  refine lv_imul hx hb dX11_keeps_64 ?_
  refine relit (v := 0) (by decide +kernel) ?_
  refine goV (wr := [(h1, .inr (11, [x2, x3, x4, x5, x6, x7, x8, x9, x10, x11, x12, x13, x14, x15, x16, x17, x18, x19, x20, x21, x22, x23, x24, x25, x26, x27, x28, x29, x30, x31, x32, x33, x34, x35, x36, x37, x38, x39, x40, x41, x42, x43, x44, x45, x46, x47, x48, x49, x50, x51, x52, x53, x54, x55, x56, .ref h57, x58, x59, .ref h60, x61, .int 0, x62, x63, x64, x65, x66, x67, x68, x69, x70, x71, x72, x73, x74]))]) (runS (n := 4) (As := [.ref h57, .int 0, .ref h60, .int 0]) (rest := []) F hP hD hS (a_X11_copies_1 l g aC aM h57 h60) [1, 2] (by decide) rfl tb1700 tb1698 tb1699 tb17 ⟨by decide, by decide, by decide +kernel⟩ ⟨Nat.le_of_ble_eq_true rfl, Nat.le_of_ble_eq_true rfl⟩ rfl hl.1 rfl (Nat.le_of_ble_eq_true rfl) dX11_keeps_65 ⟨Nat.le_of_ble_eq_true rfl, Nat.le_of_ble_eq_true rfl⟩) hP hD hS hA [1, 2] [0] rfl rfl (by decide) (by decide) (fun w4 H locs hw hP hD hS => ?_)
  have hP : va_P g vwCl [(h1, .inr (11, [x2, x3, x4, x5, x6, x7, x8, x9, x10, x11, x12, x13, x14, x15, x16, x17, x18, x19, x20, x21, x22, x23, x24, x25, x26, x27, x28, x29, x30, x31, x32, x33, x34, x35, x36, x37, x38, x39, x40, x41, x42, x43, x44, x45, x46, x47, x48, x49, x50, x51, x52, x53, x54, x55, x56, .ref h57, x58, x59, .ref h60, x61, .int 0, x62, x63, x64, x65, x66, x67, x68, x69, x70, x71, x72, x73, x74])), (h57, .inl (aC 0, 13, .inl (fun _ => 0))), (h60, .inl (aC 0, 208, .inl (fun _ => 0)))] H := hP
  have hD : va_D A [(h1, .inr (11, [x2, x3, x4, x5, x6, x7, x8, x9, x10, x11, x12, x13, x14, x15, x16, x17, x18, x19, x20, x21, x22, x23, x24, x25, x26, x27, x28, x29, x30, x31, x32, x33, x34, x35, x36, x37, x38, x39, x40, x41, x42, x43, x44, x45, x46, x47, x48, x49, x50, x51, x52, x53, x54, x55, x56, .ref h57, x58, x59, .ref h60, x61, .int 0, x62, x63, x64, x65, x66, x67, x68, x69, x70, x71, x72, x73, x74])), (h57, .inl (aC 0, 13, .inl (fun _ => 0))), (h60, .inl (aC 0, 208, .inl (fun _ => 0)))] := hD
  refine lv_aload_n hx hb dX11_keeps_68 rfl (lv_at hl 0 rfl) ?_
  refine lv_dup hx hb dX11_keeps_69 rfl ?_
  refine xget F hP 0 rfl rfl inX11 60 (by decide) tb1242 rfl dX11_keeps_70 ?_
  refine lv_iconst (v := 1) hx hb dX11_keeps_73 (by decide) ?_
  refine lv_iadd hx hb dX11_keeps_74 ?_
  refine relit (v := 1) (by decide +kernel) ?_
  refine xput F hP hD hS 0 rfl rfl inX11 tyX11_ok nmX11 60 (by decide) tb1242 rfl rfl rfl (Nat.le_of_ble_eq_true rfl) dX11_keeps_75 (fun H locs hP hD hS => ?_)
  have hP : va_P g vwCl [(h1, .inr (11, [x2, x3, x4, x5, x6, x7, x8, x9, x10, x11, x12, x13, x14, x15, x16, x17, x18, x19, x20, x21, x22, x23, x24, x25, x26, x27, x28, x29, x30, x31, x32, x33, x34, x35, x36, x37, x38, x39, x40, x41, x42, x43, x44, x45, x46, x47, x48, x49, x50, x51, x52, x53, x54, x55, x56, .ref h57, x58, x59, .ref h60, x61, .int 1, x62, x63, x64, x65, x66, x67, x68, x69, x70, x71, x72, x73, x74])), (h57, .inl (aC 0, 13, .inl (fun _ => 0))), (h60, .inl (aC 0, 208, .inl (fun _ => 0)))] H := hP
  have hD : va_D A [(h1, .inr (11, [x2, x3, x4, x5, x6, x7, x8, x9, x10, x11, x12, x13, x14, x15, x16, x17, x18, x19, x20, x21, x22, x23, x24, x25, x26, x27, x28, x29, x30, x31, x32, x33, x34, x35, x36, x37, x38, x39, x40, x41, x42, x43, x44, x45, x46, x47, x48, x49, x50, x51, x52, x53, x54, x55, x56, .ref h57, x58, x59, .ref h60, x61, .int 1, x62, x63, x64, x65, x66, x67, x68, x69, x70, x71, x72, x73, x74])), (h57, .inl (aC 0, 13, .inl (fun _ => 0))), (h60, .inl (aC 0, 208, .inl (fun _ => 0)))] := hD
  have hP9 := hP.sub (ws' := [(h1, .inr (11, [x2, x3, x4, x5, x6, x7, x8, x9, x10, x11, x12, x13, x14, x15, x16, x17, x18, x19, x20, x21, x22, x23, x24, x25, x26, x27, x28, x29, x30, x31, x32, x33, x34, x35, x36, x37, x38, x39, x40, x41, x42, x43, x44, x45, x46, x47, x48, x49, x50, x51, x52, x53, x54, x55, x56, .ref h57, x58, x59, .ref h60, x61, .int 1, x62, x63, x64, x65, x66, x67, x68, x69, x70, x71, x72, x73, x74])), (h57, .inl (aC 0, 13, .inl (fun _ => 0))), (h60, .inl (aC 0, 208, .inl (fun _ => 0)))]) [0, 1, 2] rfl
  have hD9 := hD.sub (ws' := [(h1, .inr (11, [x2, x3, x4, x5, x6, x7, x8, x9, x10, x11, x12, x13, x14, x15, x16, x17, x18, x19, x20, x21, x22, x23, x24, x25, x26, x27, x28, x29, x30, x31, x32, x33, x34, x35, x36, x37, x38, x39, x40, x41, x42, x43, x44, x45, x46, x47, x48, x49, x50, x51, x52, x53, x54, x55, x56, .ref h57, x58, x59, .ref h60, x61, .int 1, x62, x63, x64, x65, x66, x67, x68, x69, x70, x71, x72, x73, x74])), (h57, .inl (aC 0, 13, .inl (fun _ => 0))), (h60, .inl (aC 0, 208, .inl (fun _ => 0)))]) [0, 1, 2] (by decide) rfl
  exact rV () hx hb hr hlk hS trivial hP9 hD9 (Nat.le_of_ble_eq_true rfl) (Nat.le_of_ble_eq_true rfl) dX11_keeps_78

theorem tb1694 : (Jvm.Cond.methodLink "StairGangModel" (486 : Nat) ({ cls := "StairGangModel", name := "keeps", desc := "()V" } : Jvm.MethodName)) ∈ gw := lw_m 1694 (by decide +kernel)
theorem tb1696 : (Jvm.Cond.instanceMethod ({ cls := "StairGangModel", name := "keeps", desc := "()V" } : Jvm.MethodName)) ∈ gw := lw_m 1696 (by decide +kernel)
theorem tb1697 : (Jvm.Cond.code ({ cls := "StairGangModel", name := "keeps", desc := "()V" } : Jvm.MethodName) prog_13_method_74_code (2 : Nat) (Option.none : Option Jvm.ClassFile.FieldType)) ∈ gw := lw_m 1697 (by decide +kernel)
theorem tv83 : Cond.selects "StairGangModel" ⟨"StairGangModel", "keeps", "()V"⟩ ⟨"StairGangModel", "keeps", "()V"⟩ ∈ gw := lw_v 83 (by decide +kernel)
theorem dX11_night_9 : decode cX11_night 9 = .ok (.aload_n 0, 1) := by decide +kernel
theorem dX11_night_10 : decode cX11_night 10 = .ok (.getfield 141, 3) := by decide +kernel
theorem dX11_night_13 : decode cX11_night 13 = .ok (.bipush 11, 2) := by decide +kernel
theorem dX11_night_15 : decode cX11_night 15 = .ok (.dup2, 1) := by decide +kernel
theorem dX11_night_16 : decode cX11_night 16 = .ok (.iaload, 1) := by decide +kernel
theorem dX11_night_17 : decode cX11_night 17 = .ok (.iconst 1, 1) := by decide +kernel
theorem dX11_night_18 : decode cX11_night 18 = .ok (.iadd, 1) := by decide +kernel
theorem dX11_night_19 : decode cX11_night 19 = .ok (.iastore, 1) := by decide +kernel
theorem dX11_night_20 : decode cX11_night 20 = .ok (.aload_n 0, 1) := by decide +kernel
theorem dX11_night_21 : decode cX11_night 21 = .ok (.getfield 141, 3) := by decide +kernel
theorem dX11_night_24 : decode cX11_night 24 = .ok (.bipush 11, 2) := by decide +kernel
theorem dX11_night_26 : decode cX11_night 26 = .ok (.iaload, 1) := by decide +kernel
theorem dX11_night_27 : decode cX11_night 27 = .ok (.ireturn, 1) := by decide +kernel
set_option maxHeartbeats 4000000 in
set_option maxRecDepth 100000 in
theorem m_night (l : Launch) (g : va_G) (aC : Nat → ClassId) (aM : Nat → Nat) (h1 h56 h59 : Nat) (x2 x3 x4 x5 x6 x7 x8 x9 x10 x11 x12 x13 x14 x15 x16 x17 x18 x19 x20 x21 x22 x23 x24 x25 x26 x27 x28 x29 x30 x31 x32 x33 x34 x35 x36 x37 x38 x39 x40 x41 x42 x43 x44 x45 x46 x47 x48 x49 x50 x51 x52 x53 x54 x55 x57 x58 x60 x61 x62 x63 x64 x65 x66 x67 x68 x69 x70 x71 x72 x73 : Value) : Ct l g aC aM yX11_night cX11_night 1 (some .int) 3 [.ref h1] [(h1, .inr (11, [.int 0, x2, x3, x4, x5, x6, x7, x8, x9, x10, x11, x12, x13, x14, x15, x16, x17, x18, x19, x20, x21, x22, x23, x24, x25, x26, x27, x28, x29, x30, x31, x32, x33, x34, x35, x36, x37, x38, x39, x40, x41, x42, x43, x44, x45, x46, x47, x48, x49, x50, x51, x52, x53, x54, x55, .ref h56, x57, x58, .ref h59, x60, .int 0, x61, x62, x63, x64, x65, x66, x67, x68, x69, x70, x71, x72, x73])), (h56, .inl (aC 0, 13, .inl (fun _ => 0))), (h59, .inl (aC 0, 208, .inl (fun _ => 0)))] (QI g (fun (r : Int32) (_ : Unit) => r = 1) (fun (_ : Unit) => [])) 0 0 := by
  refine Ct.mk (by decide) (Nat.le_of_ble_eq_true rfl) ?_
  intro p e s m below meth c A ls hx hb hml hown hts hr hlk hnm hK hA hM hM2 hP hD hS hl
  have hown : s.vm.findClass RX11 = some m.cls := hown
  have F : Fx p s m _ c cX11_night 1 RX11 g aC aM A := ⟨hx, hb, hml, hown, hts, hK, hA, hM, hM2⟩
  have hl : lv_has ls 1 [(0, .ref h1)] := hl
  refine lv_aload_n hx hb dX11_night_0 rfl (lv_at hl 0 rfl) ?_
  refine lv_iconst (v := 0) hx hb dX11_night_1 (by decide) ?_
  refine xput F hP hD hS 0 rfl rfl inX11 tyX11_ok nmX11 0 (by decide) tb1182 rfl rfl rfl (Nat.le_of_ble_eq_true rfl) dX11_night_2 (fun H locs hP hD hS => ?_)
  have hP : va_P g vwCl [(h1, .inr (11, [.int 0, x2, x3, x4, x5, x6, x7, x8, x9, x10, x11, x12, x13, x14, x15, x16, x17, x18, x19, x20, x21, x22, x23, x24, x25, x26, x27, x28, x29, x30, x31, x32, x33, x34, x35, x36, x37, x38, x39, x40, x41, x42, x43, x44, x45, x46, x47, x48, x49, x50, x51, x52, x53, x54, x55, .ref h56, x57, x58, .ref h59, x60, .int 0, x61, x62, x63, x64, x65, x66, x67, x68, x69, x70, x71, x72, x73])), (h56, .inl (aC 0, 13, .inl (fun _ => 0))), (h59, .inl (aC 0, 208, .inl (fun _ => 0)))] H := hP
  have hD : va_D A [(h1, .inr (11, [.int 0, x2, x3, x4, x5, x6, x7, x8, x9, x10, x11, x12, x13, x14, x15, x16, x17, x18, x19, x20, x21, x22, x23, x24, x25, x26, x27, x28, x29, x30, x31, x32, x33, x34, x35, x36, x37, x38, x39, x40, x41, x42, x43, x44, x45, x46, x47, x48, x49, x50, x51, x52, x53, x54, x55, .ref h56, x57, x58, .ref h59, x60, .int 0, x61, x62, x63, x64, x65, x66, x67, x68, x69, x70, x71, x72, x73])), (h56, .inl (aC 0, 13, .inl (fun _ => 0))), (h59, .inl (aC 0, 208, .inl (fun _ => 0)))] := hD
  refine lv_aload_n hx hb dX11_night_5 rfl (lv_at hl 0 rfl) ?_
  refine goV (wr := []) (runV (n := 0) (As := []) (rest := []) F hP hD hS (a_X11_keeps_1 l g aC aM h1 h56 h59 (.int 0) x2 x3 x4 x5 x6 x7 x8 x9 x10 x11 x12 x13 x14 x15 x16 x17 x18 x19 x20 x21 x22 x23 x24 x25 x26 x27 x28 x29 x30 x31 x32 x33 x34 x35 x36 x37 x38 x39 x40 x41 x42 x43 x44 x45 x46 x47 x48 x49 x50 x51 x52 x53 x54 x55 x57 x58 x60 x61 x62 x63 x64 x65 x66 x67 x68 x69 x70 x71 x72 x73) [0, 1, 2] (by decide) rfl 0 11 rfl rfl rfl tb1697 tb1694 tb1696 tv83 tb17 ⟨by decide, by decide, by decide +kernel⟩ ⟨Nat.le_of_ble_eq_true rfl, Nat.le_of_ble_eq_true rfl⟩ rfl hl.1 rfl (Nat.le_of_ble_eq_true rfl) dX11_night_6 ⟨Nat.le_of_ble_eq_true rfl, Nat.le_of_ble_eq_true rfl⟩) hP hD hS hA [0, 1, 2] [] rfl rfl (by decide) (by decide) (fun w3 H locs hw hP hD hS => ?_)
  have hP : va_P g vwCl [(h1, .inr (11, [.int 0, x2, x3, x4, x5, x6, x7, x8, x9, x10, x11, x12, x13, x14, x15, x16, x17, x18, x19, x20, x21, x22, x23, x24, x25, x26, x27, x28, x29, x30, x31, x32, x33, x34, x35, x36, x37, x38, x39, x40, x41, x42, x43, x44, x45, x46, x47, x48, x49, x50, x51, x52, x53, x54, x55, .ref h56, x57, x58, .ref h59, x60, .int 1, x61, x62, x63, x64, x65, x66, x67, x68, x69, x70, x71, x72, x73])), (h56, .inl (aC 0, 13, .inl (fun _ => 0))), (h59, .inl (aC 0, 208, .inl (fun _ => 0)))] H := hP
  have hD : va_D A [(h1, .inr (11, [.int 0, x2, x3, x4, x5, x6, x7, x8, x9, x10, x11, x12, x13, x14, x15, x16, x17, x18, x19, x20, x21, x22, x23, x24, x25, x26, x27, x28, x29, x30, x31, x32, x33, x34, x35, x36, x37, x38, x39, x40, x41, x42, x43, x44, x45, x46, x47, x48, x49, x50, x51, x52, x53, x54, x55, .ref h56, x57, x58, .ref h59, x60, .int 1, x61, x62, x63, x64, x65, x66, x67, x68, x69, x70, x71, x72, x73])), (h56, .inl (aC 0, 13, .inl (fun _ => 0))), (h59, .inl (aC 0, 208, .inl (fun _ => 0)))] := hD
  refine lv_aload_n hx hb dX11_night_9 rfl (lv_at hl 0 rfl) ?_
  refine xget F hP 0 rfl rfl inX11 55 (by decide) tb1237 rfl dX11_night_10 ?_
  refine lv_bipush (v := 11) hx hb dX11_night_13 (by decide) ?_
  refine lv_dup2_11 hx hb dX11_night_15 rfl rfl ?_
  refine xilo (v := 0) F hP 1 rfl 11 (by decide +kernel) (by decide +kernel) (by decide) (by decide +kernel) dX11_night_16 ?_
  refine lv_iconst (v := 1) hx hb dX11_night_17 (by decide) ?_
  refine lv_iadd hx hb dX11_night_18 ?_
  refine relit (v := 1) (by decide +kernel) ?_
  refine xist (f' := upd (fun _ => 0) 11 1) F hP hD hS 1 rfl 11 (by decide +kernel) (by decide +kernel) (by decide) rfl dX11_night_19 (fun H locs hP hD hS => ?_)
  have hP : va_P g vwCl [(h1, .inr (11, [.int 0, x2, x3, x4, x5, x6, x7, x8, x9, x10, x11, x12, x13, x14, x15, x16, x17, x18, x19, x20, x21, x22, x23, x24, x25, x26, x27, x28, x29, x30, x31, x32, x33, x34, x35, x36, x37, x38, x39, x40, x41, x42, x43, x44, x45, x46, x47, x48, x49, x50, x51, x52, x53, x54, x55, .ref h56, x57, x58, .ref h59, x60, .int 1, x61, x62, x63, x64, x65, x66, x67, x68, x69, x70, x71, x72, x73])), (h56, .inl (aC 0, 13, .inl (upd (fun _ => 0) 11 1))), (h59, .inl (aC 0, 208, .inl (fun _ => 0)))] H := hP
  have hD : va_D A [(h1, .inr (11, [.int 0, x2, x3, x4, x5, x6, x7, x8, x9, x10, x11, x12, x13, x14, x15, x16, x17, x18, x19, x20, x21, x22, x23, x24, x25, x26, x27, x28, x29, x30, x31, x32, x33, x34, x35, x36, x37, x38, x39, x40, x41, x42, x43, x44, x45, x46, x47, x48, x49, x50, x51, x52, x53, x54, x55, .ref h56, x57, x58, .ref h59, x60, .int 1, x61, x62, x63, x64, x65, x66, x67, x68, x69, x70, x71, x72, x73])), (h56, .inl (aC 0, 13, .inl (upd (fun _ => 0) 11 1))), (h59, .inl (aC 0, 208, .inl (fun _ => 0)))] := hD
  refine lv_aload_n hx hb dX11_night_20 rfl (lv_at hl 0 rfl) ?_
  refine xget F hP 0 rfl rfl inX11 55 (by decide) tb1237 rfl dX11_night_21 ?_
  refine lv_bipush (v := 11) hx hb dX11_night_24 (by decide) ?_
  refine xilo (v := 1) F hP 1 rfl 11 (by decide +kernel) (by decide +kernel) (by decide) (by decide +kernel) dX11_night_26 ?_
  have hP9 := hP.sub (ws' := []) [] rfl
  have hD9 := hD.sub (ws' := []) [] (by decide) rfl
  exact rI () hx hb hr hlk rfl hS rfl hP9 hD9 (Nat.le_of_ble_eq_true rfl) (Nat.le_of_ble_eq_true rfl) dX11_night_27

theorem dX11_undo_0 : decode cX11_undo 0 = .ok (.aload_n 0, 1) := by decide +kernel
theorem dX11_undo_1 : decode cX11_undo 1 = .ok (.iconst 0, 1) := by decide +kernel
theorem dX11_undo_2 : decode cX11_undo 2 = .ok (.putfield 180, 3) := by decide +kernel
theorem dX11_undo_5 : decode cX11_undo 5 = .ok (.aload_n 0, 1) := by decide +kernel
theorem dX11_undo_6 : decode cX11_undo 6 = .ok (.getfield 416, 3) := by decide +kernel
theorem dX11_undo_9 : decode cX11_undo 9 = .ok (.ifCond .ne 5, 3) := by decide +kernel
theorem dX11_undo_12 : decode cX11_undo 12 = .ok (.iconst 0, 1) := by decide +kernel
theorem dX11_undo_13 : decode cX11_undo 13 = .ok (.ireturn, 1) := by decide +kernel
set_option maxHeartbeats 4000000 in
set_option maxRecDepth 100000 in
theorem m_undo (l : Launch) (g : va_G) (aC : Nat → ClassId) (aM : Nat → Nat) (h1 : Nat) (x2 x3 x4 x5 x6 x7 x8 x9 x10 x11 x12 x13 x14 x15 x16 x17 x18 x19 x20 x21 x22 x23 x24 x25 x26 x27 x28 x29 x30 x31 x32 x33 x34 x35 x36 x37 x38 x39 x40 x41 x42 x43 x44 x45 x46 x47 x48 x49 x50 x51 x52 x53 x54 x55 x56 x57 x58 x59 x60 x61 x62 x63 x64 x65 x66 x67 x68 x69 x70 x71 x72 x73 : Value) : Ct l g aC aM yX11_undo cX11_undo 1 (some .boolean) 1 [.ref h1] [(h1, .inr (11, [.int 0, x2, x3, x4, x5, x6, x7, x8, x9, x10, x11, x12, x13, x14, x15, x16, x17, x18, x19, x20, x21, x22, x23, x24, x25, x26, x27, x28, x29, x30, x31, x32, x33, x34, x35, x36, x37, x38, x39, x40, x41, x42, x43, x44, x45, x46, x47, x48, x49, x50, x51, x52, x53, x54, x55, x56, x57, x58, x59, x60, .int 0, x61, x62, x63, x64, x65, x66, x67, x68, x69, x70, x71, x72, x73]))] (QI g (fun (r : Int32) (_ : Unit) => r = 0) (fun (_ : Unit) => [])) 0 0 := by
  refine Ct.mk (by decide) (Nat.le_of_ble_eq_true rfl) ?_
  intro p e s m below meth c A ls hx hb hml hown hts hr hlk hnm hK hA hM hM2 hP hD hS hl
  have hown : s.vm.findClass RX11 = some m.cls := hown
  have F : Fx p s m _ c cX11_undo 1 RX11 g aC aM A := ⟨hx, hb, hml, hown, hts, hK, hA, hM, hM2⟩
  have hl : lv_has ls 1 [(0, .ref h1)] := hl
  refine lv_aload_n hx hb dX11_undo_0 rfl (lv_at hl 0 rfl) ?_
  refine lv_iconst (v := 0) hx hb dX11_undo_1 (by decide) ?_
  refine xput F hP hD hS 0 rfl rfl inX11 tyX11_ok nmX11 0 (by decide) tb1182 rfl rfl rfl (Nat.le_of_ble_eq_true rfl) dX11_undo_2 (fun H locs hP hD hS => ?_)
  have hP : va_P g vwCl [(h1, .inr (11, [.int 0, x2, x3, x4, x5, x6, x7, x8, x9, x10, x11, x12, x13, x14, x15, x16, x17, x18, x19, x20, x21, x22, x23, x24, x25, x26, x27, x28, x29, x30, x31, x32, x33, x34, x35, x36, x37, x38, x39, x40, x41, x42, x43, x44, x45, x46, x47, x48, x49, x50, x51, x52, x53, x54, x55, x56, x57, x58, x59, x60, .int 0, x61, x62, x63, x64, x65, x66, x67, x68, x69, x70, x71, x72, x73]))] H := hP
  have hD : va_D A [(h1, .inr (11, [.int 0, x2, x3, x4, x5, x6, x7, x8, x9, x10, x11, x12, x13, x14, x15, x16, x17, x18, x19, x20, x21, x22, x23, x24, x25, x26, x27, x28, x29, x30, x31, x32, x33, x34, x35, x36, x37, x38, x39, x40, x41, x42, x43, x44, x45, x46, x47, x48, x49, x50, x51, x52, x53, x54, x55, x56, x57, x58, x59, x60, .int 0, x61, x62, x63, x64, x65, x66, x67, x68, x69, x70, x71, x72, x73]))] := hD
  refine lv_aload_n hx hb dX11_undo_5 rfl (lv_at hl 0 rfl) ?_
  refine xget F hP 0 rfl rfl inX11 60 (by decide) tb1242 rfl dX11_undo_6 ?_
  refine lv_if_ne (tgt := 14) hx hb dX11_undo_9 (by decide) (fun c_ => absurd (by decide +kernel) c_) (fun _ => ?_)
  refine lv_iconst (v := 0) hx hb dX11_undo_12 (by decide) ?_
  have hP9 := hP.sub (ws' := []) [] rfl
  have hD9 := hD.sub (ws' := []) [] (by decide) rfl
  exact rI () hx hb hr hlk rfl hS rfl hP9 hD9 (Nat.le_of_ble_eq_true rfl) (Nat.le_of_ble_eq_true rfl) dX11_undo_13

theorem dX11_alone_0 : decode cX11_alone 0 = .ok (.aload_n 0, 1) := by decide +kernel
theorem dX11_alone_1 : decode cX11_alone 1 = .ok (.iconst 0, 1) := by decide +kernel
theorem dX11_alone_2 : decode cX11_alone 2 = .ok (.putfield 180, 3) := by decide +kernel
theorem dX11_alone_5 : decode cX11_alone 5 = .ok (.aload_n 0, 1) := by decide +kernel
theorem dX11_alone_6 : decode cX11_alone 6 = .ok (.iload_n 1, 1) := by decide +kernel
theorem dX11_alone_7 : decode cX11_alone 7 = .ok (.invokevirtual 445, 3) := by decide +kernel
theorem dX11_alone_10 : decode cX11_alone 10 = .ok (.ifCond .ne 5, 3) := by decide +kernel
theorem dX11_alone_13 : decode cX11_alone 13 = .ok (.iconst (-1), 1) := by decide +kernel
theorem dX11_alone_14 : decode cX11_alone 14 = .ok (.ireturn, 1) := by decide +kernel
set_option maxHeartbeats 4000000 in
set_option maxRecDepth 100000 in
theorem m_alone (l : Launch) (g : va_G) (aC : Nat → ClassId) (aM : Nat → Nat) (h1 h11 : Nat) (x2 x3 x4 x5 x6 x7 x8 x9 x10 x12 x13 x14 x15 x16 x17 x18 x19 x20 x21 x22 x23 x24 x25 x26 x27 x28 x29 x30 x31 x32 x33 x34 x35 x36 x37 x38 x39 x40 x41 x42 x43 x44 x45 x46 x47 x48 x49 x50 x51 x52 x53 x54 x55 x56 x57 x58 x59 x60 x61 x62 x63 x64 x65 x66 x67 x68 x69 x70 x71 x72 x73 x74 : Value) (n_1 : Int32) : Ct l g aC aM yX11_alone cX11_alone 4 (some .int) 2 [.ref h1, .int n_1] [(h1, .inr (11, [.int 0, x2, x3, x4, x5, x6, x7, x8, x9, x10, .ref h11, x12, x13, x14, x15, x16, x17, x18, x19, x20, x21, x22, x23, x24, x25, x26, x27, x28, x29, x30, x31, x32, x33, x34, x35, x36, x37, x38, x39, x40, x41, x42, x43, x44, x45, x46, x47, x48, x49, x50, x51, x52, x53, x54, x55, x56, x57, x58, x59, x60, x61, x62, x63, x64, x65, x66, x67, x68, x69, x70, x71, x72, x73, x74])), (h11, .inl (aC 0, 14, .inl (fun _ => 0)))] (QI g (fun (r : Int32) (_ : Unit) => r = (-1)) (fun (_ : Unit) => [])) 0 0 := by
  refine Ct.mk (by decide) (Nat.le_of_ble_eq_true rfl) ?_
  intro p e s m below meth c A ls hx hb hml hown hts hr hlk hnm hK hA hM hM2 hP hD hS hl
  have hown : s.vm.findClass RX11 = some m.cls := hown
  have F : Fx p s m _ c cX11_alone 4 RX11 g aC aM A := ⟨hx, hb, hml, hown, hts, hK, hA, hM, hM2⟩
  have hl : lv_has ls 4 [(0, .ref h1), (1, .int n_1)] := hl
  refine lv_aload_n hx hb dX11_alone_0 rfl (lv_at hl 0 rfl) ?_
  refine lv_iconst (v := 0) hx hb dX11_alone_1 (by decide) ?_
  refine xput F hP hD hS 0 rfl rfl inX11 tyX11_ok nmX11 0 (by decide) tb1182 rfl rfl rfl (Nat.le_of_ble_eq_true rfl) dX11_alone_2 (fun H locs hP hD hS => ?_)
  have hP : va_P g vwCl [(h1, .inr (11, [.int 0, x2, x3, x4, x5, x6, x7, x8, x9, x10, .ref h11, x12, x13, x14, x15, x16, x17, x18, x19, x20, x21, x22, x23, x24, x25, x26, x27, x28, x29, x30, x31, x32, x33, x34, x35, x36, x37, x38, x39, x40, x41, x42, x43, x44, x45, x46, x47, x48, x49, x50, x51, x52, x53, x54, x55, x56, x57, x58, x59, x60, x61, x62, x63, x64, x65, x66, x67, x68, x69, x70, x71, x72, x73, x74])), (h11, .inl (aC 0, 14, .inl (fun _ => 0)))] H := hP
  have hD : va_D A [(h1, .inr (11, [.int 0, x2, x3, x4, x5, x6, x7, x8, x9, x10, .ref h11, x12, x13, x14, x15, x16, x17, x18, x19, x20, x21, x22, x23, x24, x25, x26, x27, x28, x29, x30, x31, x32, x33, x34, x35, x36, x37, x38, x39, x40, x41, x42, x43, x44, x45, x46, x47, x48, x49, x50, x51, x52, x53, x54, x55, x56, x57, x58, x59, x60, x61, x62, x63, x64, x65, x66, x67, x68, x69, x70, x71, x72, x73, x74])), (h11, .inl (aC 0, 14, .inl (fun _ => 0)))] := hD
  refine lv_aload_n hx hb dX11_alone_5 rfl (lv_at hl 0 rfl) ?_
  refine lv_iload_n hx hb dX11_alone_6 rfl (lv_at hl 1 rfl) ?_
  refine goI (wr := []) (runV (n := 1) (As := [.int n_1]) (rest := []) F hP hD hS (a_X11_isPerson_1 l g aC aM h1 h11 (.int 0) x2 x3 x4 x5 x6 x7 x8 x9 x10 x12 x13 x14 x15 x16 x17 x18 x19 x20 x21 x22 x23 x24 x25 x26 x27 x28 x29 x30 x31 x32 x33 x34 x35 x36 x37 x38 x39 x40 x41 x42 x43 x44 x45 x46 x47 x48 x49 x50 x51 x52 x53 x54 x55 x56 x57 x58 x59 x60 x61 x62 x63 x64 x65 x66 x67 x68 x69 x70 x71 x72 x73 x74 n_1) [0, 1] (by decide) rfl 0 11 rfl rfl rfl tb1624 tb1621 tb1623 tv70 tb17 ⟨by decide, by decide, by decide +kernel⟩ ⟨Nat.le_of_ble_eq_true rfl, Nat.le_of_ble_eq_true rfl⟩ rfl hl.1 rfl (Nat.le_of_ble_eq_true rfl) dX11_alone_7 ⟨Nat.le_of_ble_eq_true rfl, Nat.le_of_ble_eq_true rfl⟩) hP hD hS hA [0, 1] [] rfl rfl (by decide) (by decide) (fun r_2 w3 H locs hw hP hD hS => ?_)
  have hP : va_P g vwCl [(h1, .inr (11, [.int 0, x2, x3, x4, x5, x6, x7, x8, x9, x10, .ref h11, x12, x13, x14, x15, x16, x17, x18, x19, x20, x21, x22, x23, x24, x25, x26, x27, x28, x29, x30, x31, x32, x33, x34, x35, x36, x37, x38, x39, x40, x41, x42, x43, x44, x45, x46, x47, x48, x49, x50, x51, x52, x53, x54, x55, x56, x57, x58, x59, x60, x61, x62, x63, x64, x65, x66, x67, x68, x69, x70, x71, x72, x73, x74])), (h11, .inl (aC 0, 14, .inl (fun _ => 0)))] H := hP
  have hD : va_D A [(h1, .inr (11, [.int 0, x2, x3, x4, x5, x6, x7, x8, x9, x10, .ref h11, x12, x13, x14, x15, x16, x17, x18, x19, x20, x21, x22, x23, x24, x25, x26, x27, x28, x29, x30, x31, x32, x33, x34, x35, x36, x37, x38, x39, x40, x41, x42, x43, x44, x45, x46, x47, x48, x49, x50, x51, x52, x53, x54, x55, x56, x57, x58, x59, x60, x61, x62, x63, x64, x65, x66, x67, x68, x69, x70, x71, x72, x73, x74])), (h11, .inl (aC 0, 14, .inl (fun _ => 0)))] := hD
  try dsimp only at hw
  subst hw
  refine lv_if_ne (tgt := 15) hx hb dX11_alone_10 (by decide) (fun c_ => absurd (by decide +kernel) c_) (fun _ => ?_)
  refine lv_iconst (v := (-1)) hx hb dX11_alone_13 (by decide) ?_
  have hP9 := hP.sub (ws' := []) [] rfl
  have hD9 := hD.sub (ws' := []) [] (by decide) rfl
  exact rI () hx hb hr hlk rfl hS rfl hP9 hD9 (Nat.le_of_ble_eq_true rfl) (Nat.le_of_ble_eq_true rfl) dX11_alone_14

theorem dX11_see_0 : decode cX11_see 0 = .ok (.aload_n 0, 1) := by decide +kernel
theorem dX11_see_1 : decode cX11_see 1 = .ok (.iconst 0, 1) := by decide +kernel
theorem dX11_see_2 : decode cX11_see 2 = .ok (.putfield 180, 3) := by decide +kernel
theorem dX11_see_5 : decode cX11_see 5 = .ok (.aload_n 0, 1) := by decide +kernel
theorem dX11_see_6 : decode cX11_see 6 = .ok (.iload_n 1, 1) := by decide +kernel
theorem dX11_see_7 : decode cX11_see 7 = .ok (.invokevirtual 445, 3) := by decide +kernel
theorem dX11_see_10 : decode cX11_see 10 = .ok (.ifCond .eq 22, 3) := by decide +kernel
theorem dX11_see_32 : decode cX11_see 32 = .ok (.iconst 0, 1) := by decide +kernel
theorem dX11_see_33 : decode cX11_see 33 = .ok (.ireturn, 1) := by decide +kernel
set_option maxHeartbeats 4000000 in
set_option maxRecDepth 100000 in
theorem m_see (l : Launch) (g : va_G) (aC : Nat → ClassId) (aM : Nat → Nat) (h1 h11 : Nat) (x2 x3 x4 x5 x6 x7 x8 x9 x10 x12 x13 x14 x15 x16 x17 x18 x19 x20 x21 x22 x23 x24 x25 x26 x27 x28 x29 x30 x31 x32 x33 x34 x35 x36 x37 x38 x39 x40 x41 x42 x43 x44 x45 x46 x47 x48 x49 x50 x51 x52 x53 x54 x55 x56 x57 x58 x59 x60 x61 x62 x63 x64 x65 x66 x67 x68 x69 x70 x71 x72 x73 x74 : Value) (n_1 n_2 n_3 : Int32) : Ct l g aC aM yX11_see cX11_see 4 (some .boolean) 2 [.ref h1, .int n_1, .int n_2, .int n_3] [(h1, .inr (11, [.int 0, x2, x3, x4, x5, x6, x7, x8, x9, x10, .ref h11, x12, x13, x14, x15, x16, x17, x18, x19, x20, x21, x22, x23, x24, x25, x26, x27, x28, x29, x30, x31, x32, x33, x34, x35, x36, x37, x38, x39, x40, x41, x42, x43, x44, x45, x46, x47, x48, x49, x50, x51, x52, x53, x54, x55, x56, x57, x58, x59, x60, x61, x62, x63, x64, x65, x66, x67, x68, x69, x70, x71, x72, x73, x74])), (h11, .inl (aC 0, 14, .inl (fun _ => 0)))] (QI g (fun (r : Int32) (_ : Unit) => r = 0) (fun (_ : Unit) => [])) 0 0 := by
  refine Ct.mk (by decide) (Nat.le_of_ble_eq_true rfl) ?_
  intro p e s m below meth c A ls hx hb hml hown hts hr hlk hnm hK hA hM hM2 hP hD hS hl
  have hown : s.vm.findClass RX11 = some m.cls := hown
  have F : Fx p s m _ c cX11_see 4 RX11 g aC aM A := ⟨hx, hb, hml, hown, hts, hK, hA, hM, hM2⟩
  have hl : lv_has ls 4 [(0, .ref h1), (1, .int n_1), (2, .int n_2), (3, .int n_3)] := hl
  refine lv_aload_n hx hb dX11_see_0 rfl (lv_at hl 0 rfl) ?_
  refine lv_iconst (v := 0) hx hb dX11_see_1 (by decide) ?_
  refine xput F hP hD hS 0 rfl rfl inX11 tyX11_ok nmX11 0 (by decide) tb1182 rfl rfl rfl (Nat.le_of_ble_eq_true rfl) dX11_see_2 (fun H locs hP hD hS => ?_)
  have hP : va_P g vwCl [(h1, .inr (11, [.int 0, x2, x3, x4, x5, x6, x7, x8, x9, x10, .ref h11, x12, x13, x14, x15, x16, x17, x18, x19, x20, x21, x22, x23, x24, x25, x26, x27, x28, x29, x30, x31, x32, x33, x34, x35, x36, x37, x38, x39, x40, x41, x42, x43, x44, x45, x46, x47, x48, x49, x50, x51, x52, x53, x54, x55, x56, x57, x58, x59, x60, x61, x62, x63, x64, x65, x66, x67, x68, x69, x70, x71, x72, x73, x74])), (h11, .inl (aC 0, 14, .inl (fun _ => 0)))] H := hP
  have hD : va_D A [(h1, .inr (11, [.int 0, x2, x3, x4, x5, x6, x7, x8, x9, x10, .ref h11, x12, x13, x14, x15, x16, x17, x18, x19, x20, x21, x22, x23, x24, x25, x26, x27, x28, x29, x30, x31, x32, x33, x34, x35, x36, x37, x38, x39, x40, x41, x42, x43, x44, x45, x46, x47, x48, x49, x50, x51, x52, x53, x54, x55, x56, x57, x58, x59, x60, x61, x62, x63, x64, x65, x66, x67, x68, x69, x70, x71, x72, x73, x74])), (h11, .inl (aC 0, 14, .inl (fun _ => 0)))] := hD
  refine lv_aload_n hx hb dX11_see_5 rfl (lv_at hl 0 rfl) ?_
  refine lv_iload_n hx hb dX11_see_6 rfl (lv_at hl 1 rfl) ?_
  refine goI (wr := []) (runV (n := 1) (As := [.int n_1]) (rest := []) F hP hD hS (a_X11_isPerson_1 l g aC aM h1 h11 (.int 0) x2 x3 x4 x5 x6 x7 x8 x9 x10 x12 x13 x14 x15 x16 x17 x18 x19 x20 x21 x22 x23 x24 x25 x26 x27 x28 x29 x30 x31 x32 x33 x34 x35 x36 x37 x38 x39 x40 x41 x42 x43 x44 x45 x46 x47 x48 x49 x50 x51 x52 x53 x54 x55 x56 x57 x58 x59 x60 x61 x62 x63 x64 x65 x66 x67 x68 x69 x70 x71 x72 x73 x74 n_1) [0, 1] (by decide) rfl 0 11 rfl rfl rfl tb1624 tb1621 tb1623 tv70 tb17 ⟨by decide, by decide, by decide +kernel⟩ ⟨Nat.le_of_ble_eq_true rfl, Nat.le_of_ble_eq_true rfl⟩ rfl hl.1 rfl (Nat.le_of_ble_eq_true rfl) dX11_see_7 ⟨Nat.le_of_ble_eq_true rfl, Nat.le_of_ble_eq_true rfl⟩) hP hD hS hA [0, 1] [] rfl rfl (by decide) (by decide) (fun r_2 w3 H locs hw hP hD hS => ?_)
  have hP : va_P g vwCl [(h1, .inr (11, [.int 0, x2, x3, x4, x5, x6, x7, x8, x9, x10, .ref h11, x12, x13, x14, x15, x16, x17, x18, x19, x20, x21, x22, x23, x24, x25, x26, x27, x28, x29, x30, x31, x32, x33, x34, x35, x36, x37, x38, x39, x40, x41, x42, x43, x44, x45, x46, x47, x48, x49, x50, x51, x52, x53, x54, x55, x56, x57, x58, x59, x60, x61, x62, x63, x64, x65, x66, x67, x68, x69, x70, x71, x72, x73, x74])), (h11, .inl (aC 0, 14, .inl (fun _ => 0)))] H := hP
  have hD : va_D A [(h1, .inr (11, [.int 0, x2, x3, x4, x5, x6, x7, x8, x9, x10, .ref h11, x12, x13, x14, x15, x16, x17, x18, x19, x20, x21, x22, x23, x24, x25, x26, x27, x28, x29, x30, x31, x32, x33, x34, x35, x36, x37, x38, x39, x40, x41, x42, x43, x44, x45, x46, x47, x48, x49, x50, x51, x52, x53, x54, x55, x56, x57, x58, x59, x60, x61, x62, x63, x64, x65, x66, x67, x68, x69, x70, x71, x72, x73, x74])), (h11, .inl (aC 0, 14, .inl (fun _ => 0)))] := hD
  try dsimp only at hw
  subst hw
  refine lv_if_eq (tgt := 32) hx hb dX11_see_10 (by decide) (fun _ => ?_) (fun c_ => absurd (by decide +kernel) c_)
  refine lv_iconst (v := 0) hx hb dX11_see_32 (by decide) ?_
  have hP9 := hP.sub (ws' := []) [] rfl
  have hD9 := hD.sub (ws' := []) [] (by decide) rfl
  exact rI () hx hb hr hlk rfl hS rfl hP9 hD9 (Nat.le_of_ble_eq_true rfl) (Nat.le_of_ble_eq_true rfl) dX11_see_33

theorem dX11_post_0 : decode cX11_post 0 = .ok (.aload_n 0, 1) := by decide +kernel
theorem dX11_post_1 : decode cX11_post 1 = .ok (.iconst 0, 1) := by decide +kernel
theorem dX11_post_2 : decode cX11_post 2 = .ok (.putfield 180, 3) := by decide +kernel
theorem dX11_post_5 : decode cX11_post 5 = .ok (.aload_n 0, 1) := by decide +kernel
theorem dX11_post_6 : decode cX11_post 6 = .ok (.iload_n 1, 1) := by decide +kernel
theorem dX11_post_7 : decode cX11_post 7 = .ok (.invokevirtual 445, 3) := by decide +kernel
theorem dX11_post_10 : decode cX11_post 10 = .ok (.ifCond .eq 12, 3) := by decide +kernel
theorem dX11_post_22 : decode cX11_post 22 = .ok (.iconst (-1), 1) := by decide +kernel
theorem dX11_post_23 : decode cX11_post 23 = .ok (.ireturn, 1) := by decide +kernel
set_option maxHeartbeats 4000000 in
set_option maxRecDepth 100000 in
theorem m_post (l : Launch) (g : va_G) (aC : Nat → ClassId) (aM : Nat → Nat) (h1 h11 : Nat) (x2 x3 x4 x5 x6 x7 x8 x9 x10 x12 x13 x14 x15 x16 x17 x18 x19 x20 x21 x22 x23 x24 x25 x26 x27 x28 x29 x30 x31 x32 x33 x34 x35 x36 x37 x38 x39 x40 x41 x42 x43 x44 x45 x46 x47 x48 x49 x50 x51 x52 x53 x54 x55 x56 x57 x58 x59 x60 x61 x62 x63 x64 x65 x66 x67 x68 x69 x70 x71 x72 x73 x74 : Value) (n_1 n_2 : Int32) : Ct l g aC aM yX11_post cX11_post 9 (some .int) 2 [.ref h1, .int n_1, .int n_2] [(h1, .inr (11, [.int 0, x2, x3, x4, x5, x6, x7, x8, x9, x10, .ref h11, x12, x13, x14, x15, x16, x17, x18, x19, x20, x21, x22, x23, x24, x25, x26, x27, x28, x29, x30, x31, x32, x33, x34, x35, x36, x37, x38, x39, x40, x41, x42, x43, x44, x45, x46, x47, x48, x49, x50, x51, x52, x53, x54, x55, x56, x57, x58, x59, x60, x61, x62, x63, x64, x65, x66, x67, x68, x69, x70, x71, x72, x73, x74])), (h11, .inl (aC 0, 14, .inl (fun _ => 0)))] (QI g (fun (r : Int32) (_ : Unit) => r = (-1)) (fun (_ : Unit) => [])) 0 0 := by
  refine Ct.mk (by decide) (Nat.le_of_ble_eq_true rfl) ?_
  intro p e s m below meth c A ls hx hb hml hown hts hr hlk hnm hK hA hM hM2 hP hD hS hl
  have hown : s.vm.findClass RX11 = some m.cls := hown
  have F : Fx p s m _ c cX11_post 9 RX11 g aC aM A := ⟨hx, hb, hml, hown, hts, hK, hA, hM, hM2⟩
  have hl : lv_has ls 9 [(0, .ref h1), (1, .int n_1), (2, .int n_2)] := hl
  refine lv_aload_n hx hb dX11_post_0 rfl (lv_at hl 0 rfl) ?_
  refine lv_iconst (v := 0) hx hb dX11_post_1 (by decide) ?_
  refine xput F hP hD hS 0 rfl rfl inX11 tyX11_ok nmX11 0 (by decide) tb1182 rfl rfl rfl (Nat.le_of_ble_eq_true rfl) dX11_post_2 (fun H locs hP hD hS => ?_)
  have hP : va_P g vwCl [(h1, .inr (11, [.int 0, x2, x3, x4, x5, x6, x7, x8, x9, x10, .ref h11, x12, x13, x14, x15, x16, x17, x18, x19, x20, x21, x22, x23, x24, x25, x26, x27, x28, x29, x30, x31, x32, x33, x34, x35, x36, x37, x38, x39, x40, x41, x42, x43, x44, x45, x46, x47, x48, x49, x50, x51, x52, x53, x54, x55, x56, x57, x58, x59, x60, x61, x62, x63, x64, x65, x66, x67, x68, x69, x70, x71, x72, x73, x74])), (h11, .inl (aC 0, 14, .inl (fun _ => 0)))] H := hP
  have hD : va_D A [(h1, .inr (11, [.int 0, x2, x3, x4, x5, x6, x7, x8, x9, x10, .ref h11, x12, x13, x14, x15, x16, x17, x18, x19, x20, x21, x22, x23, x24, x25, x26, x27, x28, x29, x30, x31, x32, x33, x34, x35, x36, x37, x38, x39, x40, x41, x42, x43, x44, x45, x46, x47, x48, x49, x50, x51, x52, x53, x54, x55, x56, x57, x58, x59, x60, x61, x62, x63, x64, x65, x66, x67, x68, x69, x70, x71, x72, x73, x74])), (h11, .inl (aC 0, 14, .inl (fun _ => 0)))] := hD
  refine lv_aload_n hx hb dX11_post_5 rfl (lv_at hl 0 rfl) ?_
  refine lv_iload_n hx hb dX11_post_6 rfl (lv_at hl 1 rfl) ?_
  refine goI (wr := []) (runV (n := 1) (As := [.int n_1]) (rest := []) F hP hD hS (a_X11_isPerson_1 l g aC aM h1 h11 (.int 0) x2 x3 x4 x5 x6 x7 x8 x9 x10 x12 x13 x14 x15 x16 x17 x18 x19 x20 x21 x22 x23 x24 x25 x26 x27 x28 x29 x30 x31 x32 x33 x34 x35 x36 x37 x38 x39 x40 x41 x42 x43 x44 x45 x46 x47 x48 x49 x50 x51 x52 x53 x54 x55 x56 x57 x58 x59 x60 x61 x62 x63 x64 x65 x66 x67 x68 x69 x70 x71 x72 x73 x74 n_1) [0, 1] (by decide) rfl 0 11 rfl rfl rfl tb1624 tb1621 tb1623 tv70 tb17 ⟨by decide, by decide, by decide +kernel⟩ ⟨Nat.le_of_ble_eq_true rfl, Nat.le_of_ble_eq_true rfl⟩ rfl hl.1 rfl (Nat.le_of_ble_eq_true rfl) dX11_post_7 ⟨Nat.le_of_ble_eq_true rfl, Nat.le_of_ble_eq_true rfl⟩) hP hD hS hA [0, 1] [] rfl rfl (by decide) (by decide) (fun r_2 w3 H locs hw hP hD hS => ?_)
  have hP : va_P g vwCl [(h1, .inr (11, [.int 0, x2, x3, x4, x5, x6, x7, x8, x9, x10, .ref h11, x12, x13, x14, x15, x16, x17, x18, x19, x20, x21, x22, x23, x24, x25, x26, x27, x28, x29, x30, x31, x32, x33, x34, x35, x36, x37, x38, x39, x40, x41, x42, x43, x44, x45, x46, x47, x48, x49, x50, x51, x52, x53, x54, x55, x56, x57, x58, x59, x60, x61, x62, x63, x64, x65, x66, x67, x68, x69, x70, x71, x72, x73, x74])), (h11, .inl (aC 0, 14, .inl (fun _ => 0)))] H := hP
  have hD : va_D A [(h1, .inr (11, [.int 0, x2, x3, x4, x5, x6, x7, x8, x9, x10, .ref h11, x12, x13, x14, x15, x16, x17, x18, x19, x20, x21, x22, x23, x24, x25, x26, x27, x28, x29, x30, x31, x32, x33, x34, x35, x36, x37, x38, x39, x40, x41, x42, x43, x44, x45, x46, x47, x48, x49, x50, x51, x52, x53, x54, x55, x56, x57, x58, x59, x60, x61, x62, x63, x64, x65, x66, x67, x68, x69, x70, x71, x72, x73, x74])), (h11, .inl (aC 0, 14, .inl (fun _ => 0)))] := hD
  try dsimp only at hw
  subst hw
  refine lv_if_eq (tgt := 22) hx hb dX11_post_10 (by decide) (fun _ => ?_) (fun c_ => absurd (by decide +kernel) c_)
  refine lv_iconst (v := (-1)) hx hb dX11_post_22 (by decide) ?_
  have hP9 := hP.sub (ws' := []) [] rfl
  have hD9 := hD.sub (ws' := []) [] (by decide) rfl
  exact rI () hx hb hr hlk rfl hS rfl hP9 hD9 (Nat.le_of_ble_eq_true rfl) (Nat.le_of_ble_eq_true rfl) dX11_post_23

theorem dX11_isWatched_0 : decode cX11_isWatched 0 = .ok (.iconst 0, 1) := by decide +kernel
theorem dX11_isWatched_1 : decode cX11_isWatched 1 = .ok (.istore_n 2, 1) := by decide +kernel
theorem dX11_isWatched_2 : decode cX11_isWatched 2 = .ok (.iload_n 2, 1) := by decide +kernel
theorem dX11_isWatched_3 : decode cX11_isWatched 3 = .ok (.aload_n 0, 1) := by decide +kernel
theorem dX11_isWatched_4 : decode cX11_isWatched 4 = .ok (.getfield 13, 3) := by decide +kernel
theorem dX11_isWatched_7 : decode cX11_isWatched 7 = .ok (.iconst 1, 1) := by decide +kernel
theorem dX11_isWatched_8 : decode cX11_isWatched 8 = .ok (.iaload, 1) := by decide +kernel
theorem dX11_isWatched_9 : decode cX11_isWatched 9 = .ok (.if_icmp .ge 82, 3) := by decide +kernel
theorem dX11_isWatched_91 : decode cX11_isWatched 91 = .ok (.iconst 1, 1) := by decide +kernel
theorem dX11_isWatched_92 : decode cX11_isWatched 92 = .ok (.ireturn, 1) := by decide +kernel
theorem dX11_watch_0 : decode cX11_watch 0 = .ok (.aload_n 0, 1) := by decide +kernel
theorem dX11_watch_1 : decode cX11_watch 1 = .ok (.iconst 0, 1) := by decide +kernel
theorem dX11_watch_2 : decode cX11_watch 2 = .ok (.putfield 180, 3) := by decide +kernel
theorem dX11_watch_5 : decode cX11_watch 5 = .ok (.iconst (-1), 1) := by decide +kernel
theorem dX11_watch_6 : decode cX11_watch 6 = .ok (.istore_n 1, 1) := by decide +kernel
theorem dX11_watch_7 : decode cX11_watch 7 = .ok (.iconst 0, 1) := by decide +kernel
theorem dX11_watch_8 : decode cX11_watch 8 = .ok (.istore_n 2, 1) := by decide +kernel
theorem dX11_watch_9 : decode cX11_watch 9 = .ok (.iload_n 2, 1) := by decide +kernel
theorem dX11_watch_10 : decode cX11_watch 10 = .ok (.iconst 1, 1) := by decide +kernel
theorem dX11_watch_11 : decode cX11_watch 11 = .ok (.aload_n 0, 1) := by decide +kernel
theorem dX11_watch_12 : decode cX11_watch 12 = .ok (.getfield 13, 3) := by decide +kernel
theorem dX11_watch_15 : decode cX11_watch 15 = .ok (.iconst 3, 1) := by decide +kernel
theorem dX11_watch_16 : decode cX11_watch 16 = .ok (.iaload, 1) := by decide +kernel
theorem dX11_watch_17 : decode cX11_watch 17 = .ok (.ishl, 1) := by decide +kernel
theorem dX11_watch_18 : decode cX11_watch 18 = .ok (.if_icmp .ge 34, 3) := by decide +kernel
theorem dX11_watch_21 : decode cX11_watch 21 = .ok (.iload_n 1, 1) := by decide +kernel
theorem dX11_watch_22 : decode cX11_watch 22 = .ok (.ifCond .lt 14, 3) := by decide +kernel
theorem dX11_watch_36 : decode cX11_watch 36 = .ok (.aload_n 0, 1) := by decide +kernel
theorem dX11_watch_37 : decode cX11_watch 37 = .ok (.iload_n 2, 1) := by decide +kernel
theorem dX11_watch_38 : decode cX11_watch 38 = .ok (.invokevirtual 565, 3) := by decide +kernel
set_option maxHeartbeats 4000000 in
set_option maxRecDepth 100000 in
theorem a_X11_isWatched_1 (l : Launch) (g : va_G) (aC : Nat → ClassId) (aM : Nat → Nat) (h1 h12 : Nat) (x2 x3 x4 x5 x6 x7 x8 x9 x10 x11 x13 x14 x15 x16 x17 x18 x19 x20 x21 x22 x23 x24 x25 x26 x27 x28 x29 x30 x31 x32 x33 x34 x35 x36 x37 x38 x39 x40 x41 x42 x43 x44 x45 x46 x47 x48 x49 x50 x51 x52 x53 x54 x55 x56 x57 x58 x59 x60 x61 x62 x63 x64 x65 x66 x67 x68 x69 x70 x71 x72 x73 x74 x75 : Value) : Ct l g aC aM yX11_isWatched cX11_isWatched 5 (some .boolean) 1 [.ref h1, .int 0] [(h1, .inr (11, [x2, x3, x4, x5, x6, x7, x8, x9, x10, x11, .ref h12, x13, x14, x15, x16, x17, x18, x19, x20, x21, x22, x23, x24, x25, x26, x27, x28, x29, x30, x31, x32, x33, x34, x35, x36, x37, x38, x39, x40, x41, x42, x43, x44, x45, x46, x47, x48, x49, x50, x51, x52, x53, x54, x55, x56, x57, x58, x59, x60, x61, x62, x63, x64, x65, x66, x67, x68, x69, x70, x71, x72, x73, x74, x75])), (h12, .inl (aC 0, 14, .inl (fun _ => 0)))] (QI g (fun (r : Int32) (_ : Unit) => r = 1) (fun (_ : Unit) => [(h1, .inr (11, [x2, x3, x4, x5, x6, x7, x8, x9, x10, x11, .ref h12, x13, x14, x15, x16, x17, x18, x19, x20, x21, x22, x23, x24, x25, x26, x27, x28, x29, x30, x31, x32, x33, x34, x35, x36, x37, x38, x39, x40, x41, x42, x43, x44, x45, x46, x47, x48, x49, x50, x51, x52, x53, x54, x55, x56, x57, x58, x59, x60, x61, x62, x63, x64, x65, x66, x67, x68, x69, x70, x71, x72, x73, x74, x75])), (h12, .inl (aC 0, 14, .inl (fun _ => 0)))])) 0 0 := by
  refine Ct.mk (by decide) (Nat.le_of_ble_eq_true rfl) ?_
  intro p e s m below meth c A ls hx hb hml hown hts hr hlk hnm hK hA hM hM2 hP hD hS hl
  have hown : s.vm.findClass RX11 = some m.cls := hown
  have F : Fx p s m _ c cX11_isWatched 5 RX11 g aC aM A := ⟨hx, hb, hml, hown, hts, hK, hA, hM, hM2⟩
  have hl : lv_has ls 5 [(0, .ref h1), (1, .int 0)] := hl
  refine lv_iconst (v := 0) hx hb dX11_isWatched_0 (by decide) ?_
  refine lv_istore_n (lv' := [(2, .int 0), (0, .ref h1), (1, .int 0)]) hx hb dX11_isWatched_1 rfl hl (by decide) rfl (fun ls hl => ?_)
  refine lv_iload_n hx hb dX11_isWatched_2 rfl (lv_at hl 0 rfl) ?_
  refine lv_aload_n hx hb dX11_isWatched_3 rfl (lv_at hl 1 rfl) ?_
  refine xget F hP 0 rfl rfl inX11 10 (by decide) tb1192 rfl dX11_isWatched_4 ?_
  refine lv_iconst (v := 1) hx hb dX11_isWatched_7 (by decide) ?_
  refine xilo (v := 0) F hP 1 rfl 1 (by decide +kernel) (by decide +kernel) (by decide) (by decide +kernel) dX11_isWatched_8 ?_
  refine lv_icmp_ge (tgt := 91) hx hb dX11_isWatched_9 (by decide) (fun _ => ?_) (fun c_ => absurd (by decide +kernel) c_)
  refine lv_iconst (v := 1) hx hb dX11_isWatched_91 (by decide) ?_
  have hP9 := hP.sub (ws' := [(h1, .inr (11, [x2, x3, x4, x5, x6, x7, x8, x9, x10, x11, .ref h12, x13, x14, x15, x16, x17, x18, x19, x20, x21, x22, x23, x24, x25, x26, x27, x28, x29, x30, x31, x32, x33, x34, x35, x36, x37, x38, x39, x40, x41, x42, x43, x44, x45, x46, x47, x48, x49, x50, x51, x52, x53, x54, x55, x56, x57, x58, x59, x60, x61, x62, x63, x64, x65, x66, x67, x68, x69, x70, x71, x72, x73, x74, x75])), (h12, .inl (aC 0, 14, .inl (fun _ => 0)))]) [0, 1] rfl
  have hD9 := hD.sub (ws' := [(h1, .inr (11, [x2, x3, x4, x5, x6, x7, x8, x9, x10, x11, .ref h12, x13, x14, x15, x16, x17, x18, x19, x20, x21, x22, x23, x24, x25, x26, x27, x28, x29, x30, x31, x32, x33, x34, x35, x36, x37, x38, x39, x40, x41, x42, x43, x44, x45, x46, x47, x48, x49, x50, x51, x52, x53, x54, x55, x56, x57, x58, x59, x60, x61, x62, x63, x64, x65, x66, x67, x68, x69, x70, x71, x72, x73, x74, x75])), (h12, .inl (aC 0, 14, .inl (fun _ => 0)))]) [0, 1] (by decide) rfl
  exact rI () hx hb hr hlk rfl hS rfl hP9 hD9 (Nat.le_of_ble_eq_true rfl) (Nat.le_of_ble_eq_true rfl) dX11_isWatched_92

theorem tb1854 : (Jvm.Cond.methodLink "StairGangModel" (565 : Nat) ({ cls := "StairGangModel", name := "isWatched", desc := "(I)Z" } : Jvm.MethodName)) ∈ gw := lw_m 1854 (by decide +kernel)
theorem tb1856 : (Jvm.Cond.instanceMethod ({ cls := "StairGangModel", name := "isWatched", desc := "(I)Z" } : Jvm.MethodName)) ∈ gw := lw_m 1856 (by decide +kernel)
theorem tb1857 : (Jvm.Cond.code ({ cls := "StairGangModel", name := "isWatched", desc := "(I)Z" } : Jvm.MethodName) prog_13_method_110_code (5 : Nat) (Option.some Jvm.ClassFile.FieldType.boolean)) ∈ gw := lw_m 1857 (by decide +kernel)
theorem tv105 : Cond.selects "StairGangModel" ⟨"StairGangModel", "isWatched", "(I)Z"⟩ ⟨"StairGangModel", "isWatched", "(I)Z"⟩ ∈ gw := lw_v 105 (by decide +kernel)
theorem dX11_watch_41 : decode cX11_watch 41 = .ok (.ifCond .eq 5, 3) := by decide +kernel
theorem dX11_watch_44 : decode cX11_watch 44 = .ok (.iload_n 2, 1) := by decide +kernel
theorem dX11_watch_45 : decode cX11_watch 45 = .ok (.istore_n 1, 1) := by decide +kernel
theorem dX11_watch_46 : decode cX11_watch 46 = .ok (.iinc 2 1, 3) := by decide +kernel
theorem dX11_watch_49 : decode cX11_watch 49 = .ok (.goto (-40), 3) := by decide +kernel
theorem dX11_watch_52 : decode cX11_watch 52 = .ok (.iload_n 1, 1) := by decide +kernel
theorem dX11_watch_53 : decode cX11_watch 53 = .ok (.ireturn, 1) := by decide +kernel
set_option maxHeartbeats 4000000 in
set_option maxRecDepth 100000 in
theorem m_watch (l : Launch) (g : va_G) (aC : Nat → ClassId) (aM : Nat → Nat) (h1 h11 : Nat) (x2 x3 x4 x5 x6 x7 x8 x9 x10 x12 x13 x14 x15 x16 x17 x18 x19 x20 x21 x22 x23 x24 x25 x26 x27 x28 x29 x30 x31 x32 x33 x34 x35 x36 x37 x38 x39 x40 x41 x42 x43 x44 x45 x46 x47 x48 x49 x50 x51 x52 x53 x54 x55 x56 x57 x58 x59 x60 x61 x62 x63 x64 x65 x66 x67 x68 x69 x70 x71 x72 x73 x74 : Value) : Ct l g aC aM yX11_watch cX11_watch 3 (some .int) 2 [.ref h1] [(h1, .inr (11, [.int 0, x2, x3, x4, x5, x6, x7, x8, x9, x10, .ref h11, x12, x13, x14, x15, x16, x17, x18, x19, x20, x21, x22, x23, x24, x25, x26, x27, x28, x29, x30, x31, x32, x33, x34, x35, x36, x37, x38, x39, x40, x41, x42, x43, x44, x45, x46, x47, x48, x49, x50, x51, x52, x53, x54, x55, x56, x57, x58, x59, x60, x61, x62, x63, x64, x65, x66, x67, x68, x69, x70, x71, x72, x73, x74])), (h11, .inl (aC 0, 14, .inl (fun _ => 0)))] (QI g (fun (r : Int32) (_ : Unit) => r = 0) (fun (_ : Unit) => [])) 0 0 := by
  refine Ct.mk (by decide) (Nat.le_of_ble_eq_true rfl) ?_
  intro p e s m below meth c A ls hx hb hml hown hts hr hlk hnm hK hA hM hM2 hP hD hS hl
  have hown : s.vm.findClass RX11 = some m.cls := hown
  have F : Fx p s m _ c cX11_watch 3 RX11 g aC aM A := ⟨hx, hb, hml, hown, hts, hK, hA, hM, hM2⟩
  have hl : lv_has ls 3 [(0, .ref h1)] := hl
  refine lv_aload_n hx hb dX11_watch_0 rfl (lv_at hl 0 rfl) ?_
  refine lv_iconst (v := 0) hx hb dX11_watch_1 (by decide) ?_
  refine xput F hP hD hS 0 rfl rfl inX11 tyX11_ok nmX11 0 (by decide) tb1182 rfl rfl rfl (Nat.le_of_ble_eq_true rfl) dX11_watch_2 (fun H locs hP hD hS => ?_)
  have hP : va_P g vwCl [(h1, .inr (11, [.int 0, x2, x3, x4, x5, x6, x7, x8, x9, x10, .ref h11, x12, x13, x14, x15, x16, x17, x18, x19, x20, x21, x22, x23, x24, x25, x26, x27, x28, x29, x30, x31, x32, x33, x34, x35, x36, x37, x38, x39, x40, x41, x42, x43, x44, x45, x46, x47, x48, x49, x50, x51, x52, x53, x54, x55, x56, x57, x58, x59, x60, x61, x62, x63, x64, x65, x66, x67, x68, x69, x70, x71, x72, x73, x74])), (h11, .inl (aC 0, 14, .inl (fun _ => 0)))] H := hP
  have hD : va_D A [(h1, .inr (11, [.int 0, x2, x3, x4, x5, x6, x7, x8, x9, x10, .ref h11, x12, x13, x14, x15, x16, x17, x18, x19, x20, x21, x22, x23, x24, x25, x26, x27, x28, x29, x30, x31, x32, x33, x34, x35, x36, x37, x38, x39, x40, x41, x42, x43, x44, x45, x46, x47, x48, x49, x50, x51, x52, x53, x54, x55, x56, x57, x58, x59, x60, x61, x62, x63, x64, x65, x66, x67, x68, x69, x70, x71, x72, x73, x74])), (h11, .inl (aC 0, 14, .inl (fun _ => 0)))] := hD
  refine lv_iconst (v := (-1)) hx hb dX11_watch_5 (by decide) ?_
  refine lv_istore_n (lv' := [(1, .int (-1)), (0, .ref h1)]) hx hb dX11_watch_6 rfl hl (by decide) rfl (fun ls hl => ?_)
  refine lv_iconst (v := 0) hx hb dX11_watch_7 (by decide) ?_
  refine lv_istore_n (lv' := [(2, .int 0), (1, .int (-1)), (0, .ref h1)]) hx hb dX11_watch_8 rfl hl (by decide) rfl (fun ls hl => ?_)
  refine lv_iload_n hx hb dX11_watch_9 rfl (lv_at hl 0 rfl) ?_
  refine lv_iconst (v := 1) hx hb dX11_watch_10 (by decide) ?_
  refine lv_aload_n hx hb dX11_watch_11 rfl (lv_at hl 2 rfl) ?_
  refine xget F hP 0 rfl rfl inX11 10 (by decide) tb1192 rfl dX11_watch_12 ?_
  refine lv_iconst (v := 3) hx hb dX11_watch_15 (by decide) ?_
  refine xilo (v := 0) F hP 1 rfl 3 (by decide +kernel) (by decide +kernel) (by decide) (by decide +kernel) dX11_watch_16 ?_
  refine lv_ishl hx hb dX11_watch_17 ?_
  refine relit (v := 1) (by decide +kernel) ?_
  refine lv_icmp_ge (tgt := 52) hx hb dX11_watch_18 (by decide) (fun c_ => absurd c_ (by decide +kernel)) (fun _ => ?_)
  refine lv_iload_n hx hb dX11_watch_21 rfl (lv_at hl 1 rfl) ?_
  refine lv_if_lt (tgt := 36) hx hb dX11_watch_22 (by decide) (fun _ => ?_) (fun c_ => absurd (by decide +kernel) c_)
  refine lv_aload_n hx hb dX11_watch_36 rfl (lv_at hl 2 rfl) ?_
  refine lv_iload_n hx hb dX11_watch_37 rfl (lv_at hl 0 rfl) ?_
  refine goI (wr := []) (runV (n := 1) (As := [.int 0]) (rest := []) F hP hD hS (a_X11_isWatched_1 l g aC aM h1 h11 (.int 0) x2 x3 x4 x5 x6 x7 x8 x9 x10 x12 x13 x14 x15 x16 x17 x18 x19 x20 x21 x22 x23 x24 x25 x26 x27 x28 x29 x30 x31 x32 x33 x34 x35 x36 x37 x38 x39 x40 x41 x42 x43 x44 x45 x46 x47 x48 x49 x50 x51 x52 x53 x54 x55 x56 x57 x58 x59 x60 x61 x62 x63 x64 x65 x66 x67 x68 x69 x70 x71 x72 x73 x74) [0, 1] (by decide) rfl 0 11 rfl rfl rfl tb1857 tb1854 tb1856 tv105 tb17 ⟨by decide, by decide, by decide +kernel⟩ ⟨Nat.le_of_ble_eq_true rfl, Nat.le_of_ble_eq_true rfl⟩ rfl hl.1 rfl (Nat.le_of_ble_eq_true rfl) dX11_watch_38 ⟨Nat.le_of_ble_eq_true rfl, Nat.le_of_ble_eq_true rfl⟩) hP hD hS hA [0, 1] [] rfl rfl (by decide) (by decide) (fun r_4 w5 H locs hw hP hD hS => ?_)
  have hP : va_P g vwCl [(h1, .inr (11, [.int 0, x2, x3, x4, x5, x6, x7, x8, x9, x10, .ref h11, x12, x13, x14, x15, x16, x17, x18, x19, x20, x21, x22, x23, x24, x25, x26, x27, x28, x29, x30, x31, x32, x33, x34, x35, x36, x37, x38, x39, x40, x41, x42, x43, x44, x45, x46, x47, x48, x49, x50, x51, x52, x53, x54, x55, x56, x57, x58, x59, x60, x61, x62, x63, x64, x65, x66, x67, x68, x69, x70, x71, x72, x73, x74])), (h11, .inl (aC 0, 14, .inl (fun _ => 0)))] H := hP
  have hD : va_D A [(h1, .inr (11, [.int 0, x2, x3, x4, x5, x6, x7, x8, x9, x10, .ref h11, x12, x13, x14, x15, x16, x17, x18, x19, x20, x21, x22, x23, x24, x25, x26, x27, x28, x29, x30, x31, x32, x33, x34, x35, x36, x37, x38, x39, x40, x41, x42, x43, x44, x45, x46, x47, x48, x49, x50, x51, x52, x53, x54, x55, x56, x57, x58, x59, x60, x61, x62, x63, x64, x65, x66, x67, x68, x69, x70, x71, x72, x73, x74])), (h11, .inl (aC 0, 14, .inl (fun _ => 0)))] := hD
  try dsimp only at hw
  subst hw
  refine lv_if_eq (tgt := 46) hx hb dX11_watch_41 (by decide) (fun c_ => absurd c_ (by decide +kernel)) (fun _ => ?_)
  refine lv_iload_n hx hb dX11_watch_44 rfl (lv_at hl 0 rfl) ?_
  refine lv_istore_n (lv' := [(1, .int 0), (2, .int 0), (0, .ref h1)]) hx hb dX11_watch_45 rfl hl (by decide) rfl (fun ls hl => ?_)
  refine lv_iinc (v := 1) (lv' := [(2, .int 1), (1, .int 0), (0, .ref h1)]) hx hb dX11_watch_46 hl (k := 1) rfl (by decide +kernel) (by decide) rfl (fun ls hl => ?_)
  refine lv_goto (tgt := 9) hx hb dX11_watch_49 (by decide) ?_
  refine lv_iload_n hx hb dX11_watch_9 rfl (lv_at hl 0 rfl) ?_
  refine lv_iconst (v := 1) hx hb dX11_watch_10 (by decide) ?_
  refine lv_aload_n hx hb dX11_watch_11 rfl (lv_at hl 2 rfl) ?_
  refine xget F hP 0 rfl rfl inX11 10 (by decide) tb1192 rfl dX11_watch_12 ?_
  refine lv_iconst (v := 3) hx hb dX11_watch_15 (by decide) ?_
  refine xilo (v := 0) F hP 1 rfl 3 (by decide +kernel) (by decide +kernel) (by decide) (by decide +kernel) dX11_watch_16 ?_
  refine lv_ishl hx hb dX11_watch_17 ?_
  refine relit (v := 1) (by decide +kernel) ?_
  refine lv_icmp_ge (tgt := 52) hx hb dX11_watch_18 (by decide) (fun _ => ?_) (fun c_ => absurd (by decide +kernel) c_)
  refine lv_iload_n hx hb dX11_watch_52 rfl (lv_at hl 1 rfl) ?_
  have hP9 := hP.sub (ws' := []) [] rfl
  have hD9 := hD.sub (ws' := []) [] (by decide) rfl
  exact rI () hx hb hr hlk rfl hS rfl hP9 hD9 (Nat.le_of_ble_eq_true rfl) (Nat.le_of_ble_eq_true rfl) dX11_watch_53

theorem dX11_live_0 : decode cX11_live 0 = .ok (.aload_n 0, 1) := by decide +kernel
theorem dX11_live_1 : decode cX11_live 1 = .ok (.iconst 0, 1) := by decide +kernel
theorem dX11_live_2 : decode cX11_live 2 = .ok (.putfield 180, 3) := by decide +kernel
theorem dX11_live_5 : decode cX11_live 5 = .ok (.aload_n 0, 1) := by decide +kernel
theorem dX11_live_6 : decode cX11_live 6 = .ok (.iload_n 1, 1) := by decide +kernel
theorem dX11_live_7 : decode cX11_live 7 = .ok (.invokevirtual 445, 3) := by decide +kernel
theorem dX11_live_10 : decode cX11_live 10 = .ok (.ifCond .eq 21, 3) := by decide +kernel
theorem dX11_live_31 : decode cX11_live 31 = .ok (.iconst (-1), 1) := by decide +kernel
theorem dX11_live_32 : decode cX11_live 32 = .ok (.ireturn, 1) := by decide +kernel
set_option maxHeartbeats 4000000 in
set_option maxRecDepth 100000 in
theorem m_live (l : Launch) (g : va_G) (aC : Nat → ClassId) (aM : Nat → Nat) (h1 h11 : Nat) (x2 x3 x4 x5 x6 x7 x8 x9 x10 x12 x13 x14 x15 x16 x17 x18 x19 x20 x21 x22 x23 x24 x25 x26 x27 x28 x29 x30 x31 x32 x33 x34 x35 x36 x37 x38 x39 x40 x41 x42 x43 x44 x45 x46 x47 x48 x49 x50 x51 x52 x53 x54 x55 x56 x57 x58 x59 x60 x61 x62 x63 x64 x65 x66 x67 x68 x69 x70 x71 x72 x73 x74 : Value) (n_1 n_2 n_3 : Int32) : Ct l g aC aM yX11_live cX11_live 4 (some .int) 2 [.ref h1, .int n_1, .int n_2, .int n_3] [(h1, .inr (11, [.int 0, x2, x3, x4, x5, x6, x7, x8, x9, x10, .ref h11, x12, x13, x14, x15, x16, x17, x18, x19, x20, x21, x22, x23, x24, x25, x26, x27, x28, x29, x30, x31, x32, x33, x34, x35, x36, x37, x38, x39, x40, x41, x42, x43, x44, x45, x46, x47, x48, x49, x50, x51, x52, x53, x54, x55, x56, x57, x58, x59, x60, x61, x62, x63, x64, x65, x66, x67, x68, x69, x70, x71, x72, x73, x74])), (h11, .inl (aC 0, 14, .inl (fun _ => 0)))] (QI g (fun (r : Int32) (_ : Unit) => r = (-1)) (fun (_ : Unit) => [])) 0 0 := by
  refine Ct.mk (by decide) (Nat.le_of_ble_eq_true rfl) ?_
  intro p e s m below meth c A ls hx hb hml hown hts hr hlk hnm hK hA hM hM2 hP hD hS hl
  have hown : s.vm.findClass RX11 = some m.cls := hown
  have F : Fx p s m _ c cX11_live 4 RX11 g aC aM A := ⟨hx, hb, hml, hown, hts, hK, hA, hM, hM2⟩
  have hl : lv_has ls 4 [(0, .ref h1), (1, .int n_1), (2, .int n_2), (3, .int n_3)] := hl
  refine lv_aload_n hx hb dX11_live_0 rfl (lv_at hl 0 rfl) ?_
  refine lv_iconst (v := 0) hx hb dX11_live_1 (by decide) ?_
  refine xput F hP hD hS 0 rfl rfl inX11 tyX11_ok nmX11 0 (by decide) tb1182 rfl rfl rfl (Nat.le_of_ble_eq_true rfl) dX11_live_2 (fun H locs hP hD hS => ?_)
  have hP : va_P g vwCl [(h1, .inr (11, [.int 0, x2, x3, x4, x5, x6, x7, x8, x9, x10, .ref h11, x12, x13, x14, x15, x16, x17, x18, x19, x20, x21, x22, x23, x24, x25, x26, x27, x28, x29, x30, x31, x32, x33, x34, x35, x36, x37, x38, x39, x40, x41, x42, x43, x44, x45, x46, x47, x48, x49, x50, x51, x52, x53, x54, x55, x56, x57, x58, x59, x60, x61, x62, x63, x64, x65, x66, x67, x68, x69, x70, x71, x72, x73, x74])), (h11, .inl (aC 0, 14, .inl (fun _ => 0)))] H := hP
  have hD : va_D A [(h1, .inr (11, [.int 0, x2, x3, x4, x5, x6, x7, x8, x9, x10, .ref h11, x12, x13, x14, x15, x16, x17, x18, x19, x20, x21, x22, x23, x24, x25, x26, x27, x28, x29, x30, x31, x32, x33, x34, x35, x36, x37, x38, x39, x40, x41, x42, x43, x44, x45, x46, x47, x48, x49, x50, x51, x52, x53, x54, x55, x56, x57, x58, x59, x60, x61, x62, x63, x64, x65, x66, x67, x68, x69, x70, x71, x72, x73, x74])), (h11, .inl (aC 0, 14, .inl (fun _ => 0)))] := hD
  refine lv_aload_n hx hb dX11_live_5 rfl (lv_at hl 0 rfl) ?_
  refine lv_iload_n hx hb dX11_live_6 rfl (lv_at hl 1 rfl) ?_
  refine goI (wr := []) (runV (n := 1) (As := [.int n_1]) (rest := []) F hP hD hS (a_X11_isPerson_1 l g aC aM h1 h11 (.int 0) x2 x3 x4 x5 x6 x7 x8 x9 x10 x12 x13 x14 x15 x16 x17 x18 x19 x20 x21 x22 x23 x24 x25 x26 x27 x28 x29 x30 x31 x32 x33 x34 x35 x36 x37 x38 x39 x40 x41 x42 x43 x44 x45 x46 x47 x48 x49 x50 x51 x52 x53 x54 x55 x56 x57 x58 x59 x60 x61 x62 x63 x64 x65 x66 x67 x68 x69 x70 x71 x72 x73 x74 n_1) [0, 1] (by decide) rfl 0 11 rfl rfl rfl tb1624 tb1621 tb1623 tv70 tb17 ⟨by decide, by decide, by decide +kernel⟩ ⟨Nat.le_of_ble_eq_true rfl, Nat.le_of_ble_eq_true rfl⟩ rfl hl.1 rfl (Nat.le_of_ble_eq_true rfl) dX11_live_7 ⟨Nat.le_of_ble_eq_true rfl, Nat.le_of_ble_eq_true rfl⟩) hP hD hS hA [0, 1] [] rfl rfl (by decide) (by decide) (fun r_2 w3 H locs hw hP hD hS => ?_)
  have hP : va_P g vwCl [(h1, .inr (11, [.int 0, x2, x3, x4, x5, x6, x7, x8, x9, x10, .ref h11, x12, x13, x14, x15, x16, x17, x18, x19, x20, x21, x22, x23, x24, x25, x26, x27, x28, x29, x30, x31, x32, x33, x34, x35, x36, x37, x38, x39, x40, x41, x42, x43, x44, x45, x46, x47, x48, x49, x50, x51, x52, x53, x54, x55, x56, x57, x58, x59, x60, x61, x62, x63, x64, x65, x66, x67, x68, x69, x70, x71, x72, x73, x74])), (h11, .inl (aC 0, 14, .inl (fun _ => 0)))] H := hP
  have hD : va_D A [(h1, .inr (11, [.int 0, x2, x3, x4, x5, x6, x7, x8, x9, x10, .ref h11, x12, x13, x14, x15, x16, x17, x18, x19, x20, x21, x22, x23, x24, x25, x26, x27, x28, x29, x30, x31, x32, x33, x34, x35, x36, x37, x38, x39, x40, x41, x42, x43, x44, x45, x46, x47, x48, x49, x50, x51, x52, x53, x54, x55, x56, x57, x58, x59, x60, x61, x62, x63, x64, x65, x66, x67, x68, x69, x70, x71, x72, x73, x74])), (h11, .inl (aC 0, 14, .inl (fun _ => 0)))] := hD
  try dsimp only at hw
  subst hw
  refine lv_if_eq (tgt := 31) hx hb dX11_live_10 (by decide) (fun _ => ?_) (fun c_ => absurd (by decide +kernel) c_)
  refine lv_iconst (v := (-1)) hx hb dX11_live_31 (by decide) ?_
  have hP9 := hP.sub (ws' := []) [] rfl
  have hD9 := hD.sub (ws' := []) [] (by decide) rfl
  exact rI () hx hb hr hlk rfl hS rfl hP9 hD9 (Nat.le_of_ble_eq_true rfl) (Nat.le_of_ble_eq_true rfl) dX11_live_32

theorem dX11_best_0 : decode cX11_best 0 = .ok (.aload_n 0, 1) := by decide +kernel
theorem dX11_best_1 : decode cX11_best 1 = .ok (.iconst 0, 1) := by decide +kernel
theorem dX11_best_2 : decode cX11_best 2 = .ok (.putfield 180, 3) := by decide +kernel
theorem dX11_best_5 : decode cX11_best 5 = .ok (.aload_n 0, 1) := by decide +kernel
theorem dX11_best_6 : decode cX11_best 6 = .ok (.iload_n 1, 1) := by decide +kernel
theorem dX11_best_7 : decode cX11_best 7 = .ok (.invokevirtual 445, 3) := by decide +kernel
theorem dX11_best_10 : decode cX11_best 10 = .ok (.ifCond .eq 13, 3) := by decide +kernel
theorem dX11_best_23 : decode cX11_best 23 = .ok (.iconst (-1), 1) := by decide +kernel
theorem dX11_best_24 : decode cX11_best 24 = .ok (.ireturn, 1) := by decide +kernel
set_option maxHeartbeats 4000000 in
set_option maxRecDepth 100000 in
theorem m_best (l : Launch) (g : va_G) (aC : Nat → ClassId) (aM : Nat → Nat) (h1 h11 : Nat) (x2 x3 x4 x5 x6 x7 x8 x9 x10 x12 x13 x14 x15 x16 x17 x18 x19 x20 x21 x22 x23 x24 x25 x26 x27 x28 x29 x30 x31 x32 x33 x34 x35 x36 x37 x38 x39 x40 x41 x42 x43 x44 x45 x46 x47 x48 x49 x50 x51 x52 x53 x54 x55 x56 x57 x58 x59 x60 x61 x62 x63 x64 x65 x66 x67 x68 x69 x70 x71 x72 x73 x74 : Value) (n_1 n_2 : Int32) : Ct l g aC aM yX11_best cX11_best 7 (some .int) 2 [.ref h1, .int n_1, .int n_2] [(h1, .inr (11, [.int 0, x2, x3, x4, x5, x6, x7, x8, x9, x10, .ref h11, x12, x13, x14, x15, x16, x17, x18, x19, x20, x21, x22, x23, x24, x25, x26, x27, x28, x29, x30, x31, x32, x33, x34, x35, x36, x37, x38, x39, x40, x41, x42, x43, x44, x45, x46, x47, x48, x49, x50, x51, x52, x53, x54, x55, x56, x57, x58, x59, x60, x61, x62, x63, x64, x65, x66, x67, x68, x69, x70, x71, x72, x73, x74])), (h11, .inl (aC 0, 14, .inl (fun _ => 0)))] (QI g (fun (r : Int32) (_ : Unit) => r = (-1)) (fun (_ : Unit) => [])) 0 0 := by
  refine Ct.mk (by decide) (Nat.le_of_ble_eq_true rfl) ?_
  intro p e s m below meth c A ls hx hb hml hown hts hr hlk hnm hK hA hM hM2 hP hD hS hl
  have hown : s.vm.findClass RX11 = some m.cls := hown
  have F : Fx p s m _ c cX11_best 7 RX11 g aC aM A := ⟨hx, hb, hml, hown, hts, hK, hA, hM, hM2⟩
  have hl : lv_has ls 7 [(0, .ref h1), (1, .int n_1), (2, .int n_2)] := hl
  refine lv_aload_n hx hb dX11_best_0 rfl (lv_at hl 0 rfl) ?_
  refine lv_iconst (v := 0) hx hb dX11_best_1 (by decide) ?_
  refine xput F hP hD hS 0 rfl rfl inX11 tyX11_ok nmX11 0 (by decide) tb1182 rfl rfl rfl (Nat.le_of_ble_eq_true rfl) dX11_best_2 (fun H locs hP hD hS => ?_)
  have hP : va_P g vwCl [(h1, .inr (11, [.int 0, x2, x3, x4, x5, x6, x7, x8, x9, x10, .ref h11, x12, x13, x14, x15, x16, x17, x18, x19, x20, x21, x22, x23, x24, x25, x26, x27, x28, x29, x30, x31, x32, x33, x34, x35, x36, x37, x38, x39, x40, x41, x42, x43, x44, x45, x46, x47, x48, x49, x50, x51, x52, x53, x54, x55, x56, x57, x58, x59, x60, x61, x62, x63, x64, x65, x66, x67, x68, x69, x70, x71, x72, x73, x74])), (h11, .inl (aC 0, 14, .inl (fun _ => 0)))] H := hP
  have hD : va_D A [(h1, .inr (11, [.int 0, x2, x3, x4, x5, x6, x7, x8, x9, x10, .ref h11, x12, x13, x14, x15, x16, x17, x18, x19, x20, x21, x22, x23, x24, x25, x26, x27, x28, x29, x30, x31, x32, x33, x34, x35, x36, x37, x38, x39, x40, x41, x42, x43, x44, x45, x46, x47, x48, x49, x50, x51, x52, x53, x54, x55, x56, x57, x58, x59, x60, x61, x62, x63, x64, x65, x66, x67, x68, x69, x70, x71, x72, x73, x74])), (h11, .inl (aC 0, 14, .inl (fun _ => 0)))] := hD
  refine lv_aload_n hx hb dX11_best_5 rfl (lv_at hl 0 rfl) ?_
  refine lv_iload_n hx hb dX11_best_6 rfl (lv_at hl 1 rfl) ?_
  refine goI (wr := []) (runV (n := 1) (As := [.int n_1]) (rest := []) F hP hD hS (a_X11_isPerson_1 l g aC aM h1 h11 (.int 0) x2 x3 x4 x5 x6 x7 x8 x9 x10 x12 x13 x14 x15 x16 x17 x18 x19 x20 x21 x22 x23 x24 x25 x26 x27 x28 x29 x30 x31 x32 x33 x34 x35 x36 x37 x38 x39 x40 x41 x42 x43 x44 x45 x46 x47 x48 x49 x50 x51 x52 x53 x54 x55 x56 x57 x58 x59 x60 x61 x62 x63 x64 x65 x66 x67 x68 x69 x70 x71 x72 x73 x74 n_1) [0, 1] (by decide) rfl 0 11 rfl rfl rfl tb1624 tb1621 tb1623 tv70 tb17 ⟨by decide, by decide, by decide +kernel⟩ ⟨Nat.le_of_ble_eq_true rfl, Nat.le_of_ble_eq_true rfl⟩ rfl hl.1 rfl (Nat.le_of_ble_eq_true rfl) dX11_best_7 ⟨Nat.le_of_ble_eq_true rfl, Nat.le_of_ble_eq_true rfl⟩) hP hD hS hA [0, 1] [] rfl rfl (by decide) (by decide) (fun r_2 w3 H locs hw hP hD hS => ?_)
  have hP : va_P g vwCl [(h1, .inr (11, [.int 0, x2, x3, x4, x5, x6, x7, x8, x9, x10, .ref h11, x12, x13, x14, x15, x16, x17, x18, x19, x20, x21, x22, x23, x24, x25, x26, x27, x28, x29, x30, x31, x32, x33, x34, x35, x36, x37, x38, x39, x40, x41, x42, x43, x44, x45, x46, x47, x48, x49, x50, x51, x52, x53, x54, x55, x56, x57, x58, x59, x60, x61, x62, x63, x64, x65, x66, x67, x68, x69, x70, x71, x72, x73, x74])), (h11, .inl (aC 0, 14, .inl (fun _ => 0)))] H := hP
  have hD : va_D A [(h1, .inr (11, [.int 0, x2, x3, x4, x5, x6, x7, x8, x9, x10, .ref h11, x12, x13, x14, x15, x16, x17, x18, x19, x20, x21, x22, x23, x24, x25, x26, x27, x28, x29, x30, x31, x32, x33, x34, x35, x36, x37, x38, x39, x40, x41, x42, x43, x44, x45, x46, x47, x48, x49, x50, x51, x52, x53, x54, x55, x56, x57, x58, x59, x60, x61, x62, x63, x64, x65, x66, x67, x68, x69, x70, x71, x72, x73, x74])), (h11, .inl (aC 0, 14, .inl (fun _ => 0)))] := hD
  try dsimp only at hw
  subst hw
  refine lv_if_eq (tgt := 23) hx hb dX11_best_10 (by decide) (fun _ => ?_) (fun c_ => absurd (by decide +kernel) c_)
  refine lv_iconst (v := (-1)) hx hb dX11_best_23 (by decide) ?_
  have hP9 := hP.sub (ws' := []) [] rfl
  have hD9 := hD.sub (ws' := []) [] (by decide) rfl
  exact rI () hx hb hr hlk rfl hS rfl hP9 hD9 (Nat.le_of_ble_eq_true rfl) (Nat.le_of_ble_eq_true rfl) dX11_best_24

theorem tb1183 : (Jvm.Cond.fieldLink "StairGangModel" (186 : Nat) "StairGangModel" "taped" "I") ∈ gw := lw_m 1183 (by decide +kernel)
theorem tb1185 : (Jvm.Cond.fieldLink "StairGangModel" (189 : Nat) "StairGangModel" "size" "I") ∈ gw := lw_m 1185 (by decide +kernel)
theorem tb1186 : (Jvm.Cond.fieldLink "StairGangModel" (192 : Nat) "StairGangModel" "place" "I") ∈ gw := lw_m 1186 (by decide +kernel)
theorem tb1187 : (Jvm.Cond.fieldLink "StairGangModel" (195 : Nat) "StairGangModel" "begin" "I") ∈ gw := lw_m 1187 (by decide +kernel)
theorem tb1188 : (Jvm.Cond.fieldLink "StairGangModel" (205 : Nat) "StairGangModel" "token" "I") ∈ gw := lw_m 1188 (by decide +kernel)
theorem tb1189 : (Jvm.Cond.fieldLink "StairGangModel" (198 : Nat) "StairGangModel" "word" "J") ∈ gw := lw_m 1189 (by decide +kernel)
theorem tb1190 : (Jvm.Cond.fieldLink "StairGangModel" (202 : Nat) "StairGangModel" "told" "I") ∈ gw := lw_m 1190 (by decide +kernel)
theorem tb1213 : (Jvm.Cond.fieldLink "StairGangModel" (219 : Nat) "StairGangModel" "code" "I") ∈ gw := lw_m 1213 (by decide +kernel)
theorem tb1214 : (Jvm.Cond.fieldLink "StairGangModel" (343 : Nat) "StairGangModel" "toldLines" "I") ∈ gw := lw_m 1214 (by decide +kernel)
theorem dX11_nextToken_0 : decode cX11_nextToken 0 = .ok (.aload_n 0, 1) := by decide +kernel
theorem dX11_nextToken_1 : decode cX11_nextToken 1 = .ok (.getfield 192, 3) := by decide +kernel
theorem dX11_nextToken_4 : decode cX11_nextToken 4 = .ok (.aload_n 0, 1) := by decide +kernel
theorem dX11_nextToken_5 : decode cX11_nextToken 5 = .ok (.getfield 189, 3) := by decide +kernel
theorem dX11_nextToken_8 : decode cX11_nextToken 8 = .ok (.if_icmp .ge 44, 3) := by decide +kernel
theorem dX11_nextToken_52 : decode cX11_nextToken 52 = .ok (.aload_n 0, 1) := by decide +kernel
theorem dX11_nextToken_53 : decode cX11_nextToken 53 = .ok (.aload_n 0, 1) := by decide +kernel
theorem dX11_nextToken_54 : decode cX11_nextToken 54 = .ok (.getfield 192, 3) := by decide +kernel
theorem dX11_nextToken_57 : decode cX11_nextToken 57 = .ok (.putfield 195, 3) := by decide +kernel
theorem dX11_nextToken_60 : decode cX11_nextToken 60 = .ok (.aload_n 0, 1) := by decide +kernel
theorem dX11_nextToken_61 : decode cX11_nextToken 61 = .ok (.lconst 0, 1) := by decide +kernel
theorem dX11_nextToken_62 : decode cX11_nextToken 62 = .ok (.putfield 198, 3) := by decide +kernel
theorem dX11_nextToken_65 : decode cX11_nextToken 65 = .ok (.aload_n 0, 1) := by decide +kernel
theorem dX11_nextToken_66 : decode cX11_nextToken 66 = .ok (.iconst 0, 1) := by decide +kernel
theorem dX11_nextToken_67 : decode cX11_nextToken 67 = .ok (.putfield 202, 3) := by decide +kernel
theorem dX11_nextToken_70 : decode cX11_nextToken 70 = .ok (.aload_n 0, 1) := by decide +kernel
theorem dX11_nextToken_71 : decode cX11_nextToken 71 = .ok (.getfield 192, 3) := by decide +kernel
theorem dX11_nextToken_74 : decode cX11_nextToken 74 = .ok (.aload_n 0, 1) := by decide +kernel
theorem dX11_nextToken_75 : decode cX11_nextToken 75 = .ok (.getfield 189, 3) := by decide +kernel
theorem dX11_nextToken_78 : decode cX11_nextToken 78 = .ok (.if_icmp .ne 9, 3) := by decide +kernel
theorem dX11_nextToken_81 : decode cX11_nextToken 81 = .ok (.aload_n 0, 1) := by decide +kernel
theorem dX11_nextToken_82 : decode cX11_nextToken 82 = .ok (.iconst 0, 1) := by decide +kernel
theorem dX11_nextToken_83 : decode cX11_nextToken 83 = .ok (.putfield 205, 3) := by decide +kernel
theorem dX11_nextToken_86 : decode cX11_nextToken 86 = .ok (.return_, 1) := by decide +kernel
theorem dX11_readsAll_0 : decode cX11_readsAll 0 = .ok (.bipush 7, 2) := by decide +kernel
theorem dX11_readsAll_2 : decode cX11_readsAll 2 = .ok (.istore_n 1, 1) := by decide +kernel
theorem dX11_readsAll_3 : decode cX11_readsAll 3 = .ok (.iload_n 1, 1) := by decide +kernel
theorem dX11_readsAll_4 : decode cX11_readsAll 4 = .ok (.bipush 14, 2) := by decide +kernel
theorem dX11_readsAll_6 : decode cX11_readsAll 6 = .ok (.if_icmp .ge 26, 3) := by decide +kernel
theorem dX11_readsAll_9 : decode cX11_readsAll 9 = .ok (.aload_n 0, 1) := by decide +kernel
theorem dX11_readsAll_10 : decode cX11_readsAll 10 = .ok (.getfield 13, 3) := by decide +kernel
theorem dX11_readsAll_13 : decode cX11_readsAll 13 = .ok (.iload_n 1, 1) := by decide +kernel
theorem dX11_readsAll_14 : decode cX11_readsAll 14 = .ok (.iload_n 1, 1) := by decide +kernel
theorem dX11_readsAll_15 : decode cX11_readsAll 15 = .ok (.bipush 13, 2) := by decide +kernel
theorem dX11_readsAll_17 : decode cX11_readsAll 17 = .ok (.if_icmp .ne 7, 3) := by decide +kernel
theorem dX11_readsAll_20 : decode cX11_readsAll 20 = .ok (.iconst 5, 1) := by decide +kernel
theorem dX11_readsAll_21 : decode cX11_readsAll 21 = .ok (.goto 4, 3) := by decide +kernel
theorem dX11_readsAll_24 : decode cX11_readsAll 24 = .ok (.iconst 0, 1) := by decide +kernel
theorem dX11_readsAll_25 : decode cX11_readsAll 25 = .ok (.iastore, 1) := by decide +kernel
theorem dX11_readsAll_26 : decode cX11_readsAll 26 = .ok (.iinc 1 1, 3) := by decide +kernel
theorem dX11_readsAll_29 : decode cX11_readsAll 29 = .ok (.goto (-26), 3) := by decide +kernel
theorem dX11_readsAll_32 : decode cX11_readsAll 32 = .ok (.aload_n 0, 1) := by decide +kernel
theorem dX11_readsAll_33 : decode cX11_readsAll 33 = .ok (.getfield 68, 3) := by decide +kernel
theorem dX11_readsAll_36 : decode cX11_readsAll 36 = .ok (.iconst 1, 1) := by decide +kernel
theorem dX11_readsAll_37 : decode cX11_readsAll 37 = .ok (.sipush 1000, 3) := by decide +kernel
theorem dX11_readsAll_40 : decode cX11_readsAll 40 = .ok (.iastore, 1) := by decide +kernel
theorem dX11_readsAll_41 : decode cX11_readsAll 41 = .ok (.aload_n 0, 1) := by decide +kernel
theorem dX11_readsAll_42 : decode cX11_readsAll 42 = .ok (.getfield 71, 3) := by decide +kernel
theorem dX11_readsAll_45 : decode cX11_readsAll 45 = .ok (.iconst 1, 1) := by decide +kernel
theorem dX11_readsAll_46 : decode cX11_readsAll 46 = .ok (.sipush 1000, 3) := by decide +kernel
theorem dX11_readsAll_49 : decode cX11_readsAll 49 = .ok (.iastore, 1) := by decide +kernel
theorem dX11_readsAll_50 : decode cX11_readsAll 50 = .ok (.aload_n 0, 1) := by decide +kernel
theorem dX11_readsAll_51 : decode cX11_readsAll 51 = .ok (.iconst 0, 1) := by decide +kernel
theorem dX11_readsAll_52 : decode cX11_readsAll 52 = .ok (.putfield 343, 3) := by decide +kernel
theorem dX11_readsAll_55 : decode cX11_readsAll 55 = .ok (.aload_n 0, 1) := by decide +kernel
theorem dX11_readsAll_56 : decode cX11_readsAll 56 = .ok (.sipush 1000, 3) := by decide +kernel
theorem dX11_readsAll_59 : decode cX11_readsAll 59 = .ok (.putfield 219, 3) := by decide +kernel
theorem dX11_readsAll_62 : decode cX11_readsAll 62 = .ok (.aload_n 0, 1) := by decide +kernel
theorem dX11_readsAll_63 : decode cX11_readsAll 63 = .ok (.invokevirtual 369, 3) := by decide +kernel
theorem dX11_starts_0 : decode cX11_starts 0 = .ok (.aload_n 0, 1) := by decide +kernel
theorem dX11_starts_1 : decode cX11_starts 1 = .ok (.aload_n 0, 1) := by decide +kernel
theorem dX11_starts_2 : decode cX11_starts 2 = .ok (.getfield 186, 3) := by decide +kernel
theorem dX11_starts_5 : decode cX11_starts 5 = .ok (.putfield 189, 3) := by decide +kernel
theorem dX11_starts_8 : decode cX11_starts 8 = .ok (.aload_n 0, 1) := by decide +kernel
theorem dX11_starts_9 : decode cX11_starts 9 = .ok (.iconst 0, 1) := by decide +kernel
theorem dX11_starts_10 : decode cX11_starts 10 = .ok (.putfield 186, 3) := by decide +kernel
theorem dX11_starts_13 : decode cX11_starts 13 = .ok (.aload_n 0, 1) := by decide +kernel
theorem dX11_starts_14 : decode cX11_starts 14 = .ok (.iconst 0, 1) := by decide +kernel
theorem dX11_starts_15 : decode cX11_starts 15 = .ok (.putfield 192, 3) := by decide +kernel
theorem dX11_starts_18 : decode cX11_starts 18 = .ok (.aload_n 0, 1) := by decide +kernel
theorem dX11_starts_19 : decode cX11_starts 19 = .ok (.invokevirtual 249, 3) := by decide +kernel
theorem dX11_town_0 : decode cX11_town 0 = .ok (.aload_n 0, 1) := by decide +kernel
theorem dX11_town_1 : decode cX11_town 1 = .ok (.iconst 0, 1) := by decide +kernel
theorem dX11_town_2 : decode cX11_town 2 = .ok (.putfield 180, 3) := by decide +kernel
theorem dX11_town_5 : decode cX11_town 5 = .ok (.aload_n 0, 1) := by decide +kernel
theorem dX11_town_6 : decode cX11_town 6 = .ok (.invokevirtual 407, 3) := by decide +kernel
set_option maxHeartbeats 4000000 in
set_option maxRecDepth 100000 in
theorem a_X11_nextToken_1 (l : Launch) (g : va_G) (aC : Nat → ClassId) (aM : Nat → Nat) (h1 : Nat) (x2 x3 x4 x5 x6 x7 x8 x9 x10 x11 x12 x13 x14 x15 x16 x17 x18 x19 x20 x21 x22 x23 x24 x25 x26 x27 x28 x29 x30 x31 x32 x33 x34 x35 x36 x37 x38 x39 x40 x41 x42 x43 x44 x45 x46 x47 x48 x49 x50 x51 x52 x53 x54 x55 x56 x57 x58 x59 x60 x61 x62 x63 x64 x65 x66 x67 x68 x69 : Value) : Ct l g aC aM yX11_nextToken cX11_nextToken 2 none 1 [.ref h1] [(h1, .inr (11, [x2, x3, x4, .int 0, .int 0, .int 0, .int 0, .long 0, .int 0, x5, x6, x7, x8, x9, x10, x11, x12, x13, x14, x15, x16, x17, x18, x19, x20, x21, x22, x23, x24, x25, x26, x27, x28, x29, x30, x31, x32, x33, x34, x35, x36, x37, x38, x39, x40, x41, x42, x43, x44, x45, x46, x47, x48, x49, x50, x51, x52, x53, x54, x55, x56, x57, x58, x59, x60, x61, x62, x63, x64, x65, x66, x67, x68, x69]))] (QV g (fun (_ : Unit) => True) (fun (_ : Unit) => [(h1, .inr (11, [x2, x3, x4, .int 0, .int 0, .int 0, .int 0, .long 0, .int 0, x5, x6, x7, x8, x9, x10, x11, x12, x13, x14, x15, x16, x17, x18, x19, x20, x21, x22, x23, x24, x25, x26, x27, x28, x29, x30, x31, x32, x33, x34, x35, x36, x37, x38, x39, x40, x41, x42, x43, x44, x45, x46, x47, x48, x49, x50, x51, x52, x53, x54, x55, x56, x57, x58, x59, x60, x61, x62, x63, x64, x65, x66, x67, x68, x69]))])) 0 0 := by
  refine Ct.mk (by decide) (Nat.le_of_ble_eq_true rfl) ?_
  intro p e s m below meth c A ls hx hb hml hown hts hr hlk hnm hK hA hM hM2 hP hD hS hl
  have hown : s.vm.findClass RX11 = some m.cls := hown
  have F : Fx p s m _ c cX11_nextToken 2 RX11 g aC aM A := ⟨hx, hb, hml, hown, hts, hK, hA, hM, hM2⟩
  have hl : lv_has ls 2 [(0, .ref h1)] := hl
  refine lv_aload_n hx hb dX11_nextToken_0 rfl (lv_at hl 0 rfl) ?_
  refine xget F hP 0 rfl rfl inX11 4 (by decide) tb1186 rfl dX11_nextToken_1 ?_
  refine lv_aload_n hx hb dX11_nextToken_4 rfl (lv_at hl 0 rfl) ?_
  refine xget F hP 0 rfl rfl inX11 3 (by decide) tb1185 rfl dX11_nextToken_5 ?_
  refine lv_icmp_ge (tgt := 52) hx hb dX11_nextToken_8 (by decide) (fun _ => ?_) (fun c_ => absurd (by decide +kernel) c_)
  refine lv_aload_n hx hb dX11_nextToken_52 rfl (lv_at hl 0 rfl) ?_
  refine lv_aload_n hx hb dX11_nextToken_53 rfl (lv_at hl 0 rfl) ?_
  refine xget F hP 0 rfl rfl inX11 4 (by decide) tb1186 rfl dX11_nextToken_54 ?_
  refine xput F hP hD hS 0 rfl rfl inX11 tyX11_ok nmX11 5 (by decide) tb1187 rfl rfl rfl (Nat.le_of_ble_eq_true rfl) dX11_nextToken_57 (fun H locs hP hD hS => ?_)
  have hP : va_P g vwCl [(h1, .inr (11, [x2, x3, x4, .int 0, .int 0, .int 0, .int 0, .long 0, .int 0, x5, x6, x7, x8, x9, x10, x11, x12, x13, x14, x15, x16, x17, x18, x19, x20, x21, x22, x23, x24, x25, x26, x27, x28, x29, x30, x31, x32, x33, x34, x35, x36, x37, x38, x39, x40, x41, x42, x43, x44, x45, x46, x47, x48, x49, x50, x51, x52, x53, x54, x55, x56, x57, x58, x59, x60, x61, x62, x63, x64, x65, x66, x67, x68, x69]))] H := hP
  have hD : va_D A [(h1, .inr (11, [x2, x3, x4, .int 0, .int 0, .int 0, .int 0, .long 0, .int 0, x5, x6, x7, x8, x9, x10, x11, x12, x13, x14, x15, x16, x17, x18, x19, x20, x21, x22, x23, x24, x25, x26, x27, x28, x29, x30, x31, x32, x33, x34, x35, x36, x37, x38, x39, x40, x41, x42, x43, x44, x45, x46, x47, x48, x49, x50, x51, x52, x53, x54, x55, x56, x57, x58, x59, x60, x61, x62, x63, x64, x65, x66, x67, x68, x69]))] := hD
  refine lv_aload_n hx hb dX11_nextToken_60 rfl (lv_at hl 0 rfl) ?_
  refine lv_lconst (v := 0) hx hb dX11_nextToken_61 (by decide) ?_
  refine xput F hP hD hS 0 rfl rfl inX11 tyX11_ok nmX11 7 (by decide) tb1189 rfl rfl rfl (Nat.le_of_ble_eq_true rfl) dX11_nextToken_62 (fun H locs hP hD hS => ?_)
  have hP : va_P g vwCl [(h1, .inr (11, [x2, x3, x4, .int 0, .int 0, .int 0, .int 0, .long 0, .int 0, x5, x6, x7, x8, x9, x10, x11, x12, x13, x14, x15, x16, x17, x18, x19, x20, x21, x22, x23, x24, x25, x26, x27, x28, x29, x30, x31, x32, x33, x34, x35, x36, x37, x38, x39, x40, x41, x42, x43, x44, x45, x46, x47, x48, x49, x50, x51, x52, x53, x54, x55, x56, x57, x58, x59, x60, x61, x62, x63, x64, x65, x66, x67, x68, x69]))] H := hP
  have hD : va_D A [(h1, .inr (11, [x2, x3, x4, .int 0, .int 0, .int 0, .int 0, .long 0, .int 0, x5, x6, x7, x8, x9, x10, x11, x12, x13, x14, x15, x16, x17, x18, x19, x20, x21, x22, x23, x24, x25, x26, x27, x28, x29, x30, x31, x32, x33, x34, x35, x36, x37, x38, x39, x40, x41, x42, x43, x44, x45, x46, x47, x48, x49, x50, x51, x52, x53, x54, x55, x56, x57, x58, x59, x60, x61, x62, x63, x64, x65, x66, x67, x68, x69]))] := hD
  refine lv_aload_n hx hb dX11_nextToken_65 rfl (lv_at hl 0 rfl) ?_
  refine lv_iconst (v := 0) hx hb dX11_nextToken_66 (by decide) ?_
  refine xput F hP hD hS 0 rfl rfl inX11 tyX11_ok nmX11 8 (by decide) tb1190 rfl rfl rfl (Nat.le_of_ble_eq_true rfl) dX11_nextToken_67 (fun H locs hP hD hS => ?_)
  have hP : va_P g vwCl [(h1, .inr (11, [x2, x3, x4, .int 0, .int 0, .int 0, .int 0, .long 0, .int 0, x5, x6, x7, x8, x9, x10, x11, x12, x13, x14, x15, x16, x17, x18, x19, x20, x21, x22, x23, x24, x25, x26, x27, x28, x29, x30, x31, x32, x33, x34, x35, x36, x37, x38, x39, x40, x41, x42, x43, x44, x45, x46, x47, x48, x49, x50, x51, x52, x53, x54, x55, x56, x57, x58, x59, x60, x61, x62, x63, x64, x65, x66, x67, x68, x69]))] H := hP
  have hD : va_D A [(h1, .inr (11, [x2, x3, x4, .int 0, .int 0, .int 0, .int 0, .long 0, .int 0, x5, x6, x7, x8, x9, x10, x11, x12, x13, x14, x15, x16, x17, x18, x19, x20, x21, x22, x23, x24, x25, x26, x27, x28, x29, x30, x31, x32, x33, x34, x35, x36, x37, x38, x39, x40, x41, x42, x43, x44, x45, x46, x47, x48, x49, x50, x51, x52, x53, x54, x55, x56, x57, x58, x59, x60, x61, x62, x63, x64, x65, x66, x67, x68, x69]))] := hD
  refine lv_aload_n hx hb dX11_nextToken_70 rfl (lv_at hl 0 rfl) ?_
  refine xget F hP 0 rfl rfl inX11 4 (by decide) tb1186 rfl dX11_nextToken_71 ?_
  refine lv_aload_n hx hb dX11_nextToken_74 rfl (lv_at hl 0 rfl) ?_
  refine xget F hP 0 rfl rfl inX11 3 (by decide) tb1185 rfl dX11_nextToken_75 ?_
  refine lv_icmp_ne (tgt := 87) hx hb dX11_nextToken_78 (by decide) (fun c_ => absurd (by decide +kernel) c_) (fun _ => ?_)
  refine lv_aload_n hx hb dX11_nextToken_81 rfl (lv_at hl 0 rfl) ?_
  refine lv_iconst (v := 0) hx hb dX11_nextToken_82 (by decide) ?_
  refine xput F hP hD hS 0 rfl rfl inX11 tyX11_ok nmX11 6 (by decide) tb1188 rfl rfl rfl (Nat.le_of_ble_eq_true rfl) dX11_nextToken_83 (fun H locs hP hD hS => ?_)
  have hP : va_P g vwCl [(h1, .inr (11, [x2, x3, x4, .int 0, .int 0, .int 0, .int 0, .long 0, .int 0, x5, x6, x7, x8, x9, x10, x11, x12, x13, x14, x15, x16, x17, x18, x19, x20, x21, x22, x23, x24, x25, x26, x27, x28, x29, x30, x31, x32, x33, x34, x35, x36, x37, x38, x39, x40, x41, x42, x43, x44, x45, x46, x47, x48, x49, x50, x51, x52, x53, x54, x55, x56, x57, x58, x59, x60, x61, x62, x63, x64, x65, x66, x67, x68, x69]))] H := hP
  have hD : va_D A [(h1, .inr (11, [x2, x3, x4, .int 0, .int 0, .int 0, .int 0, .long 0, .int 0, x5, x6, x7, x8, x9, x10, x11, x12, x13, x14, x15, x16, x17, x18, x19, x20, x21, x22, x23, x24, x25, x26, x27, x28, x29, x30, x31, x32, x33, x34, x35, x36, x37, x38, x39, x40, x41, x42, x43, x44, x45, x46, x47, x48, x49, x50, x51, x52, x53, x54, x55, x56, x57, x58, x59, x60, x61, x62, x63, x64, x65, x66, x67, x68, x69]))] := hD
  have hP9 := hP.sub (ws' := [(h1, .inr (11, [x2, x3, x4, .int 0, .int 0, .int 0, .int 0, .long 0, .int 0, x5, x6, x7, x8, x9, x10, x11, x12, x13, x14, x15, x16, x17, x18, x19, x20, x21, x22, x23, x24, x25, x26, x27, x28, x29, x30, x31, x32, x33, x34, x35, x36, x37, x38, x39, x40, x41, x42, x43, x44, x45, x46, x47, x48, x49, x50, x51, x52, x53, x54, x55, x56, x57, x58, x59, x60, x61, x62, x63, x64, x65, x66, x67, x68, x69]))]) [0] rfl
  have hD9 := hD.sub (ws' := [(h1, .inr (11, [x2, x3, x4, .int 0, .int 0, .int 0, .int 0, .long 0, .int 0, x5, x6, x7, x8, x9, x10, x11, x12, x13, x14, x15, x16, x17, x18, x19, x20, x21, x22, x23, x24, x25, x26, x27, x28, x29, x30, x31, x32, x33, x34, x35, x36, x37, x38, x39, x40, x41, x42, x43, x44, x45, x46, x47, x48, x49, x50, x51, x52, x53, x54, x55, x56, x57, x58, x59, x60, x61, x62, x63, x64, x65, x66, x67, x68, x69]))]) [0] (by decide) rfl
  exact rV () hx hb hr hlk hS trivial hP9 hD9 (Nat.le_of_ble_eq_true rfl) (Nat.le_of_ble_eq_true rfl) dX11_nextToken_86

theorem tb1427 : (Jvm.Cond.methodLink "StairGangModel" (249 : Nat) ({ cls := "StairGangModel", name := "nextToken", desc := "()V" } : Jvm.MethodName)) ∈ gw := lw_m 1427 (by decide +kernel)
theorem tb1429 : (Jvm.Cond.instanceMethod ({ cls := "StairGangModel", name := "nextToken", desc := "()V" } : Jvm.MethodName)) ∈ gw := lw_m 1429 (by decide +kernel)
theorem tb1430 : (Jvm.Cond.code ({ cls := "StairGangModel", name := "nextToken", desc := "()V" } : Jvm.MethodName) prog_13_method_9_code (2 : Nat) (Option.none : Option Jvm.ClassFile.FieldType)) ∈ gw := lw_m 1430 (by decide +kernel)
theorem tv35 : Cond.selects "StairGangModel" ⟨"StairGangModel", "nextToken", "()V"⟩ ⟨"StairGangModel", "nextToken", "()V"⟩ ∈ gw := lw_v 35 (by decide +kernel)
theorem dX11_starts_22 : decode cX11_starts 22 = .ok (.return_, 1) := by decide +kernel
set_option maxHeartbeats 4000000 in
set_option maxRecDepth 100000 in
theorem a_X11_starts_1 (l : Launch) (g : va_G) (aC : Nat → ClassId) (aM : Nat → Nat) (h1 : Nat) (x2 x3 x4 x5 x6 x7 x8 x9 x10 x11 x12 x13 x14 x15 x16 x17 x18 x19 x20 x21 x22 x23 x24 x25 x26 x27 x28 x29 x30 x31 x32 x33 x34 x35 x36 x37 x38 x39 x40 x41 x42 x43 x44 x45 x46 x47 x48 x49 x50 x51 x52 x53 x54 x55 x56 x57 x58 x59 x60 x61 x62 x63 x64 x65 x66 x67 x68 : Value) : Ct l g aC aM yX11_starts cX11_starts 1 none 2 [.ref h1] [(h1, .inr (11, [x2, .int 0, x3, .int 0, .int 0, .int 0, .int 0, .long 0, .int 0, x4, x5, x6, x7, x8, x9, x10, x11, x12, x13, x14, x15, x16, x17, x18, x19, x20, x21, x22, x23, x24, x25, x26, x27, x28, x29, x30, x31, x32, x33, x34, x35, x36, x37, x38, x39, x40, x41, x42, x43, x44, x45, x46, x47, x48, x49, x50, x51, x52, x53, x54, x55, x56, x57, x58, x59, x60, x61, x62, x63, x64, x65, x66, x67, x68]))] (QV g (fun (_ : Unit) => True) (fun (_ : Unit) => [(h1, .inr (11, [x2, .int 0, x3, .int 0, .int 0, .int 0, .int 0, .long 0, .int 0, x4, x5, x6, x7, x8, x9, x10, x11, x12, x13, x14, x15, x16, x17, x18, x19, x20, x21, x22, x23, x24, x25, x26, x27, x28, x29, x30, x31, x32, x33, x34, x35, x36, x37, x38, x39, x40, x41, x42, x43, x44, x45, x46, x47, x48, x49, x50, x51, x52, x53, x54, x55, x56, x57, x58, x59, x60, x61, x62, x63, x64, x65, x66, x67, x68]))])) 0 0 := by
  refine Ct.mk (by decide) (Nat.le_of_ble_eq_true rfl) ?_
  intro p e s m below meth c A ls hx hb hml hown hts hr hlk hnm hK hA hM hM2 hP hD hS hl
  have hown : s.vm.findClass RX11 = some m.cls := hown
  have F : Fx p s m _ c cX11_starts 1 RX11 g aC aM A := ⟨hx, hb, hml, hown, hts, hK, hA, hM, hM2⟩
  have hl : lv_has ls 1 [(0, .ref h1)] := hl
  refine lv_aload_n hx hb dX11_starts_0 rfl (lv_at hl 0 rfl) ?_
  refine lv_aload_n hx hb dX11_starts_1 rfl (lv_at hl 0 rfl) ?_
  refine xget F hP 0 rfl rfl inX11 1 (by decide) tb1183 rfl dX11_starts_2 ?_
  refine xput F hP hD hS 0 rfl rfl inX11 tyX11_ok nmX11 3 (by decide) tb1185 rfl rfl rfl (Nat.le_of_ble_eq_true rfl) dX11_starts_5 (fun H locs hP hD hS => ?_)
  have hP : va_P g vwCl [(h1, .inr (11, [x2, .int 0, x3, .int 0, .int 0, .int 0, .int 0, .long 0, .int 0, x4, x5, x6, x7, x8, x9, x10, x11, x12, x13, x14, x15, x16, x17, x18, x19, x20, x21, x22, x23, x24, x25, x26, x27, x28, x29, x30, x31, x32, x33, x34, x35, x36, x37, x38, x39, x40, x41, x42, x43, x44, x45, x46, x47, x48, x49, x50, x51, x52, x53, x54, x55, x56, x57, x58, x59, x60, x61, x62, x63, x64, x65, x66, x67, x68]))] H := hP
  have hD : va_D A [(h1, .inr (11, [x2, .int 0, x3, .int 0, .int 0, .int 0, .int 0, .long 0, .int 0, x4, x5, x6, x7, x8, x9, x10, x11, x12, x13, x14, x15, x16, x17, x18, x19, x20, x21, x22, x23, x24, x25, x26, x27, x28, x29, x30, x31, x32, x33, x34, x35, x36, x37, x38, x39, x40, x41, x42, x43, x44, x45, x46, x47, x48, x49, x50, x51, x52, x53, x54, x55, x56, x57, x58, x59, x60, x61, x62, x63, x64, x65, x66, x67, x68]))] := hD
  refine lv_aload_n hx hb dX11_starts_8 rfl (lv_at hl 0 rfl) ?_
  refine lv_iconst (v := 0) hx hb dX11_starts_9 (by decide) ?_
  refine xput F hP hD hS 0 rfl rfl inX11 tyX11_ok nmX11 1 (by decide) tb1183 rfl rfl rfl (Nat.le_of_ble_eq_true rfl) dX11_starts_10 (fun H locs hP hD hS => ?_)
  have hP : va_P g vwCl [(h1, .inr (11, [x2, .int 0, x3, .int 0, .int 0, .int 0, .int 0, .long 0, .int 0, x4, x5, x6, x7, x8, x9, x10, x11, x12, x13, x14, x15, x16, x17, x18, x19, x20, x21, x22, x23, x24, x25, x26, x27, x28, x29, x30, x31, x32, x33, x34, x35, x36, x37, x38, x39, x40, x41, x42, x43, x44, x45, x46, x47, x48, x49, x50, x51, x52, x53, x54, x55, x56, x57, x58, x59, x60, x61, x62, x63, x64, x65, x66, x67, x68]))] H := hP
  have hD : va_D A [(h1, .inr (11, [x2, .int 0, x3, .int 0, .int 0, .int 0, .int 0, .long 0, .int 0, x4, x5, x6, x7, x8, x9, x10, x11, x12, x13, x14, x15, x16, x17, x18, x19, x20, x21, x22, x23, x24, x25, x26, x27, x28, x29, x30, x31, x32, x33, x34, x35, x36, x37, x38, x39, x40, x41, x42, x43, x44, x45, x46, x47, x48, x49, x50, x51, x52, x53, x54, x55, x56, x57, x58, x59, x60, x61, x62, x63, x64, x65, x66, x67, x68]))] := hD
  refine lv_aload_n hx hb dX11_starts_13 rfl (lv_at hl 0 rfl) ?_
  refine lv_iconst (v := 0) hx hb dX11_starts_14 (by decide) ?_
  refine xput F hP hD hS 0 rfl rfl inX11 tyX11_ok nmX11 4 (by decide) tb1186 rfl rfl rfl (Nat.le_of_ble_eq_true rfl) dX11_starts_15 (fun H locs hP hD hS => ?_)
  have hP : va_P g vwCl [(h1, .inr (11, [x2, .int 0, x3, .int 0, .int 0, .int 0, .int 0, .long 0, .int 0, x4, x5, x6, x7, x8, x9, x10, x11, x12, x13, x14, x15, x16, x17, x18, x19, x20, x21, x22, x23, x24, x25, x26, x27, x28, x29, x30, x31, x32, x33, x34, x35, x36, x37, x38, x39, x40, x41, x42, x43, x44, x45, x46, x47, x48, x49, x50, x51, x52, x53, x54, x55, x56, x57, x58, x59, x60, x61, x62, x63, x64, x65, x66, x67, x68]))] H := hP
  have hD : va_D A [(h1, .inr (11, [x2, .int 0, x3, .int 0, .int 0, .int 0, .int 0, .long 0, .int 0, x4, x5, x6, x7, x8, x9, x10, x11, x12, x13, x14, x15, x16, x17, x18, x19, x20, x21, x22, x23, x24, x25, x26, x27, x28, x29, x30, x31, x32, x33, x34, x35, x36, x37, x38, x39, x40, x41, x42, x43, x44, x45, x46, x47, x48, x49, x50, x51, x52, x53, x54, x55, x56, x57, x58, x59, x60, x61, x62, x63, x64, x65, x66, x67, x68]))] := hD
  refine lv_aload_n hx hb dX11_starts_18 rfl (lv_at hl 0 rfl) ?_
  refine goV (wr := []) (runV (n := 0) (As := []) (rest := []) F hP hD hS (a_X11_nextToken_1 l g aC aM h1 x2 (.int 0) x3 x4 x5 x6 x7 x8 x9 x10 x11 x12 x13 x14 x15 x16 x17 x18 x19 x20 x21 x22 x23 x24 x25 x26 x27 x28 x29 x30 x31 x32 x33 x34 x35 x36 x37 x38 x39 x40 x41 x42 x43 x44 x45 x46 x47 x48 x49 x50 x51 x52 x53 x54 x55 x56 x57 x58 x59 x60 x61 x62 x63 x64 x65 x66 x67 x68) [0] (by decide) rfl 0 11 rfl rfl rfl tb1430 tb1427 tb1429 tv35 tb17 ⟨by decide, by decide, by decide +kernel⟩ ⟨Nat.le_of_ble_eq_true rfl, Nat.le_of_ble_eq_true rfl⟩ rfl hl.1 rfl (Nat.le_of_ble_eq_true rfl) dX11_starts_19 ⟨Nat.le_of_ble_eq_true rfl, Nat.le_of_ble_eq_true rfl⟩) hP hD hS hA [0] [] rfl rfl (by decide) (by decide) (fun w3 H locs hw hP hD hS => ?_)
  have hP : va_P g vwCl [(h1, .inr (11, [x2, .int 0, x3, .int 0, .int 0, .int 0, .int 0, .long 0, .int 0, x4, x5, x6, x7, x8, x9, x10, x11, x12, x13, x14, x15, x16, x17, x18, x19, x20, x21, x22, x23, x24, x25, x26, x27, x28, x29, x30, x31, x32, x33, x34, x35, x36, x37, x38, x39, x40, x41, x42, x43, x44, x45, x46, x47, x48, x49, x50, x51, x52, x53, x54, x55, x56, x57, x58, x59, x60, x61, x62, x63, x64, x65, x66, x67, x68]))] H := hP
  have hD : va_D A [(h1, .inr (11, [x2, .int 0, x3, .int 0, .int 0, .int 0, .int 0, .long 0, .int 0, x4, x5, x6, x7, x8, x9, x10, x11, x12, x13, x14, x15, x16, x17, x18, x19, x20, x21, x22, x23, x24, x25, x26, x27, x28, x29, x30, x31, x32, x33, x34, x35, x36, x37, x38, x39, x40, x41, x42, x43, x44, x45, x46, x47, x48, x49, x50, x51, x52, x53, x54, x55, x56, x57, x58, x59, x60, x61, x62, x63, x64, x65, x66, x67, x68]))] := hD
  have hP9 := hP.sub (ws' := [(h1, .inr (11, [x2, .int 0, x3, .int 0, .int 0, .int 0, .int 0, .long 0, .int 0, x4, x5, x6, x7, x8, x9, x10, x11, x12, x13, x14, x15, x16, x17, x18, x19, x20, x21, x22, x23, x24, x25, x26, x27, x28, x29, x30, x31, x32, x33, x34, x35, x36, x37, x38, x39, x40, x41, x42, x43, x44, x45, x46, x47, x48, x49, x50, x51, x52, x53, x54, x55, x56, x57, x58, x59, x60, x61, x62, x63, x64, x65, x66, x67, x68]))]) [0] rfl
  have hD9 := hD.sub (ws' := [(h1, .inr (11, [x2, .int 0, x3, .int 0, .int 0, .int 0, .int 0, .long 0, .int 0, x4, x5, x6, x7, x8, x9, x10, x11, x12, x13, x14, x15, x16, x17, x18, x19, x20, x21, x22, x23, x24, x25, x26, x27, x28, x29, x30, x31, x32, x33, x34, x35, x36, x37, x38, x39, x40, x41, x42, x43, x44, x45, x46, x47, x48, x49, x50, x51, x52, x53, x54, x55, x56, x57, x58, x59, x60, x61, x62, x63, x64, x65, x66, x67, x68]))]) [0] (by decide) rfl
  exact rV () hx hb hr hlk hS trivial hP9 hD9 (Nat.le_of_ble_eq_true rfl) (Nat.le_of_ble_eq_true rfl) dX11_starts_22

theorem tb1423 : (Jvm.Cond.methodLink "StairGangModel" (369 : Nat) ({ cls := "StairGangModel", name := "starts", desc := "()V" } : Jvm.MethodName)) ∈ gw := lw_m 1423 (by decide +kernel)
theorem tb1425 : (Jvm.Cond.instanceMethod ({ cls := "StairGangModel", name := "starts", desc := "()V" } : Jvm.MethodName)) ∈ gw := lw_m 1425 (by decide +kernel)
theorem tb1426 : (Jvm.Cond.code ({ cls := "StairGangModel", name := "starts", desc := "()V" } : Jvm.MethodName) prog_13_method_41_code (1 : Nat) (Option.none : Option Jvm.ClassFile.FieldType)) ∈ gw := lw_m 1426 (by decide +kernel)
theorem tv34 : Cond.selects "StairGangModel" ⟨"StairGangModel", "starts", "()V"⟩ ⟨"StairGangModel", "starts", "()V"⟩ ∈ gw := lw_v 34 (by decide +kernel)
theorem dX11_readsAll_66 : decode cX11_readsAll 66 = .ok (.aload_n 0, 1) := by decide +kernel
theorem dX11_readsAll_67 : decode cX11_readsAll 67 = .ok (.getfield 205, 3) := by decide +kernel
theorem dX11_readsAll_70 : decode cX11_readsAll 70 = .ok (.ifCond .eq 162, 3) := by decide +kernel
theorem dX11_readsAll_232 : decode cX11_readsAll 232 = .ok (.iconst 1, 1) := by decide +kernel
theorem dX11_readsAll_233 : decode cX11_readsAll 233 = .ok (.ireturn, 1) := by decide +kernel
set_option maxHeartbeats 4000000 in
set_option maxRecDepth 100000 in
theorem a_X11_readsAll_1 (l : Launch) (g : va_G) (aC : Nat → ClassId) (aM : Nat → Nat) (h1 h5 h23 h24 : Nat) (x2 x3 x4 x6 x7 x8 x9 x10 x11 x12 x13 x14 x15 x16 x17 x18 x19 x20 x21 x22 x25 x26 x27 x28 x29 x30 x31 x32 x33 x34 x35 x36 x37 x38 x39 x40 x41 x42 x43 x44 x45 x46 x47 x48 x49 x50 x51 x52 x53 x54 x55 x56 x57 x58 x59 x60 x61 x62 x63 x64 x65 x66 : Value) : Ct l g aC aM yX11_readsAll cX11_readsAll 2 (some .boolean) 3 [.ref h1] [(h1, .inr (11, [x2, .int 0, x3, .int 0, .int 0, .int 0, .int 0, .long 0, .int 0, x4, .ref h5, x6, x7, x8, x9, x10, x11, x12, x13, x14, x15, x16, x17, x18, x19, x20, x21, x22, .ref h23, .ref h24, x25, .int 0, .int 0, x26, x27, x28, x29, x30, x31, x32, x33, x34, x35, x36, x37, x38, x39, x40, x41, x42, x43, x44, x45, x46, x47, x48, x49, x50, x51, x52, x53, x54, x55, x56, x57, x58, x59, x60, x61, x62, x63, x64, x65, x66])), (h5, .inl (aC 0, 14, .inl (fun _ => 0))), (h23, .inl (aC 0, 2, .inl (fun _ => 0))), (h24, .inl (aC 0, 2, .inl (fun _ => 0)))] (QI g (fun (r : Int32) (_ : Unit) => r = 1) (fun (_ : Unit) => [(h5, .inl (aC 0, 14, .inl (upd (fun _ => 0) 13 5))), (h23, .inl (aC 0, 2, .inl (upd (fun _ => 0) 1 1000))), (h24, .inl (aC 0, 2, .inl (upd (fun _ => 0) 1 1000))), (h1, .inr (11, [x2, .int 0, x3, .int 0, .int 0, .int 0, .int 0, .long 0, .int 0, x4, .ref h5, x6, x7, x8, x9, x10, x11, x12, x13, x14, x15, x16, x17, x18, x19, x20, x21, x22, .ref h23, .ref h24, x25, .int 1000, .int 0, x26, x27, x28, x29, x30, x31, x32, x33, x34, x35, x36, x37, x38, x39, x40, x41, x42, x43, x44, x45, x46, x47, x48, x49, x50, x51, x52, x53, x54, x55, x56, x57, x58, x59, x60, x61, x62, x63, x64, x65, x66]))])) 0 0 := by
  refine Ct.mk (by decide) (Nat.le_of_ble_eq_true rfl) ?_
  intro p e s m below meth c A ls hx hb hml hown hts hr hlk hnm hK hA hM hM2 hP hD hS hl
  have hown : s.vm.findClass RX11 = some m.cls := hown
  have F : Fx p s m _ c cX11_readsAll 2 RX11 g aC aM A := ⟨hx, hb, hml, hown, hts, hK, hA, hM, hM2⟩
  have hl : lv_has ls 2 [(0, .ref h1)] := hl
  refine lv_bipush (v := 7) hx hb dX11_readsAll_0 (by decide) ?_
  refine lv_istore_n (lv' := [(1, .int 7), (0, .ref h1)]) hx hb dX11_readsAll_2 rfl hl (by decide) rfl (fun ls hl => ?_)
  refine lv_iload_n hx hb dX11_readsAll_3 rfl (lv_at hl 0 rfl) ?_
  refine lv_bipush (v := 14) hx hb dX11_readsAll_4 (by decide) ?_
  refine lv_icmp_ge (tgt := 32) hx hb dX11_readsAll_6 (by decide) (fun c_ => absurd c_ (by decide +kernel)) (fun _ => ?_)
  refine lv_aload_n hx hb dX11_readsAll_9 rfl (lv_at hl 1 rfl) ?_
  refine xget F hP 0 rfl rfl inX11 10 (by decide) tb1192 rfl dX11_readsAll_10 ?_
  refine lv_iload_n hx hb dX11_readsAll_13 rfl (lv_at hl 0 rfl) ?_
  refine lv_iload_n hx hb dX11_readsAll_14 rfl (lv_at hl 0 rfl) ?_
  refine lv_bipush (v := 13) hx hb dX11_readsAll_15 (by decide) ?_
  refine lv_icmp_ne (tgt := 24) hx hb dX11_readsAll_17 (by decide) (fun _ => ?_) (fun c_ => absurd c_ (by decide +kernel))
  refine lv_iconst (v := 0) hx hb dX11_readsAll_24 (by decide) ?_
  refine xist (f' := fun _ => 0) F hP hD hS 1 rfl 7 (by decide +kernel) (by decide +kernel) (by decide) (xup0 _) dX11_readsAll_25 (fun H locs hP hD hS => ?_)
  have hP : va_P g vwCl [(h1, .inr (11, [x2, .int 0, x3, .int 0, .int 0, .int 0, .int 0, .long 0, .int 0, x4, .ref h5, x6, x7, x8, x9, x10, x11, x12, x13, x14, x15, x16, x17, x18, x19, x20, x21, x22, .ref h23, .ref h24, x25, .int 0, .int 0, x26, x27, x28, x29, x30, x31, x32, x33, x34, x35, x36, x37, x38, x39, x40, x41, x42, x43, x44, x45, x46, x47, x48, x49, x50, x51, x52, x53, x54, x55, x56, x57, x58, x59, x60, x61, x62, x63, x64, x65, x66])), (h5, .inl (aC 0, 14, .inl (fun _ => 0))), (h23, .inl (aC 0, 2, .inl (fun _ => 0))), (h24, .inl (aC 0, 2, .inl (fun _ => 0)))] H := hP
  have hD : va_D A [(h1, .inr (11, [x2, .int 0, x3, .int 0, .int 0, .int 0, .int 0, .long 0, .int 0, x4, .ref h5, x6, x7, x8, x9, x10, x11, x12, x13, x14, x15, x16, x17, x18, x19, x20, x21, x22, .ref h23, .ref h24, x25, .int 0, .int 0, x26, x27, x28, x29, x30, x31, x32, x33, x34, x35, x36, x37, x38, x39, x40, x41, x42, x43, x44, x45, x46, x47, x48, x49, x50, x51, x52, x53, x54, x55, x56, x57, x58, x59, x60, x61, x62, x63, x64, x65, x66])), (h5, .inl (aC 0, 14, .inl (fun _ => 0))), (h23, .inl (aC 0, 2, .inl (fun _ => 0))), (h24, .inl (aC 0, 2, .inl (fun _ => 0)))] := hD
  refine lv_iinc (v := 8) (lv' := [(1, .int 8), (0, .ref h1)]) hx hb dX11_readsAll_26 hl (k := 0) rfl (by decide +kernel) (by decide) rfl (fun ls hl => ?_)
  refine lv_goto (tgt := 3) hx hb dX11_readsAll_29 (by decide) ?_
  refine lv_iload_n hx hb dX11_readsAll_3 rfl (lv_at hl 0 rfl) ?_
  refine lv_bipush (v := 14) hx hb dX11_readsAll_4 (by decide) ?_
  refine lv_icmp_ge (tgt := 32) hx hb dX11_readsAll_6 (by decide) (fun c_ => absurd c_ (by decide +kernel)) (fun _ => ?_)
  refine lv_aload_n hx hb dX11_readsAll_9 rfl (lv_at hl 1 rfl) ?_
  refine xget F hP 0 rfl rfl inX11 10 (by decide) tb1192 rfl dX11_readsAll_10 ?_
  refine lv_iload_n hx hb dX11_readsAll_13 rfl (lv_at hl 0 rfl) ?_
  refine lv_iload_n hx hb dX11_readsAll_14 rfl (lv_at hl 0 rfl) ?_
  refine lv_bipush (v := 13) hx hb dX11_readsAll_15 (by decide) ?_
  refine lv_icmp_ne (tgt := 24) hx hb dX11_readsAll_17 (by decide) (fun _ => ?_) (fun c_ => absurd c_ (by decide +kernel))
  refine lv_iconst (v := 0) hx hb dX11_readsAll_24 (by decide) ?_
  refine xist (f' := fun _ => 0) F hP hD hS 1 rfl 8 (by decide +kernel) (by decide +kernel) (by decide) (xup0 _) dX11_readsAll_25 (fun H locs hP hD hS => ?_)
  have hP : va_P g vwCl [(h1, .inr (11, [x2, .int 0, x3, .int 0, .int 0, .int 0, .int 0, .long 0, .int 0, x4, .ref h5, x6, x7, x8, x9, x10, x11, x12, x13, x14, x15, x16, x17, x18, x19, x20, x21, x22, .ref h23, .ref h24, x25, .int 0, .int 0, x26, x27, x28, x29, x30, x31, x32, x33, x34, x35, x36, x37, x38, x39, x40, x41, x42, x43, x44, x45, x46, x47, x48, x49, x50, x51, x52, x53, x54, x55, x56, x57, x58, x59, x60, x61, x62, x63, x64, x65, x66])), (h5, .inl (aC 0, 14, .inl (fun _ => 0))), (h23, .inl (aC 0, 2, .inl (fun _ => 0))), (h24, .inl (aC 0, 2, .inl (fun _ => 0)))] H := hP
  have hD : va_D A [(h1, .inr (11, [x2, .int 0, x3, .int 0, .int 0, .int 0, .int 0, .long 0, .int 0, x4, .ref h5, x6, x7, x8, x9, x10, x11, x12, x13, x14, x15, x16, x17, x18, x19, x20, x21, x22, .ref h23, .ref h24, x25, .int 0, .int 0, x26, x27, x28, x29, x30, x31, x32, x33, x34, x35, x36, x37, x38, x39, x40, x41, x42, x43, x44, x45, x46, x47, x48, x49, x50, x51, x52, x53, x54, x55, x56, x57, x58, x59, x60, x61, x62, x63, x64, x65, x66])), (h5, .inl (aC 0, 14, .inl (fun _ => 0))), (h23, .inl (aC 0, 2, .inl (fun _ => 0))), (h24, .inl (aC 0, 2, .inl (fun _ => 0)))] := hD
  refine lv_iinc (v := 9) (lv' := [(1, .int 9), (0, .ref h1)]) hx hb dX11_readsAll_26 hl (k := 0) rfl (by decide +kernel) (by decide) rfl (fun ls hl => ?_)
  refine lv_goto (tgt := 3) hx hb dX11_readsAll_29 (by decide) ?_
  refine lv_iload_n hx hb dX11_readsAll_3 rfl (lv_at hl 0 rfl) ?_
  refine lv_bipush (v := 14) hx hb dX11_readsAll_4 (by decide) ?_
  refine lv_icmp_ge (tgt := 32) hx hb dX11_readsAll_6 (by decide) (fun c_ => absurd c_ (by decide +kernel)) (fun _ => ?_)
  refine lv_aload_n hx hb dX11_readsAll_9 rfl (lv_at hl 1 rfl) ?_
  refine xget F hP 0 rfl rfl inX11 10 (by decide) tb1192 rfl dX11_readsAll_10 ?_
  refine lv_iload_n hx hb dX11_readsAll_13 rfl (lv_at hl 0 rfl) ?_
  refine lv_iload_n hx hb dX11_readsAll_14 rfl (lv_at hl 0 rfl) ?_
  refine lv_bipush (v := 13) hx hb dX11_readsAll_15 (by decide) ?_
  refine lv_icmp_ne (tgt := 24) hx hb dX11_readsAll_17 (by decide) (fun _ => ?_) (fun c_ => absurd c_ (by decide +kernel))
  refine lv_iconst (v := 0) hx hb dX11_readsAll_24 (by decide) ?_
  refine xist (f' := fun _ => 0) F hP hD hS 1 rfl 9 (by decide +kernel) (by decide +kernel) (by decide) (xup0 _) dX11_readsAll_25 (fun H locs hP hD hS => ?_)
  have hP : va_P g vwCl [(h1, .inr (11, [x2, .int 0, x3, .int 0, .int 0, .int 0, .int 0, .long 0, .int 0, x4, .ref h5, x6, x7, x8, x9, x10, x11, x12, x13, x14, x15, x16, x17, x18, x19, x20, x21, x22, .ref h23, .ref h24, x25, .int 0, .int 0, x26, x27, x28, x29, x30, x31, x32, x33, x34, x35, x36, x37, x38, x39, x40, x41, x42, x43, x44, x45, x46, x47, x48, x49, x50, x51, x52, x53, x54, x55, x56, x57, x58, x59, x60, x61, x62, x63, x64, x65, x66])), (h5, .inl (aC 0, 14, .inl (fun _ => 0))), (h23, .inl (aC 0, 2, .inl (fun _ => 0))), (h24, .inl (aC 0, 2, .inl (fun _ => 0)))] H := hP
  have hD : va_D A [(h1, .inr (11, [x2, .int 0, x3, .int 0, .int 0, .int 0, .int 0, .long 0, .int 0, x4, .ref h5, x6, x7, x8, x9, x10, x11, x12, x13, x14, x15, x16, x17, x18, x19, x20, x21, x22, .ref h23, .ref h24, x25, .int 0, .int 0, x26, x27, x28, x29, x30, x31, x32, x33, x34, x35, x36, x37, x38, x39, x40, x41, x42, x43, x44, x45, x46, x47, x48, x49, x50, x51, x52, x53, x54, x55, x56, x57, x58, x59, x60, x61, x62, x63, x64, x65, x66])), (h5, .inl (aC 0, 14, .inl (fun _ => 0))), (h23, .inl (aC 0, 2, .inl (fun _ => 0))), (h24, .inl (aC 0, 2, .inl (fun _ => 0)))] := hD
  refine lv_iinc (v := 10) (lv' := [(1, .int 10), (0, .ref h1)]) hx hb dX11_readsAll_26 hl (k := 0) rfl (by decide +kernel) (by decide) rfl (fun ls hl => ?_)
  refine lv_goto (tgt := 3) hx hb dX11_readsAll_29 (by decide) ?_
  refine lv_iload_n hx hb dX11_readsAll_3 rfl (lv_at hl 0 rfl) ?_
  refine lv_bipush (v := 14) hx hb dX11_readsAll_4 (by decide) ?_
  refine lv_icmp_ge (tgt := 32) hx hb dX11_readsAll_6 (by decide) (fun c_ => absurd c_ (by decide +kernel)) (fun _ => ?_)
  refine lv_aload_n hx hb dX11_readsAll_9 rfl (lv_at hl 1 rfl) ?_
  refine xget F hP 0 rfl rfl inX11 10 (by decide) tb1192 rfl dX11_readsAll_10 ?_
  refine lv_iload_n hx hb dX11_readsAll_13 rfl (lv_at hl 0 rfl) ?_
  refine lv_iload_n hx hb dX11_readsAll_14 rfl (lv_at hl 0 rfl) ?_
  refine lv_bipush (v := 13) hx hb dX11_readsAll_15 (by decide) ?_
  refine lv_icmp_ne (tgt := 24) hx hb dX11_readsAll_17 (by decide) (fun _ => ?_) (fun c_ => absurd c_ (by decide +kernel))
  refine lv_iconst (v := 0) hx hb dX11_readsAll_24 (by decide) ?_
  refine xist (f' := fun _ => 0) F hP hD hS 1 rfl 10 (by decide +kernel) (by decide +kernel) (by decide) (xup0 _) dX11_readsAll_25 (fun H locs hP hD hS => ?_)
  have hP : va_P g vwCl [(h1, .inr (11, [x2, .int 0, x3, .int 0, .int 0, .int 0, .int 0, .long 0, .int 0, x4, .ref h5, x6, x7, x8, x9, x10, x11, x12, x13, x14, x15, x16, x17, x18, x19, x20, x21, x22, .ref h23, .ref h24, x25, .int 0, .int 0, x26, x27, x28, x29, x30, x31, x32, x33, x34, x35, x36, x37, x38, x39, x40, x41, x42, x43, x44, x45, x46, x47, x48, x49, x50, x51, x52, x53, x54, x55, x56, x57, x58, x59, x60, x61, x62, x63, x64, x65, x66])), (h5, .inl (aC 0, 14, .inl (fun _ => 0))), (h23, .inl (aC 0, 2, .inl (fun _ => 0))), (h24, .inl (aC 0, 2, .inl (fun _ => 0)))] H := hP
  have hD : va_D A [(h1, .inr (11, [x2, .int 0, x3, .int 0, .int 0, .int 0, .int 0, .long 0, .int 0, x4, .ref h5, x6, x7, x8, x9, x10, x11, x12, x13, x14, x15, x16, x17, x18, x19, x20, x21, x22, .ref h23, .ref h24, x25, .int 0, .int 0, x26, x27, x28, x29, x30, x31, x32, x33, x34, x35, x36, x37, x38, x39, x40, x41, x42, x43, x44, x45, x46, x47, x48, x49, x50, x51, x52, x53, x54, x55, x56, x57, x58, x59, x60, x61, x62, x63, x64, x65, x66])), (h5, .inl (aC 0, 14, .inl (fun _ => 0))), (h23, .inl (aC 0, 2, .inl (fun _ => 0))), (h24, .inl (aC 0, 2, .inl (fun _ => 0)))] := hD
  refine lv_iinc (v := 11) (lv' := [(1, .int 11), (0, .ref h1)]) hx hb dX11_readsAll_26 hl (k := 0) rfl (by decide +kernel) (by decide) rfl (fun ls hl => ?_)
  refine lv_goto (tgt := 3) hx hb dX11_readsAll_29 (by decide) ?_
  refine lv_iload_n hx hb dX11_readsAll_3 rfl (lv_at hl 0 rfl) ?_
  refine lv_bipush (v := 14) hx hb dX11_readsAll_4 (by decide) ?_
  refine lv_icmp_ge (tgt := 32) hx hb dX11_readsAll_6 (by decide) (fun c_ => absurd c_ (by decide +kernel)) (fun _ => ?_)
  refine lv_aload_n hx hb dX11_readsAll_9 rfl (lv_at hl 1 rfl) ?_
  refine xget F hP 0 rfl rfl inX11 10 (by decide) tb1192 rfl dX11_readsAll_10 ?_
  refine lv_iload_n hx hb dX11_readsAll_13 rfl (lv_at hl 0 rfl) ?_
  refine lv_iload_n hx hb dX11_readsAll_14 rfl (lv_at hl 0 rfl) ?_
  refine lv_bipush (v := 13) hx hb dX11_readsAll_15 (by decide) ?_
  refine lv_icmp_ne (tgt := 24) hx hb dX11_readsAll_17 (by decide) (fun _ => ?_) (fun c_ => absurd c_ (by decide +kernel))
  refine lv_iconst (v := 0) hx hb dX11_readsAll_24 (by decide) ?_
  refine xist (f' := fun _ => 0) F hP hD hS 1 rfl 11 (by decide +kernel) (by decide +kernel) (by decide) (xup0 _) dX11_readsAll_25 (fun H locs hP hD hS => ?_)
  have hP : va_P g vwCl [(h1, .inr (11, [x2, .int 0, x3, .int 0, .int 0, .int 0, .int 0, .long 0, .int 0, x4, .ref h5, x6, x7, x8, x9, x10, x11, x12, x13, x14, x15, x16, x17, x18, x19, x20, x21, x22, .ref h23, .ref h24, x25, .int 0, .int 0, x26, x27, x28, x29, x30, x31, x32, x33, x34, x35, x36, x37, x38, x39, x40, x41, x42, x43, x44, x45, x46, x47, x48, x49, x50, x51, x52, x53, x54, x55, x56, x57, x58, x59, x60, x61, x62, x63, x64, x65, x66])), (h5, .inl (aC 0, 14, .inl (fun _ => 0))), (h23, .inl (aC 0, 2, .inl (fun _ => 0))), (h24, .inl (aC 0, 2, .inl (fun _ => 0)))] H := hP
  have hD : va_D A [(h1, .inr (11, [x2, .int 0, x3, .int 0, .int 0, .int 0, .int 0, .long 0, .int 0, x4, .ref h5, x6, x7, x8, x9, x10, x11, x12, x13, x14, x15, x16, x17, x18, x19, x20, x21, x22, .ref h23, .ref h24, x25, .int 0, .int 0, x26, x27, x28, x29, x30, x31, x32, x33, x34, x35, x36, x37, x38, x39, x40, x41, x42, x43, x44, x45, x46, x47, x48, x49, x50, x51, x52, x53, x54, x55, x56, x57, x58, x59, x60, x61, x62, x63, x64, x65, x66])), (h5, .inl (aC 0, 14, .inl (fun _ => 0))), (h23, .inl (aC 0, 2, .inl (fun _ => 0))), (h24, .inl (aC 0, 2, .inl (fun _ => 0)))] := hD
  refine lv_iinc (v := 12) (lv' := [(1, .int 12), (0, .ref h1)]) hx hb dX11_readsAll_26 hl (k := 0) rfl (by decide +kernel) (by decide) rfl (fun ls hl => ?_)
  refine lv_goto (tgt := 3) hx hb dX11_readsAll_29 (by decide) ?_
  refine lv_iload_n hx hb dX11_readsAll_3 rfl (lv_at hl 0 rfl) ?_
  refine lv_bipush (v := 14) hx hb dX11_readsAll_4 (by decide) ?_
  refine lv_icmp_ge (tgt := 32) hx hb dX11_readsAll_6 (by decide) (fun c_ => absurd c_ (by decide +kernel)) (fun _ => ?_)
  refine lv_aload_n hx hb dX11_readsAll_9 rfl (lv_at hl 1 rfl) ?_
  refine xget F hP 0 rfl rfl inX11 10 (by decide) tb1192 rfl dX11_readsAll_10 ?_
  refine lv_iload_n hx hb dX11_readsAll_13 rfl (lv_at hl 0 rfl) ?_
  refine lv_iload_n hx hb dX11_readsAll_14 rfl (lv_at hl 0 rfl) ?_
  refine lv_bipush (v := 13) hx hb dX11_readsAll_15 (by decide) ?_
  refine lv_icmp_ne (tgt := 24) hx hb dX11_readsAll_17 (by decide) (fun _ => ?_) (fun c_ => absurd c_ (by decide +kernel))
  refine lv_iconst (v := 0) hx hb dX11_readsAll_24 (by decide) ?_
  refine xist (f' := fun _ => 0) F hP hD hS 1 rfl 12 (by decide +kernel) (by decide +kernel) (by decide) (xup0 _) dX11_readsAll_25 (fun H locs hP hD hS => ?_)
  have hP : va_P g vwCl [(h1, .inr (11, [x2, .int 0, x3, .int 0, .int 0, .int 0, .int 0, .long 0, .int 0, x4, .ref h5, x6, x7, x8, x9, x10, x11, x12, x13, x14, x15, x16, x17, x18, x19, x20, x21, x22, .ref h23, .ref h24, x25, .int 0, .int 0, x26, x27, x28, x29, x30, x31, x32, x33, x34, x35, x36, x37, x38, x39, x40, x41, x42, x43, x44, x45, x46, x47, x48, x49, x50, x51, x52, x53, x54, x55, x56, x57, x58, x59, x60, x61, x62, x63, x64, x65, x66])), (h5, .inl (aC 0, 14, .inl (fun _ => 0))), (h23, .inl (aC 0, 2, .inl (fun _ => 0))), (h24, .inl (aC 0, 2, .inl (fun _ => 0)))] H := hP
  have hD : va_D A [(h1, .inr (11, [x2, .int 0, x3, .int 0, .int 0, .int 0, .int 0, .long 0, .int 0, x4, .ref h5, x6, x7, x8, x9, x10, x11, x12, x13, x14, x15, x16, x17, x18, x19, x20, x21, x22, .ref h23, .ref h24, x25, .int 0, .int 0, x26, x27, x28, x29, x30, x31, x32, x33, x34, x35, x36, x37, x38, x39, x40, x41, x42, x43, x44, x45, x46, x47, x48, x49, x50, x51, x52, x53, x54, x55, x56, x57, x58, x59, x60, x61, x62, x63, x64, x65, x66])), (h5, .inl (aC 0, 14, .inl (fun _ => 0))), (h23, .inl (aC 0, 2, .inl (fun _ => 0))), (h24, .inl (aC 0, 2, .inl (fun _ => 0)))] := hD
  refine lv_iinc (v := 13) (lv' := [(1, .int 13), (0, .ref h1)]) hx hb dX11_readsAll_26 hl (k := 0) rfl (by decide +kernel) (by decide) rfl (fun ls hl => ?_)
  refine lv_goto (tgt := 3) hx hb dX11_readsAll_29 (by decide) ?_
  refine lv_iload_n hx hb dX11_readsAll_3 rfl (lv_at hl 0 rfl) ?_
  refine lv_bipush (v := 14) hx hb dX11_readsAll_4 (by decide) ?_
  refine lv_icmp_ge (tgt := 32) hx hb dX11_readsAll_6 (by decide) (fun c_ => absurd c_ (by decide +kernel)) (fun _ => ?_)
  refine lv_aload_n hx hb dX11_readsAll_9 rfl (lv_at hl 1 rfl) ?_
  refine xget F hP 0 rfl rfl inX11 10 (by decide) tb1192 rfl dX11_readsAll_10 ?_
  refine lv_iload_n hx hb dX11_readsAll_13 rfl (lv_at hl 0 rfl) ?_
  refine lv_iload_n hx hb dX11_readsAll_14 rfl (lv_at hl 0 rfl) ?_
  refine lv_bipush (v := 13) hx hb dX11_readsAll_15 (by decide) ?_
  refine lv_icmp_ne (tgt := 24) hx hb dX11_readsAll_17 (by decide) (fun c_ => absurd (by decide +kernel) c_) (fun _ => ?_)
  refine lv_iconst (v := 5) hx hb dX11_readsAll_20 (by decide) ?_
  refine lv_goto (tgt := 25) hx hb dX11_readsAll_21 (by decide) ?_
  refine xist (f' := upd (fun _ => 0) 13 5) F hP hD hS 1 rfl 13 (by decide +kernel) (by decide +kernel) (by decide) rfl dX11_readsAll_25 (fun H locs hP hD hS => ?_)
  have hP : va_P g vwCl [(h1, .inr (11, [x2, .int 0, x3, .int 0, .int 0, .int 0, .int 0, .long 0, .int 0, x4, .ref h5, x6, x7, x8, x9, x10, x11, x12, x13, x14, x15, x16, x17, x18, x19, x20, x21, x22, .ref h23, .ref h24, x25, .int 0, .int 0, x26, x27, x28, x29, x30, x31, x32, x33, x34, x35, x36, x37, x38, x39, x40, x41, x42, x43, x44, x45, x46, x47, x48, x49, x50, x51, x52, x53, x54, x55, x56, x57, x58, x59, x60, x61, x62, x63, x64, x65, x66])), (h5, .inl (aC 0, 14, .inl (upd (fun _ => 0) 13 5))), (h23, .inl (aC 0, 2, .inl (fun _ => 0))), (h24, .inl (aC 0, 2, .inl (fun _ => 0)))] H := hP
  have hD : va_D A [(h1, .inr (11, [x2, .int 0, x3, .int 0, .int 0, .int 0, .int 0, .long 0, .int 0, x4, .ref h5, x6, x7, x8, x9, x10, x11, x12, x13, x14, x15, x16, x17, x18, x19, x20, x21, x22, .ref h23, .ref h24, x25, .int 0, .int 0, x26, x27, x28, x29, x30, x31, x32, x33, x34, x35, x36, x37, x38, x39, x40, x41, x42, x43, x44, x45, x46, x47, x48, x49, x50, x51, x52, x53, x54, x55, x56, x57, x58, x59, x60, x61, x62, x63, x64, x65, x66])), (h5, .inl (aC 0, 14, .inl (upd (fun _ => 0) 13 5))), (h23, .inl (aC 0, 2, .inl (fun _ => 0))), (h24, .inl (aC 0, 2, .inl (fun _ => 0)))] := hD
  refine lv_iinc (v := 14) (lv' := [(1, .int 14), (0, .ref h1)]) hx hb dX11_readsAll_26 hl (k := 0) rfl (by decide +kernel) (by decide) rfl (fun ls hl => ?_)
  refine lv_goto (tgt := 3) hx hb dX11_readsAll_29 (by decide) ?_
  refine lv_iload_n hx hb dX11_readsAll_3 rfl (lv_at hl 0 rfl) ?_
  refine lv_bipush (v := 14) hx hb dX11_readsAll_4 (by decide) ?_
  refine lv_icmp_ge (tgt := 32) hx hb dX11_readsAll_6 (by decide) (fun _ => ?_) (fun c_ => absurd (by decide +kernel) c_)
  refine lv_aload_n hx hb dX11_readsAll_32 rfl (lv_at hl 1 rfl) ?_
  refine xget F hP 0 rfl rfl inX11 28 (by decide) tb1210 rfl dX11_readsAll_33 ?_
  refine lv_iconst (v := 1) hx hb dX11_readsAll_36 (by decide) ?_
  refine lv_sipush (v := 1000) hx hb dX11_readsAll_37 (by decide) ?_
  refine xist (f' := upd (fun _ => 0) 1 1000) F hP hD hS 2 rfl 1 (by decide +kernel) (by decide +kernel) (by decide) rfl dX11_readsAll_40 (fun H locs hP hD hS => ?_)
  have hP : va_P g vwCl [(h1, .inr (11, [x2, .int 0, x3, .int 0, .int 0, .int 0, .int 0, .long 0, .int 0, x4, .ref h5, x6, x7, x8, x9, x10, x11, x12, x13, x14, x15, x16, x17, x18, x19, x20, x21, x22, .ref h23, .ref h24, x25, .int 0, .int 0, x26, x27, x28, x29, x30, x31, x32, x33, x34, x35, x36, x37, x38, x39, x40, x41, x42, x43, x44, x45, x46, x47, x48, x49, x50, x51, x52, x53, x54, x55, x56, x57, x58, x59, x60, x61, x62, x63, x64, x65, x66])), (h5, .inl (aC 0, 14, .inl (upd (fun _ => 0) 13 5))), (h23, .inl (aC 0, 2, .inl (upd (fun _ => 0) 1 1000))), (h24, .inl (aC 0, 2, .inl (fun _ => 0)))] H := hP
  have hD : va_D A [(h1, .inr (11, [x2, .int 0, x3, .int 0, .int 0, .int 0, .int 0, .long 0, .int 0, x4, .ref h5, x6, x7, x8, x9, x10, x11, x12, x13, x14, x15, x16, x17, x18, x19, x20, x21, x22, .ref h23, .ref h24, x25, .int 0, .int 0, x26, x27, x28, x29, x30, x31, x32, x33, x34, x35, x36, x37, x38, x39, x40, x41, x42, x43, x44, x45, x46, x47, x48, x49, x50, x51, x52, x53, x54, x55, x56, x57, x58, x59, x60, x61, x62, x63, x64, x65, x66])), (h5, .inl (aC 0, 14, .inl (upd (fun _ => 0) 13 5))), (h23, .inl (aC 0, 2, .inl (upd (fun _ => 0) 1 1000))), (h24, .inl (aC 0, 2, .inl (fun _ => 0)))] := hD
  refine lv_aload_n hx hb dX11_readsAll_41 rfl (lv_at hl 1 rfl) ?_
  refine xget F hP 0 rfl rfl inX11 29 (by decide) tb1211 rfl dX11_readsAll_42 ?_
  refine lv_iconst (v := 1) hx hb dX11_readsAll_45 (by decide) ?_
  refine lv_sipush (v := 1000) hx hb dX11_readsAll_46 (by decide) ?_
  refine xist (f' := upd (fun _ => 0) 1 1000) F hP hD hS 3 rfl 1 (by decide +kernel) (by decide +kernel) (by decide) rfl dX11_readsAll_49 (fun H locs hP hD hS => ?_)
  have hP : va_P g vwCl [(h1, .inr (11, [x2, .int 0, x3, .int 0, .int 0, .int 0, .int 0, .long 0, .int 0, x4, .ref h5, x6, x7, x8, x9, x10, x11, x12, x13, x14, x15, x16, x17, x18, x19, x20, x21, x22, .ref h23, .ref h24, x25, .int 0, .int 0, x26, x27, x28, x29, x30, x31, x32, x33, x34, x35, x36, x37, x38, x39, x40, x41, x42, x43, x44, x45, x46, x47, x48, x49, x50, x51, x52, x53, x54, x55, x56, x57, x58, x59, x60, x61, x62, x63, x64, x65, x66])), (h5, .inl (aC 0, 14, .inl (upd (fun _ => 0) 13 5))), (h23, .inl (aC 0, 2, .inl (upd (fun _ => 0) 1 1000))), (h24, .inl (aC 0, 2, .inl (upd (fun _ => 0) 1 1000)))] H := hP
  have hD : va_D A [(h1, .inr (11, [x2, .int 0, x3, .int 0, .int 0, .int 0, .int 0, .long 0, .int 0, x4, .ref h5, x6, x7, x8, x9, x10, x11, x12, x13, x14, x15, x16, x17, x18, x19, x20, x21, x22, .ref h23, .ref h24, x25, .int 0, .int 0, x26, x27, x28, x29, x30, x31, x32, x33, x34, x35, x36, x37, x38, x39, x40, x41, x42, x43, x44, x45, x46, x47, x48, x49, x50, x51, x52, x53, x54, x55, x56, x57, x58, x59, x60, x61, x62, x63, x64, x65, x66])), (h5, .inl (aC 0, 14, .inl (upd (fun _ => 0) 13 5))), (h23, .inl (aC 0, 2, .inl (upd (fun _ => 0) 1 1000))), (h24, .inl (aC 0, 2, .inl (upd (fun _ => 0) 1 1000)))] := hD
  refine lv_aload_n hx hb dX11_readsAll_50 rfl (lv_at hl 1 rfl) ?_
  refine lv_iconst (v := 0) hx hb dX11_readsAll_51 (by decide) ?_
  refine xput F hP hD hS 0 rfl rfl inX11 tyX11_ok nmX11 32 (by decide) tb1214 rfl rfl rfl (Nat.le_of_ble_eq_true rfl) dX11_readsAll_52 (fun H locs hP hD hS => ?_)
  have hP : va_P g vwCl [(h1, .inr (11, [x2, .int 0, x3, .int 0, .int 0, .int 0, .int 0, .long 0, .int 0, x4, .ref h5, x6, x7, x8, x9, x10, x11, x12, x13, x14, x15, x16, x17, x18, x19, x20, x21, x22, .ref h23, .ref h24, x25, .int 0, .int 0, x26, x27, x28, x29, x30, x31, x32, x33, x34, x35, x36, x37, x38, x39, x40, x41, x42, x43, x44, x45, x46, x47, x48, x49, x50, x51, x52, x53, x54, x55, x56, x57, x58, x59, x60, x61, x62, x63, x64, x65, x66])), (h5, .inl (aC 0, 14, .inl (upd (fun _ => 0) 13 5))), (h23, .inl (aC 0, 2, .inl (upd (fun _ => 0) 1 1000))), (h24, .inl (aC 0, 2, .inl (upd (fun _ => 0) 1 1000)))] H := hP
  have hD : va_D A [(h1, .inr (11, [x2, .int 0, x3, .int 0, .int 0, .int 0, .int 0, .long 0, .int 0, x4, .ref h5, x6, x7, x8, x9, x10, x11, x12, x13, x14, x15, x16, x17, x18, x19, x20, x21, x22, .ref h23, .ref h24, x25, .int 0, .int 0, x26, x27, x28, x29, x30, x31, x32, x33, x34, x35, x36, x37, x38, x39, x40, x41, x42, x43, x44, x45, x46, x47, x48, x49, x50, x51, x52, x53, x54, x55, x56, x57, x58, x59, x60, x61, x62, x63, x64, x65, x66])), (h5, .inl (aC 0, 14, .inl (upd (fun _ => 0) 13 5))), (h23, .inl (aC 0, 2, .inl (upd (fun _ => 0) 1 1000))), (h24, .inl (aC 0, 2, .inl (upd (fun _ => 0) 1 1000)))] := hD
  refine lv_aload_n hx hb dX11_readsAll_55 rfl (lv_at hl 1 rfl) ?_
  refine lv_sipush (v := 1000) hx hb dX11_readsAll_56 (by decide) ?_
  refine xput F hP hD hS 0 rfl rfl inX11 tyX11_ok nmX11 31 (by decide) tb1213 rfl rfl rfl (Nat.le_of_ble_eq_true rfl) dX11_readsAll_59 (fun H locs hP hD hS => ?_)
  have hP : va_P g vwCl [(h1, .inr (11, [x2, .int 0, x3, .int 0, .int 0, .int 0, .int 0, .long 0, .int 0, x4, .ref h5, x6, x7, x8, x9, x10, x11, x12, x13, x14, x15, x16, x17, x18, x19, x20, x21, x22, .ref h23, .ref h24, x25, .int 1000, .int 0, x26, x27, x28, x29, x30, x31, x32, x33, x34, x35, x36, x37, x38, x39, x40, x41, x42, x43, x44, x45, x46, x47, x48, x49, x50, x51, x52, x53, x54, x55, x56, x57, x58, x59, x60, x61, x62, x63, x64, x65, x66])), (h5, .inl (aC 0, 14, .inl (upd (fun _ => 0) 13 5))), (h23, .inl (aC 0, 2, .inl (upd (fun _ => 0) 1 1000))), (h24, .inl (aC 0, 2, .inl (upd (fun _ => 0) 1 1000)))] H := hP
  have hD : va_D A [(h1, .inr (11, [x2, .int 0, x3, .int 0, .int 0, .int 0, .int 0, .long 0, .int 0, x4, .ref h5, x6, x7, x8, x9, x10, x11, x12, x13, x14, x15, x16, x17, x18, x19, x20, x21, x22, .ref h23, .ref h24, x25, .int 1000, .int 0, x26, x27, x28, x29, x30, x31, x32, x33, x34, x35, x36, x37, x38, x39, x40, x41, x42, x43, x44, x45, x46, x47, x48, x49, x50, x51, x52, x53, x54, x55, x56, x57, x58, x59, x60, x61, x62, x63, x64, x65, x66])), (h5, .inl (aC 0, 14, .inl (upd (fun _ => 0) 13 5))), (h23, .inl (aC 0, 2, .inl (upd (fun _ => 0) 1 1000))), (h24, .inl (aC 0, 2, .inl (upd (fun _ => 0) 1 1000)))] := hD
  refine lv_aload_n hx hb dX11_readsAll_62 rfl (lv_at hl 1 rfl) ?_
  refine goV (wr := [(h5, .inl (aC 0, 14, .inl (upd (fun _ => 0) 13 5))), (h23, .inl (aC 0, 2, .inl (upd (fun _ => 0) 1 1000))), (h24, .inl (aC 0, 2, .inl (upd (fun _ => 0) 1 1000)))]) (runV (n := 0) (As := []) (rest := []) F hP hD hS (a_X11_starts_1 l g aC aM h1 x2 x3 x4 (.ref h5) x6 x7 x8 x9 x10 x11 x12 x13 x14 x15 x16 x17 x18 x19 x20 x21 x22 (.ref h23) (.ref h24) x25 (.int 1000) (.int 0) x26 x27 x28 x29 x30 x31 x32 x33 x34 x35 x36 x37 x38 x39 x40 x41 x42 x43 x44 x45 x46 x47 x48 x49 x50 x51 x52 x53 x54 x55 x56 x57 x58 x59 x60 x61 x62 x63 x64 x65 x66) [0] (by decide) rfl 0 11 rfl rfl rfl tb1426 tb1423 tb1425 tv34 tb17 ⟨by decide, by decide, by decide +kernel⟩ ⟨Nat.le_of_ble_eq_true rfl, Nat.le_of_ble_eq_true rfl⟩ rfl hl.1 rfl (Nat.le_of_ble_eq_true rfl) dX11_readsAll_63 ⟨Nat.le_of_ble_eq_true rfl, Nat.le_of_ble_eq_true rfl⟩) hP hD hS hA [0] [1, 2, 3] rfl rfl (by decide) (by decide) (fun w18 H locs hw hP hD hS => ?_)
  have hP : va_P g vwCl [(h5, .inl (aC 0, 14, .inl (upd (fun _ => 0) 13 5))), (h23, .inl (aC 0, 2, .inl (upd (fun _ => 0) 1 1000))), (h24, .inl (aC 0, 2, .inl (upd (fun _ => 0) 1 1000))), (h1, .inr (11, [x2, .int 0, x3, .int 0, .int 0, .int 0, .int 0, .long 0, .int 0, x4, .ref h5, x6, x7, x8, x9, x10, x11, x12, x13, x14, x15, x16, x17, x18, x19, x20, x21, x22, .ref h23, .ref h24, x25, .int 1000, .int 0, x26, x27, x28, x29, x30, x31, x32, x33, x34, x35, x36, x37, x38, x39, x40, x41, x42, x43, x44, x45, x46, x47, x48, x49, x50, x51, x52, x53, x54, x55, x56, x57, x58, x59, x60, x61, x62, x63, x64, x65, x66]))] H := hP
  have hD : va_D A [(h5, .inl (aC 0, 14, .inl (upd (fun _ => 0) 13 5))), (h23, .inl (aC 0, 2, .inl (upd (fun _ => 0) 1 1000))), (h24, .inl (aC 0, 2, .inl (upd (fun _ => 0) 1 1000))), (h1, .inr (11, [x2, .int 0, x3, .int 0, .int 0, .int 0, .int 0, .long 0, .int 0, x4, .ref h5, x6, x7, x8, x9, x10, x11, x12, x13, x14, x15, x16, x17, x18, x19, x20, x21, x22, .ref h23, .ref h24, x25, .int 1000, .int 0, x26, x27, x28, x29, x30, x31, x32, x33, x34, x35, x36, x37, x38, x39, x40, x41, x42, x43, x44, x45, x46, x47, x48, x49, x50, x51, x52, x53, x54, x55, x56, x57, x58, x59, x60, x61, x62, x63, x64, x65, x66]))] := hD
  refine lv_aload_n hx hb dX11_readsAll_66 rfl (lv_at hl 1 rfl) ?_
  refine xget F hP 3 rfl rfl inX11 6 (by decide) tb1188 rfl dX11_readsAll_67 ?_
  refine lv_if_eq (tgt := 232) hx hb dX11_readsAll_70 (by decide) (fun _ => ?_) (fun c_ => absurd (by decide +kernel) c_)
  refine lv_iconst (v := 1) hx hb dX11_readsAll_232 (by decide) ?_
  have hP9 := hP.sub (ws' := [(h5, .inl (aC 0, 14, .inl (upd (fun _ => 0) 13 5))), (h23, .inl (aC 0, 2, .inl (upd (fun _ => 0) 1 1000))), (h24, .inl (aC 0, 2, .inl (upd (fun _ => 0) 1 1000))), (h1, .inr (11, [x2, .int 0, x3, .int 0, .int 0, .int 0, .int 0, .long 0, .int 0, x4, .ref h5, x6, x7, x8, x9, x10, x11, x12, x13, x14, x15, x16, x17, x18, x19, x20, x21, x22, .ref h23, .ref h24, x25, .int 1000, .int 0, x26, x27, x28, x29, x30, x31, x32, x33, x34, x35, x36, x37, x38, x39, x40, x41, x42, x43, x44, x45, x46, x47, x48, x49, x50, x51, x52, x53, x54, x55, x56, x57, x58, x59, x60, x61, x62, x63, x64, x65, x66]))]) [0, 1, 2, 3] rfl
  have hD9 := hD.sub (ws' := [(h5, .inl (aC 0, 14, .inl (upd (fun _ => 0) 13 5))), (h23, .inl (aC 0, 2, .inl (upd (fun _ => 0) 1 1000))), (h24, .inl (aC 0, 2, .inl (upd (fun _ => 0) 1 1000))), (h1, .inr (11, [x2, .int 0, x3, .int 0, .int 0, .int 0, .int 0, .long 0, .int 0, x4, .ref h5, x6, x7, x8, x9, x10, x11, x12, x13, x14, x15, x16, x17, x18, x19, x20, x21, x22, .ref h23, .ref h24, x25, .int 1000, .int 0, x26, x27, x28, x29, x30, x31, x32, x33, x34, x35, x36, x37, x38, x39, x40, x41, x42, x43, x44, x45, x46, x47, x48, x49, x50, x51, x52, x53, x54, x55, x56, x57, x58, x59, x60, x61, x62, x63, x64, x65, x66]))]) [0, 1, 2, 3] (by decide) rfl
  exact rI () hx hb hr hlk rfl hS rfl hP9 hD9 (Nat.le_of_ble_eq_true rfl) (Nat.le_of_ble_eq_true rfl) dX11_readsAll_233

theorem tb1419 : (Jvm.Cond.methodLink "StairGangModel" (407 : Nat) ({ cls := "StairGangModel", name := "readsAll", desc := "()Z" } : Jvm.MethodName)) ∈ gw := lw_m 1419 (by decide +kernel)
theorem tb1421 : (Jvm.Cond.instanceMethod ({ cls := "StairGangModel", name := "readsAll", desc := "()Z" } : Jvm.MethodName)) ∈ gw := lw_m 1421 (by decide +kernel)
theorem tb1422 : (Jvm.Cond.code ({ cls := "StairGangModel", name := "readsAll", desc := "()Z" } : Jvm.MethodName) prog_13_method_42_code (2 : Nat) (Option.some Jvm.ClassFile.FieldType.boolean)) ∈ gw := lw_m 1422 (by decide +kernel)
theorem tv33 : Cond.selects "StairGangModel" ⟨"StairGangModel", "readsAll", "()Z"⟩ ⟨"StairGangModel", "readsAll", "()Z"⟩ ∈ gw := lw_v 33 (by decide +kernel)
theorem dX11_lays_0 : decode cX11_lays 0 = .ok (.aload_n 0, 1) := by decide +kernel
theorem dX11_lays_1 : decode cX11_lays 1 = .ok (.getfield 13, 3) := by decide +kernel
theorem dX11_lays_4 : decode cX11_lays 4 = .ok (.bipush 7, 2) := by decide +kernel
theorem dX11_lays_6 : decode cX11_lays 6 = .ok (.invokestatic 393, 3) := by decide +kernel
theorem dX11_town_9 : decode cX11_town 9 = .ok (.ifCond .ne 8, 3) := by decide +kernel
theorem dX11_town_17 : decode cX11_town 17 = .ok (.aload_n 0, 1) := by decide +kernel
theorem dX11_town_18 : decode cX11_town 18 = .ok (.invokevirtual 410, 3) := by decide +kernel
set_option maxHeartbeats 4000000 in
set_option maxRecDepth 100000 in
theorem a_X11_moves_5 (l : Launch) (g : va_G) (aC : Nat → ClassId) (aM : Nat → Nat) (h1 : Nat) : Ct l g aC aM yX11_moves cX11_moves 3 none 1 [.ref h1, .int 7] [(h1, .inl (aC 0, 14, .inl (upd (fun _ => 0) 13 5)))] (QV g (fun (_ : Unit) => True) (fun (_ : Unit) => [(h1, .inl (aC 0, 14, .inl (upd (upd (upd (upd (upd (upd (upd (upd (fun _ => 0) 13 5) 0 0) 1 0) 2 0) 3 0) 4 0) 5 0) 6 5)))])) 0 0 := by
  refine Ct.mk (by decide) (Nat.le_of_ble_eq_true rfl) ?_
  intro p e s m below meth c A ls hx hb hml hown hts hr hlk hnm hK hA hM hM2 hP hD hS hl
  have hown : s.vm.findClass RX11 = some m.cls := hown
  have F : Fx p s m _ c cX11_moves 3 RX11 g aC aM A := ⟨hx, hb, hml, hown, hts, hK, hA, hM, hM2⟩
  have hl : lv_has ls 3 [(0, .ref h1), (1, .int 7)] := hl
  refine lv_iconst (v := 0) hx hb dX11_moves_0 (by decide) ?_
  refine lv_istore_n (lv' := [(2, .int 0), (0, .ref h1), (1, .int 7)]) hx hb dX11_moves_1 rfl hl (by decide) rfl (fun ls hl => ?_)
  refine lv_iload_n hx hb dX11_moves_2 rfl (lv_at hl 0 rfl) ?_
  refine lv_iload_n hx hb dX11_moves_3 rfl (lv_at hl 2 rfl) ?_
  refine lv_icmp_ge (tgt := 21) hx hb dX11_moves_4 (by decide) (fun c_ => absurd c_ (by decide +kernel)) (fun _ => ?_)
  refine lv_aload_n hx hb dX11_moves_7 rfl (lv_at hl 1 rfl) ?_
  refine lv_iload_n hx hb dX11_moves_8 rfl (lv_at hl 0 rfl) ?_
  refine lv_aload_n hx hb dX11_moves_9 rfl (lv_at hl 1 rfl) ?_
  refine lv_iload_n hx hb dX11_moves_10 rfl (lv_at hl 2 rfl) ?_
  refine lv_iload_n hx hb dX11_moves_11 rfl (lv_at hl 0 rfl) ?_
  refine lv_iadd hx hb dX11_moves_12 ?_
  refine relit (v := 7) (by decide +kernel) ?_
  refine xilo (v := 0) F hP 0 rfl 7 (by decide +kernel) (by decide +kernel) (by decide) (by decide +kernel) dX11_moves_13 ?_
  refine xist (f' := upd (upd (fun _ => 0) 13 5) 0 0) F hP hD hS 0 rfl 0 (by decide +kernel) (by decide +kernel) (by decide) rfl dX11_moves_14 (fun H locs hP hD hS => ?_)
  have hP : va_P g vwCl [(h1, .inl (aC 0, 14, .inl (upd (upd (fun _ => 0) 13 5) 0 0)))] H := hP
  have hD : va_D A [(h1, .inl (aC 0, 14, .inl (upd (upd (fun _ => 0) 13 5) 0 0)))] := hD
  refine lv_iinc (v := 1) (lv' := [(2, .int 1), (0, .ref h1), (1, .int 7)]) hx hb dX11_moves_15 hl (k := 0) rfl (by decide +kernel) (by decide) rfl (fun ls hl => ?_)
  refine lv_goto (tgt := 2) hx hb dX11_moves_18 (by decide) ?_
  refine lv_iload_n hx hb dX11_moves_2 rfl (lv_at hl 0 rfl) ?_
  refine lv_iload_n hx hb dX11_moves_3 rfl (lv_at hl 2 rfl) ?_
  refine lv_icmp_ge (tgt := 21) hx hb dX11_moves_4 (by decide) (fun c_ => absurd c_ (by decide +kernel)) (fun _ => ?_)
  refine lv_aload_n hx hb dX11_moves_7 rfl (lv_at hl 1 rfl) ?_
  refine lv_iload_n hx hb dX11_moves_8 rfl (lv_at hl 0 rfl) ?_
  refine lv_aload_n hx hb dX11_moves_9 rfl (lv_at hl 1 rfl) ?_
  refine lv_iload_n hx hb dX11_moves_10 rfl (lv_at hl 2 rfl) ?_
  refine lv_iload_n hx hb dX11_moves_11 rfl (lv_at hl 0 rfl) ?_
  refine lv_iadd hx hb dX11_moves_12 ?_
  refine relit (v := 8) (by decide +kernel) ?_
  refine xilo (v := 0) F hP 0 rfl 8 (by decide +kernel) (by decide +kernel) (by decide) (by decide +kernel) dX11_moves_13 ?_
  refine xist (f' := upd (upd (upd (fun _ => 0) 13 5) 0 0) 1 0) F hP hD hS 0 rfl 1 (by decide +kernel) (by decide +kernel) (by decide) rfl dX11_moves_14 (fun H locs hP hD hS => ?_)
  have hP : va_P g vwCl [(h1, .inl (aC 0, 14, .inl (upd (upd (upd (fun _ => 0) 13 5) 0 0) 1 0)))] H := hP
  have hD : va_D A [(h1, .inl (aC 0, 14, .inl (upd (upd (upd (fun _ => 0) 13 5) 0 0) 1 0)))] := hD
  refine lv_iinc (v := 2) (lv' := [(2, .int 2), (0, .ref h1), (1, .int 7)]) hx hb dX11_moves_15 hl (k := 0) rfl (by decide +kernel) (by decide) rfl (fun ls hl => ?_)
  refine lv_goto (tgt := 2) hx hb dX11_moves_18 (by decide) ?_
  refine lv_iload_n hx hb dX11_moves_2 rfl (lv_at hl 0 rfl) ?_
  refine lv_iload_n hx hb dX11_moves_3 rfl (lv_at hl 2 rfl) ?_
  refine lv_icmp_ge (tgt := 21) hx hb dX11_moves_4 (by decide) (fun c_ => absurd c_ (by decide +kernel)) (fun _ => ?_)
  refine lv_aload_n hx hb dX11_moves_7 rfl (lv_at hl 1 rfl) ?_
  refine lv_iload_n hx hb dX11_moves_8 rfl (lv_at hl 0 rfl) ?_
  refine lv_aload_n hx hb dX11_moves_9 rfl (lv_at hl 1 rfl) ?_
  refine lv_iload_n hx hb dX11_moves_10 rfl (lv_at hl 2 rfl) ?_
  refine lv_iload_n hx hb dX11_moves_11 rfl (lv_at hl 0 rfl) ?_
  refine lv_iadd hx hb dX11_moves_12 ?_
  refine relit (v := 9) (by decide +kernel) ?_
  refine xilo (v := 0) F hP 0 rfl 9 (by decide +kernel) (by decide +kernel) (by decide) (by decide +kernel) dX11_moves_13 ?_
  refine xist (f' := upd (upd (upd (upd (fun _ => 0) 13 5) 0 0) 1 0) 2 0) F hP hD hS 0 rfl 2 (by decide +kernel) (by decide +kernel) (by decide) rfl dX11_moves_14 (fun H locs hP hD hS => ?_)
  have hP : va_P g vwCl [(h1, .inl (aC 0, 14, .inl (upd (upd (upd (upd (fun _ => 0) 13 5) 0 0) 1 0) 2 0)))] H := hP
  have hD : va_D A [(h1, .inl (aC 0, 14, .inl (upd (upd (upd (upd (fun _ => 0) 13 5) 0 0) 1 0) 2 0)))] := hD
  refine lv_iinc (v := 3) (lv' := [(2, .int 3), (0, .ref h1), (1, .int 7)]) hx hb dX11_moves_15 hl (k := 0) rfl (by decide +kernel) (by decide) rfl (fun ls hl => ?_)
  refine lv_goto (tgt := 2) hx hb dX11_moves_18 (by decide) ?_
  refine lv_iload_n hx hb dX11_moves_2 rfl (lv_at hl 0 rfl) ?_
  refine lv_iload_n hx hb dX11_moves_3 rfl (lv_at hl 2 rfl) ?_
  refine lv_icmp_ge (tgt := 21) hx hb dX11_moves_4 (by decide) (fun c_ => absurd c_ (by decide +kernel)) (fun _ => ?_)
  refine lv_aload_n hx hb dX11_moves_7 rfl (lv_at hl 1 rfl) ?_
  refine lv_iload_n hx hb dX11_moves_8 rfl (lv_at hl 0 rfl) ?_
  refine lv_aload_n hx hb dX11_moves_9 rfl (lv_at hl 1 rfl) ?_
  refine lv_iload_n hx hb dX11_moves_10 rfl (lv_at hl 2 rfl) ?_
  refine lv_iload_n hx hb dX11_moves_11 rfl (lv_at hl 0 rfl) ?_
  refine lv_iadd hx hb dX11_moves_12 ?_
  refine relit (v := 10) (by decide +kernel) ?_
  refine xilo (v := 0) F hP 0 rfl 10 (by decide +kernel) (by decide +kernel) (by decide) (by decide +kernel) dX11_moves_13 ?_
  refine xist (f' := upd (upd (upd (upd (upd (fun _ => 0) 13 5) 0 0) 1 0) 2 0) 3 0) F hP hD hS 0 rfl 3 (by decide +kernel) (by decide +kernel) (by decide) rfl dX11_moves_14 (fun H locs hP hD hS => ?_)
  have hP : va_P g vwCl [(h1, .inl (aC 0, 14, .inl (upd (upd (upd (upd (upd (fun _ => 0) 13 5) 0 0) 1 0) 2 0) 3 0)))] H := hP
  have hD : va_D A [(h1, .inl (aC 0, 14, .inl (upd (upd (upd (upd (upd (fun _ => 0) 13 5) 0 0) 1 0) 2 0) 3 0)))] := hD
  refine lv_iinc (v := 4) (lv' := [(2, .int 4), (0, .ref h1), (1, .int 7)]) hx hb dX11_moves_15 hl (k := 0) rfl (by decide +kernel) (by decide) rfl (fun ls hl => ?_)
  refine lv_goto (tgt := 2) hx hb dX11_moves_18 (by decide) ?_
  refine lv_iload_n hx hb dX11_moves_2 rfl (lv_at hl 0 rfl) ?_
  refine lv_iload_n hx hb dX11_moves_3 rfl (lv_at hl 2 rfl) ?_
  refine lv_icmp_ge (tgt := 21) hx hb dX11_moves_4 (by decide) (fun c_ => absurd c_ (by decide +kernel)) (fun _ => ?_)
  refine lv_aload_n hx hb dX11_moves_7 rfl (lv_at hl 1 rfl) ?_
  refine lv_iload_n hx hb dX11_moves_8 rfl (lv_at hl 0 rfl) ?_
  refine lv_aload_n hx hb dX11_moves_9 rfl (lv_at hl 1 rfl) ?_
  refine lv_iload_n hx hb dX11_moves_10 rfl (lv_at hl 2 rfl) ?_
  refine lv_iload_n hx hb dX11_moves_11 rfl (lv_at hl 0 rfl) ?_
  refine lv_iadd hx hb dX11_moves_12 ?_
  refine relit (v := 11) (by decide +kernel) ?_
  refine xilo (v := 0) F hP 0 rfl 11 (by decide +kernel) (by decide +kernel) (by decide) (by decide +kernel) dX11_moves_13 ?_
  refine xist (f' := upd (upd (upd (upd (upd (upd (fun _ => 0) 13 5) 0 0) 1 0) 2 0) 3 0) 4 0) F hP hD hS 0 rfl 4 (by decide +kernel) (by decide +kernel) (by decide) rfl dX11_moves_14 (fun H locs hP hD hS => ?_)
  have hP : va_P g vwCl [(h1, .inl (aC 0, 14, .inl (upd (upd (upd (upd (upd (upd (fun _ => 0) 13 5) 0 0) 1 0) 2 0) 3 0) 4 0)))] H := hP
  have hD : va_D A [(h1, .inl (aC 0, 14, .inl (upd (upd (upd (upd (upd (upd (fun _ => 0) 13 5) 0 0) 1 0) 2 0) 3 0) 4 0)))] := hD
  refine lv_iinc (v := 5) (lv' := [(2, .int 5), (0, .ref h1), (1, .int 7)]) hx hb dX11_moves_15 hl (k := 0) rfl (by decide +kernel) (by decide) rfl (fun ls hl => ?_)
  refine lv_goto (tgt := 2) hx hb dX11_moves_18 (by decide) ?_
  refine lv_iload_n hx hb dX11_moves_2 rfl (lv_at hl 0 rfl) ?_
  refine lv_iload_n hx hb dX11_moves_3 rfl (lv_at hl 2 rfl) ?_
  refine lv_icmp_ge (tgt := 21) hx hb dX11_moves_4 (by decide) (fun c_ => absurd c_ (by decide +kernel)) (fun _ => ?_)
  refine lv_aload_n hx hb dX11_moves_7 rfl (lv_at hl 1 rfl) ?_
  refine lv_iload_n hx hb dX11_moves_8 rfl (lv_at hl 0 rfl) ?_
  refine lv_aload_n hx hb dX11_moves_9 rfl (lv_at hl 1 rfl) ?_
  refine lv_iload_n hx hb dX11_moves_10 rfl (lv_at hl 2 rfl) ?_
  refine lv_iload_n hx hb dX11_moves_11 rfl (lv_at hl 0 rfl) ?_
  refine lv_iadd hx hb dX11_moves_12 ?_
  refine relit (v := 12) (by decide +kernel) ?_
  refine xilo (v := 0) F hP 0 rfl 12 (by decide +kernel) (by decide +kernel) (by decide) (by decide +kernel) dX11_moves_13 ?_
  refine xist (f' := upd (upd (upd (upd (upd (upd (upd (fun _ => 0) 13 5) 0 0) 1 0) 2 0) 3 0) 4 0) 5 0) F hP hD hS 0 rfl 5 (by decide +kernel) (by decide +kernel) (by decide) rfl dX11_moves_14 (fun H locs hP hD hS => ?_)
  have hP : va_P g vwCl [(h1, .inl (aC 0, 14, .inl (upd (upd (upd (upd (upd (upd (upd (fun _ => 0) 13 5) 0 0) 1 0) 2 0) 3 0) 4 0) 5 0)))] H := hP
  have hD : va_D A [(h1, .inl (aC 0, 14, .inl (upd (upd (upd (upd (upd (upd (upd (fun _ => 0) 13 5) 0 0) 1 0) 2 0) 3 0) 4 0) 5 0)))] := hD
  refine lv_iinc (v := 6) (lv' := [(2, .int 6), (0, .ref h1), (1, .int 7)]) hx hb dX11_moves_15 hl (k := 0) rfl (by decide +kernel) (by decide) rfl (fun ls hl => ?_)
  refine lv_goto (tgt := 2) hx hb dX11_moves_18 (by decide) ?_
  refine lv_iload_n hx hb dX11_moves_2 rfl (lv_at hl 0 rfl) ?_
  refine lv_iload_n hx hb dX11_moves_3 rfl (lv_at hl 2 rfl) ?_
  refine lv_icmp_ge (tgt := 21) hx hb dX11_moves_4 (by decide) (fun c_ => absurd c_ (by decide +kernel)) (fun _ => ?_)
  refine lv_aload_n hx hb dX11_moves_7 rfl (lv_at hl 1 rfl) ?_
  refine lv_iload_n hx hb dX11_moves_8 rfl (lv_at hl 0 rfl) ?_
  refine lv_aload_n hx hb dX11_moves_9 rfl (lv_at hl 1 rfl) ?_
  refine lv_iload_n hx hb dX11_moves_10 rfl (lv_at hl 2 rfl) ?_
  refine lv_iload_n hx hb dX11_moves_11 rfl (lv_at hl 0 rfl) ?_
  refine lv_iadd hx hb dX11_moves_12 ?_
  refine relit (v := 13) (by decide +kernel) ?_
  refine xilo (v := 5) F hP 0 rfl 13 (by decide +kernel) (by decide +kernel) (by decide) (by decide +kernel) dX11_moves_13 ?_
  refine xist (f' := upd (upd (upd (upd (upd (upd (upd (upd (fun _ => 0) 13 5) 0 0) 1 0) 2 0) 3 0) 4 0) 5 0) 6 5) F hP hD hS 0 rfl 6 (by decide +kernel) (by decide +kernel) (by decide) rfl dX11_moves_14 (fun H locs hP hD hS => ?_)
  have hP : va_P g vwCl [(h1, .inl (aC 0, 14, .inl (upd (upd (upd (upd (upd (upd (upd (upd (fun _ => 0) 13 5) 0 0) 1 0) 2 0) 3 0) 4 0) 5 0) 6 5)))] H := hP
  have hD : va_D A [(h1, .inl (aC 0, 14, .inl (upd (upd (upd (upd (upd (upd (upd (upd (fun _ => 0) 13 5) 0 0) 1 0) 2 0) 3 0) 4 0) 5 0) 6 5)))] := hD
  refine lv_iinc (v := 7) (lv' := [(2, .int 7), (0, .ref h1), (1, .int 7)]) hx hb dX11_moves_15 hl (k := 0) rfl (by decide +kernel) (by decide) rfl (fun ls hl => ?_)
  refine lv_goto (tgt := 2) hx hb dX11_moves_18 (by decide) ?_
  refine lv_iload_n hx hb dX11_moves_2 rfl (lv_at hl 0 rfl) ?_
  refine lv_iload_n hx hb dX11_moves_3 rfl (lv_at hl 2 rfl) ?_
  refine lv_icmp_ge (tgt := 21) hx hb dX11_moves_4 (by decide) (fun _ => ?_) (fun c_ => absurd (by decide +kernel) c_)
  have hP9 := hP.sub (ws' := [(h1, .inl (aC 0, 14, .inl (upd (upd (upd (upd (upd (upd (upd (upd (fun _ => 0) 13 5) 0 0) 1 0) 2 0) 3 0) 4 0) 5 0) 6 5)))]) [0] rfl
  have hD9 := hD.sub (ws' := [(h1, .inl (aC 0, 14, .inl (upd (upd (upd (upd (upd (upd (upd (upd (fun _ => 0) 13 5) 0 0) 1 0) 2 0) 3 0) 4 0) 5 0) 6 5)))]) [0] (by decide) rfl
  exact rV () hx hb hr hlk hS trivial hP9 hD9 (Nat.le_of_ble_eq_true rfl) (Nat.le_of_ble_eq_true rfl) dX11_moves_21

theorem tb1579 : (Jvm.Cond.methodLink "StairGangModel" (393 : Nat) ({ cls := "StairGangModel", name := "moves", desc := "([II)V" } : Jvm.MethodName)) ∈ gw := lw_m 1579 (by decide +kernel)
theorem tb1580 : (Jvm.Cond.static ({ cls := "StairGangModel", name := "moves", desc := "([II)V" } : Jvm.MethodName)) ∈ gw := lw_m 1580 (by decide +kernel)
theorem tb1581 : (Jvm.Cond.code ({ cls := "StairGangModel", name := "moves", desc := "([II)V" } : Jvm.MethodName) prog_13_method_43_code (3 : Nat) (Option.none : Option Jvm.ClassFile.FieldType)) ∈ gw := lw_m 1581 (by decide +kernel)
theorem tb1582 : (Jvm.Cond.methodLink "StairGangModel" (397 : Nat) ({ cls := "StairGangModel", name := "movesNames", desc := "([JI)V" } : Jvm.MethodName)) ∈ gw := lw_m 1582 (by decide +kernel)
theorem tb1583 : (Jvm.Cond.static ({ cls := "StairGangModel", name := "movesNames", desc := "([JI)V" } : Jvm.MethodName)) ∈ gw := lw_m 1583 (by decide +kernel)
theorem tb1584 : (Jvm.Cond.code ({ cls := "StairGangModel", name := "movesNames", desc := "([JI)V" } : Jvm.MethodName) prog_13_method_44_code (3 : Nat) (Option.none : Option Jvm.ClassFile.FieldType)) ∈ gw := lw_m 1584 (by decide +kernel)
theorem dX11_lays_9 : decode cX11_lays 9 = .ok (.aload_n 0, 1) := by decide +kernel
theorem dX11_lays_10 : decode cX11_lays 10 = .ok (.getfield 16, 3) := by decide +kernel
theorem dX11_lays_13 : decode cX11_lays 13 = .ok (.iconst 5, 1) := by decide +kernel
theorem dX11_lays_14 : decode cX11_lays 14 = .ok (.invokestatic 397, 3) := by decide +kernel
theorem dX11_lays_17 : decode cX11_lays 17 = .ok (.aload_n 0, 1) := by decide +kernel
theorem dX11_lays_18 : decode cX11_lays 18 = .ok (.getfield 20, 3) := by decide +kernel
theorem dX11_lays_21 : decode cX11_lays 21 = .ok (.iconst 4, 1) := by decide +kernel
theorem dX11_lays_22 : decode cX11_lays 22 = .ok (.invokestatic 397, 3) := by decide +kernel
theorem dX11_lays_25 : decode cX11_lays 25 = .ok (.aload_n 0, 1) := by decide +kernel
theorem dX11_lays_26 : decode cX11_lays 26 = .ok (.getfield 23, 3) := by decide +kernel
theorem dX11_lays_29 : decode cX11_lays 29 = .ok (.iconst 5, 1) := by decide +kernel
theorem dX11_lays_30 : decode cX11_lays 30 = .ok (.invokestatic 397, 3) := by decide +kernel
theorem dX11_lays_33 : decode cX11_lays 33 = .ok (.aload_n 0, 1) := by decide +kernel
theorem dX11_lays_34 : decode cX11_lays 34 = .ok (.getfield 26, 3) := by decide +kernel
theorem dX11_lays_37 : decode cX11_lays 37 = .ok (.iconst 4, 1) := by decide +kernel
theorem dX11_lays_38 : decode cX11_lays 38 = .ok (.invokestatic 397, 3) := by decide +kernel
theorem dX11_lays_41 : decode cX11_lays 41 = .ok (.aload_n 0, 1) := by decide +kernel
theorem dX11_lays_42 : decode cX11_lays 42 = .ok (.getfield 29, 3) := by decide +kernel
theorem dX11_lays_45 : decode cX11_lays 45 = .ok (.iconst 5, 1) := by decide +kernel
theorem dX11_lays_46 : decode cX11_lays 46 = .ok (.invokestatic 393, 3) := by decide +kernel
theorem dX11_lays_49 : decode cX11_lays 49 = .ok (.aload_n 0, 1) := by decide +kernel
theorem dX11_lays_50 : decode cX11_lays 50 = .ok (.getfield 32, 3) := by decide +kernel
theorem dX11_lays_53 : decode cX11_lays 53 = .ok (.bipush 10, 2) := by decide +kernel
theorem dX11_lays_55 : decode cX11_lays 55 = .ok (.invokestatic 393, 3) := by decide +kernel
theorem dX11_lays_58 : decode cX11_lays 58 = .ok (.aload_n 0, 1) := by decide +kernel
theorem dX11_lays_59 : decode cX11_lays 59 = .ok (.getfield 35, 3) := by decide +kernel
theorem dX11_lays_62 : decode cX11_lays 62 = .ok (.bipush 10, 2) := by decide +kernel
theorem dX11_lays_64 : decode cX11_lays 64 = .ok (.invokestatic 393, 3) := by decide +kernel
theorem dX11_lays_67 : decode cX11_lays 67 = .ok (.aload_n 0, 1) := by decide +kernel
theorem dX11_lays_68 : decode cX11_lays 68 = .ok (.getfield 38, 3) := by decide +kernel
theorem dX11_lays_71 : decode cX11_lays 71 = .ok (.bipush 10, 2) := by decide +kernel
theorem dX11_lays_73 : decode cX11_lays 73 = .ok (.invokestatic 393, 3) := by decide +kernel
theorem dX11_lays_76 : decode cX11_lays 76 = .ok (.aload_n 0, 1) := by decide +kernel
theorem dX11_lays_77 : decode cX11_lays 77 = .ok (.getfield 41, 3) := by decide +kernel
theorem dX11_lays_80 : decode cX11_lays 80 = .ok (.bipush 10, 2) := by decide +kernel
theorem dX11_lays_82 : decode cX11_lays 82 = .ok (.invokestatic 393, 3) := by decide +kernel
theorem dX11_lays_85 : decode cX11_lays 85 = .ok (.aload_n 0, 1) := by decide +kernel
theorem dX11_lays_86 : decode cX11_lays 86 = .ok (.getfield 44, 3) := by decide +kernel
theorem dX11_lays_89 : decode cX11_lays 89 = .ok (.iconst 4, 1) := by decide +kernel
theorem dX11_lays_90 : decode cX11_lays 90 = .ok (.invokestatic 393, 3) := by decide +kernel
theorem dX11_lays_93 : decode cX11_lays 93 = .ok (.aload_n 0, 1) := by decide +kernel
theorem dX11_lays_94 : decode cX11_lays 94 = .ok (.getfield 47, 3) := by decide +kernel
theorem dX11_lays_97 : decode cX11_lays 97 = .ok (.iconst 4, 1) := by decide +kernel
theorem dX11_lays_98 : decode cX11_lays 98 = .ok (.invokestatic 393, 3) := by decide +kernel
theorem dX11_lays_101 : decode cX11_lays 101 = .ok (.aload_n 0, 1) := by decide +kernel
theorem dX11_lays_102 : decode cX11_lays 102 = .ok (.getfield 50, 3) := by decide +kernel
theorem dX11_lays_105 : decode cX11_lays 105 = .ok (.iconst 5, 1) := by decide +kernel
theorem dX11_lays_106 : decode cX11_lays 106 = .ok (.invokestatic 393, 3) := by decide +kernel
theorem dX11_lays_109 : decode cX11_lays 109 = .ok (.aload_n 0, 1) := by decide +kernel
theorem dX11_lays_110 : decode cX11_lays 110 = .ok (.getfield 53, 3) := by decide +kernel
theorem dX11_lays_113 : decode cX11_lays 113 = .ok (.iconst 5, 1) := by decide +kernel
theorem dX11_lays_114 : decode cX11_lays 114 = .ok (.invokestatic 393, 3) := by decide +kernel
theorem dX11_lays_117 : decode cX11_lays 117 = .ok (.aload_n 0, 1) := by decide +kernel
theorem dX11_lays_118 : decode cX11_lays 118 = .ok (.getfield 56, 3) := by decide +kernel
theorem dX11_lays_121 : decode cX11_lays 121 = .ok (.iconst 5, 1) := by decide +kernel
theorem dX11_lays_122 : decode cX11_lays 122 = .ok (.invokestatic 393, 3) := by decide +kernel
theorem dX11_lays_125 : decode cX11_lays 125 = .ok (.aload_n 0, 1) := by decide +kernel
theorem dX11_lays_126 : decode cX11_lays 126 = .ok (.getfield 59, 3) := by decide +kernel
theorem dX11_lays_129 : decode cX11_lays 129 = .ok (.iconst 5, 1) := by decide +kernel
theorem dX11_lays_130 : decode cX11_lays 130 = .ok (.invokestatic 393, 3) := by decide +kernel
theorem dX11_lays_133 : decode cX11_lays 133 = .ok (.aload_n 0, 1) := by decide +kernel
theorem dX11_lays_134 : decode cX11_lays 134 = .ok (.getfield 62, 3) := by decide +kernel
theorem dX11_lays_137 : decode cX11_lays 137 = .ok (.iconst 4, 1) := by decide +kernel
theorem dX11_lays_138 : decode cX11_lays 138 = .ok (.invokestatic 393, 3) := by decide +kernel
theorem dX11_lays_141 : decode cX11_lays 141 = .ok (.aload_n 0, 1) := by decide +kernel
theorem dX11_lays_142 : decode cX11_lays 142 = .ok (.getfield 65, 3) := by decide +kernel
theorem dX11_lays_145 : decode cX11_lays 145 = .ok (.iconst 4, 1) := by decide +kernel
theorem dX11_lays_146 : decode cX11_lays 146 = .ok (.invokestatic 393, 3) := by decide +kernel
theorem dX11_lays_149 : decode cX11_lays 149 = .ok (.aload_n 0, 1) := by decide +kernel
theorem dX11_lays_150 : decode cX11_lays 150 = .ok (.getfield 74, 3) := by decide +kernel
theorem dX11_lays_153 : decode cX11_lays 153 = .ok (.sipush 1000, 3) := by decide +kernel
theorem dX11_lays_156 : decode cX11_lays 156 = .ok (.invokestatic 393, 3) := by decide +kernel
theorem dX11_lays_159 : decode cX11_lays 159 = .ok (.aload_n 0, 1) := by decide +kernel
theorem dX11_lays_160 : decode cX11_lays 160 = .ok (.getfield 68, 3) := by decide +kernel
theorem dX11_lays_163 : decode cX11_lays 163 = .ok (.iconst 0, 1) := by decide +kernel
theorem dX11_lays_164 : decode cX11_lays 164 = .ok (.aload_n 0, 1) := by decide +kernel
theorem dX11_lays_165 : decode cX11_lays 165 = .ok (.getfield 68, 3) := by decide +kernel
theorem dX11_lays_168 : decode cX11_lays 168 = .ok (.iconst 1, 1) := by decide +kernel
theorem dX11_lays_169 : decode cX11_lays 169 = .ok (.iaload, 1) := by decide +kernel
theorem dX11_lays_170 : decode cX11_lays 170 = .ok (.sipush 1000, 3) := by decide +kernel
theorem dX11_lays_173 : decode cX11_lays 173 = .ok (.isub, 1) := by decide +kernel
theorem dX11_lays_174 : decode cX11_lays 174 = .ok (.iastore, 1) := by decide +kernel
theorem dX11_lays_175 : decode cX11_lays 175 = .ok (.aload_n 0, 1) := by decide +kernel
theorem dX11_lays_176 : decode cX11_lays 176 = .ok (.getfield 71, 3) := by decide +kernel
theorem dX11_lays_179 : decode cX11_lays 179 = .ok (.iconst 0, 1) := by decide +kernel
theorem dX11_lays_180 : decode cX11_lays 180 = .ok (.aload_n 0, 1) := by decide +kernel
theorem dX11_lays_181 : decode cX11_lays 181 = .ok (.getfield 71, 3) := by decide +kernel
theorem dX11_lays_184 : decode cX11_lays 184 = .ok (.iconst 1, 1) := by decide +kernel
theorem dX11_lays_185 : decode cX11_lays 185 = .ok (.iaload, 1) := by decide +kernel
theorem dX11_lays_186 : decode cX11_lays 186 = .ok (.sipush 1000, 3) := by decide +kernel
theorem dX11_lays_189 : decode cX11_lays 189 = .ok (.isub, 1) := by decide +kernel
theorem dX11_lays_190 : decode cX11_lays 190 = .ok (.iastore, 1) := by decide +kernel
theorem dX11_lays_191 : decode cX11_lays 191 = .ok (.return_, 1) := by decide +kernel
set_option maxHeartbeats 4000000 in
set_option maxRecDepth 100000 in
theorem a_X11_lays_1 (l : Launch) (g : va_G) (aC : Nat → ClassId) (aM : Nat → Nat) (h1 h2 h3 h4 h5 h6 h7 h8 h9 h10 h11 h12 h13 h14 h15 h16 h17 h18 h19 h20 h21 h22 : Nat) (x23 x24 x25 x26 x27 x28 x29 x30 x31 x32 x33 x34 x35 x36 x37 x38 x39 x40 x41 x42 x43 x44 x45 x46 x47 x48 x49 x50 x51 x52 x53 x54 x55 x56 x57 x58 x59 x60 x61 x62 x63 x64 x65 x66 x67 x68 x69 x70 x71 x72 x73 x74 x75 : Value) : Ct l g aC aM yX11_lays cX11_lays 1 none 2 [.ref h1] [(h2, .inl (aC 1, 10, .inr (.inl (fun _ => 0)))), (h3, .inl (aC 1, 8, .inr (.inl (fun _ => 0)))), (h4, .inl (aC 1, 10, .inr (.inl (fun _ => 0)))), (h5, .inl (aC 1, 8, .inr (.inl (fun _ => 0)))), (h6, .inl (aC 0, 10, .inl (fun _ => 0))), (h7, .inl (aC 0, 20, .inl (fun _ => 0))), (h8, .inl (aC 0, 20, .inl (fun _ => 0))), (h9, .inl (aC 0, 20, .inl (fun _ => 0))), (h10, .inl (aC 0, 20, .inl (fun _ => 0))), (h11, .inl (aC 0, 8, .inl (fun _ => 0))), (h12, .inl (aC 0, 8, .inl (fun _ => 0))), (h13, .inl (aC 0, 10, .inl (fun _ => 0))), (h14, .inl (aC 0, 10, .inl (fun _ => 0))), (h15, .inl (aC 0, 10, .inl (fun _ => 0))), (h16, .inl (aC 0, 10, .inl (fun _ => 0))), (h17, .inl (aC 0, 8, .inl (fun _ => 0))), (h18, .inl (aC 0, 8, .inl (fun _ => 0))), (h19, .inl (aC 0, 2000, .inl (fun _ => 0))), (h20, .inl (aC 0, 14, .inl (upd (fun _ => 0) 13 5))), (h21, .inl (aC 0, 2, .inl (upd (fun _ => 0) 1 1000))), (h22, .inl (aC 0, 2, .inl (upd (fun _ => 0) 1 1000))), (h1, .inr (11, [x23, x24, x25, x26, x27, x28, x29, x30, x31, x32, .ref h20, .ref h2, .ref h3, .ref h4, .ref h5, .ref h6, .ref h7, .ref h8, .ref h9, .ref h10, .ref h11, .ref h12, .ref h13, .ref h14, .ref h15, .ref h16, .ref h17, .ref h18, .ref h21, .ref h22, .ref h19, x33, x34, x35, x36, x37, x38, x39, x40, x41, x42, x43, x44, x45, x46, x47, x48, x49, x50, x51, x52, x53, x54, x55, x56, x57, x58, x59, x60, x61, x62, x63, x64, x65, x66, x67, x68, x69, x70, x71, x72, x73, x74, x75]))] (QV g (fun (_ : Unit) => True) (fun (_ : Unit) => [(h21, .inl (aC 0, 2, .inl (upd (upd (fun _ => 0) 1 1000) 0 0))), (h22, .inl (aC 0, 2, .inl (upd (upd (fun _ => 0) 1 1000) 0 0))), (h1, .inr (11, [x23, x24, x25, x26, x27, x28, x29, x30, x31, x32, .ref h20, .ref h2, .ref h3, .ref h4, .ref h5, .ref h6, .ref h7, .ref h8, .ref h9, .ref h10, .ref h11, .ref h12, .ref h13, .ref h14, .ref h15, .ref h16, .ref h17, .ref h18, .ref h21, .ref h22, .ref h19, x33, x34, x35, x36, x37, x38, x39, x40, x41, x42, x43, x44, x45, x46, x47, x48, x49, x50, x51, x52, x53, x54, x55, x56, x57, x58, x59, x60, x61, x62, x63, x64, x65, x66, x67, x68, x69, x70, x71, x72, x73, x74, x75])), (h20, .inl (aC 0, 14, .inl (upd (upd (upd (upd (upd (upd (upd (upd (fun _ => 0) 13 5) 0 0) 1 0) 2 0) 3 0) 4 0) 5 0) 6 5))), (h2, .inl (aC 1, 10, .inr (.inl (fun _ => 0)))), (h3, .inl (aC 1, 8, .inr (.inl (fun _ => 0)))), (h4, .inl (aC 1, 10, .inr (.inl (fun _ => 0)))), (h5, .inl (aC 1, 8, .inr (.inl (fun _ => 0)))), (h6, .inl (aC 0, 10, .inl (fun _ => 0))), (h7, .inl (aC 0, 20, .inl (fun _ => 0))), (h8, .inl (aC 0, 20, .inl (fun _ => 0))), (h9, .inl (aC 0, 20, .inl (fun _ => 0))), (h10, .inl (aC 0, 20, .inl (fun _ => 0))), (h11, .inl (aC 0, 8, .inl (fun _ => 0))), (h12, .inl (aC 0, 8, .inl (fun _ => 0))), (h13, .inl (aC 0, 10, .inl (fun _ => 0))), (h14, .inl (aC 0, 10, .inl (fun _ => 0))), (h15, .inl (aC 0, 10, .inl (fun _ => 0))), (h16, .inl (aC 0, 10, .inl (fun _ => 0))), (h17, .inl (aC 0, 8, .inl (fun _ => 0))), (h18, .inl (aC 0, 8, .inl (fun _ => 0))), (h19, .inl (aC 0, 2000, .inl (fun _ => 0)))])) 0 0 := by
  refine Ct.mk (by decide) (Nat.le_of_ble_eq_true rfl) ?_
  intro p e s m below meth c A ls hx hb hml hown hts hr hlk hnm hK hA hM hM2 hP hD hS hl
  have hown : s.vm.findClass RX11 = some m.cls := hown
  have F : Fx p s m _ c cX11_lays 1 RX11 g aC aM A := ⟨hx, hb, hml, hown, hts, hK, hA, hM, hM2⟩
  have hl : lv_has ls 1 [(0, .ref h1)] := hl
  refine lv_aload_n hx hb dX11_lays_0 rfl (lv_at hl 0 rfl) ?_
  refine xget F hP 21 rfl rfl inX11 10 (by decide) tb1192 rfl dX11_lays_1 ?_
  refine lv_bipush (v := 7) hx hb dX11_lays_4 (by decide) ?_
  refine goV (wr := [(h2, .inl (aC 1, 10, .inr (.inl (fun _ => 0)))), (h3, .inl (aC 1, 8, .inr (.inl (fun _ => 0)))), (h4, .inl (aC 1, 10, .inr (.inl (fun _ => 0)))), (h5, .inl (aC 1, 8, .inr (.inl (fun _ => 0)))), (h6, .inl (aC 0, 10, .inl (fun _ => 0))), (h7, .inl (aC 0, 20, .inl (fun _ => 0))), (h8, .inl (aC 0, 20, .inl (fun _ => 0))), (h9, .inl (aC 0, 20, .inl (fun _ => 0))), (h10, .inl (aC 0, 20, .inl (fun _ => 0))), (h11, .inl (aC 0, 8, .inl (fun _ => 0))), (h12, .inl (aC 0, 8, .inl (fun _ => 0))), (h13, .inl (aC 0, 10, .inl (fun _ => 0))), (h14, .inl (aC 0, 10, .inl (fun _ => 0))), (h15, .inl (aC 0, 10, .inl (fun _ => 0))), (h16, .inl (aC 0, 10, .inl (fun _ => 0))), (h17, .inl (aC 0, 8, .inl (fun _ => 0))), (h18, .inl (aC 0, 8, .inl (fun _ => 0))), (h19, .inl (aC 0, 2000, .inl (fun _ => 0))), (h21, .inl (aC 0, 2, .inl (upd (fun _ => 0) 1 1000))), (h22, .inl (aC 0, 2, .inl (upd (fun _ => 0) 1 1000))), (h1, .inr (11, [x23, x24, x25, x26, x27, x28, x29, x30, x31, x32, .ref h20, .ref h2, .ref h3, .ref h4, .ref h5, .ref h6, .ref h7, .ref h8, .ref h9, .ref h10, .ref h11, .ref h12, .ref h13, .ref h14, .ref h15, .ref h16, .ref h17, .ref h18, .ref h21, .ref h22, .ref h19, x33, x34, x35, x36, x37, x38, x39, x40, x41, x42, x43, x44, x45, x46, x47, x48, x49, x50, x51, x52, x53, x54, x55, x56, x57, x58, x59, x60, x61, x62, x63, x64, x65, x66, x67, x68, x69, x70, x71, x72, x73, x74, x75]))]) (runS (n := 2) (As := [.ref h20, .int 7]) (rest := []) F hP hD hS (a_X11_moves_5 l g aC aM h20) [18] (by decide) rfl tb1581 tb1579 tb1580 tb17 ⟨by decide, by decide, by decide +kernel⟩ ⟨Nat.le_of_ble_eq_true rfl, Nat.le_of_ble_eq_true rfl⟩ rfl hl.1 rfl (Nat.le_of_ble_eq_true rfl) dX11_lays_6 ⟨Nat.le_of_ble_eq_true rfl, Nat.le_of_ble_eq_true rfl⟩) hP hD hS hA [18] [0, 1, 2, 3, 4, 5, 6, 7, 8, 9, 10, 11, 12, 13, 14, 15, 16, 17, 19, 20, 21] rfl rfl (by decide) (by decide) (fun w3 H locs hw hP hD hS => ?_)
  have hP : va_P g vwCl [(h2, .inl (aC 1, 10, .inr (.inl (fun _ => 0)))), (h3, .inl (aC 1, 8, .inr (.inl (fun _ => 0)))), (h4, .inl (aC 1, 10, .inr (.inl (fun _ => 0)))), (h5, .inl (aC 1, 8, .inr (.inl (fun _ => 0)))), (h6, .inl (aC 0, 10, .inl (fun _ => 0))), (h7, .inl (aC 0, 20, .inl (fun _ => 0))), (h8, .inl (aC 0, 20, .inl (fun _ => 0))), (h9, .inl (aC 0, 20, .inl (fun _ => 0))), (h10, .inl (aC 0, 20, .inl (fun _ => 0))), (h11, .inl (aC 0, 8, .inl (fun _ => 0))), (h12, .inl (aC 0, 8, .inl (fun _ => 0))), (h13, .inl (aC 0, 10, .inl (fun _ => 0))), (h14, .inl (aC 0, 10, .inl (fun _ => 0))), (h15, .inl (aC 0, 10, .inl (fun _ => 0))), (h16, .inl (aC 0, 10, .inl (fun _ => 0))), (h17, .inl (aC 0, 8, .inl (fun _ => 0))), (h18, .inl (aC 0, 8, .inl (fun _ => 0))), (h19, .inl (aC 0, 2000, .inl (fun _ => 0))), (h21, .inl (aC 0, 2, .inl (upd (fun _ => 0) 1 1000))), (h22, .inl (aC 0, 2, .inl (upd (fun _ => 0) 1 1000))), (h1, .inr (11, [x23, x24, x25, x26, x27, x28, x29, x30, x31, x32, .ref h20, .ref h2, .ref h3, .ref h4, .ref h5, .ref h6, .ref h7, .ref h8, .ref h9, .ref h10, .ref h11, .ref h12, .ref h13, .ref h14, .ref h15, .ref h16, .ref h17, .ref h18, .ref h21, .ref h22, .ref h19, x33, x34, x35, x36, x37, x38, x39, x40, x41, x42, x43, x44, x45, x46, x47, x48, x49, x50, x51, x52, x53, x54, x55, x56, x57, x58, x59, x60, x61, x62, x63, x64, x65, x66, x67, x68, x69, x70, x71, x72, x73, x74, x75])), (h20, .inl (aC 0, 14, .inl (upd (upd (upd (upd (upd (upd (upd (upd (fun _ => 0) 13 5) 0 0) 1 0) 2 0) 3 0) 4 0) 5 0) 6 5)))] H := hP
  have hD : va_D A [(h2, .inl (aC 1, 10, .inr (.inl (fun _ => 0)))), (h3, .inl (aC 1, 8, .inr (.inl (fun _ => 0)))), (h4, .inl (aC 1, 10, .inr (.inl (fun _ => 0)))), (h5, .inl (aC 1, 8, .inr (.inl (fun _ => 0)))), (h6, .inl (aC 0, 10, .inl (fun _ => 0))), (h7, .inl (aC 0, 20, .inl (fun _ => 0))), (h8, .inl (aC 0, 20, .inl (fun _ => 0))), (h9, .inl (aC 0, 20, .inl (fun _ => 0))), (h10, .inl (aC 0, 20, .inl (fun _ => 0))), (h11, .inl (aC 0, 8, .inl (fun _ => 0))), (h12, .inl (aC 0, 8, .inl (fun _ => 0))), (h13, .inl (aC 0, 10, .inl (fun _ => 0))), (h14, .inl (aC 0, 10, .inl (fun _ => 0))), (h15, .inl (aC 0, 10, .inl (fun _ => 0))), (h16, .inl (aC 0, 10, .inl (fun _ => 0))), (h17, .inl (aC 0, 8, .inl (fun _ => 0))), (h18, .inl (aC 0, 8, .inl (fun _ => 0))), (h19, .inl (aC 0, 2000, .inl (fun _ => 0))), (h21, .inl (aC 0, 2, .inl (upd (fun _ => 0) 1 1000))), (h22, .inl (aC 0, 2, .inl (upd (fun _ => 0) 1 1000))), (h1, .inr (11, [x23, x24, x25, x26, x27, x28, x29, x30, x31, x32, .ref h20, .ref h2, .ref h3, .ref h4, .ref h5, .ref h6, .ref h7, .ref h8, .ref h9, .ref h10, .ref h11, .ref h12, .ref h13, .ref h14, .ref h15, .ref h16, .ref h17, .ref h18, .ref h21, .ref h22, .ref h19, x33, x34, x35, x36, x37, x38, x39, x40, x41, x42, x43, x44, x45, x46, x47, x48, x49, x50, x51, x52, x53, x54, x55, x56, x57, x58, x59, x60, x61, x62, x63, x64, x65, x66, x67, x68, x69, x70, x71, x72, x73, x74, x75])), (h20, .inl (aC 0, 14, .inl (upd (upd (upd (upd (upd (upd (upd (upd (fun _ => 0) 13 5) 0 0) 1 0) 2 0) 3 0) 4 0) 5 0) 6 5)))] := hD
  refine lv_aload_n hx hb dX11_lays_9 rfl (lv_at hl 0 rfl) ?_
  refine xget F hP 20 rfl rfl inX11 11 (by decide) tb1193 rfl dX11_lays_10 ?_
  refine lv_iconst (v := 5) hx hb dX11_lays_13 (by decide) ?_
  refine goV (wr := [(h3, .inl (aC 1, 8, .inr (.inl (fun _ => 0)))), (h4, .inl (aC 1, 10, .inr (.inl (fun _ => 0)))), (h5, .inl (aC 1, 8, .inr (.inl (fun _ => 0)))), (h6, .inl (aC 0, 10, .inl (fun _ => 0))), (h7, .inl (aC 0, 20, .inl (fun _ => 0))), (h8, .inl (aC 0, 20, .inl (fun _ => 0))), (h9, .inl (aC 0, 20, .inl (fun _ => 0))), (h10, .inl (aC 0, 20, .inl (fun _ => 0))), (h11, .inl (aC 0, 8, .inl (fun _ => 0))), (h12, .inl (aC 0, 8, .inl (fun _ => 0))), (h13, .inl (aC 0, 10, .inl (fun _ => 0))), (h14, .inl (aC 0, 10, .inl (fun _ => 0))), (h15, .inl (aC 0, 10, .inl (fun _ => 0))), (h16, .inl (aC 0, 10, .inl (fun _ => 0))), (h17, .inl (aC 0, 8, .inl (fun _ => 0))), (h18, .inl (aC 0, 8, .inl (fun _ => 0))), (h19, .inl (aC 0, 2000, .inl (fun _ => 0))), (h21, .inl (aC 0, 2, .inl (upd (fun _ => 0) 1 1000))), (h22, .inl (aC 0, 2, .inl (upd (fun _ => 0) 1 1000))), (h1, .inr (11, [x23, x24, x25, x26, x27, x28, x29, x30, x31, x32, .ref h20, .ref h2, .ref h3, .ref h4, .ref h5, .ref h6, .ref h7, .ref h8, .ref h9, .ref h10, .ref h11, .ref h12, .ref h13, .ref h14, .ref h15, .ref h16, .ref h17, .ref h18, .ref h21, .ref h22, .ref h19, x33, x34, x35, x36, x37, x38, x39, x40, x41, x42, x43, x44, x45, x46, x47, x48, x49, x50, x51, x52, x53, x54, x55, x56, x57, x58, x59, x60, x61, x62, x63, x64, x65, x66, x67, x68, x69, x70, x71, x72, x73, x74, x75])), (h20, .inl (aC 0, 14, .inl (upd (upd (upd (upd (upd (upd (upd (upd (fun _ => 0) 13 5) 0 0) 1 0) 2 0) 3 0) 4 0) 5 0) 6 5)))]) (runS (n := 2) (As := [.ref h2, .int 5]) (rest := []) F hP hD hS (k_movesNames10 l g aC aM h2) [0] (by decide) rfl tb1584 tb1582 tb1583 tb17 ⟨by decide, by decide, by decide +kernel⟩ ⟨Nat.le_of_ble_eq_true rfl, Nat.le_of_ble_eq_true rfl⟩ rfl hl.1 rfl (Nat.le_of_ble_eq_true rfl) dX11_lays_14 ⟨Nat.le_of_ble_eq_true rfl, Nat.le_of_ble_eq_true rfl⟩) hP hD hS hA [0] [1, 2, 3, 4, 5, 6, 7, 8, 9, 10, 11, 12, 13, 14, 15, 16, 17, 18, 19, 20, 21] rfl rfl (by decide) (by decide) (fun w6 H locs hw hP hD hS => ?_)
  have hP : va_P g vwCl [(h3, .inl (aC 1, 8, .inr (.inl (fun _ => 0)))), (h4, .inl (aC 1, 10, .inr (.inl (fun _ => 0)))), (h5, .inl (aC 1, 8, .inr (.inl (fun _ => 0)))), (h6, .inl (aC 0, 10, .inl (fun _ => 0))), (h7, .inl (aC 0, 20, .inl (fun _ => 0))), (h8, .inl (aC 0, 20, .inl (fun _ => 0))), (h9, .inl (aC 0, 20, .inl (fun _ => 0))), (h10, .inl (aC 0, 20, .inl (fun _ => 0))), (h11, .inl (aC 0, 8, .inl (fun _ => 0))), (h12, .inl (aC 0, 8, .inl (fun _ => 0))), (h13, .inl (aC 0, 10, .inl (fun _ => 0))), (h14, .inl (aC 0, 10, .inl (fun _ => 0))), (h15, .inl (aC 0, 10, .inl (fun _ => 0))), (h16, .inl (aC 0, 10, .inl (fun _ => 0))), (h17, .inl (aC 0, 8, .inl (fun _ => 0))), (h18, .inl (aC 0, 8, .inl (fun _ => 0))), (h19, .inl (aC 0, 2000, .inl (fun _ => 0))), (h21, .inl (aC 0, 2, .inl (upd (fun _ => 0) 1 1000))), (h22, .inl (aC 0, 2, .inl (upd (fun _ => 0) 1 1000))), (h1, .inr (11, [x23, x24, x25, x26, x27, x28, x29, x30, x31, x32, .ref h20, .ref h2, .ref h3, .ref h4, .ref h5, .ref h6, .ref h7, .ref h8, .ref h9, .ref h10, .ref h11, .ref h12, .ref h13, .ref h14, .ref h15, .ref h16, .ref h17, .ref h18, .ref h21, .ref h22, .ref h19, x33, x34, x35, x36, x37, x38, x39, x40, x41, x42, x43, x44, x45, x46, x47, x48, x49, x50, x51, x52, x53, x54, x55, x56, x57, x58, x59, x60, x61, x62, x63, x64, x65, x66, x67, x68, x69, x70, x71, x72, x73, x74, x75])), (h20, .inl (aC 0, 14, .inl (upd (upd (upd (upd (upd (upd (upd (upd (fun _ => 0) 13 5) 0 0) 1 0) 2 0) 3 0) 4 0) 5 0) 6 5))), (h2, .inl (aC 1, 10, .inr (.inl (fun _ => 0))))] H := hP
  have hD : va_D A [(h3, .inl (aC 1, 8, .inr (.inl (fun _ => 0)))), (h4, .inl (aC 1, 10, .inr (.inl (fun _ => 0)))), (h5, .inl (aC 1, 8, .inr (.inl (fun _ => 0)))), (h6, .inl (aC 0, 10, .inl (fun _ => 0))), (h7, .inl (aC 0, 20, .inl (fun _ => 0))), (h8, .inl (aC 0, 20, .inl (fun _ => 0))), (h9, .inl (aC 0, 20, .inl (fun _ => 0))), (h10, .inl (aC 0, 20, .inl (fun _ => 0))), (h11, .inl (aC 0, 8, .inl (fun _ => 0))), (h12, .inl (aC 0, 8, .inl (fun _ => 0))), (h13, .inl (aC 0, 10, .inl (fun _ => 0))), (h14, .inl (aC 0, 10, .inl (fun _ => 0))), (h15, .inl (aC 0, 10, .inl (fun _ => 0))), (h16, .inl (aC 0, 10, .inl (fun _ => 0))), (h17, .inl (aC 0, 8, .inl (fun _ => 0))), (h18, .inl (aC 0, 8, .inl (fun _ => 0))), (h19, .inl (aC 0, 2000, .inl (fun _ => 0))), (h21, .inl (aC 0, 2, .inl (upd (fun _ => 0) 1 1000))), (h22, .inl (aC 0, 2, .inl (upd (fun _ => 0) 1 1000))), (h1, .inr (11, [x23, x24, x25, x26, x27, x28, x29, x30, x31, x32, .ref h20, .ref h2, .ref h3, .ref h4, .ref h5, .ref h6, .ref h7, .ref h8, .ref h9, .ref h10, .ref h11, .ref h12, .ref h13, .ref h14, .ref h15, .ref h16, .ref h17, .ref h18, .ref h21, .ref h22, .ref h19, x33, x34, x35, x36, x37, x38, x39, x40, x41, x42, x43, x44, x45, x46, x47, x48, x49, x50, x51, x52, x53, x54, x55, x56, x57, x58, x59, x60, x61, x62, x63, x64, x65, x66, x67, x68, x69, x70, x71, x72, x73, x74, x75])), (h20, .inl (aC 0, 14, .inl (upd (upd (upd (upd (upd (upd (upd (upd (fun _ => 0) 13 5) 0 0) 1 0) 2 0) 3 0) 4 0) 5 0) 6 5))), (h2, .inl (aC 1, 10, .inr (.inl (fun _ => 0))))] := hD
  refine lv_aload_n hx hb dX11_lays_17 rfl (lv_at hl 0 rfl) ?_
  refine xget F hP 19 rfl rfl inX11 12 (by decide) tb1194 rfl dX11_lays_18 ?_
  refine lv_iconst (v := 4) hx hb dX11_lays_21 (by decide) ?_
  refine goV (wr := [(h4, .inl (aC 1, 10, .inr (.inl (fun _ => 0)))), (h5, .inl (aC 1, 8, .inr (.inl (fun _ => 0)))), (h6, .inl (aC 0, 10, .inl (fun _ => 0))), (h7, .inl (aC 0, 20, .inl (fun _ => 0))), (h8, .inl (aC 0, 20, .inl (fun _ => 0))), (h9, .inl (aC 0, 20, .inl (fun _ => 0))), (h10, .inl (aC 0, 20, .inl (fun _ => 0))), (h11, .inl (aC 0, 8, .inl (fun _ => 0))), (h12, .inl (aC 0, 8, .inl (fun _ => 0))), (h13, .inl (aC 0, 10, .inl (fun _ => 0))), (h14, .inl (aC 0, 10, .inl (fun _ => 0))), (h15, .inl (aC 0, 10, .inl (fun _ => 0))), (h16, .inl (aC 0, 10, .inl (fun _ => 0))), (h17, .inl (aC 0, 8, .inl (fun _ => 0))), (h18, .inl (aC 0, 8, .inl (fun _ => 0))), (h19, .inl (aC 0, 2000, .inl (fun _ => 0))), (h21, .inl (aC 0, 2, .inl (upd (fun _ => 0) 1 1000))), (h22, .inl (aC 0, 2, .inl (upd (fun _ => 0) 1 1000))), (h1, .inr (11, [x23, x24, x25, x26, x27, x28, x29, x30, x31, x32, .ref h20, .ref h2, .ref h3, .ref h4, .ref h5, .ref h6, .ref h7, .ref h8, .ref h9, .ref h10, .ref h11, .ref h12, .ref h13, .ref h14, .ref h15, .ref h16, .ref h17, .ref h18, .ref h21, .ref h22, .ref h19, x33, x34, x35, x36, x37, x38, x39, x40, x41, x42, x43, x44, x45, x46, x47, x48, x49, x50, x51, x52, x53, x54, x55, x56, x57, x58, x59, x60, x61, x62, x63, x64, x65, x66, x67, x68, x69, x70, x71, x72, x73, x74, x75])), (h20, .inl (aC 0, 14, .inl (upd (upd (upd (upd (upd (upd (upd (upd (fun _ => 0) 13 5) 0 0) 1 0) 2 0) 3 0) 4 0) 5 0) 6 5))), (h2, .inl (aC 1, 10, .inr (.inl (fun _ => 0))))]) (runS (n := 2) (As := [.ref h3, .int 4]) (rest := []) F hP hD hS (k_movesNames8 l g aC aM h3) [0] (by decide) rfl tb1584 tb1582 tb1583 tb17 ⟨by decide, by decide, by decide +kernel⟩ ⟨Nat.le_of_ble_eq_true rfl, Nat.le_of_ble_eq_true rfl⟩ rfl hl.1 rfl (Nat.le_of_ble_eq_true rfl) dX11_lays_22 ⟨Nat.le_of_ble_eq_true rfl, Nat.le_of_ble_eq_true rfl⟩) hP hD hS hA [0] [1, 2, 3, 4, 5, 6, 7, 8, 9, 10, 11, 12, 13, 14, 15, 16, 17, 18, 19, 20, 21] rfl rfl (by decide) (by decide) (fun w9 H locs hw hP hD hS => ?_)
  have hP : va_P g vwCl [(h4, .inl (aC 1, 10, .inr (.inl (fun _ => 0)))), (h5, .inl (aC 1, 8, .inr (.inl (fun _ => 0)))), (h6, .inl (aC 0, 10, .inl (fun _ => 0))), (h7, .inl (aC 0, 20, .inl (fun _ => 0))), (h8, .inl (aC 0, 20, .inl (fun _ => 0))), (h9, .inl (aC 0, 20, .inl (fun _ => 0))), (h10, .inl (aC 0, 20, .inl (fun _ => 0))), (h11, .inl (aC 0, 8, .inl (fun _ => 0))), (h12, .inl (aC 0, 8, .inl (fun _ => 0))), (h13, .inl (aC 0, 10, .inl (fun _ => 0))), (h14, .inl (aC 0, 10, .inl (fun _ => 0))), (h15, .inl (aC 0, 10, .inl (fun _ => 0))), (h16, .inl (aC 0, 10, .inl (fun _ => 0))), (h17, .inl (aC 0, 8, .inl (fun _ => 0))), (h18, .inl (aC 0, 8, .inl (fun _ => 0))), (h19, .inl (aC 0, 2000, .inl (fun _ => 0))), (h21, .inl (aC 0, 2, .inl (upd (fun _ => 0) 1 1000))), (h22, .inl (aC 0, 2, .inl (upd (fun _ => 0) 1 1000))), (h1, .inr (11, [x23, x24, x25, x26, x27, x28, x29, x30, x31, x32, .ref h20, .ref h2, .ref h3, .ref h4, .ref h5, .ref h6, .ref h7, .ref h8, .ref h9, .ref h10, .ref h11, .ref h12, .ref h13, .ref h14, .ref h15, .ref h16, .ref h17, .ref h18, .ref h21, .ref h22, .ref h19, x33, x34, x35, x36, x37, x38, x39, x40, x41, x42, x43, x44, x45, x46, x47, x48, x49, x50, x51, x52, x53, x54, x55, x56, x57, x58, x59, x60, x61, x62, x63, x64, x65, x66, x67, x68, x69, x70, x71, x72, x73, x74, x75])), (h20, .inl (aC 0, 14, .inl (upd (upd (upd (upd (upd (upd (upd (upd (fun _ => 0) 13 5) 0 0) 1 0) 2 0) 3 0) 4 0) 5 0) 6 5))), (h2, .inl (aC 1, 10, .inr (.inl (fun _ => 0)))), (h3, .inl (aC 1, 8, .inr (.inl (fun _ => 0))))] H := hP
  have hD : va_D A [(h4, .inl (aC 1, 10, .inr (.inl (fun _ => 0)))), (h5, .inl (aC 1, 8, .inr (.inl (fun _ => 0)))), (h6, .inl (aC 0, 10, .inl (fun _ => 0))), (h7, .inl (aC 0, 20, .inl (fun _ => 0))), (h8, .inl (aC 0, 20, .inl (fun _ => 0))), (h9, .inl (aC 0, 20, .inl (fun _ => 0))), (h10, .inl (aC 0, 20, .inl (fun _ => 0))), (h11, .inl (aC 0, 8, .inl (fun _ => 0))), (h12, .inl (aC 0, 8, .inl (fun _ => 0))), (h13, .inl (aC 0, 10, .inl (fun _ => 0))), (h14, .inl (aC 0, 10, .inl (fun _ => 0))), (h15, .inl (aC 0, 10, .inl (fun _ => 0))), (h16, .inl (aC 0, 10, .inl (fun _ => 0))), (h17, .inl (aC 0, 8, .inl (fun _ => 0))), (h18, .inl (aC 0, 8, .inl (fun _ => 0))), (h19, .inl (aC 0, 2000, .inl (fun _ => 0))), (h21, .inl (aC 0, 2, .inl (upd (fun _ => 0) 1 1000))), (h22, .inl (aC 0, 2, .inl (upd (fun _ => 0) 1 1000))), (h1, .inr (11, [x23, x24, x25, x26, x27, x28, x29, x30, x31, x32, .ref h20, .ref h2, .ref h3, .ref h4, .ref h5, .ref h6, .ref h7, .ref h8, .ref h9, .ref h10, .ref h11, .ref h12, .ref h13, .ref h14, .ref h15, .ref h16, .ref h17, .ref h18, .ref h21, .ref h22, .ref h19, x33, x34, x35, x36, x37, x38, x39, x40, x41, x42, x43, x44, x45, x46, x47, x48, x49, x50, x51, x52, x53, x54, x55, x56, x57, x58, x59, x60, x61, x62, x63, x64, x65, x66, x67, x68, x69, x70, x71, x72, x73, x74, x75])), (h20, .inl (aC 0, 14, .inl (upd (upd (upd (upd (upd (upd (upd (upd (fun _ => 0) 13 5) 0 0) 1 0) 2 0) 3 0) 4 0) 5 0) 6 5))), (h2, .inl (aC 1, 10, .inr (.inl (fun _ => 0)))), (h3, .inl (aC 1, 8, .inr (.inl (fun _ => 0))))] := hD
  refine lv_aload_n hx hb dX11_lays_25 rfl (lv_at hl 0 rfl) ?_
  refine xget F hP 18 rfl rfl inX11 13 (by decide) tb1195 rfl dX11_lays_26 ?_
  refine lv_iconst (v := 5) hx hb dX11_lays_29 (by decide) ?_
  refine goV (wr := [(h5, .inl (aC 1, 8, .inr (.inl (fun _ => 0)))), (h6, .inl (aC 0, 10, .inl (fun _ => 0))), (h7, .inl (aC 0, 20, .inl (fun _ => 0))), (h8, .inl (aC 0, 20, .inl (fun _ => 0))), (h9, .inl (aC 0, 20, .inl (fun _ => 0))), (h10, .inl (aC 0, 20, .inl (fun _ => 0))), (h11, .inl (aC 0, 8, .inl (fun _ => 0))), (h12, .inl (aC 0, 8, .inl (fun _ => 0))), (h13, .inl (aC 0, 10, .inl (fun _ => 0))), (h14, .inl (aC 0, 10, .inl (fun _ => 0))), (h15, .inl (aC 0, 10, .inl (fun _ => 0))), (h16, .inl (aC 0, 10, .inl (fun _ => 0))), (h17, .inl (aC 0, 8, .inl (fun _ => 0))), (h18, .inl (aC 0, 8, .inl (fun _ => 0))), (h19, .inl (aC 0, 2000, .inl (fun _ => 0))), (h21, .inl (aC 0, 2, .inl (upd (fun _ => 0) 1 1000))), (h22, .inl (aC 0, 2, .inl (upd (fun _ => 0) 1 1000))), (h1, .inr (11, [x23, x24, x25, x26, x27, x28, x29, x30, x31, x32, .ref h20, .ref h2, .ref h3, .ref h4, .ref h5, .ref h6, .ref h7, .ref h8, .ref h9, .ref h10, .ref h11, .ref h12, .ref h13, .ref h14, .ref h15, .ref h16, .ref h17, .ref h18, .ref h21, .ref h22, .ref h19, x33, x34, x35, x36, x37, x38, x39, x40, x41, x42, x43, x44, x45, x46, x47, x48, x49, x50, x51, x52, x53, x54, x55, x56, x57, x58, x59, x60, x61, x62, x63, x64, x65, x66, x67, x68, x69, x70, x71, x72, x73, x74, x75])), (h20, .inl (aC 0, 14, .inl (upd (upd (upd (upd (upd (upd (upd (upd (fun _ => 0) 13 5) 0 0) 1 0) 2 0) 3 0) 4 0) 5 0) 6 5))), (h2, .inl (aC 1, 10, .inr (.inl (fun _ => 0)))), (h3, .inl (aC 1, 8, .inr (.inl (fun _ => 0))))]) (runS (n := 2) (As := [.ref h4, .int 5]) (rest := []) F hP hD hS (k_movesNames10 l g aC aM h4) [0] (by decide) rfl tb1584 tb1582 tb1583 tb17 ⟨by decide, by decide, by decide +kernel⟩ ⟨Nat.le_of_ble_eq_true rfl, Nat.le_of_ble_eq_true rfl⟩ rfl hl.1 rfl (Nat.le_of_ble_eq_true rfl) dX11_lays_30 ⟨Nat.le_of_ble_eq_true rfl, Nat.le_of_ble_eq_true rfl⟩) hP hD hS hA [0] [1, 2, 3, 4, 5, 6, 7, 8, 9, 10, 11, 12, 13, 14, 15, 16, 17, 18, 19, 20, 21] rfl rfl (by decide) (by decide) (fun w12 H locs hw hP hD hS => ?_)
  have hP : va_P g vwCl [(h5, .inl (aC 1, 8, .inr (.inl (fun _ => 0)))), (h6, .inl (aC 0, 10, .inl (fun _ => 0))), (h7, .inl (aC 0, 20, .inl (fun _ => 0))), (h8, .inl (aC 0, 20, .inl (fun _ => 0))), (h9, .inl (aC 0, 20, .inl (fun _ => 0))), (h10, .inl (aC 0, 20, .inl (fun _ => 0))), (h11, .inl (aC 0, 8, .inl (fun _ => 0))), (h12, .inl (aC 0, 8, .inl (fun _ => 0))), (h13, .inl (aC 0, 10, .inl (fun _ => 0))), (h14, .inl (aC 0, 10, .inl (fun _ => 0))), (h15, .inl (aC 0, 10, .inl (fun _ => 0))), (h16, .inl (aC 0, 10, .inl (fun _ => 0))), (h17, .inl (aC 0, 8, .inl (fun _ => 0))), (h18, .inl (aC 0, 8, .inl (fun _ => 0))), (h19, .inl (aC 0, 2000, .inl (fun _ => 0))), (h21, .inl (aC 0, 2, .inl (upd (fun _ => 0) 1 1000))), (h22, .inl (aC 0, 2, .inl (upd (fun _ => 0) 1 1000))), (h1, .inr (11, [x23, x24, x25, x26, x27, x28, x29, x30, x31, x32, .ref h20, .ref h2, .ref h3, .ref h4, .ref h5, .ref h6, .ref h7, .ref h8, .ref h9, .ref h10, .ref h11, .ref h12, .ref h13, .ref h14, .ref h15, .ref h16, .ref h17, .ref h18, .ref h21, .ref h22, .ref h19, x33, x34, x35, x36, x37, x38, x39, x40, x41, x42, x43, x44, x45, x46, x47, x48, x49, x50, x51, x52, x53, x54, x55, x56, x57, x58, x59, x60, x61, x62, x63, x64, x65, x66, x67, x68, x69, x70, x71, x72, x73, x74, x75])), (h20, .inl (aC 0, 14, .inl (upd (upd (upd (upd (upd (upd (upd (upd (fun _ => 0) 13 5) 0 0) 1 0) 2 0) 3 0) 4 0) 5 0) 6 5))), (h2, .inl (aC 1, 10, .inr (.inl (fun _ => 0)))), (h3, .inl (aC 1, 8, .inr (.inl (fun _ => 0)))), (h4, .inl (aC 1, 10, .inr (.inl (fun _ => 0))))] H := hP
  have hD : va_D A [(h5, .inl (aC 1, 8, .inr (.inl (fun _ => 0)))), (h6, .inl (aC 0, 10, .inl (fun _ => 0))), (h7, .inl (aC 0, 20, .inl (fun _ => 0))), (h8, .inl (aC 0, 20, .inl (fun _ => 0))), (h9, .inl (aC 0, 20, .inl (fun _ => 0))), (h10, .inl (aC 0, 20, .inl (fun _ => 0))), (h11, .inl (aC 0, 8, .inl (fun _ => 0))), (h12, .inl (aC 0, 8, .inl (fun _ => 0))), (h13, .inl (aC 0, 10, .inl (fun _ => 0))), (h14, .inl (aC 0, 10, .inl (fun _ => 0))), (h15, .inl (aC 0, 10, .inl (fun _ => 0))), (h16, .inl (aC 0, 10, .inl (fun _ => 0))), (h17, .inl (aC 0, 8, .inl (fun _ => 0))), (h18, .inl (aC 0, 8, .inl (fun _ => 0))), (h19, .inl (aC 0, 2000, .inl (fun _ => 0))), (h21, .inl (aC 0, 2, .inl (upd (fun _ => 0) 1 1000))), (h22, .inl (aC 0, 2, .inl (upd (fun _ => 0) 1 1000))), (h1, .inr (11, [x23, x24, x25, x26, x27, x28, x29, x30, x31, x32, .ref h20, .ref h2, .ref h3, .ref h4, .ref h5, .ref h6, .ref h7, .ref h8, .ref h9, .ref h10, .ref h11, .ref h12, .ref h13, .ref h14, .ref h15, .ref h16, .ref h17, .ref h18, .ref h21, .ref h22, .ref h19, x33, x34, x35, x36, x37, x38, x39, x40, x41, x42, x43, x44, x45, x46, x47, x48, x49, x50, x51, x52, x53, x54, x55, x56, x57, x58, x59, x60, x61, x62, x63, x64, x65, x66, x67, x68, x69, x70, x71, x72, x73, x74, x75])), (h20, .inl (aC 0, 14, .inl (upd (upd (upd (upd (upd (upd (upd (upd (fun _ => 0) 13 5) 0 0) 1 0) 2 0) 3 0) 4 0) 5 0) 6 5))), (h2, .inl (aC 1, 10, .inr (.inl (fun _ => 0)))), (h3, .inl (aC 1, 8, .inr (.inl (fun _ => 0)))), (h4, .inl (aC 1, 10, .inr (.inl (fun _ => 0))))] := hD
  refine lv_aload_n hx hb dX11_lays_33 rfl (lv_at hl 0 rfl) ?_
  refine xget F hP 17 rfl rfl inX11 14 (by decide) tb1196 rfl dX11_lays_34 ?_
  refine lv_iconst (v := 4) hx hb dX11_lays_37 (by decide) ?_
  refine goV (wr := [(h6, .inl (aC 0, 10, .inl (fun _ => 0))), (h7, .inl (aC 0, 20, .inl (fun _ => 0))), (h8, .inl (aC 0, 20, .inl (fun _ => 0))), (h9, .inl (aC 0, 20, .inl (fun _ => 0))), (h10, .inl (aC 0, 20, .inl (fun _ => 0))), (h11, .inl (aC 0, 8, .inl (fun _ => 0))), (h12, .inl (aC 0, 8, .inl (fun _ => 0))), (h13, .inl (aC 0, 10, .inl (fun _ => 0))), (h14, .inl (aC 0, 10, .inl (fun _ => 0))), (h15, .inl (aC 0, 10, .inl (fun _ => 0))), (h16, .inl (aC 0, 10, .inl (fun _ => 0))), (h17, .inl (aC 0, 8, .inl (fun _ => 0))), (h18, .inl (aC 0, 8, .inl (fun _ => 0))), (h19, .inl (aC 0, 2000, .inl (fun _ => 0))), (h21, .inl (aC 0, 2, .inl (upd (fun _ => 0) 1 1000))), (h22, .inl (aC 0, 2, .inl (upd (fun _ => 0) 1 1000))), (h1, .inr (11, [x23, x24, x25, x26, x27, x28, x29, x30, x31, x32, .ref h20, .ref h2, .ref h3, .ref h4, .ref h5, .ref h6, .ref h7, .ref h8, .ref h9, .ref h10, .ref h11, .ref h12, .ref h13, .ref h14, .ref h15, .ref h16, .ref h17, .ref h18, .ref h21, .ref h22, .ref h19, x33, x34, x35, x36, x37, x38, x39, x40, x41, x42, x43, x44, x45, x46, x47, x48, x49, x50, x51, x52, x53, x54, x55, x56, x57, x58, x59, x60, x61, x62, x63, x64, x65, x66, x67, x68, x69, x70, x71, x72, x73, x74, x75])), (h20, .inl (aC 0, 14, .inl (upd (upd (upd (upd (upd (upd (upd (upd (fun _ => 0) 13 5) 0 0) 1 0) 2 0) 3 0) 4 0) 5 0) 6 5))), (h2, .inl (aC 1, 10, .inr (.inl (fun _ => 0)))), (h3, .inl (aC 1, 8, .inr (.inl (fun _ => 0)))), (h4, .inl (aC 1, 10, .inr (.inl (fun _ => 0))))]) (runS (n := 2) (As := [.ref h5, .int 4]) (rest := []) F hP hD hS (k_movesNames8 l g aC aM h5) [0] (by decide) rfl tb1584 tb1582 tb1583 tb17 ⟨by decide, by decide, by decide +kernel⟩ ⟨Nat.le_of_ble_eq_true rfl, Nat.le_of_ble_eq_true rfl⟩ rfl hl.1 rfl (Nat.le_of_ble_eq_true rfl) dX11_lays_38 ⟨Nat.le_of_ble_eq_true rfl, Nat.le_of_ble_eq_true rfl⟩) hP hD hS hA [0] [1, 2, 3, 4, 5, 6, 7, 8, 9, 10, 11, 12, 13, 14, 15, 16, 17, 18, 19, 20, 21] rfl rfl (by decide) (by decide) (fun w15 H locs hw hP hD hS => ?_)
  have hP : va_P g vwCl [(h6, .inl (aC 0, 10, .inl (fun _ => 0))), (h7, .inl (aC 0, 20, .inl (fun _ => 0))), (h8, .inl (aC 0, 20, .inl (fun _ => 0))), (h9, .inl (aC 0, 20, .inl (fun _ => 0))), (h10, .inl (aC 0, 20, .inl (fun _ => 0))), (h11, .inl (aC 0, 8, .inl (fun _ => 0))), (h12, .inl (aC 0, 8, .inl (fun _ => 0))), (h13, .inl (aC 0, 10, .inl (fun _ => 0))), (h14, .inl (aC 0, 10, .inl (fun _ => 0))), (h15, .inl (aC 0, 10, .inl (fun _ => 0))), (h16, .inl (aC 0, 10, .inl (fun _ => 0))), (h17, .inl (aC 0, 8, .inl (fun _ => 0))), (h18, .inl (aC 0, 8, .inl (fun _ => 0))), (h19, .inl (aC 0, 2000, .inl (fun _ => 0))), (h21, .inl (aC 0, 2, .inl (upd (fun _ => 0) 1 1000))), (h22, .inl (aC 0, 2, .inl (upd (fun _ => 0) 1 1000))), (h1, .inr (11, [x23, x24, x25, x26, x27, x28, x29, x30, x31, x32, .ref h20, .ref h2, .ref h3, .ref h4, .ref h5, .ref h6, .ref h7, .ref h8, .ref h9, .ref h10, .ref h11, .ref h12, .ref h13, .ref h14, .ref h15, .ref h16, .ref h17, .ref h18, .ref h21, .ref h22, .ref h19, x33, x34, x35, x36, x37, x38, x39, x40, x41, x42, x43, x44, x45, x46, x47, x48, x49, x50, x51, x52, x53, x54, x55, x56, x57, x58, x59, x60, x61, x62, x63, x64, x65, x66, x67, x68, x69, x70, x71, x72, x73, x74, x75])), (h20, .inl (aC 0, 14, .inl (upd (upd (upd (upd (upd (upd (upd (upd (fun _ => 0) 13 5) 0 0) 1 0) 2 0) 3 0) 4 0) 5 0) 6 5))), (h2, .inl (aC 1, 10, .inr (.inl (fun _ => 0)))), (h3, .inl (aC 1, 8, .inr (.inl (fun _ => 0)))), (h4, .inl (aC 1, 10, .inr (.inl (fun _ => 0)))), (h5, .inl (aC 1, 8, .inr (.inl (fun _ => 0))))] H := hP
  have hD : va_D A [(h6, .inl (aC 0, 10, .inl (fun _ => 0))), (h7, .inl (aC 0, 20, .inl (fun _ => 0))), (h8, .inl (aC 0, 20, .inl (fun _ => 0))), (h9, .inl (aC 0, 20, .inl (fun _ => 0))), (h10, .inl (aC 0, 20, .inl (fun _ => 0))), (h11, .inl (aC 0, 8, .inl (fun _ => 0))), (h12, .inl (aC 0, 8, .inl (fun _ => 0))), (h13, .inl (aC 0, 10, .inl (fun _ => 0))), (h14, .inl (aC 0, 10, .inl (fun _ => 0))), (h15, .inl (aC 0, 10, .inl (fun _ => 0))), (h16, .inl (aC 0, 10, .inl (fun _ => 0))), (h17, .inl (aC 0, 8, .inl (fun _ => 0))), (h18, .inl (aC 0, 8, .inl (fun _ => 0))), (h19, .inl (aC 0, 2000, .inl (fun _ => 0))), (h21, .inl (aC 0, 2, .inl (upd (fun _ => 0) 1 1000))), (h22, .inl (aC 0, 2, .inl (upd (fun _ => 0) 1 1000))), (h1, .inr (11, [x23, x24, x25, x26, x27, x28, x29, x30, x31, x32, .ref h20, .ref h2, .ref h3, .ref h4, .ref h5, .ref h6, .ref h7, .ref h8, .ref h9, .ref h10, .ref h11, .ref h12, .ref h13, .ref h14, .ref h15, .ref h16, .ref h17, .ref h18, .ref h21, .ref h22, .ref h19, x33, x34, x35, x36, x37, x38, x39, x40, x41, x42, x43, x44, x45, x46, x47, x48, x49, x50, x51, x52, x53, x54, x55, x56, x57, x58, x59, x60, x61, x62, x63, x64, x65, x66, x67, x68, x69, x70, x71, x72, x73, x74, x75])), (h20, .inl (aC 0, 14, .inl (upd (upd (upd (upd (upd (upd (upd (upd (fun _ => 0) 13 5) 0 0) 1 0) 2 0) 3 0) 4 0) 5 0) 6 5))), (h2, .inl (aC 1, 10, .inr (.inl (fun _ => 0)))), (h3, .inl (aC 1, 8, .inr (.inl (fun _ => 0)))), (h4, .inl (aC 1, 10, .inr (.inl (fun _ => 0)))), (h5, .inl (aC 1, 8, .inr (.inl (fun _ => 0))))] := hD
  refine lv_aload_n hx hb dX11_lays_41 rfl (lv_at hl 0 rfl) ?_
  refine xget F hP 16 rfl rfl inX11 15 (by decide) tb1197 rfl dX11_lays_42 ?_
  refine lv_iconst (v := 5) hx hb dX11_lays_45 (by decide) ?_
  refine goV (wr := [(h7, .inl (aC 0, 20, .inl (fun _ => 0))), (h8, .inl (aC 0, 20, .inl (fun _ => 0))), (h9, .inl (aC 0, 20, .inl (fun _ => 0))), (h10, .inl (aC 0, 20, .inl (fun _ => 0))), (h11, .inl (aC 0, 8, .inl (fun _ => 0))), (h12, .inl (aC 0, 8, .inl (fun _ => 0))), (h13, .inl (aC 0, 10, .inl (fun _ => 0))), (h14, .inl (aC 0, 10, .inl (fun _ => 0))), (h15, .inl (aC 0, 10, .inl (fun _ => 0))), (h16, .inl (aC 0, 10, .inl (fun _ => 0))), (h17, .inl (aC 0, 8, .inl (fun _ => 0))), (h18, .inl (aC 0, 8, .inl (fun _ => 0))), (h19, .inl (aC 0, 2000, .inl (fun _ => 0))), (h21, .inl (aC 0, 2, .inl (upd (fun _ => 0) 1 1000))), (h22, .inl (aC 0, 2, .inl (upd (fun _ => 0) 1 1000))), (h1, .inr (11, [x23, x24, x25, x26, x27, x28, x29, x30, x31, x32, .ref h20, .ref h2, .ref h3, .ref h4, .ref h5, .ref h6, .ref h7, .ref h8, .ref h9, .ref h10, .ref h11, .ref h12, .ref h13, .ref h14, .ref h15, .ref h16, .ref h17, .ref h18, .ref h21, .ref h22, .ref h19, x33, x34, x35, x36, x37, x38, x39, x40, x41, x42, x43, x44, x45, x46, x47, x48, x49, x50, x51, x52, x53, x54, x55, x56, x57, x58, x59, x60, x61, x62, x63, x64, x65, x66, x67, x68, x69, x70, x71, x72, x73, x74, x75])), (h20, .inl (aC 0, 14, .inl (upd (upd (upd (upd (upd (upd (upd (upd (fun _ => 0) 13 5) 0 0) 1 0) 2 0) 3 0) 4 0) 5 0) 6 5))), (h2, .inl (aC 1, 10, .inr (.inl (fun _ => 0)))), (h3, .inl (aC 1, 8, .inr (.inl (fun _ => 0)))), (h4, .inl (aC 1, 10, .inr (.inl (fun _ => 0)))), (h5, .inl (aC 1, 8, .inr (.inl (fun _ => 0))))]) (runS (n := 2) (As := [.ref h6, .int 5]) (rest := []) F hP hD hS (k_moves10 l g aC aM h6) [0] (by decide) rfl tb1581 tb1579 tb1580 tb17 ⟨by decide, by decide, by decide +kernel⟩ ⟨Nat.le_of_ble_eq_true rfl, Nat.le_of_ble_eq_true rfl⟩ rfl hl.1 rfl (Nat.le_of_ble_eq_true rfl) dX11_lays_46 ⟨Nat.le_of_ble_eq_true rfl, Nat.le_of_ble_eq_true rfl⟩) hP hD hS hA [0] [1, 2, 3, 4, 5, 6, 7, 8, 9, 10, 11, 12, 13, 14, 15, 16, 17, 18, 19, 20, 21] rfl rfl (by decide) (by decide) (fun w18 H locs hw hP hD hS => ?_)
  have hP : va_P g vwCl [(h7, .inl (aC 0, 20, .inl (fun _ => 0))), (h8, .inl (aC 0, 20, .inl (fun _ => 0))), (h9, .inl (aC 0, 20, .inl (fun _ => 0))), (h10, .inl (aC 0, 20, .inl (fun _ => 0))), (h11, .inl (aC 0, 8, .inl (fun _ => 0))), (h12, .inl (aC 0, 8, .inl (fun _ => 0))), (h13, .inl (aC 0, 10, .inl (fun _ => 0))), (h14, .inl (aC 0, 10, .inl (fun _ => 0))), (h15, .inl (aC 0, 10, .inl (fun _ => 0))), (h16, .inl (aC 0, 10, .inl (fun _ => 0))), (h17, .inl (aC 0, 8, .inl (fun _ => 0))), (h18, .inl (aC 0, 8, .inl (fun _ => 0))), (h19, .inl (aC 0, 2000, .inl (fun _ => 0))), (h21, .inl (aC 0, 2, .inl (upd (fun _ => 0) 1 1000))), (h22, .inl (aC 0, 2, .inl (upd (fun _ => 0) 1 1000))), (h1, .inr (11, [x23, x24, x25, x26, x27, x28, x29, x30, x31, x32, .ref h20, .ref h2, .ref h3, .ref h4, .ref h5, .ref h6, .ref h7, .ref h8, .ref h9, .ref h10, .ref h11, .ref h12, .ref h13, .ref h14, .ref h15, .ref h16, .ref h17, .ref h18, .ref h21, .ref h22, .ref h19, x33, x34, x35, x36, x37, x38, x39, x40, x41, x42, x43, x44, x45, x46, x47, x48, x49, x50, x51, x52, x53, x54, x55, x56, x57, x58, x59, x60, x61, x62, x63, x64, x65, x66, x67, x68, x69, x70, x71, x72, x73, x74, x75])), (h20, .inl (aC 0, 14, .inl (upd (upd (upd (upd (upd (upd (upd (upd (fun _ => 0) 13 5) 0 0) 1 0) 2 0) 3 0) 4 0) 5 0) 6 5))), (h2, .inl (aC 1, 10, .inr (.inl (fun _ => 0)))), (h3, .inl (aC 1, 8, .inr (.inl (fun _ => 0)))), (h4, .inl (aC 1, 10, .inr (.inl (fun _ => 0)))), (h5, .inl (aC 1, 8, .inr (.inl (fun _ => 0)))), (h6, .inl (aC 0, 10, .inl (fun _ => 0)))] H := hP
  have hD : va_D A [(h7, .inl (aC 0, 20, .inl (fun _ => 0))), (h8, .inl (aC 0, 20, .inl (fun _ => 0))), (h9, .inl (aC 0, 20, .inl (fun _ => 0))), (h10, .inl (aC 0, 20, .inl (fun _ => 0))), (h11, .inl (aC 0, 8, .inl (fun _ => 0))), (h12, .inl (aC 0, 8, .inl (fun _ => 0))), (h13, .inl (aC 0, 10, .inl (fun _ => 0))), (h14, .inl (aC 0, 10, .inl (fun _ => 0))), (h15, .inl (aC 0, 10, .inl (fun _ => 0))), (h16, .inl (aC 0, 10, .inl (fun _ => 0))), (h17, .inl (aC 0, 8, .inl (fun _ => 0))), (h18, .inl (aC 0, 8, .inl (fun _ => 0))), (h19, .inl (aC 0, 2000, .inl (fun _ => 0))), (h21, .inl (aC 0, 2, .inl (upd (fun _ => 0) 1 1000))), (h22, .inl (aC 0, 2, .inl (upd (fun _ => 0) 1 1000))), (h1, .inr (11, [x23, x24, x25, x26, x27, x28, x29, x30, x31, x32, .ref h20, .ref h2, .ref h3, .ref h4, .ref h5, .ref h6, .ref h7, .ref h8, .ref h9, .ref h10, .ref h11, .ref h12, .ref h13, .ref h14, .ref h15, .ref h16, .ref h17, .ref h18, .ref h21, .ref h22, .ref h19, x33, x34, x35, x36, x37, x38, x39, x40, x41, x42, x43, x44, x45, x46, x47, x48, x49, x50, x51, x52, x53, x54, x55, x56, x57, x58, x59, x60, x61, x62, x63, x64, x65, x66, x67, x68, x69, x70, x71, x72, x73, x74, x75])), (h20, .inl (aC 0, 14, .inl (upd (upd (upd (upd (upd (upd (upd (upd (fun _ => 0) 13 5) 0 0) 1 0) 2 0) 3 0) 4 0) 5 0) 6 5))), (h2, .inl (aC 1, 10, .inr (.inl (fun _ => 0)))), (h3, .inl (aC 1, 8, .inr (.inl (fun _ => 0)))), (h4, .inl (aC 1, 10, .inr (.inl (fun _ => 0)))), (h5, .inl (aC 1, 8, .inr (.inl (fun _ => 0)))), (h6, .inl (aC 0, 10, .inl (fun _ => 0)))] := hD
  refine lv_aload_n hx hb dX11_lays_49 rfl (lv_at hl 0 rfl) ?_
  refine xget F hP 15 rfl rfl inX11 16 (by decide) tb1198 rfl dX11_lays_50 ?_
  refine lv_bipush (v := 10) hx hb dX11_lays_53 (by decide) ?_
  refine goV (wr := [(h8, .inl (aC 0, 20, .inl (fun _ => 0))), (h9, .inl (aC 0, 20, .inl (fun _ => 0))), (h10, .inl (aC 0, 20, .inl (fun _ => 0))), (h11, .inl (aC 0, 8, .inl (fun _ => 0))), (h12, .inl (aC 0, 8, .inl (fun _ => 0))), (h13, .inl (aC 0, 10, .inl (fun _ => 0))), (h14, .inl (aC 0, 10, .inl (fun _ => 0))), (h15, .inl (aC 0, 10, .inl (fun _ => 0))), (h16, .inl (aC 0, 10, .inl (fun _ => 0))), (h17, .inl (aC 0, 8, .inl (fun _ => 0))), (h18, .inl (aC 0, 8, .inl (fun _ => 0))), (h19, .inl (aC 0, 2000, .inl (fun _ => 0))), (h21, .inl (aC 0, 2, .inl (upd (fun _ => 0) 1 1000))), (h22, .inl (aC 0, 2, .inl (upd (fun _ => 0) 1 1000))), (h1, .inr (11, [x23, x24, x25, x26, x27, x28, x29, x30, x31, x32, .ref h20, .ref h2, .ref h3, .ref h4, .ref h5, .ref h6, .ref h7, .ref h8, .ref h9, .ref h10, .ref h11, .ref h12, .ref h13, .ref h14, .ref h15, .ref h16, .ref h17, .ref h18, .ref h21, .ref h22, .ref h19, x33, x34, x35, x36, x37, x38, x39, x40, x41, x42, x43, x44, x45, x46, x47, x48, x49, x50, x51, x52, x53, x54, x55, x56, x57, x58, x59, x60, x61, x62, x63, x64, x65, x66, x67, x68, x69, x70, x71, x72, x73, x74, x75])), (h20, .inl (aC 0, 14, .inl (upd (upd (upd (upd (upd (upd (upd (upd (fun _ => 0) 13 5) 0 0) 1 0) 2 0) 3 0) 4 0) 5 0) 6 5))), (h2, .inl (aC 1, 10, .inr (.inl (fun _ => 0)))), (h3, .inl (aC 1, 8, .inr (.inl (fun _ => 0)))), (h4, .inl (aC 1, 10, .inr (.inl (fun _ => 0)))), (h5, .inl (aC 1, 8, .inr (.inl (fun _ => 0)))), (h6, .inl (aC 0, 10, .inl (fun _ => 0)))]) (runS (n := 2) (As := [.ref h7, .int 10]) (rest := []) F hP hD hS (k_moves20 l g aC aM h7) [0] (by decide) rfl tb1581 tb1579 tb1580 tb17 ⟨by decide, by decide, by decide +kernel⟩ ⟨Nat.le_of_ble_eq_true rfl, Nat.le_of_ble_eq_true rfl⟩ rfl hl.1 rfl (Nat.le_of_ble_eq_true rfl) dX11_lays_55 ⟨Nat.le_of_ble_eq_true rfl, Nat.le_of_ble_eq_true rfl⟩) hP hD hS hA [0] [1, 2, 3, 4, 5, 6, 7, 8, 9, 10, 11, 12, 13, 14, 15, 16, 17, 18, 19, 20, 21] rfl rfl (by decide) (by decide) (fun w21 H locs hw hP hD hS => ?_)
  have hP : va_P g vwCl [(h8, .inl (aC 0, 20, .inl (fun _ => 0))), (h9, .inl (aC 0, 20, .inl (fun _ => 0))), (h10, .inl (aC 0, 20, .inl (fun _ => 0))), (h11, .inl (aC 0, 8, .inl (fun _ => 0))), (h12, .inl (aC 0, 8, .inl (fun _ => 0))), (h13, .inl (aC 0, 10, .inl (fun _ => 0))), (h14, .inl (aC 0, 10, .inl (fun _ => 0))), (h15, .inl (aC 0, 10, .inl (fun _ => 0))), (h16, .inl (aC 0, 10, .inl (fun _ => 0))), (h17, .inl (aC 0, 8, .inl (fun _ => 0))), (h18, .inl (aC 0, 8, .inl (fun _ => 0))), (h19, .inl (aC 0, 2000, .inl (fun _ => 0))), (h21, .inl (aC 0, 2, .inl (upd (fun _ => 0) 1 1000))), (h22, .inl (aC 0, 2, .inl (upd (fun _ => 0) 1 1000))), (h1, .inr (11, [x23, x24, x25, x26, x27, x28, x29, x30, x31, x32, .ref h20, .ref h2, .ref h3, .ref h4, .ref h5, .ref h6, .ref h7, .ref h8, .ref h9, .ref h10, .ref h11, .ref h12, .ref h13, .ref h14, .ref h15, .ref h16, .ref h17, .ref h18, .ref h21, .ref h22, .ref h19, x33, x34, x35, x36, x37, x38, x39, x40, x41, x42, x43, x44, x45, x46, x47, x48, x49, x50, x51, x52, x53, x54, x55, x56, x57, x58, x59, x60, x61, x62, x63, x64, x65, x66, x67, x68, x69, x70, x71, x72, x73, x74, x75])), (h20, .inl (aC 0, 14, .inl (upd (upd (upd (upd (upd (upd (upd (upd (fun _ => 0) 13 5) 0 0) 1 0) 2 0) 3 0) 4 0) 5 0) 6 5))), (h2, .inl (aC 1, 10, .inr (.inl (fun _ => 0)))), (h3, .inl (aC 1, 8, .inr (.inl (fun _ => 0)))), (h4, .inl (aC 1, 10, .inr (.inl (fun _ => 0)))), (h5, .inl (aC 1, 8, .inr (.inl (fun _ => 0)))), (h6, .inl (aC 0, 10, .inl (fun _ => 0))), (h7, .inl (aC 0, 20, .inl (fun _ => 0)))] H := hP
  have hD : va_D A [(h8, .inl (aC 0, 20, .inl (fun _ => 0))), (h9, .inl (aC 0, 20, .inl (fun _ => 0))), (h10, .inl (aC 0, 20, .inl (fun _ => 0))), (h11, .inl (aC 0, 8, .inl (fun _ => 0))), (h12, .inl (aC 0, 8, .inl (fun _ => 0))), (h13, .inl (aC 0, 10, .inl (fun _ => 0))), (h14, .inl (aC 0, 10, .inl (fun _ => 0))), (h15, .inl (aC 0, 10, .inl (fun _ => 0))), (h16, .inl (aC 0, 10, .inl (fun _ => 0))), (h17, .inl (aC 0, 8, .inl (fun _ => 0))), (h18, .inl (aC 0, 8, .inl (fun _ => 0))), (h19, .inl (aC 0, 2000, .inl (fun _ => 0))), (h21, .inl (aC 0, 2, .inl (upd (fun _ => 0) 1 1000))), (h22, .inl (aC 0, 2, .inl (upd (fun _ => 0) 1 1000))), (h1, .inr (11, [x23, x24, x25, x26, x27, x28, x29, x30, x31, x32, .ref h20, .ref h2, .ref h3, .ref h4, .ref h5, .ref h6, .ref h7, .ref h8, .ref h9, .ref h10, .ref h11, .ref h12, .ref h13, .ref h14, .ref h15, .ref h16, .ref h17, .ref h18, .ref h21, .ref h22, .ref h19, x33, x34, x35, x36, x37, x38, x39, x40, x41, x42, x43, x44, x45, x46, x47, x48, x49, x50, x51, x52, x53, x54, x55, x56, x57, x58, x59, x60, x61, x62, x63, x64, x65, x66, x67, x68, x69, x70, x71, x72, x73, x74, x75])), (h20, .inl (aC 0, 14, .inl (upd (upd (upd (upd (upd (upd (upd (upd (fun _ => 0) 13 5) 0 0) 1 0) 2 0) 3 0) 4 0) 5 0) 6 5))), (h2, .inl (aC 1, 10, .inr (.inl (fun _ => 0)))), (h3, .inl (aC 1, 8, .inr (.inl (fun _ => 0)))), (h4, .inl (aC 1, 10, .inr (.inl (fun _ => 0)))), (h5, .inl (aC 1, 8, .inr (.inl (fun _ => 0)))), (h6, .inl (aC 0, 10, .inl (fun _ => 0))), (h7, .inl (aC 0, 20, .inl (fun _ => 0)))] := hD
  refine lv_aload_n hx hb dX11_lays_58 rfl (lv_at hl 0 rfl) ?_
  refine xget F hP 14 rfl rfl inX11 17 (by decide) tb1199 rfl dX11_lays_59 ?_
  refine lv_bipush (v := 10) hx hb dX11_lays_62 (by decide) ?_
  refine goV (wr := [(h9, .inl (aC 0, 20, .inl (fun _ => 0))), (h10, .inl (aC 0, 20, .inl (fun _ => 0))), (h11, .inl (aC 0, 8, .inl (fun _ => 0))), (h12, .inl (aC 0, 8, .inl (fun _ => 0))), (h13, .inl (aC 0, 10, .inl (fun _ => 0))), (h14, .inl (aC 0, 10, .inl (fun _ => 0))), (h15, .inl (aC 0, 10, .inl (fun _ => 0))), (h16, .inl (aC 0, 10, .inl (fun _ => 0))), (h17, .inl (aC 0, 8, .inl (fun _ => 0))), (h18, .inl (aC 0, 8, .inl (fun _ => 0))), (h19, .inl (aC 0, 2000, .inl (fun _ => 0))), (h21, .inl (aC 0, 2, .inl (upd (fun _ => 0) 1 1000))), (h22, .inl (aC 0, 2, .inl (upd (fun _ => 0) 1 1000))), (h1, .inr (11, [x23, x24, x25, x26, x27, x28, x29, x30, x31, x32, .ref h20, .ref h2, .ref h3, .ref h4, .ref h5, .ref h6, .ref h7, .ref h8, .ref h9, .ref h10, .ref h11, .ref h12, .ref h13, .ref h14, .ref h15, .ref h16, .ref h17, .ref h18, .ref h21, .ref h22, .ref h19, x33, x34, x35, x36, x37, x38, x39, x40, x41, x42, x43, x44, x45, x46, x47, x48, x49, x50, x51, x52, x53, x54, x55, x56, x57, x58, x59, x60, x61, x62, x63, x64, x65, x66, x67, x68, x69, x70, x71, x72, x73, x74, x75])), (h20, .inl (aC 0, 14, .inl (upd (upd (upd (upd (upd (upd (upd (upd (fun _ => 0) 13 5) 0 0) 1 0) 2 0) 3 0) 4 0) 5 0) 6 5))), (h2, .inl (aC 1, 10, .inr (.inl (fun _ => 0)))), (h3, .inl (aC 1, 8, .inr (.inl (fun _ => 0)))), (h4, .inl (aC 1, 10, .inr (.inl (fun _ => 0)))), (h5, .inl (aC 1, 8, .inr (.inl (fun _ => 0)))), (h6, .inl (aC 0, 10, .inl (fun _ => 0))), (h7, .inl (aC 0, 20, .inl (fun _ => 0)))]) (runS (n := 2) (As := [.ref h8, .int 10]) (rest := []) F hP hD hS (k_moves20 l g aC aM h8) [0] (by decide) rfl tb1581 tb1579 tb1580 tb17 ⟨by decide, by decide, by decide +kernel⟩ ⟨Nat.le_of_ble_eq_true rfl, Nat.le_of_ble_eq_true rfl⟩ rfl hl.1 rfl (Nat.le_of_ble_eq_true rfl) dX11_lays_64 ⟨Nat.le_of_ble_eq_true rfl, Nat.le_of_ble_eq_true rfl⟩) hP hD hS hA [0] [1, 2, 3, 4, 5, 6, 7, 8, 9, 10, 11, 12, 13, 14, 15, 16, 17, 18, 19, 20, 21] rfl rfl (by decide) (by decide) (fun w24 H locs hw hP hD hS => ?_)
  have hP : va_P g vwCl [(h9, .inl (aC 0, 20, .inl (fun _ => 0))), (h10, .inl (aC 0, 20, .inl (fun _ => 0))), (h11, .inl (aC 0, 8, .inl (fun _ => 0))), (h12, .inl (aC 0, 8, .inl (fun _ => 0))), (h13, .inl (aC 0, 10, .inl (fun _ => 0))), (h14, .inl (aC 0, 10, .inl (fun _ => 0))), (h15, .inl (aC 0, 10, .inl (fun _ => 0))), (h16, .inl (aC 0, 10, .inl (fun _ => 0))), (h17, .inl (aC 0, 8, .inl (fun _ => 0))), (h18, .inl (aC 0, 8, .inl (fun _ => 0))), (h19, .inl (aC 0, 2000, .inl (fun _ => 0))), (h21, .inl (aC 0, 2, .inl (upd (fun _ => 0) 1 1000))), (h22, .inl (aC 0, 2, .inl (upd (fun _ => 0) 1 1000))), (h1, .inr (11, [x23, x24, x25, x26, x27, x28, x29, x30, x31, x32, .ref h20, .ref h2, .ref h3, .ref h4, .ref h5, .ref h6, .ref h7, .ref h8, .ref h9, .ref h10, .ref h11, .ref h12, .ref h13, .ref h14, .ref h15, .ref h16, .ref h17, .ref h18, .ref h21, .ref h22, .ref h19, x33, x34, x35, x36, x37, x38, x39, x40, x41, x42, x43, x44, x45, x46, x47, x48, x49, x50, x51, x52, x53, x54, x55, x56, x57, x58, x59, x60, x61, x62, x63, x64, x65, x66, x67, x68, x69, x70, x71, x72, x73, x74, x75])), (h20, .inl (aC 0, 14, .inl (upd (upd (upd (upd (upd (upd (upd (upd (fun _ => 0) 13 5) 0 0) 1 0) 2 0) 3 0) 4 0) 5 0) 6 5))), (h2, .inl (aC 1, 10, .inr (.inl (fun _ => 0)))), (h3, .inl (aC 1, 8, .inr (.inl (fun _ => 0)))), (h4, .inl (aC 1, 10, .inr (.inl (fun _ => 0)))), (h5, .inl (aC 1, 8, .inr (.inl (fun _ => 0)))), (h6, .inl (aC 0, 10, .inl (fun _ => 0))), (h7, .inl (aC 0, 20, .inl (fun _ => 0))), (h8, .inl (aC 0, 20, .inl (fun _ => 0)))] H := hP
  have hD : va_D A [(h9, .inl (aC 0, 20, .inl (fun _ => 0))), (h10, .inl (aC 0, 20, .inl (fun _ => 0))), (h11, .inl (aC 0, 8, .inl (fun _ => 0))), (h12, .inl (aC 0, 8, .inl (fun _ => 0))), (h13, .inl (aC 0, 10, .inl (fun _ => 0))), (h14, .inl (aC 0, 10, .inl (fun _ => 0))), (h15, .inl (aC 0, 10, .inl (fun _ => 0))), (h16, .inl (aC 0, 10, .inl (fun _ => 0))), (h17, .inl (aC 0, 8, .inl (fun _ => 0))), (h18, .inl (aC 0, 8, .inl (fun _ => 0))), (h19, .inl (aC 0, 2000, .inl (fun _ => 0))), (h21, .inl (aC 0, 2, .inl (upd (fun _ => 0) 1 1000))), (h22, .inl (aC 0, 2, .inl (upd (fun _ => 0) 1 1000))), (h1, .inr (11, [x23, x24, x25, x26, x27, x28, x29, x30, x31, x32, .ref h20, .ref h2, .ref h3, .ref h4, .ref h5, .ref h6, .ref h7, .ref h8, .ref h9, .ref h10, .ref h11, .ref h12, .ref h13, .ref h14, .ref h15, .ref h16, .ref h17, .ref h18, .ref h21, .ref h22, .ref h19, x33, x34, x35, x36, x37, x38, x39, x40, x41, x42, x43, x44, x45, x46, x47, x48, x49, x50, x51, x52, x53, x54, x55, x56, x57, x58, x59, x60, x61, x62, x63, x64, x65, x66, x67, x68, x69, x70, x71, x72, x73, x74, x75])), (h20, .inl (aC 0, 14, .inl (upd (upd (upd (upd (upd (upd (upd (upd (fun _ => 0) 13 5) 0 0) 1 0) 2 0) 3 0) 4 0) 5 0) 6 5))), (h2, .inl (aC 1, 10, .inr (.inl (fun _ => 0)))), (h3, .inl (aC 1, 8, .inr (.inl (fun _ => 0)))), (h4, .inl (aC 1, 10, .inr (.inl (fun _ => 0)))), (h5, .inl (aC 1, 8, .inr (.inl (fun _ => 0)))), (h6, .inl (aC 0, 10, .inl (fun _ => 0))), (h7, .inl (aC 0, 20, .inl (fun _ => 0))), (h8, .inl (aC 0, 20, .inl (fun _ => 0)))] := hD
  refine lv_aload_n hx hb dX11_lays_67 rfl (lv_at hl 0 rfl) ?_
  refine xget F hP 13 rfl rfl inX11 18 (by decide) tb1200 rfl dX11_lays_68 ?_
  refine lv_bipush (v := 10) hx hb dX11_lays_71 (by decide) ?_
  refine goV (wr := [(h10, .inl (aC 0, 20, .inl (fun _ => 0))), (h11, .inl (aC 0, 8, .inl (fun _ => 0))), (h12, .inl (aC 0, 8, .inl (fun _ => 0))), (h13, .inl (aC 0, 10, .inl (fun _ => 0))), (h14, .inl (aC 0, 10, .inl (fun _ => 0))), (h15, .inl (aC 0, 10, .inl (fun _ => 0))), (h16, .inl (aC 0, 10, .inl (fun _ => 0))), (h17, .inl (aC 0, 8, .inl (fun _ => 0))), (h18, .inl (aC 0, 8, .inl (fun _ => 0))), (h19, .inl (aC 0, 2000, .inl (fun _ => 0))), (h21, .inl (aC 0, 2, .inl (upd (fun _ => 0) 1 1000))), (h22, .inl (aC 0, 2, .inl (upd (fun _ => 0) 1 1000))), (h1, .inr (11, [x23, x24, x25, x26, x27, x28, x29, x30, x31, x32, .ref h20, .ref h2, .ref h3, .ref h4, .ref h5, .ref h6, .ref h7, .ref h8, .ref h9, .ref h10, .ref h11, .ref h12, .ref h13, .ref h14, .ref h15, .ref h16, .ref h17, .ref h18, .ref h21, .ref h22, .ref h19, x33, x34, x35, x36, x37, x38, x39, x40, x41, x42, x43, x44, x45, x46, x47, x48, x49, x50, x51, x52, x53, x54, x55, x56, x57, x58, x59, x60, x61, x62, x63, x64, x65, x66, x67, x68, x69, x70, x71, x72, x73, x74, x75])), (h20, .inl (aC 0, 14, .inl (upd (upd (upd (upd (upd (upd (upd (upd (fun _ => 0) 13 5) 0 0) 1 0) 2 0) 3 0) 4 0) 5 0) 6 5))), (h2, .inl (aC 1, 10, .inr (.inl (fun _ => 0)))), (h3, .inl (aC 1, 8, .inr (.inl (fun _ => 0)))), (h4, .inl (aC 1, 10, .inr (.inl (fun _ => 0)))), (h5, .inl (aC 1, 8, .inr (.inl (fun _ => 0)))), (h6, .inl (aC 0, 10, .inl (fun _ => 0))), (h7, .inl (aC 0, 20, .inl (fun _ => 0))), (h8, .inl (aC 0, 20, .inl (fun _ => 0)))]) (runS (n := 2) (As := [.ref h9, .int 10]) (rest := []) F hP hD hS (k_moves20 l g aC aM h9) [0] (by decide) rfl tb1581 tb1579 tb1580 tb17 ⟨by decide, by decide, by decide +kernel⟩ ⟨Nat.le_of_ble_eq_true rfl, Nat.le_of_ble_eq_true rfl⟩ rfl hl.1 rfl (Nat.le_of_ble_eq_true rfl) dX11_lays_73 ⟨Nat.le_of_ble_eq_true rfl, Nat.le_of_ble_eq_true rfl⟩) hP hD hS hA [0] [1, 2, 3, 4, 5, 6, 7, 8, 9, 10, 11, 12, 13, 14, 15, 16, 17, 18, 19, 20, 21] rfl rfl (by decide) (by decide) (fun w27 H locs hw hP hD hS => ?_)
  have hP : va_P g vwCl [(h10, .inl (aC 0, 20, .inl (fun _ => 0))), (h11, .inl (aC 0, 8, .inl (fun _ => 0))), (h12, .inl (aC 0, 8, .inl (fun _ => 0))), (h13, .inl (aC 0, 10, .inl (fun _ => 0))), (h14, .inl (aC 0, 10, .inl (fun _ => 0))), (h15, .inl (aC 0, 10, .inl (fun _ => 0))), (h16, .inl (aC 0, 10, .inl (fun _ => 0))), (h17, .inl (aC 0, 8, .inl (fun _ => 0))), (h18, .inl (aC 0, 8, .inl (fun _ => 0))), (h19, .inl (aC 0, 2000, .inl (fun _ => 0))), (h21, .inl (aC 0, 2, .inl (upd (fun _ => 0) 1 1000))), (h22, .inl (aC 0, 2, .inl (upd (fun _ => 0) 1 1000))), (h1, .inr (11, [x23, x24, x25, x26, x27, x28, x29, x30, x31, x32, .ref h20, .ref h2, .ref h3, .ref h4, .ref h5, .ref h6, .ref h7, .ref h8, .ref h9, .ref h10, .ref h11, .ref h12, .ref h13, .ref h14, .ref h15, .ref h16, .ref h17, .ref h18, .ref h21, .ref h22, .ref h19, x33, x34, x35, x36, x37, x38, x39, x40, x41, x42, x43, x44, x45, x46, x47, x48, x49, x50, x51, x52, x53, x54, x55, x56, x57, x58, x59, x60, x61, x62, x63, x64, x65, x66, x67, x68, x69, x70, x71, x72, x73, x74, x75])), (h20, .inl (aC 0, 14, .inl (upd (upd (upd (upd (upd (upd (upd (upd (fun _ => 0) 13 5) 0 0) 1 0) 2 0) 3 0) 4 0) 5 0) 6 5))), (h2, .inl (aC 1, 10, .inr (.inl (fun _ => 0)))), (h3, .inl (aC 1, 8, .inr (.inl (fun _ => 0)))), (h4, .inl (aC 1, 10, .inr (.inl (fun _ => 0)))), (h5, .inl (aC 1, 8, .inr (.inl (fun _ => 0)))), (h6, .inl (aC 0, 10, .inl (fun _ => 0))), (h7, .inl (aC 0, 20, .inl (fun _ => 0))), (h8, .inl (aC 0, 20, .inl (fun _ => 0))), (h9, .inl (aC 0, 20, .inl (fun _ => 0)))] H := hP
  have hD : va_D A [(h10, .inl (aC 0, 20, .inl (fun _ => 0))), (h11, .inl (aC 0, 8, .inl (fun _ => 0))), (h12, .inl (aC 0, 8, .inl (fun _ => 0))), (h13, .inl (aC 0, 10, .inl (fun _ => 0))), (h14, .inl (aC 0, 10, .inl (fun _ => 0))), (h15, .inl (aC 0, 10, .inl (fun _ => 0))), (h16, .inl (aC 0, 10, .inl (fun _ => 0))), (h17, .inl (aC 0, 8, .inl (fun _ => 0))), (h18, .inl (aC 0, 8, .inl (fun _ => 0))), (h19, .inl (aC 0, 2000, .inl (fun _ => 0))), (h21, .inl (aC 0, 2, .inl (upd (fun _ => 0) 1 1000))), (h22, .inl (aC 0, 2, .inl (upd (fun _ => 0) 1 1000))), (h1, .inr (11, [x23, x24, x25, x26, x27, x28, x29, x30, x31, x32, .ref h20, .ref h2, .ref h3, .ref h4, .ref h5, .ref h6, .ref h7, .ref h8, .ref h9, .ref h10, .ref h11, .ref h12, .ref h13, .ref h14, .ref h15, .ref h16, .ref h17, .ref h18, .ref h21, .ref h22, .ref h19, x33, x34, x35, x36, x37, x38, x39, x40, x41, x42, x43, x44, x45, x46, x47, x48, x49, x50, x51, x52, x53, x54, x55, x56, x57, x58, x59, x60, x61, x62, x63, x64, x65, x66, x67, x68, x69, x70, x71, x72, x73, x74, x75])), (h20, .inl (aC 0, 14, .inl (upd (upd (upd (upd (upd (upd (upd (upd (fun _ => 0) 13 5) 0 0) 1 0) 2 0) 3 0) 4 0) 5 0) 6 5))), (h2, .inl (aC 1, 10, .inr (.inl (fun _ => 0)))), (h3, .inl (aC 1, 8, .inr (.inl (fun _ => 0)))), (h4, .inl (aC 1, 10, .inr (.inl (fun _ => 0)))), (h5, .inl (aC 1, 8, .inr (.inl (fun _ => 0)))), (h6, .inl (aC 0, 10, .inl (fun _ => 0))), (h7, .inl (aC 0, 20, .inl (fun _ => 0))), (h8, .inl (aC 0, 20, .inl (fun _ => 0))), (h9, .inl (aC 0, 20, .inl (fun _ => 0)))] := hD
  refine lv_aload_n hx hb dX11_lays_76 rfl (lv_at hl 0 rfl) ?_
  refine xget F hP 12 rfl rfl inX11 19 (by decide) tb1201 rfl dX11_lays_77 ?_
  refine lv_bipush (v := 10) hx hb dX11_lays_80 (by decide) ?_
  refine goV (wr := [(h11, .inl (aC 0, 8, .inl (fun _ => 0))), (h12, .inl (aC 0, 8, .inl (fun _ => 0))), (h13, .inl (aC 0, 10, .inl (fun _ => 0))), (h14, .inl (aC 0, 10, .inl (fun _ => 0))), (h15, .inl (aC 0, 10, .inl (fun _ => 0))), (h16, .inl (aC 0, 10, .inl (fun _ => 0))), (h17, .inl (aC 0, 8, .inl (fun _ => 0))), (h18, .inl (aC 0, 8, .inl (fun _ => 0))), (h19, .inl (aC 0, 2000, .inl (fun _ => 0))), (h21, .inl (aC 0, 2, .inl (upd (fun _ => 0) 1 1000))), (h22, .inl (aC 0, 2, .inl (upd (fun _ => 0) 1 1000))), (h1, .inr (11, [x23, x24, x25, x26, x27, x28, x29, x30, x31, x32, .ref h20, .ref h2, .ref h3, .ref h4, .ref h5, .ref h6, .ref h7, .ref h8, .ref h9, .ref h10, .ref h11, .ref h12, .ref h13, .ref h14, .ref h15, .ref h16, .ref h17, .ref h18, .ref h21, .ref h22, .ref h19, x33, x34, x35, x36, x37, x38, x39, x40, x41, x42, x43, x44, x45, x46, x47, x48, x49, x50, x51, x52, x53, x54, x55, x56, x57, x58, x59, x60, x61, x62, x63, x64, x65, x66, x67, x68, x69, x70, x71, x72, x73, x74, x75])), (h20, .inl (aC 0, 14, .inl (upd (upd (upd (upd (upd (upd (upd (upd (fun _ => 0) 13 5) 0 0) 1 0) 2 0) 3 0) 4 0) 5 0) 6 5))), (h2, .inl (aC 1, 10, .inr (.inl (fun _ => 0)))), (h3, .inl (aC 1, 8, .inr (.inl (fun _ => 0)))), (h4, .inl (aC 1, 10, .inr (.inl (fun _ => 0)))), (h5, .inl (aC 1, 8, .inr (.inl (fun _ => 0)))), (h6, .inl (aC 0, 10, .inl (fun _ => 0))), (h7, .inl (aC 0, 20, .inl (fun _ => 0))), (h8, .inl (aC 0, 20, .inl (fun _ => 0))), (h9, .inl (aC 0, 20, .inl (fun _ => 0)))]) (runS (n := 2) (As := [.ref h10, .int 10]) (rest := []) F hP hD hS (k_moves20 l g aC aM h10) [0] (by decide) rfl tb1581 tb1579 tb1580 tb17 ⟨by decide, by decide, by decide +kernel⟩ ⟨Nat.le_of_ble_eq_true rfl, Nat.le_of_ble_eq_true rfl⟩ rfl hl.1 rfl (Nat.le_of_ble_eq_true rfl) dX11_lays_82 ⟨Nat.le_of_ble_eq_true rfl, Nat.le_of_ble_eq_true rfl⟩) hP hD hS hA [0] [1, 2, 3, 4, 5, 6, 7, 8, 9, 10, 11, 12, 13, 14, 15, 16, 17, 18, 19, 20, 21] rfl rfl (by decide) (by decide) (fun w30 H locs hw hP hD hS => ?_)
  have hP : va_P g vwCl [(h11, .inl (aC 0, 8, .inl (fun _ => 0))), (h12, .inl (aC 0, 8, .inl (fun _ => 0))), (h13, .inl (aC 0, 10, .inl (fun _ => 0))), (h14, .inl (aC 0, 10, .inl (fun _ => 0))), (h15, .inl (aC 0, 10, .inl (fun _ => 0))), (h16, .inl (aC 0, 10, .inl (fun _ => 0))), (h17, .inl (aC 0, 8, .inl (fun _ => 0))), (h18, .inl (aC 0, 8, .inl (fun _ => 0))), (h19, .inl (aC 0, 2000, .inl (fun _ => 0))), (h21, .inl (aC 0, 2, .inl (upd (fun _ => 0) 1 1000))), (h22, .inl (aC 0, 2, .inl (upd (fun _ => 0) 1 1000))), (h1, .inr (11, [x23, x24, x25, x26, x27, x28, x29, x30, x31, x32, .ref h20, .ref h2, .ref h3, .ref h4, .ref h5, .ref h6, .ref h7, .ref h8, .ref h9, .ref h10, .ref h11, .ref h12, .ref h13, .ref h14, .ref h15, .ref h16, .ref h17, .ref h18, .ref h21, .ref h22, .ref h19, x33, x34, x35, x36, x37, x38, x39, x40, x41, x42, x43, x44, x45, x46, x47, x48, x49, x50, x51, x52, x53, x54, x55, x56, x57, x58, x59, x60, x61, x62, x63, x64, x65, x66, x67, x68, x69, x70, x71, x72, x73, x74, x75])), (h20, .inl (aC 0, 14, .inl (upd (upd (upd (upd (upd (upd (upd (upd (fun _ => 0) 13 5) 0 0) 1 0) 2 0) 3 0) 4 0) 5 0) 6 5))), (h2, .inl (aC 1, 10, .inr (.inl (fun _ => 0)))), (h3, .inl (aC 1, 8, .inr (.inl (fun _ => 0)))), (h4, .inl (aC 1, 10, .inr (.inl (fun _ => 0)))), (h5, .inl (aC 1, 8, .inr (.inl (fun _ => 0)))), (h6, .inl (aC 0, 10, .inl (fun _ => 0))), (h7, .inl (aC 0, 20, .inl (fun _ => 0))), (h8, .inl (aC 0, 20, .inl (fun _ => 0))), (h9, .inl (aC 0, 20, .inl (fun _ => 0))), (h10, .inl (aC 0, 20, .inl (fun _ => 0)))] H := hP
  have hD : va_D A [(h11, .inl (aC 0, 8, .inl (fun _ => 0))), (h12, .inl (aC 0, 8, .inl (fun _ => 0))), (h13, .inl (aC 0, 10, .inl (fun _ => 0))), (h14, .inl (aC 0, 10, .inl (fun _ => 0))), (h15, .inl (aC 0, 10, .inl (fun _ => 0))), (h16, .inl (aC 0, 10, .inl (fun _ => 0))), (h17, .inl (aC 0, 8, .inl (fun _ => 0))), (h18, .inl (aC 0, 8, .inl (fun _ => 0))), (h19, .inl (aC 0, 2000, .inl (fun _ => 0))), (h21, .inl (aC 0, 2, .inl (upd (fun _ => 0) 1 1000))), (h22, .inl (aC 0, 2, .inl (upd (fun _ => 0) 1 1000))), (h1, .inr (11, [x23, x24, x25, x26, x27, x28, x29, x30, x31, x32, .ref h20, .ref h2, .ref h3, .ref h4, .ref h5, .ref h6, .ref h7, .ref h8, .ref h9, .ref h10, .ref h11, .ref h12, .ref h13, .ref h14, .ref h15, .ref h16, .ref h17, .ref h18, .ref h21, .ref h22, .ref h19, x33, x34, x35, x36, x37, x38, x39, x40, x41, x42, x43, x44, x45, x46, x47, x48, x49, x50, x51, x52, x53, x54, x55, x56, x57, x58, x59, x60, x61, x62, x63, x64, x65, x66, x67, x68, x69, x70, x71, x72, x73, x74, x75])), (h20, .inl (aC 0, 14, .inl (upd (upd (upd (upd (upd (upd (upd (upd (fun _ => 0) 13 5) 0 0) 1 0) 2 0) 3 0) 4 0) 5 0) 6 5))), (h2, .inl (aC 1, 10, .inr (.inl (fun _ => 0)))), (h3, .inl (aC 1, 8, .inr (.inl (fun _ => 0)))), (h4, .inl (aC 1, 10, .inr (.inl (fun _ => 0)))), (h5, .inl (aC 1, 8, .inr (.inl (fun _ => 0)))), (h6, .inl (aC 0, 10, .inl (fun _ => 0))), (h7, .inl (aC 0, 20, .inl (fun _ => 0))), (h8, .inl (aC 0, 20, .inl (fun _ => 0))), (h9, .inl (aC 0, 20, .inl (fun _ => 0))), (h10, .inl (aC 0, 20, .inl (fun _ => 0)))] := hD
  refine lv_aload_n hx hb dX11_lays_85 rfl (lv_at hl 0 rfl) ?_
  refine xget F hP 11 rfl rfl inX11 20 (by decide) tb1202 rfl dX11_lays_86 ?_
  refine lv_iconst (v := 4) hx hb dX11_lays_89 (by decide) ?_
  refine goV (wr := [(h12, .inl (aC 0, 8, .inl (fun _ => 0))), (h13, .inl (aC 0, 10, .inl (fun _ => 0))), (h14, .inl (aC 0, 10, .inl (fun _ => 0))), (h15, .inl (aC 0, 10, .inl (fun _ => 0))), (h16, .inl (aC 0, 10, .inl (fun _ => 0))), (h17, .inl (aC 0, 8, .inl (fun _ => 0))), (h18, .inl (aC 0, 8, .inl (fun _ => 0))), (h19, .inl (aC 0, 2000, .inl (fun _ => 0))), (h21, .inl (aC 0, 2, .inl (upd (fun _ => 0) 1 1000))), (h22, .inl (aC 0, 2, .inl (upd (fun _ => 0) 1 1000))), (h1, .inr (11, [x23, x24, x25, x26, x27, x28, x29, x30, x31, x32, .ref h20, .ref h2, .ref h3, .ref h4, .ref h5, .ref h6, .ref h7, .ref h8, .ref h9, .ref h10, .ref h11, .ref h12, .ref h13, .ref h14, .ref h15, .ref h16, .ref h17, .ref h18, .ref h21, .ref h22, .ref h19, x33, x34, x35, x36, x37, x38, x39, x40, x41, x42, x43, x44, x45, x46, x47, x48, x49, x50, x51, x52, x53, x54, x55, x56, x57, x58, x59, x60, x61, x62, x63, x64, x65, x66, x67, x68, x69, x70, x71, x72, x73, x74, x75])), (h20, .inl (aC 0, 14, .inl (upd (upd (upd (upd (upd (upd (upd (upd (fun _ => 0) 13 5) 0 0) 1 0) 2 0) 3 0) 4 0) 5 0) 6 5))), (h2, .inl (aC 1, 10, .inr (.inl (fun _ => 0)))), (h3, .inl (aC 1, 8, .inr (.inl (fun _ => 0)))), (h4, .inl (aC 1, 10, .inr (.inl (fun _ => 0)))), (h5, .inl (aC 1, 8, .inr (.inl (fun _ => 0)))), (h6, .inl (aC 0, 10, .inl (fun _ => 0))), (h7, .inl (aC 0, 20, .inl (fun _ => 0))), (h8, .inl (aC 0, 20, .inl (fun _ => 0))), (h9, .inl (aC 0, 20, .inl (fun _ => 0))), (h10, .inl (aC 0, 20, .inl (fun _ => 0)))]) (runS (n := 2) (As := [.ref h11, .int 4]) (rest := []) F hP hD hS (k_moves8 l g aC aM h11) [0] (by decide) rfl tb1581 tb1579 tb1580 tb17 ⟨by decide, by decide, by decide +kernel⟩ ⟨Nat.le_of_ble_eq_true rfl, Nat.le_of_ble_eq_true rfl⟩ rfl hl.1 rfl (Nat.le_of_ble_eq_true rfl) dX11_lays_90 ⟨Nat.le_of_ble_eq_true rfl, Nat.le_of_ble_eq_true rfl⟩) hP hD hS hA [0] [1, 2, 3, 4, 5, 6, 7, 8, 9, 10, 11, 12, 13, 14, 15, 16, 17, 18, 19, 20, 21] rfl rfl (by decide) (by decide) (fun w33 H locs hw hP hD hS => ?_)
  have hP : va_P g vwCl [(h12, .inl (aC 0, 8, .inl (fun _ => 0))), (h13, .inl (aC 0, 10, .inl (fun _ => 0))), (h14, .inl (aC 0, 10, .inl (fun _ => 0))), (h15, .inl (aC 0, 10, .inl (fun _ => 0))), (h16, .inl (aC 0, 10, .inl (fun _ => 0))), (h17, .inl (aC 0, 8, .inl (fun _ => 0))), (h18, .inl (aC 0, 8, .inl (fun _ => 0))), (h19, .inl (aC 0, 2000, .inl (fun _ => 0))), (h21, .inl (aC 0, 2, .inl (upd (fun _ => 0) 1 1000))), (h22, .inl (aC 0, 2, .inl (upd (fun _ => 0) 1 1000))), (h1, .inr (11, [x23, x24, x25, x26, x27, x28, x29, x30, x31, x32, .ref h20, .ref h2, .ref h3, .ref h4, .ref h5, .ref h6, .ref h7, .ref h8, .ref h9, .ref h10, .ref h11, .ref h12, .ref h13, .ref h14, .ref h15, .ref h16, .ref h17, .ref h18, .ref h21, .ref h22, .ref h19, x33, x34, x35, x36, x37, x38, x39, x40, x41, x42, x43, x44, x45, x46, x47, x48, x49, x50, x51, x52, x53, x54, x55, x56, x57, x58, x59, x60, x61, x62, x63, x64, x65, x66, x67, x68, x69, x70, x71, x72, x73, x74, x75])), (h20, .inl (aC 0, 14, .inl (upd (upd (upd (upd (upd (upd (upd (upd (fun _ => 0) 13 5) 0 0) 1 0) 2 0) 3 0) 4 0) 5 0) 6 5))), (h2, .inl (aC 1, 10, .inr (.inl (fun _ => 0)))), (h3, .inl (aC 1, 8, .inr (.inl (fun _ => 0)))), (h4, .inl (aC 1, 10, .inr (.inl (fun _ => 0)))), (h5, .inl (aC 1, 8, .inr (.inl (fun _ => 0)))), (h6, .inl (aC 0, 10, .inl (fun _ => 0))), (h7, .inl (aC 0, 20, .inl (fun _ => 0))), (h8, .inl (aC 0, 20, .inl (fun _ => 0))), (h9, .inl (aC 0, 20, .inl (fun _ => 0))), (h10, .inl (aC 0, 20, .inl (fun _ => 0))), (h11, .inl (aC 0, 8, .inl (fun _ => 0)))] H := hP
  have hD : va_D A [(h12, .inl (aC 0, 8, .inl (fun _ => 0))), (h13, .inl (aC 0, 10, .inl (fun _ => 0))), (h14, .inl (aC 0, 10, .inl (fun _ => 0))), (h15, .inl (aC 0, 10, .inl (fun _ => 0))), (h16, .inl (aC 0, 10, .inl (fun _ => 0))), (h17, .inl (aC 0, 8, .inl (fun _ => 0))), (h18, .inl (aC 0, 8, .inl (fun _ => 0))), (h19, .inl (aC 0, 2000, .inl (fun _ => 0))), (h21, .inl (aC 0, 2, .inl (upd (fun _ => 0) 1 1000))), (h22, .inl (aC 0, 2, .inl (upd (fun _ => 0) 1 1000))), (h1, .inr (11, [x23, x24, x25, x26, x27, x28, x29, x30, x31, x32, .ref h20, .ref h2, .ref h3, .ref h4, .ref h5, .ref h6, .ref h7, .ref h8, .ref h9, .ref h10, .ref h11, .ref h12, .ref h13, .ref h14, .ref h15, .ref h16, .ref h17, .ref h18, .ref h21, .ref h22, .ref h19, x33, x34, x35, x36, x37, x38, x39, x40, x41, x42, x43, x44, x45, x46, x47, x48, x49, x50, x51, x52, x53, x54, x55, x56, x57, x58, x59, x60, x61, x62, x63, x64, x65, x66, x67, x68, x69, x70, x71, x72, x73, x74, x75])), (h20, .inl (aC 0, 14, .inl (upd (upd (upd (upd (upd (upd (upd (upd (fun _ => 0) 13 5) 0 0) 1 0) 2 0) 3 0) 4 0) 5 0) 6 5))), (h2, .inl (aC 1, 10, .inr (.inl (fun _ => 0)))), (h3, .inl (aC 1, 8, .inr (.inl (fun _ => 0)))), (h4, .inl (aC 1, 10, .inr (.inl (fun _ => 0)))), (h5, .inl (aC 1, 8, .inr (.inl (fun _ => 0)))), (h6, .inl (aC 0, 10, .inl (fun _ => 0))), (h7, .inl (aC 0, 20, .inl (fun _ => 0))), (h8, .inl (aC 0, 20, .inl (fun _ => 0))), (h9, .inl (aC 0, 20, .inl (fun _ => 0))), (h10, .inl (aC 0, 20, .inl (fun _ => 0))), (h11, .inl (aC 0, 8, .inl (fun _ => 0)))] := hD
  refine lv_aload_n hx hb dX11_lays_93 rfl (lv_at hl 0 rfl) ?_
  refine xget F hP 10 rfl rfl inX11 21 (by decide) tb1203 rfl dX11_lays_94 ?_
  refine lv_iconst (v := 4) hx hb dX11_lays_97 (by decide) ?_
  refine goV (wr := [(h13, .inl (aC 0, 10, .inl (fun _ => 0))), (h14, .inl (aC 0, 10, .inl (fun _ => 0))), (h15, .inl (aC 0, 10, .inl (fun _ => 0))), (h16, .inl (aC 0, 10, .inl (fun _ => 0))), (h17, .inl (aC 0, 8, .inl (fun _ => 0))), (h18, .inl (aC 0, 8, .inl (fun _ => 0))), (h19, .inl (aC 0, 2000, .inl (fun _ => 0))), (h21, .inl (aC 0, 2, .inl (upd (fun _ => 0) 1 1000))), (h22, .inl (aC 0, 2, .inl (upd (fun _ => 0) 1 1000))), (h1, .inr (11, [x23, x24, x25, x26, x27, x28, x29, x30, x31, x32, .ref h20, .ref h2, .ref h3, .ref h4, .ref h5, .ref h6, .ref h7, .ref h8, .ref h9, .ref h10, .ref h11, .ref h12, .ref h13, .ref h14, .ref h15, .ref h16, .ref h17, .ref h18, .ref h21, .ref h22, .ref h19, x33, x34, x35, x36, x37, x38, x39, x40, x41, x42, x43, x44, x45, x46, x47, x48, x49, x50, x51, x52, x53, x54, x55, x56, x57, x58, x59, x60, x61, x62, x63, x64, x65, x66, x67, x68, x69, x70, x71, x72, x73, x74, x75])), (h20, .inl (aC 0, 14, .inl (upd (upd (upd (upd (upd (upd (upd (upd (fun _ => 0) 13 5) 0 0) 1 0) 2 0) 3 0) 4 0) 5 0) 6 5))), (h2, .inl (aC 1, 10, .inr (.inl (fun _ => 0)))), (h3, .inl (aC 1, 8, .inr (.inl (fun _ => 0)))), (h4, .inl (aC 1, 10, .inr (.inl (fun _ => 0)))), (h5, .inl (aC 1, 8, .inr (.inl (fun _ => 0)))), (h6, .inl (aC 0, 10, .inl (fun _ => 0))), (h7, .inl (aC 0, 20, .inl (fun _ => 0))), (h8, .inl (aC 0, 20, .inl (fun _ => 0))), (h9, .inl (aC 0, 20, .inl (fun _ => 0))), (h10, .inl (aC 0, 20, .inl (fun _ => 0))), (h11, .inl (aC 0, 8, .inl (fun _ => 0)))]) (runS (n := 2) (As := [.ref h12, .int 4]) (rest := []) F hP hD hS (k_moves8 l g aC aM h12) [0] (by decide) rfl tb1581 tb1579 tb1580 tb17 ⟨by decide, by decide, by decide +kernel⟩ ⟨Nat.le_of_ble_eq_true rfl, Nat.le_of_ble_eq_true rfl⟩ rfl hl.1 rfl (Nat.le_of_ble_eq_true rfl) dX11_lays_98 ⟨Nat.le_of_ble_eq_true rfl, Nat.le_of_ble_eq_true rfl⟩) hP hD hS hA [0] [1, 2, 3, 4, 5, 6, 7, 8, 9, 10, 11, 12, 13, 14, 15, 16, 17, 18, 19, 20, 21] rfl rfl (by decide) (by decide) (fun w36 H locs hw hP hD hS => ?_)
  have hP : va_P g vwCl [(h13, .inl (aC 0, 10, .inl (fun _ => 0))), (h14, .inl (aC 0, 10, .inl (fun _ => 0))), (h15, .inl (aC 0, 10, .inl (fun _ => 0))), (h16, .inl (aC 0, 10, .inl (fun _ => 0))), (h17, .inl (aC 0, 8, .inl (fun _ => 0))), (h18, .inl (aC 0, 8, .inl (fun _ => 0))), (h19, .inl (aC 0, 2000, .inl (fun _ => 0))), (h21, .inl (aC 0, 2, .inl (upd (fun _ => 0) 1 1000))), (h22, .inl (aC 0, 2, .inl (upd (fun _ => 0) 1 1000))), (h1, .inr (11, [x23, x24, x25, x26, x27, x28, x29, x30, x31, x32, .ref h20, .ref h2, .ref h3, .ref h4, .ref h5, .ref h6, .ref h7, .ref h8, .ref h9, .ref h10, .ref h11, .ref h12, .ref h13, .ref h14, .ref h15, .ref h16, .ref h17, .ref h18, .ref h21, .ref h22, .ref h19, x33, x34, x35, x36, x37, x38, x39, x40, x41, x42, x43, x44, x45, x46, x47, x48, x49, x50, x51, x52, x53, x54, x55, x56, x57, x58, x59, x60, x61, x62, x63, x64, x65, x66, x67, x68, x69, x70, x71, x72, x73, x74, x75])), (h20, .inl (aC 0, 14, .inl (upd (upd (upd (upd (upd (upd (upd (upd (fun _ => 0) 13 5) 0 0) 1 0) 2 0) 3 0) 4 0) 5 0) 6 5))), (h2, .inl (aC 1, 10, .inr (.inl (fun _ => 0)))), (h3, .inl (aC 1, 8, .inr (.inl (fun _ => 0)))), (h4, .inl (aC 1, 10, .inr (.inl (fun _ => 0)))), (h5, .inl (aC 1, 8, .inr (.inl (fun _ => 0)))), (h6, .inl (aC 0, 10, .inl (fun _ => 0))), (h7, .inl (aC 0, 20, .inl (fun _ => 0))), (h8, .inl (aC 0, 20, .inl (fun _ => 0))), (h9, .inl (aC 0, 20, .inl (fun _ => 0))), (h10, .inl (aC 0, 20, .inl (fun _ => 0))), (h11, .inl (aC 0, 8, .inl (fun _ => 0))), (h12, .inl (aC 0, 8, .inl (fun _ => 0)))] H := hP
  have hD : va_D A [(h13, .inl (aC 0, 10, .inl (fun _ => 0))), (h14, .inl (aC 0, 10, .inl (fun _ => 0))), (h15, .inl (aC 0, 10, .inl (fun _ => 0))), (h16, .inl (aC 0, 10, .inl (fun _ => 0))), (h17, .inl (aC 0, 8, .inl (fun _ => 0))), (h18, .inl (aC 0, 8, .inl (fun _ => 0))), (h19, .inl (aC 0, 2000, .inl (fun _ => 0))), (h21, .inl (aC 0, 2, .inl (upd (fun _ => 0) 1 1000))), (h22, .inl (aC 0, 2, .inl (upd (fun _ => 0) 1 1000))), (h1, .inr (11, [x23, x24, x25, x26, x27, x28, x29, x30, x31, x32, .ref h20, .ref h2, .ref h3, .ref h4, .ref h5, .ref h6, .ref h7, .ref h8, .ref h9, .ref h10, .ref h11, .ref h12, .ref h13, .ref h14, .ref h15, .ref h16, .ref h17, .ref h18, .ref h21, .ref h22, .ref h19, x33, x34, x35, x36, x37, x38, x39, x40, x41, x42, x43, x44, x45, x46, x47, x48, x49, x50, x51, x52, x53, x54, x55, x56, x57, x58, x59, x60, x61, x62, x63, x64, x65, x66, x67, x68, x69, x70, x71, x72, x73, x74, x75])), (h20, .inl (aC 0, 14, .inl (upd (upd (upd (upd (upd (upd (upd (upd (fun _ => 0) 13 5) 0 0) 1 0) 2 0) 3 0) 4 0) 5 0) 6 5))), (h2, .inl (aC 1, 10, .inr (.inl (fun _ => 0)))), (h3, .inl (aC 1, 8, .inr (.inl (fun _ => 0)))), (h4, .inl (aC 1, 10, .inr (.inl (fun _ => 0)))), (h5, .inl (aC 1, 8, .inr (.inl (fun _ => 0)))), (h6, .inl (aC 0, 10, .inl (fun _ => 0))), (h7, .inl (aC 0, 20, .inl (fun _ => 0))), (h8, .inl (aC 0, 20, .inl (fun _ => 0))), (h9, .inl (aC 0, 20, .inl (fun _ => 0))), (h10, .inl (aC 0, 20, .inl (fun _ => 0))), (h11, .inl (aC 0, 8, .inl (fun _ => 0))), (h12, .inl (aC 0, 8, .inl (fun _ => 0)))] := hD
  refine lv_aload_n hx hb dX11_lays_101 rfl (lv_at hl 0 rfl) ?_
  refine xget F hP 9 rfl rfl inX11 22 (by decide) tb1204 rfl dX11_lays_102 ?_
  refine lv_iconst (v := 5) hx hb dX11_lays_105 (by decide) ?_
  refine goV (wr := [(h14, .inl (aC 0, 10, .inl (fun _ => 0))), (h15, .inl (aC 0, 10, .inl (fun _ => 0))), (h16, .inl (aC 0, 10, .inl (fun _ => 0))), (h17, .inl (aC 0, 8, .inl (fun _ => 0))), (h18, .inl (aC 0, 8, .inl (fun _ => 0))), (h19, .inl (aC 0, 2000, .inl (fun _ => 0))), (h21, .inl (aC 0, 2, .inl (upd (fun _ => 0) 1 1000))), (h22, .inl (aC 0, 2, .inl (upd (fun _ => 0) 1 1000))), (h1, .inr (11, [x23, x24, x25, x26, x27, x28, x29, x30, x31, x32, .ref h20, .ref h2, .ref h3, .ref h4, .ref h5, .ref h6, .ref h7, .ref h8, .ref h9, .ref h10, .ref h11, .ref h12, .ref h13, .ref h14, .ref h15, .ref h16, .ref h17, .ref h18, .ref h21, .ref h22, .ref h19, x33, x34, x35, x36, x37, x38, x39, x40, x41, x42, x43, x44, x45, x46, x47, x48, x49, x50, x51, x52, x53, x54, x55, x56, x57, x58, x59, x60, x61, x62, x63, x64, x65, x66, x67, x68, x69, x70, x71, x72, x73, x74, x75])), (h20, .inl (aC 0, 14, .inl (upd (upd (upd (upd (upd (upd (upd (upd (fun _ => 0) 13 5) 0 0) 1 0) 2 0) 3 0) 4 0) 5 0) 6 5))), (h2, .inl (aC 1, 10, .inr (.inl (fun _ => 0)))), (h3, .inl (aC 1, 8, .inr (.inl (fun _ => 0)))), (h4, .inl (aC 1, 10, .inr (.inl (fun _ => 0)))), (h5, .inl (aC 1, 8, .inr (.inl (fun _ => 0)))), (h6, .inl (aC 0, 10, .inl (fun _ => 0))), (h7, .inl (aC 0, 20, .inl (fun _ => 0))), (h8, .inl (aC 0, 20, .inl (fun _ => 0))), (h9, .inl (aC 0, 20, .inl (fun _ => 0))), (h10, .inl (aC 0, 20, .inl (fun _ => 0))), (h11, .inl (aC 0, 8, .inl (fun _ => 0))), (h12, .inl (aC 0, 8, .inl (fun _ => 0)))]) (runS (n := 2) (As := [.ref h13, .int 5]) (rest := []) F hP hD hS (k_moves10 l g aC aM h13) [0] (by decide) rfl tb1581 tb1579 tb1580 tb17 ⟨by decide, by decide, by decide +kernel⟩ ⟨Nat.le_of_ble_eq_true rfl, Nat.le_of_ble_eq_true rfl⟩ rfl hl.1 rfl (Nat.le_of_ble_eq_true rfl) dX11_lays_106 ⟨Nat.le_of_ble_eq_true rfl, Nat.le_of_ble_eq_true rfl⟩) hP hD hS hA [0] [1, 2, 3, 4, 5, 6, 7, 8, 9, 10, 11, 12, 13, 14, 15, 16, 17, 18, 19, 20, 21] rfl rfl (by decide) (by decide) (fun w39 H locs hw hP hD hS => ?_)
  have hP : va_P g vwCl [(h14, .inl (aC 0, 10, .inl (fun _ => 0))), (h15, .inl (aC 0, 10, .inl (fun _ => 0))), (h16, .inl (aC 0, 10, .inl (fun _ => 0))), (h17, .inl (aC 0, 8, .inl (fun _ => 0))), (h18, .inl (aC 0, 8, .inl (fun _ => 0))), (h19, .inl (aC 0, 2000, .inl (fun _ => 0))), (h21, .inl (aC 0, 2, .inl (upd (fun _ => 0) 1 1000))), (h22, .inl (aC 0, 2, .inl (upd (fun _ => 0) 1 1000))), (h1, .inr (11, [x23, x24, x25, x26, x27, x28, x29, x30, x31, x32, .ref h20, .ref h2, .ref h3, .ref h4, .ref h5, .ref h6, .ref h7, .ref h8, .ref h9, .ref h10, .ref h11, .ref h12, .ref h13, .ref h14, .ref h15, .ref h16, .ref h17, .ref h18, .ref h21, .ref h22, .ref h19, x33, x34, x35, x36, x37, x38, x39, x40, x41, x42, x43, x44, x45, x46, x47, x48, x49, x50, x51, x52, x53, x54, x55, x56, x57, x58, x59, x60, x61, x62, x63, x64, x65, x66, x67, x68, x69, x70, x71, x72, x73, x74, x75])), (h20, .inl (aC 0, 14, .inl (upd (upd (upd (upd (upd (upd (upd (upd (fun _ => 0) 13 5) 0 0) 1 0) 2 0) 3 0) 4 0) 5 0) 6 5))), (h2, .inl (aC 1, 10, .inr (.inl (fun _ => 0)))), (h3, .inl (aC 1, 8, .inr (.inl (fun _ => 0)))), (h4, .inl (aC 1, 10, .inr (.inl (fun _ => 0)))), (h5, .inl (aC 1, 8, .inr (.inl (fun _ => 0)))), (h6, .inl (aC 0, 10, .inl (fun _ => 0))), (h7, .inl (aC 0, 20, .inl (fun _ => 0))), (h8, .inl (aC 0, 20, .inl (fun _ => 0))), (h9, .inl (aC 0, 20, .inl (fun _ => 0))), (h10, .inl (aC 0, 20, .inl (fun _ => 0))), (h11, .inl (aC 0, 8, .inl (fun _ => 0))), (h12, .inl (aC 0, 8, .inl (fun _ => 0))), (h13, .inl (aC 0, 10, .inl (fun _ => 0)))] H := hP
  have hD : va_D A [(h14, .inl (aC 0, 10, .inl (fun _ => 0))), (h15, .inl (aC 0, 10, .inl (fun _ => 0))), (h16, .inl (aC 0, 10, .inl (fun _ => 0))), (h17, .inl (aC 0, 8, .inl (fun _ => 0))), (h18, .inl (aC 0, 8, .inl (fun _ => 0))), (h19, .inl (aC 0, 2000, .inl (fun _ => 0))), (h21, .inl (aC 0, 2, .inl (upd (fun _ => 0) 1 1000))), (h22, .inl (aC 0, 2, .inl (upd (fun _ => 0) 1 1000))), (h1, .inr (11, [x23, x24, x25, x26, x27, x28, x29, x30, x31, x32, .ref h20, .ref h2, .ref h3, .ref h4, .ref h5, .ref h6, .ref h7, .ref h8, .ref h9, .ref h10, .ref h11, .ref h12, .ref h13, .ref h14, .ref h15, .ref h16, .ref h17, .ref h18, .ref h21, .ref h22, .ref h19, x33, x34, x35, x36, x37, x38, x39, x40, x41, x42, x43, x44, x45, x46, x47, x48, x49, x50, x51, x52, x53, x54, x55, x56, x57, x58, x59, x60, x61, x62, x63, x64, x65, x66, x67, x68, x69, x70, x71, x72, x73, x74, x75])), (h20, .inl (aC 0, 14, .inl (upd (upd (upd (upd (upd (upd (upd (upd (fun _ => 0) 13 5) 0 0) 1 0) 2 0) 3 0) 4 0) 5 0) 6 5))), (h2, .inl (aC 1, 10, .inr (.inl (fun _ => 0)))), (h3, .inl (aC 1, 8, .inr (.inl (fun _ => 0)))), (h4, .inl (aC 1, 10, .inr (.inl (fun _ => 0)))), (h5, .inl (aC 1, 8, .inr (.inl (fun _ => 0)))), (h6, .inl (aC 0, 10, .inl (fun _ => 0))), (h7, .inl (aC 0, 20, .inl (fun _ => 0))), (h8, .inl (aC 0, 20, .inl (fun _ => 0))), (h9, .inl (aC 0, 20, .inl (fun _ => 0))), (h10, .inl (aC 0, 20, .inl (fun _ => 0))), (h11, .inl (aC 0, 8, .inl (fun _ => 0))), (h12, .inl (aC 0, 8, .inl (fun _ => 0))), (h13, .inl (aC 0, 10, .inl (fun _ => 0)))] := hD
  refine lv_aload_n hx hb dX11_lays_109 rfl (lv_at hl 0 rfl) ?_
  refine xget F hP 8 rfl rfl inX11 23 (by decide) tb1205 rfl dX11_lays_110 ?_
  refine lv_iconst (v := 5) hx hb dX11_lays_113 (by decide) ?_
  refine goV (wr := [(h15, .inl (aC 0, 10, .inl (fun _ => 0))), (h16, .inl (aC 0, 10, .inl (fun _ => 0))), (h17, .inl (aC 0, 8, .inl (fun _ => 0))), (h18, .inl (aC 0, 8, .inl (fun _ => 0))), (h19, .inl (aC 0, 2000, .inl (fun _ => 0))), (h21, .inl (aC 0, 2, .inl (upd (fun _ => 0) 1 1000))), (h22, .inl (aC 0, 2, .inl (upd (fun _ => 0) 1 1000))), (h1, .inr (11, [x23, x24, x25, x26, x27, x28, x29, x30, x31, x32, .ref h20, .ref h2, .ref h3, .ref h4, .ref h5, .ref h6, .ref h7, .ref h8, .ref h9, .ref h10, .ref h11, .ref h12, .ref h13, .ref h14, .ref h15, .ref h16, .ref h17, .ref h18, .ref h21, .ref h22, .ref h19, x33, x34, x35, x36, x37, x38, x39, x40, x41, x42, x43, x44, x45, x46, x47, x48, x49, x50, x51, x52, x53, x54, x55, x56, x57, x58, x59, x60, x61, x62, x63, x64, x65, x66, x67, x68, x69, x70, x71, x72, x73, x74, x75])), (h20, .inl (aC 0, 14, .inl (upd (upd (upd (upd (upd (upd (upd (upd (fun _ => 0) 13 5) 0 0) 1 0) 2 0) 3 0) 4 0) 5 0) 6 5))), (h2, .inl (aC 1, 10, .inr (.inl (fun _ => 0)))), (h3, .inl (aC 1, 8, .inr (.inl (fun _ => 0)))), (h4, .inl (aC 1, 10, .inr (.inl (fun _ => 0)))), (h5, .inl (aC 1, 8, .inr (.inl (fun _ => 0)))), (h6, .inl (aC 0, 10, .inl (fun _ => 0))), (h7, .inl (aC 0, 20, .inl (fun _ => 0))), (h8, .inl (aC 0, 20, .inl (fun _ => 0))), (h9, .inl (aC 0, 20, .inl (fun _ => 0))), (h10, .inl (aC 0, 20, .inl (fun _ => 0))), (h11, .inl (aC 0, 8, .inl (fun _ => 0))), (h12, .inl (aC 0, 8, .inl (fun _ => 0))), (h13, .inl (aC 0, 10, .inl (fun _ => 0)))]) (runS (n := 2) (As := [.ref h14, .int 5]) (rest := []) F hP hD hS (k_moves10 l g aC aM h14) [0] (by decide) rfl tb1581 tb1579 tb1580 tb17 ⟨by decide, by decide, by decide +kernel⟩ ⟨Nat.le_of_ble_eq_true rfl, Nat.le_of_ble_eq_true rfl⟩ rfl hl.1 rfl (Nat.le_of_ble_eq_true rfl) dX11_lays_114 ⟨Nat.le_of_ble_eq_true rfl, Nat.le_of_ble_eq_true rfl⟩) hP hD hS hA [0] [1, 2, 3, 4, 5, 6, 7, 8, 9, 10, 11, 12, 13, 14, 15, 16, 17, 18, 19, 20, 21] rfl rfl (by decide) (by decide) (fun w42 H locs hw hP hD hS => ?_)
  have hP : va_P g vwCl [(h15, .inl (aC 0, 10, .inl (fun _ => 0))), (h16, .inl (aC 0, 10, .inl (fun _ => 0))), (h17, .inl (aC 0, 8, .inl (fun _ => 0))), (h18, .inl (aC 0, 8, .inl (fun _ => 0))), (h19, .inl (aC 0, 2000, .inl (fun _ => 0))), (h21, .inl (aC 0, 2, .inl (upd (fun _ => 0) 1 1000))), (h22, .inl (aC 0, 2, .inl (upd (fun _ => 0) 1 1000))), (h1, .inr (11, [x23, x24, x25, x26, x27, x28, x29, x30, x31, x32, .ref h20, .ref h2, .ref h3, .ref h4, .ref h5, .ref h6, .ref h7, .ref h8, .ref h9, .ref h10, .ref h11, .ref h12, .ref h13, .ref h14, .ref h15, .ref h16, .ref h17, .ref h18, .ref h21, .ref h22, .ref h19, x33, x34, x35, x36, x37, x38, x39, x40, x41, x42, x43, x44, x45, x46, x47, x48, x49, x50, x51, x52, x53, x54, x55, x56, x57, x58, x59, x60, x61, x62, x63, x64, x65, x66, x67, x68, x69, x70, x71, x72, x73, x74, x75])), (h20, .inl (aC 0, 14, .inl (upd (upd (upd (upd (upd (upd (upd (upd (fun _ => 0) 13 5) 0 0) 1 0) 2 0) 3 0) 4 0) 5 0) 6 5))), (h2, .inl (aC 1, 10, .inr (.inl (fun _ => 0)))), (h3, .inl (aC 1, 8, .inr (.inl (fun _ => 0)))), (h4, .inl (aC 1, 10, .inr (.inl (fun _ => 0)))), (h5, .inl (aC 1, 8, .inr (.inl (fun _ => 0)))), (h6, .inl (aC 0, 10, .inl (fun _ => 0))), (h7, .inl (aC 0, 20, .inl (fun _ => 0))), (h8, .inl (aC 0, 20, .inl (fun _ => 0))), (h9, .inl (aC 0, 20, .inl (fun _ => 0))), (h10, .inl (aC 0, 20, .inl (fun _ => 0))), (h11, .inl (aC 0, 8, .inl (fun _ => 0))), (h12, .inl (aC 0, 8, .inl (fun _ => 0))), (h13, .inl (aC 0, 10, .inl (fun _ => 0))), (h14, .inl (aC 0, 10, .inl (fun _ => 0)))] H := hP
  have hD : va_D A [(h15, .inl (aC 0, 10, .inl (fun _ => 0))), (h16, .inl (aC 0, 10, .inl (fun _ => 0))), (h17, .inl (aC 0, 8, .inl (fun _ => 0))), (h18, .inl (aC 0, 8, .inl (fun _ => 0))), (h19, .inl (aC 0, 2000, .inl (fun _ => 0))), (h21, .inl (aC 0, 2, .inl (upd (fun _ => 0) 1 1000))), (h22, .inl (aC 0, 2, .inl (upd (fun _ => 0) 1 1000))), (h1, .inr (11, [x23, x24, x25, x26, x27, x28, x29, x30, x31, x32, .ref h20, .ref h2, .ref h3, .ref h4, .ref h5, .ref h6, .ref h7, .ref h8, .ref h9, .ref h10, .ref h11, .ref h12, .ref h13, .ref h14, .ref h15, .ref h16, .ref h17, .ref h18, .ref h21, .ref h22, .ref h19, x33, x34, x35, x36, x37, x38, x39, x40, x41, x42, x43, x44, x45, x46, x47, x48, x49, x50, x51, x52, x53, x54, x55, x56, x57, x58, x59, x60, x61, x62, x63, x64, x65, x66, x67, x68, x69, x70, x71, x72, x73, x74, x75])), (h20, .inl (aC 0, 14, .inl (upd (upd (upd (upd (upd (upd (upd (upd (fun _ => 0) 13 5) 0 0) 1 0) 2 0) 3 0) 4 0) 5 0) 6 5))), (h2, .inl (aC 1, 10, .inr (.inl (fun _ => 0)))), (h3, .inl (aC 1, 8, .inr (.inl (fun _ => 0)))), (h4, .inl (aC 1, 10, .inr (.inl (fun _ => 0)))), (h5, .inl (aC 1, 8, .inr (.inl (fun _ => 0)))), (h6, .inl (aC 0, 10, .inl (fun _ => 0))), (h7, .inl (aC 0, 20, .inl (fun _ => 0))), (h8, .inl (aC 0, 20, .inl (fun _ => 0))), (h9, .inl (aC 0, 20, .inl (fun _ => 0))), (h10, .inl (aC 0, 20, .inl (fun _ => 0))), (h11, .inl (aC 0, 8, .inl (fun _ => 0))), (h12, .inl (aC 0, 8, .inl (fun _ => 0))), (h13, .inl (aC 0, 10, .inl (fun _ => 0))), (h14, .inl (aC 0, 10, .inl (fun _ => 0)))] := hD
  refine lv_aload_n hx hb dX11_lays_117 rfl (lv_at hl 0 rfl) ?_
  refine xget F hP 7 rfl rfl inX11 24 (by decide) tb1206 rfl dX11_lays_118 ?_
  refine lv_iconst (v := 5) hx hb dX11_lays_121 (by decide) ?_
  refine goV (wr := [(h16, .inl (aC 0, 10, .inl (fun _ => 0))), (h17, .inl (aC 0, 8, .inl (fun _ => 0))), (h18, .inl (aC 0, 8, .inl (fun _ => 0))), (h19, .inl (aC 0, 2000, .inl (fun _ => 0))), (h21, .inl (aC 0, 2, .inl (upd (fun _ => 0) 1 1000))), (h22, .inl (aC 0, 2, .inl (upd (fun _ => 0) 1 1000))), (h1, .inr (11, [x23, x24, x25, x26, x27, x28, x29, x30, x31, x32, .ref h20, .ref h2, .ref h3, .ref h4, .ref h5, .ref h6, .ref h7, .ref h8, .ref h9, .ref h10, .ref h11, .ref h12, .ref h13, .ref h14, .ref h15, .ref h16, .ref h17, .ref h18, .ref h21, .ref h22, .ref h19, x33, x34, x35, x36, x37, x38, x39, x40, x41, x42, x43, x44, x45, x46, x47, x48, x49, x50, x51, x52, x53, x54, x55, x56, x57, x58, x59, x60, x61, x62, x63, x64, x65, x66, x67, x68, x69, x70, x71, x72, x73, x74, x75])), (h20, .inl (aC 0, 14, .inl (upd (upd (upd (upd (upd (upd (upd (upd (fun _ => 0) 13 5) 0 0) 1 0) 2 0) 3 0) 4 0) 5 0) 6 5))), (h2, .inl (aC 1, 10, .inr (.inl (fun _ => 0)))), (h3, .inl (aC 1, 8, .inr (.inl (fun _ => 0)))), (h4, .inl (aC 1, 10, .inr (.inl (fun _ => 0)))), (h5, .inl (aC 1, 8, .inr (.inl (fun _ => 0)))), (h6, .inl (aC 0, 10, .inl (fun _ => 0))), (h7, .inl (aC 0, 20, .inl (fun _ => 0))), (h8, .inl (aC 0, 20, .inl (fun _ => 0))), (h9, .inl (aC 0, 20, .inl (fun _ => 0))), (h10, .inl (aC 0, 20, .inl (fun _ => 0))), (h11, .inl (aC 0, 8, .inl (fun _ => 0))), (h12, .inl (aC 0, 8, .inl (fun _ => 0))), (h13, .inl (aC 0, 10, .inl (fun _ => 0))), (h14, .inl (aC 0, 10, .inl (fun _ => 0)))]) (runS (n := 2) (As := [.ref h15, .int 5]) (rest := []) F hP hD hS (k_moves10 l g aC aM h15) [0] (by decide) rfl tb1581 tb1579 tb1580 tb17 ⟨by decide, by decide, by decide +kernel⟩ ⟨Nat.le_of_ble_eq_true rfl, Nat.le_of_ble_eq_true rfl⟩ rfl hl.1 rfl (Nat.le_of_ble_eq_true rfl) dX11_lays_122 ⟨Nat.le_of_ble_eq_true rfl, Nat.le_of_ble_eq_true rfl⟩) hP hD hS hA [0] [1, 2, 3, 4, 5, 6, 7, 8, 9, 10, 11, 12, 13, 14, 15, 16, 17, 18, 19, 20, 21] rfl rfl (by decide) (by decide) (fun w45 H locs hw hP hD hS => ?_)
  have hP : va_P g vwCl [(h16, .inl (aC 0, 10, .inl (fun _ => 0))), (h17, .inl (aC 0, 8, .inl (fun _ => 0))), (h18, .inl (aC 0, 8, .inl (fun _ => 0))), (h19, .inl (aC 0, 2000, .inl (fun _ => 0))), (h21, .inl (aC 0, 2, .inl (upd (fun _ => 0) 1 1000))), (h22, .inl (aC 0, 2, .inl (upd (fun _ => 0) 1 1000))), (h1, .inr (11, [x23, x24, x25, x26, x27, x28, x29, x30, x31, x32, .ref h20, .ref h2, .ref h3, .ref h4, .ref h5, .ref h6, .ref h7, .ref h8, .ref h9, .ref h10, .ref h11, .ref h12, .ref h13, .ref h14, .ref h15, .ref h16, .ref h17, .ref h18, .ref h21, .ref h22, .ref h19, x33, x34, x35, x36, x37, x38, x39, x40, x41, x42, x43, x44, x45, x46, x47, x48, x49, x50, x51, x52, x53, x54, x55, x56, x57, x58, x59, x60, x61, x62, x63, x64, x65, x66, x67, x68, x69, x70, x71, x72, x73, x74, x75])), (h20, .inl (aC 0, 14, .inl (upd (upd (upd (upd (upd (upd (upd (upd (fun _ => 0) 13 5) 0 0) 1 0) 2 0) 3 0) 4 0) 5 0) 6 5))), (h2, .inl (aC 1, 10, .inr (.inl (fun _ => 0)))), (h3, .inl (aC 1, 8, .inr (.inl (fun _ => 0)))), (h4, .inl (aC 1, 10, .inr (.inl (fun _ => 0)))), (h5, .inl (aC 1, 8, .inr (.inl (fun _ => 0)))), (h6, .inl (aC 0, 10, .inl (fun _ => 0))), (h7, .inl (aC 0, 20, .inl (fun _ => 0))), (h8, .inl (aC 0, 20, .inl (fun _ => 0))), (h9, .inl (aC 0, 20, .inl (fun _ => 0))), (h10, .inl (aC 0, 20, .inl (fun _ => 0))), (h11, .inl (aC 0, 8, .inl (fun _ => 0))), (h12, .inl (aC 0, 8, .inl (fun _ => 0))), (h13, .inl (aC 0, 10, .inl (fun _ => 0))), (h14, .inl (aC 0, 10, .inl (fun _ => 0))), (h15, .inl (aC 0, 10, .inl (fun _ => 0)))] H := hP
  have hD : va_D A [(h16, .inl (aC 0, 10, .inl (fun _ => 0))), (h17, .inl (aC 0, 8, .inl (fun _ => 0))), (h18, .inl (aC 0, 8, .inl (fun _ => 0))), (h19, .inl (aC 0, 2000, .inl (fun _ => 0))), (h21, .inl (aC 0, 2, .inl (upd (fun _ => 0) 1 1000))), (h22, .inl (aC 0, 2, .inl (upd (fun _ => 0) 1 1000))), (h1, .inr (11, [x23, x24, x25, x26, x27, x28, x29, x30, x31, x32, .ref h20, .ref h2, .ref h3, .ref h4, .ref h5, .ref h6, .ref h7, .ref h8, .ref h9, .ref h10, .ref h11, .ref h12, .ref h13, .ref h14, .ref h15, .ref h16, .ref h17, .ref h18, .ref h21, .ref h22, .ref h19, x33, x34, x35, x36, x37, x38, x39, x40, x41, x42, x43, x44, x45, x46, x47, x48, x49, x50, x51, x52, x53, x54, x55, x56, x57, x58, x59, x60, x61, x62, x63, x64, x65, x66, x67, x68, x69, x70, x71, x72, x73, x74, x75])), (h20, .inl (aC 0, 14, .inl (upd (upd (upd (upd (upd (upd (upd (upd (fun _ => 0) 13 5) 0 0) 1 0) 2 0) 3 0) 4 0) 5 0) 6 5))), (h2, .inl (aC 1, 10, .inr (.inl (fun _ => 0)))), (h3, .inl (aC 1, 8, .inr (.inl (fun _ => 0)))), (h4, .inl (aC 1, 10, .inr (.inl (fun _ => 0)))), (h5, .inl (aC 1, 8, .inr (.inl (fun _ => 0)))), (h6, .inl (aC 0, 10, .inl (fun _ => 0))), (h7, .inl (aC 0, 20, .inl (fun _ => 0))), (h8, .inl (aC 0, 20, .inl (fun _ => 0))), (h9, .inl (aC 0, 20, .inl (fun _ => 0))), (h10, .inl (aC 0, 20, .inl (fun _ => 0))), (h11, .inl (aC 0, 8, .inl (fun _ => 0))), (h12, .inl (aC 0, 8, .inl (fun _ => 0))), (h13, .inl (aC 0, 10, .inl (fun _ => 0))), (h14, .inl (aC 0, 10, .inl (fun _ => 0))), (h15, .inl (aC 0, 10, .inl (fun _ => 0)))] := hD
  refine lv_aload_n hx hb dX11_lays_125 rfl (lv_at hl 0 rfl) ?_
  refine xget F hP 6 rfl rfl inX11 25 (by decide) tb1207 rfl dX11_lays_126 ?_
  refine lv_iconst (v := 5) hx hb dX11_lays_129 (by decide) ?_
  refine goV (wr := [(h17, .inl (aC 0, 8, .inl (fun _ => 0))), (h18, .inl (aC 0, 8, .inl (fun _ => 0))), (h19, .inl (aC 0, 2000, .inl (fun _ => 0))), (h21, .inl (aC 0, 2, .inl (upd (fun _ => 0) 1 1000))), (h22, .inl (aC 0, 2, .inl (upd (fun _ => 0) 1 1000))), (h1, .inr (11, [x23, x24, x25, x26, x27, x28, x29, x30, x31, x32, .ref h20, .ref h2, .ref h3, .ref h4, .ref h5, .ref h6, .ref h7, .ref h8, .ref h9, .ref h10, .ref h11, .ref h12, .ref h13, .ref h14, .ref h15, .ref h16, .ref h17, .ref h18, .ref h21, .ref h22, .ref h19, x33, x34, x35, x36, x37, x38, x39, x40, x41, x42, x43, x44, x45, x46, x47, x48, x49, x50, x51, x52, x53, x54, x55, x56, x57, x58, x59, x60, x61, x62, x63, x64, x65, x66, x67, x68, x69, x70, x71, x72, x73, x74, x75])), (h20, .inl (aC 0, 14, .inl (upd (upd (upd (upd (upd (upd (upd (upd (fun _ => 0) 13 5) 0 0) 1 0) 2 0) 3 0) 4 0) 5 0) 6 5))), (h2, .inl (aC 1, 10, .inr (.inl (fun _ => 0)))), (h3, .inl (aC 1, 8, .inr (.inl (fun _ => 0)))), (h4, .inl (aC 1, 10, .inr (.inl (fun _ => 0)))), (h5, .inl (aC 1, 8, .inr (.inl (fun _ => 0)))), (h6, .inl (aC 0, 10, .inl (fun _ => 0))), (h7, .inl (aC 0, 20, .inl (fun _ => 0))), (h8, .inl (aC 0, 20, .inl (fun _ => 0))), (h9, .inl (aC 0, 20, .inl (fun _ => 0))), (h10, .inl (aC 0, 20, .inl (fun _ => 0))), (h11, .inl (aC 0, 8, .inl (fun _ => 0))), (h12, .inl (aC 0, 8, .inl (fun _ => 0))), (h13, .inl (aC 0, 10, .inl (fun _ => 0))), (h14, .inl (aC 0, 10, .inl (fun _ => 0))), (h15, .inl (aC 0, 10, .inl (fun _ => 0)))]) (runS (n := 2) (As := [.ref h16, .int 5]) (rest := []) F hP hD hS (k_moves10 l g aC aM h16) [0] (by decide) rfl tb1581 tb1579 tb1580 tb17 ⟨by decide, by decide, by decide +kernel⟩ ⟨Nat.le_of_ble_eq_true rfl, Nat.le_of_ble_eq_true rfl⟩ rfl hl.1 rfl (Nat.le_of_ble_eq_true rfl) dX11_lays_130 ⟨Nat.le_of_ble_eq_true rfl, Nat.le_of_ble_eq_true rfl⟩) hP hD hS hA [0] [1, 2, 3, 4, 5, 6, 7, 8, 9, 10, 11, 12, 13, 14, 15, 16, 17, 18, 19, 20, 21] rfl rfl (by decide) (by decide) (fun w48 H locs hw hP hD hS => ?_)
  have hP : va_P g vwCl [(h17, .inl (aC 0, 8, .inl (fun _ => 0))), (h18, .inl (aC 0, 8, .inl (fun _ => 0))), (h19, .inl (aC 0, 2000, .inl (fun _ => 0))), (h21, .inl (aC 0, 2, .inl (upd (fun _ => 0) 1 1000))), (h22, .inl (aC 0, 2, .inl (upd (fun _ => 0) 1 1000))), (h1, .inr (11, [x23, x24, x25, x26, x27, x28, x29, x30, x31, x32, .ref h20, .ref h2, .ref h3, .ref h4, .ref h5, .ref h6, .ref h7, .ref h8, .ref h9, .ref h10, .ref h11, .ref h12, .ref h13, .ref h14, .ref h15, .ref h16, .ref h17, .ref h18, .ref h21, .ref h22, .ref h19, x33, x34, x35, x36, x37, x38, x39, x40, x41, x42, x43, x44, x45, x46, x47, x48, x49, x50, x51, x52, x53, x54, x55, x56, x57, x58, x59, x60, x61, x62, x63, x64, x65, x66, x67, x68, x69, x70, x71, x72, x73, x74, x75])), (h20, .inl (aC 0, 14, .inl (upd (upd (upd (upd (upd (upd (upd (upd (fun _ => 0) 13 5) 0 0) 1 0) 2 0) 3 0) 4 0) 5 0) 6 5))), (h2, .inl (aC 1, 10, .inr (.inl (fun _ => 0)))), (h3, .inl (aC 1, 8, .inr (.inl (fun _ => 0)))), (h4, .inl (aC 1, 10, .inr (.inl (fun _ => 0)))), (h5, .inl (aC 1, 8, .inr (.inl (fun _ => 0)))), (h6, .inl (aC 0, 10, .inl (fun _ => 0))), (h7, .inl (aC 0, 20, .inl (fun _ => 0))), (h8, .inl (aC 0, 20, .inl (fun _ => 0))), (h9, .inl (aC 0, 20, .inl (fun _ => 0))), (h10, .inl (aC 0, 20, .inl (fun _ => 0))), (h11, .inl (aC 0, 8, .inl (fun _ => 0))), (h12, .inl (aC 0, 8, .inl (fun _ => 0))), (h13, .inl (aC 0, 10, .inl (fun _ => 0))), (h14, .inl (aC 0, 10, .inl (fun _ => 0))), (h15, .inl (aC 0, 10, .inl (fun _ => 0))), (h16, .inl (aC 0, 10, .inl (fun _ => 0)))] H := hP
  have hD : va_D A [(h17, .inl (aC 0, 8, .inl (fun _ => 0))), (h18, .inl (aC 0, 8, .inl (fun _ => 0))), (h19, .inl (aC 0, 2000, .inl (fun _ => 0))), (h21, .inl (aC 0, 2, .inl (upd (fun _ => 0) 1 1000))), (h22, .inl (aC 0, 2, .inl (upd (fun _ => 0) 1 1000))), (h1, .inr (11, [x23, x24, x25, x26, x27, x28, x29, x30, x31, x32, .ref h20, .ref h2, .ref h3, .ref h4, .ref h5, .ref h6, .ref h7, .ref h8, .ref h9, .ref h10, .ref h11, .ref h12, .ref h13, .ref h14, .ref h15, .ref h16, .ref h17, .ref h18, .ref h21, .ref h22, .ref h19, x33, x34, x35, x36, x37, x38, x39, x40, x41, x42, x43, x44, x45, x46, x47, x48, x49, x50, x51, x52, x53, x54, x55, x56, x57, x58, x59, x60, x61, x62, x63, x64, x65, x66, x67, x68, x69, x70, x71, x72, x73, x74, x75])), (h20, .inl (aC 0, 14, .inl (upd (upd (upd (upd (upd (upd (upd (upd (fun _ => 0) 13 5) 0 0) 1 0) 2 0) 3 0) 4 0) 5 0) 6 5))), (h2, .inl (aC 1, 10, .inr (.inl (fun _ => 0)))), (h3, .inl (aC 1, 8, .inr (.inl (fun _ => 0)))), (h4, .inl (aC 1, 10, .inr (.inl (fun _ => 0)))), (h5, .inl (aC 1, 8, .inr (.inl (fun _ => 0)))), (h6, .inl (aC 0, 10, .inl (fun _ => 0))), (h7, .inl (aC 0, 20, .inl (fun _ => 0))), (h8, .inl (aC 0, 20, .inl (fun _ => 0))), (h9, .inl (aC 0, 20, .inl (fun _ => 0))), (h10, .inl (aC 0, 20, .inl (fun _ => 0))), (h11, .inl (aC 0, 8, .inl (fun _ => 0))), (h12, .inl (aC 0, 8, .inl (fun _ => 0))), (h13, .inl (aC 0, 10, .inl (fun _ => 0))), (h14, .inl (aC 0, 10, .inl (fun _ => 0))), (h15, .inl (aC 0, 10, .inl (fun _ => 0))), (h16, .inl (aC 0, 10, .inl (fun _ => 0)))] := hD
  refine lv_aload_n hx hb dX11_lays_133 rfl (lv_at hl 0 rfl) ?_
  refine xget F hP 5 rfl rfl inX11 26 (by decide) tb1208 rfl dX11_lays_134 ?_
  refine lv_iconst (v := 4) hx hb dX11_lays_137 (by decide) ?_
  refine goV (wr := [(h18, .inl (aC 0, 8, .inl (fun _ => 0))), (h19, .inl (aC 0, 2000, .inl (fun _ => 0))), (h21, .inl (aC 0, 2, .inl (upd (fun _ => 0) 1 1000))), (h22, .inl (aC 0, 2, .inl (upd (fun _ => 0) 1 1000))), (h1, .inr (11, [x23, x24, x25, x26, x27, x28, x29, x30, x31, x32, .ref h20, .ref h2, .ref h3, .ref h4, .ref h5, .ref h6, .ref h7, .ref h8, .ref h9, .ref h10, .ref h11, .ref h12, .ref h13, .ref h14, .ref h15, .ref h16, .ref h17, .ref h18, .ref h21, .ref h22, .ref h19, x33, x34, x35, x36, x37, x38, x39, x40, x41, x42, x43, x44, x45, x46, x47, x48, x49, x50, x51, x52, x53, x54, x55, x56, x57, x58, x59, x60, x61, x62, x63, x64, x65, x66, x67, x68, x69, x70, x71, x72, x73, x74, x75])), (h20, .inl (aC 0, 14, .inl (upd (upd (upd (upd (upd (upd (upd (upd (fun _ => 0) 13 5) 0 0) 1 0) 2 0) 3 0) 4 0) 5 0) 6 5))), (h2, .inl (aC 1, 10, .inr (.inl (fun _ => 0)))), (h3, .inl (aC 1, 8, .inr (.inl (fun _ => 0)))), (h4, .inl (aC 1, 10, .inr (.inl (fun _ => 0)))), (h5, .inl (aC 1, 8, .inr (.inl (fun _ => 0)))), (h6, .inl (aC 0, 10, .inl (fun _ => 0))), (h7, .inl (aC 0, 20, .inl (fun _ => 0))), (h8, .inl (aC 0, 20, .inl (fun _ => 0))), (h9, .inl (aC 0, 20, .inl (fun _ => 0))), (h10, .inl (aC 0, 20, .inl (fun _ => 0))), (h11, .inl (aC 0, 8, .inl (fun _ => 0))), (h12, .inl (aC 0, 8, .inl (fun _ => 0))), (h13, .inl (aC 0, 10, .inl (fun _ => 0))), (h14, .inl (aC 0, 10, .inl (fun _ => 0))), (h15, .inl (aC 0, 10, .inl (fun _ => 0))), (h16, .inl (aC 0, 10, .inl (fun _ => 0)))]) (runS (n := 2) (As := [.ref h17, .int 4]) (rest := []) F hP hD hS (k_moves8 l g aC aM h17) [0] (by decide) rfl tb1581 tb1579 tb1580 tb17 ⟨by decide, by decide, by decide +kernel⟩ ⟨Nat.le_of_ble_eq_true rfl, Nat.le_of_ble_eq_true rfl⟩ rfl hl.1 rfl (Nat.le_of_ble_eq_true rfl) dX11_lays_138 ⟨Nat.le_of_ble_eq_true rfl, Nat.le_of_ble_eq_true rfl⟩) hP hD hS hA [0] [1, 2, 3, 4, 5, 6, 7, 8, 9, 10, 11, 12, 13, 14, 15, 16, 17, 18, 19, 20, 21] rfl rfl (by decide) (by decide) (fun w51 H locs hw hP hD hS => ?_)
  have hP : va_P g vwCl [(h18, .inl (aC 0, 8, .inl (fun _ => 0))), (h19, .inl (aC 0, 2000, .inl (fun _ => 0))), (h21, .inl (aC 0, 2, .inl (upd (fun _ => 0) 1 1000))), (h22, .inl (aC 0, 2, .inl (upd (fun _ => 0) 1 1000))), (h1, .inr (11, [x23, x24, x25, x26, x27, x28, x29, x30, x31, x32, .ref h20, .ref h2, .ref h3, .ref h4, .ref h5, .ref h6, .ref h7, .ref h8, .ref h9, .ref h10, .ref h11, .ref h12, .ref h13, .ref h14, .ref h15, .ref h16, .ref h17, .ref h18, .ref h21, .ref h22, .ref h19, x33, x34, x35, x36, x37, x38, x39, x40, x41, x42, x43, x44, x45, x46, x47, x48, x49, x50, x51, x52, x53, x54, x55, x56, x57, x58, x59, x60, x61, x62, x63, x64, x65, x66, x67, x68, x69, x70, x71, x72, x73, x74, x75])), (h20, .inl (aC 0, 14, .inl (upd (upd (upd (upd (upd (upd (upd (upd (fun _ => 0) 13 5) 0 0) 1 0) 2 0) 3 0) 4 0) 5 0) 6 5))), (h2, .inl (aC 1, 10, .inr (.inl (fun _ => 0)))), (h3, .inl (aC 1, 8, .inr (.inl (fun _ => 0)))), (h4, .inl (aC 1, 10, .inr (.inl (fun _ => 0)))), (h5, .inl (aC 1, 8, .inr (.inl (fun _ => 0)))), (h6, .inl (aC 0, 10, .inl (fun _ => 0))), (h7, .inl (aC 0, 20, .inl (fun _ => 0))), (h8, .inl (aC 0, 20, .inl (fun _ => 0))), (h9, .inl (aC 0, 20, .inl (fun _ => 0))), (h10, .inl (aC 0, 20, .inl (fun _ => 0))), (h11, .inl (aC 0, 8, .inl (fun _ => 0))), (h12, .inl (aC 0, 8, .inl (fun _ => 0))), (h13, .inl (aC 0, 10, .inl (fun _ => 0))), (h14, .inl (aC 0, 10, .inl (fun _ => 0))), (h15, .inl (aC 0, 10, .inl (fun _ => 0))), (h16, .inl (aC 0, 10, .inl (fun _ => 0))), (h17, .inl (aC 0, 8, .inl (fun _ => 0)))] H := hP
  have hD : va_D A [(h18, .inl (aC 0, 8, .inl (fun _ => 0))), (h19, .inl (aC 0, 2000, .inl (fun _ => 0))), (h21, .inl (aC 0, 2, .inl (upd (fun _ => 0) 1 1000))), (h22, .inl (aC 0, 2, .inl (upd (fun _ => 0) 1 1000))), (h1, .inr (11, [x23, x24, x25, x26, x27, x28, x29, x30, x31, x32, .ref h20, .ref h2, .ref h3, .ref h4, .ref h5, .ref h6, .ref h7, .ref h8, .ref h9, .ref h10, .ref h11, .ref h12, .ref h13, .ref h14, .ref h15, .ref h16, .ref h17, .ref h18, .ref h21, .ref h22, .ref h19, x33, x34, x35, x36, x37, x38, x39, x40, x41, x42, x43, x44, x45, x46, x47, x48, x49, x50, x51, x52, x53, x54, x55, x56, x57, x58, x59, x60, x61, x62, x63, x64, x65, x66, x67, x68, x69, x70, x71, x72, x73, x74, x75])), (h20, .inl (aC 0, 14, .inl (upd (upd (upd (upd (upd (upd (upd (upd (fun _ => 0) 13 5) 0 0) 1 0) 2 0) 3 0) 4 0) 5 0) 6 5))), (h2, .inl (aC 1, 10, .inr (.inl (fun _ => 0)))), (h3, .inl (aC 1, 8, .inr (.inl (fun _ => 0)))), (h4, .inl (aC 1, 10, .inr (.inl (fun _ => 0)))), (h5, .inl (aC 1, 8, .inr (.inl (fun _ => 0)))), (h6, .inl (aC 0, 10, .inl (fun _ => 0))), (h7, .inl (aC 0, 20, .inl (fun _ => 0))), (h8, .inl (aC 0, 20, .inl (fun _ => 0))), (h9, .inl (aC 0, 20, .inl (fun _ => 0))), (h10, .inl (aC 0, 20, .inl (fun _ => 0))), (h11, .inl (aC 0, 8, .inl (fun _ => 0))), (h12, .inl (aC 0, 8, .inl (fun _ => 0))), (h13, .inl (aC 0, 10, .inl (fun _ => 0))), (h14, .inl (aC 0, 10, .inl (fun _ => 0))), (h15, .inl (aC 0, 10, .inl (fun _ => 0))), (h16, .inl (aC 0, 10, .inl (fun _ => 0))), (h17, .inl (aC 0, 8, .inl (fun _ => 0)))] := hD
  refine lv_aload_n hx hb dX11_lays_141 rfl (lv_at hl 0 rfl) ?_
  refine xget F hP 4 rfl rfl inX11 27 (by decide) tb1209 rfl dX11_lays_142 ?_
  refine lv_iconst (v := 4) hx hb dX11_lays_145 (by decide) ?_
  refine goV (wr := [(h19, .inl (aC 0, 2000, .inl (fun _ => 0))), (h21, .inl (aC 0, 2, .inl (upd (fun _ => 0) 1 1000))), (h22, .inl (aC 0, 2, .inl (upd (fun _ => 0) 1 1000))), (h1, .inr (11, [x23, x24, x25, x26, x27, x28, x29, x30, x31, x32, .ref h20, .ref h2, .ref h3, .ref h4, .ref h5, .ref h6, .ref h7, .ref h8, .ref h9, .ref h10, .ref h11, .ref h12, .ref h13, .ref h14, .ref h15, .ref h16, .ref h17, .ref h18, .ref h21, .ref h22, .ref h19, x33, x34, x35, x36, x37, x38, x39, x40, x41, x42, x43, x44, x45, x46, x47, x48, x49, x50, x51, x52, x53, x54, x55, x56, x57, x58, x59, x60, x61, x62, x63, x64, x65, x66, x67, x68, x69, x70, x71, x72, x73, x74, x75])), (h20, .inl (aC 0, 14, .inl (upd (upd (upd (upd (upd (upd (upd (upd (fun _ => 0) 13 5) 0 0) 1 0) 2 0) 3 0) 4 0) 5 0) 6 5))), (h2, .inl (aC 1, 10, .inr (.inl (fun _ => 0)))), (h3, .inl (aC 1, 8, .inr (.inl (fun _ => 0)))), (h4, .inl (aC 1, 10, .inr (.inl (fun _ => 0)))), (h5, .inl (aC 1, 8, .inr (.inl (fun _ => 0)))), (h6, .inl (aC 0, 10, .inl (fun _ => 0))), (h7, .inl (aC 0, 20, .inl (fun _ => 0))), (h8, .inl (aC 0, 20, .inl (fun _ => 0))), (h9, .inl (aC 0, 20, .inl (fun _ => 0))), (h10, .inl (aC 0, 20, .inl (fun _ => 0))), (h11, .inl (aC 0, 8, .inl (fun _ => 0))), (h12, .inl (aC 0, 8, .inl (fun _ => 0))), (h13, .inl (aC 0, 10, .inl (fun _ => 0))), (h14, .inl (aC 0, 10, .inl (fun _ => 0))), (h15, .inl (aC 0, 10, .inl (fun _ => 0))), (h16, .inl (aC 0, 10, .inl (fun _ => 0))), (h17, .inl (aC 0, 8, .inl (fun _ => 0)))]) (runS (n := 2) (As := [.ref h18, .int 4]) (rest := []) F hP hD hS (k_moves8 l g aC aM h18) [0] (by decide) rfl tb1581 tb1579 tb1580 tb17 ⟨by decide, by decide, by decide +kernel⟩ ⟨Nat.le_of_ble_eq_true rfl, Nat.le_of_ble_eq_true rfl⟩ rfl hl.1 rfl (Nat.le_of_ble_eq_true rfl) dX11_lays_146 ⟨Nat.le_of_ble_eq_true rfl, Nat.le_of_ble_eq_true rfl⟩) hP hD hS hA [0] [1, 2, 3, 4, 5, 6, 7, 8, 9, 10, 11, 12, 13, 14, 15, 16, 17, 18, 19, 20, 21] rfl rfl (by decide) (by decide) (fun w54 H locs hw hP hD hS => ?_)
  have hP : va_P g vwCl [(h19, .inl (aC 0, 2000, .inl (fun _ => 0))), (h21, .inl (aC 0, 2, .inl (upd (fun _ => 0) 1 1000))), (h22, .inl (aC 0, 2, .inl (upd (fun _ => 0) 1 1000))), (h1, .inr (11, [x23, x24, x25, x26, x27, x28, x29, x30, x31, x32, .ref h20, .ref h2, .ref h3, .ref h4, .ref h5, .ref h6, .ref h7, .ref h8, .ref h9, .ref h10, .ref h11, .ref h12, .ref h13, .ref h14, .ref h15, .ref h16, .ref h17, .ref h18, .ref h21, .ref h22, .ref h19, x33, x34, x35, x36, x37, x38, x39, x40, x41, x42, x43, x44, x45, x46, x47, x48, x49, x50, x51, x52, x53, x54, x55, x56, x57, x58, x59, x60, x61, x62, x63, x64, x65, x66, x67, x68, x69, x70, x71, x72, x73, x74, x75])), (h20, .inl (aC 0, 14, .inl (upd (upd (upd (upd (upd (upd (upd (upd (fun _ => 0) 13 5) 0 0) 1 0) 2 0) 3 0) 4 0) 5 0) 6 5))), (h2, .inl (aC 1, 10, .inr (.inl (fun _ => 0)))), (h3, .inl (aC 1, 8, .inr (.inl (fun _ => 0)))), (h4, .inl (aC 1, 10, .inr (.inl (fun _ => 0)))), (h5, .inl (aC 1, 8, .inr (.inl (fun _ => 0)))), (h6, .inl (aC 0, 10, .inl (fun _ => 0))), (h7, .inl (aC 0, 20, .inl (fun _ => 0))), (h8, .inl (aC 0, 20, .inl (fun _ => 0))), (h9, .inl (aC 0, 20, .inl (fun _ => 0))), (h10, .inl (aC 0, 20, .inl (fun _ => 0))), (h11, .inl (aC 0, 8, .inl (fun _ => 0))), (h12, .inl (aC 0, 8, .inl (fun _ => 0))), (h13, .inl (aC 0, 10, .inl (fun _ => 0))), (h14, .inl (aC 0, 10, .inl (fun _ => 0))), (h15, .inl (aC 0, 10, .inl (fun _ => 0))), (h16, .inl (aC 0, 10, .inl (fun _ => 0))), (h17, .inl (aC 0, 8, .inl (fun _ => 0))), (h18, .inl (aC 0, 8, .inl (fun _ => 0)))] H := hP
  have hD : va_D A [(h19, .inl (aC 0, 2000, .inl (fun _ => 0))), (h21, .inl (aC 0, 2, .inl (upd (fun _ => 0) 1 1000))), (h22, .inl (aC 0, 2, .inl (upd (fun _ => 0) 1 1000))), (h1, .inr (11, [x23, x24, x25, x26, x27, x28, x29, x30, x31, x32, .ref h20, .ref h2, .ref h3, .ref h4, .ref h5, .ref h6, .ref h7, .ref h8, .ref h9, .ref h10, .ref h11, .ref h12, .ref h13, .ref h14, .ref h15, .ref h16, .ref h17, .ref h18, .ref h21, .ref h22, .ref h19, x33, x34, x35, x36, x37, x38, x39, x40, x41, x42, x43, x44, x45, x46, x47, x48, x49, x50, x51, x52, x53, x54, x55, x56, x57, x58, x59, x60, x61, x62, x63, x64, x65, x66, x67, x68, x69, x70, x71, x72, x73, x74, x75])), (h20, .inl (aC 0, 14, .inl (upd (upd (upd (upd (upd (upd (upd (upd (fun _ => 0) 13 5) 0 0) 1 0) 2 0) 3 0) 4 0) 5 0) 6 5))), (h2, .inl (aC 1, 10, .inr (.inl (fun _ => 0)))), (h3, .inl (aC 1, 8, .inr (.inl (fun _ => 0)))), (h4, .inl (aC 1, 10, .inr (.inl (fun _ => 0)))), (h5, .inl (aC 1, 8, .inr (.inl (fun _ => 0)))), (h6, .inl (aC 0, 10, .inl (fun _ => 0))), (h7, .inl (aC 0, 20, .inl (fun _ => 0))), (h8, .inl (aC 0, 20, .inl (fun _ => 0))), (h9, .inl (aC 0, 20, .inl (fun _ => 0))), (h10, .inl (aC 0, 20, .inl (fun _ => 0))), (h11, .inl (aC 0, 8, .inl (fun _ => 0))), (h12, .inl (aC 0, 8, .inl (fun _ => 0))), (h13, .inl (aC 0, 10, .inl (fun _ => 0))), (h14, .inl (aC 0, 10, .inl (fun _ => 0))), (h15, .inl (aC 0, 10, .inl (fun _ => 0))), (h16, .inl (aC 0, 10, .inl (fun _ => 0))), (h17, .inl (aC 0, 8, .inl (fun _ => 0))), (h18, .inl (aC 0, 8, .inl (fun _ => 0)))] := hD
  refine lv_aload_n hx hb dX11_lays_149 rfl (lv_at hl 0 rfl) ?_
  refine xget F hP 3 rfl rfl inX11 30 (by decide) tb1212 rfl dX11_lays_150 ?_
  refine lv_sipush (v := 1000) hx hb dX11_lays_153 (by decide) ?_
  refine goV (wr := [(h21, .inl (aC 0, 2, .inl (upd (fun _ => 0) 1 1000))), (h22, .inl (aC 0, 2, .inl (upd (fun _ => 0) 1 1000))), (h1, .inr (11, [x23, x24, x25, x26, x27, x28, x29, x30, x31, x32, .ref h20, .ref h2, .ref h3, .ref h4, .ref h5, .ref h6, .ref h7, .ref h8, .ref h9, .ref h10, .ref h11, .ref h12, .ref h13, .ref h14, .ref h15, .ref h16, .ref h17, .ref h18, .ref h21, .ref h22, .ref h19, x33, x34, x35, x36, x37, x38, x39, x40, x41, x42, x43, x44, x45, x46, x47, x48, x49, x50, x51, x52, x53, x54, x55, x56, x57, x58, x59, x60, x61, x62, x63, x64, x65, x66, x67, x68, x69, x70, x71, x72, x73, x74, x75])), (h20, .inl (aC 0, 14, .inl (upd (upd (upd (upd (upd (upd (upd (upd (fun _ => 0) 13 5) 0 0) 1 0) 2 0) 3 0) 4 0) 5 0) 6 5))), (h2, .inl (aC 1, 10, .inr (.inl (fun _ => 0)))), (h3, .inl (aC 1, 8, .inr (.inl (fun _ => 0)))), (h4, .inl (aC 1, 10, .inr (.inl (fun _ => 0)))), (h5, .inl (aC 1, 8, .inr (.inl (fun _ => 0)))), (h6, .inl (aC 0, 10, .inl (fun _ => 0))), (h7, .inl (aC 0, 20, .inl (fun _ => 0))), (h8, .inl (aC 0, 20, .inl (fun _ => 0))), (h9, .inl (aC 0, 20, .inl (fun _ => 0))), (h10, .inl (aC 0, 20, .inl (fun _ => 0))), (h11, .inl (aC 0, 8, .inl (fun _ => 0))), (h12, .inl (aC 0, 8, .inl (fun _ => 0))), (h13, .inl (aC 0, 10, .inl (fun _ => 0))), (h14, .inl (aC 0, 10, .inl (fun _ => 0))), (h15, .inl (aC 0, 10, .inl (fun _ => 0))), (h16, .inl (aC 0, 10, .inl (fun _ => 0))), (h17, .inl (aC 0, 8, .inl (fun _ => 0))), (h18, .inl (aC 0, 8, .inl (fun _ => 0)))]) (runS (n := 2) (As := [.ref h19, .int 1000]) (rest := []) F hP hD hS (k_moves2000 l g aC aM h19) [0] (by decide) rfl tb1581 tb1579 tb1580 tb17 ⟨by decide, by decide, by decide +kernel⟩ ⟨Nat.le_of_ble_eq_true rfl, Nat.le_of_ble_eq_true rfl⟩ rfl hl.1 rfl (Nat.le_of_ble_eq_true rfl) dX11_lays_156 ⟨Nat.le_of_ble_eq_true rfl, Nat.le_of_ble_eq_true rfl⟩) hP hD hS hA [0] [1, 2, 3, 4, 5, 6, 7, 8, 9, 10, 11, 12, 13, 14, 15, 16, 17, 18, 19, 20, 21] rfl rfl (by decide) (by decide) (fun w57 H locs hw hP hD hS => ?_)
  have hP : va_P g vwCl [(h21, .inl (aC 0, 2, .inl (upd (fun _ => 0) 1 1000))), (h22, .inl (aC 0, 2, .inl (upd (fun _ => 0) 1 1000))), (h1, .inr (11, [x23, x24, x25, x26, x27, x28, x29, x30, x31, x32, .ref h20, .ref h2, .ref h3, .ref h4, .ref h5, .ref h6, .ref h7, .ref h8, .ref h9, .ref h10, .ref h11, .ref h12, .ref h13, .ref h14, .ref h15, .ref h16, .ref h17, .ref h18, .ref h21, .ref h22, .ref h19, x33, x34, x35, x36, x37, x38, x39, x40, x41, x42, x43, x44, x45, x46, x47, x48, x49, x50, x51, x52, x53, x54, x55, x56, x57, x58, x59, x60, x61, x62, x63, x64, x65, x66, x67, x68, x69, x70, x71, x72, x73, x74, x75])), (h20, .inl (aC 0, 14, .inl (upd (upd (upd (upd (upd (upd (upd (upd (fun _ => 0) 13 5) 0 0) 1 0) 2 0) 3 0) 4 0) 5 0) 6 5))), (h2, .inl (aC 1, 10, .inr (.inl (fun _ => 0)))), (h3, .inl (aC 1, 8, .inr (.inl (fun _ => 0)))), (h4, .inl (aC 1, 10, .inr (.inl (fun _ => 0)))), (h5, .inl (aC 1, 8, .inr (.inl (fun _ => 0)))), (h6, .inl (aC 0, 10, .inl (fun _ => 0))), (h7, .inl (aC 0, 20, .inl (fun _ => 0))), (h8, .inl (aC 0, 20, .inl (fun _ => 0))), (h9, .inl (aC 0, 20, .inl (fun _ => 0))), (h10, .inl (aC 0, 20, .inl (fun _ => 0))), (h11, .inl (aC 0, 8, .inl (fun _ => 0))), (h12, .inl (aC 0, 8, .inl (fun _ => 0))), (h13, .inl (aC 0, 10, .inl (fun _ => 0))), (h14, .inl (aC 0, 10, .inl (fun _ => 0))), (h15, .inl (aC 0, 10, .inl (fun _ => 0))), (h16, .inl (aC 0, 10, .inl (fun _ => 0))), (h17, .inl (aC 0, 8, .inl (fun _ => 0))), (h18, .inl (aC 0, 8, .inl (fun _ => 0))), (h19, .inl (aC 0, 2000, .inl (fun _ => 0)))] H := hP
  have hD : va_D A [(h21, .inl (aC 0, 2, .inl (upd (fun _ => 0) 1 1000))), (h22, .inl (aC 0, 2, .inl (upd (fun _ => 0) 1 1000))), (h1, .inr (11, [x23, x24, x25, x26, x27, x28, x29, x30, x31, x32, .ref h20, .ref h2, .ref h3, .ref h4, .ref h5, .ref h6, .ref h7, .ref h8, .ref h9, .ref h10, .ref h11, .ref h12, .ref h13, .ref h14, .ref h15, .ref h16, .ref h17, .ref h18, .ref h21, .ref h22, .ref h19, x33, x34, x35, x36, x37, x38, x39, x40, x41, x42, x43, x44, x45, x46, x47, x48, x49, x50, x51, x52, x53, x54, x55, x56, x57, x58, x59, x60, x61, x62, x63, x64, x65, x66, x67, x68, x69, x70, x71, x72, x73, x74, x75])), (h20, .inl (aC 0, 14, .inl (upd (upd (upd (upd (upd (upd (upd (upd (fun _ => 0) 13 5) 0 0) 1 0) 2 0) 3 0) 4 0) 5 0) 6 5))), (h2, .inl (aC 1, 10, .inr (.inl (fun _ => 0)))), (h3, .inl (aC 1, 8, .inr (.inl (fun _ => 0)))), (h4, .inl (aC 1, 10, .inr (.inl (fun _ => 0)))), (h5, .inl (aC 1, 8, .inr (.inl (fun _ => 0)))), (h6, .inl (aC 0, 10, .inl (fun _ => 0))), (h7, .inl (aC 0, 20, .inl (fun _ => 0))), (h8, .inl (aC 0, 20, .inl (fun _ => 0))), (h9, .inl (aC 0, 20, .inl (fun _ => 0))), (h10, .inl (aC 0, 20, .inl (fun _ => 0))), (h11, .inl (aC 0, 8, .inl (fun _ => 0))), (h12, .inl (aC 0, 8, .inl (fun _ => 0))), (h13, .inl (aC 0, 10, .inl (fun _ => 0))), (h14, .inl (aC 0, 10, .inl (fun _ => 0))), (h15, .inl (aC 0, 10, .inl (fun _ => 0))), (h16, .inl (aC 0, 10, .inl (fun _ => 0))), (h17, .inl (aC 0, 8, .inl (fun _ => 0))), (h18, .inl (aC 0, 8, .inl (fun _ => 0))), (h19, .inl (aC 0, 2000, .inl (fun _ => 0)))] := hD
  refine lv_aload_n hx hb dX11_lays_159 rfl (lv_at hl 0 rfl) ?_
  refine xget F hP 2 rfl rfl inX11 28 (by decide) tb1210 rfl dX11_lays_160 ?_
  refine lv_iconst (v := 0) hx hb dX11_lays_163 (by decide) ?_
  refine lv_aload_n hx hb dX11_lays_164 rfl (lv_at hl 0 rfl) ?_
  refine xget F hP 2 rfl rfl inX11 28 (by decide) tb1210 rfl dX11_lays_165 ?_
  refine lv_iconst (v := 1) hx hb dX11_lays_168 (by decide) ?_
  refine xilo (v := 1000) F hP 0 rfl 1 (by decide +kernel) (by decide +kernel) (by decide) (by decide +kernel) dX11_lays_169 ?_
  refine lv_sipush (v := 1000) hx hb dX11_lays_170 (by decide) ?_
  refine lv_isub hx hb dX11_lays_173 ?_
  refine relit (v := 0) (by decide +kernel) ?_
  refine xist (f' := upd (upd (fun _ => 0) 1 1000) 0 0) F hP hD hS 0 rfl 0 (by decide +kernel) (by decide +kernel) (by decide) rfl dX11_lays_174 (fun H locs hP hD hS => ?_)
  have hP : va_P g vwCl [(h21, .inl (aC 0, 2, .inl (upd (upd (fun _ => 0) 1 1000) 0 0))), (h22, .inl (aC 0, 2, .inl (upd (fun _ => 0) 1 1000))), (h1, .inr (11, [x23, x24, x25, x26, x27, x28, x29, x30, x31, x32, .ref h20, .ref h2, .ref h3, .ref h4, .ref h5, .ref h6, .ref h7, .ref h8, .ref h9, .ref h10, .ref h11, .ref h12, .ref h13, .ref h14, .ref h15, .ref h16, .ref h17, .ref h18, .ref h21, .ref h22, .ref h19, x33, x34, x35, x36, x37, x38, x39, x40, x41, x42, x43, x44, x45, x46, x47, x48, x49, x50, x51, x52, x53, x54, x55, x56, x57, x58, x59, x60, x61, x62, x63, x64, x65, x66, x67, x68, x69, x70, x71, x72, x73, x74, x75])), (h20, .inl (aC 0, 14, .inl (upd (upd (upd (upd (upd (upd (upd (upd (fun _ => 0) 13 5) 0 0) 1 0) 2 0) 3 0) 4 0) 5 0) 6 5))), (h2, .inl (aC 1, 10, .inr (.inl (fun _ => 0)))), (h3, .inl (aC 1, 8, .inr (.inl (fun _ => 0)))), (h4, .inl (aC 1, 10, .inr (.inl (fun _ => 0)))), (h5, .inl (aC 1, 8, .inr (.inl (fun _ => 0)))), (h6, .inl (aC 0, 10, .inl (fun _ => 0))), (h7, .inl (aC 0, 20, .inl (fun _ => 0))), (h8, .inl (aC 0, 20, .inl (fun _ => 0))), (h9, .inl (aC 0, 20, .inl (fun _ => 0))), (h10, .inl (aC 0, 20, .inl (fun _ => 0))), (h11, .inl (aC 0, 8, .inl (fun _ => 0))), (h12, .inl (aC 0, 8, .inl (fun _ => 0))), (h13, .inl (aC 0, 10, .inl (fun _ => 0))), (h14, .inl (aC 0, 10, .inl (fun _ => 0))), (h15, .inl (aC 0, 10, .inl (fun _ => 0))), (h16, .inl (aC 0, 10, .inl (fun _ => 0))), (h17, .inl (aC 0, 8, .inl (fun _ => 0))), (h18, .inl (aC 0, 8, .inl (fun _ => 0))), (h19, .inl (aC 0, 2000, .inl (fun _ => 0)))] H := hP
  have hD : va_D A [(h21, .inl (aC 0, 2, .inl (upd (upd (fun _ => 0) 1 1000) 0 0))), (h22, .inl (aC 0, 2, .inl (upd (fun _ => 0) 1 1000))), (h1, .inr (11, [x23, x24, x25, x26, x27, x28, x29, x30, x31, x32, .ref h20, .ref h2, .ref h3, .ref h4, .ref h5, .ref h6, .ref h7, .ref h8, .ref h9, .ref h10, .ref h11, .ref h12, .ref h13, .ref h14, .ref h15, .ref h16, .ref h17, .ref h18, .ref h21, .ref h22, .ref h19, x33, x34, x35, x36, x37, x38, x39, x40, x41, x42, x43, x44, x45, x46, x47, x48, x49, x50, x51, x52, x53, x54, x55, x56, x57, x58, x59, x60, x61, x62, x63, x64, x65, x66, x67, x68, x69, x70, x71, x72, x73, x74, x75])), (h20, .inl (aC 0, 14, .inl (upd (upd (upd (upd (upd (upd (upd (upd (fun _ => 0) 13 5) 0 0) 1 0) 2 0) 3 0) 4 0) 5 0) 6 5))), (h2, .inl (aC 1, 10, .inr (.inl (fun _ => 0)))), (h3, .inl (aC 1, 8, .inr (.inl (fun _ => 0)))), (h4, .inl (aC 1, 10, .inr (.inl (fun _ => 0)))), (h5, .inl (aC 1, 8, .inr (.inl (fun _ => 0)))), (h6, .inl (aC 0, 10, .inl (fun _ => 0))), (h7, .inl (aC 0, 20, .inl (fun _ => 0))), (h8, .inl (aC 0, 20, .inl (fun _ => 0))), (h9, .inl (aC 0, 20, .inl (fun _ => 0))), (h10, .inl (aC 0, 20, .inl (fun _ => 0))), (h11, .inl (aC 0, 8, .inl (fun _ => 0))), (h12, .inl (aC 0, 8, .inl (fun _ => 0))), (h13, .inl (aC 0, 10, .inl (fun _ => 0))), (h14, .inl (aC 0, 10, .inl (fun _ => 0))), (h15, .inl (aC 0, 10, .inl (fun _ => 0))), (h16, .inl (aC 0, 10, .inl (fun _ => 0))), (h17, .inl (aC 0, 8, .inl (fun _ => 0))), (h18, .inl (aC 0, 8, .inl (fun _ => 0))), (h19, .inl (aC 0, 2000, .inl (fun _ => 0)))] := hD
  refine lv_aload_n hx hb dX11_lays_175 rfl (lv_at hl 0 rfl) ?_
  refine xget F hP 2 rfl rfl inX11 29 (by decide) tb1211 rfl dX11_lays_176 ?_
  refine lv_iconst (v := 0) hx hb dX11_lays_179 (by decide) ?_
  refine lv_aload_n hx hb dX11_lays_180 rfl (lv_at hl 0 rfl) ?_
  refine xget F hP 2 rfl rfl inX11 29 (by decide) tb1211 rfl dX11_lays_181 ?_
  refine lv_iconst (v := 1) hx hb dX11_lays_184 (by decide) ?_
  refine xilo (v := 1000) F hP 1 rfl 1 (by decide +kernel) (by decide +kernel) (by decide) (by decide +kernel) dX11_lays_185 ?_
  refine lv_sipush (v := 1000) hx hb dX11_lays_186 (by decide) ?_
  refine lv_isub hx hb dX11_lays_189 ?_
  refine relit (v := 0) (by decide +kernel) ?_
  refine xist (f' := upd (upd (fun _ => 0) 1 1000) 0 0) F hP hD hS 1 rfl 0 (by decide +kernel) (by decide +kernel) (by decide) rfl dX11_lays_190 (fun H locs hP hD hS => ?_)
  have hP : va_P g vwCl [(h21, .inl (aC 0, 2, .inl (upd (upd (fun _ => 0) 1 1000) 0 0))), (h22, .inl (aC 0, 2, .inl (upd (upd (fun _ => 0) 1 1000) 0 0))), (h1, .inr (11, [x23, x24, x25, x26, x27, x28, x29, x30, x31, x32, .ref h20, .ref h2, .ref h3, .ref h4, .ref h5, .ref h6, .ref h7, .ref h8, .ref h9, .ref h10, .ref h11, .ref h12, .ref h13, .ref h14, .ref h15, .ref h16, .ref h17, .ref h18, .ref h21, .ref h22, .ref h19, x33, x34, x35, x36, x37, x38, x39, x40, x41, x42, x43, x44, x45, x46, x47, x48, x49, x50, x51, x52, x53, x54, x55, x56, x57, x58, x59, x60, x61, x62, x63, x64, x65, x66, x67, x68, x69, x70, x71, x72, x73, x74, x75])), (h20, .inl (aC 0, 14, .inl (upd (upd (upd (upd (upd (upd (upd (upd (fun _ => 0) 13 5) 0 0) 1 0) 2 0) 3 0) 4 0) 5 0) 6 5))), (h2, .inl (aC 1, 10, .inr (.inl (fun _ => 0)))), (h3, .inl (aC 1, 8, .inr (.inl (fun _ => 0)))), (h4, .inl (aC 1, 10, .inr (.inl (fun _ => 0)))), (h5, .inl (aC 1, 8, .inr (.inl (fun _ => 0)))), (h6, .inl (aC 0, 10, .inl (fun _ => 0))), (h7, .inl (aC 0, 20, .inl (fun _ => 0))), (h8, .inl (aC 0, 20, .inl (fun _ => 0))), (h9, .inl (aC 0, 20, .inl (fun _ => 0))), (h10, .inl (aC 0, 20, .inl (fun _ => 0))), (h11, .inl (aC 0, 8, .inl (fun _ => 0))), (h12, .inl (aC 0, 8, .inl (fun _ => 0))), (h13, .inl (aC 0, 10, .inl (fun _ => 0))), (h14, .inl (aC 0, 10, .inl (fun _ => 0))), (h15, .inl (aC 0, 10, .inl (fun _ => 0))), (h16, .inl (aC 0, 10, .inl (fun _ => 0))), (h17, .inl (aC 0, 8, .inl (fun _ => 0))), (h18, .inl (aC 0, 8, .inl (fun _ => 0))), (h19, .inl (aC 0, 2000, .inl (fun _ => 0)))] H := hP
  have hD : va_D A [(h21, .inl (aC 0, 2, .inl (upd (upd (fun _ => 0) 1 1000) 0 0))), (h22, .inl (aC 0, 2, .inl (upd (upd (fun _ => 0) 1 1000) 0 0))), (h1, .inr (11, [x23, x24, x25, x26, x27, x28, x29, x30, x31, x32, .ref h20, .ref h2, .ref h3, .ref h4, .ref h5, .ref h6, .ref h7, .ref h8, .ref h9, .ref h10, .ref h11, .ref h12, .ref h13, .ref h14, .ref h15, .ref h16, .ref h17, .ref h18, .ref h21, .ref h22, .ref h19, x33, x34, x35, x36, x37, x38, x39, x40, x41, x42, x43, x44, x45, x46, x47, x48, x49, x50, x51, x52, x53, x54, x55, x56, x57, x58, x59, x60, x61, x62, x63, x64, x65, x66, x67, x68, x69, x70, x71, x72, x73, x74, x75])), (h20, .inl (aC 0, 14, .inl (upd (upd (upd (upd (upd (upd (upd (upd (fun _ => 0) 13 5) 0 0) 1 0) 2 0) 3 0) 4 0) 5 0) 6 5))), (h2, .inl (aC 1, 10, .inr (.inl (fun _ => 0)))), (h3, .inl (aC 1, 8, .inr (.inl (fun _ => 0)))), (h4, .inl (aC 1, 10, .inr (.inl (fun _ => 0)))), (h5, .inl (aC 1, 8, .inr (.inl (fun _ => 0)))), (h6, .inl (aC 0, 10, .inl (fun _ => 0))), (h7, .inl (aC 0, 20, .inl (fun _ => 0))), (h8, .inl (aC 0, 20, .inl (fun _ => 0))), (h9, .inl (aC 0, 20, .inl (fun _ => 0))), (h10, .inl (aC 0, 20, .inl (fun _ => 0))), (h11, .inl (aC 0, 8, .inl (fun _ => 0))), (h12, .inl (aC 0, 8, .inl (fun _ => 0))), (h13, .inl (aC 0, 10, .inl (fun _ => 0))), (h14, .inl (aC 0, 10, .inl (fun _ => 0))), (h15, .inl (aC 0, 10, .inl (fun _ => 0))), (h16, .inl (aC 0, 10, .inl (fun _ => 0))), (h17, .inl (aC 0, 8, .inl (fun _ => 0))), (h18, .inl (aC 0, 8, .inl (fun _ => 0))), (h19, .inl (aC 0, 2000, .inl (fun _ => 0)))] := hD
  have hP9 := hP.sub (ws' := [(h21, .inl (aC 0, 2, .inl (upd (upd (fun _ => 0) 1 1000) 0 0))), (h22, .inl (aC 0, 2, .inl (upd (upd (fun _ => 0) 1 1000) 0 0))), (h1, .inr (11, [x23, x24, x25, x26, x27, x28, x29, x30, x31, x32, .ref h20, .ref h2, .ref h3, .ref h4, .ref h5, .ref h6, .ref h7, .ref h8, .ref h9, .ref h10, .ref h11, .ref h12, .ref h13, .ref h14, .ref h15, .ref h16, .ref h17, .ref h18, .ref h21, .ref h22, .ref h19, x33, x34, x35, x36, x37, x38, x39, x40, x41, x42, x43, x44, x45, x46, x47, x48, x49, x50, x51, x52, x53, x54, x55, x56, x57, x58, x59, x60, x61, x62, x63, x64, x65, x66, x67, x68, x69, x70, x71, x72, x73, x74, x75])), (h20, .inl (aC 0, 14, .inl (upd (upd (upd (upd (upd (upd (upd (upd (fun _ => 0) 13 5) 0 0) 1 0) 2 0) 3 0) 4 0) 5 0) 6 5))), (h2, .inl (aC 1, 10, .inr (.inl (fun _ => 0)))), (h3, .inl (aC 1, 8, .inr (.inl (fun _ => 0)))), (h4, .inl (aC 1, 10, .inr (.inl (fun _ => 0)))), (h5, .inl (aC 1, 8, .inr (.inl (fun _ => 0)))), (h6, .inl (aC 0, 10, .inl (fun _ => 0))), (h7, .inl (aC 0, 20, .inl (fun _ => 0))), (h8, .inl (aC 0, 20, .inl (fun _ => 0))), (h9, .inl (aC 0, 20, .inl (fun _ => 0))), (h10, .inl (aC 0, 20, .inl (fun _ => 0))), (h11, .inl (aC 0, 8, .inl (fun _ => 0))), (h12, .inl (aC 0, 8, .inl (fun _ => 0))), (h13, .inl (aC 0, 10, .inl (fun _ => 0))), (h14, .inl (aC 0, 10, .inl (fun _ => 0))), (h15, .inl (aC 0, 10, .inl (fun _ => 0))), (h16, .inl (aC 0, 10, .inl (fun _ => 0))), (h17, .inl (aC 0, 8, .inl (fun _ => 0))), (h18, .inl (aC 0, 8, .inl (fun _ => 0))), (h19, .inl (aC 0, 2000, .inl (fun _ => 0)))]) [0, 1, 2, 3, 4, 5, 6, 7, 8, 9, 10, 11, 12, 13, 14, 15, 16, 17, 18, 19, 20, 21] rfl
  have hD9 := hD.sub (ws' := [(h21, .inl (aC 0, 2, .inl (upd (upd (fun _ => 0) 1 1000) 0 0))), (h22, .inl (aC 0, 2, .inl (upd (upd (fun _ => 0) 1 1000) 0 0))), (h1, .inr (11, [x23, x24, x25, x26, x27, x28, x29, x30, x31, x32, .ref h20, .ref h2, .ref h3, .ref h4, .ref h5, .ref h6, .ref h7, .ref h8, .ref h9, .ref h10, .ref h11, .ref h12, .ref h13, .ref h14, .ref h15, .ref h16, .ref h17, .ref h18, .ref h21, .ref h22, .ref h19, x33, x34, x35, x36, x37, x38, x39, x40, x41, x42, x43, x44, x45, x46, x47, x48, x49, x50, x51, x52, x53, x54, x55, x56, x57, x58, x59, x60, x61, x62, x63, x64, x65, x66, x67, x68, x69, x70, x71, x72, x73, x74, x75])), (h20, .inl (aC 0, 14, .inl (upd (upd (upd (upd (upd (upd (upd (upd (fun _ => 0) 13 5) 0 0) 1 0) 2 0) 3 0) 4 0) 5 0) 6 5))), (h2, .inl (aC 1, 10, .inr (.inl (fun _ => 0)))), (h3, .inl (aC 1, 8, .inr (.inl (fun _ => 0)))), (h4, .inl (aC 1, 10, .inr (.inl (fun _ => 0)))), (h5, .inl (aC 1, 8, .inr (.inl (fun _ => 0)))), (h6, .inl (aC 0, 10, .inl (fun _ => 0))), (h7, .inl (aC 0, 20, .inl (fun _ => 0))), (h8, .inl (aC 0, 20, .inl (fun _ => 0))), (h9, .inl (aC 0, 20, .inl (fun _ => 0))), (h10, .inl (aC 0, 20, .inl (fun _ => 0))), (h11, .inl (aC 0, 8, .inl (fun _ => 0))), (h12, .inl (aC 0, 8, .inl (fun _ => 0))), (h13, .inl (aC 0, 10, .inl (fun _ => 0))), (h14, .inl (aC 0, 10, .inl (fun _ => 0))), (h15, .inl (aC 0, 10, .inl (fun _ => 0))), (h16, .inl (aC 0, 10, .inl (fun _ => 0))), (h17, .inl (aC 0, 8, .inl (fun _ => 0))), (h18, .inl (aC 0, 8, .inl (fun _ => 0))), (h19, .inl (aC 0, 2000, .inl (fun _ => 0)))]) [0, 1, 2, 3, 4, 5, 6, 7, 8, 9, 10, 11, 12, 13, 14, 15, 16, 17, 18, 19, 20, 21] (by decide) rfl
  exact rV () hx hb hr hlk hS trivial hP9 hD9 (Nat.le_of_ble_eq_true rfl) (Nat.le_of_ble_eq_true rfl) dX11_lays_191

theorem tb1575 : (Jvm.Cond.methodLink "StairGangModel" (410 : Nat) ({ cls := "StairGangModel", name := "lays", desc := "()V" } : Jvm.MethodName)) ∈ gw := lw_m 1575 (by decide +kernel)
theorem tb1577 : (Jvm.Cond.instanceMethod ({ cls := "StairGangModel", name := "lays", desc := "()V" } : Jvm.MethodName)) ∈ gw := lw_m 1577 (by decide +kernel)
theorem tb1578 : (Jvm.Cond.code ({ cls := "StairGangModel", name := "lays", desc := "()V" } : Jvm.MethodName) prog_13_method_45_code (1 : Nat) (Option.none : Option Jvm.ClassFile.FieldType)) ∈ gw := lw_m 1578 (by decide +kernel)
theorem tv63 : Cond.selects "StairGangModel" ⟨"StairGangModel", "lays", "()V"⟩ ⟨"StairGangModel", "lays", "()V"⟩ ∈ gw := lw_v 63 (by decide +kernel)
theorem dX11_allFlights_0 : decode cX11_allFlights 0 = .ok (.iconst 1, 1) := by decide +kernel
theorem dX11_allFlights_1 : decode cX11_allFlights 1 = .ok (.aload_n 0, 1) := by decide +kernel
theorem dX11_allFlights_2 : decode cX11_allFlights 2 = .ok (.getfield 13, 3) := by decide +kernel
theorem dX11_allFlights_5 : decode cX11_allFlights 5 = .ok (.iconst 1, 1) := by decide +kernel
theorem dX11_allFlights_6 : decode cX11_allFlights 6 = .ok (.iaload, 1) := by decide +kernel
theorem dX11_allFlights_7 : decode cX11_allFlights 7 = .ok (.ishl, 1) := by decide +kernel
theorem dX11_allFlights_8 : decode cX11_allFlights 8 = .ok (.iconst 1, 1) := by decide +kernel
theorem dX11_allFlights_9 : decode cX11_allFlights 9 = .ok (.isub, 1) := by decide +kernel
theorem dX11_allFlights_10 : decode cX11_allFlights 10 = .ok (.ireturn, 1) := by decide +kernel
theorem dX11_fresh_0 : decode cX11_fresh 0 = .ok (.iconst 0, 1) := by decide +kernel
theorem dX11_fresh_1 : decode cX11_fresh 1 = .ok (.istore_n 1, 1) := by decide +kernel
theorem dX11_fresh_2 : decode cX11_fresh 2 = .ok (.iload_n 1, 1) := by decide +kernel
theorem dX11_fresh_3 : decode cX11_fresh 3 = .ok (.bipush 13, 2) := by decide +kernel
theorem dX11_fresh_5 : decode cX11_fresh 5 = .ok (.if_icmp .ge 16, 3) := by decide +kernel
theorem dX11_fresh_8 : decode cX11_fresh 8 = .ok (.aload_n 0, 1) := by decide +kernel
theorem dX11_fresh_9 : decode cX11_fresh 9 = .ok (.getfield 141, 3) := by decide +kernel
theorem dX11_fresh_12 : decode cX11_fresh 12 = .ok (.iload_n 1, 1) := by decide +kernel
theorem dX11_fresh_13 : decode cX11_fresh 13 = .ok (.iconst 0, 1) := by decide +kernel
theorem dX11_fresh_14 : decode cX11_fresh 14 = .ok (.iastore, 1) := by decide +kernel
theorem dX11_fresh_15 : decode cX11_fresh 15 = .ok (.iinc 1 1, 3) := by decide +kernel
theorem dX11_fresh_18 : decode cX11_fresh 18 = .ok (.goto (-16), 3) := by decide +kernel
theorem dX11_fresh_21 : decode cX11_fresh 21 = .ok (.aload_n 0, 1) := by decide +kernel
theorem dX11_fresh_22 : decode cX11_fresh 22 = .ok (.getfield 141, 3) := by decide +kernel
theorem dX11_fresh_25 : decode cX11_fresh 25 = .ok (.iconst 0, 1) := by decide +kernel
theorem dX11_fresh_26 : decode cX11_fresh 26 = .ok (.aload_n 0, 1) := by decide +kernel
theorem dX11_fresh_27 : decode cX11_fresh 27 = .ok (.invokevirtual 404, 3) := by decide +kernel
theorem dX11_town_21 : decode cX11_town 21 = .ok (.aload_n 0, 1) := by decide +kernel
theorem dX11_town_22 : decode cX11_town 22 = .ok (.invokevirtual 413, 3) := by decide +kernel
set_option maxHeartbeats 4000000 in
set_option maxRecDepth 100000 in
theorem a_X11_allFlights_1 (l : Launch) (g : va_G) (aC : Nat → ClassId) (aM : Nat → Nat) (h1 h12 : Nat) (x2 x3 x4 x5 x6 x7 x8 x9 x10 x11 x13 x14 x15 x16 x17 x18 x19 x20 x21 x22 x23 x24 x25 x26 x27 x28 x29 x30 x31 x32 x33 x34 x35 x36 x37 x38 x39 x40 x41 x42 x43 x44 x45 x46 x47 x48 x49 x50 x51 x52 x53 x54 x55 x56 x57 x58 x59 x60 x61 x62 x63 x64 x65 x66 x67 x68 x69 x70 x71 x72 x73 x74 x75 : Value) : Ct l g aC aM yX11_allFlights cX11_allFlights 1 (some .int) 1 [.ref h1] [(h1, .inr (11, [x2, x3, x4, x5, x6, x7, x8, x9, x10, x11, .ref h12, x13, x14, x15, x16, x17, x18, x19, x20, x21, x22, x23, x24, x25, x26, x27, x28, x29, x30, x31, x32, x33, x34, x35, x36, x37, x38, x39, x40, x41, x42, x43, x44, x45, x46, x47, x48, x49, x50, x51, x52, x53, x54, x55, x56, x57, x58, x59, x60, x61, x62, x63, x64, x65, x66, x67, x68, x69, x70, x71, x72, x73, x74, x75])), (h12, .inl (aC 0, 14, .inl (upd (upd (upd (upd (upd (upd (upd (upd (fun _ => 0) 13 5) 0 0) 1 0) 2 0) 3 0) 4 0) 5 0) 6 5)))] (QI g (fun (r : Int32) (_ : Unit) => r = 0) (fun (_ : Unit) => [(h1, .inr (11, [x2, x3, x4, x5, x6, x7, x8, x9, x10, x11, .ref h12, x13, x14, x15, x16, x17, x18, x19, x20, x21, x22, x23, x24, x25, x26, x27, x28, x29, x30, x31, x32, x33, x34, x35, x36, x37, x38, x39, x40, x41, x42, x43, x44, x45, x46, x47, x48, x49, x50, x51, x52, x53, x54, x55, x56, x57, x58, x59, x60, x61, x62, x63, x64, x65, x66, x67, x68, x69, x70, x71, x72, x73, x74, x75])), (h12, .inl (aC 0, 14, .inl (upd (upd (upd (upd (upd (upd (upd (upd (fun _ => 0) 13 5) 0 0) 1 0) 2 0) 3 0) 4 0) 5 0) 6 5)))])) 0 0 := by
  refine Ct.mk (by decide) (Nat.le_of_ble_eq_true rfl) ?_
  intro p e s m below meth c A ls hx hb hml hown hts hr hlk hnm hK hA hM hM2 hP hD hS hl
  have hown : s.vm.findClass RX11 = some m.cls := hown
  have F : Fx p s m _ c cX11_allFlights 1 RX11 g aC aM A := ⟨hx, hb, hml, hown, hts, hK, hA, hM, hM2⟩
  have hl : lv_has ls 1 [(0, .ref h1)] := hl
  refine lv_iconst (v := 1) hx hb dX11_allFlights_0 (by decide) ?_
  refine lv_aload_n hx hb dX11_allFlights_1 rfl (lv_at hl 0 rfl) ?_
  refine xget F hP 0 rfl rfl inX11 10 (by decide) tb1192 rfl dX11_allFlights_2 ?_
  refine lv_iconst (v := 1) hx hb dX11_allFlights_5 (by decide) ?_
  refine xilo (v := 0) F hP 1 rfl 1 (by decide +kernel) (by decide +kernel) (by decide) (by decide +kernel) dX11_allFlights_6 ?_
  refine lv_ishl hx hb dX11_allFlights_7 ?_
  refine relit (v := 1) (by decide +kernel) ?_
  refine lv_iconst (v := 1) hx hb dX11_allFlights_8 (by decide) ?_
  refine lv_isub hx hb dX11_allFlights_9 ?_
  refine relit (v := 0) (by decide +kernel) ?_
  have hP9 := hP.sub (ws' := [(h1, .inr (11, [x2, x3, x4, x5, x6, x7, x8, x9, x10, x11, .ref h12, x13, x14, x15, x16, x17, x18, x19, x20, x21, x22, x23, x24, x25, x26, x27, x28, x29, x30, x31, x32, x33, x34, x35, x36, x37, x38, x39, x40, x41, x42, x43, x44, x45, x46, x47, x48, x49, x50, x51, x52, x53, x54, x55, x56, x57, x58, x59, x60, x61, x62, x63, x64, x65, x66, x67, x68, x69, x70, x71, x72, x73, x74, x75])), (h12, .inl (aC 0, 14, .inl (upd (upd (upd (upd (upd (upd (upd (upd (fun _ => 0) 13 5) 0 0) 1 0) 2 0) 3 0) 4 0) 5 0) 6 5)))]) [0, 1] rfl
  have hD9 := hD.sub (ws' := [(h1, .inr (11, [x2, x3, x4, x5, x6, x7, x8, x9, x10, x11, .ref h12, x13, x14, x15, x16, x17, x18, x19, x20, x21, x22, x23, x24, x25, x26, x27, x28, x29, x30, x31, x32, x33, x34, x35, x36, x37, x38, x39, x40, x41, x42, x43, x44, x45, x46, x47, x48, x49, x50, x51, x52, x53, x54, x55, x56, x57, x58, x59, x60, x61, x62, x63, x64, x65, x66, x67, x68, x69, x70, x71, x72, x73, x74, x75])), (h12, .inl (aC 0, 14, .inl (upd (upd (upd (upd (upd (upd (upd (upd (fun _ => 0) 13 5) 0 0) 1 0) 2 0) 3 0) 4 0) 5 0) 6 5)))]) [0, 1] (by decide) rfl
  exact rI () hx hb hr hlk rfl hS rfl hP9 hD9 (Nat.le_of_ble_eq_true rfl) (Nat.le_of_ble_eq_true rfl) dX11_allFlights_10

theorem tb1589 : (Jvm.Cond.methodLink "StairGangModel" (404 : Nat) ({ cls := "StairGangModel", name := "allFlights", desc := "()I" } : Jvm.MethodName)) ∈ gw := lw_m 1589 (by decide +kernel)
theorem tb1591 : (Jvm.Cond.instanceMethod ({ cls := "StairGangModel", name := "allFlights", desc := "()I" } : Jvm.MethodName)) ∈ gw := lw_m 1591 (by decide +kernel)
theorem tb1592 : (Jvm.Cond.code ({ cls := "StairGangModel", name := "allFlights", desc := "()I" } : Jvm.MethodName) prog_13_method_51_code (1 : Nat) (Option.some Jvm.ClassFile.FieldType.int)) ∈ gw := lw_m 1592 (by decide +kernel)
theorem tv65 : Cond.selects "StairGangModel" ⟨"StairGangModel", "allFlights", "()I"⟩ ⟨"StairGangModel", "allFlights", "()I"⟩ ∈ gw := lw_v 65 (by decide +kernel)
theorem dX11_fresh_30 : decode cX11_fresh 30 = .ok (.iastore, 1) := by decide +kernel
theorem dX11_fresh_31 : decode cX11_fresh 31 = .ok (.iconst 0, 1) := by decide +kernel
theorem dX11_fresh_32 : decode cX11_fresh 32 = .ok (.istore_n 1, 1) := by decide +kernel
theorem dX11_fresh_33 : decode cX11_fresh 33 = .ok (.iload_n 1, 1) := by decide +kernel
theorem dX11_fresh_34 : decode cX11_fresh 34 = .ok (.aload_n 0, 1) := by decide +kernel
theorem dX11_fresh_35 : decode cX11_fresh 35 = .ok (.getfield 13, 3) := by decide +kernel
theorem dX11_fresh_38 : decode cX11_fresh 38 = .ok (.iconst 3, 1) := by decide +kernel
theorem dX11_fresh_39 : decode cX11_fresh 39 = .ok (.iaload, 1) := by decide +kernel
theorem dX11_fresh_40 : decode cX11_fresh 40 = .ok (.if_icmp .ge 23, 3) := by decide +kernel
theorem dX11_fresh_63 : decode cX11_fresh 63 = .ok (.iconst 0, 1) := by decide +kernel
theorem dX11_fresh_64 : decode cX11_fresh 64 = .ok (.istore_n 1, 1) := by decide +kernel
theorem dX11_fresh_65 : decode cX11_fresh 65 = .ok (.iload_n 1, 1) := by decide +kernel
theorem dX11_fresh_66 : decode cX11_fresh 66 = .ok (.aload_n 0, 1) := by decide +kernel
theorem dX11_fresh_67 : decode cX11_fresh 67 = .ok (.getfield 13, 3) := by decide +kernel
theorem dX11_fresh_70 : decode cX11_fresh 70 = .ok (.iconst 2, 1) := by decide +kernel
theorem dX11_fresh_71 : decode cX11_fresh 71 = .ok (.iaload, 1) := by decide +kernel
theorem dX11_fresh_72 : decode cX11_fresh 72 = .ok (.if_icmp .ge 24, 3) := by decide +kernel
theorem dX11_fresh_96 : decode cX11_fresh 96 = .ok (.aload_n 0, 1) := by decide +kernel
theorem dX11_fresh_97 : decode cX11_fresh 97 = .ok (.getfield 141, 3) := by decide +kernel
theorem dX11_fresh_100 : decode cX11_fresh 100 = .ok (.bipush 10, 2) := by decide +kernel
theorem dX11_fresh_102 : decode cX11_fresh 102 = .ok (.aload_n 0, 1) := by decide +kernel
theorem dX11_fresh_103 : decode cX11_fresh 103 = .ok (.getfield 13, 3) := by decide +kernel
theorem dX11_fresh_106 : decode cX11_fresh 106 = .ok (.iconst 5, 1) := by decide +kernel
theorem dX11_fresh_107 : decode cX11_fresh 107 = .ok (.iaload, 1) := by decide +kernel
theorem dX11_fresh_108 : decode cX11_fresh 108 = .ok (.iastore, 1) := by decide +kernel
theorem dX11_fresh_109 : decode cX11_fresh 109 = .ok (.return_, 1) := by decide +kernel
set_option maxHeartbeats 4000000 in
set_option maxRecDepth 100000 in
theorem a_X11_fresh_1 (l : Launch) (g : va_G) (aC : Nat → ClassId) (aM : Nat → Nat) (h1 h2 h13 : Nat) (x3 x4 x5 x6 x7 x8 x9 x10 x11 x12 x14 x15 x16 x17 x18 x19 x20 x21 x22 x23 x24 x25 x26 x27 x28 x29 x30 x31 x32 x33 x34 x35 x36 x37 x38 x39 x40 x41 x42 x43 x44 x45 x46 x47 x48 x49 x50 x51 x52 x53 x54 x55 x56 x57 x58 x59 x60 x61 x62 x63 x64 x65 x66 x67 x68 x69 x70 x71 x72 x73 x74 x75 : Value) : Ct l g aC aM yX11_fresh cX11_fresh 2 none 2 [.ref h1] [(h2, .inl (aC 0, 13, .inl (fun _ => 0))), (h1, .inr (11, [x3, x4, x5, x6, x7, x8, x9, x10, x11, x12, .ref h13, x14, x15, x16, x17, x18, x19, x20, x21, x22, x23, x24, x25, x26, x27, x28, x29, x30, x31, x32, x33, x34, x35, x36, x37, x38, x39, x40, x41, x42, x43, x44, x45, x46, x47, x48, x49, x50, x51, x52, x53, x54, x55, x56, x57, .ref h2, x58, x59, x60, x61, x62, x63, x64, x65, x66, x67, x68, x69, x70, x71, x72, x73, x74, x75])), (h13, .inl (aC 0, 14, .inl (upd (upd (upd (upd (upd (upd (upd (upd (fun _ => 0) 13 5) 0 0) 1 0) 2 0) 3 0) 4 0) 5 0) 6 5)))] (QV g (fun (_ : Unit) => True) (fun (_ : Unit) => [(h2, .inl (aC 0, 13, .inl (fun _ => 0))), (h1, .inr (11, [x3, x4, x5, x6, x7, x8, x9, x10, x11, x12, .ref h13, x14, x15, x16, x17, x18, x19, x20, x21, x22, x23, x24, x25, x26, x27, x28, x29, x30, x31, x32, x33, x34, x35, x36, x37, x38, x39, x40, x41, x42, x43, x44, x45, x46, x47, x48, x49, x50, x51, x52, x53, x54, x55, x56, x57, .ref h2, x58, x59, x60, x61, x62, x63, x64, x65, x66, x67, x68, x69, x70, x71, x72, x73, x74, x75])), (h13, .inl (aC 0, 14, .inl (upd (upd (upd (upd (upd (upd (upd (upd (fun _ => 0) 13 5) 0 0) 1 0) 2 0) 3 0) 4 0) 5 0) 6 5)))])) 0 0 := by
  refine Ct.mk (by decide) (Nat.le_of_ble_eq_true rfl) ?_
  intro p e s m below meth c A ls hx hb hml hown hts hr hlk hnm hK hA hM hM2 hP hD hS hl
  have hown : s.vm.findClass RX11 = some m.cls := hown
  have F : Fx p s m _ c cX11_fresh 2 RX11 g aC aM A := ⟨hx, hb, hml, hown, hts, hK, hA, hM, hM2⟩
  have hl : lv_has ls 2 [(0, .ref h1)] := hl
  refine lv_iconst (v := 0) hx hb dX11_fresh_0 (by decide) ?_
  refine lv_istore_n (lv' := [(1, .int 0), (0, .ref h1)]) hx hb dX11_fresh_1 rfl hl (by decide) rfl (fun ls hl => ?_)
  refine lv_iload_n hx hb dX11_fresh_2 rfl (lv_at hl 0 rfl) ?_
  refine lv_bipush (v := 13) hx hb dX11_fresh_3 (by decide) ?_
  refine lv_icmp_ge (tgt := 21) hx hb dX11_fresh_5 (by decide) (fun c_ => absurd c_ (by decide +kernel)) (fun _ => ?_)
  refine lv_aload_n hx hb dX11_fresh_8 rfl (lv_at hl 1 rfl) ?_
  refine xget F hP 1 rfl rfl inX11 55 (by decide) tb1237 rfl dX11_fresh_9 ?_
  refine lv_iload_n hx hb dX11_fresh_12 rfl (lv_at hl 0 rfl) ?_
  refine lv_iconst (v := 0) hx hb dX11_fresh_13 (by decide) ?_
  refine xist (f' := fun _ => 0) F hP hD hS 0 rfl 0 (by decide +kernel) (by decide +kernel) (by decide) (xup0 _) dX11_fresh_14 (fun H locs hP hD hS => ?_)
  have hP : va_P g vwCl [(h2, .inl (aC 0, 13, .inl (fun _ => 0))), (h1, .inr (11, [x3, x4, x5, x6, x7, x8, x9, x10, x11, x12, .ref h13, x14, x15, x16, x17, x18, x19, x20, x21, x22, x23, x24, x25, x26, x27, x28, x29, x30, x31, x32, x33, x34, x35, x36, x37, x38, x39, x40, x41, x42, x43, x44, x45, x46, x47, x48, x49, x50, x51, x52, x53, x54, x55, x56, x57, .ref h2, x58, x59, x60, x61, x62, x63, x64, x65, x66, x67, x68, x69, x70, x71, x72, x73, x74, x75])), (h13, .inl (aC 0, 14, .inl (upd (upd (upd (upd (upd (upd (upd (upd (fun _ => 0) 13 5) 0 0) 1 0) 2 0) 3 0) 4 0) 5 0) 6 5)))] H := hP
  have hD : va_D A [(h2, .inl (aC 0, 13, .inl (fun _ => 0))), (h1, .inr (11, [x3, x4, x5, x6, x7, x8, x9, x10, x11, x12, .ref h13, x14, x15, x16, x17, x18, x19, x20, x21, x22, x23, x24, x25, x26, x27, x28, x29, x30, x31, x32, x33, x34, x35, x36, x37, x38, x39, x40, x41, x42, x43, x44, x45, x46, x47, x48, x49, x50, x51, x52, x53, x54, x55, x56, x57, .ref h2, x58, x59, x60, x61, x62, x63, x64, x65, x66, x67, x68, x69, x70, x71, x72, x73, x74, x75])), (h13, .inl (aC 0, 14, .inl (upd (upd (upd (upd (upd (upd (upd (upd (fun _ => 0) 13 5) 0 0) 1 0) 2 0) 3 0) 4 0) 5 0) 6 5)))] := hD
  refine lv_iinc (v := 1) (lv' := [(1, .int 1), (0, .ref h1)]) hx hb dX11_fresh_15 hl (k := 0) rfl (by decide +kernel) (by decide) rfl (fun ls hl => ?_)
  refine lv_goto (tgt := 2) hx hb dX11_fresh_18 (by decide) ?_
  refine lv_iload_n hx hb dX11_fresh_2 rfl (lv_at hl 0 rfl) ?_
  refine lv_bipush (v := 13) hx hb dX11_fresh_3 (by decide) ?_
  refine lv_icmp_ge (tgt := 21) hx hb dX11_fresh_5 (by decide) (fun c_ => absurd c_ (by decide +kernel)) (fun _ => ?_)
  refine lv_aload_n hx hb dX11_fresh_8 rfl (lv_at hl 1 rfl) ?_
  refine xget F hP 1 rfl rfl inX11 55 (by decide) tb1237 rfl dX11_fresh_9 ?_
  refine lv_iload_n hx hb dX11_fresh_12 rfl (lv_at hl 0 rfl) ?_
  refine lv_iconst (v := 0) hx hb dX11_fresh_13 (by decide) ?_
  refine xist (f' := fun _ => 0) F hP hD hS 0 rfl 1 (by decide +kernel) (by decide +kernel) (by decide) (xup0 _) dX11_fresh_14 (fun H locs hP hD hS => ?_)
  have hP : va_P g vwCl [(h2, .inl (aC 0, 13, .inl (fun _ => 0))), (h1, .inr (11, [x3, x4, x5, x6, x7, x8, x9, x10, x11, x12, .ref h13, x14, x15, x16, x17, x18, x19, x20, x21, x22, x23, x24, x25, x26, x27, x28, x29, x30, x31, x32, x33, x34, x35, x36, x37, x38, x39, x40, x41, x42, x43, x44, x45, x46, x47, x48, x49, x50, x51, x52, x53, x54, x55, x56, x57, .ref h2, x58, x59, x60, x61, x62, x63, x64, x65, x66, x67, x68, x69, x70, x71, x72, x73, x74, x75])), (h13, .inl (aC 0, 14, .inl (upd (upd (upd (upd (upd (upd (upd (upd (fun _ => 0) 13 5) 0 0) 1 0) 2 0) 3 0) 4 0) 5 0) 6 5)))] H := hP
  have hD : va_D A [(h2, .inl (aC 0, 13, .inl (fun _ => 0))), (h1, .inr (11, [x3, x4, x5, x6, x7, x8, x9, x10, x11, x12, .ref h13, x14, x15, x16, x17, x18, x19, x20, x21, x22, x23, x24, x25, x26, x27, x28, x29, x30, x31, x32, x33, x34, x35, x36, x37, x38, x39, x40, x41, x42, x43, x44, x45, x46, x47, x48, x49, x50, x51, x52, x53, x54, x55, x56, x57, .ref h2, x58, x59, x60, x61, x62, x63, x64, x65, x66, x67, x68, x69, x70, x71, x72, x73, x74, x75])), (h13, .inl (aC 0, 14, .inl (upd (upd (upd (upd (upd (upd (upd (upd (fun _ => 0) 13 5) 0 0) 1 0) 2 0) 3 0) 4 0) 5 0) 6 5)))] := hD
  refine lv_iinc (v := 2) (lv' := [(1, .int 2), (0, .ref h1)]) hx hb dX11_fresh_15 hl (k := 0) rfl (by decide +kernel) (by decide) rfl (fun ls hl => ?_)
  refine lv_goto (tgt := 2) hx hb dX11_fresh_18 (by decide) ?_
  refine lv_iload_n hx hb dX11_fresh_2 rfl (lv_at hl 0 rfl) ?_
  refine lv_bipush (v := 13) hx hb dX11_fresh_3 (by decide) ?_
  refine lv_icmp_ge (tgt := 21) hx hb dX11_fresh_5 (by decide) (fun c_ => absurd c_ (by decide +kernel)) (fun _ => ?_)
  refine lv_aload_n hx hb dX11_fresh_8 rfl (lv_at hl 1 rfl) ?_
  refine xget F hP 1 rfl rfl inX11 55 (by decide) tb1237 rfl dX11_fresh_9 ?_
  refine lv_iload_n hx hb dX11_fresh_12 rfl (lv_at hl 0 rfl) ?_
  refine lv_iconst (v := 0) hx hb dX11_fresh_13 (by decide) ?_
  refine xist (f' := fun _ => 0) F hP hD hS 0 rfl 2 (by decide +kernel) (by decide +kernel) (by decide) (xup0 _) dX11_fresh_14 (fun H locs hP hD hS => ?_)
  have hP : va_P g vwCl [(h2, .inl (aC 0, 13, .inl (fun _ => 0))), (h1, .inr (11, [x3, x4, x5, x6, x7, x8, x9, x10, x11, x12, .ref h13, x14, x15, x16, x17, x18, x19, x20, x21, x22, x23, x24, x25, x26, x27, x28, x29, x30, x31, x32, x33, x34, x35, x36, x37, x38, x39, x40, x41, x42, x43, x44, x45, x46, x47, x48, x49, x50, x51, x52, x53, x54, x55, x56, x57, .ref h2, x58, x59, x60, x61, x62, x63, x64, x65, x66, x67, x68, x69, x70, x71, x72, x73, x74, x75])), (h13, .inl (aC 0, 14, .inl (upd (upd (upd (upd (upd (upd (upd (upd (fun _ => 0) 13 5) 0 0) 1 0) 2 0) 3 0) 4 0) 5 0) 6 5)))] H := hP
  have hD : va_D A [(h2, .inl (aC 0, 13, .inl (fun _ => 0))), (h1, .inr (11, [x3, x4, x5, x6, x7, x8, x9, x10, x11, x12, .ref h13, x14, x15, x16, x17, x18, x19, x20, x21, x22, x23, x24, x25, x26, x27, x28, x29, x30, x31, x32, x33, x34, x35, x36, x37, x38, x39, x40, x41, x42, x43, x44, x45, x46, x47, x48, x49, x50, x51, x52, x53, x54, x55, x56, x57, .ref h2, x58, x59, x60, x61, x62, x63, x64, x65, x66, x67, x68, x69, x70, x71, x72, x73, x74, x75])), (h13, .inl (aC 0, 14, .inl (upd (upd (upd (upd (upd (upd (upd (upd (fun _ => 0) 13 5) 0 0) 1 0) 2 0) 3 0) 4 0) 5 0) 6 5)))] := hD
  refine lv_iinc (v := 3) (lv' := [(1, .int 3), (0, .ref h1)]) hx hb dX11_fresh_15 hl (k := 0) rfl (by decide +kernel) (by decide) rfl (fun ls hl => ?_)
  refine lv_goto (tgt := 2) hx hb dX11_fresh_18 (by decide) ?_
  refine lv_iload_n hx hb dX11_fresh_2 rfl (lv_at hl 0 rfl) ?_
  refine lv_bipush (v := 13) hx hb dX11_fresh_3 (by decide) ?_
  refine lv_icmp_ge (tgt := 21) hx hb dX11_fresh_5 (by decide) (fun c_ => absurd c_ (by decide +kernel)) (fun _ => ?_)
  refine lv_aload_n hx hb dX11_fresh_8 rfl (lv_at hl 1 rfl) ?_
  refine xget F hP 1 rfl rfl inX11 55 (by decide) tb1237 rfl dX11_fresh_9 ?_
  refine lv_iload_n hx hb dX11_fresh_12 rfl (lv_at hl 0 rfl) ?_
  refine lv_iconst (v := 0) hx hb dX11_fresh_13 (by decide) ?_
  refine xist (f' := fun _ => 0) F hP hD hS 0 rfl 3 (by decide +kernel) (by decide +kernel) (by decide) (xup0 _) dX11_fresh_14 (fun H locs hP hD hS => ?_)
  have hP : va_P g vwCl [(h2, .inl (aC 0, 13, .inl (fun _ => 0))), (h1, .inr (11, [x3, x4, x5, x6, x7, x8, x9, x10, x11, x12, .ref h13, x14, x15, x16, x17, x18, x19, x20, x21, x22, x23, x24, x25, x26, x27, x28, x29, x30, x31, x32, x33, x34, x35, x36, x37, x38, x39, x40, x41, x42, x43, x44, x45, x46, x47, x48, x49, x50, x51, x52, x53, x54, x55, x56, x57, .ref h2, x58, x59, x60, x61, x62, x63, x64, x65, x66, x67, x68, x69, x70, x71, x72, x73, x74, x75])), (h13, .inl (aC 0, 14, .inl (upd (upd (upd (upd (upd (upd (upd (upd (fun _ => 0) 13 5) 0 0) 1 0) 2 0) 3 0) 4 0) 5 0) 6 5)))] H := hP
  have hD : va_D A [(h2, .inl (aC 0, 13, .inl (fun _ => 0))), (h1, .inr (11, [x3, x4, x5, x6, x7, x8, x9, x10, x11, x12, .ref h13, x14, x15, x16, x17, x18, x19, x20, x21, x22, x23, x24, x25, x26, x27, x28, x29, x30, x31, x32, x33, x34, x35, x36, x37, x38, x39, x40, x41, x42, x43, x44, x45, x46, x47, x48, x49, x50, x51, x52, x53, x54, x55, x56, x57, .ref h2, x58, x59, x60, x61, x62, x63, x64, x65, x66, x67, x68, x69, x70, x71, x72, x73, x74, x75])), (h13, .inl (aC 0, 14, .inl (upd (upd (upd (upd (upd (upd (upd (upd (fun _ => 0) 13 5) 0 0) 1 0) 2 0) 3 0) 4 0) 5 0) 6 5)))] := hD
  refine lv_iinc (v := 4) (lv' := [(1, .int 4), (0, .ref h1)]) hx hb dX11_fresh_15 hl (k := 0) rfl (by decide +kernel) (by decide) rfl (fun ls hl => ?_)
  refine lv_goto (tgt := 2) hx hb dX11_fresh_18 (by decide) ?_
  refine lv_iload_n hx hb dX11_fresh_2 rfl (lv_at hl 0 rfl) ?_
  refine lv_bipush (v := 13) hx hb dX11_fresh_3 (by decide) ?_
  refine lv_icmp_ge (tgt := 21) hx hb dX11_fresh_5 (by decide) (fun c_ => absurd c_ (by decide +kernel)) (fun _ => ?_)
  refine lv_aload_n hx hb dX11_fresh_8 rfl (lv_at hl 1 rfl) ?_
  refine xget F hP 1 rfl rfl inX11 55 (by decide) tb1237 rfl dX11_fresh_9 ?_
  refine lv_iload_n hx hb dX11_fresh_12 rfl (lv_at hl 0 rfl) ?_
  refine lv_iconst (v := 0) hx hb dX11_fresh_13 (by decide) ?_
  refine xist (f' := fun _ => 0) F hP hD hS 0 rfl 4 (by decide +kernel) (by decide +kernel) (by decide) (xup0 _) dX11_fresh_14 (fun H locs hP hD hS => ?_)
  have hP : va_P g vwCl [(h2, .inl (aC 0, 13, .inl (fun _ => 0))), (h1, .inr (11, [x3, x4, x5, x6, x7, x8, x9, x10, x11, x12, .ref h13, x14, x15, x16, x17, x18, x19, x20, x21, x22, x23, x24, x25, x26, x27, x28, x29, x30, x31, x32, x33, x34, x35, x36, x37, x38, x39, x40, x41, x42, x43, x44, x45, x46, x47, x48, x49, x50, x51, x52, x53, x54, x55, x56, x57, .ref h2, x58, x59, x60, x61, x62, x63, x64, x65, x66, x67, x68, x69, x70, x71, x72, x73, x74, x75])), (h13, .inl (aC 0, 14, .inl (upd (upd (upd (upd (upd (upd (upd (upd (fun _ => 0) 13 5) 0 0) 1 0) 2 0) 3 0) 4 0) 5 0) 6 5)))] H := hP
  have hD : va_D A [(h2, .inl (aC 0, 13, .inl (fun _ => 0))), (h1, .inr (11, [x3, x4, x5, x6, x7, x8, x9, x10, x11, x12, .ref h13, x14, x15, x16, x17, x18, x19, x20, x21, x22, x23, x24, x25, x26, x27, x28, x29, x30, x31, x32, x33, x34, x35, x36, x37, x38, x39, x40, x41, x42, x43, x44, x45, x46, x47, x48, x49, x50, x51, x52, x53, x54, x55, x56, x57, .ref h2, x58, x59, x60, x61, x62, x63, x64, x65, x66, x67, x68, x69, x70, x71, x72, x73, x74, x75])), (h13, .inl (aC 0, 14, .inl (upd (upd (upd (upd (upd (upd (upd (upd (fun _ => 0) 13 5) 0 0) 1 0) 2 0) 3 0) 4 0) 5 0) 6 5)))] := hD
  refine lv_iinc (v := 5) (lv' := [(1, .int 5), (0, .ref h1)]) hx hb dX11_fresh_15 hl (k := 0) rfl (by decide +kernel) (by decide) rfl (fun ls hl => ?_)
  refine lv_goto (tgt := 2) hx hb dX11_fresh_18 (by decide) ?_
  refine lv_iload_n hx hb dX11_fresh_2 rfl (lv_at hl 0 rfl) ?_
  refine lv_bipush (v := 13) hx hb dX11_fresh_3 (by decide) ?_
  refine lv_icmp_ge (tgt := 21) hx hb dX11_fresh_5 (by decide) (fun c_ => absurd c_ (by decide +kernel)) (fun _ => ?_)
  refine lv_aload_n hx hb dX11_fresh_8 rfl (lv_at hl 1 rfl) ?_
  refine xget F hP 1 rfl rfl inX11 55 (by decide) tb1237 rfl dX11_fresh_9 ?_
  refine lv_iload_n hx hb dX11_fresh_12 rfl (lv_at hl 0 rfl) ?_
  refine lv_iconst (v := 0) hx hb dX11_fresh_13 (by decide) ?_
  refine xist (f' := fun _ => 0) F hP hD hS 0 rfl 5 (by decide +kernel) (by decide +kernel) (by decide) (xup0 _) dX11_fresh_14 (fun H locs hP hD hS => ?_)
  have hP : va_P g vwCl [(h2, .inl (aC 0, 13, .inl (fun _ => 0))), (h1, .inr (11, [x3, x4, x5, x6, x7, x8, x9, x10, x11, x12, .ref h13, x14, x15, x16, x17, x18, x19, x20, x21, x22, x23, x24, x25, x26, x27, x28, x29, x30, x31, x32, x33, x34, x35, x36, x37, x38, x39, x40, x41, x42, x43, x44, x45, x46, x47, x48, x49, x50, x51, x52, x53, x54, x55, x56, x57, .ref h2, x58, x59, x60, x61, x62, x63, x64, x65, x66, x67, x68, x69, x70, x71, x72, x73, x74, x75])), (h13, .inl (aC 0, 14, .inl (upd (upd (upd (upd (upd (upd (upd (upd (fun _ => 0) 13 5) 0 0) 1 0) 2 0) 3 0) 4 0) 5 0) 6 5)))] H := hP
  have hD : va_D A [(h2, .inl (aC 0, 13, .inl (fun _ => 0))), (h1, .inr (11, [x3, x4, x5, x6, x7, x8, x9, x10, x11, x12, .ref h13, x14, x15, x16, x17, x18, x19, x20, x21, x22, x23, x24, x25, x26, x27, x28, x29, x30, x31, x32, x33, x34, x35, x36, x37, x38, x39, x40, x41, x42, x43, x44, x45, x46, x47, x48, x49, x50, x51, x52, x53, x54, x55, x56, x57, .ref h2, x58, x59, x60, x61, x62, x63, x64, x65, x66, x67, x68, x69, x70, x71, x72, x73, x74, x75])), (h13, .inl (aC 0, 14, .inl (upd (upd (upd (upd (upd (upd (upd (upd (fun _ => 0) 13 5) 0 0) 1 0) 2 0) 3 0) 4 0) 5 0) 6 5)))] := hD
  refine lv_iinc (v := 6) (lv' := [(1, .int 6), (0, .ref h1)]) hx hb dX11_fresh_15 hl (k := 0) rfl (by decide +kernel) (by decide) rfl (fun ls hl => ?_)
  refine lv_goto (tgt := 2) hx hb dX11_fresh_18 (by decide) ?_
  refine lv_iload_n hx hb dX11_fresh_2 rfl (lv_at hl 0 rfl) ?_
  refine lv_bipush (v := 13) hx hb dX11_fresh_3 (by decide) ?_
  refine lv_icmp_ge (tgt := 21) hx hb dX11_fresh_5 (by decide) (fun c_ => absurd c_ (by decide +kernel)) (fun _ => ?_)
  refine lv_aload_n hx hb dX11_fresh_8 rfl (lv_at hl 1 rfl) ?_
  refine xget F hP 1 rfl rfl inX11 55 (by decide) tb1237 rfl dX11_fresh_9 ?_
  refine lv_iload_n hx hb dX11_fresh_12 rfl (lv_at hl 0 rfl) ?_
  refine lv_iconst (v := 0) hx hb dX11_fresh_13 (by decide) ?_
  refine xist (f' := fun _ => 0) F hP hD hS 0 rfl 6 (by decide +kernel) (by decide +kernel) (by decide) (xup0 _) dX11_fresh_14 (fun H locs hP hD hS => ?_)
  have hP : va_P g vwCl [(h2, .inl (aC 0, 13, .inl (fun _ => 0))), (h1, .inr (11, [x3, x4, x5, x6, x7, x8, x9, x10, x11, x12, .ref h13, x14, x15, x16, x17, x18, x19, x20, x21, x22, x23, x24, x25, x26, x27, x28, x29, x30, x31, x32, x33, x34, x35, x36, x37, x38, x39, x40, x41, x42, x43, x44, x45, x46, x47, x48, x49, x50, x51, x52, x53, x54, x55, x56, x57, .ref h2, x58, x59, x60, x61, x62, x63, x64, x65, x66, x67, x68, x69, x70, x71, x72, x73, x74, x75])), (h13, .inl (aC 0, 14, .inl (upd (upd (upd (upd (upd (upd (upd (upd (fun _ => 0) 13 5) 0 0) 1 0) 2 0) 3 0) 4 0) 5 0) 6 5)))] H := hP
  have hD : va_D A [(h2, .inl (aC 0, 13, .inl (fun _ => 0))), (h1, .inr (11, [x3, x4, x5, x6, x7, x8, x9, x10, x11, x12, .ref h13, x14, x15, x16, x17, x18, x19, x20, x21, x22, x23, x24, x25, x26, x27, x28, x29, x30, x31, x32, x33, x34, x35, x36, x37, x38, x39, x40, x41, x42, x43, x44, x45, x46, x47, x48, x49, x50, x51, x52, x53, x54, x55, x56, x57, .ref h2, x58, x59, x60, x61, x62, x63, x64, x65, x66, x67, x68, x69, x70, x71, x72, x73, x74, x75])), (h13, .inl (aC 0, 14, .inl (upd (upd (upd (upd (upd (upd (upd (upd (fun _ => 0) 13 5) 0 0) 1 0) 2 0) 3 0) 4 0) 5 0) 6 5)))] := hD
  refine lv_iinc (v := 7) (lv' := [(1, .int 7), (0, .ref h1)]) hx hb dX11_fresh_15 hl (k := 0) rfl (by decide +kernel) (by decide) rfl (fun ls hl => ?_)
  refine lv_goto (tgt := 2) hx hb dX11_fresh_18 (by decide) ?_
  refine lv_iload_n hx hb dX11_fresh_2 rfl (lv_at hl 0 rfl) ?_
  refine lv_bipush (v := 13) hx hb dX11_fresh_3 (by decide) ?_
  refine lv_icmp_ge (tgt := 21) hx hb dX11_fresh_5 (by decide) (fun c_ => absurd c_ (by decide +kernel)) (fun _ => ?_)
  refine lv_aload_n hx hb dX11_fresh_8 rfl (lv_at hl 1 rfl) ?_
  refine xget F hP 1 rfl rfl inX11 55 (by decide) tb1237 rfl dX11_fresh_9 ?_
  refine lv_iload_n hx hb dX11_fresh_12 rfl (lv_at hl 0 rfl) ?_
  refine lv_iconst (v := 0) hx hb dX11_fresh_13 (by decide) ?_
  refine xist (f' := fun _ => 0) F hP hD hS 0 rfl 7 (by decide +kernel) (by decide +kernel) (by decide) (xup0 _) dX11_fresh_14 (fun H locs hP hD hS => ?_)
  have hP : va_P g vwCl [(h2, .inl (aC 0, 13, .inl (fun _ => 0))), (h1, .inr (11, [x3, x4, x5, x6, x7, x8, x9, x10, x11, x12, .ref h13, x14, x15, x16, x17, x18, x19, x20, x21, x22, x23, x24, x25, x26, x27, x28, x29, x30, x31, x32, x33, x34, x35, x36, x37, x38, x39, x40, x41, x42, x43, x44, x45, x46, x47, x48, x49, x50, x51, x52, x53, x54, x55, x56, x57, .ref h2, x58, x59, x60, x61, x62, x63, x64, x65, x66, x67, x68, x69, x70, x71, x72, x73, x74, x75])), (h13, .inl (aC 0, 14, .inl (upd (upd (upd (upd (upd (upd (upd (upd (fun _ => 0) 13 5) 0 0) 1 0) 2 0) 3 0) 4 0) 5 0) 6 5)))] H := hP
  have hD : va_D A [(h2, .inl (aC 0, 13, .inl (fun _ => 0))), (h1, .inr (11, [x3, x4, x5, x6, x7, x8, x9, x10, x11, x12, .ref h13, x14, x15, x16, x17, x18, x19, x20, x21, x22, x23, x24, x25, x26, x27, x28, x29, x30, x31, x32, x33, x34, x35, x36, x37, x38, x39, x40, x41, x42, x43, x44, x45, x46, x47, x48, x49, x50, x51, x52, x53, x54, x55, x56, x57, .ref h2, x58, x59, x60, x61, x62, x63, x64, x65, x66, x67, x68, x69, x70, x71, x72, x73, x74, x75])), (h13, .inl (aC 0, 14, .inl (upd (upd (upd (upd (upd (upd (upd (upd (fun _ => 0) 13 5) 0 0) 1 0) 2 0) 3 0) 4 0) 5 0) 6 5)))] := hD
  refine lv_iinc (v := 8) (lv' := [(1, .int 8), (0, .ref h1)]) hx hb dX11_fresh_15 hl (k := 0) rfl (by decide +kernel) (by decide) rfl (fun ls hl => ?_)
  refine lv_goto (tgt := 2) hx hb dX11_fresh_18 (by decide) ?_
  refine lv_iload_n hx hb dX11_fresh_2 rfl (lv_at hl 0 rfl) ?_
  refine lv_bipush (v := 13) hx hb dX11_fresh_3 (by decide) ?_
  refine lv_icmp_ge (tgt := 21) hx hb dX11_fresh_5 (by decide) (fun c_ => absurd c_ (by decide +kernel)) (fun _ => ?_)
  refine lv_aload_n hx hb dX11_fresh_8 rfl (lv_at hl 1 rfl) ?_
  refine xget F hP 1 rfl rfl inX11 55 (by decide) tb1237 rfl dX11_fresh_9 ?_
  refine lv_iload_n hx hb dX11_fresh_12 rfl (lv_at hl 0 rfl) ?_
  refine lv_iconst (v := 0) hx hb dX11_fresh_13 (by decide) ?_
  refine xist (f' := fun _ => 0) F hP hD hS 0 rfl 8 (by decide +kernel) (by decide +kernel) (by decide) (xup0 _) dX11_fresh_14 (fun H locs hP hD hS => ?_)
  have hP : va_P g vwCl [(h2, .inl (aC 0, 13, .inl (fun _ => 0))), (h1, .inr (11, [x3, x4, x5, x6, x7, x8, x9, x10, x11, x12, .ref h13, x14, x15, x16, x17, x18, x19, x20, x21, x22, x23, x24, x25, x26, x27, x28, x29, x30, x31, x32, x33, x34, x35, x36, x37, x38, x39, x40, x41, x42, x43, x44, x45, x46, x47, x48, x49, x50, x51, x52, x53, x54, x55, x56, x57, .ref h2, x58, x59, x60, x61, x62, x63, x64, x65, x66, x67, x68, x69, x70, x71, x72, x73, x74, x75])), (h13, .inl (aC 0, 14, .inl (upd (upd (upd (upd (upd (upd (upd (upd (fun _ => 0) 13 5) 0 0) 1 0) 2 0) 3 0) 4 0) 5 0) 6 5)))] H := hP
  have hD : va_D A [(h2, .inl (aC 0, 13, .inl (fun _ => 0))), (h1, .inr (11, [x3, x4, x5, x6, x7, x8, x9, x10, x11, x12, .ref h13, x14, x15, x16, x17, x18, x19, x20, x21, x22, x23, x24, x25, x26, x27, x28, x29, x30, x31, x32, x33, x34, x35, x36, x37, x38, x39, x40, x41, x42, x43, x44, x45, x46, x47, x48, x49, x50, x51, x52, x53, x54, x55, x56, x57, .ref h2, x58, x59, x60, x61, x62, x63, x64, x65, x66, x67, x68, x69, x70, x71, x72, x73, x74, x75])), (h13, .inl (aC 0, 14, .inl (upd (upd (upd (upd (upd (upd (upd (upd (fun _ => 0) 13 5) 0 0) 1 0) 2 0) 3 0) 4 0) 5 0) 6 5)))] := hD
  refine lv_iinc (v := 9) (lv' := [(1, .int 9), (0, .ref h1)]) hx hb dX11_fresh_15 hl (k := 0) rfl (by decide +kernel) (by decide) rfl (fun ls hl => ?_)
  refine lv_goto (tgt := 2) hx hb dX11_fresh_18 (by decide) ?_
  refine lv_iload_n hx hb dX11_fresh_2 rfl (lv_at hl 0 rfl) ?_
  refine lv_bipush (v := 13) hx hb dX11_fresh_3 (by decide) ?_
  refine lv_icmp_ge (tgt := 21) hx hb dX11_fresh_5 (by decide) (fun c_ => absurd c_ (by decide +kernel)) (fun _ => ?_)
  refine lv_aload_n hx hb dX11_fresh_8 rfl (lv_at hl 1 rfl) ?_
  refine xget F hP 1 rfl rfl inX11 55 (by decide) tb1237 rfl dX11_fresh_9 ?_
  refine lv_iload_n hx hb dX11_fresh_12 rfl (lv_at hl 0 rfl) ?_
  refine lv_iconst (v := 0) hx hb dX11_fresh_13 (by decide) ?_
  refine xist (f' := fun _ => 0) F hP hD hS 0 rfl 9 (by decide +kernel) (by decide +kernel) (by decide) (xup0 _) dX11_fresh_14 (fun H locs hP hD hS => ?_)
  have hP : va_P g vwCl [(h2, .inl (aC 0, 13, .inl (fun _ => 0))), (h1, .inr (11, [x3, x4, x5, x6, x7, x8, x9, x10, x11, x12, .ref h13, x14, x15, x16, x17, x18, x19, x20, x21, x22, x23, x24, x25, x26, x27, x28, x29, x30, x31, x32, x33, x34, x35, x36, x37, x38, x39, x40, x41, x42, x43, x44, x45, x46, x47, x48, x49, x50, x51, x52, x53, x54, x55, x56, x57, .ref h2, x58, x59, x60, x61, x62, x63, x64, x65, x66, x67, x68, x69, x70, x71, x72, x73, x74, x75])), (h13, .inl (aC 0, 14, .inl (upd (upd (upd (upd (upd (upd (upd (upd (fun _ => 0) 13 5) 0 0) 1 0) 2 0) 3 0) 4 0) 5 0) 6 5)))] H := hP
  have hD : va_D A [(h2, .inl (aC 0, 13, .inl (fun _ => 0))), (h1, .inr (11, [x3, x4, x5, x6, x7, x8, x9, x10, x11, x12, .ref h13, x14, x15, x16, x17, x18, x19, x20, x21, x22, x23, x24, x25, x26, x27, x28, x29, x30, x31, x32, x33, x34, x35, x36, x37, x38, x39, x40, x41, x42, x43, x44, x45, x46, x47, x48, x49, x50, x51, x52, x53, x54, x55, x56, x57, .ref h2, x58, x59, x60, x61, x62, x63, x64, x65, x66, x67, x68, x69, x70, x71, x72, x73, x74, x75])), (h13, .inl (aC 0, 14, .inl (upd (upd (upd (upd (upd (upd (upd (upd (fun _ => 0) 13 5) 0 0) 1 0) 2 0) 3 0) 4 0) 5 0) 6 5)))] := hD
  refine lv_iinc (v := 10) (lv' := [(1, .int 10), (0, .ref h1)]) hx hb dX11_fresh_15 hl (k := 0) rfl (by decide +kernel) (by decide) rfl (fun ls hl => ?_)
  refine lv_goto (tgt := 2) hx hb dX11_fresh_18 (by decide) ?_
  refine lv_iload_n hx hb dX11_fresh_2 rfl (lv_at hl 0 rfl) ?_
  refine lv_bipush (v := 13) hx hb dX11_fresh_3 (by decide) ?_
  refine lv_icmp_ge (tgt := 21) hx hb dX11_fresh_5 (by decide) (fun c_ => absurd c_ (by decide +kernel)) (fun _ => ?_)
  refine lv_aload_n hx hb dX11_fresh_8 rfl (lv_at hl 1 rfl) ?_
  refine xget F hP 1 rfl rfl inX11 55 (by decide) tb1237 rfl dX11_fresh_9 ?_
  refine lv_iload_n hx hb dX11_fresh_12 rfl (lv_at hl 0 rfl) ?_
  refine lv_iconst (v := 0) hx hb dX11_fresh_13 (by decide) ?_
  refine xist (f' := fun _ => 0) F hP hD hS 0 rfl 10 (by decide +kernel) (by decide +kernel) (by decide) (xup0 _) dX11_fresh_14 (fun H locs hP hD hS => ?_)
  have hP : va_P g vwCl [(h2, .inl (aC 0, 13, .inl (fun _ => 0))), (h1, .inr (11, [x3, x4, x5, x6, x7, x8, x9, x10, x11, x12, .ref h13, x14, x15, x16, x17, x18, x19, x20, x21, x22, x23, x24, x25, x26, x27, x28, x29, x30, x31, x32, x33, x34, x35, x36, x37, x38, x39, x40, x41, x42, x43, x44, x45, x46, x47, x48, x49, x50, x51, x52, x53, x54, x55, x56, x57, .ref h2, x58, x59, x60, x61, x62, x63, x64, x65, x66, x67, x68, x69, x70, x71, x72, x73, x74, x75])), (h13, .inl (aC 0, 14, .inl (upd (upd (upd (upd (upd (upd (upd (upd (fun _ => 0) 13 5) 0 0) 1 0) 2 0) 3 0) 4 0) 5 0) 6 5)))] H := hP
  have hD : va_D A [(h2, .inl (aC 0, 13, .inl (fun _ => 0))), (h1, .inr (11, [x3, x4, x5, x6, x7, x8, x9, x10, x11, x12, .ref h13, x14, x15, x16, x17, x18, x19, x20, x21, x22, x23, x24, x25, x26, x27, x28, x29, x30, x31, x32, x33, x34, x35, x36, x37, x38, x39, x40, x41, x42, x43, x44, x45, x46, x47, x48, x49, x50, x51, x52, x53, x54, x55, x56, x57, .ref h2, x58, x59, x60, x61, x62, x63, x64, x65, x66, x67, x68, x69, x70, x71, x72, x73, x74, x75])), (h13, .inl (aC 0, 14, .inl (upd (upd (upd (upd (upd (upd (upd (upd (fun _ => 0) 13 5) 0 0) 1 0) 2 0) 3 0) 4 0) 5 0) 6 5)))] := hD
  refine lv_iinc (v := 11) (lv' := [(1, .int 11), (0, .ref h1)]) hx hb dX11_fresh_15 hl (k := 0) rfl (by decide +kernel) (by decide) rfl (fun ls hl => ?_)
  refine lv_goto (tgt := 2) hx hb dX11_fresh_18 (by decide) ?_
  refine lv_iload_n hx hb dX11_fresh_2 rfl (lv_at hl 0 rfl) ?_
  refine lv_bipush (v := 13) hx hb dX11_fresh_3 (by decide) ?_
  refine lv_icmp_ge (tgt := 21) hx hb dX11_fresh_5 (by decide) (fun c_ => absurd c_ (by decide +kernel)) (fun _ => ?_)
  refine lv_aload_n hx hb dX11_fresh_8 rfl (lv_at hl 1 rfl) ?_
  refine xget F hP 1 rfl rfl inX11 55 (by decide) tb1237 rfl dX11_fresh_9 ?_
  refine lv_iload_n hx hb dX11_fresh_12 rfl (lv_at hl 0 rfl) ?_
  refine lv_iconst (v := 0) hx hb dX11_fresh_13 (by decide) ?_
  refine xist (f' := fun _ => 0) F hP hD hS 0 rfl 11 (by decide +kernel) (by decide +kernel) (by decide) (xup0 _) dX11_fresh_14 (fun H locs hP hD hS => ?_)
  have hP : va_P g vwCl [(h2, .inl (aC 0, 13, .inl (fun _ => 0))), (h1, .inr (11, [x3, x4, x5, x6, x7, x8, x9, x10, x11, x12, .ref h13, x14, x15, x16, x17, x18, x19, x20, x21, x22, x23, x24, x25, x26, x27, x28, x29, x30, x31, x32, x33, x34, x35, x36, x37, x38, x39, x40, x41, x42, x43, x44, x45, x46, x47, x48, x49, x50, x51, x52, x53, x54, x55, x56, x57, .ref h2, x58, x59, x60, x61, x62, x63, x64, x65, x66, x67, x68, x69, x70, x71, x72, x73, x74, x75])), (h13, .inl (aC 0, 14, .inl (upd (upd (upd (upd (upd (upd (upd (upd (fun _ => 0) 13 5) 0 0) 1 0) 2 0) 3 0) 4 0) 5 0) 6 5)))] H := hP
  have hD : va_D A [(h2, .inl (aC 0, 13, .inl (fun _ => 0))), (h1, .inr (11, [x3, x4, x5, x6, x7, x8, x9, x10, x11, x12, .ref h13, x14, x15, x16, x17, x18, x19, x20, x21, x22, x23, x24, x25, x26, x27, x28, x29, x30, x31, x32, x33, x34, x35, x36, x37, x38, x39, x40, x41, x42, x43, x44, x45, x46, x47, x48, x49, x50, x51, x52, x53, x54, x55, x56, x57, .ref h2, x58, x59, x60, x61, x62, x63, x64, x65, x66, x67, x68, x69, x70, x71, x72, x73, x74, x75])), (h13, .inl (aC 0, 14, .inl (upd (upd (upd (upd (upd (upd (upd (upd (fun _ => 0) 13 5) 0 0) 1 0) 2 0) 3 0) 4 0) 5 0) 6 5)))] := hD
  refine lv_iinc (v := 12) (lv' := [(1, .int 12), (0, .ref h1)]) hx hb dX11_fresh_15 hl (k := 0) rfl (by decide +kernel) (by decide) rfl (fun ls hl => ?_)
  refine lv_goto (tgt := 2) hx hb dX11_fresh_18 (by decide) ?_
  refine lv_iload_n hx hb dX11_fresh_2 rfl (lv_at hl 0 rfl) ?_
  refine lv_bipush (v := 13) hx hb dX11_fresh_3 (by decide) ?_
  refine lv_icmp_ge (tgt := 21) hx hb dX11_fresh_5 (by decide) (fun c_ => absurd c_ (by decide +kernel)) (fun _ => ?_)
  refine lv_aload_n hx hb dX11_fresh_8 rfl (lv_at hl 1 rfl) ?_
  refine xget F hP 1 rfl rfl inX11 55 (by decide) tb1237 rfl dX11_fresh_9 ?_
  refine lv_iload_n hx hb dX11_fresh_12 rfl (lv_at hl 0 rfl) ?_
  refine lv_iconst (v := 0) hx hb dX11_fresh_13 (by decide) ?_
  refine xist (f' := fun _ => 0) F hP hD hS 0 rfl 12 (by decide +kernel) (by decide +kernel) (by decide) (xup0 _) dX11_fresh_14 (fun H locs hP hD hS => ?_)
  have hP : va_P g vwCl [(h2, .inl (aC 0, 13, .inl (fun _ => 0))), (h1, .inr (11, [x3, x4, x5, x6, x7, x8, x9, x10, x11, x12, .ref h13, x14, x15, x16, x17, x18, x19, x20, x21, x22, x23, x24, x25, x26, x27, x28, x29, x30, x31, x32, x33, x34, x35, x36, x37, x38, x39, x40, x41, x42, x43, x44, x45, x46, x47, x48, x49, x50, x51, x52, x53, x54, x55, x56, x57, .ref h2, x58, x59, x60, x61, x62, x63, x64, x65, x66, x67, x68, x69, x70, x71, x72, x73, x74, x75])), (h13, .inl (aC 0, 14, .inl (upd (upd (upd (upd (upd (upd (upd (upd (fun _ => 0) 13 5) 0 0) 1 0) 2 0) 3 0) 4 0) 5 0) 6 5)))] H := hP
  have hD : va_D A [(h2, .inl (aC 0, 13, .inl (fun _ => 0))), (h1, .inr (11, [x3, x4, x5, x6, x7, x8, x9, x10, x11, x12, .ref h13, x14, x15, x16, x17, x18, x19, x20, x21, x22, x23, x24, x25, x26, x27, x28, x29, x30, x31, x32, x33, x34, x35, x36, x37, x38, x39, x40, x41, x42, x43, x44, x45, x46, x47, x48, x49, x50, x51, x52, x53, x54, x55, x56, x57, .ref h2, x58, x59, x60, x61, x62, x63, x64, x65, x66, x67, x68, x69, x70, x71, x72, x73, x74, x75])), (h13, .inl (aC 0, 14, .inl (upd (upd (upd (upd (upd (upd (upd (upd (fun _ => 0) 13 5) 0 0) 1 0) 2 0) 3 0) 4 0) 5 0) 6 5)))] := hD
  refine lv_iinc (v := 13) (lv' := [(1, .int 13), (0, .ref h1)]) hx hb dX11_fresh_15 hl (k := 0) rfl (by decide +kernel) (by decide) rfl (fun ls hl => ?_)
  refine lv_goto (tgt := 2) hx hb dX11_fresh_18 (by decide) ?_
  refine lv_iload_n hx hb dX11_fresh_2 rfl (lv_at hl 0 rfl) ?_
  refine lv_bipush (v := 13) hx hb dX11_fresh_3 (by decide) ?_
  refine lv_icmp_ge (tgt := 21) hx hb dX11_fresh_5 (by decide) (fun _ => ?_) (fun c_ => absurd (by decide +kernel) c_)
  refine lv_aload_n hx hb dX11_fresh_21 rfl (lv_at hl 1 rfl) ?_
  refine xget F hP 1 rfl rfl inX11 55 (by decide) tb1237 rfl dX11_fresh_22 ?_
  refine lv_iconst (v := 0) hx hb dX11_fresh_25 (by decide) ?_
  refine lv_aload_n hx hb dX11_fresh_26 rfl (lv_at hl 1 rfl) ?_
  refine goI (wr := [(h2, .inl (aC 0, 13, .inl (fun _ => 0)))]) (runV (n := 0) (As := []) (rest := [.int 0, .ref h2]) F hP hD hS (a_X11_allFlights_1 l g aC aM h1 h13 x3 x4 x5 x6 x7 x8 x9 x10 x11 x12 x14 x15 x16 x17 x18 x19 x20 x21 x22 x23 x24 x25 x26 x27 x28 x29 x30 x31 x32 x33 x34 x35 x36 x37 x38 x39 x40 x41 x42 x43 x44 x45 x46 x47 x48 x49 x50 x51 x52 x53 x54 x55 x56 x57 (.ref h2) x58 x59 x60 x61 x62 x63 x64 x65 x66 x67 x68 x69 x70 x71 x72 x73 x74 x75) [1, 2] (by decide) rfl 1 11 rfl rfl rfl tb1592 tb1589 tb1591 tv65 tb17 ⟨by decide, by decide, by decide +kernel⟩ ⟨Nat.le_of_ble_eq_true rfl, Nat.le_of_ble_eq_true rfl⟩ rfl hl.1 rfl (Nat.le_of_ble_eq_true rfl) dX11_fresh_27 ⟨Nat.le_of_ble_eq_true rfl, Nat.le_of_ble_eq_true rfl⟩) hP hD hS hA [1, 2] [0] rfl rfl (by decide) (by decide) (fun r_16 w17 H locs hw hP hD hS => ?_)
  have hP : va_P g vwCl [(h2, .inl (aC 0, 13, .inl (fun _ => 0))), (h1, .inr (11, [x3, x4, x5, x6, x7, x8, x9, x10, x11, x12, .ref h13, x14, x15, x16, x17, x18, x19, x20, x21, x22, x23, x24, x25, x26, x27, x28, x29, x30, x31, x32, x33, x34, x35, x36, x37, x38, x39, x40, x41, x42, x43, x44, x45, x46, x47, x48, x49, x50, x51, x52, x53, x54, x55, x56, x57, .ref h2, x58, x59, x60, x61, x62, x63, x64, x65, x66, x67, x68, x69, x70, x71, x72, x73, x74, x75])), (h13, .inl (aC 0, 14, .inl (upd (upd (upd (upd (upd (upd (upd (upd (fun _ => 0) 13 5) 0 0) 1 0) 2 0) 3 0) 4 0) 5 0) 6 5)))] H := hP
  have hD : va_D A [(h2, .inl (aC 0, 13, .inl (fun _ => 0))), (h1, .inr (11, [x3, x4, x5, x6, x7, x8, x9, x10, x11, x12, .ref h13, x14, x15, x16, x17, x18, x19, x20, x21, x22, x23, x24, x25, x26, x27, x28, x29, x30, x31, x32, x33, x34, x35, x36, x37, x38, x39, x40, x41, x42, x43, x44, x45, x46, x47, x48, x49, x50, x51, x52, x53, x54, x55, x56, x57, .ref h2, x58, x59, x60, x61, x62, x63, x64, x65, x66, x67, x68, x69, x70, x71, x72, x73, x74, x75])), (h13, .inl (aC 0, 14, .inl (upd (upd (upd (upd (upd (upd (upd (upd (fun _ => 0) 13 5) 0 0) 1 0) 2 0) 3 0) 4 0) 5 0) 6 5)))] := hD
  try dsimp only at hw
  subst hw
  refine xist (f' := fun _ => 0) F hP hD hS 0 rfl 0 (by decide +kernel) (by decide +kernel) (by decide) (xup0 _) dX11_fresh_30 (fun H locs hP hD hS => ?_)
  have hP : va_P g vwCl [(h2, .inl (aC 0, 13, .inl (fun _ => 0))), (h1, .inr (11, [x3, x4, x5, x6, x7, x8, x9, x10, x11, x12, .ref h13, x14, x15, x16, x17, x18, x19, x20, x21, x22, x23, x24, x25, x26, x27, x28, x29, x30, x31, x32, x33, x34, x35, x36, x37, x38, x39, x40, x41, x42, x43, x44, x45, x46, x47, x48, x49, x50, x51, x52, x53, x54, x55, x56, x57, .ref h2, x58, x59, x60, x61, x62, x63, x64, x65, x66, x67, x68, x69, x70, x71, x72, x73, x74, x75])), (h13, .inl (aC 0, 14, .inl (upd (upd (upd (upd (upd (upd (upd (upd (fun _ => 0) 13 5) 0 0) 1 0) 2 0) 3 0) 4 0) 5 0) 6 5)))] H := hP
  have hD : va_D A [(h2, .inl (aC 0, 13, .inl (fun _ => 0))), (h1, .inr (11, [x3, x4, x5, x6, x7, x8, x9, x10, x11, x12, .ref h13, x14, x15, x16, x17, x18, x19, x20, x21, x22, x23, x24, x25, x26, x27, x28, x29, x30, x31, x32, x33, x34, x35, x36, x37, x38, x39, x40, x41, x42, x43, x44, x45, x46, x47, x48, x49, x50, x51, x52, x53, x54, x55, x56, x57, .ref h2, x58, x59, x60, x61, x62, x63, x64, x65, x66, x67, x68, x69, x70, x71, x72, x73, x74, x75])), (h13, .inl (aC 0, 14, .inl (upd (upd (upd (upd (upd (upd (upd (upd (fun _ => 0) 13 5) 0 0) 1 0) 2 0) 3 0) 4 0) 5 0) 6 5)))] := hD
  refine lv_iconst (v := 0) hx hb dX11_fresh_31 (by decide) ?_
  refine lv_istore_n (lv' := [(1, .int 0), (0, .ref h1)]) hx hb dX11_fresh_32 rfl hl (by decide) rfl (fun ls hl => ?_)
  refine lv_iload_n hx hb dX11_fresh_33 rfl (lv_at hl 0 rfl) ?_
  refine lv_aload_n hx hb dX11_fresh_34 rfl (lv_at hl 1 rfl) ?_
  refine xget F hP 1 rfl rfl inX11 10 (by decide) tb1192 rfl dX11_fresh_35 ?_
  refine lv_iconst (v := 3) hx hb dX11_fresh_38 (by decide) ?_
  refine xilo (v := 0) F hP 2 rfl 3 (by decide +kernel) (by decide +kernel) (by decide) (by decide +kernel) dX11_fresh_39 ?_
  refine lv_icmp_ge (tgt := 63) hx hb dX11_fresh_40 (by decide) (fun _ => ?_) (fun c_ => absurd (by decide +kernel) c_)
  refine lv_iconst (v := 0) hx hb dX11_fresh_63 (by decide) ?_
  refine lv_istore_n (lv' := [(1, .int 0), (0, .ref h1)]) hx hb dX11_fresh_64 rfl hl (by decide) rfl (fun ls hl => ?_)
  refine lv_iload_n hx hb dX11_fresh_65 rfl (lv_at hl 0 rfl) ?_
  refine lv_aload_n hx hb dX11_fresh_66 rfl (lv_at hl 1 rfl) ?_
  refine xget F hP 1 rfl rfl inX11 10 (by decide) tb1192 rfl dX11_fresh_67 ?_
  refine lv_iconst (v := 2) hx hb dX11_fresh_70 (by decide) ?_
  refine xilo (v := 0) F hP 2 rfl 2 (by decide +kernel) (by decide +kernel) (by decide) (by decide +kernel) dX11_fresh_71 ?_
  refine lv_icmp_ge (tgt := 96) hx hb dX11_fresh_72 (by decide) (fun _ => ?_) (fun c_ => absurd (by decide +kernel) c_)
  refine lv_aload_n hx hb dX11_fresh_96 rfl (lv_at hl 1 rfl) ?_
  refine xget F hP 1 rfl rfl inX11 55 (by decide) tb1237 rfl dX11_fresh_97 ?_
  refine lv_bipush (v := 10) hx hb dX11_fresh_100 (by decide) ?_
  refine lv_aload_n hx hb dX11_fresh_102 rfl (lv_at hl 1 rfl) ?_
  refine xget F hP 1 rfl rfl inX11 10 (by decide) tb1192 rfl dX11_fresh_103 ?_
  refine lv_iconst (v := 5) hx hb dX11_fresh_106 (by decide) ?_
  refine xilo (v := 0) F hP 2 rfl 5 (by decide +kernel) (by decide +kernel) (by decide) (by decide +kernel) dX11_fresh_107 ?_
  refine xist (f' := fun _ => 0) F hP hD hS 0 rfl 10 (by decide +kernel) (by decide +kernel) (by decide) (xup0 _) dX11_fresh_108 (fun H locs hP hD hS => ?_)
  have hP : va_P g vwCl [(h2, .inl (aC 0, 13, .inl (fun _ => 0))), (h1, .inr (11, [x3, x4, x5, x6, x7, x8, x9, x10, x11, x12, .ref h13, x14, x15, x16, x17, x18, x19, x20, x21, x22, x23, x24, x25, x26, x27, x28, x29, x30, x31, x32, x33, x34, x35, x36, x37, x38, x39, x40, x41, x42, x43, x44, x45, x46, x47, x48, x49, x50, x51, x52, x53, x54, x55, x56, x57, .ref h2, x58, x59, x60, x61, x62, x63, x64, x65, x66, x67, x68, x69, x70, x71, x72, x73, x74, x75])), (h13, .inl (aC 0, 14, .inl (upd (upd (upd (upd (upd (upd (upd (upd (fun _ => 0) 13 5) 0 0) 1 0) 2 0) 3 0) 4 0) 5 0) 6 5)))] H := hP
  have hD : va_D A [(h2, .inl (aC 0, 13, .inl (fun _ => 0))), (h1, .inr (11, [x3, x4, x5, x6, x7, x8, x9, x10, x11, x12, .ref h13, x14, x15, x16, x17, x18, x19, x20, x21, x22, x23, x24, x25, x26, x27, x28, x29, x30, x31, x32, x33, x34, x35, x36, x37, x38, x39, x40, x41, x42, x43, x44, x45, x46, x47, x48, x49, x50, x51, x52, x53, x54, x55, x56, x57, .ref h2, x58, x59, x60, x61, x62, x63, x64, x65, x66, x67, x68, x69, x70, x71, x72, x73, x74, x75])), (h13, .inl (aC 0, 14, .inl (upd (upd (upd (upd (upd (upd (upd (upd (fun _ => 0) 13 5) 0 0) 1 0) 2 0) 3 0) 4 0) 5 0) 6 5)))] := hD
  have hP9 := hP.sub (ws' := [(h2, .inl (aC 0, 13, .inl (fun _ => 0))), (h1, .inr (11, [x3, x4, x5, x6, x7, x8, x9, x10, x11, x12, .ref h13, x14, x15, x16, x17, x18, x19, x20, x21, x22, x23, x24, x25, x26, x27, x28, x29, x30, x31, x32, x33, x34, x35, x36, x37, x38, x39, x40, x41, x42, x43, x44, x45, x46, x47, x48, x49, x50, x51, x52, x53, x54, x55, x56, x57, .ref h2, x58, x59, x60, x61, x62, x63, x64, x65, x66, x67, x68, x69, x70, x71, x72, x73, x74, x75])), (h13, .inl (aC 0, 14, .inl (upd (upd (upd (upd (upd (upd (upd (upd (fun _ => 0) 13 5) 0 0) 1 0) 2 0) 3 0) 4 0) 5 0) 6 5)))]) [0, 1, 2] rfl
  have hD9 := hD.sub (ws' := [(h2, .inl (aC 0, 13, .inl (fun _ => 0))), (h1, .inr (11, [x3, x4, x5, x6, x7, x8, x9, x10, x11, x12, .ref h13, x14, x15, x16, x17, x18, x19, x20, x21, x22, x23, x24, x25, x26, x27, x28, x29, x30, x31, x32, x33, x34, x35, x36, x37, x38, x39, x40, x41, x42, x43, x44, x45, x46, x47, x48, x49, x50, x51, x52, x53, x54, x55, x56, x57, .ref h2, x58, x59, x60, x61, x62, x63, x64, x65, x66, x67, x68, x69, x70, x71, x72, x73, x74, x75])), (h13, .inl (aC 0, 14, .inl (upd (upd (upd (upd (upd (upd (upd (upd (fun _ => 0) 13 5) 0 0) 1 0) 2 0) 3 0) 4 0) 5 0) 6 5)))]) [0, 1, 2] (by decide) rfl
  exact rV () hx hb hr hlk hS trivial hP9 hD9 (Nat.le_of_ble_eq_true rfl) (Nat.le_of_ble_eq_true rfl) dX11_fresh_109

theorem tb1585 : (Jvm.Cond.methodLink "StairGangModel" (413 : Nat) ({ cls := "StairGangModel", name := "fresh", desc := "()V" } : Jvm.MethodName)) ∈ gw := lw_m 1585 (by decide +kernel)
theorem tb1587 : (Jvm.Cond.instanceMethod ({ cls := "StairGangModel", name := "fresh", desc := "()V" } : Jvm.MethodName)) ∈ gw := lw_m 1587 (by decide +kernel)
theorem tb1588 : (Jvm.Cond.code ({ cls := "StairGangModel", name := "fresh", desc := "()V" } : Jvm.MethodName) prog_13_method_52_code (2 : Nat) (Option.none : Option Jvm.ClassFile.FieldType)) ∈ gw := lw_m 1588 (by decide +kernel)
theorem tv64 : Cond.selects "StairGangModel" ⟨"StairGangModel", "fresh", "()V"⟩ ⟨"StairGangModel", "fresh", "()V"⟩ ∈ gw := lw_v 64 (by decide +kernel)
theorem dX11_town_25 : decode cX11_town 25 = .ok (.aload_n 0, 1) := by decide +kernel
theorem dX11_town_26 : decode cX11_town 26 = .ok (.getfield 114, 3) := by decide +kernel
theorem dX11_town_29 : decode cX11_town 29 = .ok (.iconst 0, 1) := by decide +kernel
theorem dX11_town_30 : decode cX11_town 30 = .ok (.iconst 0, 1) := by decide +kernel
theorem dX11_town_31 : decode cX11_town 31 = .ok (.iastore, 1) := by decide +kernel
theorem dX11_town_32 : decode cX11_town 32 = .ok (.aload_n 0, 1) := by decide +kernel
theorem dX11_town_33 : decode cX11_town 33 = .ok (.getfield 129, 3) := by decide +kernel
theorem dX11_town_36 : decode cX11_town 36 = .ok (.iconst 0, 1) := by decide +kernel
theorem dX11_town_37 : decode cX11_town 37 = .ok (.iconst 0, 1) := by decide +kernel
theorem dX11_town_38 : decode cX11_town 38 = .ok (.iastore, 1) := by decide +kernel
theorem dX11_town_39 : decode cX11_town 39 = .ok (.aload_n 0, 1) := by decide +kernel
theorem dX11_town_40 : decode cX11_town 40 = .ok (.iconst 0, 1) := by decide +kernel
theorem dX11_town_41 : decode cX11_town 41 = .ok (.putfield 416, 3) := by decide +kernel
theorem dX11_town_44 : decode cX11_town 44 = .ok (.iconst 0, 1) := by decide +kernel
theorem dX11_town_45 : decode cX11_town 45 = .ok (.istore_n 1, 1) := by decide +kernel
theorem dX11_town_46 : decode cX11_town 46 = .ok (.iload_n 1, 1) := by decide +kernel
theorem dX11_town_47 : decode cX11_town 47 = .ok (.iconst 4, 1) := by decide +kernel
theorem dX11_town_48 : decode cX11_town 48 = .ok (.if_icmp .ge 16, 3) := by decide +kernel
theorem dX11_town_51 : decode cX11_town 51 = .ok (.aload_n 0, 1) := by decide +kernel
theorem dX11_town_52 : decode cX11_town 52 = .ok (.getfield 153, 3) := by decide +kernel
theorem dX11_town_55 : decode cX11_town 55 = .ok (.iload_n 1, 1) := by decide +kernel
theorem dX11_town_56 : decode cX11_town 56 = .ok (.iconst 0, 1) := by decide +kernel
theorem dX11_town_57 : decode cX11_town 57 = .ok (.bastore, 1) := by decide +kernel
theorem dX11_town_58 : decode cX11_town 58 = .ok (.iinc 1 1, 3) := by decide +kernel
theorem dX11_town_61 : decode cX11_town 61 = .ok (.goto (-15), 3) := by decide +kernel
theorem dX11_town_64 : decode cX11_town 64 = .ok (.iconst 0, 1) := by decide +kernel
theorem dX11_town_65 : decode cX11_town 65 = .ok (.ireturn, 1) := by decide +kernel
set_option maxHeartbeats 4000000 in
set_option maxRecDepth 100000 in
theorem m_town (l : Launch) (g : va_G) (aC : Nat → ClassId) (aM : Nat → Nat) (h1 h4 h5 h6 h7 h8 h9 h10 h11 h12 h13 h14 h15 h16 h17 h18 h19 h20 h21 h22 h23 h24 h38 h43 h47 h51 : Nat) (x2 x3 x25 x26 x27 x28 x29 x30 x31 x32 x33 x34 x35 x36 x37 x39 x40 x41 x42 x44 x45 x46 x48 x49 x50 x52 x53 x54 x55 x56 x57 x58 x59 x60 x61 x62 x63 x64 : Value) : Ct l g aC aM yX11_town cX11_town 2 (some .int) 4 [.ref h1] [(h1, .inr (11, [.int 0, .int 0, x2, .int 0, .int 0, .int 0, .int 0, .long 0, .int 0, x3, .ref h4, .ref h5, .ref h6, .ref h7, .ref h8, .ref h9, .ref h10, .ref h11, .ref h12, .ref h13, .ref h14, .ref h15, .ref h16, .ref h17, .ref h18, .ref h19, .ref h20, .ref h21, .ref h22, .ref h23, .ref h24, .int 0, .int 0, x25, x26, x27, x28, x29, x30, x31, x32, x33, x34, x35, x36, x37, .ref h38, x39, x40, x41, x42, .ref h43, x44, x45, x46, .ref h47, x48, x49, x50, .ref h51, .int 0, x52, x53, x54, x55, x56, x57, x58, x59, x60, x61, x62, x63, x64])), (h4, .inl (aC 0, 14, .inl (fun _ => 0))), (h5, .inl (aC 1, 10, .inr (.inl (fun _ => 0)))), (h6, .inl (aC 1, 8, .inr (.inl (fun _ => 0)))), (h7, .inl (aC 1, 10, .inr (.inl (fun _ => 0)))), (h8, .inl (aC 1, 8, .inr (.inl (fun _ => 0)))), (h9, .inl (aC 0, 10, .inl (fun _ => 0))), (h10, .inl (aC 0, 20, .inl (fun _ => 0))), (h11, .inl (aC 0, 20, .inl (fun _ => 0))), (h12, .inl (aC 0, 20, .inl (fun _ => 0))), (h13, .inl (aC 0, 20, .inl (fun _ => 0))), (h14, .inl (aC 0, 8, .inl (fun _ => 0))), (h15, .inl (aC 0, 8, .inl (fun _ => 0))), (h16, .inl (aC 0, 10, .inl (fun _ => 0))), (h17, .inl (aC 0, 10, .inl (fun _ => 0))), (h18, .inl (aC 0, 10, .inl (fun _ => 0))), (h19, .inl (aC 0, 10, .inl (fun _ => 0))), (h20, .inl (aC 0, 8, .inl (fun _ => 0))), (h21, .inl (aC 0, 8, .inl (fun _ => 0))), (h22, .inl (aC 0, 2, .inl (fun _ => 0))), (h23, .inl (aC 0, 2, .inl (fun _ => 0))), (h24, .inl (aC 0, 2000, .inl (fun _ => 0))), (h38, .inl (aC 0, 6, .inl (fun _ => 0))), (h43, .inl (aC 0, 5, .inl (fun _ => 0))), (h47, .inl (aC 0, 13, .inl (fun _ => 0))), (h51, .inl (aC 3, 4, .inl (fun _ => 0)))] (QI g (fun (r : Int32) (_ : Unit) => r = 0) (fun (_ : Unit) => [])) 0 0 := by
  refine Ct.mk (by decide) (Nat.le_of_ble_eq_true rfl) ?_
  intro p e s m below meth c A ls hx hb hml hown hts hr hlk hnm hK hA hM hM2 hP hD hS hl
  have hown : s.vm.findClass RX11 = some m.cls := hown
  have F : Fx p s m _ c cX11_town 2 RX11 g aC aM A := ⟨hx, hb, hml, hown, hts, hK, hA, hM, hM2⟩
  have hl : lv_has ls 2 [(0, .ref h1)] := hl
  refine lv_aload_n hx hb dX11_town_0 rfl (lv_at hl 0 rfl) ?_
  refine lv_iconst (v := 0) hx hb dX11_town_1 (by decide) ?_
  refine xput F hP hD hS 0 rfl rfl inX11 tyX11_ok nmX11 0 (by decide) tb1182 rfl rfl rfl (Nat.le_of_ble_eq_true rfl) dX11_town_2 (fun H locs hP hD hS => ?_)
  have hP : va_P g vwCl [(h1, .inr (11, [.int 0, .int 0, x2, .int 0, .int 0, .int 0, .int 0, .long 0, .int 0, x3, .ref h4, .ref h5, .ref h6, .ref h7, .ref h8, .ref h9, .ref h10, .ref h11, .ref h12, .ref h13, .ref h14, .ref h15, .ref h16, .ref h17, .ref h18, .ref h19, .ref h20, .ref h21, .ref h22, .ref h23, .ref h24, .int 0, .int 0, x25, x26, x27, x28, x29, x30, x31, x32, x33, x34, x35, x36, x37, .ref h38, x39, x40, x41, x42, .ref h43, x44, x45, x46, .ref h47, x48, x49, x50, .ref h51, .int 0, x52, x53, x54, x55, x56, x57, x58, x59, x60, x61, x62, x63, x64])), (h4, .inl (aC 0, 14, .inl (fun _ => 0))), (h5, .inl (aC 1, 10, .inr (.inl (fun _ => 0)))), (h6, .inl (aC 1, 8, .inr (.inl (fun _ => 0)))), (h7, .inl (aC 1, 10, .inr (.inl (fun _ => 0)))), (h8, .inl (aC 1, 8, .inr (.inl (fun _ => 0)))), (h9, .inl (aC 0, 10, .inl (fun _ => 0))), (h10, .inl (aC 0, 20, .inl (fun _ => 0))), (h11, .inl (aC 0, 20, .inl (fun _ => 0))), (h12, .inl (aC 0, 20, .inl (fun _ => 0))), (h13, .inl (aC 0, 20, .inl (fun _ => 0))), (h14, .inl (aC 0, 8, .inl (fun _ => 0))), (h15, .inl (aC 0, 8, .inl (fun _ => 0))), (h16, .inl (aC 0, 10, .inl (fun _ => 0))), (h17, .inl (aC 0, 10, .inl (fun _ => 0))), (h18, .inl (aC 0, 10, .inl (fun _ => 0))), (h19, .inl (aC 0, 10, .inl (fun _ => 0))), (h20, .inl (aC 0, 8, .inl (fun _ => 0))), (h21, .inl (aC 0, 8, .inl (fun _ => 0))), (h22, .inl (aC 0, 2, .inl (fun _ => 0))), (h23, .inl (aC 0, 2, .inl (fun _ => 0))), (h24, .inl (aC 0, 2000, .inl (fun _ => 0))), (h38, .inl (aC 0, 6, .inl (fun _ => 0))), (h43, .inl (aC 0, 5, .inl (fun _ => 0))), (h47, .inl (aC 0, 13, .inl (fun _ => 0))), (h51, .inl (aC 3, 4, .inl (fun _ => 0)))] H := hP
  have hD : va_D A [(h1, .inr (11, [.int 0, .int 0, x2, .int 0, .int 0, .int 0, .int 0, .long 0, .int 0, x3, .ref h4, .ref h5, .ref h6, .ref h7, .ref h8, .ref h9, .ref h10, .ref h11, .ref h12, .ref h13, .ref h14, .ref h15, .ref h16, .ref h17, .ref h18, .ref h19, .ref h20, .ref h21, .ref h22, .ref h23, .ref h24, .int 0, .int 0, x25, x26, x27, x28, x29, x30, x31, x32, x33, x34, x35, x36, x37, .ref h38, x39, x40, x41, x42, .ref h43, x44, x45, x46, .ref h47, x48, x49, x50, .ref h51, .int 0, x52, x53, x54, x55, x56, x57, x58, x59, x60, x61, x62, x63, x64])), (h4, .inl (aC 0, 14, .inl (fun _ => 0))), (h5, .inl (aC 1, 10, .inr (.inl (fun _ => 0)))), (h6, .inl (aC 1, 8, .inr (.inl (fun _ => 0)))), (h7, .inl (aC 1, 10, .inr (.inl (fun _ => 0)))), (h8, .inl (aC 1, 8, .inr (.inl (fun _ => 0)))), (h9, .inl (aC 0, 10, .inl (fun _ => 0))), (h10, .inl (aC 0, 20, .inl (fun _ => 0))), (h11, .inl (aC 0, 20, .inl (fun _ => 0))), (h12, .inl (aC 0, 20, .inl (fun _ => 0))), (h13, .inl (aC 0, 20, .inl (fun _ => 0))), (h14, .inl (aC 0, 8, .inl (fun _ => 0))), (h15, .inl (aC 0, 8, .inl (fun _ => 0))), (h16, .inl (aC 0, 10, .inl (fun _ => 0))), (h17, .inl (aC 0, 10, .inl (fun _ => 0))), (h18, .inl (aC 0, 10, .inl (fun _ => 0))), (h19, .inl (aC 0, 10, .inl (fun _ => 0))), (h20, .inl (aC 0, 8, .inl (fun _ => 0))), (h21, .inl (aC 0, 8, .inl (fun _ => 0))), (h22, .inl (aC 0, 2, .inl (fun _ => 0))), (h23, .inl (aC 0, 2, .inl (fun _ => 0))), (h24, .inl (aC 0, 2000, .inl (fun _ => 0))), (h38, .inl (aC 0, 6, .inl (fun _ => 0))), (h43, .inl (aC 0, 5, .inl (fun _ => 0))), (h47, .inl (aC 0, 13, .inl (fun _ => 0))), (h51, .inl (aC 3, 4, .inl (fun _ => 0)))] := hD
  refine lv_aload_n hx hb dX11_town_5 rfl (lv_at hl 0 rfl) ?_
  refine goI (wr := [(h5, .inl (aC 1, 10, .inr (.inl (fun _ => 0)))), (h6, .inl (aC 1, 8, .inr (.inl (fun _ => 0)))), (h7, .inl (aC 1, 10, .inr (.inl (fun _ => 0)))), (h8, .inl (aC 1, 8, .inr (.inl (fun _ => 0)))), (h9, .inl (aC 0, 10, .inl (fun _ => 0))), (h10, .inl (aC 0, 20, .inl (fun _ => 0))), (h11, .inl (aC 0, 20, .inl (fun _ => 0))), (h12, .inl (aC 0, 20, .inl (fun _ => 0))), (h13, .inl (aC 0, 20, .inl (fun _ => 0))), (h14, .inl (aC 0, 8, .inl (fun _ => 0))), (h15, .inl (aC 0, 8, .inl (fun _ => 0))), (h16, .inl (aC 0, 10, .inl (fun _ => 0))), (h17, .inl (aC 0, 10, .inl (fun _ => 0))), (h18, .inl (aC 0, 10, .inl (fun _ => 0))), (h19, .inl (aC 0, 10, .inl (fun _ => 0))), (h20, .inl (aC 0, 8, .inl (fun _ => 0))), (h21, .inl (aC 0, 8, .inl (fun _ => 0))), (h24, .inl (aC 0, 2000, .inl (fun _ => 0))), (h38, .inl (aC 0, 6, .inl (fun _ => 0))), (h43, .inl (aC 0, 5, .inl (fun _ => 0))), (h47, .inl (aC 0, 13, .inl (fun _ => 0))), (h51, .inl (aC 3, 4, .inl (fun _ => 0)))]) (runV (n := 0) (As := []) (rest := []) F hP hD hS (a_X11_readsAll_1 l g aC aM h1 h4 h22 h23 (.int 0) x2 x3 (.ref h5) (.ref h6) (.ref h7) (.ref h8) (.ref h9) (.ref h10) (.ref h11) (.ref h12) (.ref h13) (.ref h14) (.ref h15) (.ref h16) (.ref h17) (.ref h18) (.ref h19) (.ref h20) (.ref h21) (.ref h24) x25 x26 x27 x28 x29 x30 x31 x32 x33 x34 x35 x36 x37 (.ref h38) x39 x40 x41 x42 (.ref h43) x44 x45 x46 (.ref h47) x48 x49 x50 (.ref h51) (.int 0) x52 x53 x54 x55 x56 x57 x58 x59 x60 x61 x62 x63 x64) [0, 1, 19, 20] (by decide) rfl 0 11 rfl rfl rfl tb1422 tb1419 tb1421 tv33 tb17 ⟨by decide, by decide, by decide +kernel⟩ ⟨Nat.le_of_ble_eq_true rfl, Nat.le_of_ble_eq_true rfl⟩ rfl hl.1 rfl (Nat.le_of_ble_eq_true rfl) dX11_town_6 ⟨Nat.le_of_ble_eq_true rfl, Nat.le_of_ble_eq_true rfl⟩) hP hD hS hA [0, 1, 19, 20] [2, 3, 4, 5, 6, 7, 8, 9, 10, 11, 12, 13, 14, 15, 16, 17, 18, 21, 22, 23, 24, 25] rfl rfl (by decide) (by decide) (fun r_2 w3 H locs hw hP hD hS => ?_)
  have hP : va_P g vwCl [(h5, .inl (aC 1, 10, .inr (.inl (fun _ => 0)))), (h6, .inl (aC 1, 8, .inr (.inl (fun _ => 0)))), (h7, .inl (aC 1, 10, .inr (.inl (fun _ => 0)))), (h8, .inl (aC 1, 8, .inr (.inl (fun _ => 0)))), (h9, .inl (aC 0, 10, .inl (fun _ => 0))), (h10, .inl (aC 0, 20, .inl (fun _ => 0))), (h11, .inl (aC 0, 20, .inl (fun _ => 0))), (h12, .inl (aC 0, 20, .inl (fun _ => 0))), (h13, .inl (aC 0, 20, .inl (fun _ => 0))), (h14, .inl (aC 0, 8, .inl (fun _ => 0))), (h15, .inl (aC 0, 8, .inl (fun _ => 0))), (h16, .inl (aC 0, 10, .inl (fun _ => 0))), (h17, .inl (aC 0, 10, .inl (fun _ => 0))), (h18, .inl (aC 0, 10, .inl (fun _ => 0))), (h19, .inl (aC 0, 10, .inl (fun _ => 0))), (h20, .inl (aC 0, 8, .inl (fun _ => 0))), (h21, .inl (aC 0, 8, .inl (fun _ => 0))), (h24, .inl (aC 0, 2000, .inl (fun _ => 0))), (h38, .inl (aC 0, 6, .inl (fun _ => 0))), (h43, .inl (aC 0, 5, .inl (fun _ => 0))), (h47, .inl (aC 0, 13, .inl (fun _ => 0))), (h51, .inl (aC 3, 4, .inl (fun _ => 0))), (h4, .inl (aC 0, 14, .inl (upd (fun _ => 0) 13 5))), (h22, .inl (aC 0, 2, .inl (upd (fun _ => 0) 1 1000))), (h23, .inl (aC 0, 2, .inl (upd (fun _ => 0) 1 1000))), (h1, .inr (11, [.int 0, .int 0, x2, .int 0, .int 0, .int 0, .int 0, .long 0, .int 0, x3, .ref h4, .ref h5, .ref h6, .ref h7, .ref h8, .ref h9, .ref h10, .ref h11, .ref h12, .ref h13, .ref h14, .ref h15, .ref h16, .ref h17, .ref h18, .ref h19, .ref h20, .ref h21, .ref h22, .ref h23, .ref h24, .int 1000, .int 0, x25, x26, x27, x28, x29, x30, x31, x32, x33, x34, x35, x36, x37, .ref h38, x39, x40, x41, x42, .ref h43, x44, x45, x46, .ref h47, x48, x49, x50, .ref h51, .int 0, x52, x53, x54, x55, x56, x57, x58, x59, x60, x61, x62, x63, x64]))] H := hP
  have hD : va_D A [(h5, .inl (aC 1, 10, .inr (.inl (fun _ => 0)))), (h6, .inl (aC 1, 8, .inr (.inl (fun _ => 0)))), (h7, .inl (aC 1, 10, .inr (.inl (fun _ => 0)))), (h8, .inl (aC 1, 8, .inr (.inl (fun _ => 0)))), (h9, .inl (aC 0, 10, .inl (fun _ => 0))), (h10, .inl (aC 0, 20, .inl (fun _ => 0))), (h11, .inl (aC 0, 20, .inl (fun _ => 0))), (h12, .inl (aC 0, 20, .inl (fun _ => 0))), (h13, .inl (aC 0, 20, .inl (fun _ => 0))), (h14, .inl (aC 0, 8, .inl (fun _ => 0))), (h15, .inl (aC 0, 8, .inl (fun _ => 0))), (h16, .inl (aC 0, 10, .inl (fun _ => 0))), (h17, .inl (aC 0, 10, .inl (fun _ => 0))), (h18, .inl (aC 0, 10, .inl (fun _ => 0))), (h19, .inl (aC 0, 10, .inl (fun _ => 0))), (h20, .inl (aC 0, 8, .inl (fun _ => 0))), (h21, .inl (aC 0, 8, .inl (fun _ => 0))), (h24, .inl (aC 0, 2000, .inl (fun _ => 0))), (h38, .inl (aC 0, 6, .inl (fun _ => 0))), (h43, .inl (aC 0, 5, .inl (fun _ => 0))), (h47, .inl (aC 0, 13, .inl (fun _ => 0))), (h51, .inl (aC 3, 4, .inl (fun _ => 0))), (h4, .inl (aC 0, 14, .inl (upd (fun _ => 0) 13 5))), (h22, .inl (aC 0, 2, .inl (upd (fun _ => 0) 1 1000))), (h23, .inl (aC 0, 2, .inl (upd (fun _ => 0) 1 1000))), (h1, .inr (11, [.int 0, .int 0, x2, .int 0, .int 0, .int 0, .int 0, .long 0, .int 0, x3, .ref h4, .ref h5, .ref h6, .ref h7, .ref h8, .ref h9, .ref h10, .ref h11, .ref h12, .ref h13, .ref h14, .ref h15, .ref h16, .ref h17, .ref h18, .ref h19, .ref h20, .ref h21, .ref h22, .ref h23, .ref h24, .int 1000, .int 0, x25, x26, x27, x28, x29, x30, x31, x32, x33, x34, x35, x36, x37, .ref h38, x39, x40, x41, x42, .ref h43, x44, x45, x46, .ref h47, x48, x49, x50, .ref h51, .int 0, x52, x53, x54, x55, x56, x57, x58, x59, x60, x61, x62, x63, x64]))] := hD
  try dsimp only at hw
  subst hw
  refine lv_if_ne (tgt := 17) hx hb dX11_town_9 (by decide) (fun _ => ?_) (fun c_ => absurd c_ (by decide +kernel))
  refine lv_aload_n hx hb dX11_town_17 rfl (lv_at hl 0 rfl) ?_
  refine goV (wr := [(h38, .inl (aC 0, 6, .inl (fun _ => 0))), (h43, .inl (aC 0, 5, .inl (fun _ => 0))), (h47, .inl (aC 0, 13, .inl (fun _ => 0))), (h51, .inl (aC 3, 4, .inl (fun _ => 0)))]) (runV (n := 0) (As := []) (rest := []) F hP hD hS (a_X11_lays_1 l g aC aM h1 h5 h6 h7 h8 h9 h10 h11 h12 h13 h14 h15 h16 h17 h18 h19 h20 h21 h24 h4 h22 h23 (.int 0) (.int 0) x2 (.int 0) (.int 0) (.int 0) (.int 0) (.long 0) (.int 0) x3 (.int 1000) (.int 0) x25 x26 x27 x28 x29 x30 x31 x32 x33 x34 x35 x36 x37 (.ref h38) x39 x40 x41 x42 (.ref h43) x44 x45 x46 (.ref h47) x48 x49 x50 (.ref h51) (.int 0) x52 x53 x54 x55 x56 x57 x58 x59 x60 x61 x62 x63 x64) [0, 1, 2, 3, 4, 5, 6, 7, 8, 9, 10, 11, 12, 13, 14, 15, 16, 17, 22, 23, 24, 25] (by decide) rfl 25 11 rfl rfl rfl tb1578 tb1575 tb1577 tv63 tb17 ⟨by decide, by decide, by decide +kernel⟩ ⟨Nat.le_of_ble_eq_true rfl, Nat.le_of_ble_eq_true rfl⟩ rfl hl.1 rfl (Nat.le_of_ble_eq_true rfl) dX11_town_18 ⟨Nat.le_of_ble_eq_true rfl, Nat.le_of_ble_eq_true rfl⟩) hP hD hS hA [0, 1, 2, 3, 4, 5, 6, 7, 8, 9, 10, 11, 12, 13, 14, 15, 16, 17, 22, 23, 24, 25] [18, 19, 20, 21] rfl rfl (by decide) (by decide) (fun w7 H locs hw hP hD hS => ?_)
  have hP : va_P g vwCl [(h38, .inl (aC 0, 6, .inl (fun _ => 0))), (h43, .inl (aC 0, 5, .inl (fun _ => 0))), (h47, .inl (aC 0, 13, .inl (fun _ => 0))), (h51, .inl (aC 3, 4, .inl (fun _ => 0))), (h22, .inl (aC 0, 2, .inl (upd (upd (fun _ => 0) 1 1000) 0 0))), (h23, .inl (aC 0, 2, .inl (upd (upd (fun _ => 0) 1 1000) 0 0))), (h1, .inr (11, [.int 0, .int 0, x2, .int 0, .int 0, .int 0, .int 0, .long 0, .int 0, x3, .ref h4, .ref h5, .ref h6, .ref h7, .ref h8, .ref h9, .ref h10, .ref h11, .ref h12, .ref h13, .ref h14, .ref h15, .ref h16, .ref h17, .ref h18, .ref h19, .ref h20, .ref h21, .ref h22, .ref h23, .ref h24, .int 1000, .int 0, x25, x26, x27, x28, x29, x30, x31, x32, x33, x34, x35, x36, x37, .ref h38, x39, x40, x41, x42, .ref h43, x44, x45, x46, .ref h47, x48, x49, x50, .ref h51, .int 0, x52, x53, x54, x55, x56, x57, x58, x59, x60, x61, x62, x63, x64])), (h4, .inl (aC 0, 14, .inl (upd (upd (upd (upd (upd (upd (upd (upd (fun _ => 0) 13 5) 0 0) 1 0) 2 0) 3 0) 4 0) 5 0) 6 5))), (h5, .inl (aC 1, 10, .inr (.inl (fun _ => 0)))), (h6, .inl (aC 1, 8, .inr (.inl (fun _ => 0)))), (h7, .inl (aC 1, 10, .inr (.inl (fun _ => 0)))), (h8, .inl (aC 1, 8, .inr (.inl (fun _ => 0)))), (h9, .inl (aC 0, 10, .inl (fun _ => 0))), (h10, .inl (aC 0, 20, .inl (fun _ => 0))), (h11, .inl (aC 0, 20, .inl (fun _ => 0))), (h12, .inl (aC 0, 20, .inl (fun _ => 0))), (h13, .inl (aC 0, 20, .inl (fun _ => 0))), (h14, .inl (aC 0, 8, .inl (fun _ => 0))), (h15, .inl (aC 0, 8, .inl (fun _ => 0))), (h16, .inl (aC 0, 10, .inl (fun _ => 0))), (h17, .inl (aC 0, 10, .inl (fun _ => 0))), (h18, .inl (aC 0, 10, .inl (fun _ => 0))), (h19, .inl (aC 0, 10, .inl (fun _ => 0))), (h20, .inl (aC 0, 8, .inl (fun _ => 0))), (h21, .inl (aC 0, 8, .inl (fun _ => 0))), (h24, .inl (aC 0, 2000, .inl (fun _ => 0)))] H := hP
  have hD : va_D A [(h38, .inl (aC 0, 6, .inl (fun _ => 0))), (h43, .inl (aC 0, 5, .inl (fun _ => 0))), (h47, .inl (aC 0, 13, .inl (fun _ => 0))), (h51, .inl (aC 3, 4, .inl (fun _ => 0))), (h22, .inl (aC 0, 2, .inl (upd (upd (fun _ => 0) 1 1000) 0 0))), (h23, .inl (aC 0, 2, .inl (upd (upd (fun _ => 0) 1 1000) 0 0))), (h1, .inr (11, [.int 0, .int 0, x2, .int 0, .int 0, .int 0, .int 0, .long 0, .int 0, x3, .ref h4, .ref h5, .ref h6, .ref h7, .ref h8, .ref h9, .ref h10, .ref h11, .ref h12, .ref h13, .ref h14, .ref h15, .ref h16, .ref h17, .ref h18, .ref h19, .ref h20, .ref h21, .ref h22, .ref h23, .ref h24, .int 1000, .int 0, x25, x26, x27, x28, x29, x30, x31, x32, x33, x34, x35, x36, x37, .ref h38, x39, x40, x41, x42, .ref h43, x44, x45, x46, .ref h47, x48, x49, x50, .ref h51, .int 0, x52, x53, x54, x55, x56, x57, x58, x59, x60, x61, x62, x63, x64])), (h4, .inl (aC 0, 14, .inl (upd (upd (upd (upd (upd (upd (upd (upd (fun _ => 0) 13 5) 0 0) 1 0) 2 0) 3 0) 4 0) 5 0) 6 5))), (h5, .inl (aC 1, 10, .inr (.inl (fun _ => 0)))), (h6, .inl (aC 1, 8, .inr (.inl (fun _ => 0)))), (h7, .inl (aC 1, 10, .inr (.inl (fun _ => 0)))), (h8, .inl (aC 1, 8, .inr (.inl (fun _ => 0)))), (h9, .inl (aC 0, 10, .inl (fun _ => 0))), (h10, .inl (aC 0, 20, .inl (fun _ => 0))), (h11, .inl (aC 0, 20, .inl (fun _ => 0))), (h12, .inl (aC 0, 20, .inl (fun _ => 0))), (h13, .inl (aC 0, 20, .inl (fun _ => 0))), (h14, .inl (aC 0, 8, .inl (fun _ => 0))), (h15, .inl (aC 0, 8, .inl (fun _ => 0))), (h16, .inl (aC 0, 10, .inl (fun _ => 0))), (h17, .inl (aC 0, 10, .inl (fun _ => 0))), (h18, .inl (aC 0, 10, .inl (fun _ => 0))), (h19, .inl (aC 0, 10, .inl (fun _ => 0))), (h20, .inl (aC 0, 8, .inl (fun _ => 0))), (h21, .inl (aC 0, 8, .inl (fun _ => 0))), (h24, .inl (aC 0, 2000, .inl (fun _ => 0)))] := hD
  refine lv_aload_n hx hb dX11_town_21 rfl (lv_at hl 0 rfl) ?_
  refine goV (wr := [(h38, .inl (aC 0, 6, .inl (fun _ => 0))), (h43, .inl (aC 0, 5, .inl (fun _ => 0))), (h51, .inl (aC 3, 4, .inl (fun _ => 0))), (h22, .inl (aC 0, 2, .inl (upd (upd (fun _ => 0) 1 1000) 0 0))), (h23, .inl (aC 0, 2, .inl (upd (upd (fun _ => 0) 1 1000) 0 0))), (h5, .inl (aC 1, 10, .inr (.inl (fun _ => 0)))), (h6, .inl (aC 1, 8, .inr (.inl (fun _ => 0)))), (h7, .inl (aC 1, 10, .inr (.inl (fun _ => 0)))), (h8, .inl (aC 1, 8, .inr (.inl (fun _ => 0)))), (h9, .inl (aC 0, 10, .inl (fun _ => 0))), (h10, .inl (aC 0, 20, .inl (fun _ => 0))), (h11, .inl (aC 0, 20, .inl (fun _ => 0))), (h12, .inl (aC 0, 20, .inl (fun _ => 0))), (h13, .inl (aC 0, 20, .inl (fun _ => 0))), (h14, .inl (aC 0, 8, .inl (fun _ => 0))), (h15, .inl (aC 0, 8, .inl (fun _ => 0))), (h16, .inl (aC 0, 10, .inl (fun _ => 0))), (h17, .inl (aC 0, 10, .inl (fun _ => 0))), (h18, .inl (aC 0, 10, .inl (fun _ => 0))), (h19, .inl (aC 0, 10, .inl (fun _ => 0))), (h20, .inl (aC 0, 8, .inl (fun _ => 0))), (h21, .inl (aC 0, 8, .inl (fun _ => 0))), (h24, .inl (aC 0, 2000, .inl (fun _ => 0)))]) (runV (n := 0) (As := []) (rest := []) F hP hD hS (a_X11_fresh_1 l g aC aM h1 h47 h4 (.int 0) (.int 0) x2 (.int 0) (.int 0) (.int 0) (.int 0) (.long 0) (.int 0) x3 (.ref h5) (.ref h6) (.ref h7) (.ref h8) (.ref h9) (.ref h10) (.ref h11) (.ref h12) (.ref h13) (.ref h14) (.ref h15) (.ref h16) (.ref h17) (.ref h18) (.ref h19) (.ref h20) (.ref h21) (.ref h22) (.ref h23) (.ref h24) (.int 1000) (.int 0) x25 x26 x27 x28 x29 x30 x31 x32 x33 x34 x35 x36 x37 (.ref h38) x39 x40 x41 x42 (.ref h43) x44 x45 x46 x48 x49 x50 (.ref h51) (.int 0) x52 x53 x54 x55 x56 x57 x58 x59 x60 x61 x62 x63 x64) [2, 6, 7] (by decide) rfl 6 11 rfl rfl rfl tb1588 tb1585 tb1587 tv64 tb17 ⟨by decide, by decide, by decide +kernel⟩ ⟨Nat.le_of_ble_eq_true rfl, Nat.le_of_ble_eq_true rfl⟩ rfl hl.1 rfl (Nat.le_of_ble_eq_true rfl) dX11_town_22 ⟨Nat.le_of_ble_eq_true rfl, Nat.le_of_ble_eq_true rfl⟩) hP hD hS hA [2, 6, 7] [0, 1, 3, 4, 5, 8, 9, 10, 11, 12, 13, 14, 15, 16, 17, 18, 19, 20, 21, 22, 23, 24, 25] rfl rfl (by decide) (by decide) (fun w10 H locs hw hP hD hS => ?_)
  have hP : va_P g vwCl [(h38, .inl (aC 0, 6, .inl (fun _ => 0))), (h43, .inl (aC 0, 5, .inl (fun _ => 0))), (h51, .inl (aC 3, 4, .inl (fun _ => 0))), (h22, .inl (aC 0, 2, .inl (upd (upd (fun _ => 0) 1 1000) 0 0))), (h23, .inl (aC 0, 2, .inl (upd (upd (fun _ => 0) 1 1000) 0 0))), (h5, .inl (aC 1, 10, .inr (.inl (fun _ => 0)))), (h6, .inl (aC 1, 8, .inr (.inl (fun _ => 0)))), (h7, .inl (aC 1, 10, .inr (.inl (fun _ => 0)))), (h8, .inl (aC 1, 8, .inr (.inl (fun _ => 0)))), (h9, .inl (aC 0, 10, .inl (fun _ => 0))), (h10, .inl (aC 0, 20, .inl (fun _ => 0))), (h11, .inl (aC 0, 20, .inl (fun _ => 0))), (h12, .inl (aC 0, 20, .inl (fun _ => 0))), (h13, .inl (aC 0, 20, .inl (fun _ => 0))), (h14, .inl (aC 0, 8, .inl (fun _ => 0))), (h15, .inl (aC 0, 8, .inl (fun _ => 0))), (h16, .inl (aC 0, 10, .inl (fun _ => 0))), (h17, .inl (aC 0, 10, .inl (fun _ => 0))), (h18, .inl (aC 0, 10, .inl (fun _ => 0))), (h19, .inl (aC 0, 10, .inl (fun _ => 0))), (h20, .inl (aC 0, 8, .inl (fun _ => 0))), (h21, .inl (aC 0, 8, .inl (fun _ => 0))), (h24, .inl (aC 0, 2000, .inl (fun _ => 0))), (h47, .inl (aC 0, 13, .inl (fun _ => 0))), (h1, .inr (11, [.int 0, .int 0, x2, .int 0, .int 0, .int 0, .int 0, .long 0, .int 0, x3, .ref h4, .ref h5, .ref h6, .ref h7, .ref h8, .ref h9, .ref h10, .ref h11, .ref h12, .ref h13, .ref h14, .ref h15, .ref h16, .ref h17, .ref h18, .ref h19, .ref h20, .ref h21, .ref h22, .ref h23, .ref h24, .int 1000, .int 0, x25, x26, x27, x28, x29, x30, x31, x32, x33, x34, x35, x36, x37, .ref h38, x39, x40, x41, x42, .ref h43, x44, x45, x46, .ref h47, x48, x49, x50, .ref h51, .int 0, x52, x53, x54, x55, x56, x57, x58, x59, x60, x61, x62, x63, x64])), (h4, .inl (aC 0, 14, .inl (upd (upd (upd (upd (upd (upd (upd (upd (fun _ => 0) 13 5) 0 0) 1 0) 2 0) 3 0) 4 0) 5 0) 6 5)))] H := hP
  have hD : va_D A [(h38, .inl (aC 0, 6, .inl (fun _ => 0))), (h43, .inl (aC 0, 5, .inl (fun _ => 0))), (h51, .inl (aC 3, 4, .inl (fun _ => 0))), (h22, .inl (aC 0, 2, .inl (upd (upd (fun _ => 0) 1 1000) 0 0))), (h23, .inl (aC 0, 2, .inl (upd (upd (fun _ => 0) 1 1000) 0 0))), (h5, .inl (aC 1, 10, .inr (.inl (fun _ => 0)))), (h6, .inl (aC 1, 8, .inr (.inl (fun _ => 0)))), (h7, .inl (aC 1, 10, .inr (.inl (fun _ => 0)))), (h8, .inl (aC 1, 8, .inr (.inl (fun _ => 0)))), (h9, .inl (aC 0, 10, .inl (fun _ => 0))), (h10, .inl (aC 0, 20, .inl (fun _ => 0))), (h11, .inl (aC 0, 20, .inl (fun _ => 0))), (h12, .inl (aC 0, 20, .inl (fun _ => 0))), (h13, .inl (aC 0, 20, .inl (fun _ => 0))), (h14, .inl (aC 0, 8, .inl (fun _ => 0))), (h15, .inl (aC 0, 8, .inl (fun _ => 0))), (h16, .inl (aC 0, 10, .inl (fun _ => 0))), (h17, .inl (aC 0, 10, .inl (fun _ => 0))), (h18, .inl (aC 0, 10, .inl (fun _ => 0))), (h19, .inl (aC 0, 10, .inl (fun _ => 0))), (h20, .inl (aC 0, 8, .inl (fun _ => 0))), (h21, .inl (aC 0, 8, .inl (fun _ => 0))), (h24, .inl (aC 0, 2000, .inl (fun _ => 0))), (h47, .inl (aC 0, 13, .inl (fun _ => 0))), (h1, .inr (11, [.int 0, .int 0, x2, .int 0, .int 0, .int 0, .int 0, .long 0, .int 0, x3, .ref h4, .ref h5, .ref h6, .ref h7, .ref h8, .ref h9, .ref h10, .ref h11, .ref h12, .ref h13, .ref h14, .ref h15, .ref h16, .ref h17, .ref h18, .ref h19, .ref h20, .ref h21, .ref h22, .ref h23, .ref h24, .int 1000, .int 0, x25, x26, x27, x28, x29, x30, x31, x32, x33, x34, x35, x36, x37, .ref h38, x39, x40, x41, x42, .ref h43, x44, x45, x46, .ref h47, x48, x49, x50, .ref h51, .int 0, x52, x53, x54, x55, x56, x57, x58, x59, x60, x61, x62, x63, x64])), (h4, .inl (aC 0, 14, .inl (upd (upd (upd (upd (upd (upd (upd (upd (fun _ => 0) 13 5) 0 0) 1 0) 2 0) 3 0) 4 0) 5 0) 6 5)))] := hD
  refine lv_aload_n hx hb dX11_town_25 rfl (lv_at hl 0 rfl) ?_
  refine xget F hP 24 rfl rfl inX11 46 (by decide) tb1228 rfl dX11_town_26 ?_
  refine lv_iconst (v := 0) hx hb dX11_town_29 (by decide) ?_
  refine lv_iconst (v := 0) hx hb dX11_town_30 (by decide) ?_
  refine xist (f' := fun _ => 0) F hP hD hS 0 rfl 0 (by decide +kernel) (by decide +kernel) (by decide) (xup0 _) dX11_town_31 (fun H locs hP hD hS => ?_)
  have hP : va_P g vwCl [(h38, .inl (aC 0, 6, .inl (fun _ => 0))), (h43, .inl (aC 0, 5, .inl (fun _ => 0))), (h51, .inl (aC 3, 4, .inl (fun _ => 0))), (h22, .inl (aC 0, 2, .inl (upd (upd (fun _ => 0) 1 1000) 0 0))), (h23, .inl (aC 0, 2, .inl (upd (upd (fun _ => 0) 1 1000) 0 0))), (h5, .inl (aC 1, 10, .inr (.inl (fun _ => 0)))), (h6, .inl (aC 1, 8, .inr (.inl (fun _ => 0)))), (h7, .inl (aC 1, 10, .inr (.inl (fun _ => 0)))), (h8, .inl (aC 1, 8, .inr (.inl (fun _ => 0)))), (h9, .inl (aC 0, 10, .inl (fun _ => 0))), (h10, .inl (aC 0, 20, .inl (fun _ => 0))), (h11, .inl (aC 0, 20, .inl (fun _ => 0))), (h12, .inl (aC 0, 20, .inl (fun _ => 0))), (h13, .inl (aC 0, 20, .inl (fun _ => 0))), (h14, .inl (aC 0, 8, .inl (fun _ => 0))), (h15, .inl (aC 0, 8, .inl (fun _ => 0))), (h16, .inl (aC 0, 10, .inl (fun _ => 0))), (h17, .inl (aC 0, 10, .inl (fun _ => 0))), (h18, .inl (aC 0, 10, .inl (fun _ => 0))), (h19, .inl (aC 0, 10, .inl (fun _ => 0))), (h20, .inl (aC 0, 8, .inl (fun _ => 0))), (h21, .inl (aC 0, 8, .inl (fun _ => 0))), (h24, .inl (aC 0, 2000, .inl (fun _ => 0))), (h47, .inl (aC 0, 13, .inl (fun _ => 0))), (h1, .inr (11, [.int 0, .int 0, x2, .int 0, .int 0, .int 0, .int 0, .long 0, .int 0, x3, .ref h4, .ref h5, .ref h6, .ref h7, .ref h8, .ref h9, .ref h10, .ref h11, .ref h12, .ref h13, .ref h14, .ref h15, .ref h16, .ref h17, .ref h18, .ref h19, .ref h20, .ref h21, .ref h22, .ref h23, .ref h24, .int 1000, .int 0, x25, x26, x27, x28, x29, x30, x31, x32, x33, x34, x35, x36, x37, .ref h38, x39, x40, x41, x42, .ref h43, x44, x45, x46, .ref h47, x48, x49, x50, .ref h51, .int 0, x52, x53, x54, x55, x56, x57, x58, x59, x60, x61, x62, x63, x64])), (h4, .inl (aC 0, 14, .inl (upd (upd (upd (upd (upd (upd (upd (upd (fun _ => 0) 13 5) 0 0) 1 0) 2 0) 3 0) 4 0) 5 0) 6 5)))] H := hP
  have hD : va_D A [(h38, .inl (aC 0, 6, .inl (fun _ => 0))), (h43, .inl (aC 0, 5, .inl (fun _ => 0))), (h51, .inl (aC 3, 4, .inl (fun _ => 0))), (h22, .inl (aC 0, 2, .inl (upd (upd (fun _ => 0) 1 1000) 0 0))), (h23, .inl (aC 0, 2, .inl (upd (upd (fun _ => 0) 1 1000) 0 0))), (h5, .inl (aC 1, 10, .inr (.inl (fun _ => 0)))), (h6, .inl (aC 1, 8, .inr (.inl (fun _ => 0)))), (h7, .inl (aC 1, 10, .inr (.inl (fun _ => 0)))), (h8, .inl (aC 1, 8, .inr (.inl (fun _ => 0)))), (h9, .inl (aC 0, 10, .inl (fun _ => 0))), (h10, .inl (aC 0, 20, .inl (fun _ => 0))), (h11, .inl (aC 0, 20, .inl (fun _ => 0))), (h12, .inl (aC 0, 20, .inl (fun _ => 0))), (h13, .inl (aC 0, 20, .inl (fun _ => 0))), (h14, .inl (aC 0, 8, .inl (fun _ => 0))), (h15, .inl (aC 0, 8, .inl (fun _ => 0))), (h16, .inl (aC 0, 10, .inl (fun _ => 0))), (h17, .inl (aC 0, 10, .inl (fun _ => 0))), (h18, .inl (aC 0, 10, .inl (fun _ => 0))), (h19, .inl (aC 0, 10, .inl (fun _ => 0))), (h20, .inl (aC 0, 8, .inl (fun _ => 0))), (h21, .inl (aC 0, 8, .inl (fun _ => 0))), (h24, .inl (aC 0, 2000, .inl (fun _ => 0))), (h47, .inl (aC 0, 13, .inl (fun _ => 0))), (h1, .inr (11, [.int 0, .int 0, x2, .int 0, .int 0, .int 0, .int 0, .long 0, .int 0, x3, .ref h4, .ref h5, .ref h6, .ref h7, .ref h8, .ref h9, .ref h10, .ref h11, .ref h12, .ref h13, .ref h14, .ref h15, .ref h16, .ref h17, .ref h18, .ref h19, .ref h20, .ref h21, .ref h22, .ref h23, .ref h24, .int 1000, .int 0, x25, x26, x27, x28, x29, x30, x31, x32, x33, x34, x35, x36, x37, .ref h38, x39, x40, x41, x42, .ref h43, x44, x45, x46, .ref h47, x48, x49, x50, .ref h51, .int 0, x52, x53, x54, x55, x56, x57, x58, x59, x60, x61, x62, x63, x64])), (h4, .inl (aC 0, 14, .inl (upd (upd (upd (upd (upd (upd (upd (upd (fun _ => 0) 13 5) 0 0) 1 0) 2 0) 3 0) 4 0) 5 0) 6 5)))] := hD
  refine lv_aload_n hx hb dX11_town_32 rfl (lv_at hl 0 rfl) ?_
  refine xget F hP 24 rfl rfl inX11 51 (by decide) tb1233 rfl dX11_town_33 ?_
  refine lv_iconst (v := 0) hx hb dX11_town_36 (by decide) ?_
  refine lv_iconst (v := 0) hx hb dX11_town_37 (by decide) ?_
  refine xist (f' := fun _ => 0) F hP hD hS 1 rfl 0 (by decide +kernel) (by decide +kernel) (by decide) (xup0 _) dX11_town_38 (fun H locs hP hD hS => ?_)
  have hP : va_P g vwCl [(h38, .inl (aC 0, 6, .inl (fun _ => 0))), (h43, .inl (aC 0, 5, .inl (fun _ => 0))), (h51, .inl (aC 3, 4, .inl (fun _ => 0))), (h22, .inl (aC 0, 2, .inl (upd (upd (fun _ => 0) 1 1000) 0 0))), (h23, .inl (aC 0, 2, .inl (upd (upd (fun _ => 0) 1 1000) 0 0))), (h5, .inl (aC 1, 10, .inr (.inl (fun _ => 0)))), (h6, .inl (aC 1, 8, .inr (.inl (fun _ => 0)))), (h7, .inl (aC 1, 10, .inr (.inl (fun _ => 0)))), (h8, .inl (aC 1, 8, .inr (.inl (fun _ => 0)))), (h9, .inl (aC 0, 10, .inl (fun _ => 0))), (h10, .inl (aC 0, 20, .inl (fun _ => 0))), (h11, .inl (aC 0, 20, .inl (fun _ => 0))), (h12, .inl (aC 0, 20, .inl (fun _ => 0))), (h13, .inl (aC 0, 20, .inl (fun _ => 0))), (h14, .inl (aC 0, 8, .inl (fun _ => 0))), (h15, .inl (aC 0, 8, .inl (fun _ => 0))), (h16, .inl (aC 0, 10, .inl (fun _ => 0))), (h17, .inl (aC 0, 10, .inl (fun _ => 0))), (h18, .inl (aC 0, 10, .inl (fun _ => 0))), (h19, .inl (aC 0, 10, .inl (fun _ => 0))), (h20, .inl (aC 0, 8, .inl (fun _ => 0))), (h21, .inl (aC 0, 8, .inl (fun _ => 0))), (h24, .inl (aC 0, 2000, .inl (fun _ => 0))), (h47, .inl (aC 0, 13, .inl (fun _ => 0))), (h1, .inr (11, [.int 0, .int 0, x2, .int 0, .int 0, .int 0, .int 0, .long 0, .int 0, x3, .ref h4, .ref h5, .ref h6, .ref h7, .ref h8, .ref h9, .ref h10, .ref h11, .ref h12, .ref h13, .ref h14, .ref h15, .ref h16, .ref h17, .ref h18, .ref h19, .ref h20, .ref h21, .ref h22, .ref h23, .ref h24, .int 1000, .int 0, x25, x26, x27, x28, x29, x30, x31, x32, x33, x34, x35, x36, x37, .ref h38, x39, x40, x41, x42, .ref h43, x44, x45, x46, .ref h47, x48, x49, x50, .ref h51, .int 0, x52, x53, x54, x55, x56, x57, x58, x59, x60, x61, x62, x63, x64])), (h4, .inl (aC 0, 14, .inl (upd (upd (upd (upd (upd (upd (upd (upd (fun _ => 0) 13 5) 0 0) 1 0) 2 0) 3 0) 4 0) 5 0) 6 5)))] H := hP
  have hD : va_D A [(h38, .inl (aC 0, 6, .inl (fun _ => 0))), (h43, .inl (aC 0, 5, .inl (fun _ => 0))), (h51, .inl (aC 3, 4, .inl (fun _ => 0))), (h22, .inl (aC 0, 2, .inl (upd (upd (fun _ => 0) 1 1000) 0 0))), (h23, .inl (aC 0, 2, .inl (upd (upd (fun _ => 0) 1 1000) 0 0))), (h5, .inl (aC 1, 10, .inr (.inl (fun _ => 0)))), (h6, .inl (aC 1, 8, .inr (.inl (fun _ => 0)))), (h7, .inl (aC 1, 10, .inr (.inl (fun _ => 0)))), (h8, .inl (aC 1, 8, .inr (.inl (fun _ => 0)))), (h9, .inl (aC 0, 10, .inl (fun _ => 0))), (h10, .inl (aC 0, 20, .inl (fun _ => 0))), (h11, .inl (aC 0, 20, .inl (fun _ => 0))), (h12, .inl (aC 0, 20, .inl (fun _ => 0))), (h13, .inl (aC 0, 20, .inl (fun _ => 0))), (h14, .inl (aC 0, 8, .inl (fun _ => 0))), (h15, .inl (aC 0, 8, .inl (fun _ => 0))), (h16, .inl (aC 0, 10, .inl (fun _ => 0))), (h17, .inl (aC 0, 10, .inl (fun _ => 0))), (h18, .inl (aC 0, 10, .inl (fun _ => 0))), (h19, .inl (aC 0, 10, .inl (fun _ => 0))), (h20, .inl (aC 0, 8, .inl (fun _ => 0))), (h21, .inl (aC 0, 8, .inl (fun _ => 0))), (h24, .inl (aC 0, 2000, .inl (fun _ => 0))), (h47, .inl (aC 0, 13, .inl (fun _ => 0))), (h1, .inr (11, [.int 0, .int 0, x2, .int 0, .int 0, .int 0, .int 0, .long 0, .int 0, x3, .ref h4, .ref h5, .ref h6, .ref h7, .ref h8, .ref h9, .ref h10, .ref h11, .ref h12, .ref h13, .ref h14, .ref h15, .ref h16, .ref h17, .ref h18, .ref h19, .ref h20, .ref h21, .ref h22, .ref h23, .ref h24, .int 1000, .int 0, x25, x26, x27, x28, x29, x30, x31, x32, x33, x34, x35, x36, x37, .ref h38, x39, x40, x41, x42, .ref h43, x44, x45, x46, .ref h47, x48, x49, x50, .ref h51, .int 0, x52, x53, x54, x55, x56, x57, x58, x59, x60, x61, x62, x63, x64])), (h4, .inl (aC 0, 14, .inl (upd (upd (upd (upd (upd (upd (upd (upd (fun _ => 0) 13 5) 0 0) 1 0) 2 0) 3 0) 4 0) 5 0) 6 5)))] := hD
  refine lv_aload_n hx hb dX11_town_39 rfl (lv_at hl 0 rfl) ?_
  refine lv_iconst (v := 0) hx hb dX11_town_40 (by decide) ?_
  refine xput F hP hD hS 24 rfl rfl inX11 tyX11_ok nmX11 60 (by decide) tb1242 rfl rfl rfl (Nat.le_of_ble_eq_true rfl) dX11_town_41 (fun H locs hP hD hS => ?_)
  have hP : va_P g vwCl [(h38, .inl (aC 0, 6, .inl (fun _ => 0))), (h43, .inl (aC 0, 5, .inl (fun _ => 0))), (h51, .inl (aC 3, 4, .inl (fun _ => 0))), (h22, .inl (aC 0, 2, .inl (upd (upd (fun _ => 0) 1 1000) 0 0))), (h23, .inl (aC 0, 2, .inl (upd (upd (fun _ => 0) 1 1000) 0 0))), (h5, .inl (aC 1, 10, .inr (.inl (fun _ => 0)))), (h6, .inl (aC 1, 8, .inr (.inl (fun _ => 0)))), (h7, .inl (aC 1, 10, .inr (.inl (fun _ => 0)))), (h8, .inl (aC 1, 8, .inr (.inl (fun _ => 0)))), (h9, .inl (aC 0, 10, .inl (fun _ => 0))), (h10, .inl (aC 0, 20, .inl (fun _ => 0))), (h11, .inl (aC 0, 20, .inl (fun _ => 0))), (h12, .inl (aC 0, 20, .inl (fun _ => 0))), (h13, .inl (aC 0, 20, .inl (fun _ => 0))), (h14, .inl (aC 0, 8, .inl (fun _ => 0))), (h15, .inl (aC 0, 8, .inl (fun _ => 0))), (h16, .inl (aC 0, 10, .inl (fun _ => 0))), (h17, .inl (aC 0, 10, .inl (fun _ => 0))), (h18, .inl (aC 0, 10, .inl (fun _ => 0))), (h19, .inl (aC 0, 10, .inl (fun _ => 0))), (h20, .inl (aC 0, 8, .inl (fun _ => 0))), (h21, .inl (aC 0, 8, .inl (fun _ => 0))), (h24, .inl (aC 0, 2000, .inl (fun _ => 0))), (h47, .inl (aC 0, 13, .inl (fun _ => 0))), (h1, .inr (11, [.int 0, .int 0, x2, .int 0, .int 0, .int 0, .int 0, .long 0, .int 0, x3, .ref h4, .ref h5, .ref h6, .ref h7, .ref h8, .ref h9, .ref h10, .ref h11, .ref h12, .ref h13, .ref h14, .ref h15, .ref h16, .ref h17, .ref h18, .ref h19, .ref h20, .ref h21, .ref h22, .ref h23, .ref h24, .int 1000, .int 0, x25, x26, x27, x28, x29, x30, x31, x32, x33, x34, x35, x36, x37, .ref h38, x39, x40, x41, x42, .ref h43, x44, x45, x46, .ref h47, x48, x49, x50, .ref h51, .int 0, x52, x53, x54, x55, x56, x57, x58, x59, x60, x61, x62, x63, x64])), (h4, .inl (aC 0, 14, .inl (upd (upd (upd (upd (upd (upd (upd (upd (fun _ => 0) 13 5) 0 0) 1 0) 2 0) 3 0) 4 0) 5 0) 6 5)))] H := hP
  have hD : va_D A [(h38, .inl (aC 0, 6, .inl (fun _ => 0))), (h43, .inl (aC 0, 5, .inl (fun _ => 0))), (h51, .inl (aC 3, 4, .inl (fun _ => 0))), (h22, .inl (aC 0, 2, .inl (upd (upd (fun _ => 0) 1 1000) 0 0))), (h23, .inl (aC 0, 2, .inl (upd (upd (fun _ => 0) 1 1000) 0 0))), (h5, .inl (aC 1, 10, .inr (.inl (fun _ => 0)))), (h6, .inl (aC 1, 8, .inr (.inl (fun _ => 0)))), (h7, .inl (aC 1, 10, .inr (.inl (fun _ => 0)))), (h8, .inl (aC 1, 8, .inr (.inl (fun _ => 0)))), (h9, .inl (aC 0, 10, .inl (fun _ => 0))), (h10, .inl (aC 0, 20, .inl (fun _ => 0))), (h11, .inl (aC 0, 20, .inl (fun _ => 0))), (h12, .inl (aC 0, 20, .inl (fun _ => 0))), (h13, .inl (aC 0, 20, .inl (fun _ => 0))), (h14, .inl (aC 0, 8, .inl (fun _ => 0))), (h15, .inl (aC 0, 8, .inl (fun _ => 0))), (h16, .inl (aC 0, 10, .inl (fun _ => 0))), (h17, .inl (aC 0, 10, .inl (fun _ => 0))), (h18, .inl (aC 0, 10, .inl (fun _ => 0))), (h19, .inl (aC 0, 10, .inl (fun _ => 0))), (h20, .inl (aC 0, 8, .inl (fun _ => 0))), (h21, .inl (aC 0, 8, .inl (fun _ => 0))), (h24, .inl (aC 0, 2000, .inl (fun _ => 0))), (h47, .inl (aC 0, 13, .inl (fun _ => 0))), (h1, .inr (11, [.int 0, .int 0, x2, .int 0, .int 0, .int 0, .int 0, .long 0, .int 0, x3, .ref h4, .ref h5, .ref h6, .ref h7, .ref h8, .ref h9, .ref h10, .ref h11, .ref h12, .ref h13, .ref h14, .ref h15, .ref h16, .ref h17, .ref h18, .ref h19, .ref h20, .ref h21, .ref h22, .ref h23, .ref h24, .int 1000, .int 0, x25, x26, x27, x28, x29, x30, x31, x32, x33, x34, x35, x36, x37, .ref h38, x39, x40, x41, x42, .ref h43, x44, x45, x46, .ref h47, x48, x49, x50, .ref h51, .int 0, x52, x53, x54, x55, x56, x57, x58, x59, x60, x61, x62, x63, x64])), (h4, .inl (aC 0, 14, .inl (upd (upd (upd (upd (upd (upd (upd (upd (fun _ => 0) 13 5) 0 0) 1 0) 2 0) 3 0) 4 0) 5 0) 6 5)))] := hD
  refine lv_iconst (v := 0) hx hb dX11_town_44 (by decide) ?_
  refine lv_istore_n (lv' := [(1, .int 0), (0, .ref h1)]) hx hb dX11_town_45 rfl hl (by decide) rfl (fun ls hl => ?_)
  refine lv_iload_n hx hb dX11_town_46 rfl (lv_at hl 0 rfl) ?_
  refine lv_iconst (v := 4) hx hb dX11_town_47 (by decide) ?_
  refine lv_icmp_ge (tgt := 64) hx hb dX11_town_48 (by decide) (fun c_ => absurd c_ (by decide +kernel)) (fun _ => ?_)
  refine lv_aload_n hx hb dX11_town_51 rfl (lv_at hl 1 rfl) ?_
  refine xget F hP 24 rfl rfl inX11 59 (by decide) tb1241 rfl dX11_town_52 ?_
  refine lv_iload_n hx hb dX11_town_55 rfl (lv_at hl 0 rfl) ?_
  refine lv_iconst (v := 0) hx hb dX11_town_56 (by decide) ?_
  refine xzst (f' := fun _ => 0) F hP hD hS 2 rfl 0 (by decide +kernel) (by decide +kernel) (by decide) (xz0 _ (by decide +kernel)) dX11_town_57 (fun H locs hP hD hS => ?_)
  have hP : va_P g vwCl [(h38, .inl (aC 0, 6, .inl (fun _ => 0))), (h43, .inl (aC 0, 5, .inl (fun _ => 0))), (h51, .inl (aC 3, 4, .inl (fun _ => 0))), (h22, .inl (aC 0, 2, .inl (upd (upd (fun _ => 0) 1 1000) 0 0))), (h23, .inl (aC 0, 2, .inl (upd (upd (fun _ => 0) 1 1000) 0 0))), (h5, .inl (aC 1, 10, .inr (.inl (fun _ => 0)))), (h6, .inl (aC 1, 8, .inr (.inl (fun _ => 0)))), (h7, .inl (aC 1, 10, .inr (.inl (fun _ => 0)))), (h8, .inl (aC 1, 8, .inr (.inl (fun _ => 0)))), (h9, .inl (aC 0, 10, .inl (fun _ => 0))), (h10, .inl (aC 0, 20, .inl (fun _ => 0))), (h11, .inl (aC 0, 20, .inl (fun _ => 0))), (h12, .inl (aC 0, 20, .inl (fun _ => 0))), (h13, .inl (aC 0, 20, .inl (fun _ => 0))), (h14, .inl (aC 0, 8, .inl (fun _ => 0))), (h15, .inl (aC 0, 8, .inl (fun _ => 0))), (h16, .inl (aC 0, 10, .inl (fun _ => 0))), (h17, .inl (aC 0, 10, .inl (fun _ => 0))), (h18, .inl (aC 0, 10, .inl (fun _ => 0))), (h19, .inl (aC 0, 10, .inl (fun _ => 0))), (h20, .inl (aC 0, 8, .inl (fun _ => 0))), (h21, .inl (aC 0, 8, .inl (fun _ => 0))), (h24, .inl (aC 0, 2000, .inl (fun _ => 0))), (h47, .inl (aC 0, 13, .inl (fun _ => 0))), (h1, .inr (11, [.int 0, .int 0, x2, .int 0, .int 0, .int 0, .int 0, .long 0, .int 0, x3, .ref h4, .ref h5, .ref h6, .ref h7, .ref h8, .ref h9, .ref h10, .ref h11, .ref h12, .ref h13, .ref h14, .ref h15, .ref h16, .ref h17, .ref h18, .ref h19, .ref h20, .ref h21, .ref h22, .ref h23, .ref h24, .int 1000, .int 0, x25, x26, x27, x28, x29, x30, x31, x32, x33, x34, x35, x36, x37, .ref h38, x39, x40, x41, x42, .ref h43, x44, x45, x46, .ref h47, x48, x49, x50, .ref h51, .int 0, x52, x53, x54, x55, x56, x57, x58, x59, x60, x61, x62, x63, x64])), (h4, .inl (aC 0, 14, .inl (upd (upd (upd (upd (upd (upd (upd (upd (fun _ => 0) 13 5) 0 0) 1 0) 2 0) 3 0) 4 0) 5 0) 6 5)))] H := hP
  have hD : va_D A [(h38, .inl (aC 0, 6, .inl (fun _ => 0))), (h43, .inl (aC 0, 5, .inl (fun _ => 0))), (h51, .inl (aC 3, 4, .inl (fun _ => 0))), (h22, .inl (aC 0, 2, .inl (upd (upd (fun _ => 0) 1 1000) 0 0))), (h23, .inl (aC 0, 2, .inl (upd (upd (fun _ => 0) 1 1000) 0 0))), (h5, .inl (aC 1, 10, .inr (.inl (fun _ => 0)))), (h6, .inl (aC 1, 8, .inr (.inl (fun _ => 0)))), (h7, .inl (aC 1, 10, .inr (.inl (fun _ => 0)))), (h8, .inl (aC 1, 8, .inr (.inl (fun _ => 0)))), (h9, .inl (aC 0, 10, .inl (fun _ => 0))), (h10, .inl (aC 0, 20, .inl (fun _ => 0))), (h11, .inl (aC 0, 20, .inl (fun _ => 0))), (h12, .inl (aC 0, 20, .inl (fun _ => 0))), (h13, .inl (aC 0, 20, .inl (fun _ => 0))), (h14, .inl (aC 0, 8, .inl (fun _ => 0))), (h15, .inl (aC 0, 8, .inl (fun _ => 0))), (h16, .inl (aC 0, 10, .inl (fun _ => 0))), (h17, .inl (aC 0, 10, .inl (fun _ => 0))), (h18, .inl (aC 0, 10, .inl (fun _ => 0))), (h19, .inl (aC 0, 10, .inl (fun _ => 0))), (h20, .inl (aC 0, 8, .inl (fun _ => 0))), (h21, .inl (aC 0, 8, .inl (fun _ => 0))), (h24, .inl (aC 0, 2000, .inl (fun _ => 0))), (h47, .inl (aC 0, 13, .inl (fun _ => 0))), (h1, .inr (11, [.int 0, .int 0, x2, .int 0, .int 0, .int 0, .int 0, .long 0, .int 0, x3, .ref h4, .ref h5, .ref h6, .ref h7, .ref h8, .ref h9, .ref h10, .ref h11, .ref h12, .ref h13, .ref h14, .ref h15, .ref h16, .ref h17, .ref h18, .ref h19, .ref h20, .ref h21, .ref h22, .ref h23, .ref h24, .int 1000, .int 0, x25, x26, x27, x28, x29, x30, x31, x32, x33, x34, x35, x36, x37, .ref h38, x39, x40, x41, x42, .ref h43, x44, x45, x46, .ref h47, x48, x49, x50, .ref h51, .int 0, x52, x53, x54, x55, x56, x57, x58, x59, x60, x61, x62, x63, x64])), (h4, .inl (aC 0, 14, .inl (upd (upd (upd (upd (upd (upd (upd (upd (fun _ => 0) 13 5) 0 0) 1 0) 2 0) 3 0) 4 0) 5 0) 6 5)))] := hD
  refine lv_iinc (v := 1) (lv' := [(1, .int 1), (0, .ref h1)]) hx hb dX11_town_58 hl (k := 0) rfl (by decide +kernel) (by decide) rfl (fun ls hl => ?_)
  refine lv_goto (tgt := 46) hx hb dX11_town_61 (by decide) ?_
  refine lv_iload_n hx hb dX11_town_46 rfl (lv_at hl 0 rfl) ?_
  refine lv_iconst (v := 4) hx hb dX11_town_47 (by decide) ?_
  refine lv_icmp_ge (tgt := 64) hx hb dX11_town_48 (by decide) (fun c_ => absurd c_ (by decide +kernel)) (fun _ => ?_)
  refine lv_aload_n hx hb dX11_town_51 rfl (lv_at hl 1 rfl) ?_
  refine xget F hP 24 rfl rfl inX11 59 (by decide) tb1241 rfl dX11_town_52 ?_
  refine lv_iload_n hx hb dX11_town_55 rfl (lv_at hl 0 rfl) ?_
  refine lv_iconst (v := 0) hx hb dX11_town_56 (by decide) ?_
  refine xzst (f' := fun _ => 0) F hP hD hS 2 rfl 1 (by decide +kernel) (by decide +kernel) (by decide) (xz0 _ (by decide +kernel)) dX11_town_57 (fun H locs hP hD hS => ?_)
  have hP : va_P g vwCl [(h38, .inl (aC 0, 6, .inl (fun _ => 0))), (h43, .inl (aC 0, 5, .inl (fun _ => 0))), (h51, .inl (aC 3, 4, .inl (fun _ => 0))), (h22, .inl (aC 0, 2, .inl (upd (upd (fun _ => 0) 1 1000) 0 0))), (h23, .inl (aC 0, 2, .inl (upd (upd (fun _ => 0) 1 1000) 0 0))), (h5, .inl (aC 1, 10, .inr (.inl (fun _ => 0)))), (h6, .inl (aC 1, 8, .inr (.inl (fun _ => 0)))), (h7, .inl (aC 1, 10, .inr (.inl (fun _ => 0)))), (h8, .inl (aC 1, 8, .inr (.inl (fun _ => 0)))), (h9, .inl (aC 0, 10, .inl (fun _ => 0))), (h10, .inl (aC 0, 20, .inl (fun _ => 0))), (h11, .inl (aC 0, 20, .inl (fun _ => 0))), (h12, .inl (aC 0, 20, .inl (fun _ => 0))), (h13, .inl (aC 0, 20, .inl (fun _ => 0))), (h14, .inl (aC 0, 8, .inl (fun _ => 0))), (h15, .inl (aC 0, 8, .inl (fun _ => 0))), (h16, .inl (aC 0, 10, .inl (fun _ => 0))), (h17, .inl (aC 0, 10, .inl (fun _ => 0))), (h18, .inl (aC 0, 10, .inl (fun _ => 0))), (h19, .inl (aC 0, 10, .inl (fun _ => 0))), (h20, .inl (aC 0, 8, .inl (fun _ => 0))), (h21, .inl (aC 0, 8, .inl (fun _ => 0))), (h24, .inl (aC 0, 2000, .inl (fun _ => 0))), (h47, .inl (aC 0, 13, .inl (fun _ => 0))), (h1, .inr (11, [.int 0, .int 0, x2, .int 0, .int 0, .int 0, .int 0, .long 0, .int 0, x3, .ref h4, .ref h5, .ref h6, .ref h7, .ref h8, .ref h9, .ref h10, .ref h11, .ref h12, .ref h13, .ref h14, .ref h15, .ref h16, .ref h17, .ref h18, .ref h19, .ref h20, .ref h21, .ref h22, .ref h23, .ref h24, .int 1000, .int 0, x25, x26, x27, x28, x29, x30, x31, x32, x33, x34, x35, x36, x37, .ref h38, x39, x40, x41, x42, .ref h43, x44, x45, x46, .ref h47, x48, x49, x50, .ref h51, .int 0, x52, x53, x54, x55, x56, x57, x58, x59, x60, x61, x62, x63, x64])), (h4, .inl (aC 0, 14, .inl (upd (upd (upd (upd (upd (upd (upd (upd (fun _ => 0) 13 5) 0 0) 1 0) 2 0) 3 0) 4 0) 5 0) 6 5)))] H := hP
  have hD : va_D A [(h38, .inl (aC 0, 6, .inl (fun _ => 0))), (h43, .inl (aC 0, 5, .inl (fun _ => 0))), (h51, .inl (aC 3, 4, .inl (fun _ => 0))), (h22, .inl (aC 0, 2, .inl (upd (upd (fun _ => 0) 1 1000) 0 0))), (h23, .inl (aC 0, 2, .inl (upd (upd (fun _ => 0) 1 1000) 0 0))), (h5, .inl (aC 1, 10, .inr (.inl (fun _ => 0)))), (h6, .inl (aC 1, 8, .inr (.inl (fun _ => 0)))), (h7, .inl (aC 1, 10, .inr (.inl (fun _ => 0)))), (h8, .inl (aC 1, 8, .inr (.inl (fun _ => 0)))), (h9, .inl (aC 0, 10, .inl (fun _ => 0))), (h10, .inl (aC 0, 20, .inl (fun _ => 0))), (h11, .inl (aC 0, 20, .inl (fun _ => 0))), (h12, .inl (aC 0, 20, .inl (fun _ => 0))), (h13, .inl (aC 0, 20, .inl (fun _ => 0))), (h14, .inl (aC 0, 8, .inl (fun _ => 0))), (h15, .inl (aC 0, 8, .inl (fun _ => 0))), (h16, .inl (aC 0, 10, .inl (fun _ => 0))), (h17, .inl (aC 0, 10, .inl (fun _ => 0))), (h18, .inl (aC 0, 10, .inl (fun _ => 0))), (h19, .inl (aC 0, 10, .inl (fun _ => 0))), (h20, .inl (aC 0, 8, .inl (fun _ => 0))), (h21, .inl (aC 0, 8, .inl (fun _ => 0))), (h24, .inl (aC 0, 2000, .inl (fun _ => 0))), (h47, .inl (aC 0, 13, .inl (fun _ => 0))), (h1, .inr (11, [.int 0, .int 0, x2, .int 0, .int 0, .int 0, .int 0, .long 0, .int 0, x3, .ref h4, .ref h5, .ref h6, .ref h7, .ref h8, .ref h9, .ref h10, .ref h11, .ref h12, .ref h13, .ref h14, .ref h15, .ref h16, .ref h17, .ref h18, .ref h19, .ref h20, .ref h21, .ref h22, .ref h23, .ref h24, .int 1000, .int 0, x25, x26, x27, x28, x29, x30, x31, x32, x33, x34, x35, x36, x37, .ref h38, x39, x40, x41, x42, .ref h43, x44, x45, x46, .ref h47, x48, x49, x50, .ref h51, .int 0, x52, x53, x54, x55, x56, x57, x58, x59, x60, x61, x62, x63, x64])), (h4, .inl (aC 0, 14, .inl (upd (upd (upd (upd (upd (upd (upd (upd (fun _ => 0) 13 5) 0 0) 1 0) 2 0) 3 0) 4 0) 5 0) 6 5)))] := hD
  refine lv_iinc (v := 2) (lv' := [(1, .int 2), (0, .ref h1)]) hx hb dX11_town_58 hl (k := 0) rfl (by decide +kernel) (by decide) rfl (fun ls hl => ?_)
  refine lv_goto (tgt := 46) hx hb dX11_town_61 (by decide) ?_
  refine lv_iload_n hx hb dX11_town_46 rfl (lv_at hl 0 rfl) ?_
  refine lv_iconst (v := 4) hx hb dX11_town_47 (by decide) ?_
  refine lv_icmp_ge (tgt := 64) hx hb dX11_town_48 (by decide) (fun c_ => absurd c_ (by decide +kernel)) (fun _ => ?_)
  refine lv_aload_n hx hb dX11_town_51 rfl (lv_at hl 1 rfl) ?_
  refine xget F hP 24 rfl rfl inX11 59 (by decide) tb1241 rfl dX11_town_52 ?_
  refine lv_iload_n hx hb dX11_town_55 rfl (lv_at hl 0 rfl) ?_
  refine lv_iconst (v := 0) hx hb dX11_town_56 (by decide) ?_
  refine xzst (f' := fun _ => 0) F hP hD hS 2 rfl 2 (by decide +kernel) (by decide +kernel) (by decide) (xz0 _ (by decide +kernel)) dX11_town_57 (fun H locs hP hD hS => ?_)
  have hP : va_P g vwCl [(h38, .inl (aC 0, 6, .inl (fun _ => 0))), (h43, .inl (aC 0, 5, .inl (fun _ => 0))), (h51, .inl (aC 3, 4, .inl (fun _ => 0))), (h22, .inl (aC 0, 2, .inl (upd (upd (fun _ => 0) 1 1000) 0 0))), (h23, .inl (aC 0, 2, .inl (upd (upd (fun _ => 0) 1 1000) 0 0))), (h5, .inl (aC 1, 10, .inr (.inl (fun _ => 0)))), (h6, .inl (aC 1, 8, .inr (.inl (fun _ => 0)))), (h7, .inl (aC 1, 10, .inr (.inl (fun _ => 0)))), (h8, .inl (aC 1, 8, .inr (.inl (fun _ => 0)))), (h9, .inl (aC 0, 10, .inl (fun _ => 0))), (h10, .inl (aC 0, 20, .inl (fun _ => 0))), (h11, .inl (aC 0, 20, .inl (fun _ => 0))), (h12, .inl (aC 0, 20, .inl (fun _ => 0))), (h13, .inl (aC 0, 20, .inl (fun _ => 0))), (h14, .inl (aC 0, 8, .inl (fun _ => 0))), (h15, .inl (aC 0, 8, .inl (fun _ => 0))), (h16, .inl (aC 0, 10, .inl (fun _ => 0))), (h17, .inl (aC 0, 10, .inl (fun _ => 0))), (h18, .inl (aC 0, 10, .inl (fun _ => 0))), (h19, .inl (aC 0, 10, .inl (fun _ => 0))), (h20, .inl (aC 0, 8, .inl (fun _ => 0))), (h21, .inl (aC 0, 8, .inl (fun _ => 0))), (h24, .inl (aC 0, 2000, .inl (fun _ => 0))), (h47, .inl (aC 0, 13, .inl (fun _ => 0))), (h1, .inr (11, [.int 0, .int 0, x2, .int 0, .int 0, .int 0, .int 0, .long 0, .int 0, x3, .ref h4, .ref h5, .ref h6, .ref h7, .ref h8, .ref h9, .ref h10, .ref h11, .ref h12, .ref h13, .ref h14, .ref h15, .ref h16, .ref h17, .ref h18, .ref h19, .ref h20, .ref h21, .ref h22, .ref h23, .ref h24, .int 1000, .int 0, x25, x26, x27, x28, x29, x30, x31, x32, x33, x34, x35, x36, x37, .ref h38, x39, x40, x41, x42, .ref h43, x44, x45, x46, .ref h47, x48, x49, x50, .ref h51, .int 0, x52, x53, x54, x55, x56, x57, x58, x59, x60, x61, x62, x63, x64])), (h4, .inl (aC 0, 14, .inl (upd (upd (upd (upd (upd (upd (upd (upd (fun _ => 0) 13 5) 0 0) 1 0) 2 0) 3 0) 4 0) 5 0) 6 5)))] H := hP
  have hD : va_D A [(h38, .inl (aC 0, 6, .inl (fun _ => 0))), (h43, .inl (aC 0, 5, .inl (fun _ => 0))), (h51, .inl (aC 3, 4, .inl (fun _ => 0))), (h22, .inl (aC 0, 2, .inl (upd (upd (fun _ => 0) 1 1000) 0 0))), (h23, .inl (aC 0, 2, .inl (upd (upd (fun _ => 0) 1 1000) 0 0))), (h5, .inl (aC 1, 10, .inr (.inl (fun _ => 0)))), (h6, .inl (aC 1, 8, .inr (.inl (fun _ => 0)))), (h7, .inl (aC 1, 10, .inr (.inl (fun _ => 0)))), (h8, .inl (aC 1, 8, .inr (.inl (fun _ => 0)))), (h9, .inl (aC 0, 10, .inl (fun _ => 0))), (h10, .inl (aC 0, 20, .inl (fun _ => 0))), (h11, .inl (aC 0, 20, .inl (fun _ => 0))), (h12, .inl (aC 0, 20, .inl (fun _ => 0))), (h13, .inl (aC 0, 20, .inl (fun _ => 0))), (h14, .inl (aC 0, 8, .inl (fun _ => 0))), (h15, .inl (aC 0, 8, .inl (fun _ => 0))), (h16, .inl (aC 0, 10, .inl (fun _ => 0))), (h17, .inl (aC 0, 10, .inl (fun _ => 0))), (h18, .inl (aC 0, 10, .inl (fun _ => 0))), (h19, .inl (aC 0, 10, .inl (fun _ => 0))), (h20, .inl (aC 0, 8, .inl (fun _ => 0))), (h21, .inl (aC 0, 8, .inl (fun _ => 0))), (h24, .inl (aC 0, 2000, .inl (fun _ => 0))), (h47, .inl (aC 0, 13, .inl (fun _ => 0))), (h1, .inr (11, [.int 0, .int 0, x2, .int 0, .int 0, .int 0, .int 0, .long 0, .int 0, x3, .ref h4, .ref h5, .ref h6, .ref h7, .ref h8, .ref h9, .ref h10, .ref h11, .ref h12, .ref h13, .ref h14, .ref h15, .ref h16, .ref h17, .ref h18, .ref h19, .ref h20, .ref h21, .ref h22, .ref h23, .ref h24, .int 1000, .int 0, x25, x26, x27, x28, x29, x30, x31, x32, x33, x34, x35, x36, x37, .ref h38, x39, x40, x41, x42, .ref h43, x44, x45, x46, .ref h47, x48, x49, x50, .ref h51, .int 0, x52, x53, x54, x55, x56, x57, x58, x59, x60, x61, x62, x63, x64])), (h4, .inl (aC 0, 14, .inl (upd (upd (upd (upd (upd (upd (upd (upd (fun _ => 0) 13 5) 0 0) 1 0) 2 0) 3 0) 4 0) 5 0) 6 5)))] := hD
  refine lv_iinc (v := 3) (lv' := [(1, .int 3), (0, .ref h1)]) hx hb dX11_town_58 hl (k := 0) rfl (by decide +kernel) (by decide) rfl (fun ls hl => ?_)
  refine lv_goto (tgt := 46) hx hb dX11_town_61 (by decide) ?_
  refine lv_iload_n hx hb dX11_town_46 rfl (lv_at hl 0 rfl) ?_
  refine lv_iconst (v := 4) hx hb dX11_town_47 (by decide) ?_
  refine lv_icmp_ge (tgt := 64) hx hb dX11_town_48 (by decide) (fun c_ => absurd c_ (by decide +kernel)) (fun _ => ?_)
  refine lv_aload_n hx hb dX11_town_51 rfl (lv_at hl 1 rfl) ?_
  refine xget F hP 24 rfl rfl inX11 59 (by decide) tb1241 rfl dX11_town_52 ?_
  refine lv_iload_n hx hb dX11_town_55 rfl (lv_at hl 0 rfl) ?_
  refine lv_iconst (v := 0) hx hb dX11_town_56 (by decide) ?_
  refine xzst (f' := fun _ => 0) F hP hD hS 2 rfl 3 (by decide +kernel) (by decide +kernel) (by decide) (xz0 _ (by decide +kernel)) dX11_town_57 (fun H locs hP hD hS => ?_)
  have hP : va_P g vwCl [(h38, .inl (aC 0, 6, .inl (fun _ => 0))), (h43, .inl (aC 0, 5, .inl (fun _ => 0))), (h51, .inl (aC 3, 4, .inl (fun _ => 0))), (h22, .inl (aC 0, 2, .inl (upd (upd (fun _ => 0) 1 1000) 0 0))), (h23, .inl (aC 0, 2, .inl (upd (upd (fun _ => 0) 1 1000) 0 0))), (h5, .inl (aC 1, 10, .inr (.inl (fun _ => 0)))), (h6, .inl (aC 1, 8, .inr (.inl (fun _ => 0)))), (h7, .inl (aC 1, 10, .inr (.inl (fun _ => 0)))), (h8, .inl (aC 1, 8, .inr (.inl (fun _ => 0)))), (h9, .inl (aC 0, 10, .inl (fun _ => 0))), (h10, .inl (aC 0, 20, .inl (fun _ => 0))), (h11, .inl (aC 0, 20, .inl (fun _ => 0))), (h12, .inl (aC 0, 20, .inl (fun _ => 0))), (h13, .inl (aC 0, 20, .inl (fun _ => 0))), (h14, .inl (aC 0, 8, .inl (fun _ => 0))), (h15, .inl (aC 0, 8, .inl (fun _ => 0))), (h16, .inl (aC 0, 10, .inl (fun _ => 0))), (h17, .inl (aC 0, 10, .inl (fun _ => 0))), (h18, .inl (aC 0, 10, .inl (fun _ => 0))), (h19, .inl (aC 0, 10, .inl (fun _ => 0))), (h20, .inl (aC 0, 8, .inl (fun _ => 0))), (h21, .inl (aC 0, 8, .inl (fun _ => 0))), (h24, .inl (aC 0, 2000, .inl (fun _ => 0))), (h47, .inl (aC 0, 13, .inl (fun _ => 0))), (h1, .inr (11, [.int 0, .int 0, x2, .int 0, .int 0, .int 0, .int 0, .long 0, .int 0, x3, .ref h4, .ref h5, .ref h6, .ref h7, .ref h8, .ref h9, .ref h10, .ref h11, .ref h12, .ref h13, .ref h14, .ref h15, .ref h16, .ref h17, .ref h18, .ref h19, .ref h20, .ref h21, .ref h22, .ref h23, .ref h24, .int 1000, .int 0, x25, x26, x27, x28, x29, x30, x31, x32, x33, x34, x35, x36, x37, .ref h38, x39, x40, x41, x42, .ref h43, x44, x45, x46, .ref h47, x48, x49, x50, .ref h51, .int 0, x52, x53, x54, x55, x56, x57, x58, x59, x60, x61, x62, x63, x64])), (h4, .inl (aC 0, 14, .inl (upd (upd (upd (upd (upd (upd (upd (upd (fun _ => 0) 13 5) 0 0) 1 0) 2 0) 3 0) 4 0) 5 0) 6 5)))] H := hP
  have hD : va_D A [(h38, .inl (aC 0, 6, .inl (fun _ => 0))), (h43, .inl (aC 0, 5, .inl (fun _ => 0))), (h51, .inl (aC 3, 4, .inl (fun _ => 0))), (h22, .inl (aC 0, 2, .inl (upd (upd (fun _ => 0) 1 1000) 0 0))), (h23, .inl (aC 0, 2, .inl (upd (upd (fun _ => 0) 1 1000) 0 0))), (h5, .inl (aC 1, 10, .inr (.inl (fun _ => 0)))), (h6, .inl (aC 1, 8, .inr (.inl (fun _ => 0)))), (h7, .inl (aC 1, 10, .inr (.inl (fun _ => 0)))), (h8, .inl (aC 1, 8, .inr (.inl (fun _ => 0)))), (h9, .inl (aC 0, 10, .inl (fun _ => 0))), (h10, .inl (aC 0, 20, .inl (fun _ => 0))), (h11, .inl (aC 0, 20, .inl (fun _ => 0))), (h12, .inl (aC 0, 20, .inl (fun _ => 0))), (h13, .inl (aC 0, 20, .inl (fun _ => 0))), (h14, .inl (aC 0, 8, .inl (fun _ => 0))), (h15, .inl (aC 0, 8, .inl (fun _ => 0))), (h16, .inl (aC 0, 10, .inl (fun _ => 0))), (h17, .inl (aC 0, 10, .inl (fun _ => 0))), (h18, .inl (aC 0, 10, .inl (fun _ => 0))), (h19, .inl (aC 0, 10, .inl (fun _ => 0))), (h20, .inl (aC 0, 8, .inl (fun _ => 0))), (h21, .inl (aC 0, 8, .inl (fun _ => 0))), (h24, .inl (aC 0, 2000, .inl (fun _ => 0))), (h47, .inl (aC 0, 13, .inl (fun _ => 0))), (h1, .inr (11, [.int 0, .int 0, x2, .int 0, .int 0, .int 0, .int 0, .long 0, .int 0, x3, .ref h4, .ref h5, .ref h6, .ref h7, .ref h8, .ref h9, .ref h10, .ref h11, .ref h12, .ref h13, .ref h14, .ref h15, .ref h16, .ref h17, .ref h18, .ref h19, .ref h20, .ref h21, .ref h22, .ref h23, .ref h24, .int 1000, .int 0, x25, x26, x27, x28, x29, x30, x31, x32, x33, x34, x35, x36, x37, .ref h38, x39, x40, x41, x42, .ref h43, x44, x45, x46, .ref h47, x48, x49, x50, .ref h51, .int 0, x52, x53, x54, x55, x56, x57, x58, x59, x60, x61, x62, x63, x64])), (h4, .inl (aC 0, 14, .inl (upd (upd (upd (upd (upd (upd (upd (upd (fun _ => 0) 13 5) 0 0) 1 0) 2 0) 3 0) 4 0) 5 0) 6 5)))] := hD
  refine lv_iinc (v := 4) (lv' := [(1, .int 4), (0, .ref h1)]) hx hb dX11_town_58 hl (k := 0) rfl (by decide +kernel) (by decide) rfl (fun ls hl => ?_)
  refine lv_goto (tgt := 46) hx hb dX11_town_61 (by decide) ?_
  refine lv_iload_n hx hb dX11_town_46 rfl (lv_at hl 0 rfl) ?_
  refine lv_iconst (v := 4) hx hb dX11_town_47 (by decide) ?_
  refine lv_icmp_ge (tgt := 64) hx hb dX11_town_48 (by decide) (fun _ => ?_) (fun c_ => absurd (by decide +kernel) c_)
  refine lv_iconst (v := 0) hx hb dX11_town_64 (by decide) ?_
  have hP9 := hP.sub (ws' := []) [] rfl
  have hD9 := hD.sub (ws' := []) [] (by decide) rfl
  exact rI () hx hb hr hlk rfl hS rfl hP9 hD9 (Nat.le_of_ble_eq_true rfl) (Nat.le_of_ble_eq_true rfl) dX11_town_65

theorem tb1605 : (Jvm.Cond.methodLink "StairGangModel" (422 : Nat) ({ cls := "StairGangModel", name := "laysLines", desc := "(II)V" } : Jvm.MethodName)) ∈ gw := lw_m 1605 (by decide +kernel)
theorem tb1607 : (Jvm.Cond.instanceMethod ({ cls := "StairGangModel", name := "laysLines", desc := "(II)V" } : Jvm.MethodName)) ∈ gw := lw_m 1607 (by decide +kernel)
theorem tb1608 : (Jvm.Cond.code ({ cls := "StairGangModel", name := "laysLines", desc := "(II)V" } : Jvm.MethodName) prog_13_method_49_code (4 : Nat) (Option.none : Option Jvm.ClassFile.FieldType)) ∈ gw := lw_m 1608 (by decide +kernel)
theorem tv68 : Cond.selects "StairGangModel" ⟨"StairGangModel", "laysLines", "(II)V"⟩ ⟨"StairGangModel", "laysLines", "(II)V"⟩ ∈ gw := lw_v 68 (by decide +kernel)
theorem dX11_nights_0 : decode cX11_nights 0 = .ok (.aload_n 0, 1) := by decide +kernel
theorem dX11_nights_1 : decode cX11_nights 1 = .ok (.iconst 0, 1) := by decide +kernel
theorem dX11_nights_2 : decode cX11_nights 2 = .ok (.putfield 180, 3) := by decide +kernel
theorem dX11_nights_5 : decode cX11_nights 5 = .ok (.aload_n 0, 1) := by decide +kernel
theorem dX11_nights_6 : decode cX11_nights 6 = .ok (.getfield 114, 3) := by decide +kernel
theorem dX11_nights_9 : decode cX11_nights 9 = .ok (.iconst 5, 1) := by decide +kernel
theorem dX11_nights_10 : decode cX11_nights 10 = .ok (.iconst 0, 1) := by decide +kernel
theorem dX11_nights_11 : decode cX11_nights 11 = .ok (.iastore, 1) := by decide +kernel
theorem dX11_nights_12 : decode cX11_nights 12 = .ok (.aload_n 0, 1) := by decide +kernel
theorem dX11_nights_13 : decode cX11_nights 13 = .ok (.invokevirtual 369, 3) := by decide +kernel
theorem dX11_nights_16 : decode cX11_nights 16 = .ok (.aload_n 0, 1) := by decide +kernel
theorem dX11_nights_17 : decode cX11_nights 17 = .ok (.getfield 205, 3) := by decide +kernel
theorem dX11_nights_20 : decode cX11_nights 20 = .ok (.ifCond .eq 15, 3) := by decide +kernel
theorem dX11_nights_35 : decode cX11_nights 35 = .ok (.aload_n 0, 1) := by decide +kernel
theorem dX11_nights_36 : decode cX11_nights 36 = .ok (.iconst 5, 1) := by decide +kernel
theorem dX11_nights_37 : decode cX11_nights 37 = .ok (.iconst 0, 1) := by decide +kernel
theorem dX11_nights_38 : decode cX11_nights 38 = .ok (.invokevirtual 422, 3) := by decide +kernel
theorem dX11_nights_41 : decode cX11_nights 41 = .ok (.iconst 0, 1) := by decide +kernel
theorem dX11_nights_42 : decode cX11_nights 42 = .ok (.ireturn, 1) := by decide +kernel
set_option maxHeartbeats 4000000 in
set_option maxRecDepth 100000 in
theorem m_nights (l : Launch) (g : va_G) (aC : Nat → ClassId) (aM : Nat → Nat) (h1 h40 h41 h42 h43 h44 : Nat) (x2 x3 x4 x5 x6 x7 x8 x9 x10 x11 x12 x13 x14 x15 x16 x17 x18 x19 x20 x21 x22 x23 x24 x25 x26 x27 x28 x29 x30 x31 x32 x33 x34 x35 x36 x37 x38 x39 x45 x46 x47 x48 x49 x50 x51 x52 x53 x54 x55 x56 x57 x58 x59 x60 x61 x62 x63 x64 x65 x66 x67 : Value) : Ct l g aC aM yX11_nights cX11_nights 1 (some .int) 3 [.ref h1] [(h1, .inr (11, [.int 0, .int 0, x2, .int 0, .int 0, .int 0, .int 0, .long 0, .int 0, x3, x4, x5, x6, x7, x8, x9, x10, x11, x12, x13, x14, x15, x16, x17, x18, x19, x20, x21, x22, x23, x24, x25, x26, x27, x28, x29, x30, x31, x32, x33, x34, x35, x36, x37, x38, x39, .ref h40, .ref h41, .ref h42, .ref h43, .ref h44, x45, x46, x47, x48, x49, x50, x51, x52, x53, x54, x55, x56, x57, x58, x59, x60, x61, x62, x63, x64, x65, x66, x67])), (h40, .inl (aC 0, 6, .inl (fun _ => 0))), (h41, .inl (aC 0, 240, .inl (fun _ => 0))), (h42, .inl (aC 0, 240, .inl (fun _ => 0))), (h43, .inl (aC 0, 240, .inl (fun _ => 0))), (h44, .inl (aC 0, 240, .inl (fun _ => 0)))] (QI g (fun (r : Int32) (_ : Unit) => r = 0) (fun (_ : Unit) => [])) 0 0 := by
  refine Ct.mk (by decide) (Nat.le_of_ble_eq_true rfl) ?_
  intro p e s m below meth c A ls hx hb hml hown hts hr hlk hnm hK hA hM hM2 hP hD hS hl
  have hown : s.vm.findClass RX11 = some m.cls := hown
  have F : Fx p s m _ c cX11_nights 1 RX11 g aC aM A := ⟨hx, hb, hml, hown, hts, hK, hA, hM, hM2⟩
  have hl : lv_has ls 1 [(0, .ref h1)] := hl
  refine lv_aload_n hx hb dX11_nights_0 rfl (lv_at hl 0 rfl) ?_
  refine lv_iconst (v := 0) hx hb dX11_nights_1 (by decide) ?_
  refine xput F hP hD hS 0 rfl rfl inX11 tyX11_ok nmX11 0 (by decide) tb1182 rfl rfl rfl (Nat.le_of_ble_eq_true rfl) dX11_nights_2 (fun H locs hP hD hS => ?_)
  have hP : va_P g vwCl [(h1, .inr (11, [.int 0, .int 0, x2, .int 0, .int 0, .int 0, .int 0, .long 0, .int 0, x3, x4, x5, x6, x7, x8, x9, x10, x11, x12, x13, x14, x15, x16, x17, x18, x19, x20, x21, x22, x23, x24, x25, x26, x27, x28, x29, x30, x31, x32, x33, x34, x35, x36, x37, x38, x39, .ref h40, .ref h41, .ref h42, .ref h43, .ref h44, x45, x46, x47, x48, x49, x50, x51, x52, x53, x54, x55, x56, x57, x58, x59, x60, x61, x62, x63, x64, x65, x66, x67])), (h40, .inl (aC 0, 6, .inl (fun _ => 0))), (h41, .inl (aC 0, 240, .inl (fun _ => 0))), (h42, .inl (aC 0, 240, .inl (fun _ => 0))), (h43, .inl (aC 0, 240, .inl (fun _ => 0))), (h44, .inl (aC 0, 240, .inl (fun _ => 0)))] H := hP
  have hD : va_D A [(h1, .inr (11, [.int 0, .int 0, x2, .int 0, .int 0, .int 0, .int 0, .long 0, .int 0, x3, x4, x5, x6, x7, x8, x9, x10, x11, x12, x13, x14, x15, x16, x17, x18, x19, x20, x21, x22, x23, x24, x25, x26, x27, x28, x29, x30, x31, x32, x33, x34, x35, x36, x37, x38, x39, .ref h40, .ref h41, .ref h42, .ref h43, .ref h44, x45, x46, x47, x48, x49, x50, x51, x52, x53, x54, x55, x56, x57, x58, x59, x60, x61, x62, x63, x64, x65, x66, x67])), (h40, .inl (aC 0, 6, .inl (fun _ => 0))), (h41, .inl (aC 0, 240, .inl (fun _ => 0))), (h42, .inl (aC 0, 240, .inl (fun _ => 0))), (h43, .inl (aC 0, 240, .inl (fun _ => 0))), (h44, .inl (aC 0, 240, .inl (fun _ => 0)))] := hD
  refine lv_aload_n hx hb dX11_nights_5 rfl (lv_at hl 0 rfl) ?_
  refine xget F hP 0 rfl rfl inX11 46 (by decide) tb1228 rfl dX11_nights_6 ?_
  refine lv_iconst (v := 5) hx hb dX11_nights_9 (by decide) ?_
  refine lv_iconst (v := 0) hx hb dX11_nights_10 (by decide) ?_
  refine xist (f' := fun _ => 0) F hP hD hS 1 rfl 5 (by decide +kernel) (by decide +kernel) (by decide) (xup0 _) dX11_nights_11 (fun H locs hP hD hS => ?_)
  have hP : va_P g vwCl [(h1, .inr (11, [.int 0, .int 0, x2, .int 0, .int 0, .int 0, .int 0, .long 0, .int 0, x3, x4, x5, x6, x7, x8, x9, x10, x11, x12, x13, x14, x15, x16, x17, x18, x19, x20, x21, x22, x23, x24, x25, x26, x27, x28, x29, x30, x31, x32, x33, x34, x35, x36, x37, x38, x39, .ref h40, .ref h41, .ref h42, .ref h43, .ref h44, x45, x46, x47, x48, x49, x50, x51, x52, x53, x54, x55, x56, x57, x58, x59, x60, x61, x62, x63, x64, x65, x66, x67])), (h40, .inl (aC 0, 6, .inl (fun _ => 0))), (h41, .inl (aC 0, 240, .inl (fun _ => 0))), (h42, .inl (aC 0, 240, .inl (fun _ => 0))), (h43, .inl (aC 0, 240, .inl (fun _ => 0))), (h44, .inl (aC 0, 240, .inl (fun _ => 0)))] H := hP
  have hD : va_D A [(h1, .inr (11, [.int 0, .int 0, x2, .int 0, .int 0, .int 0, .int 0, .long 0, .int 0, x3, x4, x5, x6, x7, x8, x9, x10, x11, x12, x13, x14, x15, x16, x17, x18, x19, x20, x21, x22, x23, x24, x25, x26, x27, x28, x29, x30, x31, x32, x33, x34, x35, x36, x37, x38, x39, .ref h40, .ref h41, .ref h42, .ref h43, .ref h44, x45, x46, x47, x48, x49, x50, x51, x52, x53, x54, x55, x56, x57, x58, x59, x60, x61, x62, x63, x64, x65, x66, x67])), (h40, .inl (aC 0, 6, .inl (fun _ => 0))), (h41, .inl (aC 0, 240, .inl (fun _ => 0))), (h42, .inl (aC 0, 240, .inl (fun _ => 0))), (h43, .inl (aC 0, 240, .inl (fun _ => 0))), (h44, .inl (aC 0, 240, .inl (fun _ => 0)))] := hD
  refine lv_aload_n hx hb dX11_nights_12 rfl (lv_at hl 0 rfl) ?_
  refine goV (wr := [(h40, .inl (aC 0, 6, .inl (fun _ => 0))), (h41, .inl (aC 0, 240, .inl (fun _ => 0))), (h42, .inl (aC 0, 240, .inl (fun _ => 0))), (h43, .inl (aC 0, 240, .inl (fun _ => 0))), (h44, .inl (aC 0, 240, .inl (fun _ => 0)))]) (runV (n := 0) (As := []) (rest := []) F hP hD hS (a_X11_starts_1 l g aC aM h1 (.int 0) x2 x3 x4 x5 x6 x7 x8 x9 x10 x11 x12 x13 x14 x15 x16 x17 x18 x19 x20 x21 x22 x23 x24 x25 x26 x27 x28 x29 x30 x31 x32 x33 x34 x35 x36 x37 x38 x39 (.ref h40) (.ref h41) (.ref h42) (.ref h43) (.ref h44) x45 x46 x47 x48 x49 x50 x51 x52 x53 x54 x55 x56 x57 x58 x59 x60 x61 x62 x63 x64 x65 x66 x67) [0] (by decide) rfl 0 11 rfl rfl rfl tb1426 tb1423 tb1425 tv34 tb17 ⟨by decide, by decide, by decide +kernel⟩ ⟨Nat.le_of_ble_eq_true rfl, Nat.le_of_ble_eq_true rfl⟩ rfl hl.1 rfl (Nat.le_of_ble_eq_true rfl) dX11_nights_13 ⟨Nat.le_of_ble_eq_true rfl, Nat.le_of_ble_eq_true rfl⟩) hP hD hS hA [0] [1, 2, 3, 4, 5] rfl rfl (by decide) (by decide) (fun w3 H locs hw hP hD hS => ?_)
  have hP : va_P g vwCl [(h40, .inl (aC 0, 6, .inl (fun _ => 0))), (h41, .inl (aC 0, 240, .inl (fun _ => 0))), (h42, .inl (aC 0, 240, .inl (fun _ => 0))), (h43, .inl (aC 0, 240, .inl (fun _ => 0))), (h44, .inl (aC 0, 240, .inl (fun _ => 0))), (h1, .inr (11, [.int 0, .int 0, x2, .int 0, .int 0, .int 0, .int 0, .long 0, .int 0, x3, x4, x5, x6, x7, x8, x9, x10, x11, x12, x13, x14, x15, x16, x17, x18, x19, x20, x21, x22, x23, x24, x25, x26, x27, x28, x29, x30, x31, x32, x33, x34, x35, x36, x37, x38, x39, .ref h40, .ref h41, .ref h42, .ref h43, .ref h44, x45, x46, x47, x48, x49, x50, x51, x52, x53, x54, x55, x56, x57, x58, x59, x60, x61, x62, x63, x64, x65, x66, x67]))] H := hP
  have hD : va_D A [(h40, .inl (aC 0, 6, .inl (fun _ => 0))), (h41, .inl (aC 0, 240, .inl (fun _ => 0))), (h42, .inl (aC 0, 240, .inl (fun _ => 0))), (h43, .inl (aC 0, 240, .inl (fun _ => 0))), (h44, .inl (aC 0, 240, .inl (fun _ => 0))), (h1, .inr (11, [.int 0, .int 0, x2, .int 0, .int 0, .int 0, .int 0, .long 0, .int 0, x3, x4, x5, x6, x7, x8, x9, x10, x11, x12, x13, x14, x15, x16, x17, x18, x19, x20, x21, x22, x23, x24, x25, x26, x27, x28, x29, x30, x31, x32, x33, x34, x35, x36, x37, x38, x39, .ref h40, .ref h41, .ref h42, .ref h43, .ref h44, x45, x46, x47, x48, x49, x50, x51, x52, x53, x54, x55, x56, x57, x58, x59, x60, x61, x62, x63, x64, x65, x66, x67]))] := hD
  refine lv_aload_n hx hb dX11_nights_16 rfl (lv_at hl 0 rfl) ?_
  refine xget F hP 5 rfl rfl inX11 6 (by decide) tb1188 rfl dX11_nights_17 ?_
  refine lv_if_eq (tgt := 35) hx hb dX11_nights_20 (by decide) (fun _ => ?_) (fun c_ => absurd (by decide +kernel) c_)
  refine lv_aload_n hx hb dX11_nights_35 rfl (lv_at hl 0 rfl) ?_
  refine lv_iconst (v := 5) hx hb dX11_nights_36 (by decide) ?_
  refine lv_iconst (v := 0) hx hb dX11_nights_37 (by decide) ?_
  refine goV (wr := []) (runV (n := 2) (As := [.int 5, .int 0]) (rest := []) F hP hD hS (k_laysLines_5_0 l g aC aM h1 h40 h41 h42 h43 h44 (.int 0) (.int 0) x2 (.int 0) (.int 0) (.int 0) (.int 0) (.long 0) (.int 0) x3 x4 x5 x6 x7 x8 x9 x10 x11 x12 x13 x14 x15 x16 x17 x18 x19 x20 x21 x22 x23 x24 x25 x26 x27 x28 x29 x30 x31 x32 x33 x34 x35 x36 x37 x38 x39 x45 x46 x47 x48 x49 x50 x51 x52 x53 x54 x55 x56 x57 x58 x59 x60 x61 x62 x63 x64 x65 x66 x67) [5, 0, 1, 2, 3, 4] (by decide) rfl 5 11 rfl rfl rfl tb1608 tb1605 tb1607 tv68 tb17 ⟨by decide, by decide, by decide +kernel⟩ ⟨Nat.le_of_ble_eq_true rfl, Nat.le_of_ble_eq_true rfl⟩ rfl hl.1 rfl (Nat.le_of_ble_eq_true rfl) dX11_nights_38 ⟨Nat.le_of_ble_eq_true rfl, Nat.le_of_ble_eq_true rfl⟩) hP hD hS hA [5, 0, 1, 2, 3, 4] [] rfl rfl (by decide) (by decide) (fun w7 H locs hw hP hD hS => ?_)
  have hP : va_P g vwCl [(h1, .inr (11, [.int 0, .int 0, x2, .int 0, .int 0, .int 0, .int 0, .long 0, .int 0, x3, x4, x5, x6, x7, x8, x9, x10, x11, x12, x13, x14, x15, x16, x17, x18, x19, x20, x21, x22, x23, x24, x25, x26, x27, x28, x29, x30, x31, x32, x33, x34, x35, x36, x37, x38, x39, .ref h40, .ref h41, .ref h42, .ref h43, .ref h44, x45, x46, x47, x48, x49, x50, x51, x52, x53, x54, x55, x56, x57, x58, x59, x60, x61, x62, x63, x64, x65, x66, x67])), (h40, .inl (aC 0, 6, .inl (fun _ => 0))), (h41, .inl (aC 0, 240, .inl (fun _ => 0))), (h42, .inl (aC 0, 240, .inl (fun _ => 0))), (h43, .inl (aC 0, 240, .inl (fun _ => 0))), (h44, .inl (aC 0, 240, .inl (fun _ => 0)))] H := hP
  have hD : va_D A [(h1, .inr (11, [.int 0, .int 0, x2, .int 0, .int 0, .int 0, .int 0, .long 0, .int 0, x3, x4, x5, x6, x7, x8, x9, x10, x11, x12, x13, x14, x15, x16, x17, x18, x19, x20, x21, x22, x23, x24, x25, x26, x27, x28, x29, x30, x31, x32, x33, x34, x35, x36, x37, x38, x39, .ref h40, .ref h41, .ref h42, .ref h43, .ref h44, x45, x46, x47, x48, x49, x50, x51, x52, x53, x54, x55, x56, x57, x58, x59, x60, x61, x62, x63, x64, x65, x66, x67])), (h40, .inl (aC 0, 6, .inl (fun _ => 0))), (h41, .inl (aC 0, 240, .inl (fun _ => 0))), (h42, .inl (aC 0, 240, .inl (fun _ => 0))), (h43, .inl (aC 0, 240, .inl (fun _ => 0))), (h44, .inl (aC 0, 240, .inl (fun _ => 0)))] := hD
  refine lv_iconst (v := 0) hx hb dX11_nights_41 (by decide) ?_
  have hP9 := hP.sub (ws' := []) [] rfl
  have hD9 := hD.sub (ws' := []) [] (by decide) rfl
  exact rI () hx hb hr hlk rfl hS rfl hP9 hD9 (Nat.le_of_ble_eq_true rfl) (Nat.le_of_ble_eq_true rfl) dX11_nights_42
