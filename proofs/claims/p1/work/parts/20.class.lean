theorem tb652 : (Jvm.Cond.instanceMethod ({ cls := "StairGang$Town", name := "has", desc := "(II)Z" } : Jvm.MethodName)) ∈ gw := lw_m 652 (by decide +kernel)
theorem tb653 : (Jvm.Cond.selects "StairGang$Town" ({ cls := "StairGang$Town", name := "has", desc := "(II)Z" } : Jvm.MethodName) ({ cls := "StairGang$Town", name := "has", desc := "(II)Z" } : Jvm.MethodName)) ∈ gw := lw_m 653 (by decide +kernel)
theorem tb654 : (Jvm.Cond.code ({ cls := "StairGang$Town", name := "has", desc := "(II)Z" } : Jvm.MethodName) prog_10_method_6_code (3 : Nat) (Option.some Jvm.ClassFile.FieldType.boolean)) ∈ gw := lw_m 654 (by decide +kernel)
theorem tb761 : (Jvm.Cond.methodLink "StairGang" (129 : Nat) ({ cls := "StairGang$Town", name := "has", desc := "(II)Z" } : Jvm.MethodName)) ∈ gw := lw_m 761 (by decide +kernel)
theorem dX10_flight_0 : decode cX10_flight 0 = .ok (.aload_n 0, 1) := by decide +kernel
theorem dX10_flight_1 : decode cX10_flight 1 = .ok (.getfield 35, 3) := by decide +kernel
theorem dX10_flight_4 : decode cX10_flight 4 = .ok (.iconst 1, 1) := by decide +kernel
theorem dX10_flight_5 : decode cX10_flight 5 = .ok (.iload_n 1, 1) := by decide +kernel
theorem dX10_flight_6 : decode cX10_flight 6 = .ok (.invokevirtual 129, 3) := by decide +kernel
theorem dX10_flight_9 : decode cX10_flight 9 = .ok (.ifCond .eq 12, 3) := by decide +kernel
theorem dX10_flight_21 : decode cX10_flight 21 = .ok (.iconst (-1), 1) := by decide +kernel
theorem dX10_flight_22 : decode cX10_flight 22 = .ok (.ireturn, 1) := by decide +kernel
set_option maxHeartbeats 4000000 in
set_option maxRecDepth 100000 in
theorem x_flight (l : Launch) (g : va_G) (aC : Nat → ClassId) (aM : Nat → Nat) (h1 h5 h18 : Nat) (x2 x3 x4 x6 x7 x8 x9 x10 x11 x12 x13 x14 x15 x16 x17 x19 x20 x21 x22 x23 x24 x25 x26 x27 x28 x29 : Value) (n_1 n_2 : Int32) : Ct l g aC aM yX10_flight cX10_flight 3 (some .int) 2 [.ref h1, .int n_1, .int n_2] [(h1, .inr (10, [x2, x3, x4, .ref h5, x6, x7, x8, x9, x10, x11, x12, x13, x14, x15, x16, x17])), (h5, .inr (8, [.ref h18, x19, x20, x21, x22, x23, x24, x25, x26, x27, x28, x29])), (h18, .inl (aC 0, 5, .inl (fun _ => 0)))] (QI g (fun (r : Int32) (_ : Unit) => r = (-1)) (fun (_ : Unit) => [])) 0 0 := by
  refine Ct.mk (by decide) (Nat.le_of_ble_eq_true rfl) ?_
  intro p e s m below meth c A ls hx hb hml hown hts hr hlk hnm hK hA hM hM2 hP hD hS hl
  have hown : s.vm.findClass RX10 = some m.cls := hown
  have F : Fx p s m _ c cX10_flight 3 RX10 g aC aM A := ⟨hx, hb, hml, hown, hts, hK, hA, hM, hM2⟩
  have hl : lv_has ls 3 [(0, .ref h1), (1, .int n_1), (2, .int n_2)] := hl
  refine lv_aload_n hx hb dX10_flight_0 rfl (lv_at hl 0 rfl) ?_
  refine xget F hP 0 rfl rfl inX10 3 (by decide) tb403 rfl dX10_flight_1 ?_
  refine lv_iconst (v := 1) hx hb dX10_flight_4 (by decide) ?_
  refine lv_iload_n hx hb dX10_flight_5 rfl (lv_at hl 1 rfl) ?_
  refine goI (wr := [(h1, .inr (10, [x2, x3, x4, .ref h5, x6, x7, x8, x9, x10, x11, x12, x13, x14, x15, x16, x17]))]) (runV (n := 2) (As := [.int 1, .int n_1]) (rest := []) F hP hD hS (k_has1 l g aC aM h5 h18 x19 x20 x21 x22 x23 x24 x25 x26 x27 x28 x29 n_1) [1, 2] (by decide) rfl 1 8 rfl rfl rfl tb654 tb761 tb652 tb653 tb9 ⟨by decide, by decide, by decide +kernel⟩ ⟨Nat.le_of_ble_eq_true rfl, Nat.le_of_ble_eq_true rfl⟩ rfl hl.1 rfl (Nat.le_of_ble_eq_true rfl) dX10_flight_6 ⟨Nat.le_of_ble_eq_true rfl, Nat.le_of_ble_eq_true rfl⟩) hP hD hS hA [1, 2] [0] rfl rfl (by decide) (by decide) (fun r_2 w3 H locs hw hP hD hS => ?_)
  have hP : va_P g vwCl [(h1, .inr (10, [x2, x3, x4, .ref h5, x6, x7, x8, x9, x10, x11, x12, x13, x14, x15, x16, x17])), (h5, .inr (8, [.ref h18, x19, x20, x21, x22, x23, x24, x25, x26, x27, x28, x29])), (h18, .inl (aC 0, 5, .inl (fun _ => 0)))] H := hP
  have hD : va_D A [(h1, .inr (10, [x2, x3, x4, .ref h5, x6, x7, x8, x9, x10, x11, x12, x13, x14, x15, x16, x17])), (h5, .inr (8, [.ref h18, x19, x20, x21, x22, x23, x24, x25, x26, x27, x28, x29])), (h18, .inl (aC 0, 5, .inl (fun _ => 0)))] := hD
  try dsimp only at hw
  subst hw
  refine lv_if_eq (tgt := 21) hx hb dX10_flight_9 (by decide) (fun _ => ?_) (fun c_ => absurd (by decide +kernel) c_)
  refine lv_iconst (v := (-1)) hx hb dX10_flight_21 (by decide) ?_
  have hP9 := hP.sub (ws' := []) [] rfl
  have hD9 := hD.sub (ws' := []) [] (by decide) rfl
  exact rI () hx hb hr hlk rfl hS rfl hP9 hD9 (Nat.le_of_ble_eq_true rfl) (Nat.le_of_ble_eq_true rfl) dX10_flight_22

theorem dX10_person_0 : decode cX10_person 0 = .ok (.aload_n 0, 1) := by decide +kernel
theorem dX10_person_1 : decode cX10_person 1 = .ok (.getfield 35, 3) := by decide +kernel
theorem dX10_person_4 : decode cX10_person 4 = .ok (.iconst 3, 1) := by decide +kernel
theorem dX10_person_5 : decode cX10_person 5 = .ok (.iload_n 1, 1) := by decide +kernel
theorem dX10_person_6 : decode cX10_person 6 = .ok (.invokevirtual 129, 3) := by decide +kernel
theorem dX10_person_9 : decode cX10_person 9 = .ok (.ifCond .eq 12, 3) := by decide +kernel
theorem dX10_person_21 : decode cX10_person 21 = .ok (.iconst (-1), 1) := by decide +kernel
theorem dX10_person_22 : decode cX10_person 22 = .ok (.ireturn, 1) := by decide +kernel
set_option maxHeartbeats 4000000 in
set_option maxRecDepth 100000 in
theorem x_person (l : Launch) (g : va_G) (aC : Nat → ClassId) (aM : Nat → Nat) (h1 h5 h18 : Nat) (x2 x3 x4 x6 x7 x8 x9 x10 x11 x12 x13 x14 x15 x16 x17 x19 x20 x21 x22 x23 x24 x25 x26 x27 x28 x29 : Value) (n_1 n_2 : Int32) : Ct l g aC aM yX10_person cX10_person 3 (some .int) 2 [.ref h1, .int n_1, .int n_2] [(h1, .inr (10, [x2, x3, x4, .ref h5, x6, x7, x8, x9, x10, x11, x12, x13, x14, x15, x16, x17])), (h5, .inr (8, [.ref h18, x19, x20, x21, x22, x23, x24, x25, x26, x27, x28, x29])), (h18, .inl (aC 0, 5, .inl (fun _ => 0)))] (QI g (fun (r : Int32) (_ : Unit) => r = (-1)) (fun (_ : Unit) => [])) 0 0 := by
  refine Ct.mk (by decide) (Nat.le_of_ble_eq_true rfl) ?_
  intro p e s m below meth c A ls hx hb hml hown hts hr hlk hnm hK hA hM hM2 hP hD hS hl
  have hown : s.vm.findClass RX10 = some m.cls := hown
  have F : Fx p s m _ c cX10_person 3 RX10 g aC aM A := ⟨hx, hb, hml, hown, hts, hK, hA, hM, hM2⟩
  have hl : lv_has ls 3 [(0, .ref h1), (1, .int n_1), (2, .int n_2)] := hl
  refine lv_aload_n hx hb dX10_person_0 rfl (lv_at hl 0 rfl) ?_
  refine xget F hP 0 rfl rfl inX10 3 (by decide) tb403 rfl dX10_person_1 ?_
  refine lv_iconst (v := 3) hx hb dX10_person_4 (by decide) ?_
  refine lv_iload_n hx hb dX10_person_5 rfl (lv_at hl 1 rfl) ?_
  refine goI (wr := [(h1, .inr (10, [x2, x3, x4, .ref h5, x6, x7, x8, x9, x10, x11, x12, x13, x14, x15, x16, x17]))]) (runV (n := 2) (As := [.int 3, .int n_1]) (rest := []) F hP hD hS (k_has3 l g aC aM h5 h18 x19 x20 x21 x22 x23 x24 x25 x26 x27 x28 x29 n_1) [1, 2] (by decide) rfl 1 8 rfl rfl rfl tb654 tb761 tb652 tb653 tb9 ⟨by decide, by decide, by decide +kernel⟩ ⟨Nat.le_of_ble_eq_true rfl, Nat.le_of_ble_eq_true rfl⟩ rfl hl.1 rfl (Nat.le_of_ble_eq_true rfl) dX10_person_6 ⟨Nat.le_of_ble_eq_true rfl, Nat.le_of_ble_eq_true rfl⟩) hP hD hS hA [1, 2] [0] rfl rfl (by decide) (by decide) (fun r_2 w3 H locs hw hP hD hS => ?_)
  have hP : va_P g vwCl [(h1, .inr (10, [x2, x3, x4, .ref h5, x6, x7, x8, x9, x10, x11, x12, x13, x14, x15, x16, x17])), (h5, .inr (8, [.ref h18, x19, x20, x21, x22, x23, x24, x25, x26, x27, x28, x29])), (h18, .inl (aC 0, 5, .inl (fun _ => 0)))] H := hP
  have hD : va_D A [(h1, .inr (10, [x2, x3, x4, .ref h5, x6, x7, x8, x9, x10, x11, x12, x13, x14, x15, x16, x17])), (h5, .inr (8, [.ref h18, x19, x20, x21, x22, x23, x24, x25, x26, x27, x28, x29])), (h18, .inl (aC 0, 5, .inl (fun _ => 0)))] := hD
  try dsimp only at hw
  subst hw
  refine lv_if_eq (tgt := 21) hx hb dX10_person_9 (by decide) (fun _ => ?_) (fun c_ => absurd (by decide +kernel) c_)
  refine lv_iconst (v := (-1)) hx hb dX10_person_21 (by decide) ?_
  have hP9 := hP.sub (ws' := []) [] rfl
  have hD9 := hD.sub (ws' := []) [] (by decide) rfl
  exact rI () hx hb hr hlk rfl hS rfl hP9 hD9 (Nat.le_of_ble_eq_true rfl) (Nat.le_of_ble_eq_true rfl) dX10_person_22

theorem dX10_thing_0 : decode cX10_thing 0 = .ok (.aload_n 0, 1) := by decide +kernel
theorem dX10_thing_1 : decode cX10_thing 1 = .ok (.getfield 35, 3) := by decide +kernel
theorem dX10_thing_4 : decode cX10_thing 4 = .ok (.iconst 2, 1) := by decide +kernel
theorem dX10_thing_5 : decode cX10_thing 5 = .ok (.iload_n 1, 1) := by decide +kernel
theorem dX10_thing_6 : decode cX10_thing 6 = .ok (.invokevirtual 129, 3) := by decide +kernel
theorem dX10_thing_9 : decode cX10_thing 9 = .ok (.ifCond .eq 15, 3) := by decide +kernel
theorem dX10_thing_24 : decode cX10_thing 24 = .ok (.iconst (-1), 1) := by decide +kernel
theorem dX10_thing_25 : decode cX10_thing 25 = .ok (.ireturn, 1) := by decide +kernel
set_option maxHeartbeats 4000000 in
set_option maxRecDepth 100000 in
theorem x_thing (l : Launch) (g : va_G) (aC : Nat → ClassId) (aM : Nat → Nat) (h1 h5 h18 : Nat) (x2 x3 x4 x6 x7 x8 x9 x10 x11 x12 x13 x14 x15 x16 x17 x19 x20 x21 x22 x23 x24 x25 x26 x27 x28 x29 : Value) (n_1 : Int32) : Ct l g aC aM yX10_thing cX10_thing 2 (some .int) 2 [.ref h1, .int n_1] [(h1, .inr (10, [x2, x3, x4, .ref h5, x6, x7, x8, x9, x10, x11, x12, x13, x14, x15, x16, x17])), (h5, .inr (8, [.ref h18, x19, x20, x21, x22, x23, x24, x25, x26, x27, x28, x29])), (h18, .inl (aC 0, 5, .inl (fun _ => 0)))] (QI g (fun (r : Int32) (_ : Unit) => r = (-1)) (fun (_ : Unit) => [])) 0 0 := by
  refine Ct.mk (by decide) (Nat.le_of_ble_eq_true rfl) ?_
  intro p e s m below meth c A ls hx hb hml hown hts hr hlk hnm hK hA hM hM2 hP hD hS hl
  have hown : s.vm.findClass RX10 = some m.cls := hown
  have F : Fx p s m _ c cX10_thing 2 RX10 g aC aM A := ⟨hx, hb, hml, hown, hts, hK, hA, hM, hM2⟩
  have hl : lv_has ls 2 [(0, .ref h1), (1, .int n_1)] := hl
  refine lv_aload_n hx hb dX10_thing_0 rfl (lv_at hl 0 rfl) ?_
  refine xget F hP 0 rfl rfl inX10 3 (by decide) tb403 rfl dX10_thing_1 ?_
  refine lv_iconst (v := 2) hx hb dX10_thing_4 (by decide) ?_
  refine lv_iload_n hx hb dX10_thing_5 rfl (lv_at hl 1 rfl) ?_
  refine goI (wr := [(h1, .inr (10, [x2, x3, x4, .ref h5, x6, x7, x8, x9, x10, x11, x12, x13, x14, x15, x16, x17]))]) (runV (n := 2) (As := [.int 2, .int n_1]) (rest := []) F hP hD hS (k_has2 l g aC aM h5 h18 x19 x20 x21 x22 x23 x24 x25 x26 x27 x28 x29 n_1) [1, 2] (by decide) rfl 1 8 rfl rfl rfl tb654 tb761 tb652 tb653 tb9 ⟨by decide, by decide, by decide +kernel⟩ ⟨Nat.le_of_ble_eq_true rfl, Nat.le_of_ble_eq_true rfl⟩ rfl hl.1 rfl (Nat.le_of_ble_eq_true rfl) dX10_thing_6 ⟨Nat.le_of_ble_eq_true rfl, Nat.le_of_ble_eq_true rfl⟩) hP hD hS hA [1, 2] [0] rfl rfl (by decide) (by decide) (fun r_2 w3 H locs hw hP hD hS => ?_)
  have hP : va_P g vwCl [(h1, .inr (10, [x2, x3, x4, .ref h5, x6, x7, x8, x9, x10, x11, x12, x13, x14, x15, x16, x17])), (h5, .inr (8, [.ref h18, x19, x20, x21, x22, x23, x24, x25, x26, x27, x28, x29])), (h18, .inl (aC 0, 5, .inl (fun _ => 0)))] H := hP
  have hD : va_D A [(h1, .inr (10, [x2, x3, x4, .ref h5, x6, x7, x8, x9, x10, x11, x12, x13, x14, x15, x16, x17])), (h5, .inr (8, [.ref h18, x19, x20, x21, x22, x23, x24, x25, x26, x27, x28, x29])), (h18, .inl (aC 0, 5, .inl (fun _ => 0)))] := hD
  try dsimp only at hw
  subst hw
  refine lv_if_eq (tgt := 24) hx hb dX10_thing_9 (by decide) (fun _ => ?_) (fun c_ => absurd (by decide +kernel) c_)
  refine lv_iconst (v := (-1)) hx hb dX10_thing_24 (by decide) ?_
  have hP9 := hP.sub (ws' := []) [] rfl
  have hD9 := hD.sub (ws' := []) [] (by decide) rfl
  exact rI () hx hb hr hlk rfl hS rfl hP9 hD9 (Nat.le_of_ble_eq_true rfl) (Nat.le_of_ble_eq_true rfl) dX10_thing_25

theorem dX10_reach_0 : decode cX10_reach 0 = .ok (.aload_n 0, 1) := by decide +kernel
theorem dX10_reach_1 : decode cX10_reach 1 = .ok (.getfield 35, 3) := by decide +kernel
theorem dX10_reach_4 : decode cX10_reach 4 = .ok (.iconst 3, 1) := by decide +kernel
theorem dX10_reach_5 : decode cX10_reach 5 = .ok (.iload_n 1, 1) := by decide +kernel
theorem dX10_reach_6 : decode cX10_reach 6 = .ok (.invokevirtual 129, 3) := by decide +kernel
theorem dX10_reach_9 : decode cX10_reach 9 = .ok (.ifCond .ne 5, 3) := by decide +kernel
theorem dX10_reach_12 : decode cX10_reach 12 = .ok (.iconst (-1), 1) := by decide +kernel
theorem dX10_reach_13 : decode cX10_reach 13 = .ok (.ireturn, 1) := by decide +kernel
set_option maxHeartbeats 4000000 in
set_option maxRecDepth 100000 in
theorem x_reach (l : Launch) (g : va_G) (aC : Nat → ClassId) (aM : Nat → Nat) (h1 h5 h18 : Nat) (x2 x3 x4 x6 x7 x8 x9 x10 x11 x12 x13 x14 x15 x16 x17 x19 x20 x21 x22 x23 x24 x25 x26 x27 x28 x29 : Value) (n_1 : Int32) : Ct l g aC aM yX10_reach cX10_reach 5 (some .int) 2 [.ref h1, .int n_1] [(h1, .inr (10, [x2, x3, x4, .ref h5, x6, x7, x8, x9, x10, x11, x12, x13, x14, x15, x16, x17])), (h5, .inr (8, [.ref h18, x19, x20, x21, x22, x23, x24, x25, x26, x27, x28, x29])), (h18, .inl (aC 0, 5, .inl (fun _ => 0)))] (QI g (fun (r : Int32) (_ : Unit) => r = (-1)) (fun (_ : Unit) => [])) 0 0 := by
  refine Ct.mk (by decide) (Nat.le_of_ble_eq_true rfl) ?_
  intro p e s m below meth c A ls hx hb hml hown hts hr hlk hnm hK hA hM hM2 hP hD hS hl
  have hown : s.vm.findClass RX10 = some m.cls := hown
  have F : Fx p s m _ c cX10_reach 5 RX10 g aC aM A := ⟨hx, hb, hml, hown, hts, hK, hA, hM, hM2⟩
  have hl : lv_has ls 5 [(0, .ref h1), (1, .int n_1)] := hl
  refine lv_aload_n hx hb dX10_reach_0 rfl (lv_at hl 0 rfl) ?_
  refine xget F hP 0 rfl rfl inX10 3 (by decide) tb403 rfl dX10_reach_1 ?_
  refine lv_iconst (v := 3) hx hb dX10_reach_4 (by decide) ?_
  refine lv_iload_n hx hb dX10_reach_5 rfl (lv_at hl 1 rfl) ?_
  refine goI (wr := [(h1, .inr (10, [x2, x3, x4, .ref h5, x6, x7, x8, x9, x10, x11, x12, x13, x14, x15, x16, x17]))]) (runV (n := 2) (As := [.int 3, .int n_1]) (rest := []) F hP hD hS (k_has3 l g aC aM h5 h18 x19 x20 x21 x22 x23 x24 x25 x26 x27 x28 x29 n_1) [1, 2] (by decide) rfl 1 8 rfl rfl rfl tb654 tb761 tb652 tb653 tb9 ⟨by decide, by decide, by decide +kernel⟩ ⟨Nat.le_of_ble_eq_true rfl, Nat.le_of_ble_eq_true rfl⟩ rfl hl.1 rfl (Nat.le_of_ble_eq_true rfl) dX10_reach_6 ⟨Nat.le_of_ble_eq_true rfl, Nat.le_of_ble_eq_true rfl⟩) hP hD hS hA [1, 2] [0] rfl rfl (by decide) (by decide) (fun r_2 w3 H locs hw hP hD hS => ?_)
  have hP : va_P g vwCl [(h1, .inr (10, [x2, x3, x4, .ref h5, x6, x7, x8, x9, x10, x11, x12, x13, x14, x15, x16, x17])), (h5, .inr (8, [.ref h18, x19, x20, x21, x22, x23, x24, x25, x26, x27, x28, x29])), (h18, .inl (aC 0, 5, .inl (fun _ => 0)))] H := hP
  have hD : va_D A [(h1, .inr (10, [x2, x3, x4, .ref h5, x6, x7, x8, x9, x10, x11, x12, x13, x14, x15, x16, x17])), (h5, .inr (8, [.ref h18, x19, x20, x21, x22, x23, x24, x25, x26, x27, x28, x29])), (h18, .inl (aC 0, 5, .inl (fun _ => 0)))] := hD
  try dsimp only at hw
  subst hw
  refine lv_if_ne (tgt := 14) hx hb dX10_reach_9 (by decide) (fun c_ => absurd (by decide +kernel) c_) (fun _ => ?_)
  refine lv_iconst (v := (-1)) hx hb dX10_reach_12 (by decide) ?_
  have hP9 := hP.sub (ws' := []) [] rfl
  have hD9 := hD.sub (ws' := []) [] (by decide) rfl
  exact rI () hx hb hr hlk rfl hS rfl hP9 hD9 (Nat.le_of_ble_eq_true rfl) (Nat.le_of_ble_eq_true rfl) dX10_reach_13

theorem dX10_cost_0 : decode cX10_cost 0 = .ok (.aload_n 0, 1) := by decide +kernel
theorem dX10_cost_1 : decode cX10_cost 1 = .ok (.getfield 35, 3) := by decide +kernel
theorem dX10_cost_4 : decode cX10_cost 4 = .ok (.iconst 3, 1) := by decide +kernel
theorem dX10_cost_5 : decode cX10_cost 5 = .ok (.iload_n 1, 1) := by decide +kernel
theorem dX10_cost_6 : decode cX10_cost 6 = .ok (.invokevirtual 129, 3) := by decide +kernel
theorem dX10_cost_9 : decode cX10_cost 9 = .ok (.ifCond .ne 5, 3) := by decide +kernel
theorem dX10_cost_12 : decode cX10_cost 12 = .ok (.iconst (-1), 1) := by decide +kernel
theorem dX10_cost_13 : decode cX10_cost 13 = .ok (.ireturn, 1) := by decide +kernel
set_option maxHeartbeats 4000000 in
set_option maxRecDepth 100000 in
theorem x_cost (l : Launch) (g : va_G) (aC : Nat → ClassId) (aM : Nat → Nat) (h1 h5 h18 : Nat) (x2 x3 x4 x6 x7 x8 x9 x10 x11 x12 x13 x14 x15 x16 x17 x19 x20 x21 x22 x23 x24 x25 x26 x27 x28 x29 : Value) (n_1 n_2 : Int32) : Ct l g aC aM yX10_cost cX10_cost 6 (some .int) 2 [.ref h1, .int n_1, .int n_2] [(h1, .inr (10, [x2, x3, x4, .ref h5, x6, x7, x8, x9, x10, x11, x12, x13, x14, x15, x16, x17])), (h5, .inr (8, [.ref h18, x19, x20, x21, x22, x23, x24, x25, x26, x27, x28, x29])), (h18, .inl (aC 0, 5, .inl (fun _ => 0)))] (QI g (fun (r : Int32) (_ : Unit) => r = (-1)) (fun (_ : Unit) => [])) 0 0 := by
  refine Ct.mk (by decide) (Nat.le_of_ble_eq_true rfl) ?_
  intro p e s m below meth c A ls hx hb hml hown hts hr hlk hnm hK hA hM hM2 hP hD hS hl
  have hown : s.vm.findClass RX10 = some m.cls := hown
  have F : Fx p s m _ c cX10_cost 6 RX10 g aC aM A := ⟨hx, hb, hml, hown, hts, hK, hA, hM, hM2⟩
  have hl : lv_has ls 6 [(0, .ref h1), (1, .int n_1), (2, .int n_2)] := hl
  refine lv_aload_n hx hb dX10_cost_0 rfl (lv_at hl 0 rfl) ?_
  refine xget F hP 0 rfl rfl inX10 3 (by decide) tb403 rfl dX10_cost_1 ?_
  refine lv_iconst (v := 3) hx hb dX10_cost_4 (by decide) ?_
  refine lv_iload_n hx hb dX10_cost_5 rfl (lv_at hl 1 rfl) ?_
  refine goI (wr := [(h1, .inr (10, [x2, x3, x4, .ref h5, x6, x7, x8, x9, x10, x11, x12, x13, x14, x15, x16, x17]))]) (runV (n := 2) (As := [.int 3, .int n_1]) (rest := []) F hP hD hS (k_has3 l g aC aM h5 h18 x19 x20 x21 x22 x23 x24 x25 x26 x27 x28 x29 n_1) [1, 2] (by decide) rfl 1 8 rfl rfl rfl tb654 tb761 tb652 tb653 tb9 ⟨by decide, by decide, by decide +kernel⟩ ⟨Nat.le_of_ble_eq_true rfl, Nat.le_of_ble_eq_true rfl⟩ rfl hl.1 rfl (Nat.le_of_ble_eq_true rfl) dX10_cost_6 ⟨Nat.le_of_ble_eq_true rfl, Nat.le_of_ble_eq_true rfl⟩) hP hD hS hA [1, 2] [0] rfl rfl (by decide) (by decide) (fun r_2 w3 H locs hw hP hD hS => ?_)
  have hP : va_P g vwCl [(h1, .inr (10, [x2, x3, x4, .ref h5, x6, x7, x8, x9, x10, x11, x12, x13, x14, x15, x16, x17])), (h5, .inr (8, [.ref h18, x19, x20, x21, x22, x23, x24, x25, x26, x27, x28, x29])), (h18, .inl (aC 0, 5, .inl (fun _ => 0)))] H := hP
  have hD : va_D A [(h1, .inr (10, [x2, x3, x4, .ref h5, x6, x7, x8, x9, x10, x11, x12, x13, x14, x15, x16, x17])), (h5, .inr (8, [.ref h18, x19, x20, x21, x22, x23, x24, x25, x26, x27, x28, x29])), (h18, .inl (aC 0, 5, .inl (fun _ => 0)))] := hD
  try dsimp only at hw
  subst hw
  refine lv_if_ne (tgt := 14) hx hb dX10_cost_9 (by decide) (fun c_ => absurd (by decide +kernel) c_) (fun _ => ?_)
  refine lv_iconst (v := (-1)) hx hb dX10_cost_12 (by decide) ?_
  have hP9 := hP.sub (ws' := []) [] rfl
  have hD9 := hD.sub (ws' := []) [] (by decide) rfl
  exact rI () hx hb hr hlk rfl hS rfl hP9 hD9 (Nat.le_of_ble_eq_true rfl) (Nat.le_of_ble_eq_true rfl) dX10_cost_13

theorem tb231 : (Jvm.Cond.fieldLink "StairGang" (261 : Nat) "StairGang$Town" "counts" "[I") ∈ gw := lw_m 231 (by decide +kernel)
theorem dX10_cut_0 : decode cX10_cut 0 = .ok (.aload_n 0, 1) := by decide +kernel
theorem dX10_cut_1 : decode cX10_cut 1 = .ok (.aload_n 0, 1) := by decide +kernel
theorem dX10_cut_2 : decode cX10_cut 2 = .ok (.getfield 45, 3) := by decide +kernel
theorem dX10_cut_5 : decode cX10_cut 5 = .ok (.invokevirtual 163, 3) := by decide +kernel
theorem dX10_fillLacks_0 : decode cX10_fillLacks 0 = .ok (.iconst 0, 1) := by decide +kernel
theorem dX10_fillLacks_1 : decode cX10_fillLacks 1 = .ok (.istore_n 2, 1) := by decide +kernel
theorem dX10_fillLacks_2 : decode cX10_fillLacks 2 = .ok (.iload_n 2, 1) := by decide +kernel
theorem dX10_fillLacks_3 : decode cX10_fillLacks 3 = .ok (.aload_n 0, 1) := by decide +kernel
theorem dX10_fillLacks_4 : decode cX10_fillLacks 4 = .ok (.getfield 35, 3) := by decide +kernel
theorem dX10_fillLacks_7 : decode cX10_fillLacks 7 = .ok (.getfield 261, 3) := by decide +kernel
theorem dX10_fillLacks_10 : decode cX10_fillLacks 10 = .ok (.iconst 3, 1) := by decide +kernel
theorem dX10_fillLacks_11 : decode cX10_fillLacks 11 = .ok (.iaload, 1) := by decide +kernel
theorem dX10_fillLacks_12 : decode cX10_fillLacks 12 = .ok (.if_icmp .ge 30, 3) := by decide +kernel
theorem dX10_fillLacks_42 : decode cX10_fillLacks 42 = .ok (.return_, 1) := by decide +kernel
set_option maxHeartbeats 4000000 in
set_option maxRecDepth 100000 in
theorem a_X10_fillLacks_1 (l : Launch) (g : va_G) (aC : Nat → ClassId) (aM : Nat → Nat) (h1 h2 h6 h19 : Nat) (x3 x4 x5 x7 x8 x9 x10 x11 x12 x13 x14 x15 x16 x17 x18 x20 x21 x22 x23 x24 x25 x26 x27 x28 x29 x30 : Value) : Ct l g aC aM yX10_fillLacks cX10_fillLacks 3 none 1 [.ref h1, .ref h2] [(h1, .inr (10, [x3, x4, x5, .ref h6, x7, x8, x9, x10, x11, x12, x13, x14, x15, x16, x17, x18])), (h6, .inr (8, [.ref h19, x20, x21, x22, x23, x24, x25, x26, x27, x28, x29, x30])), (h19, .inl (aC 0, 5, .inl (fun _ => 0)))] (QV g (fun (_ : Unit) => True) (fun (_ : Unit) => [(h1, .inr (10, [x3, x4, x5, .ref h6, x7, x8, x9, x10, x11, x12, x13, x14, x15, x16, x17, x18])), (h6, .inr (8, [.ref h19, x20, x21, x22, x23, x24, x25, x26, x27, x28, x29, x30])), (h19, .inl (aC 0, 5, .inl (fun _ => 0)))])) 0 0 := by
  refine Ct.mk (by decide) (Nat.le_of_ble_eq_true rfl) ?_
  intro p e s m below meth c A ls hx hb hml hown hts hr hlk hnm hK hA hM hM2 hP hD hS hl
  have hown : s.vm.findClass RX10 = some m.cls := hown
  have F : Fx p s m _ c cX10_fillLacks 3 RX10 g aC aM A := ⟨hx, hb, hml, hown, hts, hK, hA, hM, hM2⟩
  have hl : lv_has ls 3 [(0, .ref h1), (1, .ref h2)] := hl
  refine lv_iconst (v := 0) hx hb dX10_fillLacks_0 (by decide) ?_
  refine lv_istore_n (lv' := [(2, .int 0), (0, .ref h1), (1, .ref h2)]) hx hb dX10_fillLacks_1 rfl hl (by decide) rfl (fun ls hl => ?_)
  refine lv_iload_n hx hb dX10_fillLacks_2 rfl (lv_at hl 0 rfl) ?_
  refine lv_aload_n hx hb dX10_fillLacks_3 rfl (lv_at hl 1 rfl) ?_
  refine xget F hP 0 rfl rfl inX10 3 (by decide) tb403 rfl dX10_fillLacks_4 ?_
  refine xget F hP 1 rfl rfl inX8 0 (by decide) tb231 rfl dX10_fillLacks_7 ?_
  refine lv_iconst (v := 3) hx hb dX10_fillLacks_10 (by decide) ?_
  refine xilo (v := 0) F hP 2 rfl 3 (by decide +kernel) (by decide +kernel) (by decide) (by decide +kernel) dX10_fillLacks_11 ?_
  refine lv_icmp_ge (tgt := 42) hx hb dX10_fillLacks_12 (by decide) (fun _ => ?_) (fun c_ => absurd (by decide +kernel) c_)
  have hP9 := hP.sub (ws' := [(h1, .inr (10, [x3, x4, x5, .ref h6, x7, x8, x9, x10, x11, x12, x13, x14, x15, x16, x17, x18])), (h6, .inr (8, [.ref h19, x20, x21, x22, x23, x24, x25, x26, x27, x28, x29, x30])), (h19, .inl (aC 0, 5, .inl (fun _ => 0)))]) [0, 1, 2] rfl
  have hD9 := hD.sub (ws' := [(h1, .inr (10, [x3, x4, x5, .ref h6, x7, x8, x9, x10, x11, x12, x13, x14, x15, x16, x17, x18])), (h6, .inr (8, [.ref h19, x20, x21, x22, x23, x24, x25, x26, x27, x28, x29, x30])), (h19, .inl (aC 0, 5, .inl (fun _ => 0)))]) [0, 1, 2] (by decide) rfl
  exact rV () hx hb hr hlk hS trivial hP9 hD9 (Nat.le_of_ble_eq_true rfl) (Nat.le_of_ble_eq_true rfl) dX10_fillLacks_42

theorem tb1 : (Jvm.Cond.initialized "StairGang") ∈ gw := lw_m 1 (by decide +kernel)
theorem tb293 : (Jvm.Cond.fieldLink "StairGang" (133 : Nat) "StairGang$State" "there" "I") ∈ gw := lw_m 293 (by decide +kernel)
theorem tb817 : (Jvm.Cond.methodLink "StairGang" (163 : Nat) ({ cls := "StairGang", name := "fillLacks", desc := "(LStairGang$State;)V" } : Jvm.MethodName)) ∈ gw := lw_m 817 (by decide +kernel)
theorem tb819 : (Jvm.Cond.instanceMethod ({ cls := "StairGang", name := "fillLacks", desc := "(LStairGang$State;)V" } : Jvm.MethodName)) ∈ gw := lw_m 819 (by decide +kernel)
theorem tb820 : (Jvm.Cond.code ({ cls := "StairGang", name := "fillLacks", desc := "(LStairGang$State;)V" } : Jvm.MethodName) prog_1_method_32_code (3 : Nat) (Option.none : Option Jvm.ClassFile.FieldType)) ∈ gw := lw_m 820 (by decide +kernel)
theorem tv19 : Cond.selects "StairGang" ⟨"StairGang", "fillLacks", "(LStairGang$State;)V"⟩ ⟨"StairGang", "fillLacks", "(LStairGang$State;)V"⟩ ∈ gw := lw_v 19 (by decide +kernel)
theorem dX10_cut_8 : decode cX10_cut 8 = .ok (.aload_n 0, 1) := by decide +kernel
theorem dX10_cut_9 : decode cX10_cut 9 = .ok (.aload_n 0, 1) := by decide +kernel
theorem dX10_cut_10 : decode cX10_cut 10 = .ok (.getfield 45, 3) := by decide +kernel
theorem dX10_cut_13 : decode cX10_cut 13 = .ok (.getfield 133, 3) := by decide +kernel
theorem dX10_cut_16 : decode cX10_cut 16 = .ok (.invokevirtual 167, 3) := by decide +kernel
theorem dX10_cutBy_0 : decode cX10_cutBy 0 = .ok (.iconst 0, 1) := by decide +kernel
theorem dX10_cutBy_1 : decode cX10_cutBy 1 = .ok (.istore_n 2, 1) := by decide +kernel
theorem dX10_cutBy_2 : decode cX10_cutBy 2 = .ok (.iconst 0, 1) := by decide +kernel
theorem dX10_cutBy_3 : decode cX10_cutBy 3 = .ok (.istore_n 3, 1) := by decide +kernel
theorem dX10_cutBy_4 : decode cX10_cutBy 4 = .ok (.iload_n 3, 1) := by decide +kernel
theorem dX10_cutBy_5 : decode cX10_cutBy 5 = .ok (.aload_n 0, 1) := by decide +kernel
theorem dX10_cutBy_6 : decode cX10_cutBy 6 = .ok (.getfield 35, 3) := by decide +kernel
theorem dX10_cutBy_9 : decode cX10_cutBy 9 = .ok (.getfield 261, 3) := by decide +kernel
theorem dX10_cutBy_12 : decode cX10_cutBy 12 = .ok (.iconst 3, 1) := by decide +kernel
theorem dX10_cutBy_13 : decode cX10_cutBy 13 = .ok (.iaload, 1) := by decide +kernel
theorem dX10_cutBy_14 : decode cX10_cutBy 14 = .ok (.if_icmp .ge 28, 3) := by decide +kernel
theorem dX10_cutBy_42 : decode cX10_cutBy 42 = .ok (.iload_n 2, 1) := by decide +kernel
theorem dX10_cutBy_43 : decode cX10_cutBy 43 = .ok (.ireturn, 1) := by decide +kernel
set_option maxHeartbeats 4000000 in
set_option maxRecDepth 100000 in
theorem a_X10_cutBy_1 (l : Launch) (g : va_G) (aC : Nat → ClassId) (aM : Nat → Nat) (h1 h5 h18 : Nat) (x2 x3 x4 x6 x7 x8 x9 x10 x11 x12 x13 x14 x15 x16 x17 x19 x20 x21 x22 x23 x24 x25 x26 x27 x28 x29 : Value) : Ct l g aC aM yX10_cutBy cX10_cutBy 4 (some .int) 1 [.ref h1, .int 0] [(h1, .inr (10, [x2, x3, x4, .ref h5, x6, x7, x8, x9, x10, x11, x12, x13, x14, x15, x16, x17])), (h5, .inr (8, [.ref h18, x19, x20, x21, x22, x23, x24, x25, x26, x27, x28, x29])), (h18, .inl (aC 0, 5, .inl (fun _ => 0)))] (QI g (fun (r : Int32) (_ : Unit) => r = 0) (fun (_ : Unit) => [(h1, .inr (10, [x2, x3, x4, .ref h5, x6, x7, x8, x9, x10, x11, x12, x13, x14, x15, x16, x17])), (h5, .inr (8, [.ref h18, x19, x20, x21, x22, x23, x24, x25, x26, x27, x28, x29])), (h18, .inl (aC 0, 5, .inl (fun _ => 0)))])) 0 0 := by
  refine Ct.mk (by decide) (Nat.le_of_ble_eq_true rfl) ?_
  intro p e s m below meth c A ls hx hb hml hown hts hr hlk hnm hK hA hM hM2 hP hD hS hl
  have hown : s.vm.findClass RX10 = some m.cls := hown
  have F : Fx p s m _ c cX10_cutBy 4 RX10 g aC aM A := ⟨hx, hb, hml, hown, hts, hK, hA, hM, hM2⟩
  have hl : lv_has ls 4 [(0, .ref h1), (1, .int 0)] := hl
  refine lv_iconst (v := 0) hx hb dX10_cutBy_0 (by decide) ?_
  refine lv_istore_n (lv' := [(2, .int 0), (0, .ref h1), (1, .int 0)]) hx hb dX10_cutBy_1 rfl hl (by decide) rfl (fun ls hl => ?_)
  refine lv_iconst (v := 0) hx hb dX10_cutBy_2 (by decide) ?_
  refine lv_istore_n (lv' := [(3, .int 0), (2, .int 0), (0, .ref h1), (1, .int 0)]) hx hb dX10_cutBy_3 rfl hl (by decide) rfl (fun ls hl => ?_)
  refine lv_iload_n hx hb dX10_cutBy_4 rfl (lv_at hl 0 rfl) ?_
  refine lv_aload_n hx hb dX10_cutBy_5 rfl (lv_at hl 2 rfl) ?_
  refine xget F hP 0 rfl rfl inX10 3 (by decide) tb403 rfl dX10_cutBy_6 ?_
  refine xget F hP 1 rfl rfl inX8 0 (by decide) tb231 rfl dX10_cutBy_9 ?_
  refine lv_iconst (v := 3) hx hb dX10_cutBy_12 (by decide) ?_
  refine xilo (v := 0) F hP 2 rfl 3 (by decide +kernel) (by decide +kernel) (by decide) (by decide +kernel) dX10_cutBy_13 ?_
  refine lv_icmp_ge (tgt := 42) hx hb dX10_cutBy_14 (by decide) (fun _ => ?_) (fun c_ => absurd (by decide +kernel) c_)
  refine lv_iload_n hx hb dX10_cutBy_42 rfl (lv_at hl 1 rfl) ?_
  have hP9 := hP.sub (ws' := [(h1, .inr (10, [x2, x3, x4, .ref h5, x6, x7, x8, x9, x10, x11, x12, x13, x14, x15, x16, x17])), (h5, .inr (8, [.ref h18, x19, x20, x21, x22, x23, x24, x25, x26, x27, x28, x29])), (h18, .inl (aC 0, 5, .inl (fun _ => 0)))]) [0, 1, 2] rfl
  have hD9 := hD.sub (ws' := [(h1, .inr (10, [x2, x3, x4, .ref h5, x6, x7, x8, x9, x10, x11, x12, x13, x14, x15, x16, x17])), (h5, .inr (8, [.ref h18, x19, x20, x21, x22, x23, x24, x25, x26, x27, x28, x29])), (h18, .inl (aC 0, 5, .inl (fun _ => 0)))]) [0, 1, 2] (by decide) rfl
  exact rI () hx hb hr hlk rfl hS rfl hP9 hD9 (Nat.le_of_ble_eq_true rfl) (Nat.le_of_ble_eq_true rfl) dX10_cutBy_43

theorem tb826 : (Jvm.Cond.methodLink "StairGang" (167 : Nat) ({ cls := "StairGang", name := "cutBy", desc := "(I)I" } : Jvm.MethodName)) ∈ gw := lw_m 826 (by decide +kernel)
theorem tb828 : (Jvm.Cond.instanceMethod ({ cls := "StairGang", name := "cutBy", desc := "(I)I" } : Jvm.MethodName)) ∈ gw := lw_m 828 (by decide +kernel)
theorem tb829 : (Jvm.Cond.code ({ cls := "StairGang", name := "cutBy", desc := "(I)I" } : Jvm.MethodName) prog_1_method_33_code (4 : Nat) (Option.some Jvm.ClassFile.FieldType.int)) ∈ gw := lw_m 829 (by decide +kernel)
theorem tv20 : Cond.selects "StairGang" ⟨"StairGang", "cutBy", "(I)I"⟩ ⟨"StairGang", "cutBy", "(I)I"⟩ ∈ gw := lw_v 20 (by decide +kernel)
theorem dX10_cut_19 : decode cX10_cut 19 = .ok (.ireturn, 1) := by decide +kernel
set_option maxHeartbeats 4000000 in
set_option maxRecDepth 100000 in
theorem x_cut (l : Launch) (g : va_G) (aC : Nat → ClassId) (aM : Nat → Nat) (h1 h5 h7 h18 : Nat) (x2 x3 x4 x6 x8 x9 x10 x11 x12 x13 x14 x15 x16 x17 x19 x20 x21 x22 x23 x24 x25 x26 x27 x28 x29 x30 x31 x32 x33 x34 : Value) : Ct l g aC aM yX10_cut cX10_cut 1 (some .int) 2 [.ref h1] [(h1, .inr (10, [x2, x3, x4, .ref h5, x6, .ref h7, x8, x9, x10, x11, x12, x13, x14, x15, x16, x17])), (h5, .inr (8, [.ref h18, x19, x20, x21, x22, x23, x24, x25, x26, x27, x28, x29])), (h18, .inl (aC 0, 5, .inl (fun _ => 0))), (h7, .inr (6, [.int 0, x30, x31, x32, x33, x34]))] (QI g (fun (r : Int32) (_ : Unit) => r = 0) (fun (_ : Unit) => [])) 0 0 := by
  refine Ct.mk (by decide) (Nat.le_of_ble_eq_true rfl) ?_
  intro p e s m below meth c A ls hx hb hml hown hts hr hlk hnm hK hA hM hM2 hP hD hS hl
  have hown : s.vm.findClass RX10 = some m.cls := hown
  have F : Fx p s m _ c cX10_cut 1 RX10 g aC aM A := ⟨hx, hb, hml, hown, hts, hK, hA, hM, hM2⟩
  have hl : lv_has ls 1 [(0, .ref h1)] := hl
  refine lv_aload_n hx hb dX10_cut_0 rfl (lv_at hl 0 rfl) ?_
  refine lv_aload_n hx hb dX10_cut_1 rfl (lv_at hl 0 rfl) ?_
  refine xget F hP 0 rfl rfl inX10 5 (by decide) tb405 rfl dX10_cut_2 ?_
  refine goV (wr := [(h7, .inr (6, [.int 0, x30, x31, x32, x33, x34]))]) (runV (n := 1) (As := [.ref h7]) (rest := []) F hP hD hS (a_X10_fillLacks_1 l g aC aM h1 h7 h5 h18 x2 x3 x4 x6 (.ref h7) x8 x9 x10 x11 x12 x13 x14 x15 x16 x17 x19 x20 x21 x22 x23 x24 x25 x26 x27 x28 x29) [0, 1, 2] (by decide) rfl 0 10 rfl rfl rfl tb820 tb817 tb819 tv19 tb1 ⟨by decide, by decide, by decide +kernel⟩ ⟨Nat.le_of_ble_eq_true rfl, Nat.le_of_ble_eq_true rfl⟩ rfl hl.1 rfl (Nat.le_of_ble_eq_true rfl) dX10_cut_5 ⟨Nat.le_of_ble_eq_true rfl, Nat.le_of_ble_eq_true rfl⟩) hP hD hS hA [0, 1, 2] [3] rfl rfl (by decide) (by decide) (fun w3 H locs hw hP hD hS => ?_)
  have hP : va_P g vwCl [(h7, .inr (6, [.int 0, x30, x31, x32, x33, x34])), (h1, .inr (10, [x2, x3, x4, .ref h5, x6, .ref h7, x8, x9, x10, x11, x12, x13, x14, x15, x16, x17])), (h5, .inr (8, [.ref h18, x19, x20, x21, x22, x23, x24, x25, x26, x27, x28, x29])), (h18, .inl (aC 0, 5, .inl (fun _ => 0)))] H := hP
  have hD : va_D A [(h7, .inr (6, [.int 0, x30, x31, x32, x33, x34])), (h1, .inr (10, [x2, x3, x4, .ref h5, x6, .ref h7, x8, x9, x10, x11, x12, x13, x14, x15, x16, x17])), (h5, .inr (8, [.ref h18, x19, x20, x21, x22, x23, x24, x25, x26, x27, x28, x29])), (h18, .inl (aC 0, 5, .inl (fun _ => 0)))] := hD
  refine lv_aload_n hx hb dX10_cut_8 rfl (lv_at hl 0 rfl) ?_
  refine lv_aload_n hx hb dX10_cut_9 rfl (lv_at hl 0 rfl) ?_
  refine xget F hP 1 rfl rfl inX10 5 (by decide) tb405 rfl dX10_cut_10 ?_
  refine xget F hP 0 rfl rfl inX6 0 (by decide) tb293 rfl dX10_cut_13 ?_
  refine goI (wr := [(h7, .inr (6, [.int 0, x30, x31, x32, x33, x34]))]) (runV (n := 1) (As := [.int 0]) (rest := []) F hP hD hS (a_X10_cutBy_1 l g aC aM h1 h5 h18 x2 x3 x4 x6 (.ref h7) x8 x9 x10 x11 x12 x13 x14 x15 x16 x17 x19 x20 x21 x22 x23 x24 x25 x26 x27 x28 x29) [1, 2, 3] (by decide) rfl 1 10 rfl rfl rfl tb829 tb826 tb828 tv20 tb1 ⟨by decide, by decide, by decide +kernel⟩ ⟨Nat.le_of_ble_eq_true rfl, Nat.le_of_ble_eq_true rfl⟩ rfl hl.1 rfl (Nat.le_of_ble_eq_true rfl) dX10_cut_16 ⟨Nat.le_of_ble_eq_true rfl, Nat.le_of_ble_eq_true rfl⟩) hP hD hS hA [1, 2, 3] [0] rfl rfl (by decide) (by decide) (fun r_5 w6 H locs hw hP hD hS => ?_)
  have hP : va_P g vwCl [(h7, .inr (6, [.int 0, x30, x31, x32, x33, x34])), (h1, .inr (10, [x2, x3, x4, .ref h5, x6, .ref h7, x8, x9, x10, x11, x12, x13, x14, x15, x16, x17])), (h5, .inr (8, [.ref h18, x19, x20, x21, x22, x23, x24, x25, x26, x27, x28, x29])), (h18, .inl (aC 0, 5, .inl (fun _ => 0)))] H := hP
  have hD : va_D A [(h7, .inr (6, [.int 0, x30, x31, x32, x33, x34])), (h1, .inr (10, [x2, x3, x4, .ref h5, x6, .ref h7, x8, x9, x10, x11, x12, x13, x14, x15, x16, x17])), (h5, .inr (8, [.ref h18, x19, x20, x21, x22, x23, x24, x25, x26, x27, x28, x29])), (h18, .inl (aC 0, 5, .inl (fun _ => 0)))] := hD
  try dsimp only at hw
  subst hw
  have hP9 := hP.sub (ws' := []) [] rfl
  have hD9 := hD.sub (ws' := []) [] (by decide) rfl
  exact rI () hx hb hr hlk rfl hS rfl hP9 hD9 (Nat.le_of_ble_eq_true rfl) (Nat.le_of_ble_eq_true rfl) dX10_cut_19

theorem tb20 : (Jvm.Cond.initialized "java/lang/System") ∈ gw := lw_m 20 (by decide +kernel)
theorem tb292 : (Jvm.Cond.fieldLink "StairGang$State" (27 : Nat) "StairGang$State" "there" "I") ∈ gw := lw_m 292 (by decide +kernel)
theorem tb298 : (Jvm.Cond.fieldLink "StairGang$State" (39 : Nat) "StairGang$State" "heap" "I") ∈ gw := lw_m 298 (by decide +kernel)
theorem tb300 : (Jvm.Cond.fieldLink "StairGang$State" (40 : Nat) "StairGang$State" "nights" "I") ∈ gw := lw_m 300 (by decide +kernel)
theorem tb302 : (Jvm.Cond.fieldLink "StairGang$State" (43 : Nat) "StairGang$State" "sold" "I") ∈ gw := lw_m 302 (by decide +kernel)
theorem tb755 : (Jvm.Cond.static ({ cls := "java/lang/System", name := "arraycopy", desc := "(Ljava/lang/Object;ILjava/lang/Object;II)V" } : Jvm.MethodName)) ∈ gw := lw_m 755 (by decide +kernel)
theorem tb756 : (Jvm.Cond.native ({ cls := "java/lang/System", name := "arraycopy", desc := "(Ljava/lang/Object;ILjava/lang/Object;II)V" } : Jvm.MethodName)) ∈ gw := lw_m 756 (by decide +kernel)
theorem tb838 : (Jvm.Cond.methodLink "StairGang$State" (46 : Nat) ({ cls := "java/lang/System", name := "arraycopy", desc := "(Ljava/lang/Object;ILjava/lang/Object;II)V" } : Jvm.MethodName)) ∈ gw := lw_m 838 (by decide +kernel)
theorem dX10_steal_0 : decode cX10_steal 0 = .ok (.aload_n 0, 1) := by decide +kernel
theorem dX10_steal_1 : decode cX10_steal 1 = .ok (.getfield 49, 3) := by decide +kernel
theorem dX10_steal_4 : decode cX10_steal 4 = .ok (.aload_n 0, 1) := by decide +kernel
theorem dX10_steal_5 : decode cX10_steal 5 = .ok (.getfield 45, 3) := by decide +kernel
theorem dX10_steal_8 : decode cX10_steal 8 = .ok (.invokevirtual 170, 3) := by decide +kernel
theorem dX6_copy_0 : decode cX6_copy 0 = .ok (.aload_n 0, 1) := by decide +kernel
theorem dX6_copy_1 : decode cX6_copy 1 = .ok (.aload_n 1, 1) := by decide +kernel
theorem dX6_copy_2 : decode cX6_copy 2 = .ok (.getfield 27, 3) := by decide +kernel
theorem dX6_copy_5 : decode cX6_copy 5 = .ok (.putfield 27, 3) := by decide +kernel
theorem dX6_copy_8 : decode cX6_copy 8 = .ok (.aload_n 1, 1) := by decide +kernel
theorem dX6_copy_9 : decode cX6_copy 9 = .ok (.getfield 13, 3) := by decide +kernel
theorem dX6_copy_12 : decode cX6_copy 12 = .ok (.iconst 0, 1) := by decide +kernel
theorem dX6_copy_13 : decode cX6_copy 13 = .ok (.aload_n 0, 1) := by decide +kernel
theorem dX6_copy_14 : decode cX6_copy 14 = .ok (.getfield 13, 3) := by decide +kernel
theorem dX6_copy_17 : decode cX6_copy 17 = .ok (.iconst 0, 1) := by decide +kernel
theorem dX6_copy_18 : decode cX6_copy 18 = .ok (.aload_n 0, 1) := by decide +kernel
theorem dX6_copy_19 : decode cX6_copy 19 = .ok (.getfield 13, 3) := by decide +kernel
theorem dX6_copy_22 : decode cX6_copy 22 = .ok (.arraylength, 1) := by decide +kernel
theorem dX6_copy_23 : decode cX6_copy 23 = .ok (.invokestatic 46, 3) := by decide +kernel
theorem dX6_copy_26 : decode cX6_copy 26 = .ok (.aload_n 1, 1) := by decide +kernel
theorem dX6_copy_27 : decode cX6_copy 27 = .ok (.getfield 18, 3) := by decide +kernel
theorem dX6_copy_30 : decode cX6_copy 30 = .ok (.iconst 0, 1) := by decide +kernel
theorem dX6_copy_31 : decode cX6_copy 31 = .ok (.aload_n 0, 1) := by decide +kernel
theorem dX6_copy_32 : decode cX6_copy 32 = .ok (.getfield 18, 3) := by decide +kernel
theorem dX6_copy_35 : decode cX6_copy 35 = .ok (.iconst 0, 1) := by decide +kernel
theorem dX6_copy_36 : decode cX6_copy 36 = .ok (.aload_n 0, 1) := by decide +kernel
theorem dX6_copy_37 : decode cX6_copy 37 = .ok (.getfield 18, 3) := by decide +kernel
theorem dX6_copy_40 : decode cX6_copy 40 = .ok (.arraylength, 1) := by decide +kernel
theorem dX6_copy_41 : decode cX6_copy 41 = .ok (.invokestatic 46, 3) := by decide +kernel
theorem dX6_copy_44 : decode cX6_copy 44 = .ok (.aload_n 0, 1) := by decide +kernel
theorem dX6_copy_45 : decode cX6_copy 45 = .ok (.aload_n 1, 1) := by decide +kernel
theorem dX6_copy_46 : decode cX6_copy 46 = .ok (.getfield 39, 3) := by decide +kernel
theorem dX6_copy_49 : decode cX6_copy 49 = .ok (.putfield 39, 3) := by decide +kernel
theorem dX6_copy_52 : decode cX6_copy 52 = .ok (.aload_n 0, 1) := by decide +kernel
theorem dX6_copy_53 : decode cX6_copy 53 = .ok (.aload_n 1, 1) := by decide +kernel
theorem dX6_copy_54 : decode cX6_copy 54 = .ok (.getfield 40, 3) := by decide +kernel
theorem dX6_copy_57 : decode cX6_copy 57 = .ok (.putfield 40, 3) := by decide +kernel
theorem dX6_copy_60 : decode cX6_copy 60 = .ok (.aload_n 0, 1) := by decide +kernel
theorem dX6_copy_61 : decode cX6_copy 61 = .ok (.aload_n 1, 1) := by decide +kernel
theorem dX6_copy_62 : decode cX6_copy 62 = .ok (.getfield 43, 3) := by decide +kernel
theorem dX6_copy_65 : decode cX6_copy 65 = .ok (.putfield 43, 3) := by decide +kernel
theorem dX6_copy_68 : decode cX6_copy 68 = .ok (.return_, 1) := by decide +kernel
set_option maxHeartbeats 4000000 in
set_option maxRecDepth 100000 in
theorem a_X6_copy_1 (l : Launch) (g : va_G) (aC : Nat → ClassId) (aM : Nat → Nat) (h1 h2 h3 h4 h5 h6 : Nat) : Ct l g aC aM yX6_copy cX6_copy 2 none 1 [.ref h1, .ref h2] [(h2, .inr (6, [.int 0, .ref h3, .ref h4, .int 0, .int 0, .int 0])), (h3, .inl (aC 0, 5, .inl (fun _ => 0))), (h4, .inl (aC 0, 4, .inl (fun _ => 0))), (h1, .inr (6, [.int 0, .ref h5, .ref h6, .int 0, .int 0, .int 0])), (h5, .inl (aC 0, 5, .inl (fun _ => 0))), (h6, .inl (aC 0, 4, .inl (fun _ => 0)))] (QV g (fun (_ : Unit) => True) (fun (_ : Unit) => [(h2, .inr (6, [.int 0, .ref h3, .ref h4, .int 0, .int 0, .int 0])), (h3, .inl (aC 0, 5, .inl (fun _ => 0))), (h4, .inl (aC 0, 4, .inl (fun _ => 0))), (h1, .inr (6, [.int 0, .ref h5, .ref h6, .int 0, .int 0, .int 0])), (h5, .inl (aC 0, 5, .inl (fun _ => 0))), (h6, .inl (aC 0, 4, .inl (fun _ => 0)))])) 0 0 := by
  refine Ct.mk (by decide) (Nat.le_of_ble_eq_true rfl) ?_
  intro p e s m below meth c A ls hx hb hml hown hts hr hlk hnm hK hA hM hM2 hP hD hS hl
  have hown : s.vm.findClass RX6 = some m.cls := hown
  have F : Fx p s m _ c cX6_copy 2 RX6 g aC aM A := ⟨hx, hb, hml, hown, hts, hK, hA, hM, hM2⟩
  have hl : lv_has ls 2 [(0, .ref h1), (1, .ref h2)] := hl
  refine lv_aload_n hx hb dX6_copy_0 rfl (lv_at hl 0 rfl) ?_
  refine lv_aload_n hx hb dX6_copy_1 rfl (lv_at hl 1 rfl) ?_
  refine xget F hP 0 rfl rfl inX6 0 (by decide) tb292 rfl dX6_copy_2 ?_
  refine xput F hP hD hS 3 rfl rfl inX6 tyX6_ok nmX6 0 (by decide) tb292 rfl rfl rfl (Nat.le_of_ble_eq_true rfl) dX6_copy_5 (fun H locs hP hD hS => ?_)
  have hP : va_P g vwCl [(h2, .inr (6, [.int 0, .ref h3, .ref h4, .int 0, .int 0, .int 0])), (h3, .inl (aC 0, 5, .inl (fun _ => 0))), (h4, .inl (aC 0, 4, .inl (fun _ => 0))), (h1, .inr (6, [.int 0, .ref h5, .ref h6, .int 0, .int 0, .int 0])), (h5, .inl (aC 0, 5, .inl (fun _ => 0))), (h6, .inl (aC 0, 4, .inl (fun _ => 0)))] H := hP
  have hD : va_D A [(h2, .inr (6, [.int 0, .ref h3, .ref h4, .int 0, .int 0, .int 0])), (h3, .inl (aC 0, 5, .inl (fun _ => 0))), (h4, .inl (aC 0, 4, .inl (fun _ => 0))), (h1, .inr (6, [.int 0, .ref h5, .ref h6, .int 0, .int 0, .int 0])), (h5, .inl (aC 0, 5, .inl (fun _ => 0))), (h6, .inl (aC 0, 4, .inl (fun _ => 0)))] := hD
  refine lv_aload_n hx hb dX6_copy_8 rfl (lv_at hl 1 rfl) ?_
  refine xget F hP 0 rfl rfl inX6 1 (by decide) tb294 rfl dX6_copy_9 ?_
  refine lv_iconst (v := 0) hx hb dX6_copy_12 (by decide) ?_
  refine lv_aload_n hx hb dX6_copy_13 rfl (lv_at hl 0 rfl) ?_
  refine xget F hP 3 rfl rfl inX6 1 (by decide) tb294 rfl dX6_copy_14 ?_
  refine lv_iconst (v := 0) hx hb dX6_copy_17 (by decide) ?_
  refine lv_aload_n hx hb dX6_copy_18 rfl (lv_at hl 0 rfl) ?_
  refine xget F hP 3 rfl rfl inX6 1 (by decide) tb294 rfl dX6_copy_19 ?_
  refine xlen (v := 5) F hP 4 0 rfl rfl rfl dX6_copy_22 ?_
  refine va_copyi hx hb (hml.trans hl.1.symm) hown (hts _ tb838) (hts _ tb756) (hts _ tb755) (hts _ tb20) hK hP hD hS 1 4 0 0 rfl rfl rfl rfl rfl (by decide +kernel) (by decide +kernel) (by decide +kernel) (by decide +kernel) (by decide +kernel) (fun _ _ => rfl) (Nat.le_of_ble_eq_true rfl) (Nat.le_of_ble_eq_true rfl) dX6_copy_23 (fun H locs hP hD hS => ?_)
  rw [xcpy0] at hP hD
  have hP : va_P g vwCl [(h2, .inr (6, [.int 0, .ref h3, .ref h4, .int 0, .int 0, .int 0])), (h3, .inl (aC 0, 5, .inl (fun _ => 0))), (h4, .inl (aC 0, 4, .inl (fun _ => 0))), (h1, .inr (6, [.int 0, .ref h5, .ref h6, .int 0, .int 0, .int 0])), (h5, .inl (aC 0, 5, .inl (fun _ => 0))), (h6, .inl (aC 0, 4, .inl (fun _ => 0)))] H := hP
  have hD : va_D A [(h2, .inr (6, [.int 0, .ref h3, .ref h4, .int 0, .int 0, .int 0])), (h3, .inl (aC 0, 5, .inl (fun _ => 0))), (h4, .inl (aC 0, 4, .inl (fun _ => 0))), (h1, .inr (6, [.int 0, .ref h5, .ref h6, .int 0, .int 0, .int 0])), (h5, .inl (aC 0, 5, .inl (fun _ => 0))), (h6, .inl (aC 0, 4, .inl (fun _ => 0)))] := hD
  refine lv_aload_n hx hb dX6_copy_26 rfl (lv_at hl 1 rfl) ?_
  refine xget F hP 0 rfl rfl inX6 2 (by decide) tb296 rfl dX6_copy_27 ?_
  refine lv_iconst (v := 0) hx hb dX6_copy_30 (by decide) ?_
  refine lv_aload_n hx hb dX6_copy_31 rfl (lv_at hl 0 rfl) ?_
  refine xget F hP 3 rfl rfl inX6 2 (by decide) tb296 rfl dX6_copy_32 ?_
  refine lv_iconst (v := 0) hx hb dX6_copy_35 (by decide) ?_
  refine lv_aload_n hx hb dX6_copy_36 rfl (lv_at hl 0 rfl) ?_
  refine xget F hP 3 rfl rfl inX6 2 (by decide) tb296 rfl dX6_copy_37 ?_
  refine xlen (v := 4) F hP 5 0 rfl rfl rfl dX6_copy_40 ?_
  refine va_copyi hx hb (hml.trans hl.1.symm) hown (hts _ tb838) (hts _ tb756) (hts _ tb755) (hts _ tb20) hK hP hD hS 2 5 0 0 rfl rfl rfl rfl rfl (by decide +kernel) (by decide +kernel) (by decide +kernel) (by decide +kernel) (by decide +kernel) (fun _ _ => rfl) (Nat.le_of_ble_eq_true rfl) (Nat.le_of_ble_eq_true rfl) dX6_copy_41 (fun H locs hP hD hS => ?_)
  rw [xcpy0] at hP hD
  have hP : va_P g vwCl [(h2, .inr (6, [.int 0, .ref h3, .ref h4, .int 0, .int 0, .int 0])), (h3, .inl (aC 0, 5, .inl (fun _ => 0))), (h4, .inl (aC 0, 4, .inl (fun _ => 0))), (h1, .inr (6, [.int 0, .ref h5, .ref h6, .int 0, .int 0, .int 0])), (h5, .inl (aC 0, 5, .inl (fun _ => 0))), (h6, .inl (aC 0, 4, .inl (fun _ => 0)))] H := hP
  have hD : va_D A [(h2, .inr (6, [.int 0, .ref h3, .ref h4, .int 0, .int 0, .int 0])), (h3, .inl (aC 0, 5, .inl (fun _ => 0))), (h4, .inl (aC 0, 4, .inl (fun _ => 0))), (h1, .inr (6, [.int 0, .ref h5, .ref h6, .int 0, .int 0, .int 0])), (h5, .inl (aC 0, 5, .inl (fun _ => 0))), (h6, .inl (aC 0, 4, .inl (fun _ => 0)))] := hD
  refine lv_aload_n hx hb dX6_copy_44 rfl (lv_at hl 0 rfl) ?_
  refine lv_aload_n hx hb dX6_copy_45 rfl (lv_at hl 1 rfl) ?_
  refine xget F hP 0 rfl rfl inX6 3 (by decide) tb298 rfl dX6_copy_46 ?_
  refine xput F hP hD hS 3 rfl rfl inX6 tyX6_ok nmX6 3 (by decide) tb298 rfl rfl rfl (Nat.le_of_ble_eq_true rfl) dX6_copy_49 (fun H locs hP hD hS => ?_)
  have hP : va_P g vwCl [(h2, .inr (6, [.int 0, .ref h3, .ref h4, .int 0, .int 0, .int 0])), (h3, .inl (aC 0, 5, .inl (fun _ => 0))), (h4, .inl (aC 0, 4, .inl (fun _ => 0))), (h1, .inr (6, [.int 0, .ref h5, .ref h6, .int 0, .int 0, .int 0])), (h5, .inl (aC 0, 5, .inl (fun _ => 0))), (h6, .inl (aC 0, 4, .inl (fun _ => 0)))] H := hP
  have hD : va_D A [(h2, .inr (6, [.int 0, .ref h3, .ref h4, .int 0, .int 0, .int 0])), (h3, .inl (aC 0, 5, .inl (fun _ => 0))), (h4, .inl (aC 0, 4, .inl (fun _ => 0))), (h1, .inr (6, [.int 0, .ref h5, .ref h6, .int 0, .int 0, .int 0])), (h5, .inl (aC 0, 5, .inl (fun _ => 0))), (h6, .inl (aC 0, 4, .inl (fun _ => 0)))] := hD
  refine lv_aload_n hx hb dX6_copy_52 rfl (lv_at hl 0 rfl) ?_
  refine lv_aload_n hx hb dX6_copy_53 rfl (lv_at hl 1 rfl) ?_
  refine xget F hP 0 rfl rfl inX6 4 (by decide) tb300 rfl dX6_copy_54 ?_
  refine xput F hP hD hS 3 rfl rfl inX6 tyX6_ok nmX6 4 (by decide) tb300 rfl rfl rfl (Nat.le_of_ble_eq_true rfl) dX6_copy_57 (fun H locs hP hD hS => ?_)
  have hP : va_P g vwCl [(h2, .inr (6, [.int 0, .ref h3, .ref h4, .int 0, .int 0, .int 0])), (h3, .inl (aC 0, 5, .inl (fun _ => 0))), (h4, .inl (aC 0, 4, .inl (fun _ => 0))), (h1, .inr (6, [.int 0, .ref h5, .ref h6, .int 0, .int 0, .int 0])), (h5, .inl (aC 0, 5, .inl (fun _ => 0))), (h6, .inl (aC 0, 4, .inl (fun _ => 0)))] H := hP
  have hD : va_D A [(h2, .inr (6, [.int 0, .ref h3, .ref h4, .int 0, .int 0, .int 0])), (h3, .inl (aC 0, 5, .inl (fun _ => 0))), (h4, .inl (aC 0, 4, .inl (fun _ => 0))), (h1, .inr (6, [.int 0, .ref h5, .ref h6, .int 0, .int 0, .int 0])), (h5, .inl (aC 0, 5, .inl (fun _ => 0))), (h6, .inl (aC 0, 4, .inl (fun _ => 0)))] := hD
  refine lv_aload_n hx hb dX6_copy_60 rfl (lv_at hl 0 rfl) ?_
  refine lv_aload_n hx hb dX6_copy_61 rfl (lv_at hl 1 rfl) ?_
  refine xget F hP 0 rfl rfl inX6 5 (by decide) tb302 rfl dX6_copy_62 ?_
  refine xput F hP hD hS 3 rfl rfl inX6 tyX6_ok nmX6 5 (by decide) tb302 rfl rfl rfl (Nat.le_of_ble_eq_true rfl) dX6_copy_65 (fun H locs hP hD hS => ?_)
  have hP : va_P g vwCl [(h2, .inr (6, [.int 0, .ref h3, .ref h4, .int 0, .int 0, .int 0])), (h3, .inl (aC 0, 5, .inl (fun _ => 0))), (h4, .inl (aC 0, 4, .inl (fun _ => 0))), (h1, .inr (6, [.int 0, .ref h5, .ref h6, .int 0, .int 0, .int 0])), (h5, .inl (aC 0, 5, .inl (fun _ => 0))), (h6, .inl (aC 0, 4, .inl (fun _ => 0)))] H := hP
  have hD : va_D A [(h2, .inr (6, [.int 0, .ref h3, .ref h4, .int 0, .int 0, .int 0])), (h3, .inl (aC 0, 5, .inl (fun _ => 0))), (h4, .inl (aC 0, 4, .inl (fun _ => 0))), (h1, .inr (6, [.int 0, .ref h5, .ref h6, .int 0, .int 0, .int 0])), (h5, .inl (aC 0, 5, .inl (fun _ => 0))), (h6, .inl (aC 0, 4, .inl (fun _ => 0)))] := hD
  have hP9 := hP.sub (ws' := [(h2, .inr (6, [.int 0, .ref h3, .ref h4, .int 0, .int 0, .int 0])), (h3, .inl (aC 0, 5, .inl (fun _ => 0))), (h4, .inl (aC 0, 4, .inl (fun _ => 0))), (h1, .inr (6, [.int 0, .ref h5, .ref h6, .int 0, .int 0, .int 0])), (h5, .inl (aC 0, 5, .inl (fun _ => 0))), (h6, .inl (aC 0, 4, .inl (fun _ => 0)))]) [0, 1, 2, 3, 4, 5] rfl
  have hD9 := hD.sub (ws' := [(h2, .inr (6, [.int 0, .ref h3, .ref h4, .int 0, .int 0, .int 0])), (h3, .inl (aC 0, 5, .inl (fun _ => 0))), (h4, .inl (aC 0, 4, .inl (fun _ => 0))), (h1, .inr (6, [.int 0, .ref h5, .ref h6, .int 0, .int 0, .int 0])), (h5, .inl (aC 0, 5, .inl (fun _ => 0))), (h6, .inl (aC 0, 4, .inl (fun _ => 0)))]) [0, 1, 2, 3, 4, 5] (by decide) rfl
  exact rV () hx hb hr hlk hS trivial hP9 hD9 (Nat.le_of_ble_eq_true rfl) (Nat.le_of_ble_eq_true rfl) dX6_copy_68

theorem tb834 : (Jvm.Cond.methodLink "StairGang" (170 : Nat) ({ cls := "StairGang$State", name := "copy", desc := "(LStairGang$State;)V" } : Jvm.MethodName)) ∈ gw := lw_m 834 (by decide +kernel)
theorem tb835 : (Jvm.Cond.instanceMethod ({ cls := "StairGang$State", name := "copy", desc := "(LStairGang$State;)V" } : Jvm.MethodName)) ∈ gw := lw_m 835 (by decide +kernel)
theorem tb836 : (Jvm.Cond.selects "StairGang$State" ({ cls := "StairGang$State", name := "copy", desc := "(LStairGang$State;)V" } : Jvm.MethodName) ({ cls := "StairGang$State", name := "copy", desc := "(LStairGang$State;)V" } : Jvm.MethodName)) ∈ gw := lw_m 836 (by decide +kernel)
theorem tb837 : (Jvm.Cond.code ({ cls := "StairGang$State", name := "copy", desc := "(LStairGang$State;)V" } : Jvm.MethodName) prog_8_method_3_code (2 : Nat) (Option.none : Option Jvm.ClassFile.FieldType)) ∈ gw := lw_m 837 (by decide +kernel)
theorem tb847 : (Jvm.Cond.methodLink "StairGang$State" (52 : Nat) ({ cls := "StairGang$Town", name := "has", desc := "(II)Z" } : Jvm.MethodName)) ∈ gw := lw_m 847 (by decide +kernel)
theorem dX10_steal_11 : decode cX10_steal 11 = .ok (.aload_n 0, 1) := by decide +kernel
theorem dX10_steal_12 : decode cX10_steal 12 = .ok (.getfield 45, 3) := by decide +kernel
theorem dX10_steal_15 : decode cX10_steal 15 = .ok (.aload_n 0, 1) := by decide +kernel
theorem dX10_steal_16 : decode cX10_steal 16 = .ok (.getfield 35, 3) := by decide +kernel
theorem dX10_steal_19 : decode cX10_steal 19 = .ok (.iload_n 1, 1) := by decide +kernel
theorem dX10_steal_20 : decode cX10_steal 20 = .ok (.invokevirtual 173, 3) := by decide +kernel
theorem dX6_isThere_0 : decode cX6_isThere 0 = .ok (.aload_n 1, 1) := by decide +kernel
theorem dX6_isThere_1 : decode cX6_isThere 1 = .ok (.iconst 1, 1) := by decide +kernel
theorem dX6_isThere_2 : decode cX6_isThere 2 = .ok (.iload_n 2, 1) := by decide +kernel
theorem dX6_isThere_3 : decode cX6_isThere 3 = .ok (.invokevirtual 52, 3) := by decide +kernel
theorem dX6_isThere_6 : decode cX6_isThere 6 = .ok (.ifCond .eq 19, 3) := by decide +kernel
theorem dX6_isThere_25 : decode cX6_isThere 25 = .ok (.iconst 0, 1) := by decide +kernel
theorem dX6_isThere_26 : decode cX6_isThere 26 = .ok (.ireturn, 1) := by decide +kernel
theorem dX6_steals_0 : decode cX6_steals 0 = .ok (.aload_n 0, 1) := by decide +kernel
theorem dX6_steals_1 : decode cX6_steals 1 = .ok (.aload_n 1, 1) := by decide +kernel
theorem dX6_steals_2 : decode cX6_steals 2 = .ok (.iload_n 2, 1) := by decide +kernel
theorem dX6_steals_3 : decode cX6_steals 3 = .ok (.invokevirtual 77, 3) := by decide +kernel
set_option maxHeartbeats 4000000 in
set_option maxRecDepth 100000 in
theorem a_X6_isThere_1 (l : Launch) (g : va_G) (aC : Nat → ClassId) (aM : Nat → Nat) (h1 h2 h4 : Nat) (x5 x6 x7 x8 x9 x10 x11 x12 x13 x14 x15 : Value) (n3 : Int32) : Ct l g aC aM yX6_isThere cX6_isThere 3 (some .boolean) 2 [.ref h1, .ref h2, .int n3] [(h2, .inr (8, [.ref h4, x5, x6, x7, x8, x9, x10, x11, x12, x13, x14, x15])), (h4, .inl (aC 0, 5, .inl (fun _ => 0)))] (QI g (fun (r : Int32) (_ : Unit) => r = 0) (fun (_ : Unit) => [(h2, .inr (8, [.ref h4, x5, x6, x7, x8, x9, x10, x11, x12, x13, x14, x15])), (h4, .inl (aC 0, 5, .inl (fun _ => 0)))])) 0 0 := by
  refine Ct.mk (by decide) (Nat.le_of_ble_eq_true rfl) ?_
  intro p e s m below meth c A ls hx hb hml hown hts hr hlk hnm hK hA hM hM2 hP hD hS hl
  have hown : s.vm.findClass RX6 = some m.cls := hown
  have F : Fx p s m _ c cX6_isThere 3 RX6 g aC aM A := ⟨hx, hb, hml, hown, hts, hK, hA, hM, hM2⟩
  have hl : lv_has ls 3 [(0, .ref h1), (1, .ref h2), (2, .int n3)] := hl
  refine lv_aload_n hx hb dX6_isThere_0 rfl (lv_at hl 1 rfl) ?_
  refine lv_iconst (v := 1) hx hb dX6_isThere_1 (by decide) ?_
  refine lv_iload_n hx hb dX6_isThere_2 rfl (lv_at hl 2 rfl) ?_
  refine goI (wr := []) (runV (n := 2) (As := [.int 1, .int n3]) (rest := []) F hP hD hS (k_has1 l g aC aM h2 h4 x5 x6 x7 x8 x9 x10 x11 x12 x13 x14 x15 n3) [0, 1] (by decide) rfl 0 8 rfl rfl rfl tb654 tb847 tb652 tb653 tb9 ⟨by decide, by decide, by decide +kernel⟩ ⟨Nat.le_of_ble_eq_true rfl, Nat.le_of_ble_eq_true rfl⟩ rfl hl.1 rfl (Nat.le_of_ble_eq_true rfl) dX6_isThere_3 ⟨Nat.le_of_ble_eq_true rfl, Nat.le_of_ble_eq_true rfl⟩) hP hD hS hA [0, 1] [] rfl rfl (by decide) (by decide) (fun r_2 w3 H locs hw hP hD hS => ?_)
  have hP : va_P g vwCl [(h2, .inr (8, [.ref h4, x5, x6, x7, x8, x9, x10, x11, x12, x13, x14, x15])), (h4, .inl (aC 0, 5, .inl (fun _ => 0)))] H := hP
  have hD : va_D A [(h2, .inr (8, [.ref h4, x5, x6, x7, x8, x9, x10, x11, x12, x13, x14, x15])), (h4, .inl (aC 0, 5, .inl (fun _ => 0)))] := hD
  try dsimp only at hw
  subst hw
  refine lv_if_eq (tgt := 25) hx hb dX6_isThere_6 (by decide) (fun _ => ?_) (fun c_ => absurd (by decide +kernel) c_)
  refine lv_iconst (v := 0) hx hb dX6_isThere_25 (by decide) ?_
  have hP9 := hP.sub (ws' := [(h2, .inr (8, [.ref h4, x5, x6, x7, x8, x9, x10, x11, x12, x13, x14, x15])), (h4, .inl (aC 0, 5, .inl (fun _ => 0)))]) [0, 1] rfl
  have hD9 := hD.sub (ws' := [(h2, .inr (8, [.ref h4, x5, x6, x7, x8, x9, x10, x11, x12, x13, x14, x15])), (h4, .inl (aC 0, 5, .inl (fun _ => 0)))]) [0, 1] (by decide) rfl
  exact rI () hx hb hr hlk rfl hS rfl hP9 hD9 (Nat.le_of_ble_eq_true rfl) (Nat.le_of_ble_eq_true rfl) dX6_isThere_26

theorem tb843 : (Jvm.Cond.methodLink "StairGang$State" (77 : Nat) ({ cls := "StairGang$State", name := "isThere", desc := "(LStairGang$Town;I)Z" } : Jvm.MethodName)) ∈ gw := lw_m 843 (by decide +kernel)
theorem tb844 : (Jvm.Cond.instanceMethod ({ cls := "StairGang$State", name := "isThere", desc := "(LStairGang$Town;I)Z" } : Jvm.MethodName)) ∈ gw := lw_m 844 (by decide +kernel)
theorem tb845 : (Jvm.Cond.selects "StairGang$State" ({ cls := "StairGang$State", name := "isThere", desc := "(LStairGang$Town;I)Z" } : Jvm.MethodName) ({ cls := "StairGang$State", name := "isThere", desc := "(LStairGang$Town;I)Z" } : Jvm.MethodName)) ∈ gw := lw_m 845 (by decide +kernel)
theorem tb846 : (Jvm.Cond.code ({ cls := "StairGang$State", name := "isThere", desc := "(LStairGang$Town;I)Z" } : Jvm.MethodName) prog_8_method_4_code (3 : Nat) (Option.some Jvm.ClassFile.FieldType.boolean)) ∈ gw := lw_m 846 (by decide +kernel)
theorem dX6_steals_6 : decode cX6_steals 6 = .ok (.ifCond .eq 17, 3) := by decide +kernel
theorem dX6_steals_23 : decode cX6_steals 23 = .ok (.iconst (-1), 1) := by decide +kernel
theorem dX6_steals_24 : decode cX6_steals 24 = .ok (.ireturn, 1) := by decide +kernel
set_option maxHeartbeats 4000000 in
set_option maxRecDepth 100000 in
theorem a_X6_steals_1 (l : Launch) (g : va_G) (aC : Nat → ClassId) (aM : Nat → Nat) (h1 h2 h4 : Nat) (x5 x6 x7 x8 x9 x10 x11 x12 x13 x14 x15 x16 x17 x18 x19 x20 x21 : Value) (n3 : Int32) : Ct l g aC aM yX6_steals cX6_steals 6 (some .int) 3 [.ref h1, .ref h2, .int n3] [(h2, .inr (8, [.ref h4, x5, x6, x7, x8, x9, x10, x11, x12, x13, x14, x15])), (h4, .inl (aC 0, 5, .inl (fun _ => 0))), (h1, .inr (6, [x16, x17, x18, x19, x20, x21]))] (QI g (fun (r : Int32) (_ : Unit) => r = (-1)) (fun (_ : Unit) => [(h1, .inr (6, [x16, x17, x18, x19, x20, x21])), (h2, .inr (8, [.ref h4, x5, x6, x7, x8, x9, x10, x11, x12, x13, x14, x15])), (h4, .inl (aC 0, 5, .inl (fun _ => 0)))])) 0 0 := by
  refine Ct.mk (by decide) (Nat.le_of_ble_eq_true rfl) ?_
  intro p e s m below meth c A ls hx hb hml hown hts hr hlk hnm hK hA hM hM2 hP hD hS hl
  have hown : s.vm.findClass RX6 = some m.cls := hown
  have F : Fx p s m _ c cX6_steals 6 RX6 g aC aM A := ⟨hx, hb, hml, hown, hts, hK, hA, hM, hM2⟩
  have hl : lv_has ls 6 [(0, .ref h1), (1, .ref h2), (2, .int n3)] := hl
  refine lv_aload_n hx hb dX6_steals_0 rfl (lv_at hl 0 rfl) ?_
  refine lv_aload_n hx hb dX6_steals_1 rfl (lv_at hl 1 rfl) ?_
  refine lv_iload_n hx hb dX6_steals_2 rfl (lv_at hl 2 rfl) ?_
  refine goI (wr := [(h1, .inr (6, [x16, x17, x18, x19, x20, x21]))]) (runV (n := 2) (As := [.ref h2, .int n3]) (rest := []) F hP hD hS (a_X6_isThere_1 l g aC aM h1 h2 h4 x5 x6 x7 x8 x9 x10 x11 x12 x13 x14 x15 n3) [0, 1] (by decide) rfl 2 6 rfl rfl rfl tb846 tb843 tb844 tb845 tb12 ⟨by decide, by decide, by decide +kernel⟩ ⟨Nat.le_of_ble_eq_true rfl, Nat.le_of_ble_eq_true rfl⟩ rfl hl.1 rfl (Nat.le_of_ble_eq_true rfl) dX6_steals_3 ⟨Nat.le_of_ble_eq_true rfl, Nat.le_of_ble_eq_true rfl⟩) hP hD hS hA [0, 1] [2] rfl rfl (by decide) (by decide) (fun r_2 w3 H locs hw hP hD hS => ?_)
  have hP : va_P g vwCl [(h1, .inr (6, [x16, x17, x18, x19, x20, x21])), (h2, .inr (8, [.ref h4, x5, x6, x7, x8, x9, x10, x11, x12, x13, x14, x15])), (h4, .inl (aC 0, 5, .inl (fun _ => 0)))] H := hP
  have hD : va_D A [(h1, .inr (6, [x16, x17, x18, x19, x20, x21])), (h2, .inr (8, [.ref h4, x5, x6, x7, x8, x9, x10, x11, x12, x13, x14, x15])), (h4, .inl (aC 0, 5, .inl (fun _ => 0)))] := hD
  try dsimp only at hw
  subst hw
  refine lv_if_eq (tgt := 23) hx hb dX6_steals_6 (by decide) (fun _ => ?_) (fun c_ => absurd (by decide +kernel) c_)
  refine lv_iconst (v := (-1)) hx hb dX6_steals_23 (by decide) ?_
  have hP9 := hP.sub (ws' := [(h1, .inr (6, [x16, x17, x18, x19, x20, x21])), (h2, .inr (8, [.ref h4, x5, x6, x7, x8, x9, x10, x11, x12, x13, x14, x15])), (h4, .inl (aC 0, 5, .inl (fun _ => 0)))]) [0, 1, 2] rfl
  have hD9 := hD.sub (ws' := [(h1, .inr (6, [x16, x17, x18, x19, x20, x21])), (h2, .inr (8, [.ref h4, x5, x6, x7, x8, x9, x10, x11, x12, x13, x14, x15])), (h4, .inl (aC 0, 5, .inl (fun _ => 0)))]) [0, 1, 2] (by decide) rfl
  exact rI () hx hb hr hlk rfl hS rfl hP9 hD9 (Nat.le_of_ble_eq_true rfl) (Nat.le_of_ble_eq_true rfl) dX6_steals_24

theorem tb839 : (Jvm.Cond.methodLink "StairGang" (173 : Nat) ({ cls := "StairGang$State", name := "steals", desc := "(LStairGang$Town;I)I" } : Jvm.MethodName)) ∈ gw := lw_m 839 (by decide +kernel)
theorem tb840 : (Jvm.Cond.instanceMethod ({ cls := "StairGang$State", name := "steals", desc := "(LStairGang$Town;I)I" } : Jvm.MethodName)) ∈ gw := lw_m 840 (by decide +kernel)
theorem tb841 : (Jvm.Cond.selects "StairGang$State" ({ cls := "StairGang$State", name := "steals", desc := "(LStairGang$Town;I)I" } : Jvm.MethodName) ({ cls := "StairGang$State", name := "steals", desc := "(LStairGang$Town;I)I" } : Jvm.MethodName)) ∈ gw := lw_m 841 (by decide +kernel)
theorem tb842 : (Jvm.Cond.code ({ cls := "StairGang$State", name := "steals", desc := "(LStairGang$Town;I)I" } : Jvm.MethodName) prog_8_method_9_code (6 : Nat) (Option.some Jvm.ClassFile.FieldType.int)) ∈ gw := lw_m 842 (by decide +kernel)
theorem dX10_steal_23 : decode cX10_steal 23 = .ok (.istore_n 2, 1) := by decide +kernel
theorem dX10_steal_24 : decode cX10_steal 24 = .ok (.iload_n 2, 1) := by decide +kernel
theorem dX10_steal_25 : decode cX10_steal 25 = .ok (.iconst (-1), 1) := by decide +kernel
theorem dX10_steal_26 : decode cX10_steal 26 = .ok (.if_icmp .eq 14, 3) := by decide +kernel
theorem dX10_steal_40 : decode cX10_steal 40 = .ok (.iload_n 2, 1) := by decide +kernel
theorem dX10_steal_41 : decode cX10_steal 41 = .ok (.ireturn, 1) := by decide +kernel
set_option maxHeartbeats 4000000 in
set_option maxRecDepth 100000 in
theorem x_steal (l : Launch) (g : va_G) (aC : Nat → ClassId) (aM : Nat → Nat) (h1 h5 h7 h8 h18 h30 h31 h32 h33 : Nat) (x2 x3 x4 x6 x9 x10 x11 x12 x13 x14 x15 x16 x17 x19 x20 x21 x22 x23 x24 x25 x26 x27 x28 x29 : Value) (n_1 : Int32) : Ct l g aC aM yX10_steal cX10_steal 3 (some .int) 4 [.ref h1, .int n_1] [(h1, .inr (10, [x2, x3, x4, .ref h5, x6, .ref h7, .ref h8, x9, x10, x11, x12, x13, x14, x15, x16, x17])), (h5, .inr (8, [.ref h18, x19, x20, x21, x22, x23, x24, x25, x26, x27, x28, x29])), (h18, .inl (aC 0, 5, .inl (fun _ => 0))), (h7, .inr (6, [.int 0, .ref h30, .ref h31, .int 0, .int 0, .int 0])), (h30, .inl (aC 0, 5, .inl (fun _ => 0))), (h31, .inl (aC 0, 4, .inl (fun _ => 0))), (h8, .inr (6, [.int 0, .ref h32, .ref h33, .int 0, .int 0, .int 0])), (h32, .inl (aC 0, 5, .inl (fun _ => 0))), (h33, .inl (aC 0, 4, .inl (fun _ => 0)))] (QI g (fun (r : Int32) (_ : Unit) => r = (-1)) (fun (_ : Unit) => [])) 0 0 := by
  refine Ct.mk (by decide) (Nat.le_of_ble_eq_true rfl) ?_
  intro p e s m below meth c A ls hx hb hml hown hts hr hlk hnm hK hA hM hM2 hP hD hS hl
  have hown : s.vm.findClass RX10 = some m.cls := hown
  have F : Fx p s m _ c cX10_steal 3 RX10 g aC aM A := ⟨hx, hb, hml, hown, hts, hK, hA, hM, hM2⟩
  have hl : lv_has ls 3 [(0, .ref h1), (1, .int n_1)] := hl
  refine lv_aload_n hx hb dX10_steal_0 rfl (lv_at hl 0 rfl) ?_
  refine xget F hP 0 rfl rfl inX10 6 (by decide) tb406 rfl dX10_steal_1 ?_
  refine lv_aload_n hx hb dX10_steal_4 rfl (lv_at hl 0 rfl) ?_
  refine xget F hP 0 rfl rfl inX10 5 (by decide) tb405 rfl dX10_steal_5 ?_
  refine goV (wr := [(h1, .inr (10, [x2, x3, x4, .ref h5, x6, .ref h7, .ref h8, x9, x10, x11, x12, x13, x14, x15, x16, x17])), (h5, .inr (8, [.ref h18, x19, x20, x21, x22, x23, x24, x25, x26, x27, x28, x29])), (h18, .inl (aC 0, 5, .inl (fun _ => 0)))]) (runV (n := 1) (As := [.ref h7]) (rest := []) F hP hD hS (a_X6_copy_1 l g aC aM h8 h7 h30 h31 h32 h33) [3, 4, 5, 6, 7, 8] (by decide) rfl 6 6 rfl rfl rfl tb837 tb834 tb835 tb836 tb12 ⟨by decide, by decide, by decide +kernel⟩ ⟨Nat.le_of_ble_eq_true rfl, Nat.le_of_ble_eq_true rfl⟩ rfl hl.1 rfl (Nat.le_of_ble_eq_true rfl) dX10_steal_8 ⟨Nat.le_of_ble_eq_true rfl, Nat.le_of_ble_eq_true rfl⟩) hP hD hS hA [3, 4, 5, 6, 7, 8] [0, 1, 2] rfl rfl (by decide) (by decide) (fun w3 H locs hw hP hD hS => ?_)
  have hP : va_P g vwCl [(h1, .inr (10, [x2, x3, x4, .ref h5, x6, .ref h7, .ref h8, x9, x10, x11, x12, x13, x14, x15, x16, x17])), (h5, .inr (8, [.ref h18, x19, x20, x21, x22, x23, x24, x25, x26, x27, x28, x29])), (h18, .inl (aC 0, 5, .inl (fun _ => 0))), (h7, .inr (6, [.int 0, .ref h30, .ref h31, .int 0, .int 0, .int 0])), (h30, .inl (aC 0, 5, .inl (fun _ => 0))), (h31, .inl (aC 0, 4, .inl (fun _ => 0))), (h8, .inr (6, [.int 0, .ref h32, .ref h33, .int 0, .int 0, .int 0])), (h32, .inl (aC 0, 5, .inl (fun _ => 0))), (h33, .inl (aC 0, 4, .inl (fun _ => 0)))] H := hP
  have hD : va_D A [(h1, .inr (10, [x2, x3, x4, .ref h5, x6, .ref h7, .ref h8, x9, x10, x11, x12, x13, x14, x15, x16, x17])), (h5, .inr (8, [.ref h18, x19, x20, x21, x22, x23, x24, x25, x26, x27, x28, x29])), (h18, .inl (aC 0, 5, .inl (fun _ => 0))), (h7, .inr (6, [.int 0, .ref h30, .ref h31, .int 0, .int 0, .int 0])), (h30, .inl (aC 0, 5, .inl (fun _ => 0))), (h31, .inl (aC 0, 4, .inl (fun _ => 0))), (h8, .inr (6, [.int 0, .ref h32, .ref h33, .int 0, .int 0, .int 0])), (h32, .inl (aC 0, 5, .inl (fun _ => 0))), (h33, .inl (aC 0, 4, .inl (fun _ => 0)))] := hD
  refine lv_aload_n hx hb dX10_steal_11 rfl (lv_at hl 0 rfl) ?_
  refine xget F hP 0 rfl rfl inX10 5 (by decide) tb405 rfl dX10_steal_12 ?_
  refine lv_aload_n hx hb dX10_steal_15 rfl (lv_at hl 0 rfl) ?_
  refine xget F hP 0 rfl rfl inX10 3 (by decide) tb403 rfl dX10_steal_16 ?_
  refine lv_iload_n hx hb dX10_steal_19 rfl (lv_at hl 1 rfl) ?_
  refine goI (wr := [(h1, .inr (10, [x2, x3, x4, .ref h5, x6, .ref h7, .ref h8, x9, x10, x11, x12, x13, x14, x15, x16, x17])), (h30, .inl (aC 0, 5, .inl (fun _ => 0))), (h31, .inl (aC 0, 4, .inl (fun _ => 0))), (h8, .inr (6, [.int 0, .ref h32, .ref h33, .int 0, .int 0, .int 0])), (h32, .inl (aC 0, 5, .inl (fun _ => 0))), (h33, .inl (aC 0, 4, .inl (fun _ => 0)))]) (runV (n := 2) (As := [.ref h5, .int n_1]) (rest := []) F hP hD hS (a_X6_steals_1 l g aC aM h7 h5 h18 x19 x20 x21 x22 x23 x24 x25 x26 x27 x28 x29 (.int 0) (.ref h30) (.ref h31) (.int 0) (.int 0) (.int 0) n_1) [1, 2, 3] (by decide) rfl 3 6 rfl rfl rfl tb842 tb839 tb840 tb841 tb12 ⟨by decide, by decide, by decide +kernel⟩ ⟨Nat.le_of_ble_eq_true rfl, Nat.le_of_ble_eq_true rfl⟩ rfl hl.1 rfl (Nat.le_of_ble_eq_true rfl) dX10_steal_20 ⟨Nat.le_of_ble_eq_true rfl, Nat.le_of_ble_eq_true rfl⟩) hP hD hS hA [1, 2, 3] [0, 4, 5, 6, 7, 8] rfl rfl (by decide) (by decide) (fun r_5 w6 H locs hw hP hD hS => ?_)
  have hP : va_P g vwCl [(h1, .inr (10, [x2, x3, x4, .ref h5, x6, .ref h7, .ref h8, x9, x10, x11, x12, x13, x14, x15, x16, x17])), (h30, .inl (aC 0, 5, .inl (fun _ => 0))), (h31, .inl (aC 0, 4, .inl (fun _ => 0))), (h8, .inr (6, [.int 0, .ref h32, .ref h33, .int 0, .int 0, .int 0])), (h32, .inl (aC 0, 5, .inl (fun _ => 0))), (h33, .inl (aC 0, 4, .inl (fun _ => 0))), (h7, .inr (6, [.int 0, .ref h30, .ref h31, .int 0, .int 0, .int 0])), (h5, .inr (8, [.ref h18, x19, x20, x21, x22, x23, x24, x25, x26, x27, x28, x29])), (h18, .inl (aC 0, 5, .inl (fun _ => 0)))] H := hP
  have hD : va_D A [(h1, .inr (10, [x2, x3, x4, .ref h5, x6, .ref h7, .ref h8, x9, x10, x11, x12, x13, x14, x15, x16, x17])), (h30, .inl (aC 0, 5, .inl (fun _ => 0))), (h31, .inl (aC 0, 4, .inl (fun _ => 0))), (h8, .inr (6, [.int 0, .ref h32, .ref h33, .int 0, .int 0, .int 0])), (h32, .inl (aC 0, 5, .inl (fun _ => 0))), (h33, .inl (aC 0, 4, .inl (fun _ => 0))), (h7, .inr (6, [.int 0, .ref h30, .ref h31, .int 0, .int 0, .int 0])), (h5, .inr (8, [.ref h18, x19, x20, x21, x22, x23, x24, x25, x26, x27, x28, x29])), (h18, .inl (aC 0, 5, .inl (fun _ => 0)))] := hD
  try dsimp only at hw
  subst hw
  refine lv_istore_n (lv' := [(2, .int (-1)), (0, .ref h1), (1, .int n_1)]) hx hb dX10_steal_23 rfl hl (by decide) rfl (fun ls hl => ?_)
  refine lv_iload_n hx hb dX10_steal_24 rfl (lv_at hl 0 rfl) ?_
  refine lv_iconst (v := (-1)) hx hb dX10_steal_25 (by decide) ?_
  refine lv_icmp_eq (tgt := 40) hx hb dX10_steal_26 (by decide) (fun _ => ?_) (fun c_ => absurd (by decide +kernel) c_)
  refine lv_iload_n hx hb dX10_steal_40 rfl (lv_at hl 0 rfl) ?_
  have hP9 := hP.sub (ws' := []) [] rfl
  have hD9 := hD.sub (ws' := []) [] (by decide) rfl
  exact rI () hx hb hr hlk rfl hS rfl hP9 hD9 (Nat.le_of_ble_eq_true rfl) (Nat.le_of_ble_eq_true rfl) dX10_steal_41

theorem dX10_build_0 : decode cX10_build 0 = .ok (.aload_n 0, 1) := by decide +kernel
theorem dX10_build_1 : decode cX10_build 1 = .ok (.getfield 49, 3) := by decide +kernel
theorem dX10_build_4 : decode cX10_build 4 = .ok (.aload_n 0, 1) := by decide +kernel
theorem dX10_build_5 : decode cX10_build 5 = .ok (.getfield 45, 3) := by decide +kernel
theorem dX10_build_8 : decode cX10_build 8 = .ok (.invokevirtual 170, 3) := by decide +kernel
theorem dX10_build_11 : decode cX10_build 11 = .ok (.aload_n 0, 1) := by decide +kernel
theorem dX10_build_12 : decode cX10_build 12 = .ok (.getfield 45, 3) := by decide +kernel
theorem dX10_build_15 : decode cX10_build 15 = .ok (.aload_n 0, 1) := by decide +kernel
theorem dX10_build_16 : decode cX10_build 16 = .ok (.getfield 35, 3) := by decide +kernel
theorem dX10_build_19 : decode cX10_build 19 = .ok (.iload_n 1, 1) := by decide +kernel
theorem dX10_build_20 : decode cX10_build 20 = .ok (.invokevirtual 180, 3) := by decide +kernel
theorem dX6_builds_0 : decode cX6_builds 0 = .ok (.aload_n 1, 1) := by decide +kernel
theorem dX6_builds_1 : decode cX6_builds 1 = .ok (.iconst 1, 1) := by decide +kernel
theorem dX6_builds_2 : decode cX6_builds 2 = .ok (.iload_n 2, 1) := by decide +kernel
theorem dX6_builds_3 : decode cX6_builds 3 = .ok (.invokevirtual 52, 3) := by decide +kernel
theorem dX6_builds_6 : decode cX6_builds 6 = .ok (.ifCond .eq 27, 3) := by decide +kernel
theorem dX6_builds_33 : decode cX6_builds 33 = .ok (.iconst (-1), 1) := by decide +kernel
theorem dX6_builds_34 : decode cX6_builds 34 = .ok (.ireturn, 1) := by decide +kernel
set_option maxHeartbeats 4000000 in
set_option maxRecDepth 100000 in
theorem a_X6_builds_1 (l : Launch) (g : va_G) (aC : Nat → ClassId) (aM : Nat → Nat) (h1 h2 h4 : Nat) (x5 x6 x7 x8 x9 x10 x11 x12 x13 x14 x15 : Value) (n3 : Int32) : Ct l g aC aM yX6_builds cX6_builds 3 (some .int) 2 [.ref h1, .ref h2, .int n3] [(h2, .inr (8, [.ref h4, x5, x6, x7, x8, x9, x10, x11, x12, x13, x14, x15])), (h4, .inl (aC 0, 5, .inl (fun _ => 0)))] (QI g (fun (r : Int32) (_ : Unit) => r = (-1)) (fun (_ : Unit) => [(h2, .inr (8, [.ref h4, x5, x6, x7, x8, x9, x10, x11, x12, x13, x14, x15])), (h4, .inl (aC 0, 5, .inl (fun _ => 0)))])) 0 0 := by
  refine Ct.mk (by decide) (Nat.le_of_ble_eq_true rfl) ?_
  intro p e s m below meth c A ls hx hb hml hown hts hr hlk hnm hK hA hM hM2 hP hD hS hl
  have hown : s.vm.findClass RX6 = some m.cls := hown
  have F : Fx p s m _ c cX6_builds 3 RX6 g aC aM A := ⟨hx, hb, hml, hown, hts, hK, hA, hM, hM2⟩
  have hl : lv_has ls 3 [(0, .ref h1), (1, .ref h2), (2, .int n3)] := hl
  refine lv_aload_n hx hb dX6_builds_0 rfl (lv_at hl 1 rfl) ?_
  refine lv_iconst (v := 1) hx hb dX6_builds_1 (by decide) ?_
  refine lv_iload_n hx hb dX6_builds_2 rfl (lv_at hl 2 rfl) ?_
  refine goI (wr := []) (runV (n := 2) (As := [.int 1, .int n3]) (rest := []) F hP hD hS (k_has1 l g aC aM h2 h4 x5 x6 x7 x8 x9 x10 x11 x12 x13 x14 x15 n3) [0, 1] (by decide) rfl 0 8 rfl rfl rfl tb654 tb847 tb652 tb653 tb9 ⟨by decide, by decide, by decide +kernel⟩ ⟨Nat.le_of_ble_eq_true rfl, Nat.le_of_ble_eq_true rfl⟩ rfl hl.1 rfl (Nat.le_of_ble_eq_true rfl) dX6_builds_3 ⟨Nat.le_of_ble_eq_true rfl, Nat.le_of_ble_eq_true rfl⟩) hP hD hS hA [0, 1] [] rfl rfl (by decide) (by decide) (fun r_2 w3 H locs hw hP hD hS => ?_)
  have hP : va_P g vwCl [(h2, .inr (8, [.ref h4, x5, x6, x7, x8, x9, x10, x11, x12, x13, x14, x15])), (h4, .inl (aC 0, 5, .inl (fun _ => 0)))] H := hP
  have hD : va_D A [(h2, .inr (8, [.ref h4, x5, x6, x7, x8, x9, x10, x11, x12, x13, x14, x15])), (h4, .inl (aC 0, 5, .inl (fun _ => 0)))] := hD
  try dsimp only at hw
  subst hw
  refine lv_if_eq (tgt := 33) hx hb dX6_builds_6 (by decide) (fun _ => ?_) (fun c_ => absurd (by decide +kernel) c_)
  refine lv_iconst (v := (-1)) hx hb dX6_builds_33 (by decide) ?_
  have hP9 := hP.sub (ws' := [(h2, .inr (8, [.ref h4, x5, x6, x7, x8, x9, x10, x11, x12, x13, x14, x15])), (h4, .inl (aC 0, 5, .inl (fun _ => 0)))]) [0, 1] rfl
  have hD9 := hD.sub (ws' := [(h2, .inr (8, [.ref h4, x5, x6, x7, x8, x9, x10, x11, x12, x13, x14, x15])), (h4, .inl (aC 0, 5, .inl (fun _ => 0)))]) [0, 1] (by decide) rfl
  exact rI () hx hb hr hlk rfl hS rfl hP9 hD9 (Nat.le_of_ble_eq_true rfl) (Nat.le_of_ble_eq_true rfl) dX6_builds_34

theorem tb877 : (Jvm.Cond.methodLink "StairGang" (180 : Nat) ({ cls := "StairGang$State", name := "builds", desc := "(LStairGang$Town;I)I" } : Jvm.MethodName)) ∈ gw := lw_m 877 (by decide +kernel)
theorem tb878 : (Jvm.Cond.instanceMethod ({ cls := "StairGang$State", name := "builds", desc := "(LStairGang$Town;I)I" } : Jvm.MethodName)) ∈ gw := lw_m 878 (by decide +kernel)
theorem tb879 : (Jvm.Cond.selects "StairGang$State" ({ cls := "StairGang$State", name := "builds", desc := "(LStairGang$Town;I)I" } : Jvm.MethodName) ({ cls := "StairGang$State", name := "builds", desc := "(LStairGang$Town;I)I" } : Jvm.MethodName)) ∈ gw := lw_m 879 (by decide +kernel)
theorem tb880 : (Jvm.Cond.code ({ cls := "StairGang$State", name := "builds", desc := "(LStairGang$Town;I)I" } : Jvm.MethodName) prog_8_method_10_code (3 : Nat) (Option.some Jvm.ClassFile.FieldType.int)) ∈ gw := lw_m 880 (by decide +kernel)
theorem dX10_build_23 : decode cX10_build 23 = .ok (.istore_n 2, 1) := by decide +kernel
theorem dX10_build_24 : decode cX10_build 24 = .ok (.iload_n 2, 1) := by decide +kernel
theorem dX10_build_25 : decode cX10_build 25 = .ok (.iconst (-1), 1) := by decide +kernel
theorem dX10_build_26 : decode cX10_build 26 = .ok (.if_icmp .eq 14, 3) := by decide +kernel
theorem dX10_build_40 : decode cX10_build 40 = .ok (.iload_n 2, 1) := by decide +kernel
theorem dX10_build_41 : decode cX10_build 41 = .ok (.ireturn, 1) := by decide +kernel
set_option maxHeartbeats 4000000 in
set_option maxRecDepth 100000 in
theorem x_build (l : Launch) (g : va_G) (aC : Nat → ClassId) (aM : Nat → Nat) (h1 h5 h7 h8 h18 h30 h31 h32 h33 : Nat) (x2 x3 x4 x6 x9 x10 x11 x12 x13 x14 x15 x16 x17 x19 x20 x21 x22 x23 x24 x25 x26 x27 x28 x29 : Value) (n_1 : Int32) : Ct l g aC aM yX10_build cX10_build 3 (some .int) 3 [.ref h1, .int n_1] [(h1, .inr (10, [x2, x3, x4, .ref h5, x6, .ref h7, .ref h8, x9, x10, x11, x12, x13, x14, x15, x16, x17])), (h5, .inr (8, [.ref h18, x19, x20, x21, x22, x23, x24, x25, x26, x27, x28, x29])), (h18, .inl (aC 0, 5, .inl (fun _ => 0))), (h7, .inr (6, [.int 0, .ref h30, .ref h31, .int 0, .int 0, .int 0])), (h30, .inl (aC 0, 5, .inl (fun _ => 0))), (h31, .inl (aC 0, 4, .inl (fun _ => 0))), (h8, .inr (6, [.int 0, .ref h32, .ref h33, .int 0, .int 0, .int 0])), (h32, .inl (aC 0, 5, .inl (fun _ => 0))), (h33, .inl (aC 0, 4, .inl (fun _ => 0)))] (QI g (fun (r : Int32) (_ : Unit) => r = (-1)) (fun (_ : Unit) => [])) 0 0 := by
  refine Ct.mk (by decide) (Nat.le_of_ble_eq_true rfl) ?_
  intro p e s m below meth c A ls hx hb hml hown hts hr hlk hnm hK hA hM hM2 hP hD hS hl
  have hown : s.vm.findClass RX10 = some m.cls := hown
  have F : Fx p s m _ c cX10_build 3 RX10 g aC aM A := ⟨hx, hb, hml, hown, hts, hK, hA, hM, hM2⟩
  have hl : lv_has ls 3 [(0, .ref h1), (1, .int n_1)] := hl
  refine lv_aload_n hx hb dX10_build_0 rfl (lv_at hl 0 rfl) ?_
  refine xget F hP 0 rfl rfl inX10 6 (by decide) tb406 rfl dX10_build_1 ?_
  refine lv_aload_n hx hb dX10_build_4 rfl (lv_at hl 0 rfl) ?_
  refine xget F hP 0 rfl rfl inX10 5 (by decide) tb405 rfl dX10_build_5 ?_
  refine goV (wr := [(h1, .inr (10, [x2, x3, x4, .ref h5, x6, .ref h7, .ref h8, x9, x10, x11, x12, x13, x14, x15, x16, x17])), (h5, .inr (8, [.ref h18, x19, x20, x21, x22, x23, x24, x25, x26, x27, x28, x29])), (h18, .inl (aC 0, 5, .inl (fun _ => 0)))]) (runV (n := 1) (As := [.ref h7]) (rest := []) F hP hD hS (a_X6_copy_1 l g aC aM h8 h7 h30 h31 h32 h33) [3, 4, 5, 6, 7, 8] (by decide) rfl 6 6 rfl rfl rfl tb837 tb834 tb835 tb836 tb12 ⟨by decide, by decide, by decide +kernel⟩ ⟨Nat.le_of_ble_eq_true rfl, Nat.le_of_ble_eq_true rfl⟩ rfl hl.1 rfl (Nat.le_of_ble_eq_true rfl) dX10_build_8 ⟨Nat.le_of_ble_eq_true rfl, Nat.le_of_ble_eq_true rfl⟩) hP hD hS hA [3, 4, 5, 6, 7, 8] [0, 1, 2] rfl rfl (by decide) (by decide) (fun w3 H locs hw hP hD hS => ?_)
  have hP : va_P g vwCl [(h1, .inr (10, [x2, x3, x4, .ref h5, x6, .ref h7, .ref h8, x9, x10, x11, x12, x13, x14, x15, x16, x17])), (h5, .inr (8, [.ref h18, x19, x20, x21, x22, x23, x24, x25, x26, x27, x28, x29])), (h18, .inl (aC 0, 5, .inl (fun _ => 0))), (h7, .inr (6, [.int 0, .ref h30, .ref h31, .int 0, .int 0, .int 0])), (h30, .inl (aC 0, 5, .inl (fun _ => 0))), (h31, .inl (aC 0, 4, .inl (fun _ => 0))), (h8, .inr (6, [.int 0, .ref h32, .ref h33, .int 0, .int 0, .int 0])), (h32, .inl (aC 0, 5, .inl (fun _ => 0))), (h33, .inl (aC 0, 4, .inl (fun _ => 0)))] H := hP
  have hD : va_D A [(h1, .inr (10, [x2, x3, x4, .ref h5, x6, .ref h7, .ref h8, x9, x10, x11, x12, x13, x14, x15, x16, x17])), (h5, .inr (8, [.ref h18, x19, x20, x21, x22, x23, x24, x25, x26, x27, x28, x29])), (h18, .inl (aC 0, 5, .inl (fun _ => 0))), (h7, .inr (6, [.int 0, .ref h30, .ref h31, .int 0, .int 0, .int 0])), (h30, .inl (aC 0, 5, .inl (fun _ => 0))), (h31, .inl (aC 0, 4, .inl (fun _ => 0))), (h8, .inr (6, [.int 0, .ref h32, .ref h33, .int 0, .int 0, .int 0])), (h32, .inl (aC 0, 5, .inl (fun _ => 0))), (h33, .inl (aC 0, 4, .inl (fun _ => 0)))] := hD
  refine lv_aload_n hx hb dX10_build_11 rfl (lv_at hl 0 rfl) ?_
  refine xget F hP 0 rfl rfl inX10 5 (by decide) tb405 rfl dX10_build_12 ?_
  refine lv_aload_n hx hb dX10_build_15 rfl (lv_at hl 0 rfl) ?_
  refine xget F hP 0 rfl rfl inX10 3 (by decide) tb403 rfl dX10_build_16 ?_
  refine lv_iload_n hx hb dX10_build_19 rfl (lv_at hl 1 rfl) ?_
  refine goI (wr := [(h1, .inr (10, [x2, x3, x4, .ref h5, x6, .ref h7, .ref h8, x9, x10, x11, x12, x13, x14, x15, x16, x17])), (h7, .inr (6, [.int 0, .ref h30, .ref h31, .int 0, .int 0, .int 0])), (h30, .inl (aC 0, 5, .inl (fun _ => 0))), (h31, .inl (aC 0, 4, .inl (fun _ => 0))), (h8, .inr (6, [.int 0, .ref h32, .ref h33, .int 0, .int 0, .int 0])), (h32, .inl (aC 0, 5, .inl (fun _ => 0))), (h33, .inl (aC 0, 4, .inl (fun _ => 0)))]) (runV (n := 2) (As := [.ref h5, .int n_1]) (rest := []) F hP hD hS (a_X6_builds_1 l g aC aM h7 h5 h18 x19 x20 x21 x22 x23 x24 x25 x26 x27 x28 x29 n_1) [1, 2] (by decide) rfl 3 6 rfl rfl rfl tb880 tb877 tb878 tb879 tb12 ⟨by decide, by decide, by decide +kernel⟩ ⟨Nat.le_of_ble_eq_true rfl, Nat.le_of_ble_eq_true rfl⟩ rfl hl.1 rfl (Nat.le_of_ble_eq_true rfl) dX10_build_20 ⟨Nat.le_of_ble_eq_true rfl, Nat.le_of_ble_eq_true rfl⟩) hP hD hS hA [1, 2] [0, 3, 4, 5, 6, 7, 8] rfl rfl (by decide) (by decide) (fun r_5 w6 H locs hw hP hD hS => ?_)
  have hP : va_P g vwCl [(h1, .inr (10, [x2, x3, x4, .ref h5, x6, .ref h7, .ref h8, x9, x10, x11, x12, x13, x14, x15, x16, x17])), (h7, .inr (6, [.int 0, .ref h30, .ref h31, .int 0, .int 0, .int 0])), (h30, .inl (aC 0, 5, .inl (fun _ => 0))), (h31, .inl (aC 0, 4, .inl (fun _ => 0))), (h8, .inr (6, [.int 0, .ref h32, .ref h33, .int 0, .int 0, .int 0])), (h32, .inl (aC 0, 5, .inl (fun _ => 0))), (h33, .inl (aC 0, 4, .inl (fun _ => 0))), (h5, .inr (8, [.ref h18, x19, x20, x21, x22, x23, x24, x25, x26, x27, x28, x29])), (h18, .inl (aC 0, 5, .inl (fun _ => 0)))] H := hP
  have hD : va_D A [(h1, .inr (10, [x2, x3, x4, .ref h5, x6, .ref h7, .ref h8, x9, x10, x11, x12, x13, x14, x15, x16, x17])), (h7, .inr (6, [.int 0, .ref h30, .ref h31, .int 0, .int 0, .int 0])), (h30, .inl (aC 0, 5, .inl (fun _ => 0))), (h31, .inl (aC 0, 4, .inl (fun _ => 0))), (h8, .inr (6, [.int 0, .ref h32, .ref h33, .int 0, .int 0, .int 0])), (h32, .inl (aC 0, 5, .inl (fun _ => 0))), (h33, .inl (aC 0, 4, .inl (fun _ => 0))), (h5, .inr (8, [.ref h18, x19, x20, x21, x22, x23, x24, x25, x26, x27, x28, x29])), (h18, .inl (aC 0, 5, .inl (fun _ => 0)))] := hD
  try dsimp only at hw
  subst hw
  refine lv_istore_n (lv' := [(2, .int (-1)), (0, .ref h1), (1, .int n_1)]) hx hb dX10_build_23 rfl hl (by decide) rfl (fun ls hl => ?_)
  refine lv_iload_n hx hb dX10_build_24 rfl (lv_at hl 0 rfl) ?_
  refine lv_iconst (v := (-1)) hx hb dX10_build_25 (by decide) ?_
  refine lv_icmp_eq (tgt := 40) hx hb dX10_build_26 (by decide) (fun _ => ?_) (fun c_ => absurd (by decide +kernel) c_)
  refine lv_iload_n hx hb dX10_build_40 rfl (lv_at hl 0 rfl) ?_
  have hP9 := hP.sub (ws' := []) [] rfl
  have hD9 := hD.sub (ws' := []) [] (by decide) rfl
  exact rI () hx hb hr hlk rfl hS rfl hP9 hD9 (Nat.le_of_ble_eq_true rfl) (Nat.le_of_ble_eq_true rfl) dX10_build_41

theorem dX10_go_0 : decode cX10_go 0 = .ok (.aload_n 0, 1) := by decide +kernel
theorem dX10_go_1 : decode cX10_go 1 = .ok (.getfield 49, 3) := by decide +kernel
theorem dX10_go_4 : decode cX10_go 4 = .ok (.aload_n 0, 1) := by decide +kernel
theorem dX10_go_5 : decode cX10_go 5 = .ok (.getfield 45, 3) := by decide +kernel
theorem dX10_go_8 : decode cX10_go 8 = .ok (.invokevirtual 170, 3) := by decide +kernel
theorem dX10_go_11 : decode cX10_go 11 = .ok (.aload_n 0, 1) := by decide +kernel
theorem dX10_go_12 : decode cX10_go 12 = .ok (.getfield 45, 3) := by decide +kernel
theorem dX10_go_15 : decode cX10_go 15 = .ok (.aload_n 0, 1) := by decide +kernel
theorem dX10_go_16 : decode cX10_go 16 = .ok (.getfield 35, 3) := by decide +kernel
theorem dX10_go_19 : decode cX10_go 19 = .ok (.iload_n 1, 1) := by decide +kernel
theorem dX10_go_20 : decode cX10_go 20 = .ok (.iload_n 2, 1) := by decide +kernel
theorem dX10_go_21 : decode cX10_go 21 = .ok (.invokevirtual 183, 3) := by decide +kernel
theorem dX6_goes_0 : decode cX6_goes 0 = .ok (.aload_n 1, 1) := by decide +kernel
theorem dX6_goes_1 : decode cX6_goes 1 = .ok (.iconst 3, 1) := by decide +kernel
theorem dX6_goes_2 : decode cX6_goes 2 = .ok (.iload_n 2, 1) := by decide +kernel
theorem dX6_goes_3 : decode cX6_goes 3 = .ok (.invokevirtual 52, 3) := by decide +kernel
theorem dX6_goes_6 : decode cX6_goes 6 = .ok (.ifCond .ne 5, 3) := by decide +kernel
theorem dX6_goes_9 : decode cX6_goes 9 = .ok (.iconst 0, 1) := by decide +kernel
theorem dX6_goes_10 : decode cX6_goes 10 = .ok (.ireturn, 1) := by decide +kernel
set_option maxHeartbeats 4000000 in
set_option maxRecDepth 100000 in
theorem a_X6_goes_1 (l : Launch) (g : va_G) (aC : Nat → ClassId) (aM : Nat → Nat) (h1 h2 h5 : Nat) (x6 x7 x8 x9 x10 x11 x12 x13 x14 x15 x16 : Value) (n3 n4 : Int32) : Ct l g aC aM yX6_goes cX6_goes 4 (some .boolean) 2 [.ref h1, .ref h2, .int n3, .int n4] [(h2, .inr (8, [.ref h5, x6, x7, x8, x9, x10, x11, x12, x13, x14, x15, x16])), (h5, .inl (aC 0, 5, .inl (fun _ => 0)))] (QI g (fun (r : Int32) (_ : Unit) => r = 0) (fun (_ : Unit) => [(h2, .inr (8, [.ref h5, x6, x7, x8, x9, x10, x11, x12, x13, x14, x15, x16])), (h5, .inl (aC 0, 5, .inl (fun _ => 0)))])) 0 0 := by
  refine Ct.mk (by decide) (Nat.le_of_ble_eq_true rfl) ?_
  intro p e s m below meth c A ls hx hb hml hown hts hr hlk hnm hK hA hM hM2 hP hD hS hl
  have hown : s.vm.findClass RX6 = some m.cls := hown
  have F : Fx p s m _ c cX6_goes 4 RX6 g aC aM A := ⟨hx, hb, hml, hown, hts, hK, hA, hM, hM2⟩
  have hl : lv_has ls 4 [(0, .ref h1), (1, .ref h2), (2, .int n3), (3, .int n4)] := hl
  refine lv_aload_n hx hb dX6_goes_0 rfl (lv_at hl 1 rfl) ?_
  refine lv_iconst (v := 3) hx hb dX6_goes_1 (by decide) ?_
  refine lv_iload_n hx hb dX6_goes_2 rfl (lv_at hl 2 rfl) ?_
  refine goI (wr := []) (runV (n := 2) (As := [.int 3, .int n3]) (rest := []) F hP hD hS (k_has3 l g aC aM h2 h5 x6 x7 x8 x9 x10 x11 x12 x13 x14 x15 x16 n3) [0, 1] (by decide) rfl 0 8 rfl rfl rfl tb654 tb847 tb652 tb653 tb9 ⟨by decide, by decide, by decide +kernel⟩ ⟨Nat.le_of_ble_eq_true rfl, Nat.le_of_ble_eq_true rfl⟩ rfl hl.1 rfl (Nat.le_of_ble_eq_true rfl) dX6_goes_3 ⟨Nat.le_of_ble_eq_true rfl, Nat.le_of_ble_eq_true rfl⟩) hP hD hS hA [0, 1] [] rfl rfl (by decide) (by decide) (fun r_2 w3 H locs hw hP hD hS => ?_)
  have hP : va_P g vwCl [(h2, .inr (8, [.ref h5, x6, x7, x8, x9, x10, x11, x12, x13, x14, x15, x16])), (h5, .inl (aC 0, 5, .inl (fun _ => 0)))] H := hP
  have hD : va_D A [(h2, .inr (8, [.ref h5, x6, x7, x8, x9, x10, x11, x12, x13, x14, x15, x16])), (h5, .inl (aC 0, 5, .inl (fun _ => 0)))] := hD
  try dsimp only at hw
  subst hw
  refine lv_if_ne (tgt := 11) hx hb dX6_goes_6 (by decide) (fun c_ => absurd (by decide +kernel) c_) (fun _ => ?_)
  refine lv_iconst (v := 0) hx hb dX6_goes_9 (by decide) ?_
  have hP9 := hP.sub (ws' := [(h2, .inr (8, [.ref h5, x6, x7, x8, x9, x10, x11, x12, x13, x14, x15, x16])), (h5, .inl (aC 0, 5, .inl (fun _ => 0)))]) [0, 1] rfl
  have hD9 := hD.sub (ws' := [(h2, .inr (8, [.ref h5, x6, x7, x8, x9, x10, x11, x12, x13, x14, x15, x16])), (h5, .inl (aC 0, 5, .inl (fun _ => 0)))]) [0, 1] (by decide) rfl
  exact rI () hx hb hr hlk rfl hS rfl hP9 hD9 (Nat.le_of_ble_eq_true rfl) (Nat.le_of_ble_eq_true rfl) dX6_goes_10

theorem tb885 : (Jvm.Cond.methodLink "StairGang" (183 : Nat) ({ cls := "StairGang$State", name := "goes", desc := "(LStairGang$Town;II)Z" } : Jvm.MethodName)) ∈ gw := lw_m 885 (by decide +kernel)
theorem tb886 : (Jvm.Cond.instanceMethod ({ cls := "StairGang$State", name := "goes", desc := "(LStairGang$Town;II)Z" } : Jvm.MethodName)) ∈ gw := lw_m 886 (by decide +kernel)
theorem tb887 : (Jvm.Cond.selects "StairGang$State" ({ cls := "StairGang$State", name := "goes", desc := "(LStairGang$Town;II)Z" } : Jvm.MethodName) ({ cls := "StairGang$State", name := "goes", desc := "(LStairGang$Town;II)Z" } : Jvm.MethodName)) ∈ gw := lw_m 887 (by decide +kernel)
theorem tb888 : (Jvm.Cond.code ({ cls := "StairGang$State", name := "goes", desc := "(LStairGang$Town;II)Z" } : Jvm.MethodName) prog_8_method_11_code (4 : Nat) (Option.some Jvm.ClassFile.FieldType.boolean)) ∈ gw := lw_m 888 (by decide +kernel)
theorem dX10_go_24 : decode cX10_go 24 = .ok (.istore_n 3, 1) := by decide +kernel
theorem dX10_go_25 : decode cX10_go 25 = .ok (.iload_n 3, 1) := by decide +kernel
theorem dX10_go_26 : decode cX10_go 26 = .ok (.ifCond .eq 14, 3) := by decide +kernel
theorem dX10_go_40 : decode cX10_go 40 = .ok (.iload_n 3, 1) := by decide +kernel
theorem dX10_go_41 : decode cX10_go 41 = .ok (.ireturn, 1) := by decide +kernel
set_option maxHeartbeats 4000000 in
set_option maxRecDepth 100000 in
theorem x_go (l : Launch) (g : va_G) (aC : Nat → ClassId) (aM : Nat → Nat) (h1 h5 h7 h8 h18 h30 h31 h32 h33 : Nat) (x2 x3 x4 x6 x9 x10 x11 x12 x13 x14 x15 x16 x17 x19 x20 x21 x22 x23 x24 x25 x26 x27 x28 x29 : Value) (n_1 n_2 : Int32) : Ct l g aC aM yX10_go cX10_go 4 (some .boolean) 3 [.ref h1, .int n_1, .int n_2] [(h1, .inr (10, [x2, x3, x4, .ref h5, x6, .ref h7, .ref h8, x9, x10, x11, x12, x13, x14, x15, x16, x17])), (h5, .inr (8, [.ref h18, x19, x20, x21, x22, x23, x24, x25, x26, x27, x28, x29])), (h18, .inl (aC 0, 5, .inl (fun _ => 0))), (h7, .inr (6, [.int 0, .ref h30, .ref h31, .int 0, .int 0, .int 0])), (h30, .inl (aC 0, 5, .inl (fun _ => 0))), (h31, .inl (aC 0, 4, .inl (fun _ => 0))), (h8, .inr (6, [.int 0, .ref h32, .ref h33, .int 0, .int 0, .int 0])), (h32, .inl (aC 0, 5, .inl (fun _ => 0))), (h33, .inl (aC 0, 4, .inl (fun _ => 0)))] (QI g (fun (r : Int32) (_ : Unit) => r = 0) (fun (_ : Unit) => [])) 0 0 := by
  refine Ct.mk (by decide) (Nat.le_of_ble_eq_true rfl) ?_
  intro p e s m below meth c A ls hx hb hml hown hts hr hlk hnm hK hA hM hM2 hP hD hS hl
  have hown : s.vm.findClass RX10 = some m.cls := hown
  have F : Fx p s m _ c cX10_go 4 RX10 g aC aM A := ⟨hx, hb, hml, hown, hts, hK, hA, hM, hM2⟩
  have hl : lv_has ls 4 [(0, .ref h1), (1, .int n_1), (2, .int n_2)] := hl
  refine lv_aload_n hx hb dX10_go_0 rfl (lv_at hl 0 rfl) ?_
  refine xget F hP 0 rfl rfl inX10 6 (by decide) tb406 rfl dX10_go_1 ?_
  refine lv_aload_n hx hb dX10_go_4 rfl (lv_at hl 0 rfl) ?_
  refine xget F hP 0 rfl rfl inX10 5 (by decide) tb405 rfl dX10_go_5 ?_
  refine goV (wr := [(h1, .inr (10, [x2, x3, x4, .ref h5, x6, .ref h7, .ref h8, x9, x10, x11, x12, x13, x14, x15, x16, x17])), (h5, .inr (8, [.ref h18, x19, x20, x21, x22, x23, x24, x25, x26, x27, x28, x29])), (h18, .inl (aC 0, 5, .inl (fun _ => 0)))]) (runV (n := 1) (As := [.ref h7]) (rest := []) F hP hD hS (a_X6_copy_1 l g aC aM h8 h7 h30 h31 h32 h33) [3, 4, 5, 6, 7, 8] (by decide) rfl 6 6 rfl rfl rfl tb837 tb834 tb835 tb836 tb12 ⟨by decide, by decide, by decide +kernel⟩ ⟨Nat.le_of_ble_eq_true rfl, Nat.le_of_ble_eq_true rfl⟩ rfl hl.1 rfl (Nat.le_of_ble_eq_true rfl) dX10_go_8 ⟨Nat.le_of_ble_eq_true rfl, Nat.le_of_ble_eq_true rfl⟩) hP hD hS hA [3, 4, 5, 6, 7, 8] [0, 1, 2] rfl rfl (by decide) (by decide) (fun w3 H locs hw hP hD hS => ?_)
  have hP : va_P g vwCl [(h1, .inr (10, [x2, x3, x4, .ref h5, x6, .ref h7, .ref h8, x9, x10, x11, x12, x13, x14, x15, x16, x17])), (h5, .inr (8, [.ref h18, x19, x20, x21, x22, x23, x24, x25, x26, x27, x28, x29])), (h18, .inl (aC 0, 5, .inl (fun _ => 0))), (h7, .inr (6, [.int 0, .ref h30, .ref h31, .int 0, .int 0, .int 0])), (h30, .inl (aC 0, 5, .inl (fun _ => 0))), (h31, .inl (aC 0, 4, .inl (fun _ => 0))), (h8, .inr (6, [.int 0, .ref h32, .ref h33, .int 0, .int 0, .int 0])), (h32, .inl (aC 0, 5, .inl (fun _ => 0))), (h33, .inl (aC 0, 4, .inl (fun _ => 0)))] H := hP
  have hD : va_D A [(h1, .inr (10, [x2, x3, x4, .ref h5, x6, .ref h7, .ref h8, x9, x10, x11, x12, x13, x14, x15, x16, x17])), (h5, .inr (8, [.ref h18, x19, x20, x21, x22, x23, x24, x25, x26, x27, x28, x29])), (h18, .inl (aC 0, 5, .inl (fun _ => 0))), (h7, .inr (6, [.int 0, .ref h30, .ref h31, .int 0, .int 0, .int 0])), (h30, .inl (aC 0, 5, .inl (fun _ => 0))), (h31, .inl (aC 0, 4, .inl (fun _ => 0))), (h8, .inr (6, [.int 0, .ref h32, .ref h33, .int 0, .int 0, .int 0])), (h32, .inl (aC 0, 5, .inl (fun _ => 0))), (h33, .inl (aC 0, 4, .inl (fun _ => 0)))] := hD
  refine lv_aload_n hx hb dX10_go_11 rfl (lv_at hl 0 rfl) ?_
  refine xget F hP 0 rfl rfl inX10 5 (by decide) tb405 rfl dX10_go_12 ?_
  refine lv_aload_n hx hb dX10_go_15 rfl (lv_at hl 0 rfl) ?_
  refine xget F hP 0 rfl rfl inX10 3 (by decide) tb403 rfl dX10_go_16 ?_
  refine lv_iload_n hx hb dX10_go_19 rfl (lv_at hl 1 rfl) ?_
  refine lv_iload_n hx hb dX10_go_20 rfl (lv_at hl 2 rfl) ?_
  refine goI (wr := [(h1, .inr (10, [x2, x3, x4, .ref h5, x6, .ref h7, .ref h8, x9, x10, x11, x12, x13, x14, x15, x16, x17])), (h7, .inr (6, [.int 0, .ref h30, .ref h31, .int 0, .int 0, .int 0])), (h30, .inl (aC 0, 5, .inl (fun _ => 0))), (h31, .inl (aC 0, 4, .inl (fun _ => 0))), (h8, .inr (6, [.int 0, .ref h32, .ref h33, .int 0, .int 0, .int 0])), (h32, .inl (aC 0, 5, .inl (fun _ => 0))), (h33, .inl (aC 0, 4, .inl (fun _ => 0)))]) (runV (n := 3) (As := [.ref h5, .int n_1, .int n_2]) (rest := []) F hP hD hS (a_X6_goes_1 l g aC aM h7 h5 h18 x19 x20 x21 x22 x23 x24 x25 x26 x27 x28 x29 n_1 n_2) [1, 2] (by decide) rfl 3 6 rfl rfl rfl tb888 tb885 tb886 tb887 tb12 ⟨by decide, by decide, by decide +kernel⟩ ⟨Nat.le_of_ble_eq_true rfl, Nat.le_of_ble_eq_true rfl⟩ rfl hl.1 rfl (Nat.le_of_ble_eq_true rfl) dX10_go_21 ⟨Nat.le_of_ble_eq_true rfl, Nat.le_of_ble_eq_true rfl⟩) hP hD hS hA [1, 2] [0, 3, 4, 5, 6, 7, 8] rfl rfl (by decide) (by decide) (fun r_5 w6 H locs hw hP hD hS => ?_)
  have hP : va_P g vwCl [(h1, .inr (10, [x2, x3, x4, .ref h5, x6, .ref h7, .ref h8, x9, x10, x11, x12, x13, x14, x15, x16, x17])), (h7, .inr (6, [.int 0, .ref h30, .ref h31, .int 0, .int 0, .int 0])), (h30, .inl (aC 0, 5, .inl (fun _ => 0))), (h31, .inl (aC 0, 4, .inl (fun _ => 0))), (h8, .inr (6, [.int 0, .ref h32, .ref h33, .int 0, .int 0, .int 0])), (h32, .inl (aC 0, 5, .inl (fun _ => 0))), (h33, .inl (aC 0, 4, .inl (fun _ => 0))), (h5, .inr (8, [.ref h18, x19, x20, x21, x22, x23, x24, x25, x26, x27, x28, x29])), (h18, .inl (aC 0, 5, .inl (fun _ => 0)))] H := hP
  have hD : va_D A [(h1, .inr (10, [x2, x3, x4, .ref h5, x6, .ref h7, .ref h8, x9, x10, x11, x12, x13, x14, x15, x16, x17])), (h7, .inr (6, [.int 0, .ref h30, .ref h31, .int 0, .int 0, .int 0])), (h30, .inl (aC 0, 5, .inl (fun _ => 0))), (h31, .inl (aC 0, 4, .inl (fun _ => 0))), (h8, .inr (6, [.int 0, .ref h32, .ref h33, .int 0, .int 0, .int 0])), (h32, .inl (aC 0, 5, .inl (fun _ => 0))), (h33, .inl (aC 0, 4, .inl (fun _ => 0))), (h5, .inr (8, [.ref h18, x19, x20, x21, x22, x23, x24, x25, x26, x27, x28, x29])), (h18, .inl (aC 0, 5, .inl (fun _ => 0)))] := hD
  try dsimp only at hw
  subst hw
  refine lv_istore_n (lv' := [(3, .int 0), (0, .ref h1), (1, .int n_1), (2, .int n_2)]) hx hb dX10_go_24 rfl hl (by decide) rfl (fun ls hl => ?_)
  refine lv_iload_n hx hb dX10_go_25 rfl (lv_at hl 0 rfl) ?_
  refine lv_if_eq (tgt := 40) hx hb dX10_go_26 (by decide) (fun _ => ?_) (fun c_ => absurd (by decide +kernel) c_)
  refine lv_iload_n hx hb dX10_go_40 rfl (lv_at hl 0 rfl) ?_
  have hP9 := hP.sub (ws' := []) [] rfl
  have hD9 := hD.sub (ws' := []) [] (by decide) rfl
  exact rI () hx hb hr hlk rfl hS rfl hP9 hD9 (Nat.le_of_ble_eq_true rfl) (Nat.le_of_ble_eq_true rfl) dX10_go_41

theorem dX10_carry_0 : decode cX10_carry 0 = .ok (.aload_n 0, 1) := by decide +kernel
theorem dX10_carry_1 : decode cX10_carry 1 = .ok (.getfield 49, 3) := by decide +kernel
theorem dX10_carry_4 : decode cX10_carry 4 = .ok (.aload_n 0, 1) := by decide +kernel
theorem dX10_carry_5 : decode cX10_carry 5 = .ok (.getfield 45, 3) := by decide +kernel
theorem dX10_carry_8 : decode cX10_carry 8 = .ok (.invokevirtual 170, 3) := by decide +kernel
theorem dX10_carry_11 : decode cX10_carry 11 = .ok (.aload_n 0, 1) := by decide +kernel
theorem dX10_carry_12 : decode cX10_carry 12 = .ok (.getfield 45, 3) := by decide +kernel
theorem dX10_carry_15 : decode cX10_carry 15 = .ok (.aload_n 0, 1) := by decide +kernel
theorem dX10_carry_16 : decode cX10_carry 16 = .ok (.getfield 35, 3) := by decide +kernel
theorem dX10_carry_19 : decode cX10_carry 19 = .ok (.iload_n 1, 1) := by decide +kernel
theorem dX10_carry_20 : decode cX10_carry 20 = .ok (.iload_n 2, 1) := by decide +kernel
theorem dX10_carry_21 : decode cX10_carry 21 = .ok (.iload_n 3, 1) := by decide +kernel
theorem dX10_carry_22 : decode cX10_carry 22 = .ok (.invokevirtual 187, 3) := by decide +kernel
theorem dX6_carries_0 : decode cX6_carries 0 = .ok (.aload_n 1, 1) := by decide +kernel
theorem dX6_carries_1 : decode cX6_carries 1 = .ok (.iconst 3, 1) := by decide +kernel
theorem dX6_carries_2 : decode cX6_carries 2 = .ok (.iload_n 2, 1) := by decide +kernel
theorem dX6_carries_3 : decode cX6_carries 3 = .ok (.invokevirtual 52, 3) := by decide +kernel
theorem dX6_carries_6 : decode cX6_carries 6 = .ok (.ifCond .eq 27, 3) := by decide +kernel
theorem dX6_carries_33 : decode cX6_carries 33 = .ok (.iconst 0, 1) := by decide +kernel
theorem dX6_carries_34 : decode cX6_carries 34 = .ok (.ireturn, 1) := by decide +kernel
set_option maxHeartbeats 4000000 in
set_option maxRecDepth 100000 in
theorem a_X6_carries_1 (l : Launch) (g : va_G) (aC : Nat → ClassId) (aM : Nat → Nat) (h1 h2 h6 : Nat) (x7 x8 x9 x10 x11 x12 x13 x14 x15 x16 x17 : Value) (n3 n4 n5 : Int32) : Ct l g aC aM yX6_carries cX6_carries 5 (some .boolean) 2 [.ref h1, .ref h2, .int n3, .int n4, .int n5] [(h2, .inr (8, [.ref h6, x7, x8, x9, x10, x11, x12, x13, x14, x15, x16, x17])), (h6, .inl (aC 0, 5, .inl (fun _ => 0)))] (QI g (fun (r : Int32) (_ : Unit) => r = 0) (fun (_ : Unit) => [(h2, .inr (8, [.ref h6, x7, x8, x9, x10, x11, x12, x13, x14, x15, x16, x17])), (h6, .inl (aC 0, 5, .inl (fun _ => 0)))])) 0 0 := by
  refine Ct.mk (by decide) (Nat.le_of_ble_eq_true rfl) ?_
  intro p e s m below meth c A ls hx hb hml hown hts hr hlk hnm hK hA hM hM2 hP hD hS hl
  have hown : s.vm.findClass RX6 = some m.cls := hown
  have F : Fx p s m _ c cX6_carries 5 RX6 g aC aM A := ⟨hx, hb, hml, hown, hts, hK, hA, hM, hM2⟩
  have hl : lv_has ls 5 [(0, .ref h1), (1, .ref h2), (2, .int n3), (3, .int n4), (4, .int n5)] := hl
  refine lv_aload_n hx hb dX6_carries_0 rfl (lv_at hl 1 rfl) ?_
  refine lv_iconst (v := 3) hx hb dX6_carries_1 (by decide) ?_
  refine lv_iload_n hx hb dX6_carries_2 rfl (lv_at hl 2 rfl) ?_
  refine goI (wr := []) (runV (n := 2) (As := [.int 3, .int n3]) (rest := []) F hP hD hS (k_has3 l g aC aM h2 h6 x7 x8 x9 x10 x11 x12 x13 x14 x15 x16 x17 n3) [0, 1] (by decide) rfl 0 8 rfl rfl rfl tb654 tb847 tb652 tb653 tb9 ⟨by decide, by decide, by decide +kernel⟩ ⟨Nat.le_of_ble_eq_true rfl, Nat.le_of_ble_eq_true rfl⟩ rfl hl.1 rfl (Nat.le_of_ble_eq_true rfl) dX6_carries_3 ⟨Nat.le_of_ble_eq_true rfl, Nat.le_of_ble_eq_true rfl⟩) hP hD hS hA [0, 1] [] rfl rfl (by decide) (by decide) (fun r_2 w3 H locs hw hP hD hS => ?_)
  have hP : va_P g vwCl [(h2, .inr (8, [.ref h6, x7, x8, x9, x10, x11, x12, x13, x14, x15, x16, x17])), (h6, .inl (aC 0, 5, .inl (fun _ => 0)))] H := hP
  have hD : va_D A [(h2, .inr (8, [.ref h6, x7, x8, x9, x10, x11, x12, x13, x14, x15, x16, x17])), (h6, .inl (aC 0, 5, .inl (fun _ => 0)))] := hD
  try dsimp only at hw
  subst hw
  refine lv_if_eq (tgt := 33) hx hb dX6_carries_6 (by decide) (fun _ => ?_) (fun c_ => absurd (by decide +kernel) c_)
  refine lv_iconst (v := 0) hx hb dX6_carries_33 (by decide) ?_
  have hP9 := hP.sub (ws' := [(h2, .inr (8, [.ref h6, x7, x8, x9, x10, x11, x12, x13, x14, x15, x16, x17])), (h6, .inl (aC 0, 5, .inl (fun _ => 0)))]) [0, 1] rfl
  have hD9 := hD.sub (ws' := [(h2, .inr (8, [.ref h6, x7, x8, x9, x10, x11, x12, x13, x14, x15, x16, x17])), (h6, .inl (aC 0, 5, .inl (fun _ => 0)))]) [0, 1] (by decide) rfl
  exact rI () hx hb hr hlk rfl hS rfl hP9 hD9 (Nat.le_of_ble_eq_true rfl) (Nat.le_of_ble_eq_true rfl) dX6_carries_34

theorem tb894 : (Jvm.Cond.methodLink "StairGang" (187 : Nat) ({ cls := "StairGang$State", name := "carries", desc := "(LStairGang$Town;III)Z" } : Jvm.MethodName)) ∈ gw := lw_m 894 (by decide +kernel)
theorem tb895 : (Jvm.Cond.instanceMethod ({ cls := "StairGang$State", name := "carries", desc := "(LStairGang$Town;III)Z" } : Jvm.MethodName)) ∈ gw := lw_m 895 (by decide +kernel)
theorem tb896 : (Jvm.Cond.selects "StairGang$State" ({ cls := "StairGang$State", name := "carries", desc := "(LStairGang$Town;III)Z" } : Jvm.MethodName) ({ cls := "StairGang$State", name := "carries", desc := "(LStairGang$Town;III)Z" } : Jvm.MethodName)) ∈ gw := lw_m 896 (by decide +kernel)
theorem tb897 : (Jvm.Cond.code ({ cls := "StairGang$State", name := "carries", desc := "(LStairGang$Town;III)Z" } : Jvm.MethodName) prog_8_method_12_code (5 : Nat) (Option.some Jvm.ClassFile.FieldType.boolean)) ∈ gw := lw_m 897 (by decide +kernel)
theorem dX10_carry_25 : decode cX10_carry 25 = .ok (.istore 4, 2) := by decide +kernel
theorem dX10_carry_27 : decode cX10_carry 27 = .ok (.iload 4, 2) := by decide +kernel
theorem dX10_carry_29 : decode cX10_carry 29 = .ok (.ifCond .eq 14, 3) := by decide +kernel
theorem dX10_carry_43 : decode cX10_carry 43 = .ok (.iload 4, 2) := by decide +kernel
theorem dX10_carry_45 : decode cX10_carry 45 = .ok (.ireturn, 1) := by decide +kernel
set_option maxHeartbeats 4000000 in
set_option maxRecDepth 100000 in
theorem x_carry (l : Launch) (g : va_G) (aC : Nat → ClassId) (aM : Nat → Nat) (h1 h5 h7 h8 h18 h30 h31 h32 h33 : Nat) (x2 x3 x4 x6 x9 x10 x11 x12 x13 x14 x15 x16 x17 x19 x20 x21 x22 x23 x24 x25 x26 x27 x28 x29 : Value) (n_1 n_2 n_3 : Int32) : Ct l g aC aM yX10_carry cX10_carry 5 (some .boolean) 3 [.ref h1, .int n_1, .int n_2, .int n_3] [(h1, .inr (10, [x2, x3, x4, .ref h5, x6, .ref h7, .ref h8, x9, x10, x11, x12, x13, x14, x15, x16, x17])), (h5, .inr (8, [.ref h18, x19, x20, x21, x22, x23, x24, x25, x26, x27, x28, x29])), (h18, .inl (aC 0, 5, .inl (fun _ => 0))), (h7, .inr (6, [.int 0, .ref h30, .ref h31, .int 0, .int 0, .int 0])), (h30, .inl (aC 0, 5, .inl (fun _ => 0))), (h31, .inl (aC 0, 4, .inl (fun _ => 0))), (h8, .inr (6, [.int 0, .ref h32, .ref h33, .int 0, .int 0, .int 0])), (h32, .inl (aC 0, 5, .inl (fun _ => 0))), (h33, .inl (aC 0, 4, .inl (fun _ => 0)))] (QI g (fun (r : Int32) (_ : Unit) => r = 0) (fun (_ : Unit) => [])) 0 0 := by
  refine Ct.mk (by decide) (Nat.le_of_ble_eq_true rfl) ?_
  intro p e s m below meth c A ls hx hb hml hown hts hr hlk hnm hK hA hM hM2 hP hD hS hl
  have hown : s.vm.findClass RX10 = some m.cls := hown
  have F : Fx p s m _ c cX10_carry 5 RX10 g aC aM A := ⟨hx, hb, hml, hown, hts, hK, hA, hM, hM2⟩
  have hl : lv_has ls 5 [(0, .ref h1), (1, .int n_1), (2, .int n_2), (3, .int n_3)] := hl
  refine lv_aload_n hx hb dX10_carry_0 rfl (lv_at hl 0 rfl) ?_
  refine xget F hP 0 rfl rfl inX10 6 (by decide) tb406 rfl dX10_carry_1 ?_
  refine lv_aload_n hx hb dX10_carry_4 rfl (lv_at hl 0 rfl) ?_
  refine xget F hP 0 rfl rfl inX10 5 (by decide) tb405 rfl dX10_carry_5 ?_
  refine goV (wr := [(h1, .inr (10, [x2, x3, x4, .ref h5, x6, .ref h7, .ref h8, x9, x10, x11, x12, x13, x14, x15, x16, x17])), (h5, .inr (8, [.ref h18, x19, x20, x21, x22, x23, x24, x25, x26, x27, x28, x29])), (h18, .inl (aC 0, 5, .inl (fun _ => 0)))]) (runV (n := 1) (As := [.ref h7]) (rest := []) F hP hD hS (a_X6_copy_1 l g aC aM h8 h7 h30 h31 h32 h33) [3, 4, 5, 6, 7, 8] (by decide) rfl 6 6 rfl rfl rfl tb837 tb834 tb835 tb836 tb12 ⟨by decide, by decide, by decide +kernel⟩ ⟨Nat.le_of_ble_eq_true rfl, Nat.le_of_ble_eq_true rfl⟩ rfl hl.1 rfl (Nat.le_of_ble_eq_true rfl) dX10_carry_8 ⟨Nat.le_of_ble_eq_true rfl, Nat.le_of_ble_eq_true rfl⟩) hP hD hS hA [3, 4, 5, 6, 7, 8] [0, 1, 2] rfl rfl (by decide) (by decide) (fun w3 H locs hw hP hD hS => ?_)
  have hP : va_P g vwCl [(h1, .inr (10, [x2, x3, x4, .ref h5, x6, .ref h7, .ref h8, x9, x10, x11, x12, x13, x14, x15, x16, x17])), (h5, .inr (8, [.ref h18, x19, x20, x21, x22, x23, x24, x25, x26, x27, x28, x29])), (h18, .inl (aC 0, 5, .inl (fun _ => 0))), (h7, .inr (6, [.int 0, .ref h30, .ref h31, .int 0, .int 0, .int 0])), (h30, .inl (aC 0, 5, .inl (fun _ => 0))), (h31, .inl (aC 0, 4, .inl (fun _ => 0))), (h8, .inr (6, [.int 0, .ref h32, .ref h33, .int 0, .int 0, .int 0])), (h32, .inl (aC 0, 5, .inl (fun _ => 0))), (h33, .inl (aC 0, 4, .inl (fun _ => 0)))] H := hP
  have hD : va_D A [(h1, .inr (10, [x2, x3, x4, .ref h5, x6, .ref h7, .ref h8, x9, x10, x11, x12, x13, x14, x15, x16, x17])), (h5, .inr (8, [.ref h18, x19, x20, x21, x22, x23, x24, x25, x26, x27, x28, x29])), (h18, .inl (aC 0, 5, .inl (fun _ => 0))), (h7, .inr (6, [.int 0, .ref h30, .ref h31, .int 0, .int 0, .int 0])), (h30, .inl (aC 0, 5, .inl (fun _ => 0))), (h31, .inl (aC 0, 4, .inl (fun _ => 0))), (h8, .inr (6, [.int 0, .ref h32, .ref h33, .int 0, .int 0, .int 0])), (h32, .inl (aC 0, 5, .inl (fun _ => 0))), (h33, .inl (aC 0, 4, .inl (fun _ => 0)))] := hD
  refine lv_aload_n hx hb dX10_carry_11 rfl (lv_at hl 0 rfl) ?_
  refine xget F hP 0 rfl rfl inX10 5 (by decide) tb405 rfl dX10_carry_12 ?_
  refine lv_aload_n hx hb dX10_carry_15 rfl (lv_at hl 0 rfl) ?_
  refine xget F hP 0 rfl rfl inX10 3 (by decide) tb403 rfl dX10_carry_16 ?_
  refine lv_iload_n hx hb dX10_carry_19 rfl (lv_at hl 1 rfl) ?_
  refine lv_iload_n hx hb dX10_carry_20 rfl (lv_at hl 2 rfl) ?_
  refine lv_iload_n hx hb dX10_carry_21 rfl (lv_at hl 3 rfl) ?_
  refine goI (wr := [(h1, .inr (10, [x2, x3, x4, .ref h5, x6, .ref h7, .ref h8, x9, x10, x11, x12, x13, x14, x15, x16, x17])), (h7, .inr (6, [.int 0, .ref h30, .ref h31, .int 0, .int 0, .int 0])), (h30, .inl (aC 0, 5, .inl (fun _ => 0))), (h31, .inl (aC 0, 4, .inl (fun _ => 0))), (h8, .inr (6, [.int 0, .ref h32, .ref h33, .int 0, .int 0, .int 0])), (h32, .inl (aC 0, 5, .inl (fun _ => 0))), (h33, .inl (aC 0, 4, .inl (fun _ => 0)))]) (runV (n := 4) (As := [.ref h5, .int n_1, .int n_2, .int n_3]) (rest := []) F hP hD hS (a_X6_carries_1 l g aC aM h7 h5 h18 x19 x20 x21 x22 x23 x24 x25 x26 x27 x28 x29 n_1 n_2 n_3) [1, 2] (by decide) rfl 3 6 rfl rfl rfl tb897 tb894 tb895 tb896 tb12 ⟨by decide, by decide, by decide +kernel⟩ ⟨Nat.le_of_ble_eq_true rfl, Nat.le_of_ble_eq_true rfl⟩ rfl hl.1 rfl (Nat.le_of_ble_eq_true rfl) dX10_carry_22 ⟨Nat.le_of_ble_eq_true rfl, Nat.le_of_ble_eq_true rfl⟩) hP hD hS hA [1, 2] [0, 3, 4, 5, 6, 7, 8] rfl rfl (by decide) (by decide) (fun r_5 w6 H locs hw hP hD hS => ?_)
  have hP : va_P g vwCl [(h1, .inr (10, [x2, x3, x4, .ref h5, x6, .ref h7, .ref h8, x9, x10, x11, x12, x13, x14, x15, x16, x17])), (h7, .inr (6, [.int 0, .ref h30, .ref h31, .int 0, .int 0, .int 0])), (h30, .inl (aC 0, 5, .inl (fun _ => 0))), (h31, .inl (aC 0, 4, .inl (fun _ => 0))), (h8, .inr (6, [.int 0, .ref h32, .ref h33, .int 0, .int 0, .int 0])), (h32, .inl (aC 0, 5, .inl (fun _ => 0))), (h33, .inl (aC 0, 4, .inl (fun _ => 0))), (h5, .inr (8, [.ref h18, x19, x20, x21, x22, x23, x24, x25, x26, x27, x28, x29])), (h18, .inl (aC 0, 5, .inl (fun _ => 0)))] H := hP
  have hD : va_D A [(h1, .inr (10, [x2, x3, x4, .ref h5, x6, .ref h7, .ref h8, x9, x10, x11, x12, x13, x14, x15, x16, x17])), (h7, .inr (6, [.int 0, .ref h30, .ref h31, .int 0, .int 0, .int 0])), (h30, .inl (aC 0, 5, .inl (fun _ => 0))), (h31, .inl (aC 0, 4, .inl (fun _ => 0))), (h8, .inr (6, [.int 0, .ref h32, .ref h33, .int 0, .int 0, .int 0])), (h32, .inl (aC 0, 5, .inl (fun _ => 0))), (h33, .inl (aC 0, 4, .inl (fun _ => 0))), (h5, .inr (8, [.ref h18, x19, x20, x21, x22, x23, x24, x25, x26, x27, x28, x29])), (h18, .inl (aC 0, 5, .inl (fun _ => 0)))] := hD
  try dsimp only at hw
  subst hw
  refine lv_istore (lv' := [(4, .int 0), (0, .ref h1), (1, .int n_1), (2, .int n_2), (3, .int n_3)]) hx hb dX10_carry_25 hl (by decide) rfl (fun ls hl => ?_)
  refine lv_iload hx hb dX10_carry_27 (lv_at hl 0 rfl) ?_
  refine lv_if_eq (tgt := 43) hx hb dX10_carry_29 (by decide) (fun _ => ?_) (fun c_ => absurd (by decide +kernel) c_)
  refine lv_iload hx hb dX10_carry_43 (lv_at hl 0 rfl) ?_
  have hP9 := hP.sub (ws' := []) [] rfl
  have hD9 := hD.sub (ws' := []) [] (by decide) rfl
  exact rI () hx hb hr hlk rfl hS rfl hP9 hD9 (Nat.le_of_ble_eq_true rfl) (Nat.le_of_ble_eq_true rfl) dX10_carry_45

theorem tb18 : (Jvm.Cond.initialized "java/lang/Math") ∈ gw := lw_m 18 (by decide +kernel)
theorem tb351 : (Jvm.Cond.fieldLink "StairGang$History" (16 : Nat) "StairGang$History" "count" "I") ∈ gw := lw_m 351 (by decide +kernel)
theorem tb353 : (Jvm.Cond.fieldLink "StairGang$History" (20 : Nat) "StairGang$History" "next" "I") ∈ gw := lw_m 353 (by decide +kernel)
theorem tb506 : (Jvm.Cond.static ({ cls := "java/lang/Math", name := "min", desc := "(II)I" } : Jvm.MethodName)) ∈ gw := lw_m 506 (by decide +kernel)
theorem tb507 : (Jvm.Cond.code ({ cls := "java/lang/Math", name := "min", desc := "(II)I" } : Jvm.MethodName) prog_20_method_69_code (2 : Nat) (Option.some Jvm.ClassFile.FieldType.int)) ∈ gw := lw_m 507 (by decide +kernel)
theorem tb871 : (Jvm.Cond.methodLink "StairGang$History" (23 : Nat) ({ cls := "StairGang$State", name := "copy", desc := "(LStairGang$State;)V" } : Jvm.MethodName)) ∈ gw := lw_m 871 (by decide +kernel)
theorem tb872 : (Jvm.Cond.methodLink "StairGang$History" (27 : Nat) ({ cls := "java/lang/Math", name := "min", desc := "(II)I" } : Jvm.MethodName)) ∈ gw := lw_m 872 (by decide +kernel)
theorem dX10_night_0 : decode cX10_night 0 = .ok (.aload_n 0, 1) := by decide +kernel
theorem dX10_night_1 : decode cX10_night 1 = .ok (.getfield 62, 3) := by decide +kernel
theorem dX10_night_4 : decode cX10_night 4 = .ok (.aload_n 0, 1) := by decide +kernel
theorem dX10_night_5 : decode cX10_night 5 = .ok (.getfield 45, 3) := by decide +kernel
theorem dX10_night_8 : decode cX10_night 8 = .ok (.invokevirtual 177, 3) := by decide +kernel
theorem dX1_keep_0 : decode cX1_keep 0 = .ok (.aload_n 0, 1) := by decide +kernel
theorem dX1_keep_1 : decode cX1_keep 1 = .ok (.getfield 11, 3) := by decide +kernel
theorem dX1_keep_4 : decode cX1_keep 4 = .ok (.aload_n 0, 1) := by decide +kernel
theorem dX1_keep_5 : decode cX1_keep 5 = .ok (.getfield 20, 3) := by decide +kernel
theorem dX1_keep_8 : decode cX1_keep 8 = .ok (.aaload, 1) := by decide +kernel
theorem dX1_keep_9 : decode cX1_keep 9 = .ok (.aload_n 1, 1) := by decide +kernel
theorem dX1_keep_10 : decode cX1_keep 10 = .ok (.invokevirtual 23, 3) := by decide +kernel
theorem dX1_keep_13 : decode cX1_keep 13 = .ok (.aload_n 0, 1) := by decide +kernel
theorem dX1_keep_14 : decode cX1_keep 14 = .ok (.aload_n 0, 1) := by decide +kernel
theorem dX1_keep_15 : decode cX1_keep 15 = .ok (.getfield 20, 3) := by decide +kernel
theorem dX1_keep_18 : decode cX1_keep 18 = .ok (.iconst 1, 1) := by decide +kernel
theorem dX1_keep_19 : decode cX1_keep 19 = .ok (.iadd, 1) := by decide +kernel
theorem dX1_keep_20 : decode cX1_keep 20 = .ok (.bipush 16, 2) := by decide +kernel
theorem dX1_keep_22 : decode cX1_keep 22 = .ok (.irem, 1) := by decide +kernel
theorem dX1_keep_23 : decode cX1_keep 23 = .ok (.putfield 20, 3) := by decide +kernel
theorem dX1_keep_26 : decode cX1_keep 26 = .ok (.aload_n 0, 1) := by decide +kernel
theorem dX1_keep_27 : decode cX1_keep 27 = .ok (.bipush 16, 2) := by decide +kernel
theorem dX1_keep_29 : decode cX1_keep 29 = .ok (.aload_n 0, 1) := by decide +kernel
theorem dX1_keep_30 : decode cX1_keep 30 = .ok (.getfield 16, 3) := by decide +kernel
theorem dX1_keep_33 : decode cX1_keep 33 = .ok (.iconst 1, 1) := by decide +kernel
theorem dX1_keep_34 : decode cX1_keep 34 = .ok (.iadd, 1) := by decide +kernel
theorem dX1_keep_35 : decode cX1_keep 35 = .ok (.invokestatic 27, 3) := by decide +kernel
theorem dX1_keep_38 : decode cX1_keep 38 = .ok (.putfield 16, 3) := by decide +kernel
theorem dX1_keep_41 : decode cX1_keep 41 = .ok (.return_, 1) := by decide +kernel
set_option maxHeartbeats 4000000 in
set_option maxRecDepth 100000 in
theorem a_X1_keep_1 (l : Launch) (g : va_G) (aC : Nat → ClassId) (aM : Nat → Nat) (h1 h2 h3 h4 h5 h7 h8 h9 : Nat) (F6 : Nat → Option Nat) (hg1 : F6 0 = some h7) : Ct l g aC aM yX1_keep cX1_keep 2 none 2 [.ref h1, .ref h2] [(h2, .inr (6, [.int 0, .ref h3, .ref h4, .int 0, .int 0, .int 0])), (h3, .inl (aC 0, 5, .inl (fun _ => 0))), (h4, .inl (aC 0, 4, .inl (fun _ => 0))), (h1, .inr (1, [.int 0, .int 0, .ref h5])), (h5, .inl (aC 4, 16, .inr (.inr (.inr (.inr F6))))), (h7, .inr (6, [.int 0, .ref h8, .ref h9, .int 0, .int 0, .int 0])), (h8, .inl (aC 0, 5, .inl (fun _ => 0))), (h9, .inl (aC 0, 4, .inl (fun _ => 0)))] (QV g (fun (_ : Unit) => True) (fun (_ : Unit) => [(h1, .inr (1, [.int 1, .int 1, .ref h5])), (h5, .inl (aC 4, 16, .inr (.inr (.inr (.inr F6))))), (h2, .inr (6, [.int 0, .ref h3, .ref h4, .int 0, .int 0, .int 0])), (h3, .inl (aC 0, 5, .inl (fun _ => 0))), (h4, .inl (aC 0, 4, .inl (fun _ => 0))), (h7, .inr (6, [.int 0, .ref h8, .ref h9, .int 0, .int 0, .int 0])), (h8, .inl (aC 0, 5, .inl (fun _ => 0))), (h9, .inl (aC 0, 4, .inl (fun _ => 0)))])) 0 0 := by
  refine Ct.mk (by decide) (Nat.le_of_ble_eq_true rfl) ?_
  intro p e s m below meth c A ls hx hb hml hown hts hr hlk hnm hK hA hM hM2 hP hD hS hl
  have hown : s.vm.findClass RX1 = some m.cls := hown
  have F : Fx p s m _ c cX1_keep 2 RX1 g aC aM A := ⟨hx, hb, hml, hown, hts, hK, hA, hM, hM2⟩
  have hl : lv_has ls 2 [(0, .ref h1), (1, .ref h2)] := hl
  refine lv_aload_n hx hb dX1_keep_0 rfl (lv_at hl 0 rfl) ?_
  refine xget F hP 3 rfl rfl inX1 2 (by decide) tb354 rfl dX1_keep_1 ?_
  refine lv_aload_n hx hb dX1_keep_4 rfl (lv_at hl 0 rfl) ?_
  refine xget F hP 3 rfl rfl inX1 1 (by decide) tb353 rfl dX1_keep_5 ?_
  refine xqlo (v := h7) F hP 4 4 rfl rfl 0 (by decide +kernel) (by decide +kernel) (by decide) hg1 dX1_keep_8 ?_
  refine lv_aload_n hx hb dX1_keep_9 rfl (lv_at hl 1 rfl) ?_
  refine goV (wr := [(h1, .inr (1, [.int 0, .int 0, .ref h5])), (h5, .inl (aC 4, 16, .inr (.inr (.inr (.inr F6)))))]) (runV (n := 1) (As := [.ref h2]) (rest := []) F hP hD hS (a_X6_copy_1 l g aC aM h7 h2 h3 h4 h8 h9) [0, 1, 2, 5, 6, 7] (by decide) rfl 5 6 rfl rfl rfl tb837 tb871 tb835 tb836 tb12 ⟨by decide, by decide, by decide +kernel⟩ ⟨Nat.le_of_ble_eq_true rfl, Nat.le_of_ble_eq_true rfl⟩ rfl hl.1 rfl (Nat.le_of_ble_eq_true rfl) dX1_keep_10 ⟨Nat.le_of_ble_eq_true rfl, Nat.le_of_ble_eq_true rfl⟩) hP hD hS hA [0, 1, 2, 5, 6, 7] [3, 4] rfl rfl (by decide) (by decide) (fun w3 H locs hw hP hD hS => ?_)
  have hP : va_P g vwCl [(h1, .inr (1, [.int 0, .int 0, .ref h5])), (h5, .inl (aC 4, 16, .inr (.inr (.inr (.inr F6))))), (h2, .inr (6, [.int 0, .ref h3, .ref h4, .int 0, .int 0, .int 0])), (h3, .inl (aC 0, 5, .inl (fun _ => 0))), (h4, .inl (aC 0, 4, .inl (fun _ => 0))), (h7, .inr (6, [.int 0, .ref h8, .ref h9, .int 0, .int 0, .int 0])), (h8, .inl (aC 0, 5, .inl (fun _ => 0))), (h9, .inl (aC 0, 4, .inl (fun _ => 0)))] H := hP
  have hD : va_D A [(h1, .inr (1, [.int 0, .int 0, .ref h5])), (h5, .inl (aC 4, 16, .inr (.inr (.inr (.inr F6))))), (h2, .inr (6, [.int 0, .ref h3, .ref h4, .int 0, .int 0, .int 0])), (h3, .inl (aC 0, 5, .inl (fun _ => 0))), (h4, .inl (aC 0, 4, .inl (fun _ => 0))), (h7, .inr (6, [.int 0, .ref h8, .ref h9, .int 0, .int 0, .int 0])), (h8, .inl (aC 0, 5, .inl (fun _ => 0))), (h9, .inl (aC 0, 4, .inl (fun _ => 0)))] := hD
  refine lv_aload_n hx hb dX1_keep_13 rfl (lv_at hl 0 rfl) ?_
  refine lv_aload_n hx hb dX1_keep_14 rfl (lv_at hl 0 rfl) ?_
  refine xget F hP 0 rfl rfl inX1 1 (by decide) tb353 rfl dX1_keep_15 ?_
  refine lv_iconst (v := 1) hx hb dX1_keep_18 (by decide) ?_
  refine lv_iadd hx hb dX1_keep_19 ?_
  refine relit (v := 1) (by decide +kernel) ?_
  refine lv_bipush (v := 16) hx hb dX1_keep_20 (by decide) ?_
  refine lv_irem hx hb dX1_keep_22 (by decide +kernel) ?_
  refine relit (v := 1) (by decide +kernel) ?_
  refine xput F hP hD hS 0 rfl rfl inX1 tyX1_ok nmX1 1 (by decide) tb353 rfl rfl rfl (Nat.le_of_ble_eq_true rfl) dX1_keep_23 (fun H locs hP hD hS => ?_)
  have hP : va_P g vwCl [(h1, .inr (1, [.int 0, .int 1, .ref h5])), (h5, .inl (aC 4, 16, .inr (.inr (.inr (.inr F6))))), (h2, .inr (6, [.int 0, .ref h3, .ref h4, .int 0, .int 0, .int 0])), (h3, .inl (aC 0, 5, .inl (fun _ => 0))), (h4, .inl (aC 0, 4, .inl (fun _ => 0))), (h7, .inr (6, [.int 0, .ref h8, .ref h9, .int 0, .int 0, .int 0])), (h8, .inl (aC 0, 5, .inl (fun _ => 0))), (h9, .inl (aC 0, 4, .inl (fun _ => 0)))] H := hP
  have hD : va_D A [(h1, .inr (1, [.int 0, .int 1, .ref h5])), (h5, .inl (aC 4, 16, .inr (.inr (.inr (.inr F6))))), (h2, .inr (6, [.int 0, .ref h3, .ref h4, .int 0, .int 0, .int 0])), (h3, .inl (aC 0, 5, .inl (fun _ => 0))), (h4, .inl (aC 0, 4, .inl (fun _ => 0))), (h7, .inr (6, [.int 0, .ref h8, .ref h9, .int 0, .int 0, .int 0])), (h8, .inl (aC 0, 5, .inl (fun _ => 0))), (h9, .inl (aC 0, 4, .inl (fun _ => 0)))] := hD
  refine lv_aload_n hx hb dX1_keep_26 rfl (lv_at hl 0 rfl) ?_
  refine lv_bipush (v := 16) hx hb dX1_keep_27 (by decide) ?_
  refine lv_aload_n hx hb dX1_keep_29 rfl (lv_at hl 0 rfl) ?_
  refine xget F hP 0 rfl rfl inX1 0 (by decide) tb351 rfl dX1_keep_30 ?_
  refine lv_iconst (v := 1) hx hb dX1_keep_33 (by decide) ?_
  refine lv_iadd hx hb dX1_keep_34 ?_
  refine relit (v := 1) (by decide +kernel) ?_
  refine va_mmin hx hb (hml.trans hl.1.symm) hown (hts _ tb872) (hts _ tb506) (hts _ tb18) (hts _ tb507) (Nat.le_of_ble_eq_true rfl) (Nat.le_of_ble_eq_true rfl) (Nat.le_of_ble_eq_true rfl) (Nat.le_of_ble_eq_true rfl) dX1_keep_35 ?_
  refine relit (v := 1) (by decide +kernel) ?_
  refine xput F hP hD hS 0 rfl rfl inX1 tyX1_ok nmX1 0 (by decide) tb351 rfl rfl rfl (Nat.le_of_ble_eq_true rfl) dX1_keep_38 (fun H locs hP hD hS => ?_)
  have hP : va_P g vwCl [(h1, .inr (1, [.int 1, .int 1, .ref h5])), (h5, .inl (aC 4, 16, .inr (.inr (.inr (.inr F6))))), (h2, .inr (6, [.int 0, .ref h3, .ref h4, .int 0, .int 0, .int 0])), (h3, .inl (aC 0, 5, .inl (fun _ => 0))), (h4, .inl (aC 0, 4, .inl (fun _ => 0))), (h7, .inr (6, [.int 0, .ref h8, .ref h9, .int 0, .int 0, .int 0])), (h8, .inl (aC 0, 5, .inl (fun _ => 0))), (h9, .inl (aC 0, 4, .inl (fun _ => 0)))] H := hP
  have hD : va_D A [(h1, .inr (1, [.int 1, .int 1, .ref h5])), (h5, .inl (aC 4, 16, .inr (.inr (.inr (.inr F6))))), (h2, .inr (6, [.int 0, .ref h3, .ref h4, .int 0, .int 0, .int 0])), (h3, .inl (aC 0, 5, .inl (fun _ => 0))), (h4, .inl (aC 0, 4, .inl (fun _ => 0))), (h7, .inr (6, [.int 0, .ref h8, .ref h9, .int 0, .int 0, .int 0])), (h8, .inl (aC 0, 5, .inl (fun _ => 0))), (h9, .inl (aC 0, 4, .inl (fun _ => 0)))] := hD
  have hP9 := hP.sub (ws' := [(h1, .inr (1, [.int 1, .int 1, .ref h5])), (h5, .inl (aC 4, 16, .inr (.inr (.inr (.inr F6))))), (h2, .inr (6, [.int 0, .ref h3, .ref h4, .int 0, .int 0, .int 0])), (h3, .inl (aC 0, 5, .inl (fun _ => 0))), (h4, .inl (aC 0, 4, .inl (fun _ => 0))), (h7, .inr (6, [.int 0, .ref h8, .ref h9, .int 0, .int 0, .int 0])), (h8, .inl (aC 0, 5, .inl (fun _ => 0))), (h9, .inl (aC 0, 4, .inl (fun _ => 0)))]) [0, 1, 2, 3, 4, 5, 6, 7] rfl
  have hD9 := hD.sub (ws' := [(h1, .inr (1, [.int 1, .int 1, .ref h5])), (h5, .inl (aC 4, 16, .inr (.inr (.inr (.inr F6))))), (h2, .inr (6, [.int 0, .ref h3, .ref h4, .int 0, .int 0, .int 0])), (h3, .inl (aC 0, 5, .inl (fun _ => 0))), (h4, .inl (aC 0, 4, .inl (fun _ => 0))), (h7, .inr (6, [.int 0, .ref h8, .ref h9, .int 0, .int 0, .int 0])), (h8, .inl (aC 0, 5, .inl (fun _ => 0))), (h9, .inl (aC 0, 4, .inl (fun _ => 0)))]) [0, 1, 2, 3, 4, 5, 6, 7] (by decide) rfl
  exact rV () hx hb hr hlk hS trivial hP9 hD9 (Nat.le_of_ble_eq_true rfl) (Nat.le_of_ble_eq_true rfl) dX1_keep_41

theorem tb301 : (Jvm.Cond.fieldLink "StairGang" (191 : Nat) "StairGang$State" "nights" "I") ∈ gw := lw_m 301 (by decide +kernel)
theorem tb867 : (Jvm.Cond.methodLink "StairGang" (177 : Nat) ({ cls := "StairGang$History", name := "keep", desc := "(LStairGang$State;)V" } : Jvm.MethodName)) ∈ gw := lw_m 867 (by decide +kernel)
theorem tb868 : (Jvm.Cond.instanceMethod ({ cls := "StairGang$History", name := "keep", desc := "(LStairGang$State;)V" } : Jvm.MethodName)) ∈ gw := lw_m 868 (by decide +kernel)
theorem tb869 : (Jvm.Cond.selects "StairGang$History" ({ cls := "StairGang$History", name := "keep", desc := "(LStairGang$State;)V" } : Jvm.MethodName) ({ cls := "StairGang$History", name := "keep", desc := "(LStairGang$State;)V" } : Jvm.MethodName)) ∈ gw := lw_m 869 (by decide +kernel)
theorem tb870 : (Jvm.Cond.code ({ cls := "StairGang$History", name := "keep", desc := "(LStairGang$State;)V" } : Jvm.MethodName) prog_3_method_3_code (2 : Nat) (Option.none : Option Jvm.ClassFile.FieldType)) ∈ gw := lw_m 870 (by decide +kernel)
theorem dX10_night_11 : decode cX10_night 11 = .ok (.aload_n 0, 1) := by decide +kernel
theorem dX10_night_12 : decode cX10_night 12 = .ok (.getfield 45, 3) := by decide +kernel
theorem dX10_night_15 : decode cX10_night 15 = .ok (.dup, 1) := by decide +kernel
theorem dX10_night_16 : decode cX10_night 16 = .ok (.getfield 191, 3) := by decide +kernel
theorem dX10_night_19 : decode cX10_night 19 = .ok (.iconst 1, 1) := by decide +kernel
theorem dX10_night_20 : decode cX10_night 20 = .ok (.iadd, 1) := by decide +kernel
theorem dX10_night_21 : decode cX10_night 21 = .ok (.putfield 191, 3) := by decide +kernel
theorem dX10_night_24 : decode cX10_night 24 = .ok (.aload_n 0, 1) := by decide +kernel
theorem dX10_night_25 : decode cX10_night 25 = .ok (.getfield 45, 3) := by decide +kernel
theorem dX10_night_28 : decode cX10_night 28 = .ok (.getfield 191, 3) := by decide +kernel
theorem dX10_night_31 : decode cX10_night 31 = .ok (.ireturn, 1) := by decide +kernel
set_option maxHeartbeats 4000000 in
set_option maxRecDepth 100000 in
theorem x_night (l : Launch) (g : va_G) (aC : Nat → ClassId) (aM : Nat → Nat) (h1 h7 h10 h18 h19 h20 h22 h23 h24 : Nat) (x2 x3 x4 x5 x6 x8 x9 x11 x12 x13 x14 x15 x16 x17 : Value) (F21 : Nat → Option Nat) (hg1 : F21 0 = some h22) : Ct l g aC aM yX10_night cX10_night 1 (some .int) 3 [.ref h1] [(h1, .inr (10, [x2, x3, x4, x5, x6, .ref h7, x8, x9, .ref h10, x11, x12, x13, x14, x15, x16, x17])), (h7, .inr (6, [.int 0, .ref h18, .ref h19, .int 0, .int 0, .int 0])), (h18, .inl (aC 0, 5, .inl (fun _ => 0))), (h19, .inl (aC 0, 4, .inl (fun _ => 0))), (h10, .inr (1, [.int 0, .int 0, .ref h20])), (h20, .inl (aC 4, 16, .inr (.inr (.inr (.inr F21))))), (h22, .inr (6, [.int 0, .ref h23, .ref h24, .int 0, .int 0, .int 0])), (h23, .inl (aC 0, 5, .inl (fun _ => 0))), (h24, .inl (aC 0, 4, .inl (fun _ => 0)))] (QI g (fun (r : Int32) (_ : Unit) => r = 1) (fun (_ : Unit) => [])) 0 0 := by
  refine Ct.mk (by decide) (Nat.le_of_ble_eq_true rfl) ?_
  intro p e s m below meth c A ls hx hb hml hown hts hr hlk hnm hK hA hM hM2 hP hD hS hl
  have hown : s.vm.findClass RX10 = some m.cls := hown
  have F : Fx p s m _ c cX10_night 1 RX10 g aC aM A := ⟨hx, hb, hml, hown, hts, hK, hA, hM, hM2⟩
  have hl : lv_has ls 1 [(0, .ref h1)] := hl
  refine lv_aload_n hx hb dX10_night_0 rfl (lv_at hl 0 rfl) ?_
  refine xget F hP 0 rfl rfl inX10 8 (by decide) tb408 rfl dX10_night_1 ?_
  refine lv_aload_n hx hb dX10_night_4 rfl (lv_at hl 0 rfl) ?_
  refine xget F hP 0 rfl rfl inX10 5 (by decide) tb405 rfl dX10_night_5 ?_
  refine goV (wr := [(h1, .inr (10, [x2, x3, x4, x5, x6, .ref h7, x8, x9, .ref h10, x11, x12, x13, x14, x15, x16, x17]))]) (runV (n := 1) (As := [.ref h7]) (rest := []) F hP hD hS (a_X1_keep_1 l g aC aM h10 h7 h18 h19 h20 h22 h23 h24 F21 hg1) [1, 2, 3, 4, 5, 6, 7, 8] (by decide) rfl 4 1 rfl rfl rfl tb870 tb867 tb868 tb869 tb14 ⟨by decide, by decide, by decide +kernel⟩ ⟨Nat.le_of_ble_eq_true rfl, Nat.le_of_ble_eq_true rfl⟩ rfl hl.1 rfl (Nat.le_of_ble_eq_true rfl) dX10_night_8 ⟨Nat.le_of_ble_eq_true rfl, Nat.le_of_ble_eq_true rfl⟩) hP hD hS hA [1, 2, 3, 4, 5, 6, 7, 8] [0] rfl rfl (by decide) (by decide) (fun w3 H locs hw hP hD hS => ?_)
  have hP : va_P g vwCl [(h1, .inr (10, [x2, x3, x4, x5, x6, .ref h7, x8, x9, .ref h10, x11, x12, x13, x14, x15, x16, x17])), (h10, .inr (1, [.int 1, .int 1, .ref h20])), (h20, .inl (aC 4, 16, .inr (.inr (.inr (.inr F21))))), (h7, .inr (6, [.int 0, .ref h18, .ref h19, .int 0, .int 0, .int 0])), (h18, .inl (aC 0, 5, .inl (fun _ => 0))), (h19, .inl (aC 0, 4, .inl (fun _ => 0))), (h22, .inr (6, [.int 0, .ref h23, .ref h24, .int 0, .int 0, .int 0])), (h23, .inl (aC 0, 5, .inl (fun _ => 0))), (h24, .inl (aC 0, 4, .inl (fun _ => 0)))] H := hP
  have hD : va_D A [(h1, .inr (10, [x2, x3, x4, x5, x6, .ref h7, x8, x9, .ref h10, x11, x12, x13, x14, x15, x16, x17])), (h10, .inr (1, [.int 1, .int 1, .ref h20])), (h20, .inl (aC 4, 16, .inr (.inr (.inr (.inr F21))))), (h7, .inr (6, [.int 0, .ref h18, .ref h19, .int 0, .int 0, .int 0])), (h18, .inl (aC 0, 5, .inl (fun _ => 0))), (h19, .inl (aC 0, 4, .inl (fun _ => 0))), (h22, .inr (6, [.int 0, .ref h23, .ref h24, .int 0, .int 0, .int 0])), (h23, .inl (aC 0, 5, .inl (fun _ => 0))), (h24, .inl (aC 0, 4, .inl (fun _ => 0)))] := hD
  refine lv_aload_n hx hb dX10_night_11 rfl (lv_at hl 0 rfl) ?_
  refine xget F hP 0 rfl rfl inX10 5 (by decide) tb405 rfl dX10_night_12 ?_
  refine lv_dup hx hb dX10_night_15 rfl ?_
  refine xget F hP 3 rfl rfl inX6 4 (by decide) tb301 rfl dX10_night_16 ?_
  refine lv_iconst (v := 1) hx hb dX10_night_19 (by decide) ?_
  refine lv_iadd hx hb dX10_night_20 ?_
  refine relit (v := 1) (by decide +kernel) ?_
  refine xput F hP hD hS 3 rfl rfl inX6 tyX6_ok nmX6 4 (by decide) tb301 rfl rfl rfl (Nat.le_of_ble_eq_true rfl) dX10_night_21 (fun H locs hP hD hS => ?_)
  have hP : va_P g vwCl [(h1, .inr (10, [x2, x3, x4, x5, x6, .ref h7, x8, x9, .ref h10, x11, x12, x13, x14, x15, x16, x17])), (h10, .inr (1, [.int 1, .int 1, .ref h20])), (h20, .inl (aC 4, 16, .inr (.inr (.inr (.inr F21))))), (h7, .inr (6, [.int 0, .ref h18, .ref h19, .int 0, .int 1, .int 0])), (h18, .inl (aC 0, 5, .inl (fun _ => 0))), (h19, .inl (aC 0, 4, .inl (fun _ => 0))), (h22, .inr (6, [.int 0, .ref h23, .ref h24, .int 0, .int 0, .int 0])), (h23, .inl (aC 0, 5, .inl (fun _ => 0))), (h24, .inl (aC 0, 4, .inl (fun _ => 0)))] H := hP
  have hD : va_D A [(h1, .inr (10, [x2, x3, x4, x5, x6, .ref h7, x8, x9, .ref h10, x11, x12, x13, x14, x15, x16, x17])), (h10, .inr (1, [.int 1, .int 1, .ref h20])), (h20, .inl (aC 4, 16, .inr (.inr (.inr (.inr F21))))), (h7, .inr (6, [.int 0, .ref h18, .ref h19, .int 0, .int 1, .int 0])), (h18, .inl (aC 0, 5, .inl (fun _ => 0))), (h19, .inl (aC 0, 4, .inl (fun _ => 0))), (h22, .inr (6, [.int 0, .ref h23, .ref h24, .int 0, .int 0, .int 0])), (h23, .inl (aC 0, 5, .inl (fun _ => 0))), (h24, .inl (aC 0, 4, .inl (fun _ => 0)))] := hD
  refine lv_aload_n hx hb dX10_night_24 rfl (lv_at hl 0 rfl) ?_
  refine xget F hP 0 rfl rfl inX10 5 (by decide) tb405 rfl dX10_night_25 ?_
  refine xget F hP 3 rfl rfl inX6 4 (by decide) tb301 rfl dX10_night_28 ?_
  have hP9 := hP.sub (ws' := []) [] rfl
  have hD9 := hD.sub (ws' := []) [] (by decide) rfl
  exact rI () hx hb hr hlk rfl hS rfl hP9 hD9 (Nat.le_of_ble_eq_true rfl) (Nat.le_of_ble_eq_true rfl) dX10_night_31

theorem dX10_undo_0 : decode cX10_undo 0 = .ok (.aload_n 0, 1) := by decide +kernel
theorem dX10_undo_1 : decode cX10_undo 1 = .ok (.getfield 62, 3) := by decide +kernel
theorem dX10_undo_4 : decode cX10_undo 4 = .ok (.aload_n 0, 1) := by decide +kernel
theorem dX10_undo_5 : decode cX10_undo 5 = .ok (.getfield 45, 3) := by decide +kernel
theorem dX10_undo_8 : decode cX10_undo 8 = .ok (.invokevirtual 194, 3) := by decide +kernel
theorem dX1_takeBack_0 : decode cX1_takeBack 0 = .ok (.aload_n 0, 1) := by decide +kernel
theorem dX1_takeBack_1 : decode cX1_takeBack 1 = .ok (.getfield 16, 3) := by decide +kernel
theorem dX1_takeBack_4 : decode cX1_takeBack 4 = .ok (.ifCond .ne 5, 3) := by decide +kernel
theorem dX1_takeBack_7 : decode cX1_takeBack 7 = .ok (.iconst 0, 1) := by decide +kernel
theorem dX1_takeBack_8 : decode cX1_takeBack 8 = .ok (.ireturn, 1) := by decide +kernel
set_option maxHeartbeats 4000000 in
set_option maxRecDepth 100000 in
theorem a_X1_takeBack_1 (l : Launch) (g : va_G) (aC : Nat → ClassId) (aM : Nat → Nat) (h1 h2 : Nat) (x3 x4 : Value) : Ct l g aC aM yX1_takeBack cX1_takeBack 2 (some .boolean) 1 [.ref h1, .ref h2] [(h1, .inr (1, [.int 0, x3, x4]))] (QI g (fun (r : Int32) (_ : Unit) => r = 0) (fun (_ : Unit) => [(h1, .inr (1, [.int 0, x3, x4]))])) 0 0 := by
  refine Ct.mk (by decide) (Nat.le_of_ble_eq_true rfl) ?_
  intro p e s m below meth c A ls hx hb hml hown hts hr hlk hnm hK hA hM hM2 hP hD hS hl
  have hown : s.vm.findClass RX1 = some m.cls := hown
  have F : Fx p s m _ c cX1_takeBack 2 RX1 g aC aM A := ⟨hx, hb, hml, hown, hts, hK, hA, hM, hM2⟩
  have hl : lv_has ls 2 [(0, .ref h1), (1, .ref h2)] := hl
  refine lv_aload_n hx hb dX1_takeBack_0 rfl (lv_at hl 0 rfl) ?_
  refine xget F hP 0 rfl rfl inX1 0 (by decide) tb351 rfl dX1_takeBack_1 ?_
  refine lv_if_ne (tgt := 9) hx hb dX1_takeBack_4 (by decide) (fun c_ => absurd (by decide +kernel) c_) (fun _ => ?_)
  refine lv_iconst (v := 0) hx hb dX1_takeBack_7 (by decide) ?_
  have hP9 := hP.sub (ws' := [(h1, .inr (1, [.int 0, x3, x4]))]) [0] rfl
  have hD9 := hD.sub (ws' := [(h1, .inr (1, [.int 0, x3, x4]))]) [0] (by decide) rfl
  exact rI () hx hb hr hlk rfl hS rfl hP9 hD9 (Nat.le_of_ble_eq_true rfl) (Nat.le_of_ble_eq_true rfl) dX1_takeBack_8

theorem tb906 : (Jvm.Cond.methodLink "StairGang" (194 : Nat) ({ cls := "StairGang$History", name := "takeBack", desc := "(LStairGang$State;)Z" } : Jvm.MethodName)) ∈ gw := lw_m 906 (by decide +kernel)
theorem tb907 : (Jvm.Cond.instanceMethod ({ cls := "StairGang$History", name := "takeBack", desc := "(LStairGang$State;)Z" } : Jvm.MethodName)) ∈ gw := lw_m 907 (by decide +kernel)
theorem tb908 : (Jvm.Cond.selects "StairGang$History" ({ cls := "StairGang$History", name := "takeBack", desc := "(LStairGang$State;)Z" } : Jvm.MethodName) ({ cls := "StairGang$History", name := "takeBack", desc := "(LStairGang$State;)Z" } : Jvm.MethodName)) ∈ gw := lw_m 908 (by decide +kernel)
theorem tb909 : (Jvm.Cond.code ({ cls := "StairGang$History", name := "takeBack", desc := "(LStairGang$State;)Z" } : Jvm.MethodName) prog_3_method_4_code (2 : Nat) (Option.some Jvm.ClassFile.FieldType.boolean)) ∈ gw := lw_m 909 (by decide +kernel)
theorem dX10_undo_11 : decode cX10_undo 11 = .ok (.ireturn, 1) := by decide +kernel
set_option maxHeartbeats 4000000 in
set_option maxRecDepth 100000 in
theorem x_undo (l : Launch) (g : va_G) (aC : Nat → ClassId) (aM : Nat → Nat) (h1 h7 h10 : Nat) (x2 x3 x4 x5 x6 x8 x9 x11 x12 x13 x14 x15 x16 x17 x18 x19 : Value) : Ct l g aC aM yX10_undo cX10_undo 1 (some .boolean) 2 [.ref h1] [(h1, .inr (10, [x2, x3, x4, x5, x6, .ref h7, x8, x9, .ref h10, x11, x12, x13, x14, x15, x16, x17])), (h10, .inr (1, [.int 0, x18, x19]))] (QI g (fun (r : Int32) (_ : Unit) => r = 0) (fun (_ : Unit) => [])) 0 0 := by
  refine Ct.mk (by decide) (Nat.le_of_ble_eq_true rfl) ?_
  intro p e s m below meth c A ls hx hb hml hown hts hr hlk hnm hK hA hM hM2 hP hD hS hl
  have hown : s.vm.findClass RX10 = some m.cls := hown
  have F : Fx p s m _ c cX10_undo 1 RX10 g aC aM A := ⟨hx, hb, hml, hown, hts, hK, hA, hM, hM2⟩
  have hl : lv_has ls 1 [(0, .ref h1)] := hl
  refine lv_aload_n hx hb dX10_undo_0 rfl (lv_at hl 0 rfl) ?_
  refine xget F hP 0 rfl rfl inX10 8 (by decide) tb408 rfl dX10_undo_1 ?_
  refine lv_aload_n hx hb dX10_undo_4 rfl (lv_at hl 0 rfl) ?_
  refine xget F hP 0 rfl rfl inX10 5 (by decide) tb405 rfl dX10_undo_5 ?_
  refine goI (wr := [(h1, .inr (10, [x2, x3, x4, x5, x6, .ref h7, x8, x9, .ref h10, x11, x12, x13, x14, x15, x16, x17]))]) (runV (n := 1) (As := [.ref h7]) (rest := []) F hP hD hS (a_X1_takeBack_1 l g aC aM h10 h7 x18 x19) [1] (by decide) rfl 1 1 rfl rfl rfl tb909 tb906 tb907 tb908 tb14 ⟨by decide, by decide, by decide +kernel⟩ ⟨Nat.le_of_ble_eq_true rfl, Nat.le_of_ble_eq_true rfl⟩ rfl hl.1 rfl (Nat.le_of_ble_eq_true rfl) dX10_undo_8 ⟨Nat.le_of_ble_eq_true rfl, Nat.le_of_ble_eq_true rfl⟩) hP hD hS hA [1] [0] rfl rfl (by decide) (by decide) (fun r_2 w3 H locs hw hP hD hS => ?_)
  have hP : va_P g vwCl [(h1, .inr (10, [x2, x3, x4, x5, x6, .ref h7, x8, x9, .ref h10, x11, x12, x13, x14, x15, x16, x17])), (h10, .inr (1, [.int 0, x18, x19]))] H := hP
  have hD : va_D A [(h1, .inr (10, [x2, x3, x4, x5, x6, .ref h7, x8, x9, .ref h10, x11, x12, x13, x14, x15, x16, x17])), (h10, .inr (1, [.int 0, x18, x19]))] := hD
  try dsimp only at hw
  subst hw
  have hP9 := hP.sub (ws' := []) [] rfl
  have hD9 := hD.sub (ws' := []) [] (by decide) rfl
  exact rI () hx hb hr hlk rfl hS rfl hP9 hD9 (Nat.le_of_ble_eq_true rfl) (Nat.le_of_ble_eq_true rfl) dX10_undo_11

theorem dX10_alone_0 : decode cX10_alone 0 = .ok (.aload_n 0, 1) := by decide +kernel
theorem dX10_alone_1 : decode cX10_alone 1 = .ok (.getfield 35, 3) := by decide +kernel
theorem dX10_alone_4 : decode cX10_alone 4 = .ok (.iconst 3, 1) := by decide +kernel
theorem dX10_alone_5 : decode cX10_alone 5 = .ok (.iload_n 1, 1) := by decide +kernel
theorem dX10_alone_6 : decode cX10_alone 6 = .ok (.invokevirtual 129, 3) := by decide +kernel
theorem dX10_alone_9 : decode cX10_alone 9 = .ok (.ifCond .ne 5, 3) := by decide +kernel
theorem dX10_alone_12 : decode cX10_alone 12 = .ok (.iconst (-1), 1) := by decide +kernel
theorem dX10_alone_13 : decode cX10_alone 13 = .ok (.ireturn, 1) := by decide +kernel
set_option maxHeartbeats 4000000 in
set_option maxRecDepth 100000 in
theorem x_alone (l : Launch) (g : va_G) (aC : Nat → ClassId) (aM : Nat → Nat) (h1 h5 h18 : Nat) (x2 x3 x4 x6 x7 x8 x9 x10 x11 x12 x13 x14 x15 x16 x17 x19 x20 x21 x22 x23 x24 x25 x26 x27 x28 x29 : Value) (n_1 : Int32) : Ct l g aC aM yX10_alone cX10_alone 3 (some .int) 2 [.ref h1, .int n_1] [(h1, .inr (10, [x2, x3, x4, .ref h5, x6, x7, x8, x9, x10, x11, x12, x13, x14, x15, x16, x17])), (h5, .inr (8, [.ref h18, x19, x20, x21, x22, x23, x24, x25, x26, x27, x28, x29])), (h18, .inl (aC 0, 5, .inl (fun _ => 0)))] (QI g (fun (r : Int32) (_ : Unit) => r = (-1)) (fun (_ : Unit) => [])) 0 0 := by
  refine Ct.mk (by decide) (Nat.le_of_ble_eq_true rfl) ?_
  intro p e s m below meth c A ls hx hb hml hown hts hr hlk hnm hK hA hM hM2 hP hD hS hl
  have hown : s.vm.findClass RX10 = some m.cls := hown
  have F : Fx p s m _ c cX10_alone 3 RX10 g aC aM A := ⟨hx, hb, hml, hown, hts, hK, hA, hM, hM2⟩
  have hl : lv_has ls 3 [(0, .ref h1), (1, .int n_1)] := hl
  refine lv_aload_n hx hb dX10_alone_0 rfl (lv_at hl 0 rfl) ?_
  refine xget F hP 0 rfl rfl inX10 3 (by decide) tb403 rfl dX10_alone_1 ?_
  refine lv_iconst (v := 3) hx hb dX10_alone_4 (by decide) ?_
  refine lv_iload_n hx hb dX10_alone_5 rfl (lv_at hl 1 rfl) ?_
  refine goI (wr := [(h1, .inr (10, [x2, x3, x4, .ref h5, x6, x7, x8, x9, x10, x11, x12, x13, x14, x15, x16, x17]))]) (runV (n := 2) (As := [.int 3, .int n_1]) (rest := []) F hP hD hS (k_has3 l g aC aM h5 h18 x19 x20 x21 x22 x23 x24 x25 x26 x27 x28 x29 n_1) [1, 2] (by decide) rfl 1 8 rfl rfl rfl tb654 tb761 tb652 tb653 tb9 ⟨by decide, by decide, by decide +kernel⟩ ⟨Nat.le_of_ble_eq_true rfl, Nat.le_of_ble_eq_true rfl⟩ rfl hl.1 rfl (Nat.le_of_ble_eq_true rfl) dX10_alone_6 ⟨Nat.le_of_ble_eq_true rfl, Nat.le_of_ble_eq_true rfl⟩) hP hD hS hA [1, 2] [0] rfl rfl (by decide) (by decide) (fun r_2 w3 H locs hw hP hD hS => ?_)
  have hP : va_P g vwCl [(h1, .inr (10, [x2, x3, x4, .ref h5, x6, x7, x8, x9, x10, x11, x12, x13, x14, x15, x16, x17])), (h5, .inr (8, [.ref h18, x19, x20, x21, x22, x23, x24, x25, x26, x27, x28, x29])), (h18, .inl (aC 0, 5, .inl (fun _ => 0)))] H := hP
  have hD : va_D A [(h1, .inr (10, [x2, x3, x4, .ref h5, x6, x7, x8, x9, x10, x11, x12, x13, x14, x15, x16, x17])), (h5, .inr (8, [.ref h18, x19, x20, x21, x22, x23, x24, x25, x26, x27, x28, x29])), (h18, .inl (aC 0, 5, .inl (fun _ => 0)))] := hD
  try dsimp only at hw
  subst hw
  refine lv_if_ne (tgt := 14) hx hb dX10_alone_9 (by decide) (fun c_ => absurd (by decide +kernel) c_) (fun _ => ?_)
  refine lv_iconst (v := (-1)) hx hb dX10_alone_12 (by decide) ?_
  have hP9 := hP.sub (ws' := []) [] rfl
  have hD9 := hD.sub (ws' := []) [] (by decide) rfl
  exact rI () hx hb hr hlk rfl hS rfl hP9 hD9 (Nat.le_of_ble_eq_true rfl) (Nat.le_of_ble_eq_true rfl) dX10_alone_13

theorem dX10_see_0 : decode cX10_see 0 = .ok (.aload_n 0, 1) := by decide +kernel
theorem dX10_see_1 : decode cX10_see 1 = .ok (.getfield 35, 3) := by decide +kernel
theorem dX10_see_4 : decode cX10_see 4 = .ok (.iconst 3, 1) := by decide +kernel
theorem dX10_see_5 : decode cX10_see 5 = .ok (.iload_n 1, 1) := by decide +kernel
theorem dX10_see_6 : decode cX10_see 6 = .ok (.invokevirtual 129, 3) := by decide +kernel
theorem dX10_see_9 : decode cX10_see 9 = .ok (.ifCond .eq 14, 3) := by decide +kernel
theorem dX10_see_23 : decode cX10_see 23 = .ok (.iconst 0, 1) := by decide +kernel
theorem dX10_see_24 : decode cX10_see 24 = .ok (.ireturn, 1) := by decide +kernel
set_option maxHeartbeats 4000000 in
set_option maxRecDepth 100000 in
theorem x_see (l : Launch) (g : va_G) (aC : Nat → ClassId) (aM : Nat → Nat) (h1 h5 h18 : Nat) (x2 x3 x4 x6 x7 x8 x9 x10 x11 x12 x13 x14 x15 x16 x17 x19 x20 x21 x22 x23 x24 x25 x26 x27 x28 x29 : Value) (n_1 n_2 n_3 : Int32) : Ct l g aC aM yX10_see cX10_see 5 (some .boolean) 2 [.ref h1, .int n_1, .int n_2, .int n_3] [(h1, .inr (10, [x2, x3, x4, .ref h5, x6, x7, x8, x9, x10, x11, x12, x13, x14, x15, x16, x17])), (h5, .inr (8, [.ref h18, x19, x20, x21, x22, x23, x24, x25, x26, x27, x28, x29])), (h18, .inl (aC 0, 5, .inl (fun _ => 0)))] (QI g (fun (r : Int32) (_ : Unit) => r = 0) (fun (_ : Unit) => [])) 0 0 := by
  refine Ct.mk (by decide) (Nat.le_of_ble_eq_true rfl) ?_
  intro p e s m below meth c A ls hx hb hml hown hts hr hlk hnm hK hA hM hM2 hP hD hS hl
  have hown : s.vm.findClass RX10 = some m.cls := hown
  have F : Fx p s m _ c cX10_see 5 RX10 g aC aM A := ⟨hx, hb, hml, hown, hts, hK, hA, hM, hM2⟩
  have hl : lv_has ls 5 [(0, .ref h1), (1, .int n_1), (2, .int n_2), (3, .int n_3)] := hl
  refine lv_aload_n hx hb dX10_see_0 rfl (lv_at hl 0 rfl) ?_
  refine xget F hP 0 rfl rfl inX10 3 (by decide) tb403 rfl dX10_see_1 ?_
  refine lv_iconst (v := 3) hx hb dX10_see_4 (by decide) ?_
  refine lv_iload_n hx hb dX10_see_5 rfl (lv_at hl 1 rfl) ?_
  refine goI (wr := [(h1, .inr (10, [x2, x3, x4, .ref h5, x6, x7, x8, x9, x10, x11, x12, x13, x14, x15, x16, x17]))]) (runV (n := 2) (As := [.int 3, .int n_1]) (rest := []) F hP hD hS (k_has3 l g aC aM h5 h18 x19 x20 x21 x22 x23 x24 x25 x26 x27 x28 x29 n_1) [1, 2] (by decide) rfl 1 8 rfl rfl rfl tb654 tb761 tb652 tb653 tb9 ⟨by decide, by decide, by decide +kernel⟩ ⟨Nat.le_of_ble_eq_true rfl, Nat.le_of_ble_eq_true rfl⟩ rfl hl.1 rfl (Nat.le_of_ble_eq_true rfl) dX10_see_6 ⟨Nat.le_of_ble_eq_true rfl, Nat.le_of_ble_eq_true rfl⟩) hP hD hS hA [1, 2] [0] rfl rfl (by decide) (by decide) (fun r_2 w3 H locs hw hP hD hS => ?_)
  have hP : va_P g vwCl [(h1, .inr (10, [x2, x3, x4, .ref h5, x6, x7, x8, x9, x10, x11, x12, x13, x14, x15, x16, x17])), (h5, .inr (8, [.ref h18, x19, x20, x21, x22, x23, x24, x25, x26, x27, x28, x29])), (h18, .inl (aC 0, 5, .inl (fun _ => 0)))] H := hP
  have hD : va_D A [(h1, .inr (10, [x2, x3, x4, .ref h5, x6, x7, x8, x9, x10, x11, x12, x13, x14, x15, x16, x17])), (h5, .inr (8, [.ref h18, x19, x20, x21, x22, x23, x24, x25, x26, x27, x28, x29])), (h18, .inl (aC 0, 5, .inl (fun _ => 0)))] := hD
  try dsimp only at hw
  subst hw
  refine lv_if_eq (tgt := 23) hx hb dX10_see_9 (by decide) (fun _ => ?_) (fun c_ => absurd (by decide +kernel) c_)
  refine lv_iconst (v := 0) hx hb dX10_see_23 (by decide) ?_
  have hP9 := hP.sub (ws' := []) [] rfl
  have hD9 := hD.sub (ws' := []) [] (by decide) rfl
  exact rI () hx hb hr hlk rfl hS rfl hP9 hD9 (Nat.le_of_ble_eq_true rfl) (Nat.le_of_ble_eq_true rfl) dX10_see_24

theorem dX10_post_0 : decode cX10_post 0 = .ok (.aload_n 0, 1) := by decide +kernel
theorem dX10_post_1 : decode cX10_post 1 = .ok (.getfield 35, 3) := by decide +kernel
theorem dX10_post_4 : decode cX10_post 4 = .ok (.iconst 3, 1) := by decide +kernel
theorem dX10_post_5 : decode cX10_post 5 = .ok (.iload_n 1, 1) := by decide +kernel
theorem dX10_post_6 : decode cX10_post 6 = .ok (.invokevirtual 129, 3) := by decide +kernel
theorem dX10_post_9 : decode cX10_post 9 = .ok (.ifCond .eq 12, 3) := by decide +kernel
theorem dX10_post_21 : decode cX10_post 21 = .ok (.iconst (-1), 1) := by decide +kernel
theorem dX10_post_22 : decode cX10_post 22 = .ok (.ireturn, 1) := by decide +kernel
set_option maxHeartbeats 4000000 in
set_option maxRecDepth 100000 in
theorem x_post (l : Launch) (g : va_G) (aC : Nat → ClassId) (aM : Nat → Nat) (h1 h5 h18 : Nat) (x2 x3 x4 x6 x7 x8 x9 x10 x11 x12 x13 x14 x15 x16 x17 x19 x20 x21 x22 x23 x24 x25 x26 x27 x28 x29 : Value) (n_1 n_2 : Int32) : Ct l g aC aM yX10_post cX10_post 7 (some .int) 2 [.ref h1, .int n_1, .int n_2] [(h1, .inr (10, [x2, x3, x4, .ref h5, x6, x7, x8, x9, x10, x11, x12, x13, x14, x15, x16, x17])), (h5, .inr (8, [.ref h18, x19, x20, x21, x22, x23, x24, x25, x26, x27, x28, x29])), (h18, .inl (aC 0, 5, .inl (fun _ => 0)))] (QI g (fun (r : Int32) (_ : Unit) => r = (-1)) (fun (_ : Unit) => [])) 0 0 := by
  refine Ct.mk (by decide) (Nat.le_of_ble_eq_true rfl) ?_
  intro p e s m below meth c A ls hx hb hml hown hts hr hlk hnm hK hA hM hM2 hP hD hS hl
  have hown : s.vm.findClass RX10 = some m.cls := hown
  have F : Fx p s m _ c cX10_post 7 RX10 g aC aM A := ⟨hx, hb, hml, hown, hts, hK, hA, hM, hM2⟩
  have hl : lv_has ls 7 [(0, .ref h1), (1, .int n_1), (2, .int n_2)] := hl
  refine lv_aload_n hx hb dX10_post_0 rfl (lv_at hl 0 rfl) ?_
  refine xget F hP 0 rfl rfl inX10 3 (by decide) tb403 rfl dX10_post_1 ?_
  refine lv_iconst (v := 3) hx hb dX10_post_4 (by decide) ?_
  refine lv_iload_n hx hb dX10_post_5 rfl (lv_at hl 1 rfl) ?_
  refine goI (wr := [(h1, .inr (10, [x2, x3, x4, .ref h5, x6, x7, x8, x9, x10, x11, x12, x13, x14, x15, x16, x17]))]) (runV (n := 2) (As := [.int 3, .int n_1]) (rest := []) F hP hD hS (k_has3 l g aC aM h5 h18 x19 x20 x21 x22 x23 x24 x25 x26 x27 x28 x29 n_1) [1, 2] (by decide) rfl 1 8 rfl rfl rfl tb654 tb761 tb652 tb653 tb9 ⟨by decide, by decide, by decide +kernel⟩ ⟨Nat.le_of_ble_eq_true rfl, Nat.le_of_ble_eq_true rfl⟩ rfl hl.1 rfl (Nat.le_of_ble_eq_true rfl) dX10_post_6 ⟨Nat.le_of_ble_eq_true rfl, Nat.le_of_ble_eq_true rfl⟩) hP hD hS hA [1, 2] [0] rfl rfl (by decide) (by decide) (fun r_2 w3 H locs hw hP hD hS => ?_)
  have hP : va_P g vwCl [(h1, .inr (10, [x2, x3, x4, .ref h5, x6, x7, x8, x9, x10, x11, x12, x13, x14, x15, x16, x17])), (h5, .inr (8, [.ref h18, x19, x20, x21, x22, x23, x24, x25, x26, x27, x28, x29])), (h18, .inl (aC 0, 5, .inl (fun _ => 0)))] H := hP
  have hD : va_D A [(h1, .inr (10, [x2, x3, x4, .ref h5, x6, x7, x8, x9, x10, x11, x12, x13, x14, x15, x16, x17])), (h5, .inr (8, [.ref h18, x19, x20, x21, x22, x23, x24, x25, x26, x27, x28, x29])), (h18, .inl (aC 0, 5, .inl (fun _ => 0)))] := hD
  try dsimp only at hw
  subst hw
  refine lv_if_eq (tgt := 21) hx hb dX10_post_9 (by decide) (fun _ => ?_) (fun c_ => absurd (by decide +kernel) c_)
  refine lv_iconst (v := (-1)) hx hb dX10_post_21 (by decide) ?_
  have hP9 := hP.sub (ws' := []) [] rfl
  have hD9 := hD.sub (ws' := []) [] (by decide) rfl
  exact rI () hx hb hr hlk rfl hS rfl hP9 hD9 (Nat.le_of_ble_eq_true rfl) (Nat.le_of_ble_eq_true rfl) dX10_post_22

theorem dX10_allSeenByTwo_0 : decode cX10_allSeenByTwo 0 = .ok (.iconst 0, 1) := by decide +kernel
theorem dX10_allSeenByTwo_1 : decode cX10_allSeenByTwo 1 = .ok (.istore_n 2, 1) := by decide +kernel
theorem dX10_allSeenByTwo_2 : decode cX10_allSeenByTwo 2 = .ok (.iload_n 2, 1) := by decide +kernel
theorem dX10_allSeenByTwo_3 : decode cX10_allSeenByTwo 3 = .ok (.aload_n 0, 1) := by decide +kernel
theorem dX10_allSeenByTwo_4 : decode cX10_allSeenByTwo 4 = .ok (.getfield 35, 3) := by decide +kernel
theorem dX10_allSeenByTwo_7 : decode cX10_allSeenByTwo 7 = .ok (.getfield 261, 3) := by decide +kernel
theorem dX10_allSeenByTwo_10 : decode cX10_allSeenByTwo 10 = .ok (.iconst 1, 1) := by decide +kernel
theorem dX10_allSeenByTwo_11 : decode cX10_allSeenByTwo 11 = .ok (.iaload, 1) := by decide +kernel
theorem dX10_allSeenByTwo_12 : decode cX10_allSeenByTwo 12 = .ok (.if_icmp .ge 40, 3) := by decide +kernel
theorem dX10_allSeenByTwo_52 : decode cX10_allSeenByTwo 52 = .ok (.iconst 1, 1) := by decide +kernel
theorem dX10_allSeenByTwo_53 : decode cX10_allSeenByTwo 53 = .ok (.ireturn, 1) := by decide +kernel
theorem dX10_watch_0 : decode cX10_watch 0 = .ok (.iconst (-1), 1) := by decide +kernel
theorem dX10_watch_1 : decode cX10_watch 1 = .ok (.istore_n 1, 1) := by decide +kernel
theorem dX10_watch_2 : decode cX10_watch 2 = .ok (.iconst 0, 1) := by decide +kernel
theorem dX10_watch_3 : decode cX10_watch 3 = .ok (.istore_n 2, 1) := by decide +kernel
theorem dX10_watch_4 : decode cX10_watch 4 = .ok (.iload_n 2, 1) := by decide +kernel
theorem dX10_watch_5 : decode cX10_watch 5 = .ok (.iconst 1, 1) := by decide +kernel
theorem dX10_watch_6 : decode cX10_watch 6 = .ok (.aload_n 0, 1) := by decide +kernel
theorem dX10_watch_7 : decode cX10_watch 7 = .ok (.getfield 35, 3) := by decide +kernel
theorem dX10_watch_10 : decode cX10_watch 10 = .ok (.getfield 261, 3) := by decide +kernel
theorem dX10_watch_13 : decode cX10_watch 13 = .ok (.iconst 3, 1) := by decide +kernel
theorem dX10_watch_14 : decode cX10_watch 14 = .ok (.iaload, 1) := by decide +kernel
theorem dX10_watch_15 : decode cX10_watch 15 = .ok (.ishl, 1) := by decide +kernel
theorem dX10_watch_16 : decode cX10_watch 16 = .ok (.if_icmp .ge 45, 3) := by decide +kernel
theorem dX10_watch_19 : decode cX10_watch 19 = .ok (.iload_n 1, 1) := by decide +kernel
theorem dX10_watch_20 : decode cX10_watch 20 = .ok (.iconst (-1), 1) := by decide +kernel
theorem dX10_watch_21 : decode cX10_watch 21 = .ok (.if_icmp .eq 14, 3) := by decide +kernel
theorem dX10_watch_35 : decode cX10_watch 35 = .ok (.iconst 1, 1) := by decide +kernel
theorem dX10_watch_36 : decode cX10_watch 36 = .ok (.goto 4, 3) := by decide +kernel
theorem dX10_watch_40 : decode cX10_watch 40 = .ok (.istore_n 3, 1) := by decide +kernel
theorem dX10_watch_41 : decode cX10_watch 41 = .ok (.iload_n 3, 1) := by decide +kernel
theorem dX10_watch_42 : decode cX10_watch 42 = .ok (.ifCond .eq 13, 3) := by decide +kernel
theorem dX10_watch_45 : decode cX10_watch 45 = .ok (.aload_n 0, 1) := by decide +kernel
theorem dX10_watch_46 : decode cX10_watch 46 = .ok (.iload_n 2, 1) := by decide +kernel
theorem dX10_watch_47 : decode cX10_watch 47 = .ok (.invokevirtual 264, 3) := by decide +kernel
set_option maxHeartbeats 4000000 in
set_option maxRecDepth 100000 in
theorem a_X10_allSeenByTwo_1 (l : Launch) (g : va_G) (aC : Nat → ClassId) (aM : Nat → Nat) (h1 h5 h18 : Nat) (x2 x3 x4 x6 x7 x8 x9 x10 x11 x12 x13 x14 x15 x16 x17 x19 x20 x21 x22 x23 x24 x25 x26 x27 x28 x29 : Value) : Ct l g aC aM yX10_allSeenByTwo cX10_allSeenByTwo 3 (some .boolean) 1 [.ref h1, .int 0] [(h1, .inr (10, [x2, x3, x4, .ref h5, x6, x7, x8, x9, x10, x11, x12, x13, x14, x15, x16, x17])), (h5, .inr (8, [.ref h18, x19, x20, x21, x22, x23, x24, x25, x26, x27, x28, x29])), (h18, .inl (aC 0, 5, .inl (fun _ => 0)))] (QI g (fun (r : Int32) (_ : Unit) => r = 1) (fun (_ : Unit) => [(h1, .inr (10, [x2, x3, x4, .ref h5, x6, x7, x8, x9, x10, x11, x12, x13, x14, x15, x16, x17])), (h5, .inr (8, [.ref h18, x19, x20, x21, x22, x23, x24, x25, x26, x27, x28, x29])), (h18, .inl (aC 0, 5, .inl (fun _ => 0)))])) 0 0 := by
  refine Ct.mk (by decide) (Nat.le_of_ble_eq_true rfl) ?_
  intro p e s m below meth c A ls hx hb hml hown hts hr hlk hnm hK hA hM hM2 hP hD hS hl
  have hown : s.vm.findClass RX10 = some m.cls := hown
  have F : Fx p s m _ c cX10_allSeenByTwo 3 RX10 g aC aM A := ⟨hx, hb, hml, hown, hts, hK, hA, hM, hM2⟩
  have hl : lv_has ls 3 [(0, .ref h1), (1, .int 0)] := hl
  refine lv_iconst (v := 0) hx hb dX10_allSeenByTwo_0 (by decide) ?_
  refine lv_istore_n (lv' := [(2, .int 0), (0, .ref h1), (1, .int 0)]) hx hb dX10_allSeenByTwo_1 rfl hl (by decide) rfl (fun ls hl => ?_)
  refine lv_iload_n hx hb dX10_allSeenByTwo_2 rfl (lv_at hl 0 rfl) ?_
  refine lv_aload_n hx hb dX10_allSeenByTwo_3 rfl (lv_at hl 1 rfl) ?_
  refine xget F hP 0 rfl rfl inX10 3 (by decide) tb403 rfl dX10_allSeenByTwo_4 ?_
  refine xget F hP 1 rfl rfl inX8 0 (by decide) tb231 rfl dX10_allSeenByTwo_7 ?_
  refine lv_iconst (v := 1) hx hb dX10_allSeenByTwo_10 (by decide) ?_
  refine xilo (v := 0) F hP 2 rfl 1 (by decide +kernel) (by decide +kernel) (by decide) (by decide +kernel) dX10_allSeenByTwo_11 ?_
  refine lv_icmp_ge (tgt := 52) hx hb dX10_allSeenByTwo_12 (by decide) (fun _ => ?_) (fun c_ => absurd (by decide +kernel) c_)
  refine lv_iconst (v := 1) hx hb dX10_allSeenByTwo_52 (by decide) ?_
  have hP9 := hP.sub (ws' := [(h1, .inr (10, [x2, x3, x4, .ref h5, x6, x7, x8, x9, x10, x11, x12, x13, x14, x15, x16, x17])), (h5, .inr (8, [.ref h18, x19, x20, x21, x22, x23, x24, x25, x26, x27, x28, x29])), (h18, .inl (aC 0, 5, .inl (fun _ => 0)))]) [0, 1, 2] rfl
  have hD9 := hD.sub (ws' := [(h1, .inr (10, [x2, x3, x4, .ref h5, x6, x7, x8, x9, x10, x11, x12, x13, x14, x15, x16, x17])), (h5, .inr (8, [.ref h18, x19, x20, x21, x22, x23, x24, x25, x26, x27, x28, x29])), (h18, .inl (aC 0, 5, .inl (fun _ => 0)))]) [0, 1, 2] (by decide) rfl
  exact rI () hx hb hr hlk rfl hS rfl hP9 hD9 (Nat.le_of_ble_eq_true rfl) (Nat.le_of_ble_eq_true rfl) dX10_allSeenByTwo_53

theorem tb1017 : (Jvm.Cond.methodLink "StairGang" (264 : Nat) ({ cls := "StairGang", name := "allSeenByTwo", desc := "(I)Z" } : Jvm.MethodName)) ∈ gw := lw_m 1017 (by decide +kernel)
theorem tb1019 : (Jvm.Cond.instanceMethod ({ cls := "StairGang", name := "allSeenByTwo", desc := "(I)Z" } : Jvm.MethodName)) ∈ gw := lw_m 1019 (by decide +kernel)
theorem tb1020 : (Jvm.Cond.code ({ cls := "StairGang", name := "allSeenByTwo", desc := "(I)Z" } : Jvm.MethodName) prog_1_method_36_code (3 : Nat) (Option.some Jvm.ClassFile.FieldType.boolean)) ∈ gw := lw_m 1020 (by decide +kernel)
theorem tv25 : Cond.selects "StairGang" ⟨"StairGang", "allSeenByTwo", "(I)Z"⟩ ⟨"StairGang", "allSeenByTwo", "(I)Z"⟩ ∈ gw := lw_v 25 (by decide +kernel)
theorem dX10_watch_50 : decode cX10_watch 50 = .ok (.ifCond .eq 5, 3) := by decide +kernel
theorem dX10_watch_53 : decode cX10_watch 53 = .ok (.iload_n 2, 1) := by decide +kernel
theorem dX10_watch_54 : decode cX10_watch 54 = .ok (.istore_n 1, 1) := by decide +kernel
theorem dX10_watch_55 : decode cX10_watch 55 = .ok (.iinc 2 1, 3) := by decide +kernel
theorem dX10_watch_58 : decode cX10_watch 58 = .ok (.goto (-54), 3) := by decide +kernel
theorem dX10_watch_61 : decode cX10_watch 61 = .ok (.iload_n 1, 1) := by decide +kernel
theorem dX10_watch_62 : decode cX10_watch 62 = .ok (.ireturn, 1) := by decide +kernel
set_option maxHeartbeats 4000000 in
set_option maxRecDepth 100000 in
theorem x_watch (l : Launch) (g : va_G) (aC : Nat → ClassId) (aM : Nat → Nat) (h1 h5 h18 : Nat) (x2 x3 x4 x6 x7 x8 x9 x10 x11 x12 x13 x14 x15 x16 x17 x19 x20 x21 x22 x23 x24 x25 x26 x27 x28 x29 : Value) : Ct l g aC aM yX10_watch cX10_watch 4 (some .int) 2 [.ref h1] [(h1, .inr (10, [x2, x3, x4, .ref h5, x6, x7, x8, x9, x10, x11, x12, x13, x14, x15, x16, x17])), (h5, .inr (8, [.ref h18, x19, x20, x21, x22, x23, x24, x25, x26, x27, x28, x29])), (h18, .inl (aC 0, 5, .inl (fun _ => 0)))] (QI g (fun (r : Int32) (_ : Unit) => r = 0) (fun (_ : Unit) => [])) 0 0 := by
  refine Ct.mk (by decide) (Nat.le_of_ble_eq_true rfl) ?_
  intro p e s m below meth c A ls hx hb hml hown hts hr hlk hnm hK hA hM hM2 hP hD hS hl
  have hown : s.vm.findClass RX10 = some m.cls := hown
  have F : Fx p s m _ c cX10_watch 4 RX10 g aC aM A := ⟨hx, hb, hml, hown, hts, hK, hA, hM, hM2⟩
  have hl : lv_has ls 4 [(0, .ref h1)] := hl
  refine lv_iconst (v := (-1)) hx hb dX10_watch_0 (by decide) ?_
  refine lv_istore_n (lv' := [(1, .int (-1)), (0, .ref h1)]) hx hb dX10_watch_1 rfl hl (by decide) rfl (fun ls hl => ?_)
  refine lv_iconst (v := 0) hx hb dX10_watch_2 (by decide) ?_
  refine lv_istore_n (lv' := [(2, .int 0), (1, .int (-1)), (0, .ref h1)]) hx hb dX10_watch_3 rfl hl (by decide) rfl (fun ls hl => ?_)
  refine lv_iload_n hx hb dX10_watch_4 rfl (lv_at hl 0 rfl) ?_
  refine lv_iconst (v := 1) hx hb dX10_watch_5 (by decide) ?_
  refine lv_aload_n hx hb dX10_watch_6 rfl (lv_at hl 2 rfl) ?_
  refine xget F hP 0 rfl rfl inX10 3 (by decide) tb403 rfl dX10_watch_7 ?_
  refine xget F hP 1 rfl rfl inX8 0 (by decide) tb231 rfl dX10_watch_10 ?_
  refine lv_iconst (v := 3) hx hb dX10_watch_13 (by decide) ?_
  refine xilo (v := 0) F hP 2 rfl 3 (by decide +kernel) (by decide +kernel) (by decide) (by decide +kernel) dX10_watch_14 ?_
  refine lv_ishl hx hb dX10_watch_15 ?_
  refine relit (v := 1) (by decide +kernel) ?_
  refine lv_icmp_ge (tgt := 61) hx hb dX10_watch_16 (by decide) (fun c_ => absurd c_ (by decide +kernel)) (fun _ => ?_)
  refine lv_iload_n hx hb dX10_watch_19 rfl (lv_at hl 1 rfl) ?_
  refine lv_iconst (v := (-1)) hx hb dX10_watch_20 (by decide) ?_
  refine lv_icmp_eq (tgt := 35) hx hb dX10_watch_21 (by decide) (fun _ => ?_) (fun c_ => absurd (by decide +kernel) c_)
  refine lv_iconst (v := 1) hx hb dX10_watch_35 (by decide) ?_
  refine lv_goto (tgt := 40) hx hb dX10_watch_36 (by decide) ?_
  refine lv_istore_n (lv' := [(3, .int 1), (2, .int 0), (1, .int (-1)), (0, .ref h1)]) hx hb dX10_watch_40 rfl hl (by decide) rfl (fun ls hl => ?_)
  refine lv_iload_n hx hb dX10_watch_41 rfl (lv_at hl 0 rfl) ?_
  refine lv_if_eq (tgt := 55) hx hb dX10_watch_42 (by decide) (fun c_ => absurd c_ (by decide +kernel)) (fun _ => ?_)
  refine lv_aload_n hx hb dX10_watch_45 rfl (lv_at hl 3 rfl) ?_
  refine lv_iload_n hx hb dX10_watch_46 rfl (lv_at hl 1 rfl) ?_
  refine goI (wr := []) (runV (n := 1) (As := [.int 0]) (rest := []) F hP hD hS (a_X10_allSeenByTwo_1 l g aC aM h1 h5 h18 x2 x3 x4 x6 x7 x8 x9 x10 x11 x12 x13 x14 x15 x16 x17 x19 x20 x21 x22 x23 x24 x25 x26 x27 x28 x29) [0, 1, 2] (by decide) rfl 0 10 rfl rfl rfl tb1020 tb1017 tb1019 tv25 tb1 ⟨by decide, by decide, by decide +kernel⟩ ⟨Nat.le_of_ble_eq_true rfl, Nat.le_of_ble_eq_true rfl⟩ rfl hl.1 rfl (Nat.le_of_ble_eq_true rfl) dX10_watch_47 ⟨Nat.le_of_ble_eq_true rfl, Nat.le_of_ble_eq_true rfl⟩) hP hD hS hA [0, 1, 2] [] rfl rfl (by decide) (by decide) (fun r_5 w6 H locs hw hP hD hS => ?_)
  have hP : va_P g vwCl [(h1, .inr (10, [x2, x3, x4, .ref h5, x6, x7, x8, x9, x10, x11, x12, x13, x14, x15, x16, x17])), (h5, .inr (8, [.ref h18, x19, x20, x21, x22, x23, x24, x25, x26, x27, x28, x29])), (h18, .inl (aC 0, 5, .inl (fun _ => 0)))] H := hP
  have hD : va_D A [(h1, .inr (10, [x2, x3, x4, .ref h5, x6, x7, x8, x9, x10, x11, x12, x13, x14, x15, x16, x17])), (h5, .inr (8, [.ref h18, x19, x20, x21, x22, x23, x24, x25, x26, x27, x28, x29])), (h18, .inl (aC 0, 5, .inl (fun _ => 0)))] := hD
  try dsimp only at hw
  subst hw
  refine lv_if_eq (tgt := 55) hx hb dX10_watch_50 (by decide) (fun c_ => absurd c_ (by decide +kernel)) (fun _ => ?_)
  refine lv_iload_n hx hb dX10_watch_53 rfl (lv_at hl 1 rfl) ?_
  refine lv_istore_n (lv' := [(1, .int 0), (3, .int 1), (2, .int 0), (0, .ref h1)]) hx hb dX10_watch_54 rfl hl (by decide) rfl (fun ls hl => ?_)
  refine lv_iinc (v := 1) (lv' := [(2, .int 1), (1, .int 0), (3, .int 1), (0, .ref h1)]) hx hb dX10_watch_55 hl (k := 2) rfl (by decide +kernel) (by decide) rfl (fun ls hl => ?_)
  refine lv_goto (tgt := 4) hx hb dX10_watch_58 (by decide) ?_
  refine lv_iload_n hx hb dX10_watch_4 rfl (lv_at hl 0 rfl) ?_
  refine lv_iconst (v := 1) hx hb dX10_watch_5 (by decide) ?_
  refine lv_aload_n hx hb dX10_watch_6 rfl (lv_at hl 3 rfl) ?_
  refine xget F hP 0 rfl rfl inX10 3 (by decide) tb403 rfl dX10_watch_7 ?_
  refine xget F hP 1 rfl rfl inX8 0 (by decide) tb231 rfl dX10_watch_10 ?_
  refine lv_iconst (v := 3) hx hb dX10_watch_13 (by decide) ?_
  refine xilo (v := 0) F hP 2 rfl 3 (by decide +kernel) (by decide +kernel) (by decide) (by decide +kernel) dX10_watch_14 ?_
  refine lv_ishl hx hb dX10_watch_15 ?_
  refine relit (v := 1) (by decide +kernel) ?_
  refine lv_icmp_ge (tgt := 61) hx hb dX10_watch_16 (by decide) (fun _ => ?_) (fun c_ => absurd (by decide +kernel) c_)
  refine lv_iload_n hx hb dX10_watch_61 rfl (lv_at hl 1 rfl) ?_
  have hP9 := hP.sub (ws' := []) [] rfl
  have hD9 := hD.sub (ws' := []) [] (by decide) rfl
  exact rI () hx hb hr hlk rfl hS rfl hP9 hD9 (Nat.le_of_ble_eq_true rfl) (Nat.le_of_ble_eq_true rfl) dX10_watch_62

theorem dX10_live_0 : decode cX10_live 0 = .ok (.aload_n 0, 1) := by decide +kernel
theorem dX10_live_1 : decode cX10_live 1 = .ok (.getfield 35, 3) := by decide +kernel
theorem dX10_live_4 : decode cX10_live 4 = .ok (.iconst 3, 1) := by decide +kernel
theorem dX10_live_5 : decode cX10_live 5 = .ok (.iload_n 1, 1) := by decide +kernel
theorem dX10_live_6 : decode cX10_live 6 = .ok (.invokevirtual 129, 3) := by decide +kernel
theorem dX10_live_9 : decode cX10_live 9 = .ok (.ifCond .eq 25, 3) := by decide +kernel
theorem dX10_live_34 : decode cX10_live 34 = .ok (.iconst (-1), 1) := by decide +kernel
theorem dX10_live_35 : decode cX10_live 35 = .ok (.ireturn, 1) := by decide +kernel
set_option maxHeartbeats 4000000 in
set_option maxRecDepth 100000 in
theorem x_live (l : Launch) (g : va_G) (aC : Nat → ClassId) (aM : Nat → Nat) (h1 h5 h18 : Nat) (x2 x3 x4 x6 x7 x8 x9 x10 x11 x12 x13 x14 x15 x16 x17 x19 x20 x21 x22 x23 x24 x25 x26 x27 x28 x29 : Value) (n_1 n_2 n_3 : Int32) : Ct l g aC aM yX10_live cX10_live 4 (some .int) 2 [.ref h1, .int n_1, .int n_2, .int n_3] [(h1, .inr (10, [x2, x3, x4, .ref h5, x6, x7, x8, x9, x10, x11, x12, x13, x14, x15, x16, x17])), (h5, .inr (8, [.ref h18, x19, x20, x21, x22, x23, x24, x25, x26, x27, x28, x29])), (h18, .inl (aC 0, 5, .inl (fun _ => 0)))] (QI g (fun (r : Int32) (_ : Unit) => r = (-1)) (fun (_ : Unit) => [])) 0 0 := by
  refine Ct.mk (by decide) (Nat.le_of_ble_eq_true rfl) ?_
  intro p e s m below meth c A ls hx hb hml hown hts hr hlk hnm hK hA hM hM2 hP hD hS hl
  have hown : s.vm.findClass RX10 = some m.cls := hown
  have F : Fx p s m _ c cX10_live 4 RX10 g aC aM A := ⟨hx, hb, hml, hown, hts, hK, hA, hM, hM2⟩
  have hl : lv_has ls 4 [(0, .ref h1), (1, .int n_1), (2, .int n_2), (3, .int n_3)] := hl
  refine lv_aload_n hx hb dX10_live_0 rfl (lv_at hl 0 rfl) ?_
  refine xget F hP 0 rfl rfl inX10 3 (by decide) tb403 rfl dX10_live_1 ?_
  refine lv_iconst (v := 3) hx hb dX10_live_4 (by decide) ?_
  refine lv_iload_n hx hb dX10_live_5 rfl (lv_at hl 1 rfl) ?_
  refine goI (wr := [(h1, .inr (10, [x2, x3, x4, .ref h5, x6, x7, x8, x9, x10, x11, x12, x13, x14, x15, x16, x17]))]) (runV (n := 2) (As := [.int 3, .int n_1]) (rest := []) F hP hD hS (k_has3 l g aC aM h5 h18 x19 x20 x21 x22 x23 x24 x25 x26 x27 x28 x29 n_1) [1, 2] (by decide) rfl 1 8 rfl rfl rfl tb654 tb761 tb652 tb653 tb9 ⟨by decide, by decide, by decide +kernel⟩ ⟨Nat.le_of_ble_eq_true rfl, Nat.le_of_ble_eq_true rfl⟩ rfl hl.1 rfl (Nat.le_of_ble_eq_true rfl) dX10_live_6 ⟨Nat.le_of_ble_eq_true rfl, Nat.le_of_ble_eq_true rfl⟩) hP hD hS hA [1, 2] [0] rfl rfl (by decide) (by decide) (fun r_2 w3 H locs hw hP hD hS => ?_)
  have hP : va_P g vwCl [(h1, .inr (10, [x2, x3, x4, .ref h5, x6, x7, x8, x9, x10, x11, x12, x13, x14, x15, x16, x17])), (h5, .inr (8, [.ref h18, x19, x20, x21, x22, x23, x24, x25, x26, x27, x28, x29])), (h18, .inl (aC 0, 5, .inl (fun _ => 0)))] H := hP
  have hD : va_D A [(h1, .inr (10, [x2, x3, x4, .ref h5, x6, x7, x8, x9, x10, x11, x12, x13, x14, x15, x16, x17])), (h5, .inr (8, [.ref h18, x19, x20, x21, x22, x23, x24, x25, x26, x27, x28, x29])), (h18, .inl (aC 0, 5, .inl (fun _ => 0)))] := hD
  try dsimp only at hw
  subst hw
  refine lv_if_eq (tgt := 34) hx hb dX10_live_9 (by decide) (fun _ => ?_) (fun c_ => absurd (by decide +kernel) c_)
  refine lv_iconst (v := (-1)) hx hb dX10_live_34 (by decide) ?_
  have hP9 := hP.sub (ws' := []) [] rfl
  have hD9 := hD.sub (ws' := []) [] (by decide) rfl
  exact rI () hx hb hr hlk rfl hS rfl hP9 hD9 (Nat.le_of_ble_eq_true rfl) (Nat.le_of_ble_eq_true rfl) dX10_live_35

theorem dX10_best_0 : decode cX10_best 0 = .ok (.aload_n 0, 1) := by decide +kernel
theorem dX10_best_1 : decode cX10_best 1 = .ok (.getfield 35, 3) := by decide +kernel
theorem dX10_best_4 : decode cX10_best 4 = .ok (.iconst 3, 1) := by decide +kernel
theorem dX10_best_5 : decode cX10_best 5 = .ok (.iload_n 1, 1) := by decide +kernel
theorem dX10_best_6 : decode cX10_best 6 = .ok (.invokevirtual 129, 3) := by decide +kernel
theorem dX10_best_9 : decode cX10_best 9 = .ok (.ifCond .eq 14, 3) := by decide +kernel
theorem dX10_best_23 : decode cX10_best 23 = .ok (.iconst (-1), 1) := by decide +kernel
theorem dX10_best_24 : decode cX10_best 24 = .ok (.ireturn, 1) := by decide +kernel
set_option maxHeartbeats 4000000 in
set_option maxRecDepth 100000 in
theorem x_best (l : Launch) (g : va_G) (aC : Nat → ClassId) (aM : Nat → Nat) (h1 h5 h18 : Nat) (x2 x3 x4 x6 x7 x8 x9 x10 x11 x12 x13 x14 x15 x16 x17 x19 x20 x21 x22 x23 x24 x25 x26 x27 x28 x29 : Value) (n_1 n_2 : Int32) : Ct l g aC aM yX10_best cX10_best 8 (some .int) 2 [.ref h1, .int n_1, .int n_2] [(h1, .inr (10, [x2, x3, x4, .ref h5, x6, x7, x8, x9, x10, x11, x12, x13, x14, x15, x16, x17])), (h5, .inr (8, [.ref h18, x19, x20, x21, x22, x23, x24, x25, x26, x27, x28, x29])), (h18, .inl (aC 0, 5, .inl (fun _ => 0)))] (QI g (fun (r : Int32) (_ : Unit) => r = (-1)) (fun (_ : Unit) => [])) 0 0 := by
  refine Ct.mk (by decide) (Nat.le_of_ble_eq_true rfl) ?_
  intro p e s m below meth c A ls hx hb hml hown hts hr hlk hnm hK hA hM hM2 hP hD hS hl
  have hown : s.vm.findClass RX10 = some m.cls := hown
  have F : Fx p s m _ c cX10_best 8 RX10 g aC aM A := ⟨hx, hb, hml, hown, hts, hK, hA, hM, hM2⟩
  have hl : lv_has ls 8 [(0, .ref h1), (1, .int n_1), (2, .int n_2)] := hl
  refine lv_aload_n hx hb dX10_best_0 rfl (lv_at hl 0 rfl) ?_
  refine xget F hP 0 rfl rfl inX10 3 (by decide) tb403 rfl dX10_best_1 ?_
  refine lv_iconst (v := 3) hx hb dX10_best_4 (by decide) ?_
  refine lv_iload_n hx hb dX10_best_5 rfl (lv_at hl 1 rfl) ?_
  refine goI (wr := [(h1, .inr (10, [x2, x3, x4, .ref h5, x6, x7, x8, x9, x10, x11, x12, x13, x14, x15, x16, x17]))]) (runV (n := 2) (As := [.int 3, .int n_1]) (rest := []) F hP hD hS (k_has3 l g aC aM h5 h18 x19 x20 x21 x22 x23 x24 x25 x26 x27 x28 x29 n_1) [1, 2] (by decide) rfl 1 8 rfl rfl rfl tb654 tb761 tb652 tb653 tb9 ⟨by decide, by decide, by decide +kernel⟩ ⟨Nat.le_of_ble_eq_true rfl, Nat.le_of_ble_eq_true rfl⟩ rfl hl.1 rfl (Nat.le_of_ble_eq_true rfl) dX10_best_6 ⟨Nat.le_of_ble_eq_true rfl, Nat.le_of_ble_eq_true rfl⟩) hP hD hS hA [1, 2] [0] rfl rfl (by decide) (by decide) (fun r_2 w3 H locs hw hP hD hS => ?_)
  have hP : va_P g vwCl [(h1, .inr (10, [x2, x3, x4, .ref h5, x6, x7, x8, x9, x10, x11, x12, x13, x14, x15, x16, x17])), (h5, .inr (8, [.ref h18, x19, x20, x21, x22, x23, x24, x25, x26, x27, x28, x29])), (h18, .inl (aC 0, 5, .inl (fun _ => 0)))] H := hP
  have hD : va_D A [(h1, .inr (10, [x2, x3, x4, .ref h5, x6, x7, x8, x9, x10, x11, x12, x13, x14, x15, x16, x17])), (h5, .inr (8, [.ref h18, x19, x20, x21, x22, x23, x24, x25, x26, x27, x28, x29])), (h18, .inl (aC 0, 5, .inl (fun _ => 0)))] := hD
  try dsimp only at hw
  subst hw
  refine lv_if_eq (tgt := 23) hx hb dX10_best_9 (by decide) (fun _ => ?_) (fun c_ => absurd (by decide +kernel) c_)
  refine lv_iconst (v := (-1)) hx hb dX10_best_23 (by decide) ?_
  have hP9 := hP.sub (ws' := []) [] rfl
  have hD9 := hD.sub (ws' := []) [] (by decide) rfl
  exact rI () hx hb hr hlk rfl hS rfl hP9 hD9 (Nat.le_of_ble_eq_true rfl) (Nat.le_of_ble_eq_true rfl) dX10_best_24

theorem tb102 : (Jvm.Cond.fieldLink "StairGang$Tokens" (49 : Nat) "StairGang$Tokens" "length" "I") ∈ gw := lw_m 102 (by decide +kernel)
theorem tb105 : (Jvm.Cond.fieldLink "StairGang$Tokens" (52 : Nat) "StairGang$Tokens" "fault" "I") ∈ gw := lw_m 105 (by decide +kernel)
theorem tb108 : (Jvm.Cond.fieldLink "StairGang$Tokens" (61 : Nat) "StairGang$Tokens" "kind" "I") ∈ gw := lw_m 108 (by decide +kernel)
theorem tb109 : (Jvm.Cond.fieldLink "StairGang$Tokens" (64 : Nat) "StairGang$Tokens" "place" "I") ∈ gw := lw_m 109 (by decide +kernel)
theorem tb110 : (Jvm.Cond.fieldLink "StairGang$Tokens" (55 : Nat) "StairGang$Tokens" "end" "I") ∈ gw := lw_m 110 (by decide +kernel)
theorem tb466 : (Jvm.Cond.methodLink "StairGang$TownReader" (15 : Nat) ({ cls := "StairGang$Town", name := "clear", desc := "()V" } : Jvm.MethodName)) ∈ gw := lw_m 466 (by decide +kernel)
theorem dX10_town_0 : decode cX10_town 0 = .ok (.aload_n 0, 1) := by decide +kernel
theorem dX10_town_1 : decode cX10_town 1 = .ok (.getfield 21, 3) := by decide +kernel
theorem dX10_town_4 : decode cX10_town 4 = .ok (.aload_n 0, 1) := by decide +kernel
theorem dX10_town_5 : decode cX10_town 5 = .ok (.getfield 39, 3) := by decide +kernel
theorem dX10_town_8 : decode cX10_town 8 = .ok (.invokevirtual 103, 3) := by decide +kernel
theorem dX7_begin_0 : decode cX7_begin 0 = .ok (.aload_n 0, 1) := by decide +kernel
theorem dX7_begin_1 : decode cX7_begin 1 = .ok (.iconst 0, 1) := by decide +kernel
theorem dX7_begin_2 : decode cX7_begin 2 = .ok (.putfield 52, 3) := by decide +kernel
theorem dX7_begin_5 : decode cX7_begin 5 = .ok (.aload_n 0, 1) := by decide +kernel
theorem dX7_begin_6 : decode cX7_begin 6 = .ok (.iconst 0, 1) := by decide +kernel
theorem dX7_begin_7 : decode cX7_begin 7 = .ok (.putfield 55, 3) := by decide +kernel
theorem dX7_begin_10 : decode cX7_begin 10 = .ok (.aload_n 0, 1) := by decide +kernel
theorem dX7_begin_11 : decode cX7_begin 11 = .ok (.invokevirtual 58, 3) := by decide +kernel
theorem dX7_next_0 : decode cX7_next 0 = .ok (.aload_n 0, 1) := by decide +kernel
theorem dX7_next_1 : decode cX7_next 1 = .ok (.aload_n 0, 1) := by decide +kernel
theorem dX7_next_2 : decode cX7_next 2 = .ok (.getfield 55, 3) := by decide +kernel
theorem dX7_next_5 : decode cX7_next 5 = .ok (.putfield 64, 3) := by decide +kernel
theorem dX7_next_8 : decode cX7_next 8 = .ok (.aload_n 0, 1) := by decide +kernel
theorem dX7_next_9 : decode cX7_next 9 = .ok (.getfield 64, 3) := by decide +kernel
theorem dX7_next_12 : decode cX7_next 12 = .ok (.aload_n 0, 1) := by decide +kernel
theorem dX7_next_13 : decode cX7_next 13 = .ok (.getfield 49, 3) := by decide +kernel
theorem dX7_next_16 : decode cX7_next 16 = .ok (.if_icmp .ge 44, 3) := by decide +kernel
theorem dX7_next_60 : decode cX7_next 60 = .ok (.aload_n 0, 1) := by decide +kernel
theorem dX7_next_61 : decode cX7_next 61 = .ok (.getfield 64, 3) := by decide +kernel
theorem dX7_next_64 : decode cX7_next 64 = .ok (.aload_n 0, 1) := by decide +kernel
theorem dX7_next_65 : decode cX7_next 65 = .ok (.getfield 49, 3) := by decide +kernel
theorem dX7_next_68 : decode cX7_next 68 = .ok (.if_icmp .lt 19, 3) := by decide +kernel
theorem dX7_next_71 : decode cX7_next 71 = .ok (.aload_n 0, 1) := by decide +kernel
theorem dX7_next_72 : decode cX7_next 72 = .ok (.iconst 1, 1) := by decide +kernel
theorem dX7_next_73 : decode cX7_next 73 = .ok (.putfield 61, 3) := by decide +kernel
theorem dX7_next_76 : decode cX7_next 76 = .ok (.aload_n 0, 1) := by decide +kernel
theorem dX7_next_77 : decode cX7_next 77 = .ok (.aload_n 0, 1) := by decide +kernel
theorem dX7_next_78 : decode cX7_next 78 = .ok (.getfield 64, 3) := by decide +kernel
theorem dX7_next_81 : decode cX7_next 81 = .ok (.putfield 55, 3) := by decide +kernel
theorem dX7_next_84 : decode cX7_next 84 = .ok (.goto 83, 3) := by decide +kernel
theorem dX7_next_167 : decode cX7_next 167 = .ok (.return_, 1) := by decide +kernel
theorem dX9_read_0 : decode cX9_read 0 = .ok (.aload_n 1, 1) := by decide +kernel
theorem dX9_read_1 : decode cX9_read 1 = .ok (.invokevirtual 15, 3) := by decide +kernel
theorem dX9_read_4 : decode cX9_read 4 = .ok (.aload_n 0, 1) := by decide +kernel
theorem dX9_read_5 : decode cX9_read 5 = .ok (.getfield 9, 3) := by decide +kernel
theorem dX9_read_8 : decode cX9_read 8 = .ok (.invokevirtual 20, 3) := by decide +kernel
set_option maxHeartbeats 4000000 in
set_option maxRecDepth 100000 in
theorem a_X7_next_1 (l : Launch) (g : va_G) (aC : Nat → ClassId) (aM : Nat → Nat) (h1 : Nat) (x2 x3 x4 x5 x6 x7 : Value) : Ct l g aC aM yX7_next cX7_next 1 none 1 [.ref h1] [(h1, .inr (7, [.int 0, x2, x3, x4, .int 0, .int 0, .int 0, x5, x6, x7]))] (QV g (fun (_ : Unit) => True) (fun (_ : Unit) => [(h1, .inr (7, [.int 0, x2, x3, x4, .int 1, .int 0, .int 0, x5, x6, x7]))])) 0 0 := by
  refine Ct.mk (by decide) (Nat.le_of_ble_eq_true rfl) ?_
  intro p e s m below meth c A ls hx hb hml hown hts hr hlk hnm hK hA hM hM2 hP hD hS hl
  have hown : s.vm.findClass RX7 = some m.cls := hown
  have F : Fx p s m _ c cX7_next 1 RX7 g aC aM A := ⟨hx, hb, hml, hown, hts, hK, hA, hM, hM2⟩
  have hl : lv_has ls 1 [(0, .ref h1)] := hl
  refine lv_aload_n hx hb dX7_next_0 rfl (lv_at hl 0 rfl) ?_
  refine lv_aload_n hx hb dX7_next_1 rfl (lv_at hl 0 rfl) ?_
  refine xget F hP 0 rfl rfl inX7 6 (by decide) tb110 rfl dX7_next_2 ?_
  refine xput F hP hD hS 0 rfl rfl inX7 tyX7_ok nmX7 5 (by decide) tb109 rfl rfl rfl (Nat.le_of_ble_eq_true rfl) dX7_next_5 (fun H locs hP hD hS => ?_)
  have hP : va_P g vwCl [(h1, .inr (7, [.int 0, x2, x3, x4, .int 0, .int 0, .int 0, x5, x6, x7]))] H := hP
  have hD : va_D A [(h1, .inr (7, [.int 0, x2, x3, x4, .int 0, .int 0, .int 0, x5, x6, x7]))] := hD
  refine lv_aload_n hx hb dX7_next_8 rfl (lv_at hl 0 rfl) ?_
  refine xget F hP 0 rfl rfl inX7 5 (by decide) tb109 rfl dX7_next_9 ?_
  refine lv_aload_n hx hb dX7_next_12 rfl (lv_at hl 0 rfl) ?_
  refine xget F hP 0 rfl rfl inX7 0 (by decide) tb102 rfl dX7_next_13 ?_
  refine lv_icmp_ge (tgt := 60) hx hb dX7_next_16 (by decide) (fun _ => ?_) (fun c_ => absurd (by decide +kernel) c_)
  refine lv_aload_n hx hb dX7_next_60 rfl (lv_at hl 0 rfl) ?_
  refine xget F hP 0 rfl rfl inX7 5 (by decide) tb109 rfl dX7_next_61 ?_
  refine lv_aload_n hx hb dX7_next_64 rfl (lv_at hl 0 rfl) ?_
  refine xget F hP 0 rfl rfl inX7 0 (by decide) tb102 rfl dX7_next_65 ?_
  refine lv_icmp_lt (tgt := 87) hx hb dX7_next_68 (by decide) (fun c_ => absurd c_ (by decide +kernel)) (fun _ => ?_)
  refine lv_aload_n hx hb dX7_next_71 rfl (lv_at hl 0 rfl) ?_
  refine lv_iconst (v := 1) hx hb dX7_next_72 (by decide) ?_
  refine xput F hP hD hS 0 rfl rfl inX7 tyX7_ok nmX7 4 (by decide) tb108 rfl rfl rfl (Nat.le_of_ble_eq_true rfl) dX7_next_73 (fun H locs hP hD hS => ?_)
  have hP : va_P g vwCl [(h1, .inr (7, [.int 0, x2, x3, x4, .int 1, .int 0, .int 0, x5, x6, x7]))] H := hP
  have hD : va_D A [(h1, .inr (7, [.int 0, x2, x3, x4, .int 1, .int 0, .int 0, x5, x6, x7]))] := hD
  refine lv_aload_n hx hb dX7_next_76 rfl (lv_at hl 0 rfl) ?_
  refine lv_aload_n hx hb dX7_next_77 rfl (lv_at hl 0 rfl) ?_
  refine xget F hP 0 rfl rfl inX7 5 (by decide) tb109 rfl dX7_next_78 ?_
  refine xput F hP hD hS 0 rfl rfl inX7 tyX7_ok nmX7 6 (by decide) tb110 rfl rfl rfl (Nat.le_of_ble_eq_true rfl) dX7_next_81 (fun H locs hP hD hS => ?_)
  have hP : va_P g vwCl [(h1, .inr (7, [.int 0, x2, x3, x4, .int 1, .int 0, .int 0, x5, x6, x7]))] H := hP
  have hD : va_D A [(h1, .inr (7, [.int 0, x2, x3, x4, .int 1, .int 0, .int 0, x5, x6, x7]))] := hD
  refine lv_goto (tgt := 167) hx hb dX7_next_84 (by decide) ?_
  have hP9 := hP.sub (ws' := [(h1, .inr (7, [.int 0, x2, x3, x4, .int 1, .int 0, .int 0, x5, x6, x7]))]) [0] rfl
  have hD9 := hD.sub (ws' := [(h1, .inr (7, [.int 0, x2, x3, x4, .int 1, .int 0, .int 0, x5, x6, x7]))]) [0] (by decide) rfl
  exact rV () hx hb hr hlk hS trivial hP9 hD9 (Nat.le_of_ble_eq_true rfl) (Nat.le_of_ble_eq_true rfl) dX7_next_167

theorem tb471 : (Jvm.Cond.methodLink "StairGang$Tokens" (58 : Nat) ({ cls := "StairGang$Tokens", name := "next", desc := "()V" } : Jvm.MethodName)) ∈ gw := lw_m 471 (by decide +kernel)
theorem tb472 : (Jvm.Cond.instanceMethod ({ cls := "StairGang$Tokens", name := "next", desc := "()V" } : Jvm.MethodName)) ∈ gw := lw_m 472 (by decide +kernel)
theorem tb473 : (Jvm.Cond.selects "StairGang$Tokens" ({ cls := "StairGang$Tokens", name := "next", desc := "()V" } : Jvm.MethodName) ({ cls := "StairGang$Tokens", name := "next", desc := "()V" } : Jvm.MethodName)) ∈ gw := lw_m 473 (by decide +kernel)
theorem tb474 : (Jvm.Cond.code ({ cls := "StairGang$Tokens", name := "next", desc := "()V" } : Jvm.MethodName) prog_9_method_10_code (1 : Nat) (Option.none : Option Jvm.ClassFile.FieldType)) ∈ gw := lw_m 474 (by decide +kernel)
theorem dX7_begin_14 : decode cX7_begin 14 = .ok (.return_, 1) := by decide +kernel
set_option maxHeartbeats 4000000 in
set_option maxRecDepth 100000 in
theorem a_X7_begin_1 (l : Launch) (g : va_G) (aC : Nat → ClassId) (aM : Nat → Nat) (h1 : Nat) (x2 x3 x4 x5 x6 : Value) : Ct l g aC aM yX7_begin cX7_begin 1 none 2 [.ref h1] [(h1, .inr (7, [.int 0, .int 0, x2, x3, .int 0, .int 0, .int 0, x4, x5, x6]))] (QV g (fun (_ : Unit) => True) (fun (_ : Unit) => [(h1, .inr (7, [.int 0, .int 0, x2, x3, .int 1, .int 0, .int 0, x4, x5, x6]))])) 0 0 := by
  refine Ct.mk (by decide) (Nat.le_of_ble_eq_true rfl) ?_
  intro p e s m below meth c A ls hx hb hml hown hts hr hlk hnm hK hA hM hM2 hP hD hS hl
  have hown : s.vm.findClass RX7 = some m.cls := hown
  have F : Fx p s m _ c cX7_begin 1 RX7 g aC aM A := ⟨hx, hb, hml, hown, hts, hK, hA, hM, hM2⟩
  have hl : lv_has ls 1 [(0, .ref h1)] := hl
  refine lv_aload_n hx hb dX7_begin_0 rfl (lv_at hl 0 rfl) ?_
  refine lv_iconst (v := 0) hx hb dX7_begin_1 (by decide) ?_
  refine xput F hP hD hS 0 rfl rfl inX7 tyX7_ok nmX7 1 (by decide) tb105 rfl rfl rfl (Nat.le_of_ble_eq_true rfl) dX7_begin_2 (fun H locs hP hD hS => ?_)
  have hP : va_P g vwCl [(h1, .inr (7, [.int 0, .int 0, x2, x3, .int 0, .int 0, .int 0, x4, x5, x6]))] H := hP
  have hD : va_D A [(h1, .inr (7, [.int 0, .int 0, x2, x3, .int 0, .int 0, .int 0, x4, x5, x6]))] := hD
  refine lv_aload_n hx hb dX7_begin_5 rfl (lv_at hl 0 rfl) ?_
  refine lv_iconst (v := 0) hx hb dX7_begin_6 (by decide) ?_
  refine xput F hP hD hS 0 rfl rfl inX7 tyX7_ok nmX7 6 (by decide) tb110 rfl rfl rfl (Nat.le_of_ble_eq_true rfl) dX7_begin_7 (fun H locs hP hD hS => ?_)
  have hP : va_P g vwCl [(h1, .inr (7, [.int 0, .int 0, x2, x3, .int 0, .int 0, .int 0, x4, x5, x6]))] H := hP
  have hD : va_D A [(h1, .inr (7, [.int 0, .int 0, x2, x3, .int 0, .int 0, .int 0, x4, x5, x6]))] := hD
  refine lv_aload_n hx hb dX7_begin_10 rfl (lv_at hl 0 rfl) ?_
  refine goV (wr := []) (runV (n := 0) (As := []) (rest := []) F hP hD hS (a_X7_next_1 l g aC aM h1 (.int 0) x2 x3 x4 x5 x6) [0] (by decide) rfl 0 7 rfl rfl rfl tb474 tb471 tb472 tb473 tb2 ⟨by decide, by decide, by decide +kernel⟩ ⟨Nat.le_of_ble_eq_true rfl, Nat.le_of_ble_eq_true rfl⟩ rfl hl.1 rfl (Nat.le_of_ble_eq_true rfl) dX7_begin_11 ⟨Nat.le_of_ble_eq_true rfl, Nat.le_of_ble_eq_true rfl⟩) hP hD hS hA [0] [] rfl rfl (by decide) (by decide) (fun w3 H locs hw hP hD hS => ?_)
  have hP : va_P g vwCl [(h1, .inr (7, [.int 0, .int 0, x2, x3, .int 1, .int 0, .int 0, x4, x5, x6]))] H := hP
  have hD : va_D A [(h1, .inr (7, [.int 0, .int 0, x2, x3, .int 1, .int 0, .int 0, x4, x5, x6]))] := hD
  have hP9 := hP.sub (ws' := [(h1, .inr (7, [.int 0, .int 0, x2, x3, .int 1, .int 0, .int 0, x4, x5, x6]))]) [0] rfl
  have hD9 := hD.sub (ws' := [(h1, .inr (7, [.int 0, .int 0, x2, x3, .int 1, .int 0, .int 0, x4, x5, x6]))]) [0] (by decide) rfl
  exact rV () hx hb hr hlk hS trivial hP9 hD9 (Nat.le_of_ble_eq_true rfl) (Nat.le_of_ble_eq_true rfl) dX7_begin_14

theorem tb467 : (Jvm.Cond.methodLink "StairGang$TownReader" (20 : Nat) ({ cls := "StairGang$Tokens", name := "begin", desc := "()V" } : Jvm.MethodName)) ∈ gw := lw_m 467 (by decide +kernel)
theorem tb468 : (Jvm.Cond.instanceMethod ({ cls := "StairGang$Tokens", name := "begin", desc := "()V" } : Jvm.MethodName)) ∈ gw := lw_m 468 (by decide +kernel)
theorem tb469 : (Jvm.Cond.selects "StairGang$Tokens" ({ cls := "StairGang$Tokens", name := "begin", desc := "()V" } : Jvm.MethodName) ({ cls := "StairGang$Tokens", name := "begin", desc := "()V" } : Jvm.MethodName)) ∈ gw := lw_m 469 (by decide +kernel)
theorem tb470 : (Jvm.Cond.code ({ cls := "StairGang$Tokens", name := "begin", desc := "()V" } : Jvm.MethodName) prog_9_method_7_code (1 : Nat) (Option.none : Option Jvm.ClassFile.FieldType)) ∈ gw := lw_m 470 (by decide +kernel)
theorem dX7_hasMore_0 : decode cX7_hasMore 0 = .ok (.aload_n 0, 1) := by decide +kernel
theorem dX7_hasMore_1 : decode cX7_hasMore 1 = .ok (.getfield 52, 3) := by decide +kernel
theorem dX7_hasMore_4 : decode cX7_hasMore 4 = .ok (.ifCond .ne 15, 3) := by decide +kernel
theorem dX7_hasMore_7 : decode cX7_hasMore 7 = .ok (.aload_n 0, 1) := by decide +kernel
theorem dX7_hasMore_8 : decode cX7_hasMore 8 = .ok (.getfield 61, 3) := by decide +kernel
theorem dX7_hasMore_11 : decode cX7_hasMore 11 = .ok (.iconst 1, 1) := by decide +kernel
theorem dX7_hasMore_12 : decode cX7_hasMore 12 = .ok (.if_icmp .eq 7, 3) := by decide +kernel
theorem dX7_hasMore_19 : decode cX7_hasMore 19 = .ok (.iconst 0, 1) := by decide +kernel
theorem dX7_hasMore_20 : decode cX7_hasMore 20 = .ok (.ireturn, 1) := by decide +kernel
theorem dX9_read_11 : decode cX9_read 11 = .ok (.iconst 0, 1) := by decide +kernel
theorem dX9_read_12 : decode cX9_read 12 = .ok (.istore_n 2, 1) := by decide +kernel
theorem dX9_read_13 : decode cX9_read 13 = .ok (.iload_n 2, 1) := by decide +kernel
theorem dX9_read_14 : decode cX9_read 14 = .ok (.sipush 1000, 3) := by decide +kernel
theorem dX9_read_17 : decode cX9_read 17 = .ok (.if_icmp .ge 280, 3) := by decide +kernel
theorem dX9_read_20 : decode cX9_read 20 = .ok (.aload_n 0, 1) := by decide +kernel
theorem dX9_read_21 : decode cX9_read 21 = .ok (.getfield 9, 3) := by decide +kernel
theorem dX9_read_24 : decode cX9_read 24 = .ok (.invokevirtual 25, 3) := by decide +kernel
set_option maxHeartbeats 4000000 in
set_option maxRecDepth 100000 in
theorem a_X7_hasMore_1 (l : Launch) (g : va_G) (aC : Nat → ClassId) (aM : Nat → Nat) (h1 : Nat) (x2 x3 x4 x5 x6 x7 x8 x9 : Value) : Ct l g aC aM yX7_hasMore cX7_hasMore 1 (some .boolean) 1 [.ref h1] [(h1, .inr (7, [x2, .int 0, x3, x4, .int 1, x5, x6, x7, x8, x9]))] (QI g (fun (r : Int32) (_ : Unit) => r = 0) (fun (_ : Unit) => [(h1, .inr (7, [x2, .int 0, x3, x4, .int 1, x5, x6, x7, x8, x9]))])) 0 0 := by
  refine Ct.mk (by decide) (Nat.le_of_ble_eq_true rfl) ?_
  intro p e s m below meth c A ls hx hb hml hown hts hr hlk hnm hK hA hM hM2 hP hD hS hl
  have hown : s.vm.findClass RX7 = some m.cls := hown
  have F : Fx p s m _ c cX7_hasMore 1 RX7 g aC aM A := ⟨hx, hb, hml, hown, hts, hK, hA, hM, hM2⟩
  have hl : lv_has ls 1 [(0, .ref h1)] := hl
  refine lv_aload_n hx hb dX7_hasMore_0 rfl (lv_at hl 0 rfl) ?_
  refine xget F hP 0 rfl rfl inX7 1 (by decide) tb105 rfl dX7_hasMore_1 ?_
  refine lv_if_ne (tgt := 19) hx hb dX7_hasMore_4 (by decide) (fun c_ => absurd (by decide +kernel) c_) (fun _ => ?_)
  refine lv_aload_n hx hb dX7_hasMore_7 rfl (lv_at hl 0 rfl) ?_
  refine xget F hP 0 rfl rfl inX7 4 (by decide) tb108 rfl dX7_hasMore_8 ?_
  refine lv_iconst (v := 1) hx hb dX7_hasMore_11 (by decide) ?_
  refine lv_icmp_eq (tgt := 19) hx hb dX7_hasMore_12 (by decide) (fun _ => ?_) (fun c_ => absurd (by decide +kernel) c_)
  refine lv_iconst (v := 0) hx hb dX7_hasMore_19 (by decide) ?_
  have hP9 := hP.sub (ws' := [(h1, .inr (7, [x2, .int 0, x3, x4, .int 1, x5, x6, x7, x8, x9]))]) [0] rfl
  have hD9 := hD.sub (ws' := [(h1, .inr (7, [x2, .int 0, x3, x4, .int 1, x5, x6, x7, x8, x9]))]) [0] (by decide) rfl
  exact rI () hx hb hr hlk rfl hS rfl hP9 hD9 (Nat.le_of_ble_eq_true rfl) (Nat.le_of_ble_eq_true rfl) dX7_hasMore_20

theorem tb104 : (Jvm.Cond.fieldLink "StairGang$TownReader" (88 : Nat) "StairGang$Tokens" "fault" "I") ∈ gw := lw_m 104 (by decide +kernel)
theorem tb546 : (Jvm.Cond.methodLink "StairGang$TownReader" (25 : Nat) ({ cls := "StairGang$Tokens", name := "hasMore", desc := "()Z" } : Jvm.MethodName)) ∈ gw := lw_m 546 (by decide +kernel)
theorem tb547 : (Jvm.Cond.instanceMethod ({ cls := "StairGang$Tokens", name := "hasMore", desc := "()Z" } : Jvm.MethodName)) ∈ gw := lw_m 547 (by decide +kernel)
theorem tb548 : (Jvm.Cond.selects "StairGang$Tokens" ({ cls := "StairGang$Tokens", name := "hasMore", desc := "()Z" } : Jvm.MethodName) ({ cls := "StairGang$Tokens", name := "hasMore", desc := "()Z" } : Jvm.MethodName)) ∈ gw := lw_m 548 (by decide +kernel)
theorem tb549 : (Jvm.Cond.code ({ cls := "StairGang$Tokens", name := "hasMore", desc := "()Z" } : Jvm.MethodName) prog_9_method_8_code (1 : Nat) (Option.some Jvm.ClassFile.FieldType.boolean)) ∈ gw := lw_m 549 (by decide +kernel)
theorem tb707 : (Jvm.Cond.methodLink "StairGang$TownReader" (85 : Nat) ({ cls := "StairGang$Town", name := "close", desc := "()V" } : Jvm.MethodName)) ∈ gw := lw_m 707 (by decide +kernel)
theorem dX9_read_27 : decode cX9_read 27 = .ok (.ifCond .eq 270, 3) := by decide +kernel
theorem dX9_read_297 : decode cX9_read 297 = .ok (.aload_n 1, 1) := by decide +kernel
theorem dX9_read_298 : decode cX9_read 298 = .ok (.invokevirtual 85, 3) := by decide +kernel
theorem dX9_read_301 : decode cX9_read 301 = .ok (.aload_n 0, 1) := by decide +kernel
theorem dX9_read_302 : decode cX9_read 302 = .ok (.getfield 9, 3) := by decide +kernel
theorem dX9_read_305 : decode cX9_read 305 = .ok (.getfield 88, 3) := by decide +kernel
theorem dX9_read_308 : decode cX9_read 308 = .ok (.ireturn, 1) := by decide +kernel
set_option maxHeartbeats 4000000 in
set_option maxRecDepth 100000 in
theorem a_X9_read_1 (l : Launch) (g : va_G) (aC : Nat → ClassId) (aM : Nat → Nat) (h1 h2 h3 h9 h14 h15 h17 h19 : Nat) (x4 x5 x6 x7 x8 x10 x11 x12 x13 x16 x18 x20 : Value) (F21 F22 : Nat → Int32) : Ct l g aC aM yX9_read cX9_read 3 (some .int) 4 [.ref h1, .ref h2] [(h3, .inr (7, [.int 0, .int 0, x4, x5, .int 0, .int 0, .int 0, x6, x7, x8])), (h1, .inr (9, [.ref h3])), (h2, .inr (8, [.ref h9, x10, x11, x12, x13, .int 0, .int 5, .ref h14, .ref h15, x16, .ref h17, x18])), (h9, .inl (aC 0, 5, .inl (fun _ => 0))), (h14, .inr (4, [.ref h19, .int 1, x20])), (h19, .inl (aC 0, 1000, .inl F21)), (h15, .inl (aC 1, 25, .inr (.inl (fun _ => 0)))), (h17, .inl (aC 0, 30, .inl F22))] (QI g (fun (r : Int32) (u : (Nat → Int32) × (Nat → Int32)) => r = 0) (fun (u : (Nat → Int32) × (Nat → Int32)) => [(h1, .inr (9, [.ref h3])), (h15, .inl (aC 1, 25, .inr (.inl (fun _ => 0)))), (h17, .inl (aC 0, 30, .inl u.1)), (h3, .inr (7, [.int 0, .int 0, x4, x5, .int 1, .int 0, .int 0, x6, x7, x8])), (h2, .inr (8, [.ref h9, x10, x11, x12, x13, .int 0, .int 5, .ref h14, .ref h15, x16, .ref h17, x18])), (h9, .inl (aC 0, 5, .inl (fun _ => 0))), (h14, .inr (4, [.ref h19, .int 1, x20])), (h19, .inl (aC 0, 1000, .inl u.2))])) 0 0 := by
  refine Ct.mk (by decide) (Nat.le_of_ble_eq_true rfl) ?_
  intro p e s m below meth c A ls hx hb hml hown hts hr hlk hnm hK hA hM hM2 hP hD hS hl
  have hown : s.vm.findClass RX9 = some m.cls := hown
  have F : Fx p s m _ c cX9_read 3 RX9 g aC aM A := ⟨hx, hb, hml, hown, hts, hK, hA, hM, hM2⟩
  have hl : lv_has ls 3 [(0, .ref h1), (1, .ref h2)] := hl
  refine lv_aload_n hx hb dX9_read_0 rfl (lv_at hl 1 rfl) ?_
  refine goV (wr := [(h3, .inr (7, [.int 0, .int 0, x4, x5, .int 0, .int 0, .int 0, x6, x7, x8])), (h1, .inr (9, [.ref h3])), (h19, .inl (aC 0, 1000, .inl F21))]) (runV (n := 0) (As := []) (rest := []) F hP hD hS (k_Town_clear l g aC aM h2 h9 h14 h15 h17 x10 x11 x12 x13 x16 x18 (.ref h19) x20 0 5 1 F22) [2, 3, 4, 6, 7] (by decide) rfl 2 8 rfl rfl rfl tb196 tb466 tb194 tb195 tb9 ⟨by decide, by decide, by decide +kernel⟩ ⟨Nat.le_of_ble_eq_true rfl, Nat.le_of_ble_eq_true rfl⟩ rfl hl.1 rfl (Nat.le_of_ble_eq_true rfl) dX9_read_1 ⟨Nat.le_of_ble_eq_true rfl, Nat.le_of_ble_eq_true rfl⟩) hP hD hS hA [2, 3, 4, 6, 7] [0, 1, 5] rfl rfl (by decide) (by decide) (fun w4 H locs hw hP hD hS => ?_)
  obtain ⟨u1, rfl⟩ : ∃ z_, z_ = w4 := ⟨_, rfl⟩
  have hP : va_P g vwCl [(h3, .inr (7, [.int 0, .int 0, x4, x5, .int 0, .int 0, .int 0, x6, x7, x8])), (h1, .inr (9, [.ref h3])), (h19, .inl (aC 0, 1000, .inl F21)), (h2, .inr (8, [.ref h9, x10, x11, x12, x13, .int (-1), .int (-1), .ref h14, .ref h15, x16, .ref h17, x18])), (h9, .inl (aC 0, 5, .inl (fun _ => 0))), (h14, .inr (4, [.ref h19, .int 0, x20])), (h15, .inl (aC 1, 25, .inr (.inl (fun _ => 0)))), (h17, .inl (aC 0, 30, .inl u1))] H := hP
  have hD : va_D A [(h3, .inr (7, [.int 0, .int 0, x4, x5, .int 0, .int 0, .int 0, x6, x7, x8])), (h1, .inr (9, [.ref h3])), (h19, .inl (aC 0, 1000, .inl F21)), (h2, .inr (8, [.ref h9, x10, x11, x12, x13, .int (-1), .int (-1), .ref h14, .ref h15, x16, .ref h17, x18])), (h9, .inl (aC 0, 5, .inl (fun _ => 0))), (h14, .inr (4, [.ref h19, .int 0, x20])), (h15, .inl (aC 1, 25, .inr (.inl (fun _ => 0)))), (h17, .inl (aC 0, 30, .inl u1))] := hD
  refine lv_aload_n hx hb dX9_read_4 rfl (lv_at hl 0 rfl) ?_
  refine xget F hP 1 rfl rfl inX9 0 (by decide) tb144 rfl dX9_read_5 ?_
  refine goV (wr := [(h1, .inr (9, [.ref h3])), (h19, .inl (aC 0, 1000, .inl F21)), (h2, .inr (8, [.ref h9, x10, x11, x12, x13, .int (-1), .int (-1), .ref h14, .ref h15, x16, .ref h17, x18])), (h9, .inl (aC 0, 5, .inl (fun _ => 0))), (h14, .inr (4, [.ref h19, .int 0, x20])), (h15, .inl (aC 1, 25, .inr (.inl (fun _ => 0)))), (h17, .inl (aC 0, 30, .inl u1))]) (runV (n := 0) (As := []) (rest := []) F hP hD hS (a_X7_begin_1 l g aC aM h3 x4 x5 x6 x7 x8) [0] (by decide) rfl 0 7 rfl rfl rfl tb470 tb467 tb468 tb469 tb2 ⟨by decide, by decide, by decide +kernel⟩ ⟨Nat.le_of_ble_eq_true rfl, Nat.le_of_ble_eq_true rfl⟩ rfl hl.1 rfl (Nat.le_of_ble_eq_true rfl) dX9_read_8 ⟨Nat.le_of_ble_eq_true rfl, Nat.le_of_ble_eq_true rfl⟩) hP hD hS hA [0] [1, 2, 3, 4, 5, 6, 7] rfl rfl (by decide) (by decide) (fun w7 H locs hw hP hD hS => ?_)
  have hP : va_P g vwCl [(h1, .inr (9, [.ref h3])), (h19, .inl (aC 0, 1000, .inl F21)), (h2, .inr (8, [.ref h9, x10, x11, x12, x13, .int (-1), .int (-1), .ref h14, .ref h15, x16, .ref h17, x18])), (h9, .inl (aC 0, 5, .inl (fun _ => 0))), (h14, .inr (4, [.ref h19, .int 0, x20])), (h15, .inl (aC 1, 25, .inr (.inl (fun _ => 0)))), (h17, .inl (aC 0, 30, .inl u1)), (h3, .inr (7, [.int 0, .int 0, x4, x5, .int 1, .int 0, .int 0, x6, x7, x8]))] H := hP
  have hD : va_D A [(h1, .inr (9, [.ref h3])), (h19, .inl (aC 0, 1000, .inl F21)), (h2, .inr (8, [.ref h9, x10, x11, x12, x13, .int (-1), .int (-1), .ref h14, .ref h15, x16, .ref h17, x18])), (h9, .inl (aC 0, 5, .inl (fun _ => 0))), (h14, .inr (4, [.ref h19, .int 0, x20])), (h15, .inl (aC 1, 25, .inr (.inl (fun _ => 0)))), (h17, .inl (aC 0, 30, .inl u1)), (h3, .inr (7, [.int 0, .int 0, x4, x5, .int 1, .int 0, .int 0, x6, x7, x8]))] := hD
  refine lv_iconst (v := 0) hx hb dX9_read_11 (by decide) ?_
  refine lv_istore_n (lv' := [(2, .int 0), (0, .ref h1), (1, .ref h2)]) hx hb dX9_read_12 rfl hl (by decide) rfl (fun ls hl => ?_)
  refine lv_iload_n hx hb dX9_read_13 rfl (lv_at hl 0 rfl) ?_
  refine lv_sipush (v := 1000) hx hb dX9_read_14 (by decide) ?_
  refine lv_icmp_ge (tgt := 297) hx hb dX9_read_17 (by decide) (fun c_ => absurd c_ (by decide +kernel)) (fun _ => ?_)
  refine lv_aload_n hx hb dX9_read_20 rfl (lv_at hl 1 rfl) ?_
  refine xget F hP 0 rfl rfl inX9 0 (by decide) tb144 rfl dX9_read_21 ?_
  refine goI (wr := [(h1, .inr (9, [.ref h3])), (h19, .inl (aC 0, 1000, .inl F21)), (h2, .inr (8, [.ref h9, x10, x11, x12, x13, .int (-1), .int (-1), .ref h14, .ref h15, x16, .ref h17, x18])), (h9, .inl (aC 0, 5, .inl (fun _ => 0))), (h14, .inr (4, [.ref h19, .int 0, x20])), (h15, .inl (aC 1, 25, .inr (.inl (fun _ => 0)))), (h17, .inl (aC 0, 30, .inl u1))]) (runV (n := 0) (As := []) (rest := []) F hP hD hS (a_X7_hasMore_1 l g aC aM h3 (.int 0) x4 x5 (.int 0) (.int 0) x6 x7 x8) [7] (by decide) rfl 7 7 rfl rfl rfl tb549 tb546 tb547 tb548 tb2 ⟨by decide, by decide, by decide +kernel⟩ ⟨Nat.le_of_ble_eq_true rfl, Nat.le_of_ble_eq_true rfl⟩ rfl hl.1 rfl (Nat.le_of_ble_eq_true rfl) dX9_read_24 ⟨Nat.le_of_ble_eq_true rfl, Nat.le_of_ble_eq_true rfl⟩) hP hD hS hA [7] [0, 1, 2, 3, 4, 5, 6] rfl rfl (by decide) (by decide) (fun r_10 w11 H locs hw hP hD hS => ?_)
  have hP : va_P g vwCl [(h1, .inr (9, [.ref h3])), (h19, .inl (aC 0, 1000, .inl F21)), (h2, .inr (8, [.ref h9, x10, x11, x12, x13, .int (-1), .int (-1), .ref h14, .ref h15, x16, .ref h17, x18])), (h9, .inl (aC 0, 5, .inl (fun _ => 0))), (h14, .inr (4, [.ref h19, .int 0, x20])), (h15, .inl (aC 1, 25, .inr (.inl (fun _ => 0)))), (h17, .inl (aC 0, 30, .inl u1)), (h3, .inr (7, [.int 0, .int 0, x4, x5, .int 1, .int 0, .int 0, x6, x7, x8]))] H := hP
  have hD : va_D A [(h1, .inr (9, [.ref h3])), (h19, .inl (aC 0, 1000, .inl F21)), (h2, .inr (8, [.ref h9, x10, x11, x12, x13, .int (-1), .int (-1), .ref h14, .ref h15, x16, .ref h17, x18])), (h9, .inl (aC 0, 5, .inl (fun _ => 0))), (h14, .inr (4, [.ref h19, .int 0, x20])), (h15, .inl (aC 1, 25, .inr (.inl (fun _ => 0)))), (h17, .inl (aC 0, 30, .inl u1)), (h3, .inr (7, [.int 0, .int 0, x4, x5, .int 1, .int 0, .int 0, x6, x7, x8]))] := hD
  try dsimp only at hw
  subst hw
  refine lv_if_eq (tgt := 297) hx hb dX9_read_27 (by decide) (fun _ => ?_) (fun c_ => absurd (by decide +kernel) c_)
  refine lv_aload_n hx hb dX9_read_297 rfl (lv_at hl 2 rfl) ?_
  refine goV (wr := [(h1, .inr (9, [.ref h3])), (h15, .inl (aC 1, 25, .inr (.inl (fun _ => 0)))), (h17, .inl (aC 0, 30, .inl u1)), (h3, .inr (7, [.int 0, .int 0, x4, x5, .int 1, .int 0, .int 0, x6, x7, x8]))]) (runV (n := 0) (As := []) (rest := []) F hP hD hS (k_Town_close l g aC aM h2 h9 h14 h19 x10 x11 x12 x13 x16 x18 x20 (.ref h15) (.ref h17) F21) [2, 3, 4, 1] (by decide) rfl 2 8 rfl rfl rfl tb210 tb707 tb208 tb209 tb9 ⟨by decide, by decide, by decide +kernel⟩ ⟨Nat.le_of_ble_eq_true rfl, Nat.le_of_ble_eq_true rfl⟩ rfl hl.1 rfl (Nat.le_of_ble_eq_true rfl) dX9_read_298 ⟨Nat.le_of_ble_eq_true rfl, Nat.le_of_ble_eq_true rfl⟩) hP hD hS hA [2, 3, 4, 1] [0, 5, 6, 7] rfl rfl (by decide) (by decide) (fun w16 H locs hw hP hD hS => ?_)
  obtain ⟨u13, rfl⟩ : ∃ z_, z_ = w16 := ⟨_, rfl⟩
  have hP : va_P g vwCl [(h1, .inr (9, [.ref h3])), (h15, .inl (aC 1, 25, .inr (.inl (fun _ => 0)))), (h17, .inl (aC 0, 30, .inl u1)), (h3, .inr (7, [.int 0, .int 0, x4, x5, .int 1, .int 0, .int 0, x6, x7, x8])), (h2, .inr (8, [.ref h9, x10, x11, x12, x13, .int 0, .int 5, .ref h14, .ref h15, x16, .ref h17, x18])), (h9, .inl (aC 0, 5, .inl (fun _ => 0))), (h14, .inr (4, [.ref h19, .int 1, x20])), (h19, .inl (aC 0, 1000, .inl u13))] H := hP
  have hD : va_D A [(h1, .inr (9, [.ref h3])), (h15, .inl (aC 1, 25, .inr (.inl (fun _ => 0)))), (h17, .inl (aC 0, 30, .inl u1)), (h3, .inr (7, [.int 0, .int 0, x4, x5, .int 1, .int 0, .int 0, x6, x7, x8])), (h2, .inr (8, [.ref h9, x10, x11, x12, x13, .int 0, .int 5, .ref h14, .ref h15, x16, .ref h17, x18])), (h9, .inl (aC 0, 5, .inl (fun _ => 0))), (h14, .inr (4, [.ref h19, .int 1, x20])), (h19, .inl (aC 0, 1000, .inl u13))] := hD
  refine lv_aload_n hx hb dX9_read_301 rfl (lv_at hl 1 rfl) ?_
  refine xget F hP 0 rfl rfl inX9 0 (by decide) tb144 rfl dX9_read_302 ?_
  refine xget F hP 3 rfl rfl inX7 1 (by decide) tb104 rfl dX9_read_305 ?_
  have hP9 := hP.sub (ws' := [(h1, .inr (9, [.ref h3])), (h15, .inl (aC 1, 25, .inr (.inl (fun _ => 0)))), (h17, .inl (aC 0, 30, .inl u1)), (h3, .inr (7, [.int 0, .int 0, x4, x5, .int 1, .int 0, .int 0, x6, x7, x8])), (h2, .inr (8, [.ref h9, x10, x11, x12, x13, .int 0, .int 5, .ref h14, .ref h15, x16, .ref h17, x18])), (h9, .inl (aC 0, 5, .inl (fun _ => 0))), (h14, .inr (4, [.ref h19, .int 1, x20])), (h19, .inl (aC 0, 1000, .inl u13))]) [0, 1, 2, 3, 4, 5, 6, 7] rfl
  have hD9 := hD.sub (ws' := [(h1, .inr (9, [.ref h3])), (h15, .inl (aC 1, 25, .inr (.inl (fun _ => 0)))), (h17, .inl (aC 0, 30, .inl u1)), (h3, .inr (7, [.int 0, .int 0, x4, x5, .int 1, .int 0, .int 0, x6, x7, x8])), (h2, .inr (8, [.ref h9, x10, x11, x12, x13, .int 0, .int 5, .ref h14, .ref h15, x16, .ref h17, x18])), (h9, .inl (aC 0, 5, .inl (fun _ => 0))), (h14, .inr (4, [.ref h19, .int 1, x20])), (h19, .inl (aC 0, 1000, .inl u13))]) [0, 1, 2, 3, 4, 5, 6, 7] (by decide) rfl
  exact rI (u1, u13) hx hb hr hlk rfl hS rfl hP9 hD9 (Nat.le_of_ble_eq_true rfl) (Nat.le_of_ble_eq_true rfl) dX9_read_308

theorem tb101 : (Jvm.Cond.fieldLink "StairGang" (99 : Nat) "StairGang$Tokens" "length" "I") ∈ gw := lw_m 101 (by decide +kernel)
theorem tb462 : (Jvm.Cond.methodLink "StairGang" (103 : Nat) ({ cls := "StairGang$TownReader", name := "read", desc := "(LStairGang$Town;)I" } : Jvm.MethodName)) ∈ gw := lw_m 462 (by decide +kernel)
theorem tb463 : (Jvm.Cond.instanceMethod ({ cls := "StairGang$TownReader", name := "read", desc := "(LStairGang$Town;)I" } : Jvm.MethodName)) ∈ gw := lw_m 463 (by decide +kernel)
theorem tb464 : (Jvm.Cond.selects "StairGang$TownReader" ({ cls := "StairGang$TownReader", name := "read", desc := "(LStairGang$Town;)I" } : Jvm.MethodName) ({ cls := "StairGang$TownReader", name := "read", desc := "(LStairGang$Town;)I" } : Jvm.MethodName)) ∈ gw := lw_m 464 (by decide +kernel)
theorem tb465 : (Jvm.Cond.code ({ cls := "StairGang$TownReader", name := "read", desc := "(LStairGang$Town;)I" } : Jvm.MethodName) prog_11_method_2_code (3 : Nat) (Option.some Jvm.ClassFile.FieldType.int)) ∈ gw := lw_m 465 (by decide +kernel)
theorem dX10_town_11 : decode cX10_town 11 = .ok (.istore_n 1, 1) := by decide +kernel
theorem dX10_town_12 : decode cX10_town 12 = .ok (.aload_n 0, 1) := by decide +kernel
theorem dX10_town_13 : decode cX10_town 13 = .ok (.getfield 10, 3) := by decide +kernel
theorem dX10_town_16 : decode cX10_town 16 = .ok (.iconst 0, 1) := by decide +kernel
theorem dX10_town_17 : decode cX10_town 17 = .ok (.putfield 99, 3) := by decide +kernel
theorem dX10_town_20 : decode cX10_town 20 = .ok (.iload_n 1, 1) := by decide +kernel
theorem dX10_town_21 : decode cX10_town 21 = .ok (.ifCond .ne 51, 3) := by decide +kernel
theorem dX10_town_24 : decode cX10_town 24 = .ok (.aload_n 0, 1) := by decide +kernel
theorem dX10_town_25 : decode cX10_town 25 = .ok (.getfield 35, 3) := by decide +kernel
theorem dX10_town_28 : decode cX10_town 28 = .ok (.astore_n 2, 1) := by decide +kernel
theorem dX10_town_29 : decode cX10_town 29 = .ok (.aload_n 0, 1) := by decide +kernel
theorem dX10_town_30 : decode cX10_town 30 = .ok (.aload_n 0, 1) := by decide +kernel
theorem dX10_town_31 : decode cX10_town 31 = .ok (.getfield 39, 3) := by decide +kernel
theorem dX10_town_34 : decode cX10_town 34 = .ok (.putfield 35, 3) := by decide +kernel
theorem dX10_town_37 : decode cX10_town 37 = .ok (.aload_n 0, 1) := by decide +kernel
theorem dX10_town_38 : decode cX10_town 38 = .ok (.aload_n 2, 1) := by decide +kernel
theorem dX10_town_39 : decode cX10_town 39 = .ok (.putfield 39, 3) := by decide +kernel
theorem dX10_town_42 : decode cX10_town 42 = .ok (.aload_n 0, 1) := by decide +kernel
theorem dX10_town_43 : decode cX10_town 43 = .ok (.getfield 45, 3) := by decide +kernel
theorem dX10_town_46 : decode cX10_town 46 = .ok (.aload_n 0, 1) := by decide +kernel
theorem dX10_town_47 : decode cX10_town 47 = .ok (.getfield 35, 3) := by decide +kernel
theorem dX10_town_50 : decode cX10_town 50 = .ok (.invokevirtual 107, 3) := by decide +kernel
theorem dX6_begin_0 : decode cX6_begin 0 = .ok (.aload_n 0, 1) := by decide +kernel
theorem dX6_begin_1 : decode cX6_begin 1 = .ok (.aload_n 1, 1) := by decide +kernel
theorem dX6_begin_2 : decode cX6_begin 2 = .ok (.invokevirtual 21, 3) := by decide +kernel
theorem dX8_all_0 : decode cX8_all 0 = .ok (.iconst 1, 1) := by decide +kernel
theorem dX8_all_1 : decode cX8_all 1 = .ok (.aload_n 0, 1) := by decide +kernel
theorem dX8_all_2 : decode cX8_all 2 = .ok (.getfield 13, 3) := by decide +kernel
theorem dX8_all_5 : decode cX8_all 5 = .ok (.iconst 1, 1) := by decide +kernel
theorem dX8_all_6 : decode cX8_all 6 = .ok (.iaload, 1) := by decide +kernel
theorem dX8_all_7 : decode cX8_all 7 = .ok (.ishl, 1) := by decide +kernel
theorem dX8_all_8 : decode cX8_all 8 = .ok (.iconst 1, 1) := by decide +kernel
theorem dX8_all_9 : decode cX8_all 9 = .ok (.isub, 1) := by decide +kernel
theorem dX8_all_10 : decode cX8_all 10 = .ok (.ireturn, 1) := by decide +kernel
set_option maxHeartbeats 4000000 in
set_option maxRecDepth 100000 in
theorem a_X8_all_1 (l : Launch) (g : va_G) (aC : Nat → ClassId) (aM : Nat → Nat) (h1 h2 : Nat) (x3 x4 x5 x6 x7 x8 x9 x10 x11 x12 x13 : Value) : Ct l g aC aM yX8_all cX8_all 1 (some .int) 1 [.ref h1] [(h1, .inr (8, [.ref h2, x3, x4, x5, x6, x7, x8, x9, x10, x11, x12, x13])), (h2, .inl (aC 0, 5, .inl (fun _ => 0)))] (QI g (fun (r : Int32) (_ : Unit) => r = 0) (fun (_ : Unit) => [(h1, .inr (8, [.ref h2, x3, x4, x5, x6, x7, x8, x9, x10, x11, x12, x13])), (h2, .inl (aC 0, 5, .inl (fun _ => 0)))])) 0 0 := by
  refine Ct.mk (by decide) (Nat.le_of_ble_eq_true rfl) ?_
  intro p e s m below meth c A ls hx hb hml hown hts hr hlk hnm hK hA hM hM2 hP hD hS hl
  have hown : s.vm.findClass RX8 = some m.cls := hown
  have F : Fx p s m _ c cX8_all 1 RX8 g aC aM A := ⟨hx, hb, hml, hown, hts, hK, hA, hM, hM2⟩
  have hl : lv_has ls 1 [(0, .ref h1)] := hl
  refine lv_iconst (v := 1) hx hb dX8_all_0 (by decide) ?_
  refine lv_aload_n hx hb dX8_all_1 rfl (lv_at hl 0 rfl) ?_
  refine xget F hP 0 rfl rfl inX8 0 (by decide) tb227 rfl dX8_all_2 ?_
  refine lv_iconst (v := 1) hx hb dX8_all_5 (by decide) ?_
  refine xilo (v := 0) F hP 1 rfl 1 (by decide +kernel) (by decide +kernel) (by decide) (by decide +kernel) dX8_all_6 ?_
  refine lv_ishl hx hb dX8_all_7 ?_
  refine relit (v := 1) (by decide +kernel) ?_
  refine lv_iconst (v := 1) hx hb dX8_all_8 (by decide) ?_
  refine lv_isub hx hb dX8_all_9 ?_
  refine relit (v := 0) (by decide +kernel) ?_
  have hP9 := hP.sub (ws' := [(h1, .inr (8, [.ref h2, x3, x4, x5, x6, x7, x8, x9, x10, x11, x12, x13])), (h2, .inl (aC 0, 5, .inl (fun _ => 0)))]) [0, 1] rfl
  have hD9 := hD.sub (ws' := [(h1, .inr (8, [.ref h2, x3, x4, x5, x6, x7, x8, x9, x10, x11, x12, x13])), (h2, .inl (aC 0, 5, .inl (fun _ => 0)))]) [0, 1] (by decide) rfl
  exact rI () hx hb hr hlk rfl hS rfl hP9 hD9 (Nat.le_of_ble_eq_true rfl) (Nat.le_of_ble_eq_true rfl) dX8_all_10

theorem tb238 : (Jvm.Cond.fieldLink "StairGang$State" (34 : Nat) "StairGang$Town" "things" "[[I") ∈ gw := lw_m 238 (by decide +kernel)
theorem tb241 : (Jvm.Cond.fieldLink "StairGang$State" (31 : Nat) "StairGang$Town" "people" "[[I") ∈ gw := lw_m 241 (by decide +kernel)
theorem tb248 : (Jvm.Cond.fieldLink "StairGang$State" (36 : Nat) "StairGang$Town" "heap" "I") ∈ gw := lw_m 248 (by decide +kernel)
theorem tb712 : (Jvm.Cond.methodLink "StairGang$State" (21 : Nat) ({ cls := "StairGang$Town", name := "all", desc := "()I" } : Jvm.MethodName)) ∈ gw := lw_m 712 (by decide +kernel)
theorem tb713 : (Jvm.Cond.instanceMethod ({ cls := "StairGang$Town", name := "all", desc := "()I" } : Jvm.MethodName)) ∈ gw := lw_m 713 (by decide +kernel)
theorem tb714 : (Jvm.Cond.selects "StairGang$Town" ({ cls := "StairGang$Town", name := "all", desc := "()I" } : Jvm.MethodName) ({ cls := "StairGang$Town", name := "all", desc := "()I" } : Jvm.MethodName)) ∈ gw := lw_m 714 (by decide +kernel)
theorem tb715 : (Jvm.Cond.code ({ cls := "StairGang$Town", name := "all", desc := "()I" } : Jvm.MethodName) prog_10_method_17_code (1 : Nat) (Option.some Jvm.ClassFile.FieldType.int)) ∈ gw := lw_m 715 (by decide +kernel)
theorem dX6_begin_5 : decode cX6_begin 5 = .ok (.putfield 27, 3) := by decide +kernel
theorem dX6_begin_8 : decode cX6_begin 8 = .ok (.iconst 0, 1) := by decide +kernel
theorem dX6_begin_9 : decode cX6_begin 9 = .ok (.istore_n 2, 1) := by decide +kernel
theorem dX6_begin_10 : decode cX6_begin 10 = .ok (.iload_n 2, 1) := by decide +kernel
theorem dX6_begin_11 : decode cX6_begin 11 = .ok (.aload_n 0, 1) := by decide +kernel
theorem dX6_begin_12 : decode cX6_begin 12 = .ok (.getfield 13, 3) := by decide +kernel
theorem dX6_begin_15 : decode cX6_begin 15 = .ok (.arraylength, 1) := by decide +kernel
theorem dX6_begin_16 : decode cX6_begin 16 = .ok (.if_icmp .ge 23, 3) := by decide +kernel
theorem dX6_begin_19 : decode cX6_begin 19 = .ok (.aload_n 0, 1) := by decide +kernel
theorem dX6_begin_20 : decode cX6_begin 20 = .ok (.getfield 13, 3) := by decide +kernel
theorem dX6_begin_23 : decode cX6_begin 23 = .ok (.iload_n 2, 1) := by decide +kernel
theorem dX6_begin_24 : decode cX6_begin 24 = .ok (.aload_n 1, 1) := by decide +kernel
theorem dX6_begin_25 : decode cX6_begin 25 = .ok (.getfield 31, 3) := by decide +kernel
theorem dX6_begin_28 : decode cX6_begin 28 = .ok (.iload_n 2, 1) := by decide +kernel
theorem dX6_begin_29 : decode cX6_begin 29 = .ok (.aaload, 1) := by decide +kernel
theorem dX6_begin_30 : decode cX6_begin 30 = .ok (.iconst 0, 1) := by decide +kernel
theorem dX6_begin_31 : decode cX6_begin 31 = .ok (.iaload, 1) := by decide +kernel
theorem dX6_begin_32 : decode cX6_begin 32 = .ok (.iastore, 1) := by decide +kernel
theorem dX6_begin_33 : decode cX6_begin 33 = .ok (.iinc 2 1, 3) := by decide +kernel
theorem dX6_begin_36 : decode cX6_begin 36 = .ok (.goto (-26), 3) := by decide +kernel
theorem dX6_begin_39 : decode cX6_begin 39 = .ok (.iconst 0, 1) := by decide +kernel
theorem dX6_begin_40 : decode cX6_begin 40 = .ok (.istore_n 2, 1) := by decide +kernel
theorem dX6_begin_41 : decode cX6_begin 41 = .ok (.iload_n 2, 1) := by decide +kernel
theorem dX6_begin_42 : decode cX6_begin 42 = .ok (.aload_n 0, 1) := by decide +kernel
theorem dX6_begin_43 : decode cX6_begin 43 = .ok (.getfield 18, 3) := by decide +kernel
theorem dX6_begin_46 : decode cX6_begin 46 = .ok (.arraylength, 1) := by decide +kernel
theorem dX6_begin_47 : decode cX6_begin 47 = .ok (.if_icmp .ge 23, 3) := by decide +kernel
theorem dX6_begin_50 : decode cX6_begin 50 = .ok (.aload_n 0, 1) := by decide +kernel
theorem dX6_begin_51 : decode cX6_begin 51 = .ok (.getfield 18, 3) := by decide +kernel
theorem dX6_begin_54 : decode cX6_begin 54 = .ok (.iload_n 2, 1) := by decide +kernel
theorem dX6_begin_55 : decode cX6_begin 55 = .ok (.aload_n 1, 1) := by decide +kernel
theorem dX6_begin_56 : decode cX6_begin 56 = .ok (.getfield 34, 3) := by decide +kernel
theorem dX6_begin_59 : decode cX6_begin 59 = .ok (.iload_n 2, 1) := by decide +kernel
theorem dX6_begin_60 : decode cX6_begin 60 = .ok (.aaload, 1) := by decide +kernel
theorem dX6_begin_61 : decode cX6_begin 61 = .ok (.iconst 1, 1) := by decide +kernel
theorem dX6_begin_62 : decode cX6_begin 62 = .ok (.iaload, 1) := by decide +kernel
theorem dX6_begin_63 : decode cX6_begin 63 = .ok (.iastore, 1) := by decide +kernel
theorem dX6_begin_64 : decode cX6_begin 64 = .ok (.iinc 2 1, 3) := by decide +kernel
theorem dX6_begin_67 : decode cX6_begin 67 = .ok (.goto (-26), 3) := by decide +kernel
theorem dX6_begin_70 : decode cX6_begin 70 = .ok (.aload_n 0, 1) := by decide +kernel
theorem dX6_begin_71 : decode cX6_begin 71 = .ok (.aload_n 1, 1) := by decide +kernel
theorem dX6_begin_72 : decode cX6_begin 72 = .ok (.getfield 36, 3) := by decide +kernel
theorem dX6_begin_75 : decode cX6_begin 75 = .ok (.putfield 39, 3) := by decide +kernel
theorem dX6_begin_78 : decode cX6_begin 78 = .ok (.aload_n 0, 1) := by decide +kernel
theorem dX6_begin_79 : decode cX6_begin 79 = .ok (.iconst 0, 1) := by decide +kernel
theorem dX6_begin_80 : decode cX6_begin 80 = .ok (.putfield 40, 3) := by decide +kernel
theorem dX6_begin_83 : decode cX6_begin 83 = .ok (.aload_n 0, 1) := by decide +kernel
theorem dX6_begin_84 : decode cX6_begin 84 = .ok (.iconst 0, 1) := by decide +kernel
theorem dX6_begin_85 : decode cX6_begin 85 = .ok (.putfield 43, 3) := by decide +kernel
theorem dX6_begin_88 : decode cX6_begin 88 = .ok (.return_, 1) := by decide +kernel
set_option maxHeartbeats 4000000 in
set_option maxRecDepth 100000 in
theorem a_X6_begin_1 (l : Launch) (g : va_G) (aC : Nat → ClassId) (aM : Nat → Nat) (h1 h2 h3 h5 h7 h8 h9 : Nat) (x10 x11 x12 x13 x14 x15 x16 x17 : Value) (R4 R6 : Nat → Nat) : Ct l g aC aM yX6_begin cX6_begin 3 none 2 [.ref h1, .ref h2] [(h3, .inl (aC 6, 4, .inr (.inr (.inr (.inr (fun i => if i < 4 then some (R4 i) else none)))))), (h5, .inl (aC 6, 5, .inr (.inr (.inr (.inr (fun i => if i < 5 then some (R6 i) else none)))))), ((R4 0), .inl (aC 0, 2, .inl (fun _ => 0))), ((R4 1), .inl (aC 0, 2, .inl (fun _ => 0))), ((R4 2), .inl (aC 0, 2, .inl (fun _ => 0))), ((R4 3), .inl (aC 0, 2, .inl (fun _ => 0))), ((R6 0), .inl (aC 0, 4, .inl (fun _ => 0))), ((R6 1), .inl (aC 0, 4, .inl (fun _ => 0))), ((R6 2), .inl (aC 0, 4, .inl (fun _ => 0))), ((R6 3), .inl (aC 0, 4, .inl (fun _ => 0))), ((R6 4), .inl (aC 0, 4, .inl (fun _ => 0))), (h1, .inr (6, [.int 0, .ref h7, .ref h8, .int 0, .int 0, .int 0])), (h7, .inl (aC 0, 5, .inl (fun _ => 0))), (h8, .inl (aC 0, 4, .inl (fun _ => 0))), (h2, .inr (8, [.ref h9, x10, .ref h3, .ref h5, x11, .int 0, x12, x13, x14, x15, x16, x17])), (h9, .inl (aC 0, 5, .inl (fun _ => 0)))] (QV g (fun (_ : Unit) => True) (fun (_ : Unit) => [(h3, .inl (aC 6, 4, .inr (.inr (.inr (.inr (fun i => if i < 4 then some (R4 i) else none)))))), (h5, .inl (aC 6, 5, .inr (.inr (.inr (.inr (fun i => if i < 5 then some (R6 i) else none)))))), ((R4 0), .inl (aC 0, 2, .inl (fun _ => 0))), ((R4 1), .inl (aC 0, 2, .inl (fun _ => 0))), ((R4 2), .inl (aC 0, 2, .inl (fun _ => 0))), ((R4 3), .inl (aC 0, 2, .inl (fun _ => 0))), ((R6 0), .inl (aC 0, 4, .inl (fun _ => 0))), ((R6 1), .inl (aC 0, 4, .inl (fun _ => 0))), ((R6 2), .inl (aC 0, 4, .inl (fun _ => 0))), ((R6 3), .inl (aC 0, 4, .inl (fun _ => 0))), ((R6 4), .inl (aC 0, 4, .inl (fun _ => 0))), (h1, .inr (6, [.int 0, .ref h7, .ref h8, .int 0, .int 0, .int 0])), (h7, .inl (aC 0, 5, .inl (fun _ => 0))), (h8, .inl (aC 0, 4, .inl (fun _ => 0))), (h2, .inr (8, [.ref h9, x10, .ref h3, .ref h5, x11, .int 0, x12, x13, x14, x15, x16, x17])), (h9, .inl (aC 0, 5, .inl (fun _ => 0)))])) 0 0 := by
  refine Ct.mk (by decide) (Nat.le_of_ble_eq_true rfl) ?_
  intro p e s m below meth c A ls hx hb hml hown hts hr hlk hnm hK hA hM hM2 hP hD hS hl
  have hown : s.vm.findClass RX6 = some m.cls := hown
  have F : Fx p s m _ c cX6_begin 3 RX6 g aC aM A := ⟨hx, hb, hml, hown, hts, hK, hA, hM, hM2⟩
  have hl : lv_has ls 3 [(0, .ref h1), (1, .ref h2)] := hl
  refine lv_aload_n hx hb dX6_begin_0 rfl (lv_at hl 0 rfl) ?_
  refine lv_aload_n hx hb dX6_begin_1 rfl (lv_at hl 1 rfl) ?_
  refine goI (wr := [(h3, .inl (aC 6, 4, .inr (.inr (.inr (.inr (fun i => if i < 4 then some (R4 i) else none)))))), (h5, .inl (aC 6, 5, .inr (.inr (.inr (.inr (fun i => if i < 5 then some (R6 i) else none)))))), ((R4 0), .inl (aC 0, 2, .inl (fun _ => 0))), ((R4 1), .inl (aC 0, 2, .inl (fun _ => 0))), ((R4 2), .inl (aC 0, 2, .inl (fun _ => 0))), ((R4 3), .inl (aC 0, 2, .inl (fun _ => 0))), ((R6 0), .inl (aC 0, 4, .inl (fun _ => 0))), ((R6 1), .inl (aC 0, 4, .inl (fun _ => 0))), ((R6 2), .inl (aC 0, 4, .inl (fun _ => 0))), ((R6 3), .inl (aC 0, 4, .inl (fun _ => 0))), ((R6 4), .inl (aC 0, 4, .inl (fun _ => 0))), (h1, .inr (6, [.int 0, .ref h7, .ref h8, .int 0, .int 0, .int 0])), (h7, .inl (aC 0, 5, .inl (fun _ => 0))), (h8, .inl (aC 0, 4, .inl (fun _ => 0)))]) (runV (n := 0) (As := []) (rest := [.ref h1]) F hP hD hS (a_X8_all_1 l g aC aM h2 h9 x10 (.ref h3) (.ref h5) x11 (.int 0) x12 x13 x14 x15 x16 x17) [14, 15] (by decide) rfl 14 8 rfl rfl rfl tb715 tb712 tb713 tb714 tb9 ⟨by decide, by decide, by decide +kernel⟩ ⟨Nat.le_of_ble_eq_true rfl, Nat.le_of_ble_eq_true rfl⟩ rfl hl.1 rfl (Nat.le_of_ble_eq_true rfl) dX6_begin_2 ⟨Nat.le_of_ble_eq_true rfl, Nat.le_of_ble_eq_true rfl⟩) hP hD hS hA [14, 15] [0, 1, 2, 3, 4, 5, 6, 7, 8, 9, 10, 11, 12, 13] rfl rfl (by decide) (by decide) (fun r_2 w3 H locs hw hP hD hS => ?_)
  have hP : va_P g vwCl [(h3, .inl (aC 6, 4, .inr (.inr (.inr (.inr (fun i => if i < 4 then some (R4 i) else none)))))), (h5, .inl (aC 6, 5, .inr (.inr (.inr (.inr (fun i => if i < 5 then some (R6 i) else none)))))), ((R4 0), .inl (aC 0, 2, .inl (fun _ => 0))), ((R4 1), .inl (aC 0, 2, .inl (fun _ => 0))), ((R4 2), .inl (aC 0, 2, .inl (fun _ => 0))), ((R4 3), .inl (aC 0, 2, .inl (fun _ => 0))), ((R6 0), .inl (aC 0, 4, .inl (fun _ => 0))), ((R6 1), .inl (aC 0, 4, .inl (fun _ => 0))), ((R6 2), .inl (aC 0, 4, .inl (fun _ => 0))), ((R6 3), .inl (aC 0, 4, .inl (fun _ => 0))), ((R6 4), .inl (aC 0, 4, .inl (fun _ => 0))), (h1, .inr (6, [.int 0, .ref h7, .ref h8, .int 0, .int 0, .int 0])), (h7, .inl (aC 0, 5, .inl (fun _ => 0))), (h8, .inl (aC 0, 4, .inl (fun _ => 0))), (h2, .inr (8, [.ref h9, x10, .ref h3, .ref h5, x11, .int 0, x12, x13, x14, x15, x16, x17])), (h9, .inl (aC 0, 5, .inl (fun _ => 0)))] H := hP
  have hD : va_D A [(h3, .inl (aC 6, 4, .inr (.inr (.inr (.inr (fun i => if i < 4 then some (R4 i) else none)))))), (h5, .inl (aC 6, 5, .inr (.inr (.inr (.inr (fun i => if i < 5 then some (R6 i) else none)))))), ((R4 0), .inl (aC 0, 2, .inl (fun _ => 0))), ((R4 1), .inl (aC 0, 2, .inl (fun _ => 0))), ((R4 2), .inl (aC 0, 2, .inl (fun _ => 0))), ((R4 3), .inl (aC 0, 2, .inl (fun _ => 0))), ((R6 0), .inl (aC 0, 4, .inl (fun _ => 0))), ((R6 1), .inl (aC 0, 4, .inl (fun _ => 0))), ((R6 2), .inl (aC 0, 4, .inl (fun _ => 0))), ((R6 3), .inl (aC 0, 4, .inl (fun _ => 0))), ((R6 4), .inl (aC 0, 4, .inl (fun _ => 0))), (h1, .inr (6, [.int 0, .ref h7, .ref h8, .int 0, .int 0, .int 0])), (h7, .inl (aC 0, 5, .inl (fun _ => 0))), (h8, .inl (aC 0, 4, .inl (fun _ => 0))), (h2, .inr (8, [.ref h9, x10, .ref h3, .ref h5, x11, .int 0, x12, x13, x14, x15, x16, x17])), (h9, .inl (aC 0, 5, .inl (fun _ => 0)))] := hD
  try dsimp only at hw
  subst hw
  refine xput F hP hD hS 11 rfl rfl inX6 tyX6_ok nmX6 0 (by decide) tb292 rfl rfl rfl (Nat.le_of_ble_eq_true rfl) dX6_begin_5 (fun H locs hP hD hS => ?_)
  have hP : va_P g vwCl [(h3, .inl (aC 6, 4, .inr (.inr (.inr (.inr (fun i => if i < 4 then some (R4 i) else none)))))), (h5, .inl (aC 6, 5, .inr (.inr (.inr (.inr (fun i => if i < 5 then some (R6 i) else none)))))), ((R4 0), .inl (aC 0, 2, .inl (fun _ => 0))), ((R4 1), .inl (aC 0, 2, .inl (fun _ => 0))), ((R4 2), .inl (aC 0, 2, .inl (fun _ => 0))), ((R4 3), .inl (aC 0, 2, .inl (fun _ => 0))), ((R6 0), .inl (aC 0, 4, .inl (fun _ => 0))), ((R6 1), .inl (aC 0, 4, .inl (fun _ => 0))), ((R6 2), .inl (aC 0, 4, .inl (fun _ => 0))), ((R6 3), .inl (aC 0, 4, .inl (fun _ => 0))), ((R6 4), .inl (aC 0, 4, .inl (fun _ => 0))), (h1, .inr (6, [.int 0, .ref h7, .ref h8, .int 0, .int 0, .int 0])), (h7, .inl (aC 0, 5, .inl (fun _ => 0))), (h8, .inl (aC 0, 4, .inl (fun _ => 0))), (h2, .inr (8, [.ref h9, x10, .ref h3, .ref h5, x11, .int 0, x12, x13, x14, x15, x16, x17])), (h9, .inl (aC 0, 5, .inl (fun _ => 0)))] H := hP
  have hD : va_D A [(h3, .inl (aC 6, 4, .inr (.inr (.inr (.inr (fun i => if i < 4 then some (R4 i) else none)))))), (h5, .inl (aC 6, 5, .inr (.inr (.inr (.inr (fun i => if i < 5 then some (R6 i) else none)))))), ((R4 0), .inl (aC 0, 2, .inl (fun _ => 0))), ((R4 1), .inl (aC 0, 2, .inl (fun _ => 0))), ((R4 2), .inl (aC 0, 2, .inl (fun _ => 0))), ((R4 3), .inl (aC 0, 2, .inl (fun _ => 0))), ((R6 0), .inl (aC 0, 4, .inl (fun _ => 0))), ((R6 1), .inl (aC 0, 4, .inl (fun _ => 0))), ((R6 2), .inl (aC 0, 4, .inl (fun _ => 0))), ((R6 3), .inl (aC 0, 4, .inl (fun _ => 0))), ((R6 4), .inl (aC 0, 4, .inl (fun _ => 0))), (h1, .inr (6, [.int 0, .ref h7, .ref h8, .int 0, .int 0, .int 0])), (h7, .inl (aC 0, 5, .inl (fun _ => 0))), (h8, .inl (aC 0, 4, .inl (fun _ => 0))), (h2, .inr (8, [.ref h9, x10, .ref h3, .ref h5, x11, .int 0, x12, x13, x14, x15, x16, x17])), (h9, .inl (aC 0, 5, .inl (fun _ => 0)))] := hD
  refine lv_iconst (v := 0) hx hb dX6_begin_8 (by decide) ?_
  refine lv_istore_n (lv' := [(2, .int 0), (0, .ref h1), (1, .ref h2)]) hx hb dX6_begin_9 rfl hl (by decide) rfl (fun ls hl => ?_)
  refine lv_iload_n hx hb dX6_begin_10 rfl (lv_at hl 0 rfl) ?_
  refine lv_aload_n hx hb dX6_begin_11 rfl (lv_at hl 1 rfl) ?_
  refine xget F hP 11 rfl rfl inX6 1 (by decide) tb294 rfl dX6_begin_12 ?_
  refine xlen (v := 5) F hP 12 0 rfl rfl rfl dX6_begin_15 ?_
  refine lv_icmp_ge (tgt := 39) hx hb dX6_begin_16 (by decide) (fun c_ => absurd c_ (by decide +kernel)) (fun _ => ?_)
  refine lv_aload_n hx hb dX6_begin_19 rfl (lv_at hl 1 rfl) ?_
  refine xget F hP 11 rfl rfl inX6 1 (by decide) tb294 rfl dX6_begin_20 ?_
  refine lv_iload_n hx hb dX6_begin_23 rfl (lv_at hl 0 rfl) ?_
  refine lv_aload_n hx hb dX6_begin_24 rfl (lv_at hl 2 rfl) ?_
  refine xget F hP 14 rfl rfl inX8 3 (by decide) tb241 rfl dX6_begin_25 ?_
  refine lv_iload_n hx hb dX6_begin_28 rfl (lv_at hl 0 rfl) ?_
  refine xrlo (v := (R6 0)) F hP 1 rfl 0 (by decide +kernel) (by decide +kernel) (by decide) rfl dX6_begin_29 ?_
  refine lv_iconst (v := 0) hx hb dX6_begin_30 (by decide) ?_
  refine xilo (v := 0) F hP 6 rfl 0 (by decide +kernel) (by decide +kernel) (by decide) (by decide +kernel) dX6_begin_31 ?_
  refine xist (f' := fun _ => 0) F hP hD hS 12 rfl 0 (by decide +kernel) (by decide +kernel) (by decide) (xup0 _) dX6_begin_32 (fun H locs hP hD hS => ?_)
  have hP : va_P g vwCl [(h3, .inl (aC 6, 4, .inr (.inr (.inr (.inr (fun i => if i < 4 then some (R4 i) else none)))))), (h5, .inl (aC 6, 5, .inr (.inr (.inr (.inr (fun i => if i < 5 then some (R6 i) else none)))))), ((R4 0), .inl (aC 0, 2, .inl (fun _ => 0))), ((R4 1), .inl (aC 0, 2, .inl (fun _ => 0))), ((R4 2), .inl (aC 0, 2, .inl (fun _ => 0))), ((R4 3), .inl (aC 0, 2, .inl (fun _ => 0))), ((R6 0), .inl (aC 0, 4, .inl (fun _ => 0))), ((R6 1), .inl (aC 0, 4, .inl (fun _ => 0))), ((R6 2), .inl (aC 0, 4, .inl (fun _ => 0))), ((R6 3), .inl (aC 0, 4, .inl (fun _ => 0))), ((R6 4), .inl (aC 0, 4, .inl (fun _ => 0))), (h1, .inr (6, [.int 0, .ref h7, .ref h8, .int 0, .int 0, .int 0])), (h7, .inl (aC 0, 5, .inl (fun _ => 0))), (h8, .inl (aC 0, 4, .inl (fun _ => 0))), (h2, .inr (8, [.ref h9, x10, .ref h3, .ref h5, x11, .int 0, x12, x13, x14, x15, x16, x17])), (h9, .inl (aC 0, 5, .inl (fun _ => 0)))] H := hP
  have hD : va_D A [(h3, .inl (aC 6, 4, .inr (.inr (.inr (.inr (fun i => if i < 4 then some (R4 i) else none)))))), (h5, .inl (aC 6, 5, .inr (.inr (.inr (.inr (fun i => if i < 5 then some (R6 i) else none)))))), ((R4 0), .inl (aC 0, 2, .inl (fun _ => 0))), ((R4 1), .inl (aC 0, 2, .inl (fun _ => 0))), ((R4 2), .inl (aC 0, 2, .inl (fun _ => 0))), ((R4 3), .inl (aC 0, 2, .inl (fun _ => 0))), ((R6 0), .inl (aC 0, 4, .inl (fun _ => 0))), ((R6 1), .inl (aC 0, 4, .inl (fun _ => 0))), ((R6 2), .inl (aC 0, 4, .inl (fun _ => 0))), ((R6 3), .inl (aC 0, 4, .inl (fun _ => 0))), ((R6 4), .inl (aC 0, 4, .inl (fun _ => 0))), (h1, .inr (6, [.int 0, .ref h7, .ref h8, .int 0, .int 0, .int 0])), (h7, .inl (aC 0, 5, .inl (fun _ => 0))), (h8, .inl (aC 0, 4, .inl (fun _ => 0))), (h2, .inr (8, [.ref h9, x10, .ref h3, .ref h5, x11, .int 0, x12, x13, x14, x15, x16, x17])), (h9, .inl (aC 0, 5, .inl (fun _ => 0)))] := hD
  refine lv_iinc (v := 1) (lv' := [(2, .int 1), (0, .ref h1), (1, .ref h2)]) hx hb dX6_begin_33 hl (k := 0) rfl (by decide +kernel) (by decide) rfl (fun ls hl => ?_)
  refine lv_goto (tgt := 10) hx hb dX6_begin_36 (by decide) ?_
  refine lv_iload_n hx hb dX6_begin_10 rfl (lv_at hl 0 rfl) ?_
  refine lv_aload_n hx hb dX6_begin_11 rfl (lv_at hl 1 rfl) ?_
  refine xget F hP 11 rfl rfl inX6 1 (by decide) tb294 rfl dX6_begin_12 ?_
  refine xlen (v := 5) F hP 12 0 rfl rfl rfl dX6_begin_15 ?_
  refine lv_icmp_ge (tgt := 39) hx hb dX6_begin_16 (by decide) (fun c_ => absurd c_ (by decide +kernel)) (fun _ => ?_)
  refine lv_aload_n hx hb dX6_begin_19 rfl (lv_at hl 1 rfl) ?_
  refine xget F hP 11 rfl rfl inX6 1 (by decide) tb294 rfl dX6_begin_20 ?_
  refine lv_iload_n hx hb dX6_begin_23 rfl (lv_at hl 0 rfl) ?_
  refine lv_aload_n hx hb dX6_begin_24 rfl (lv_at hl 2 rfl) ?_
  refine xget F hP 14 rfl rfl inX8 3 (by decide) tb241 rfl dX6_begin_25 ?_
  refine lv_iload_n hx hb dX6_begin_28 rfl (lv_at hl 0 rfl) ?_
  refine xrlo (v := (R6 1)) F hP 1 rfl 1 (by decide +kernel) (by decide +kernel) (by decide) rfl dX6_begin_29 ?_
  refine lv_iconst (v := 0) hx hb dX6_begin_30 (by decide) ?_
  refine xilo (v := 0) F hP 7 rfl 0 (by decide +kernel) (by decide +kernel) (by decide) (by decide +kernel) dX6_begin_31 ?_
  refine xist (f' := fun _ => 0) F hP hD hS 12 rfl 1 (by decide +kernel) (by decide +kernel) (by decide) (xup0 _) dX6_begin_32 (fun H locs hP hD hS => ?_)
  have hP : va_P g vwCl [(h3, .inl (aC 6, 4, .inr (.inr (.inr (.inr (fun i => if i < 4 then some (R4 i) else none)))))), (h5, .inl (aC 6, 5, .inr (.inr (.inr (.inr (fun i => if i < 5 then some (R6 i) else none)))))), ((R4 0), .inl (aC 0, 2, .inl (fun _ => 0))), ((R4 1), .inl (aC 0, 2, .inl (fun _ => 0))), ((R4 2), .inl (aC 0, 2, .inl (fun _ => 0))), ((R4 3), .inl (aC 0, 2, .inl (fun _ => 0))), ((R6 0), .inl (aC 0, 4, .inl (fun _ => 0))), ((R6 1), .inl (aC 0, 4, .inl (fun _ => 0))), ((R6 2), .inl (aC 0, 4, .inl (fun _ => 0))), ((R6 3), .inl (aC 0, 4, .inl (fun _ => 0))), ((R6 4), .inl (aC 0, 4, .inl (fun _ => 0))), (h1, .inr (6, [.int 0, .ref h7, .ref h8, .int 0, .int 0, .int 0])), (h7, .inl (aC 0, 5, .inl (fun _ => 0))), (h8, .inl (aC 0, 4, .inl (fun _ => 0))), (h2, .inr (8, [.ref h9, x10, .ref h3, .ref h5, x11, .int 0, x12, x13, x14, x15, x16, x17])), (h9, .inl (aC 0, 5, .inl (fun _ => 0)))] H := hP
  have hD : va_D A [(h3, .inl (aC 6, 4, .inr (.inr (.inr (.inr (fun i => if i < 4 then some (R4 i) else none)))))), (h5, .inl (aC 6, 5, .inr (.inr (.inr (.inr (fun i => if i < 5 then some (R6 i) else none)))))), ((R4 0), .inl (aC 0, 2, .inl (fun _ => 0))), ((R4 1), .inl (aC 0, 2, .inl (fun _ => 0))), ((R4 2), .inl (aC 0, 2, .inl (fun _ => 0))), ((R4 3), .inl (aC 0, 2, .inl (fun _ => 0))), ((R6 0), .inl (aC 0, 4, .inl (fun _ => 0))), ((R6 1), .inl (aC 0, 4, .inl (fun _ => 0))), ((R6 2), .inl (aC 0, 4, .inl (fun _ => 0))), ((R6 3), .inl (aC 0, 4, .inl (fun _ => 0))), ((R6 4), .inl (aC 0, 4, .inl (fun _ => 0))), (h1, .inr (6, [.int 0, .ref h7, .ref h8, .int 0, .int 0, .int 0])), (h7, .inl (aC 0, 5, .inl (fun _ => 0))), (h8, .inl (aC 0, 4, .inl (fun _ => 0))), (h2, .inr (8, [.ref h9, x10, .ref h3, .ref h5, x11, .int 0, x12, x13, x14, x15, x16, x17])), (h9, .inl (aC 0, 5, .inl (fun _ => 0)))] := hD
  refine lv_iinc (v := 2) (lv' := [(2, .int 2), (0, .ref h1), (1, .ref h2)]) hx hb dX6_begin_33 hl (k := 0) rfl (by decide +kernel) (by decide) rfl (fun ls hl => ?_)
  refine lv_goto (tgt := 10) hx hb dX6_begin_36 (by decide) ?_
  refine lv_iload_n hx hb dX6_begin_10 rfl (lv_at hl 0 rfl) ?_
  refine lv_aload_n hx hb dX6_begin_11 rfl (lv_at hl 1 rfl) ?_
  refine xget F hP 11 rfl rfl inX6 1 (by decide) tb294 rfl dX6_begin_12 ?_
  refine xlen (v := 5) F hP 12 0 rfl rfl rfl dX6_begin_15 ?_
  refine lv_icmp_ge (tgt := 39) hx hb dX6_begin_16 (by decide) (fun c_ => absurd c_ (by decide +kernel)) (fun _ => ?_)
  refine lv_aload_n hx hb dX6_begin_19 rfl (lv_at hl 1 rfl) ?_
  refine xget F hP 11 rfl rfl inX6 1 (by decide) tb294 rfl dX6_begin_20 ?_
  refine lv_iload_n hx hb dX6_begin_23 rfl (lv_at hl 0 rfl) ?_
  refine lv_aload_n hx hb dX6_begin_24 rfl (lv_at hl 2 rfl) ?_
  refine xget F hP 14 rfl rfl inX8 3 (by decide) tb241 rfl dX6_begin_25 ?_
  refine lv_iload_n hx hb dX6_begin_28 rfl (lv_at hl 0 rfl) ?_
  refine xrlo (v := (R6 2)) F hP 1 rfl 2 (by decide +kernel) (by decide +kernel) (by decide) rfl dX6_begin_29 ?_
  refine lv_iconst (v := 0) hx hb dX6_begin_30 (by decide) ?_
  refine xilo (v := 0) F hP 8 rfl 0 (by decide +kernel) (by decide +kernel) (by decide) (by decide +kernel) dX6_begin_31 ?_
  refine xist (f' := fun _ => 0) F hP hD hS 12 rfl 2 (by decide +kernel) (by decide +kernel) (by decide) (xup0 _) dX6_begin_32 (fun H locs hP hD hS => ?_)
  have hP : va_P g vwCl [(h3, .inl (aC 6, 4, .inr (.inr (.inr (.inr (fun i => if i < 4 then some (R4 i) else none)))))), (h5, .inl (aC 6, 5, .inr (.inr (.inr (.inr (fun i => if i < 5 then some (R6 i) else none)))))), ((R4 0), .inl (aC 0, 2, .inl (fun _ => 0))), ((R4 1), .inl (aC 0, 2, .inl (fun _ => 0))), ((R4 2), .inl (aC 0, 2, .inl (fun _ => 0))), ((R4 3), .inl (aC 0, 2, .inl (fun _ => 0))), ((R6 0), .inl (aC 0, 4, .inl (fun _ => 0))), ((R6 1), .inl (aC 0, 4, .inl (fun _ => 0))), ((R6 2), .inl (aC 0, 4, .inl (fun _ => 0))), ((R6 3), .inl (aC 0, 4, .inl (fun _ => 0))), ((R6 4), .inl (aC 0, 4, .inl (fun _ => 0))), (h1, .inr (6, [.int 0, .ref h7, .ref h8, .int 0, .int 0, .int 0])), (h7, .inl (aC 0, 5, .inl (fun _ => 0))), (h8, .inl (aC 0, 4, .inl (fun _ => 0))), (h2, .inr (8, [.ref h9, x10, .ref h3, .ref h5, x11, .int 0, x12, x13, x14, x15, x16, x17])), (h9, .inl (aC 0, 5, .inl (fun _ => 0)))] H := hP
  have hD : va_D A [(h3, .inl (aC 6, 4, .inr (.inr (.inr (.inr (fun i => if i < 4 then some (R4 i) else none)))))), (h5, .inl (aC 6, 5, .inr (.inr (.inr (.inr (fun i => if i < 5 then some (R6 i) else none)))))), ((R4 0), .inl (aC 0, 2, .inl (fun _ => 0))), ((R4 1), .inl (aC 0, 2, .inl (fun _ => 0))), ((R4 2), .inl (aC 0, 2, .inl (fun _ => 0))), ((R4 3), .inl (aC 0, 2, .inl (fun _ => 0))), ((R6 0), .inl (aC 0, 4, .inl (fun _ => 0))), ((R6 1), .inl (aC 0, 4, .inl (fun _ => 0))), ((R6 2), .inl (aC 0, 4, .inl (fun _ => 0))), ((R6 3), .inl (aC 0, 4, .inl (fun _ => 0))), ((R6 4), .inl (aC 0, 4, .inl (fun _ => 0))), (h1, .inr (6, [.int 0, .ref h7, .ref h8, .int 0, .int 0, .int 0])), (h7, .inl (aC 0, 5, .inl (fun _ => 0))), (h8, .inl (aC 0, 4, .inl (fun _ => 0))), (h2, .inr (8, [.ref h9, x10, .ref h3, .ref h5, x11, .int 0, x12, x13, x14, x15, x16, x17])), (h9, .inl (aC 0, 5, .inl (fun _ => 0)))] := hD
  refine lv_iinc (v := 3) (lv' := [(2, .int 3), (0, .ref h1), (1, .ref h2)]) hx hb dX6_begin_33 hl (k := 0) rfl (by decide +kernel) (by decide) rfl (fun ls hl => ?_)
  refine lv_goto (tgt := 10) hx hb dX6_begin_36 (by decide) ?_
  refine lv_iload_n hx hb dX6_begin_10 rfl (lv_at hl 0 rfl) ?_
  refine lv_aload_n hx hb dX6_begin_11 rfl (lv_at hl 1 rfl) ?_
  refine xget F hP 11 rfl rfl inX6 1 (by decide) tb294 rfl dX6_begin_12 ?_
  refine xlen (v := 5) F hP 12 0 rfl rfl rfl dX6_begin_15 ?_
  refine lv_icmp_ge (tgt := 39) hx hb dX6_begin_16 (by decide) (fun c_ => absurd c_ (by decide +kernel)) (fun _ => ?_)
  refine lv_aload_n hx hb dX6_begin_19 rfl (lv_at hl 1 rfl) ?_
  refine xget F hP 11 rfl rfl inX6 1 (by decide) tb294 rfl dX6_begin_20 ?_
  refine lv_iload_n hx hb dX6_begin_23 rfl (lv_at hl 0 rfl) ?_
  refine lv_aload_n hx hb dX6_begin_24 rfl (lv_at hl 2 rfl) ?_
  refine xget F hP 14 rfl rfl inX8 3 (by decide) tb241 rfl dX6_begin_25 ?_
  refine lv_iload_n hx hb dX6_begin_28 rfl (lv_at hl 0 rfl) ?_
  refine xrlo (v := (R6 3)) F hP 1 rfl 3 (by decide +kernel) (by decide +kernel) (by decide) rfl dX6_begin_29 ?_
  refine lv_iconst (v := 0) hx hb dX6_begin_30 (by decide) ?_
  refine xilo (v := 0) F hP 9 rfl 0 (by decide +kernel) (by decide +kernel) (by decide) (by decide +kernel) dX6_begin_31 ?_
  refine xist (f' := fun _ => 0) F hP hD hS 12 rfl 3 (by decide +kernel) (by decide +kernel) (by decide) (xup0 _) dX6_begin_32 (fun H locs hP hD hS => ?_)
  have hP : va_P g vwCl [(h3, .inl (aC 6, 4, .inr (.inr (.inr (.inr (fun i => if i < 4 then some (R4 i) else none)))))), (h5, .inl (aC 6, 5, .inr (.inr (.inr (.inr (fun i => if i < 5 then some (R6 i) else none)))))), ((R4 0), .inl (aC 0, 2, .inl (fun _ => 0))), ((R4 1), .inl (aC 0, 2, .inl (fun _ => 0))), ((R4 2), .inl (aC 0, 2, .inl (fun _ => 0))), ((R4 3), .inl (aC 0, 2, .inl (fun _ => 0))), ((R6 0), .inl (aC 0, 4, .inl (fun _ => 0))), ((R6 1), .inl (aC 0, 4, .inl (fun _ => 0))), ((R6 2), .inl (aC 0, 4, .inl (fun _ => 0))), ((R6 3), .inl (aC 0, 4, .inl (fun _ => 0))), ((R6 4), .inl (aC 0, 4, .inl (fun _ => 0))), (h1, .inr (6, [.int 0, .ref h7, .ref h8, .int 0, .int 0, .int 0])), (h7, .inl (aC 0, 5, .inl (fun _ => 0))), (h8, .inl (aC 0, 4, .inl (fun _ => 0))), (h2, .inr (8, [.ref h9, x10, .ref h3, .ref h5, x11, .int 0, x12, x13, x14, x15, x16, x17])), (h9, .inl (aC 0, 5, .inl (fun _ => 0)))] H := hP
  have hD : va_D A [(h3, .inl (aC 6, 4, .inr (.inr (.inr (.inr (fun i => if i < 4 then some (R4 i) else none)))))), (h5, .inl (aC 6, 5, .inr (.inr (.inr (.inr (fun i => if i < 5 then some (R6 i) else none)))))), ((R4 0), .inl (aC 0, 2, .inl (fun _ => 0))), ((R4 1), .inl (aC 0, 2, .inl (fun _ => 0))), ((R4 2), .inl (aC 0, 2, .inl (fun _ => 0))), ((R4 3), .inl (aC 0, 2, .inl (fun _ => 0))), ((R6 0), .inl (aC 0, 4, .inl (fun _ => 0))), ((R6 1), .inl (aC 0, 4, .inl (fun _ => 0))), ((R6 2), .inl (aC 0, 4, .inl (fun _ => 0))), ((R6 3), .inl (aC 0, 4, .inl (fun _ => 0))), ((R6 4), .inl (aC 0, 4, .inl (fun _ => 0))), (h1, .inr (6, [.int 0, .ref h7, .ref h8, .int 0, .int 0, .int 0])), (h7, .inl (aC 0, 5, .inl (fun _ => 0))), (h8, .inl (aC 0, 4, .inl (fun _ => 0))), (h2, .inr (8, [.ref h9, x10, .ref h3, .ref h5, x11, .int 0, x12, x13, x14, x15, x16, x17])), (h9, .inl (aC 0, 5, .inl (fun _ => 0)))] := hD
  refine lv_iinc (v := 4) (lv' := [(2, .int 4), (0, .ref h1), (1, .ref h2)]) hx hb dX6_begin_33 hl (k := 0) rfl (by decide +kernel) (by decide) rfl (fun ls hl => ?_)
  refine lv_goto (tgt := 10) hx hb dX6_begin_36 (by decide) ?_
  refine lv_iload_n hx hb dX6_begin_10 rfl (lv_at hl 0 rfl) ?_
  refine lv_aload_n hx hb dX6_begin_11 rfl (lv_at hl 1 rfl) ?_
  refine xget F hP 11 rfl rfl inX6 1 (by decide) tb294 rfl dX6_begin_12 ?_
  refine xlen (v := 5) F hP 12 0 rfl rfl rfl dX6_begin_15 ?_
  refine lv_icmp_ge (tgt := 39) hx hb dX6_begin_16 (by decide) (fun c_ => absurd c_ (by decide +kernel)) (fun _ => ?_)
  refine lv_aload_n hx hb dX6_begin_19 rfl (lv_at hl 1 rfl) ?_
  refine xget F hP 11 rfl rfl inX6 1 (by decide) tb294 rfl dX6_begin_20 ?_
  refine lv_iload_n hx hb dX6_begin_23 rfl (lv_at hl 0 rfl) ?_
  refine lv_aload_n hx hb dX6_begin_24 rfl (lv_at hl 2 rfl) ?_
  refine xget F hP 14 rfl rfl inX8 3 (by decide) tb241 rfl dX6_begin_25 ?_
  refine lv_iload_n hx hb dX6_begin_28 rfl (lv_at hl 0 rfl) ?_
  refine xrlo (v := (R6 4)) F hP 1 rfl 4 (by decide +kernel) (by decide +kernel) (by decide) rfl dX6_begin_29 ?_
  refine lv_iconst (v := 0) hx hb dX6_begin_30 (by decide) ?_
  refine xilo (v := 0) F hP 10 rfl 0 (by decide +kernel) (by decide +kernel) (by decide) (by decide +kernel) dX6_begin_31 ?_
  refine xist (f' := fun _ => 0) F hP hD hS 12 rfl 4 (by decide +kernel) (by decide +kernel) (by decide) (xup0 _) dX6_begin_32 (fun H locs hP hD hS => ?_)
  have hP : va_P g vwCl [(h3, .inl (aC 6, 4, .inr (.inr (.inr (.inr (fun i => if i < 4 then some (R4 i) else none)))))), (h5, .inl (aC 6, 5, .inr (.inr (.inr (.inr (fun i => if i < 5 then some (R6 i) else none)))))), ((R4 0), .inl (aC 0, 2, .inl (fun _ => 0))), ((R4 1), .inl (aC 0, 2, .inl (fun _ => 0))), ((R4 2), .inl (aC 0, 2, .inl (fun _ => 0))), ((R4 3), .inl (aC 0, 2, .inl (fun _ => 0))), ((R6 0), .inl (aC 0, 4, .inl (fun _ => 0))), ((R6 1), .inl (aC 0, 4, .inl (fun _ => 0))), ((R6 2), .inl (aC 0, 4, .inl (fun _ => 0))), ((R6 3), .inl (aC 0, 4, .inl (fun _ => 0))), ((R6 4), .inl (aC 0, 4, .inl (fun _ => 0))), (h1, .inr (6, [.int 0, .ref h7, .ref h8, .int 0, .int 0, .int 0])), (h7, .inl (aC 0, 5, .inl (fun _ => 0))), (h8, .inl (aC 0, 4, .inl (fun _ => 0))), (h2, .inr (8, [.ref h9, x10, .ref h3, .ref h5, x11, .int 0, x12, x13, x14, x15, x16, x17])), (h9, .inl (aC 0, 5, .inl (fun _ => 0)))] H := hP
  have hD : va_D A [(h3, .inl (aC 6, 4, .inr (.inr (.inr (.inr (fun i => if i < 4 then some (R4 i) else none)))))), (h5, .inl (aC 6, 5, .inr (.inr (.inr (.inr (fun i => if i < 5 then some (R6 i) else none)))))), ((R4 0), .inl (aC 0, 2, .inl (fun _ => 0))), ((R4 1), .inl (aC 0, 2, .inl (fun _ => 0))), ((R4 2), .inl (aC 0, 2, .inl (fun _ => 0))), ((R4 3), .inl (aC 0, 2, .inl (fun _ => 0))), ((R6 0), .inl (aC 0, 4, .inl (fun _ => 0))), ((R6 1), .inl (aC 0, 4, .inl (fun _ => 0))), ((R6 2), .inl (aC 0, 4, .inl (fun _ => 0))), ((R6 3), .inl (aC 0, 4, .inl (fun _ => 0))), ((R6 4), .inl (aC 0, 4, .inl (fun _ => 0))), (h1, .inr (6, [.int 0, .ref h7, .ref h8, .int 0, .int 0, .int 0])), (h7, .inl (aC 0, 5, .inl (fun _ => 0))), (h8, .inl (aC 0, 4, .inl (fun _ => 0))), (h2, .inr (8, [.ref h9, x10, .ref h3, .ref h5, x11, .int 0, x12, x13, x14, x15, x16, x17])), (h9, .inl (aC 0, 5, .inl (fun _ => 0)))] := hD
  refine lv_iinc (v := 5) (lv' := [(2, .int 5), (0, .ref h1), (1, .ref h2)]) hx hb dX6_begin_33 hl (k := 0) rfl (by decide +kernel) (by decide) rfl (fun ls hl => ?_)
  refine lv_goto (tgt := 10) hx hb dX6_begin_36 (by decide) ?_
  refine lv_iload_n hx hb dX6_begin_10 rfl (lv_at hl 0 rfl) ?_
  refine lv_aload_n hx hb dX6_begin_11 rfl (lv_at hl 1 rfl) ?_
  refine xget F hP 11 rfl rfl inX6 1 (by decide) tb294 rfl dX6_begin_12 ?_
  refine xlen (v := 5) F hP 12 0 rfl rfl rfl dX6_begin_15 ?_
  refine lv_icmp_ge (tgt := 39) hx hb dX6_begin_16 (by decide) (fun _ => ?_) (fun c_ => absurd (by decide +kernel) c_)
  refine lv_iconst (v := 0) hx hb dX6_begin_39 (by decide) ?_
  refine lv_istore_n (lv' := [(2, .int 0), (0, .ref h1), (1, .ref h2)]) hx hb dX6_begin_40 rfl hl (by decide) rfl (fun ls hl => ?_)
  refine lv_iload_n hx hb dX6_begin_41 rfl (lv_at hl 0 rfl) ?_
  refine lv_aload_n hx hb dX6_begin_42 rfl (lv_at hl 1 rfl) ?_
  refine xget F hP 11 rfl rfl inX6 2 (by decide) tb296 rfl dX6_begin_43 ?_
  refine xlen (v := 4) F hP 13 0 rfl rfl rfl dX6_begin_46 ?_
  refine lv_icmp_ge (tgt := 70) hx hb dX6_begin_47 (by decide) (fun c_ => absurd c_ (by decide +kernel)) (fun _ => ?_)
  refine lv_aload_n hx hb dX6_begin_50 rfl (lv_at hl 1 rfl) ?_
  refine xget F hP 11 rfl rfl inX6 2 (by decide) tb296 rfl dX6_begin_51 ?_
  refine lv_iload_n hx hb dX6_begin_54 rfl (lv_at hl 0 rfl) ?_
  refine lv_aload_n hx hb dX6_begin_55 rfl (lv_at hl 2 rfl) ?_
  refine xget F hP 14 rfl rfl inX8 2 (by decide) tb238 rfl dX6_begin_56 ?_
  refine lv_iload_n hx hb dX6_begin_59 rfl (lv_at hl 0 rfl) ?_
  refine xrlo (v := (R4 0)) F hP 0 rfl 0 (by decide +kernel) (by decide +kernel) (by decide) rfl dX6_begin_60 ?_
  refine lv_iconst (v := 1) hx hb dX6_begin_61 (by decide) ?_
  refine xilo (v := 0) F hP 2 rfl 1 (by decide +kernel) (by decide +kernel) (by decide) (by decide +kernel) dX6_begin_62 ?_
  refine xist (f' := fun _ => 0) F hP hD hS 13 rfl 0 (by decide +kernel) (by decide +kernel) (by decide) (xup0 _) dX6_begin_63 (fun H locs hP hD hS => ?_)
  have hP : va_P g vwCl [(h3, .inl (aC 6, 4, .inr (.inr (.inr (.inr (fun i => if i < 4 then some (R4 i) else none)))))), (h5, .inl (aC 6, 5, .inr (.inr (.inr (.inr (fun i => if i < 5 then some (R6 i) else none)))))), ((R4 0), .inl (aC 0, 2, .inl (fun _ => 0))), ((R4 1), .inl (aC 0, 2, .inl (fun _ => 0))), ((R4 2), .inl (aC 0, 2, .inl (fun _ => 0))), ((R4 3), .inl (aC 0, 2, .inl (fun _ => 0))), ((R6 0), .inl (aC 0, 4, .inl (fun _ => 0))), ((R6 1), .inl (aC 0, 4, .inl (fun _ => 0))), ((R6 2), .inl (aC 0, 4, .inl (fun _ => 0))), ((R6 3), .inl (aC 0, 4, .inl (fun _ => 0))), ((R6 4), .inl (aC 0, 4, .inl (fun _ => 0))), (h1, .inr (6, [.int 0, .ref h7, .ref h8, .int 0, .int 0, .int 0])), (h7, .inl (aC 0, 5, .inl (fun _ => 0))), (h8, .inl (aC 0, 4, .inl (fun _ => 0))), (h2, .inr (8, [.ref h9, x10, .ref h3, .ref h5, x11, .int 0, x12, x13, x14, x15, x16, x17])), (h9, .inl (aC 0, 5, .inl (fun _ => 0)))] H := hP
  have hD : va_D A [(h3, .inl (aC 6, 4, .inr (.inr (.inr (.inr (fun i => if i < 4 then some (R4 i) else none)))))), (h5, .inl (aC 6, 5, .inr (.inr (.inr (.inr (fun i => if i < 5 then some (R6 i) else none)))))), ((R4 0), .inl (aC 0, 2, .inl (fun _ => 0))), ((R4 1), .inl (aC 0, 2, .inl (fun _ => 0))), ((R4 2), .inl (aC 0, 2, .inl (fun _ => 0))), ((R4 3), .inl (aC 0, 2, .inl (fun _ => 0))), ((R6 0), .inl (aC 0, 4, .inl (fun _ => 0))), ((R6 1), .inl (aC 0, 4, .inl (fun _ => 0))), ((R6 2), .inl (aC 0, 4, .inl (fun _ => 0))), ((R6 3), .inl (aC 0, 4, .inl (fun _ => 0))), ((R6 4), .inl (aC 0, 4, .inl (fun _ => 0))), (h1, .inr (6, [.int 0, .ref h7, .ref h8, .int 0, .int 0, .int 0])), (h7, .inl (aC 0, 5, .inl (fun _ => 0))), (h8, .inl (aC 0, 4, .inl (fun _ => 0))), (h2, .inr (8, [.ref h9, x10, .ref h3, .ref h5, x11, .int 0, x12, x13, x14, x15, x16, x17])), (h9, .inl (aC 0, 5, .inl (fun _ => 0)))] := hD
  refine lv_iinc (v := 1) (lv' := [(2, .int 1), (0, .ref h1), (1, .ref h2)]) hx hb dX6_begin_64 hl (k := 0) rfl (by decide +kernel) (by decide) rfl (fun ls hl => ?_)
  refine lv_goto (tgt := 41) hx hb dX6_begin_67 (by decide) ?_
  refine lv_iload_n hx hb dX6_begin_41 rfl (lv_at hl 0 rfl) ?_
  refine lv_aload_n hx hb dX6_begin_42 rfl (lv_at hl 1 rfl) ?_
  refine xget F hP 11 rfl rfl inX6 2 (by decide) tb296 rfl dX6_begin_43 ?_
  refine xlen (v := 4) F hP 13 0 rfl rfl rfl dX6_begin_46 ?_
  refine lv_icmp_ge (tgt := 70) hx hb dX6_begin_47 (by decide) (fun c_ => absurd c_ (by decide +kernel)) (fun _ => ?_)
  refine lv_aload_n hx hb dX6_begin_50 rfl (lv_at hl 1 rfl) ?_
  refine xget F hP 11 rfl rfl inX6 2 (by decide) tb296 rfl dX6_begin_51 ?_
  refine lv_iload_n hx hb dX6_begin_54 rfl (lv_at hl 0 rfl) ?_
  refine lv_aload_n hx hb dX6_begin_55 rfl (lv_at hl 2 rfl) ?_
  refine xget F hP 14 rfl rfl inX8 2 (by decide) tb238 rfl dX6_begin_56 ?_
  refine lv_iload_n hx hb dX6_begin_59 rfl (lv_at hl 0 rfl) ?_
  refine xrlo (v := (R4 1)) F hP 0 rfl 1 (by decide +kernel) (by decide +kernel) (by decide) rfl dX6_begin_60 ?_
  refine lv_iconst (v := 1) hx hb dX6_begin_61 (by decide) ?_
  refine xilo (v := 0) F hP 3 rfl 1 (by decide +kernel) (by decide +kernel) (by decide) (by decide +kernel) dX6_begin_62 ?_
  refine xist (f' := fun _ => 0) F hP hD hS 13 rfl 1 (by decide +kernel) (by decide +kernel) (by decide) (xup0 _) dX6_begin_63 (fun H locs hP hD hS => ?_)
  have hP : va_P g vwCl [(h3, .inl (aC 6, 4, .inr (.inr (.inr (.inr (fun i => if i < 4 then some (R4 i) else none)))))), (h5, .inl (aC 6, 5, .inr (.inr (.inr (.inr (fun i => if i < 5 then some (R6 i) else none)))))), ((R4 0), .inl (aC 0, 2, .inl (fun _ => 0))), ((R4 1), .inl (aC 0, 2, .inl (fun _ => 0))), ((R4 2), .inl (aC 0, 2, .inl (fun _ => 0))), ((R4 3), .inl (aC 0, 2, .inl (fun _ => 0))), ((R6 0), .inl (aC 0, 4, .inl (fun _ => 0))), ((R6 1), .inl (aC 0, 4, .inl (fun _ => 0))), ((R6 2), .inl (aC 0, 4, .inl (fun _ => 0))), ((R6 3), .inl (aC 0, 4, .inl (fun _ => 0))), ((R6 4), .inl (aC 0, 4, .inl (fun _ => 0))), (h1, .inr (6, [.int 0, .ref h7, .ref h8, .int 0, .int 0, .int 0])), (h7, .inl (aC 0, 5, .inl (fun _ => 0))), (h8, .inl (aC 0, 4, .inl (fun _ => 0))), (h2, .inr (8, [.ref h9, x10, .ref h3, .ref h5, x11, .int 0, x12, x13, x14, x15, x16, x17])), (h9, .inl (aC 0, 5, .inl (fun _ => 0)))] H := hP
  have hD : va_D A [(h3, .inl (aC 6, 4, .inr (.inr (.inr (.inr (fun i => if i < 4 then some (R4 i) else none)))))), (h5, .inl (aC 6, 5, .inr (.inr (.inr (.inr (fun i => if i < 5 then some (R6 i) else none)))))), ((R4 0), .inl (aC 0, 2, .inl (fun _ => 0))), ((R4 1), .inl (aC 0, 2, .inl (fun _ => 0))), ((R4 2), .inl (aC 0, 2, .inl (fun _ => 0))), ((R4 3), .inl (aC 0, 2, .inl (fun _ => 0))), ((R6 0), .inl (aC 0, 4, .inl (fun _ => 0))), ((R6 1), .inl (aC 0, 4, .inl (fun _ => 0))), ((R6 2), .inl (aC 0, 4, .inl (fun _ => 0))), ((R6 3), .inl (aC 0, 4, .inl (fun _ => 0))), ((R6 4), .inl (aC 0, 4, .inl (fun _ => 0))), (h1, .inr (6, [.int 0, .ref h7, .ref h8, .int 0, .int 0, .int 0])), (h7, .inl (aC 0, 5, .inl (fun _ => 0))), (h8, .inl (aC 0, 4, .inl (fun _ => 0))), (h2, .inr (8, [.ref h9, x10, .ref h3, .ref h5, x11, .int 0, x12, x13, x14, x15, x16, x17])), (h9, .inl (aC 0, 5, .inl (fun _ => 0)))] := hD
  refine lv_iinc (v := 2) (lv' := [(2, .int 2), (0, .ref h1), (1, .ref h2)]) hx hb dX6_begin_64 hl (k := 0) rfl (by decide +kernel) (by decide) rfl (fun ls hl => ?_)
  refine lv_goto (tgt := 41) hx hb dX6_begin_67 (by decide) ?_
  refine lv_iload_n hx hb dX6_begin_41 rfl (lv_at hl 0 rfl) ?_
  refine lv_aload_n hx hb dX6_begin_42 rfl (lv_at hl 1 rfl) ?_
  refine xget F hP 11 rfl rfl inX6 2 (by decide) tb296 rfl dX6_begin_43 ?_
  refine xlen (v := 4) F hP 13 0 rfl rfl rfl dX6_begin_46 ?_
  refine lv_icmp_ge (tgt := 70) hx hb dX6_begin_47 (by decide) (fun c_ => absurd c_ (by decide +kernel)) (fun _ => ?_)
  refine lv_aload_n hx hb dX6_begin_50 rfl (lv_at hl 1 rfl) ?_
  refine xget F hP 11 rfl rfl inX6 2 (by decide) tb296 rfl dX6_begin_51 ?_
  refine lv_iload_n hx hb dX6_begin_54 rfl (lv_at hl 0 rfl) ?_
  refine lv_aload_n hx hb dX6_begin_55 rfl (lv_at hl 2 rfl) ?_
  refine xget F hP 14 rfl rfl inX8 2 (by decide) tb238 rfl dX6_begin_56 ?_
  refine lv_iload_n hx hb dX6_begin_59 rfl (lv_at hl 0 rfl) ?_
  refine xrlo (v := (R4 2)) F hP 0 rfl 2 (by decide +kernel) (by decide +kernel) (by decide) rfl dX6_begin_60 ?_
  refine lv_iconst (v := 1) hx hb dX6_begin_61 (by decide) ?_
  refine xilo (v := 0) F hP 4 rfl 1 (by decide +kernel) (by decide +kernel) (by decide) (by decide +kernel) dX6_begin_62 ?_
  refine xist (f' := fun _ => 0) F hP hD hS 13 rfl 2 (by decide +kernel) (by decide +kernel) (by decide) (xup0 _) dX6_begin_63 (fun H locs hP hD hS => ?_)
  have hP : va_P g vwCl [(h3, .inl (aC 6, 4, .inr (.inr (.inr (.inr (fun i => if i < 4 then some (R4 i) else none)))))), (h5, .inl (aC 6, 5, .inr (.inr (.inr (.inr (fun i => if i < 5 then some (R6 i) else none)))))), ((R4 0), .inl (aC 0, 2, .inl (fun _ => 0))), ((R4 1), .inl (aC 0, 2, .inl (fun _ => 0))), ((R4 2), .inl (aC 0, 2, .inl (fun _ => 0))), ((R4 3), .inl (aC 0, 2, .inl (fun _ => 0))), ((R6 0), .inl (aC 0, 4, .inl (fun _ => 0))), ((R6 1), .inl (aC 0, 4, .inl (fun _ => 0))), ((R6 2), .inl (aC 0, 4, .inl (fun _ => 0))), ((R6 3), .inl (aC 0, 4, .inl (fun _ => 0))), ((R6 4), .inl (aC 0, 4, .inl (fun _ => 0))), (h1, .inr (6, [.int 0, .ref h7, .ref h8, .int 0, .int 0, .int 0])), (h7, .inl (aC 0, 5, .inl (fun _ => 0))), (h8, .inl (aC 0, 4, .inl (fun _ => 0))), (h2, .inr (8, [.ref h9, x10, .ref h3, .ref h5, x11, .int 0, x12, x13, x14, x15, x16, x17])), (h9, .inl (aC 0, 5, .inl (fun _ => 0)))] H := hP
  have hD : va_D A [(h3, .inl (aC 6, 4, .inr (.inr (.inr (.inr (fun i => if i < 4 then some (R4 i) else none)))))), (h5, .inl (aC 6, 5, .inr (.inr (.inr (.inr (fun i => if i < 5 then some (R6 i) else none)))))), ((R4 0), .inl (aC 0, 2, .inl (fun _ => 0))), ((R4 1), .inl (aC 0, 2, .inl (fun _ => 0))), ((R4 2), .inl (aC 0, 2, .inl (fun _ => 0))), ((R4 3), .inl (aC 0, 2, .inl (fun _ => 0))), ((R6 0), .inl (aC 0, 4, .inl (fun _ => 0))), ((R6 1), .inl (aC 0, 4, .inl (fun _ => 0))), ((R6 2), .inl (aC 0, 4, .inl (fun _ => 0))), ((R6 3), .inl (aC 0, 4, .inl (fun _ => 0))), ((R6 4), .inl (aC 0, 4, .inl (fun _ => 0))), (h1, .inr (6, [.int 0, .ref h7, .ref h8, .int 0, .int 0, .int 0])), (h7, .inl (aC 0, 5, .inl (fun _ => 0))), (h8, .inl (aC 0, 4, .inl (fun _ => 0))), (h2, .inr (8, [.ref h9, x10, .ref h3, .ref h5, x11, .int 0, x12, x13, x14, x15, x16, x17])), (h9, .inl (aC 0, 5, .inl (fun _ => 0)))] := hD
  refine lv_iinc (v := 3) (lv' := [(2, .int 3), (0, .ref h1), (1, .ref h2)]) hx hb dX6_begin_64 hl (k := 0) rfl (by decide +kernel) (by decide) rfl (fun ls hl => ?_)
  refine lv_goto (tgt := 41) hx hb dX6_begin_67 (by decide) ?_
  refine lv_iload_n hx hb dX6_begin_41 rfl (lv_at hl 0 rfl) ?_
  refine lv_aload_n hx hb dX6_begin_42 rfl (lv_at hl 1 rfl) ?_
  refine xget F hP 11 rfl rfl inX6 2 (by decide) tb296 rfl dX6_begin_43 ?_
  refine xlen (v := 4) F hP 13 0 rfl rfl rfl dX6_begin_46 ?_
  refine lv_icmp_ge (tgt := 70) hx hb dX6_begin_47 (by decide) (fun c_ => absurd c_ (by decide +kernel)) (fun _ => ?_)
  refine lv_aload_n hx hb dX6_begin_50 rfl (lv_at hl 1 rfl) ?_
  refine xget F hP 11 rfl rfl inX6 2 (by decide) tb296 rfl dX6_begin_51 ?_
  refine lv_iload_n hx hb dX6_begin_54 rfl (lv_at hl 0 rfl) ?_
  refine lv_aload_n hx hb dX6_begin_55 rfl (lv_at hl 2 rfl) ?_
  refine xget F hP 14 rfl rfl inX8 2 (by decide) tb238 rfl dX6_begin_56 ?_
  refine lv_iload_n hx hb dX6_begin_59 rfl (lv_at hl 0 rfl) ?_
  refine xrlo (v := (R4 3)) F hP 0 rfl 3 (by decide +kernel) (by decide +kernel) (by decide) rfl dX6_begin_60 ?_
  refine lv_iconst (v := 1) hx hb dX6_begin_61 (by decide) ?_
  refine xilo (v := 0) F hP 5 rfl 1 (by decide +kernel) (by decide +kernel) (by decide) (by decide +kernel) dX6_begin_62 ?_
  refine xist (f' := fun _ => 0) F hP hD hS 13 rfl 3 (by decide +kernel) (by decide +kernel) (by decide) (xup0 _) dX6_begin_63 (fun H locs hP hD hS => ?_)
  have hP : va_P g vwCl [(h3, .inl (aC 6, 4, .inr (.inr (.inr (.inr (fun i => if i < 4 then some (R4 i) else none)))))), (h5, .inl (aC 6, 5, .inr (.inr (.inr (.inr (fun i => if i < 5 then some (R6 i) else none)))))), ((R4 0), .inl (aC 0, 2, .inl (fun _ => 0))), ((R4 1), .inl (aC 0, 2, .inl (fun _ => 0))), ((R4 2), .inl (aC 0, 2, .inl (fun _ => 0))), ((R4 3), .inl (aC 0, 2, .inl (fun _ => 0))), ((R6 0), .inl (aC 0, 4, .inl (fun _ => 0))), ((R6 1), .inl (aC 0, 4, .inl (fun _ => 0))), ((R6 2), .inl (aC 0, 4, .inl (fun _ => 0))), ((R6 3), .inl (aC 0, 4, .inl (fun _ => 0))), ((R6 4), .inl (aC 0, 4, .inl (fun _ => 0))), (h1, .inr (6, [.int 0, .ref h7, .ref h8, .int 0, .int 0, .int 0])), (h7, .inl (aC 0, 5, .inl (fun _ => 0))), (h8, .inl (aC 0, 4, .inl (fun _ => 0))), (h2, .inr (8, [.ref h9, x10, .ref h3, .ref h5, x11, .int 0, x12, x13, x14, x15, x16, x17])), (h9, .inl (aC 0, 5, .inl (fun _ => 0)))] H := hP
  have hD : va_D A [(h3, .inl (aC 6, 4, .inr (.inr (.inr (.inr (fun i => if i < 4 then some (R4 i) else none)))))), (h5, .inl (aC 6, 5, .inr (.inr (.inr (.inr (fun i => if i < 5 then some (R6 i) else none)))))), ((R4 0), .inl (aC 0, 2, .inl (fun _ => 0))), ((R4 1), .inl (aC 0, 2, .inl (fun _ => 0))), ((R4 2), .inl (aC 0, 2, .inl (fun _ => 0))), ((R4 3), .inl (aC 0, 2, .inl (fun _ => 0))), ((R6 0), .inl (aC 0, 4, .inl (fun _ => 0))), ((R6 1), .inl (aC 0, 4, .inl (fun _ => 0))), ((R6 2), .inl (aC 0, 4, .inl (fun _ => 0))), ((R6 3), .inl (aC 0, 4, .inl (fun _ => 0))), ((R6 4), .inl (aC 0, 4, .inl (fun _ => 0))), (h1, .inr (6, [.int 0, .ref h7, .ref h8, .int 0, .int 0, .int 0])), (h7, .inl (aC 0, 5, .inl (fun _ => 0))), (h8, .inl (aC 0, 4, .inl (fun _ => 0))), (h2, .inr (8, [.ref h9, x10, .ref h3, .ref h5, x11, .int 0, x12, x13, x14, x15, x16, x17])), (h9, .inl (aC 0, 5, .inl (fun _ => 0)))] := hD
  refine lv_iinc (v := 4) (lv' := [(2, .int 4), (0, .ref h1), (1, .ref h2)]) hx hb dX6_begin_64 hl (k := 0) rfl (by decide +kernel) (by decide) rfl (fun ls hl => ?_)
  refine lv_goto (tgt := 41) hx hb dX6_begin_67 (by decide) ?_
  refine lv_iload_n hx hb dX6_begin_41 rfl (lv_at hl 0 rfl) ?_
  refine lv_aload_n hx hb dX6_begin_42 rfl (lv_at hl 1 rfl) ?_
  refine xget F hP 11 rfl rfl inX6 2 (by decide) tb296 rfl dX6_begin_43 ?_
  refine xlen (v := 4) F hP 13 0 rfl rfl rfl dX6_begin_46 ?_
  refine lv_icmp_ge (tgt := 70) hx hb dX6_begin_47 (by decide) (fun _ => ?_) (fun c_ => absurd (by decide +kernel) c_)
  refine lv_aload_n hx hb dX6_begin_70 rfl (lv_at hl 1 rfl) ?_
  refine lv_aload_n hx hb dX6_begin_71 rfl (lv_at hl 2 rfl) ?_
  refine xget F hP 14 rfl rfl inX8 5 (by decide) tb248 rfl dX6_begin_72 ?_
  refine xput F hP hD hS 11 rfl rfl inX6 tyX6_ok nmX6 3 (by decide) tb298 rfl rfl rfl (Nat.le_of_ble_eq_true rfl) dX6_begin_75 (fun H locs hP hD hS => ?_)
  have hP : va_P g vwCl [(h3, .inl (aC 6, 4, .inr (.inr (.inr (.inr (fun i => if i < 4 then some (R4 i) else none)))))), (h5, .inl (aC 6, 5, .inr (.inr (.inr (.inr (fun i => if i < 5 then some (R6 i) else none)))))), ((R4 0), .inl (aC 0, 2, .inl (fun _ => 0))), ((R4 1), .inl (aC 0, 2, .inl (fun _ => 0))), ((R4 2), .inl (aC 0, 2, .inl (fun _ => 0))), ((R4 3), .inl (aC 0, 2, .inl (fun _ => 0))), ((R6 0), .inl (aC 0, 4, .inl (fun _ => 0))), ((R6 1), .inl (aC 0, 4, .inl (fun _ => 0))), ((R6 2), .inl (aC 0, 4, .inl (fun _ => 0))), ((R6 3), .inl (aC 0, 4, .inl (fun _ => 0))), ((R6 4), .inl (aC 0, 4, .inl (fun _ => 0))), (h1, .inr (6, [.int 0, .ref h7, .ref h8, .int 0, .int 0, .int 0])), (h7, .inl (aC 0, 5, .inl (fun _ => 0))), (h8, .inl (aC 0, 4, .inl (fun _ => 0))), (h2, .inr (8, [.ref h9, x10, .ref h3, .ref h5, x11, .int 0, x12, x13, x14, x15, x16, x17])), (h9, .inl (aC 0, 5, .inl (fun _ => 0)))] H := hP
  have hD : va_D A [(h3, .inl (aC 6, 4, .inr (.inr (.inr (.inr (fun i => if i < 4 then some (R4 i) else none)))))), (h5, .inl (aC 6, 5, .inr (.inr (.inr (.inr (fun i => if i < 5 then some (R6 i) else none)))))), ((R4 0), .inl (aC 0, 2, .inl (fun _ => 0))), ((R4 1), .inl (aC 0, 2, .inl (fun _ => 0))), ((R4 2), .inl (aC 0, 2, .inl (fun _ => 0))), ((R4 3), .inl (aC 0, 2, .inl (fun _ => 0))), ((R6 0), .inl (aC 0, 4, .inl (fun _ => 0))), ((R6 1), .inl (aC 0, 4, .inl (fun _ => 0))), ((R6 2), .inl (aC 0, 4, .inl (fun _ => 0))), ((R6 3), .inl (aC 0, 4, .inl (fun _ => 0))), ((R6 4), .inl (aC 0, 4, .inl (fun _ => 0))), (h1, .inr (6, [.int 0, .ref h7, .ref h8, .int 0, .int 0, .int 0])), (h7, .inl (aC 0, 5, .inl (fun _ => 0))), (h8, .inl (aC 0, 4, .inl (fun _ => 0))), (h2, .inr (8, [.ref h9, x10, .ref h3, .ref h5, x11, .int 0, x12, x13, x14, x15, x16, x17])), (h9, .inl (aC 0, 5, .inl (fun _ => 0)))] := hD
  refine lv_aload_n hx hb dX6_begin_78 rfl (lv_at hl 1 rfl) ?_
  refine lv_iconst (v := 0) hx hb dX6_begin_79 (by decide) ?_
  refine xput F hP hD hS 11 rfl rfl inX6 tyX6_ok nmX6 4 (by decide) tb300 rfl rfl rfl (Nat.le_of_ble_eq_true rfl) dX6_begin_80 (fun H locs hP hD hS => ?_)
  have hP : va_P g vwCl [(h3, .inl (aC 6, 4, .inr (.inr (.inr (.inr (fun i => if i < 4 then some (R4 i) else none)))))), (h5, .inl (aC 6, 5, .inr (.inr (.inr (.inr (fun i => if i < 5 then some (R6 i) else none)))))), ((R4 0), .inl (aC 0, 2, .inl (fun _ => 0))), ((R4 1), .inl (aC 0, 2, .inl (fun _ => 0))), ((R4 2), .inl (aC 0, 2, .inl (fun _ => 0))), ((R4 3), .inl (aC 0, 2, .inl (fun _ => 0))), ((R6 0), .inl (aC 0, 4, .inl (fun _ => 0))), ((R6 1), .inl (aC 0, 4, .inl (fun _ => 0))), ((R6 2), .inl (aC 0, 4, .inl (fun _ => 0))), ((R6 3), .inl (aC 0, 4, .inl (fun _ => 0))), ((R6 4), .inl (aC 0, 4, .inl (fun _ => 0))), (h1, .inr (6, [.int 0, .ref h7, .ref h8, .int 0, .int 0, .int 0])), (h7, .inl (aC 0, 5, .inl (fun _ => 0))), (h8, .inl (aC 0, 4, .inl (fun _ => 0))), (h2, .inr (8, [.ref h9, x10, .ref h3, .ref h5, x11, .int 0, x12, x13, x14, x15, x16, x17])), (h9, .inl (aC 0, 5, .inl (fun _ => 0)))] H := hP
  have hD : va_D A [(h3, .inl (aC 6, 4, .inr (.inr (.inr (.inr (fun i => if i < 4 then some (R4 i) else none)))))), (h5, .inl (aC 6, 5, .inr (.inr (.inr (.inr (fun i => if i < 5 then some (R6 i) else none)))))), ((R4 0), .inl (aC 0, 2, .inl (fun _ => 0))), ((R4 1), .inl (aC 0, 2, .inl (fun _ => 0))), ((R4 2), .inl (aC 0, 2, .inl (fun _ => 0))), ((R4 3), .inl (aC 0, 2, .inl (fun _ => 0))), ((R6 0), .inl (aC 0, 4, .inl (fun _ => 0))), ((R6 1), .inl (aC 0, 4, .inl (fun _ => 0))), ((R6 2), .inl (aC 0, 4, .inl (fun _ => 0))), ((R6 3), .inl (aC 0, 4, .inl (fun _ => 0))), ((R6 4), .inl (aC 0, 4, .inl (fun _ => 0))), (h1, .inr (6, [.int 0, .ref h7, .ref h8, .int 0, .int 0, .int 0])), (h7, .inl (aC 0, 5, .inl (fun _ => 0))), (h8, .inl (aC 0, 4, .inl (fun _ => 0))), (h2, .inr (8, [.ref h9, x10, .ref h3, .ref h5, x11, .int 0, x12, x13, x14, x15, x16, x17])), (h9, .inl (aC 0, 5, .inl (fun _ => 0)))] := hD
  refine lv_aload_n hx hb dX6_begin_83 rfl (lv_at hl 1 rfl) ?_
  refine lv_iconst (v := 0) hx hb dX6_begin_84 (by decide) ?_
  refine xput F hP hD hS 11 rfl rfl inX6 tyX6_ok nmX6 5 (by decide) tb302 rfl rfl rfl (Nat.le_of_ble_eq_true rfl) dX6_begin_85 (fun H locs hP hD hS => ?_)
  have hP : va_P g vwCl [(h3, .inl (aC 6, 4, .inr (.inr (.inr (.inr (fun i => if i < 4 then some (R4 i) else none)))))), (h5, .inl (aC 6, 5, .inr (.inr (.inr (.inr (fun i => if i < 5 then some (R6 i) else none)))))), ((R4 0), .inl (aC 0, 2, .inl (fun _ => 0))), ((R4 1), .inl (aC 0, 2, .inl (fun _ => 0))), ((R4 2), .inl (aC 0, 2, .inl (fun _ => 0))), ((R4 3), .inl (aC 0, 2, .inl (fun _ => 0))), ((R6 0), .inl (aC 0, 4, .inl (fun _ => 0))), ((R6 1), .inl (aC 0, 4, .inl (fun _ => 0))), ((R6 2), .inl (aC 0, 4, .inl (fun _ => 0))), ((R6 3), .inl (aC 0, 4, .inl (fun _ => 0))), ((R6 4), .inl (aC 0, 4, .inl (fun _ => 0))), (h1, .inr (6, [.int 0, .ref h7, .ref h8, .int 0, .int 0, .int 0])), (h7, .inl (aC 0, 5, .inl (fun _ => 0))), (h8, .inl (aC 0, 4, .inl (fun _ => 0))), (h2, .inr (8, [.ref h9, x10, .ref h3, .ref h5, x11, .int 0, x12, x13, x14, x15, x16, x17])), (h9, .inl (aC 0, 5, .inl (fun _ => 0)))] H := hP
  have hD : va_D A [(h3, .inl (aC 6, 4, .inr (.inr (.inr (.inr (fun i => if i < 4 then some (R4 i) else none)))))), (h5, .inl (aC 6, 5, .inr (.inr (.inr (.inr (fun i => if i < 5 then some (R6 i) else none)))))), ((R4 0), .inl (aC 0, 2, .inl (fun _ => 0))), ((R4 1), .inl (aC 0, 2, .inl (fun _ => 0))), ((R4 2), .inl (aC 0, 2, .inl (fun _ => 0))), ((R4 3), .inl (aC 0, 2, .inl (fun _ => 0))), ((R6 0), .inl (aC 0, 4, .inl (fun _ => 0))), ((R6 1), .inl (aC 0, 4, .inl (fun _ => 0))), ((R6 2), .inl (aC 0, 4, .inl (fun _ => 0))), ((R6 3), .inl (aC 0, 4, .inl (fun _ => 0))), ((R6 4), .inl (aC 0, 4, .inl (fun _ => 0))), (h1, .inr (6, [.int 0, .ref h7, .ref h8, .int 0, .int 0, .int 0])), (h7, .inl (aC 0, 5, .inl (fun _ => 0))), (h8, .inl (aC 0, 4, .inl (fun _ => 0))), (h2, .inr (8, [.ref h9, x10, .ref h3, .ref h5, x11, .int 0, x12, x13, x14, x15, x16, x17])), (h9, .inl (aC 0, 5, .inl (fun _ => 0)))] := hD
  have hP9 := hP.sub (ws' := [(h3, .inl (aC 6, 4, .inr (.inr (.inr (.inr (fun i => if i < 4 then some (R4 i) else none)))))), (h5, .inl (aC 6, 5, .inr (.inr (.inr (.inr (fun i => if i < 5 then some (R6 i) else none)))))), ((R4 0), .inl (aC 0, 2, .inl (fun _ => 0))), ((R4 1), .inl (aC 0, 2, .inl (fun _ => 0))), ((R4 2), .inl (aC 0, 2, .inl (fun _ => 0))), ((R4 3), .inl (aC 0, 2, .inl (fun _ => 0))), ((R6 0), .inl (aC 0, 4, .inl (fun _ => 0))), ((R6 1), .inl (aC 0, 4, .inl (fun _ => 0))), ((R6 2), .inl (aC 0, 4, .inl (fun _ => 0))), ((R6 3), .inl (aC 0, 4, .inl (fun _ => 0))), ((R6 4), .inl (aC 0, 4, .inl (fun _ => 0))), (h1, .inr (6, [.int 0, .ref h7, .ref h8, .int 0, .int 0, .int 0])), (h7, .inl (aC 0, 5, .inl (fun _ => 0))), (h8, .inl (aC 0, 4, .inl (fun _ => 0))), (h2, .inr (8, [.ref h9, x10, .ref h3, .ref h5, x11, .int 0, x12, x13, x14, x15, x16, x17])), (h9, .inl (aC 0, 5, .inl (fun _ => 0)))]) [0, 1, 2, 3, 4, 5, 6, 7, 8, 9, 10, 11, 12, 13, 14, 15] rfl
  have hD9 := hD.sub (ws' := [(h3, .inl (aC 6, 4, .inr (.inr (.inr (.inr (fun i => if i < 4 then some (R4 i) else none)))))), (h5, .inl (aC 6, 5, .inr (.inr (.inr (.inr (fun i => if i < 5 then some (R6 i) else none)))))), ((R4 0), .inl (aC 0, 2, .inl (fun _ => 0))), ((R4 1), .inl (aC 0, 2, .inl (fun _ => 0))), ((R4 2), .inl (aC 0, 2, .inl (fun _ => 0))), ((R4 3), .inl (aC 0, 2, .inl (fun _ => 0))), ((R6 0), .inl (aC 0, 4, .inl (fun _ => 0))), ((R6 1), .inl (aC 0, 4, .inl (fun _ => 0))), ((R6 2), .inl (aC 0, 4, .inl (fun _ => 0))), ((R6 3), .inl (aC 0, 4, .inl (fun _ => 0))), ((R6 4), .inl (aC 0, 4, .inl (fun _ => 0))), (h1, .inr (6, [.int 0, .ref h7, .ref h8, .int 0, .int 0, .int 0])), (h7, .inl (aC 0, 5, .inl (fun _ => 0))), (h8, .inl (aC 0, 4, .inl (fun _ => 0))), (h2, .inr (8, [.ref h9, x10, .ref h3, .ref h5, x11, .int 0, x12, x13, x14, x15, x16, x17])), (h9, .inl (aC 0, 5, .inl (fun _ => 0)))]) [0, 1, 2, 3, 4, 5, 6, 7, 8, 9, 10, 11, 12, 13, 14, 15] (by decide) rfl
  exact rV () hx hb hr hlk hS trivial hP9 hD9 (Nat.le_of_ble_eq_true rfl) (Nat.le_of_ble_eq_true rfl) dX6_begin_88

theorem tb325 : (Jvm.Cond.fieldLink "StairGang$Said" (18 : Nat) "StairGang$Said" "lineCount" "I") ∈ gw := lw_m 325 (by decide +kernel)
theorem tb327 : (Jvm.Cond.fieldLink "StairGang$Said" (22 : Nat) "StairGang$Said" "seenCount" "I") ∈ gw := lw_m 327 (by decide +kernel)
theorem tb330 : (Jvm.Cond.fieldLink "StairGang$Said" (25 : Nat) "StairGang$Said" "seenCame" "I") ∈ gw := lw_m 330 (by decide +kernel)
theorem tb708 : (Jvm.Cond.methodLink "StairGang" (107 : Nat) ({ cls := "StairGang$State", name := "begin", desc := "(LStairGang$Town;)V" } : Jvm.MethodName)) ∈ gw := lw_m 708 (by decide +kernel)
theorem tb709 : (Jvm.Cond.instanceMethod ({ cls := "StairGang$State", name := "begin", desc := "(LStairGang$Town;)V" } : Jvm.MethodName)) ∈ gw := lw_m 709 (by decide +kernel)
theorem tb710 : (Jvm.Cond.selects "StairGang$State" ({ cls := "StairGang$State", name := "begin", desc := "(LStairGang$Town;)V" } : Jvm.MethodName) ({ cls := "StairGang$State", name := "begin", desc := "(LStairGang$Town;)V" } : Jvm.MethodName)) ∈ gw := lw_m 710 (by decide +kernel)
theorem tb711 : (Jvm.Cond.code ({ cls := "StairGang$State", name := "begin", desc := "(LStairGang$Town;)V" } : Jvm.MethodName) prog_8_method_2_code (3 : Nat) (Option.none : Option Jvm.ClassFile.FieldType)) ∈ gw := lw_m 711 (by decide +kernel)
theorem dX10_town_53 : decode cX10_town 53 = .ok (.aload_n 0, 1) := by decide +kernel
theorem dX10_town_54 : decode cX10_town 54 = .ok (.getfield 55, 3) := by decide +kernel
theorem dX10_town_57 : decode cX10_town 57 = .ok (.invokevirtual 111, 3) := by decide +kernel
theorem dX5_clear_0 : decode cX5_clear 0 = .ok (.aload_n 0, 1) := by decide +kernel
theorem dX5_clear_1 : decode cX5_clear 1 = .ok (.iconst 0, 1) := by decide +kernel
theorem dX5_clear_2 : decode cX5_clear 2 = .ok (.putfield 18, 3) := by decide +kernel
theorem dX5_clear_5 : decode cX5_clear 5 = .ok (.aload_n 0, 1) := by decide +kernel
theorem dX5_clear_6 : decode cX5_clear 6 = .ok (.iconst 0, 1) := by decide +kernel
theorem dX5_clear_7 : decode cX5_clear 7 = .ok (.putfield 22, 3) := by decide +kernel
theorem dX5_clear_10 : decode cX5_clear 10 = .ok (.aload_n 0, 1) := by decide +kernel
theorem dX5_clear_11 : decode cX5_clear 11 = .ok (.iconst 0, 1) := by decide +kernel
theorem dX5_clear_12 : decode cX5_clear 12 = .ok (.putfield 25, 3) := by decide +kernel
theorem dX5_clear_15 : decode cX5_clear 15 = .ok (.return_, 1) := by decide +kernel
set_option maxHeartbeats 4000000 in
set_option maxRecDepth 100000 in
theorem a_X5_clear_1 (l : Launch) (g : va_G) (aC : Nat → ClassId) (aM : Nat → Nat) (h1 : Nat) (x2 x3 : Value) : Ct l g aC aM yX5_clear cX5_clear 1 none 1 [.ref h1] [(h1, .inr (5, [x2, .int 0, .int 0, x3, .int 0]))] (QV g (fun (_ : Unit) => True) (fun (_ : Unit) => [(h1, .inr (5, [x2, .int 0, .int 0, x3, .int 0]))])) 0 0 := by
  refine Ct.mk (by decide) (Nat.le_of_ble_eq_true rfl) ?_
  intro p e s m below meth c A ls hx hb hml hown hts hr hlk hnm hK hA hM hM2 hP hD hS hl
  have hown : s.vm.findClass RX5 = some m.cls := hown
  have F : Fx p s m _ c cX5_clear 1 RX5 g aC aM A := ⟨hx, hb, hml, hown, hts, hK, hA, hM, hM2⟩
  have hl : lv_has ls 1 [(0, .ref h1)] := hl
  refine lv_aload_n hx hb dX5_clear_0 rfl (lv_at hl 0 rfl) ?_
  refine lv_iconst (v := 0) hx hb dX5_clear_1 (by decide) ?_
  refine xput F hP hD hS 0 rfl rfl inX5 tyX5_ok nmX5 1 (by decide) tb325 rfl rfl rfl (Nat.le_of_ble_eq_true rfl) dX5_clear_2 (fun H locs hP hD hS => ?_)
  have hP : va_P g vwCl [(h1, .inr (5, [x2, .int 0, .int 0, x3, .int 0]))] H := hP
  have hD : va_D A [(h1, .inr (5, [x2, .int 0, .int 0, x3, .int 0]))] := hD
  refine lv_aload_n hx hb dX5_clear_5 rfl (lv_at hl 0 rfl) ?_
  refine lv_iconst (v := 0) hx hb dX5_clear_6 (by decide) ?_
  refine xput F hP hD hS 0 rfl rfl inX5 tyX5_ok nmX5 2 (by decide) tb327 rfl rfl rfl (Nat.le_of_ble_eq_true rfl) dX5_clear_7 (fun H locs hP hD hS => ?_)
  have hP : va_P g vwCl [(h1, .inr (5, [x2, .int 0, .int 0, x3, .int 0]))] H := hP
  have hD : va_D A [(h1, .inr (5, [x2, .int 0, .int 0, x3, .int 0]))] := hD
  refine lv_aload_n hx hb dX5_clear_10 rfl (lv_at hl 0 rfl) ?_
  refine lv_iconst (v := 0) hx hb dX5_clear_11 (by decide) ?_
  refine xput F hP hD hS 0 rfl rfl inX5 tyX5_ok nmX5 4 (by decide) tb330 rfl rfl rfl (Nat.le_of_ble_eq_true rfl) dX5_clear_12 (fun H locs hP hD hS => ?_)
  have hP : va_P g vwCl [(h1, .inr (5, [x2, .int 0, .int 0, x3, .int 0]))] H := hP
  have hD : va_D A [(h1, .inr (5, [x2, .int 0, .int 0, x3, .int 0]))] := hD
  have hP9 := hP.sub (ws' := [(h1, .inr (5, [x2, .int 0, .int 0, x3, .int 0]))]) [0] rfl
  have hD9 := hD.sub (ws' := [(h1, .inr (5, [x2, .int 0, .int 0, x3, .int 0]))]) [0] (by decide) rfl
  exact rV () hx hb hr hlk hS trivial hP9 hD9 (Nat.le_of_ble_eq_true rfl) (Nat.le_of_ble_eq_true rfl) dX5_clear_15

theorem tb716 : (Jvm.Cond.methodLink "StairGang" (111 : Nat) ({ cls := "StairGang$Said", name := "clear", desc := "()V" } : Jvm.MethodName)) ∈ gw := lw_m 716 (by decide +kernel)
theorem tb717 : (Jvm.Cond.instanceMethod ({ cls := "StairGang$Said", name := "clear", desc := "()V" } : Jvm.MethodName)) ∈ gw := lw_m 717 (by decide +kernel)
theorem tb718 : (Jvm.Cond.selects "StairGang$Said" ({ cls := "StairGang$Said", name := "clear", desc := "()V" } : Jvm.MethodName) ({ cls := "StairGang$Said", name := "clear", desc := "()V" } : Jvm.MethodName)) ∈ gw := lw_m 718 (by decide +kernel)
theorem tb719 : (Jvm.Cond.code ({ cls := "StairGang$Said", name := "clear", desc := "()V" } : Jvm.MethodName) prog_7_method_2_code (1 : Nat) (Option.none : Option Jvm.ClassFile.FieldType)) ∈ gw := lw_m 719 (by decide +kernel)
theorem dX10_town_60 : decode cX10_town 60 = .ok (.aload_n 0, 1) := by decide +kernel
theorem dX10_town_61 : decode cX10_town 61 = .ok (.getfield 62, 3) := by decide +kernel
theorem dX10_town_64 : decode cX10_town 64 = .ok (.invokevirtual 114, 3) := by decide +kernel
theorem dX1_clear_0 : decode cX1_clear 0 = .ok (.aload_n 0, 1) := by decide +kernel
theorem dX1_clear_1 : decode cX1_clear 1 = .ok (.iconst 0, 1) := by decide +kernel
theorem dX1_clear_2 : decode cX1_clear 2 = .ok (.putfield 16, 3) := by decide +kernel
theorem dX1_clear_5 : decode cX1_clear 5 = .ok (.return_, 1) := by decide +kernel
set_option maxHeartbeats 4000000 in
set_option maxRecDepth 100000 in
theorem a_X1_clear_1 (l : Launch) (g : va_G) (aC : Nat → ClassId) (aM : Nat → Nat) (h1 : Nat) (x2 x3 : Value) : Ct l g aC aM yX1_clear cX1_clear 1 none 1 [.ref h1] [(h1, .inr (1, [.int 0, x2, x3]))] (QV g (fun (_ : Unit) => True) (fun (_ : Unit) => [(h1, .inr (1, [.int 0, x2, x3]))])) 0 0 := by
  refine Ct.mk (by decide) (Nat.le_of_ble_eq_true rfl) ?_
  intro p e s m below meth c A ls hx hb hml hown hts hr hlk hnm hK hA hM hM2 hP hD hS hl
  have hown : s.vm.findClass RX1 = some m.cls := hown
  have F : Fx p s m _ c cX1_clear 1 RX1 g aC aM A := ⟨hx, hb, hml, hown, hts, hK, hA, hM, hM2⟩
  have hl : lv_has ls 1 [(0, .ref h1)] := hl
  refine lv_aload_n hx hb dX1_clear_0 rfl (lv_at hl 0 rfl) ?_
  refine lv_iconst (v := 0) hx hb dX1_clear_1 (by decide) ?_
  refine xput F hP hD hS 0 rfl rfl inX1 tyX1_ok nmX1 0 (by decide) tb351 rfl rfl rfl (Nat.le_of_ble_eq_true rfl) dX1_clear_2 (fun H locs hP hD hS => ?_)
  have hP : va_P g vwCl [(h1, .inr (1, [.int 0, x2, x3]))] H := hP
  have hD : va_D A [(h1, .inr (1, [.int 0, x2, x3]))] := hD
  have hP9 := hP.sub (ws' := [(h1, .inr (1, [.int 0, x2, x3]))]) [0] rfl
  have hD9 := hD.sub (ws' := [(h1, .inr (1, [.int 0, x2, x3]))]) [0] (by decide) rfl
  exact rV () hx hb hr hlk hS trivial hP9 hD9 (Nat.le_of_ble_eq_true rfl) (Nat.le_of_ble_eq_true rfl) dX1_clear_5

theorem tb411 : (Jvm.Cond.fieldLink "StairGang" (115 : Nat) "StairGang" "marksLaid" "I") ∈ gw := lw_m 411 (by decide +kernel)
theorem tb720 : (Jvm.Cond.methodLink "StairGang" (114 : Nat) ({ cls := "StairGang$History", name := "clear", desc := "()V" } : Jvm.MethodName)) ∈ gw := lw_m 720 (by decide +kernel)
theorem tb721 : (Jvm.Cond.instanceMethod ({ cls := "StairGang$History", name := "clear", desc := "()V" } : Jvm.MethodName)) ∈ gw := lw_m 721 (by decide +kernel)
theorem tb722 : (Jvm.Cond.selects "StairGang$History" ({ cls := "StairGang$History", name := "clear", desc := "()V" } : Jvm.MethodName) ({ cls := "StairGang$History", name := "clear", desc := "()V" } : Jvm.MethodName)) ∈ gw := lw_m 722 (by decide +kernel)
theorem tb723 : (Jvm.Cond.code ({ cls := "StairGang$History", name := "clear", desc := "()V" } : Jvm.MethodName) prog_3_method_2_code (1 : Nat) (Option.none : Option Jvm.ClassFile.FieldType)) ∈ gw := lw_m 723 (by decide +kernel)
theorem dX10_town_67 : decode cX10_town 67 = .ok (.aload_n 0, 1) := by decide +kernel
theorem dX10_town_68 : decode cX10_town 68 = .ok (.iconst 0, 1) := by decide +kernel
theorem dX10_town_69 : decode cX10_town 69 = .ok (.putfield 115, 3) := by decide +kernel
theorem dX10_town_72 : decode cX10_town 72 = .ok (.iload_n 1, 1) := by decide +kernel
theorem dX10_town_73 : decode cX10_town 73 = .ok (.ireturn, 1) := by decide +kernel
set_option maxHeartbeats 4000000 in
set_option maxRecDepth 100000 in
theorem x_town (l : Launch) (g : va_G) (aC : Nat → ClassId) (aM : Nat → Nat) (h1 h2 h3 h5 h6 h7 h9 h10 h22 h24 h25 h27 h28 h30 h34 h38 h39 : Nat) (x4 x8 x11 x12 x13 x14 x15 x16 x17 x18 x19 x20 x21 x23 x26 x29 x31 x35 x40 x41 x42 x43 : Value) (F36 F37 : Nat → Int32) (R32 R33 : Nat → Nat) : Ct l g aC aM yX10_town cX10_town 3 (some .int) 5 [.ref h1] [(h1, .inr (10, [.ref h2, .ref h3, x4, .ref h5, .ref h6, .ref h7, x8, .ref h9, .ref h10, x11, x12, .int 0, x13, x14, x15, x16])), (h2, .inr (7, [.int 0, .int 0, x17, x18, .int 0, .int 0, .int 0, x19, x20, x21])), (h3, .inr (9, [.ref h2])), (h6, .inr (8, [.ref h22, x23, .ref h24, .ref h25, x26, .int 0, .int 5, .ref h27, .ref h28, x29, .ref h30, x31])), (h22, .inl (aC 0, 5, .inl (fun _ => 0))), (h24, .inl (aC 6, 4, .inr (.inr (.inr (.inr (fun i => if i < 4 then some (R32 i) else none)))))), (h25, .inl (aC 6, 5, .inr (.inr (.inr (.inr (fun i => if i < 5 then some (R33 i) else none)))))), ((R32 0), .inl (aC 0, 2, .inl (fun _ => 0))), ((R32 1), .inl (aC 0, 2, .inl (fun _ => 0))), ((R32 2), .inl (aC 0, 2, .inl (fun _ => 0))), ((R32 3), .inl (aC 0, 2, .inl (fun _ => 0))), ((R33 0), .inl (aC 0, 4, .inl (fun _ => 0))), ((R33 1), .inl (aC 0, 4, .inl (fun _ => 0))), ((R33 2), .inl (aC 0, 4, .inl (fun _ => 0))), ((R33 3), .inl (aC 0, 4, .inl (fun _ => 0))), ((R33 4), .inl (aC 0, 4, .inl (fun _ => 0))), (h27, .inr (4, [.ref h34, .int 1, x35])), (h34, .inl (aC 0, 1000, .inl F36)), (h28, .inl (aC 1, 25, .inr (.inl (fun _ => 0)))), (h30, .inl (aC 0, 30, .inl F37)), (h7, .inr (6, [.int 0, .ref h38, .ref h39, .int 0, .int 0, .int 0])), (h38, .inl (aC 0, 5, .inl (fun _ => 0))), (h39, .inl (aC 0, 4, .inl (fun _ => 0))), (h9, .inr (5, [x40, .int 0, .int 0, x41, .int 0])), (h10, .inr (1, [.int 0, x42, x43]))] (QI g (fun (r : Int32) (_ : Unit) => r = 0) (fun (_ : Unit) => [])) 0 0 := by
  refine Ct.mk (by decide) (Nat.le_of_ble_eq_true rfl) ?_
  intro p e s m below meth c A ls hx hb hml hown hts hr hlk hnm hK hA hM hM2 hP hD hS hl
  have hown : s.vm.findClass RX10 = some m.cls := hown
  have F : Fx p s m _ c cX10_town 3 RX10 g aC aM A := ⟨hx, hb, hml, hown, hts, hK, hA, hM, hM2⟩
  have hl : lv_has ls 3 [(0, .ref h1)] := hl
  refine lv_aload_n hx hb dX10_town_0 rfl (lv_at hl 0 rfl) ?_
  refine xget F hP 0 rfl rfl inX10 1 (by decide) tb401 rfl dX10_town_1 ?_
  refine lv_aload_n hx hb dX10_town_4 rfl (lv_at hl 0 rfl) ?_
  refine xget F hP 0 rfl rfl inX10 4 (by decide) tb404 rfl dX10_town_5 ?_
  refine goI (wr := [(h1, .inr (10, [.ref h2, .ref h3, x4, .ref h5, .ref h6, .ref h7, x8, .ref h9, .ref h10, x11, x12, .int 0, x13, x14, x15, x16])), (h24, .inl (aC 6, 4, .inr (.inr (.inr (.inr (fun i => if i < 4 then some (R32 i) else none)))))), (h25, .inl (aC 6, 5, .inr (.inr (.inr (.inr (fun i => if i < 5 then some (R33 i) else none)))))), ((R32 0), .inl (aC 0, 2, .inl (fun _ => 0))), ((R32 1), .inl (aC 0, 2, .inl (fun _ => 0))), ((R32 2), .inl (aC 0, 2, .inl (fun _ => 0))), ((R32 3), .inl (aC 0, 2, .inl (fun _ => 0))), ((R33 0), .inl (aC 0, 4, .inl (fun _ => 0))), ((R33 1), .inl (aC 0, 4, .inl (fun _ => 0))), ((R33 2), .inl (aC 0, 4, .inl (fun _ => 0))), ((R33 3), .inl (aC 0, 4, .inl (fun _ => 0))), ((R33 4), .inl (aC 0, 4, .inl (fun _ => 0))), (h7, .inr (6, [.int 0, .ref h38, .ref h39, .int 0, .int 0, .int 0])), (h38, .inl (aC 0, 5, .inl (fun _ => 0))), (h39, .inl (aC 0, 4, .inl (fun _ => 0))), (h9, .inr (5, [x40, .int 0, .int 0, x41, .int 0])), (h10, .inr (1, [.int 0, x42, x43]))]) (runV (n := 1) (As := [.ref h6]) (rest := []) F hP hD hS (a_X9_read_1 l g aC aM h3 h6 h2 h22 h27 h28 h30 h34 x17 x18 x19 x20 x21 x23 (.ref h24) (.ref h25) x26 x29 x31 x35 F36 F37) [1, 2, 3, 4, 16, 17, 18, 19] (by decide) rfl 2 9 rfl rfl rfl tb465 tb462 tb463 tb464 tb7 ⟨by decide, by decide, by decide +kernel⟩ ⟨Nat.le_of_ble_eq_true rfl, Nat.le_of_ble_eq_true rfl⟩ rfl hl.1 rfl (Nat.le_of_ble_eq_true rfl) dX10_town_8 ⟨Nat.le_of_ble_eq_true rfl, Nat.le_of_ble_eq_true rfl⟩) hP hD hS hA [1, 2, 3, 4, 16, 17, 18, 19] [0, 5, 6, 7, 8, 9, 10, 11, 12, 13, 14, 15, 20, 21, 22, 23, 24] rfl rfl (by decide) (by decide) (fun r_4 w5 H locs hw hP hD hS => ?_)
  obtain ⟨u1, u2⟩ := w5
  have hP : va_P g vwCl [(h1, .inr (10, [.ref h2, .ref h3, x4, .ref h5, .ref h6, .ref h7, x8, .ref h9, .ref h10, x11, x12, .int 0, x13, x14, x15, x16])), (h24, .inl (aC 6, 4, .inr (.inr (.inr (.inr (fun i => if i < 4 then some (R32 i) else none)))))), (h25, .inl (aC 6, 5, .inr (.inr (.inr (.inr (fun i => if i < 5 then some (R33 i) else none)))))), ((R32 0), .inl (aC 0, 2, .inl (fun _ => 0))), ((R32 1), .inl (aC 0, 2, .inl (fun _ => 0))), ((R32 2), .inl (aC 0, 2, .inl (fun _ => 0))), ((R32 3), .inl (aC 0, 2, .inl (fun _ => 0))), ((R33 0), .inl (aC 0, 4, .inl (fun _ => 0))), ((R33 1), .inl (aC 0, 4, .inl (fun _ => 0))), ((R33 2), .inl (aC 0, 4, .inl (fun _ => 0))), ((R33 3), .inl (aC 0, 4, .inl (fun _ => 0))), ((R33 4), .inl (aC 0, 4, .inl (fun _ => 0))), (h7, .inr (6, [.int 0, .ref h38, .ref h39, .int 0, .int 0, .int 0])), (h38, .inl (aC 0, 5, .inl (fun _ => 0))), (h39, .inl (aC 0, 4, .inl (fun _ => 0))), (h9, .inr (5, [x40, .int 0, .int 0, x41, .int 0])), (h10, .inr (1, [.int 0, x42, x43])), (h3, .inr (9, [.ref h2])), (h28, .inl (aC 1, 25, .inr (.inl (fun _ => 0)))), (h30, .inl (aC 0, 30, .inl u1)), (h2, .inr (7, [.int 0, .int 0, x17, x18, .int 1, .int 0, .int 0, x19, x20, x21])), (h6, .inr (8, [.ref h22, x23, .ref h24, .ref h25, x26, .int 0, .int 5, .ref h27, .ref h28, x29, .ref h30, x31])), (h22, .inl (aC 0, 5, .inl (fun _ => 0))), (h27, .inr (4, [.ref h34, .int 1, x35])), (h34, .inl (aC 0, 1000, .inl u2))] H := hP
  have hD : va_D A [(h1, .inr (10, [.ref h2, .ref h3, x4, .ref h5, .ref h6, .ref h7, x8, .ref h9, .ref h10, x11, x12, .int 0, x13, x14, x15, x16])), (h24, .inl (aC 6, 4, .inr (.inr (.inr (.inr (fun i => if i < 4 then some (R32 i) else none)))))), (h25, .inl (aC 6, 5, .inr (.inr (.inr (.inr (fun i => if i < 5 then some (R33 i) else none)))))), ((R32 0), .inl (aC 0, 2, .inl (fun _ => 0))), ((R32 1), .inl (aC 0, 2, .inl (fun _ => 0))), ((R32 2), .inl (aC 0, 2, .inl (fun _ => 0))), ((R32 3), .inl (aC 0, 2, .inl (fun _ => 0))), ((R33 0), .inl (aC 0, 4, .inl (fun _ => 0))), ((R33 1), .inl (aC 0, 4, .inl (fun _ => 0))), ((R33 2), .inl (aC 0, 4, .inl (fun _ => 0))), ((R33 3), .inl (aC 0, 4, .inl (fun _ => 0))), ((R33 4), .inl (aC 0, 4, .inl (fun _ => 0))), (h7, .inr (6, [.int 0, .ref h38, .ref h39, .int 0, .int 0, .int 0])), (h38, .inl (aC 0, 5, .inl (fun _ => 0))), (h39, .inl (aC 0, 4, .inl (fun _ => 0))), (h9, .inr (5, [x40, .int 0, .int 0, x41, .int 0])), (h10, .inr (1, [.int 0, x42, x43])), (h3, .inr (9, [.ref h2])), (h28, .inl (aC 1, 25, .inr (.inl (fun _ => 0)))), (h30, .inl (aC 0, 30, .inl u1)), (h2, .inr (7, [.int 0, .int 0, x17, x18, .int 1, .int 0, .int 0, x19, x20, x21])), (h6, .inr (8, [.ref h22, x23, .ref h24, .ref h25, x26, .int 0, .int 5, .ref h27, .ref h28, x29, .ref h30, x31])), (h22, .inl (aC 0, 5, .inl (fun _ => 0))), (h27, .inr (4, [.ref h34, .int 1, x35])), (h34, .inl (aC 0, 1000, .inl u2))] := hD
  try dsimp only at hw
  subst hw
  refine lv_istore_n (lv' := [(1, .int 0), (0, .ref h1)]) hx hb dX10_town_11 rfl hl (by decide) rfl (fun ls hl => ?_)
  refine lv_aload_n hx hb dX10_town_12 rfl (lv_at hl 1 rfl) ?_
  refine xget F hP 0 rfl rfl inX10 0 (by decide) tb400 rfl dX10_town_13 ?_
  refine lv_iconst (v := 0) hx hb dX10_town_16 (by decide) ?_
  refine xput F hP hD hS 20 rfl rfl inX7 tyX7_ok nmX7 0 (by decide) tb101 rfl rfl rfl (Nat.le_of_ble_eq_true rfl) dX10_town_17 (fun H locs hP hD hS => ?_)
  have hP : va_P g vwCl [(h1, .inr (10, [.ref h2, .ref h3, x4, .ref h5, .ref h6, .ref h7, x8, .ref h9, .ref h10, x11, x12, .int 0, x13, x14, x15, x16])), (h24, .inl (aC 6, 4, .inr (.inr (.inr (.inr (fun i => if i < 4 then some (R32 i) else none)))))), (h25, .inl (aC 6, 5, .inr (.inr (.inr (.inr (fun i => if i < 5 then some (R33 i) else none)))))), ((R32 0), .inl (aC 0, 2, .inl (fun _ => 0))), ((R32 1), .inl (aC 0, 2, .inl (fun _ => 0))), ((R32 2), .inl (aC 0, 2, .inl (fun _ => 0))), ((R32 3), .inl (aC 0, 2, .inl (fun _ => 0))), ((R33 0), .inl (aC 0, 4, .inl (fun _ => 0))), ((R33 1), .inl (aC 0, 4, .inl (fun _ => 0))), ((R33 2), .inl (aC 0, 4, .inl (fun _ => 0))), ((R33 3), .inl (aC 0, 4, .inl (fun _ => 0))), ((R33 4), .inl (aC 0, 4, .inl (fun _ => 0))), (h7, .inr (6, [.int 0, .ref h38, .ref h39, .int 0, .int 0, .int 0])), (h38, .inl (aC 0, 5, .inl (fun _ => 0))), (h39, .inl (aC 0, 4, .inl (fun _ => 0))), (h9, .inr (5, [x40, .int 0, .int 0, x41, .int 0])), (h10, .inr (1, [.int 0, x42, x43])), (h3, .inr (9, [.ref h2])), (h28, .inl (aC 1, 25, .inr (.inl (fun _ => 0)))), (h30, .inl (aC 0, 30, .inl u1)), (h2, .inr (7, [.int 0, .int 0, x17, x18, .int 1, .int 0, .int 0, x19, x20, x21])), (h6, .inr (8, [.ref h22, x23, .ref h24, .ref h25, x26, .int 0, .int 5, .ref h27, .ref h28, x29, .ref h30, x31])), (h22, .inl (aC 0, 5, .inl (fun _ => 0))), (h27, .inr (4, [.ref h34, .int 1, x35])), (h34, .inl (aC 0, 1000, .inl u2))] H := hP
  have hD : va_D A [(h1, .inr (10, [.ref h2, .ref h3, x4, .ref h5, .ref h6, .ref h7, x8, .ref h9, .ref h10, x11, x12, .int 0, x13, x14, x15, x16])), (h24, .inl (aC 6, 4, .inr (.inr (.inr (.inr (fun i => if i < 4 then some (R32 i) else none)))))), (h25, .inl (aC 6, 5, .inr (.inr (.inr (.inr (fun i => if i < 5 then some (R33 i) else none)))))), ((R32 0), .inl (aC 0, 2, .inl (fun _ => 0))), ((R32 1), .inl (aC 0, 2, .inl (fun _ => 0))), ((R32 2), .inl (aC 0, 2, .inl (fun _ => 0))), ((R32 3), .inl (aC 0, 2, .inl (fun _ => 0))), ((R33 0), .inl (aC 0, 4, .inl (fun _ => 0))), ((R33 1), .inl (aC 0, 4, .inl (fun _ => 0))), ((R33 2), .inl (aC 0, 4, .inl (fun _ => 0))), ((R33 3), .inl (aC 0, 4, .inl (fun _ => 0))), ((R33 4), .inl (aC 0, 4, .inl (fun _ => 0))), (h7, .inr (6, [.int 0, .ref h38, .ref h39, .int 0, .int 0, .int 0])), (h38, .inl (aC 0, 5, .inl (fun _ => 0))), (h39, .inl (aC 0, 4, .inl (fun _ => 0))), (h9, .inr (5, [x40, .int 0, .int 0, x41, .int 0])), (h10, .inr (1, [.int 0, x42, x43])), (h3, .inr (9, [.ref h2])), (h28, .inl (aC 1, 25, .inr (.inl (fun _ => 0)))), (h30, .inl (aC 0, 30, .inl u1)), (h2, .inr (7, [.int 0, .int 0, x17, x18, .int 1, .int 0, .int 0, x19, x20, x21])), (h6, .inr (8, [.ref h22, x23, .ref h24, .ref h25, x26, .int 0, .int 5, .ref h27, .ref h28, x29, .ref h30, x31])), (h22, .inl (aC 0, 5, .inl (fun _ => 0))), (h27, .inr (4, [.ref h34, .int 1, x35])), (h34, .inl (aC 0, 1000, .inl u2))] := hD
  refine lv_iload_n hx hb dX10_town_20 rfl (lv_at hl 0 rfl) ?_
  refine lv_if_ne (tgt := 72) hx hb dX10_town_21 (by decide) (fun c_ => absurd (by decide +kernel) c_) (fun _ => ?_)
  refine lv_aload_n hx hb dX10_town_24 rfl (lv_at hl 1 rfl) ?_
  refine xget F hP 0 rfl rfl inX10 3 (by decide) tb403 rfl dX10_town_25 ?_
  refine lv_astore_n (lv' := [(2, .ref h5), (1, .int 0), (0, .ref h1)]) hx hb dX10_town_28 rfl hl (by decide) rfl (fun ls hl => ?_)
  refine lv_aload_n hx hb dX10_town_29 rfl (lv_at hl 2 rfl) ?_
  refine lv_aload_n hx hb dX10_town_30 rfl (lv_at hl 2 rfl) ?_
  refine xget F hP 0 rfl rfl inX10 4 (by decide) tb404 rfl dX10_town_31 ?_
  refine xput F hP hD hS 0 rfl rfl inX10 tyX10_ok nmX10 3 (by decide) tb403 rfl rfl rfl (Nat.le_of_ble_eq_true rfl) dX10_town_34 (fun H locs hP hD hS => ?_)
  have hP : va_P g vwCl [(h1, .inr (10, [.ref h2, .ref h3, x4, .ref h6, .ref h6, .ref h7, x8, .ref h9, .ref h10, x11, x12, .int 0, x13, x14, x15, x16])), (h24, .inl (aC 6, 4, .inr (.inr (.inr (.inr (fun i => if i < 4 then some (R32 i) else none)))))), (h25, .inl (aC 6, 5, .inr (.inr (.inr (.inr (fun i => if i < 5 then some (R33 i) else none)))))), ((R32 0), .inl (aC 0, 2, .inl (fun _ => 0))), ((R32 1), .inl (aC 0, 2, .inl (fun _ => 0))), ((R32 2), .inl (aC 0, 2, .inl (fun _ => 0))), ((R32 3), .inl (aC 0, 2, .inl (fun _ => 0))), ((R33 0), .inl (aC 0, 4, .inl (fun _ => 0))), ((R33 1), .inl (aC 0, 4, .inl (fun _ => 0))), ((R33 2), .inl (aC 0, 4, .inl (fun _ => 0))), ((R33 3), .inl (aC 0, 4, .inl (fun _ => 0))), ((R33 4), .inl (aC 0, 4, .inl (fun _ => 0))), (h7, .inr (6, [.int 0, .ref h38, .ref h39, .int 0, .int 0, .int 0])), (h38, .inl (aC 0, 5, .inl (fun _ => 0))), (h39, .inl (aC 0, 4, .inl (fun _ => 0))), (h9, .inr (5, [x40, .int 0, .int 0, x41, .int 0])), (h10, .inr (1, [.int 0, x42, x43])), (h3, .inr (9, [.ref h2])), (h28, .inl (aC 1, 25, .inr (.inl (fun _ => 0)))), (h30, .inl (aC 0, 30, .inl u1)), (h2, .inr (7, [.int 0, .int 0, x17, x18, .int 1, .int 0, .int 0, x19, x20, x21])), (h6, .inr (8, [.ref h22, x23, .ref h24, .ref h25, x26, .int 0, .int 5, .ref h27, .ref h28, x29, .ref h30, x31])), (h22, .inl (aC 0, 5, .inl (fun _ => 0))), (h27, .inr (4, [.ref h34, .int 1, x35])), (h34, .inl (aC 0, 1000, .inl u2))] H := hP
  have hD : va_D A [(h1, .inr (10, [.ref h2, .ref h3, x4, .ref h6, .ref h6, .ref h7, x8, .ref h9, .ref h10, x11, x12, .int 0, x13, x14, x15, x16])), (h24, .inl (aC 6, 4, .inr (.inr (.inr (.inr (fun i => if i < 4 then some (R32 i) else none)))))), (h25, .inl (aC 6, 5, .inr (.inr (.inr (.inr (fun i => if i < 5 then some (R33 i) else none)))))), ((R32 0), .inl (aC 0, 2, .inl (fun _ => 0))), ((R32 1), .inl (aC 0, 2, .inl (fun _ => 0))), ((R32 2), .inl (aC 0, 2, .inl (fun _ => 0))), ((R32 3), .inl (aC 0, 2, .inl (fun _ => 0))), ((R33 0), .inl (aC 0, 4, .inl (fun _ => 0))), ((R33 1), .inl (aC 0, 4, .inl (fun _ => 0))), ((R33 2), .inl (aC 0, 4, .inl (fun _ => 0))), ((R33 3), .inl (aC 0, 4, .inl (fun _ => 0))), ((R33 4), .inl (aC 0, 4, .inl (fun _ => 0))), (h7, .inr (6, [.int 0, .ref h38, .ref h39, .int 0, .int 0, .int 0])), (h38, .inl (aC 0, 5, .inl (fun _ => 0))), (h39, .inl (aC 0, 4, .inl (fun _ => 0))), (h9, .inr (5, [x40, .int 0, .int 0, x41, .int 0])), (h10, .inr (1, [.int 0, x42, x43])), (h3, .inr (9, [.ref h2])), (h28, .inl (aC 1, 25, .inr (.inl (fun _ => 0)))), (h30, .inl (aC 0, 30, .inl u1)), (h2, .inr (7, [.int 0, .int 0, x17, x18, .int 1, .int 0, .int 0, x19, x20, x21])), (h6, .inr (8, [.ref h22, x23, .ref h24, .ref h25, x26, .int 0, .int 5, .ref h27, .ref h28, x29, .ref h30, x31])), (h22, .inl (aC 0, 5, .inl (fun _ => 0))), (h27, .inr (4, [.ref h34, .int 1, x35])), (h34, .inl (aC 0, 1000, .inl u2))] := hD
  refine lv_aload_n hx hb dX10_town_37 rfl (lv_at hl 2 rfl) ?_
  refine lv_aload_n hx hb dX10_town_38 rfl (lv_at hl 0 rfl) ?_
  refine xput F hP hD hS 0 rfl rfl inX10 tyX10_ok nmX10 4 (by decide) tb404 rfl rfl rfl (Nat.le_of_ble_eq_true rfl) dX10_town_39 (fun H locs hP hD hS => ?_)
  have hP : va_P g vwCl [(h1, .inr (10, [.ref h2, .ref h3, x4, .ref h6, .ref h5, .ref h7, x8, .ref h9, .ref h10, x11, x12, .int 0, x13, x14, x15, x16])), (h24, .inl (aC 6, 4, .inr (.inr (.inr (.inr (fun i => if i < 4 then some (R32 i) else none)))))), (h25, .inl (aC 6, 5, .inr (.inr (.inr (.inr (fun i => if i < 5 then some (R33 i) else none)))))), ((R32 0), .inl (aC 0, 2, .inl (fun _ => 0))), ((R32 1), .inl (aC 0, 2, .inl (fun _ => 0))), ((R32 2), .inl (aC 0, 2, .inl (fun _ => 0))), ((R32 3), .inl (aC 0, 2, .inl (fun _ => 0))), ((R33 0), .inl (aC 0, 4, .inl (fun _ => 0))), ((R33 1), .inl (aC 0, 4, .inl (fun _ => 0))), ((R33 2), .inl (aC 0, 4, .inl (fun _ => 0))), ((R33 3), .inl (aC 0, 4, .inl (fun _ => 0))), ((R33 4), .inl (aC 0, 4, .inl (fun _ => 0))), (h7, .inr (6, [.int 0, .ref h38, .ref h39, .int 0, .int 0, .int 0])), (h38, .inl (aC 0, 5, .inl (fun _ => 0))), (h39, .inl (aC 0, 4, .inl (fun _ => 0))), (h9, .inr (5, [x40, .int 0, .int 0, x41, .int 0])), (h10, .inr (1, [.int 0, x42, x43])), (h3, .inr (9, [.ref h2])), (h28, .inl (aC 1, 25, .inr (.inl (fun _ => 0)))), (h30, .inl (aC 0, 30, .inl u1)), (h2, .inr (7, [.int 0, .int 0, x17, x18, .int 1, .int 0, .int 0, x19, x20, x21])), (h6, .inr (8, [.ref h22, x23, .ref h24, .ref h25, x26, .int 0, .int 5, .ref h27, .ref h28, x29, .ref h30, x31])), (h22, .inl (aC 0, 5, .inl (fun _ => 0))), (h27, .inr (4, [.ref h34, .int 1, x35])), (h34, .inl (aC 0, 1000, .inl u2))] H := hP
  have hD : va_D A [(h1, .inr (10, [.ref h2, .ref h3, x4, .ref h6, .ref h5, .ref h7, x8, .ref h9, .ref h10, x11, x12, .int 0, x13, x14, x15, x16])), (h24, .inl (aC 6, 4, .inr (.inr (.inr (.inr (fun i => if i < 4 then some (R32 i) else none)))))), (h25, .inl (aC 6, 5, .inr (.inr (.inr (.inr (fun i => if i < 5 then some (R33 i) else none)))))), ((R32 0), .inl (aC 0, 2, .inl (fun _ => 0))), ((R32 1), .inl (aC 0, 2, .inl (fun _ => 0))), ((R32 2), .inl (aC 0, 2, .inl (fun _ => 0))), ((R32 3), .inl (aC 0, 2, .inl (fun _ => 0))), ((R33 0), .inl (aC 0, 4, .inl (fun _ => 0))), ((R33 1), .inl (aC 0, 4, .inl (fun _ => 0))), ((R33 2), .inl (aC 0, 4, .inl (fun _ => 0))), ((R33 3), .inl (aC 0, 4, .inl (fun _ => 0))), ((R33 4), .inl (aC 0, 4, .inl (fun _ => 0))), (h7, .inr (6, [.int 0, .ref h38, .ref h39, .int 0, .int 0, .int 0])), (h38, .inl (aC 0, 5, .inl (fun _ => 0))), (h39, .inl (aC 0, 4, .inl (fun _ => 0))), (h9, .inr (5, [x40, .int 0, .int 0, x41, .int 0])), (h10, .inr (1, [.int 0, x42, x43])), (h3, .inr (9, [.ref h2])), (h28, .inl (aC 1, 25, .inr (.inl (fun _ => 0)))), (h30, .inl (aC 0, 30, .inl u1)), (h2, .inr (7, [.int 0, .int 0, x17, x18, .int 1, .int 0, .int 0, x19, x20, x21])), (h6, .inr (8, [.ref h22, x23, .ref h24, .ref h25, x26, .int 0, .int 5, .ref h27, .ref h28, x29, .ref h30, x31])), (h22, .inl (aC 0, 5, .inl (fun _ => 0))), (h27, .inr (4, [.ref h34, .int 1, x35])), (h34, .inl (aC 0, 1000, .inl u2))] := hD
  refine lv_aload_n hx hb dX10_town_42 rfl (lv_at hl 2 rfl) ?_
  refine xget F hP 0 rfl rfl inX10 5 (by decide) tb405 rfl dX10_town_43 ?_
  refine lv_aload_n hx hb dX10_town_46 rfl (lv_at hl 2 rfl) ?_
  refine xget F hP 0 rfl rfl inX10 3 (by decide) tb403 rfl dX10_town_47 ?_
  refine goV (wr := [(h1, .inr (10, [.ref h2, .ref h3, x4, .ref h6, .ref h5, .ref h7, x8, .ref h9, .ref h10, x11, x12, .int 0, x13, x14, x15, x16])), (h9, .inr (5, [x40, .int 0, .int 0, x41, .int 0])), (h10, .inr (1, [.int 0, x42, x43])), (h3, .inr (9, [.ref h2])), (h28, .inl (aC 1, 25, .inr (.inl (fun _ => 0)))), (h30, .inl (aC 0, 30, .inl u1)), (h2, .inr (7, [.int 0, .int 0, x17, x18, .int 1, .int 0, .int 0, x19, x20, x21])), (h27, .inr (4, [.ref h34, .int 1, x35])), (h34, .inl (aC 0, 1000, .inl u2))]) (runV (n := 1) (As := [.ref h6]) (rest := []) F hP hD hS (a_X6_begin_1 l g aC aM h7 h6 h24 h25 h38 h39 h22 x23 x26 (.int 5) (.ref h27) (.ref h28) x29 (.ref h30) x31 R32 R33) [1, 2, 3, 4, 5, 6, 7, 8, 9, 10, 11, 12, 13, 14, 21, 22] (by decide) rfl 12 6 rfl rfl rfl tb711 tb708 tb709 tb710 tb12 ⟨by decide, by decide, by decide +kernel⟩ ⟨Nat.le_of_ble_eq_true rfl, Nat.le_of_ble_eq_true rfl⟩ rfl hl.1 rfl (Nat.le_of_ble_eq_true rfl) dX10_town_50 ⟨Nat.le_of_ble_eq_true rfl, Nat.le_of_ble_eq_true rfl⟩) hP hD hS hA [1, 2, 3, 4, 5, 6, 7, 8, 9, 10, 11, 12, 13, 14, 21, 22] [0, 15, 16, 17, 18, 19, 20, 23, 24] rfl rfl (by decide) (by decide) (fun w9 H locs hw hP hD hS => ?_)
  have hP : va_P g vwCl [(h1, .inr (10, [.ref h2, .ref h3, x4, .ref h6, .ref h5, .ref h7, x8, .ref h9, .ref h10, x11, x12, .int 0, x13, x14, x15, x16])), (h9, .inr (5, [x40, .int 0, .int 0, x41, .int 0])), (h10, .inr (1, [.int 0, x42, x43])), (h3, .inr (9, [.ref h2])), (h28, .inl (aC 1, 25, .inr (.inl (fun _ => 0)))), (h30, .inl (aC 0, 30, .inl u1)), (h2, .inr (7, [.int 0, .int 0, x17, x18, .int 1, .int 0, .int 0, x19, x20, x21])), (h27, .inr (4, [.ref h34, .int 1, x35])), (h34, .inl (aC 0, 1000, .inl u2)), (h24, .inl (aC 6, 4, .inr (.inr (.inr (.inr (fun i => if i < 4 then some (R32 i) else none)))))), (h25, .inl (aC 6, 5, .inr (.inr (.inr (.inr (fun i => if i < 5 then some (R33 i) else none)))))), ((R32 0), .inl (aC 0, 2, .inl (fun _ => 0))), ((R32 1), .inl (aC 0, 2, .inl (fun _ => 0))), ((R32 2), .inl (aC 0, 2, .inl (fun _ => 0))), ((R32 3), .inl (aC 0, 2, .inl (fun _ => 0))), ((R33 0), .inl (aC 0, 4, .inl (fun _ => 0))), ((R33 1), .inl (aC 0, 4, .inl (fun _ => 0))), ((R33 2), .inl (aC 0, 4, .inl (fun _ => 0))), ((R33 3), .inl (aC 0, 4, .inl (fun _ => 0))), ((R33 4), .inl (aC 0, 4, .inl (fun _ => 0))), (h7, .inr (6, [.int 0, .ref h38, .ref h39, .int 0, .int 0, .int 0])), (h38, .inl (aC 0, 5, .inl (fun _ => 0))), (h39, .inl (aC 0, 4, .inl (fun _ => 0))), (h6, .inr (8, [.ref h22, x23, .ref h24, .ref h25, x26, .int 0, .int 5, .ref h27, .ref h28, x29, .ref h30, x31])), (h22, .inl (aC 0, 5, .inl (fun _ => 0)))] H := hP
  have hD : va_D A [(h1, .inr (10, [.ref h2, .ref h3, x4, .ref h6, .ref h5, .ref h7, x8, .ref h9, .ref h10, x11, x12, .int 0, x13, x14, x15, x16])), (h9, .inr (5, [x40, .int 0, .int 0, x41, .int 0])), (h10, .inr (1, [.int 0, x42, x43])), (h3, .inr (9, [.ref h2])), (h28, .inl (aC 1, 25, .inr (.inl (fun _ => 0)))), (h30, .inl (aC 0, 30, .inl u1)), (h2, .inr (7, [.int 0, .int 0, x17, x18, .int 1, .int 0, .int 0, x19, x20, x21])), (h27, .inr (4, [.ref h34, .int 1, x35])), (h34, .inl (aC 0, 1000, .inl u2)), (h24, .inl (aC 6, 4, .inr (.inr (.inr (.inr (fun i => if i < 4 then some (R32 i) else none)))))), (h25, .inl (aC 6, 5, .inr (.inr (.inr (.inr (fun i => if i < 5 then some (R33 i) else none)))))), ((R32 0), .inl (aC 0, 2, .inl (fun _ => 0))), ((R32 1), .inl (aC 0, 2, .inl (fun _ => 0))), ((R32 2), .inl (aC 0, 2, .inl (fun _ => 0))), ((R32 3), .inl (aC 0, 2, .inl (fun _ => 0))), ((R33 0), .inl (aC 0, 4, .inl (fun _ => 0))), ((R33 1), .inl (aC 0, 4, .inl (fun _ => 0))), ((R33 2), .inl (aC 0, 4, .inl (fun _ => 0))), ((R33 3), .inl (aC 0, 4, .inl (fun _ => 0))), ((R33 4), .inl (aC 0, 4, .inl (fun _ => 0))), (h7, .inr (6, [.int 0, .ref h38, .ref h39, .int 0, .int 0, .int 0])), (h38, .inl (aC 0, 5, .inl (fun _ => 0))), (h39, .inl (aC 0, 4, .inl (fun _ => 0))), (h6, .inr (8, [.ref h22, x23, .ref h24, .ref h25, x26, .int 0, .int 5, .ref h27, .ref h28, x29, .ref h30, x31])), (h22, .inl (aC 0, 5, .inl (fun _ => 0)))] := hD
  refine lv_aload_n hx hb dX10_town_53 rfl (lv_at hl 2 rfl) ?_
  refine xget F hP 0 rfl rfl inX10 7 (by decide) tb407 rfl dX10_town_54 ?_
  refine goV (wr := [(h1, .inr (10, [.ref h2, .ref h3, x4, .ref h6, .ref h5, .ref h7, x8, .ref h9, .ref h10, x11, x12, .int 0, x13, x14, x15, x16])), (h10, .inr (1, [.int 0, x42, x43])), (h3, .inr (9, [.ref h2])), (h28, .inl (aC 1, 25, .inr (.inl (fun _ => 0)))), (h30, .inl (aC 0, 30, .inl u1)), (h2, .inr (7, [.int 0, .int 0, x17, x18, .int 1, .int 0, .int 0, x19, x20, x21])), (h27, .inr (4, [.ref h34, .int 1, x35])), (h34, .inl (aC 0, 1000, .inl u2)), (h24, .inl (aC 6, 4, .inr (.inr (.inr (.inr (fun i => if i < 4 then some (R32 i) else none)))))), (h25, .inl (aC 6, 5, .inr (.inr (.inr (.inr (fun i => if i < 5 then some (R33 i) else none)))))), ((R32 0), .inl (aC 0, 2, .inl (fun _ => 0))), ((R32 1), .inl (aC 0, 2, .inl (fun _ => 0))), ((R32 2), .inl (aC 0, 2, .inl (fun _ => 0))), ((R32 3), .inl (aC 0, 2, .inl (fun _ => 0))), ((R33 0), .inl (aC 0, 4, .inl (fun _ => 0))), ((R33 1), .inl (aC 0, 4, .inl (fun _ => 0))), ((R33 2), .inl (aC 0, 4, .inl (fun _ => 0))), ((R33 3), .inl (aC 0, 4, .inl (fun _ => 0))), ((R33 4), .inl (aC 0, 4, .inl (fun _ => 0))), (h7, .inr (6, [.int 0, .ref h38, .ref h39, .int 0, .int 0, .int 0])), (h38, .inl (aC 0, 5, .inl (fun _ => 0))), (h39, .inl (aC 0, 4, .inl (fun _ => 0))), (h6, .inr (8, [.ref h22, x23, .ref h24, .ref h25, x26, .int 0, .int 5, .ref h27, .ref h28, x29, .ref h30, x31])), (h22, .inl (aC 0, 5, .inl (fun _ => 0)))]) (runV (n := 0) (As := []) (rest := []) F hP hD hS (a_X5_clear_1 l g aC aM h9 x40 x41) [1] (by decide) rfl 1 5 rfl rfl rfl tb719 tb716 tb717 tb718 tb13 ⟨by decide, by decide, by decide +kernel⟩ ⟨Nat.le_of_ble_eq_true rfl, Nat.le_of_ble_eq_true rfl⟩ rfl hl.1 rfl (Nat.le_of_ble_eq_true rfl) dX10_town_57 ⟨Nat.le_of_ble_eq_true rfl, Nat.le_of_ble_eq_true rfl⟩) hP hD hS hA [1] [0, 2, 3, 4, 5, 6, 7, 8, 9, 10, 11, 12, 13, 14, 15, 16, 17, 18, 19, 20, 21, 22, 23, 24] rfl rfl (by decide) (by decide) (fun w12 H locs hw hP hD hS => ?_)
  have hP : va_P g vwCl [(h1, .inr (10, [.ref h2, .ref h3, x4, .ref h6, .ref h5, .ref h7, x8, .ref h9, .ref h10, x11, x12, .int 0, x13, x14, x15, x16])), (h10, .inr (1, [.int 0, x42, x43])), (h3, .inr (9, [.ref h2])), (h28, .inl (aC 1, 25, .inr (.inl (fun _ => 0)))), (h30, .inl (aC 0, 30, .inl u1)), (h2, .inr (7, [.int 0, .int 0, x17, x18, .int 1, .int 0, .int 0, x19, x20, x21])), (h27, .inr (4, [.ref h34, .int 1, x35])), (h34, .inl (aC 0, 1000, .inl u2)), (h24, .inl (aC 6, 4, .inr (.inr (.inr (.inr (fun i => if i < 4 then some (R32 i) else none)))))), (h25, .inl (aC 6, 5, .inr (.inr (.inr (.inr (fun i => if i < 5 then some (R33 i) else none)))))), ((R32 0), .inl (aC 0, 2, .inl (fun _ => 0))), ((R32 1), .inl (aC 0, 2, .inl (fun _ => 0))), ((R32 2), .inl (aC 0, 2, .inl (fun _ => 0))), ((R32 3), .inl (aC 0, 2, .inl (fun _ => 0))), ((R33 0), .inl (aC 0, 4, .inl (fun _ => 0))), ((R33 1), .inl (aC 0, 4, .inl (fun _ => 0))), ((R33 2), .inl (aC 0, 4, .inl (fun _ => 0))), ((R33 3), .inl (aC 0, 4, .inl (fun _ => 0))), ((R33 4), .inl (aC 0, 4, .inl (fun _ => 0))), (h7, .inr (6, [.int 0, .ref h38, .ref h39, .int 0, .int 0, .int 0])), (h38, .inl (aC 0, 5, .inl (fun _ => 0))), (h39, .inl (aC 0, 4, .inl (fun _ => 0))), (h6, .inr (8, [.ref h22, x23, .ref h24, .ref h25, x26, .int 0, .int 5, .ref h27, .ref h28, x29, .ref h30, x31])), (h22, .inl (aC 0, 5, .inl (fun _ => 0))), (h9, .inr (5, [x40, .int 0, .int 0, x41, .int 0]))] H := hP
  have hD : va_D A [(h1, .inr (10, [.ref h2, .ref h3, x4, .ref h6, .ref h5, .ref h7, x8, .ref h9, .ref h10, x11, x12, .int 0, x13, x14, x15, x16])), (h10, .inr (1, [.int 0, x42, x43])), (h3, .inr (9, [.ref h2])), (h28, .inl (aC 1, 25, .inr (.inl (fun _ => 0)))), (h30, .inl (aC 0, 30, .inl u1)), (h2, .inr (7, [.int 0, .int 0, x17, x18, .int 1, .int 0, .int 0, x19, x20, x21])), (h27, .inr (4, [.ref h34, .int 1, x35])), (h34, .inl (aC 0, 1000, .inl u2)), (h24, .inl (aC 6, 4, .inr (.inr (.inr (.inr (fun i => if i < 4 then some (R32 i) else none)))))), (h25, .inl (aC 6, 5, .inr (.inr (.inr (.inr (fun i => if i < 5 then some (R33 i) else none)))))), ((R32 0), .inl (aC 0, 2, .inl (fun _ => 0))), ((R32 1), .inl (aC 0, 2, .inl (fun _ => 0))), ((R32 2), .inl (aC 0, 2, .inl (fun _ => 0))), ((R32 3), .inl (aC 0, 2, .inl (fun _ => 0))), ((R33 0), .inl (aC 0, 4, .inl (fun _ => 0))), ((R33 1), .inl (aC 0, 4, .inl (fun _ => 0))), ((R33 2), .inl (aC 0, 4, .inl (fun _ => 0))), ((R33 3), .inl (aC 0, 4, .inl (fun _ => 0))), ((R33 4), .inl (aC 0, 4, .inl (fun _ => 0))), (h7, .inr (6, [.int 0, .ref h38, .ref h39, .int 0, .int 0, .int 0])), (h38, .inl (aC 0, 5, .inl (fun _ => 0))), (h39, .inl (aC 0, 4, .inl (fun _ => 0))), (h6, .inr (8, [.ref h22, x23, .ref h24, .ref h25, x26, .int 0, .int 5, .ref h27, .ref h28, x29, .ref h30, x31])), (h22, .inl (aC 0, 5, .inl (fun _ => 0))), (h9, .inr (5, [x40, .int 0, .int 0, x41, .int 0]))] := hD
  refine lv_aload_n hx hb dX10_town_60 rfl (lv_at hl 2 rfl) ?_
  refine xget F hP 0 rfl rfl inX10 8 (by decide) tb408 rfl dX10_town_61 ?_
  refine goV (wr := [(h1, .inr (10, [.ref h2, .ref h3, x4, .ref h6, .ref h5, .ref h7, x8, .ref h9, .ref h10, x11, x12, .int 0, x13, x14, x15, x16])), (h3, .inr (9, [.ref h2])), (h28, .inl (aC 1, 25, .inr (.inl (fun _ => 0)))), (h30, .inl (aC 0, 30, .inl u1)), (h2, .inr (7, [.int 0, .int 0, x17, x18, .int 1, .int 0, .int 0, x19, x20, x21])), (h27, .inr (4, [.ref h34, .int 1, x35])), (h34, .inl (aC 0, 1000, .inl u2)), (h24, .inl (aC 6, 4, .inr (.inr (.inr (.inr (fun i => if i < 4 then some (R32 i) else none)))))), (h25, .inl (aC 6, 5, .inr (.inr (.inr (.inr (fun i => if i < 5 then some (R33 i) else none)))))), ((R32 0), .inl (aC 0, 2, .inl (fun _ => 0))), ((R32 1), .inl (aC 0, 2, .inl (fun _ => 0))), ((R32 2), .inl (aC 0, 2, .inl (fun _ => 0))), ((R32 3), .inl (aC 0, 2, .inl (fun _ => 0))), ((R33 0), .inl (aC 0, 4, .inl (fun _ => 0))), ((R33 1), .inl (aC 0, 4, .inl (fun _ => 0))), ((R33 2), .inl (aC 0, 4, .inl (fun _ => 0))), ((R33 3), .inl (aC 0, 4, .inl (fun _ => 0))), ((R33 4), .inl (aC 0, 4, .inl (fun _ => 0))), (h7, .inr (6, [.int 0, .ref h38, .ref h39, .int 0, .int 0, .int 0])), (h38, .inl (aC 0, 5, .inl (fun _ => 0))), (h39, .inl (aC 0, 4, .inl (fun _ => 0))), (h6, .inr (8, [.ref h22, x23, .ref h24, .ref h25, x26, .int 0, .int 5, .ref h27, .ref h28, x29, .ref h30, x31])), (h22, .inl (aC 0, 5, .inl (fun _ => 0))), (h9, .inr (5, [x40, .int 0, .int 0, x41, .int 0]))]) (runV (n := 0) (As := []) (rest := []) F hP hD hS (a_X1_clear_1 l g aC aM h10 x42 x43) [1] (by decide) rfl 1 1 rfl rfl rfl tb723 tb720 tb721 tb722 tb14 ⟨by decide, by decide, by decide +kernel⟩ ⟨Nat.le_of_ble_eq_true rfl, Nat.le_of_ble_eq_true rfl⟩ rfl hl.1 rfl (Nat.le_of_ble_eq_true rfl) dX10_town_64 ⟨Nat.le_of_ble_eq_true rfl, Nat.le_of_ble_eq_true rfl⟩) hP hD hS hA [1] [0, 2, 3, 4, 5, 6, 7, 8, 9, 10, 11, 12, 13, 14, 15, 16, 17, 18, 19, 20, 21, 22, 23, 24] rfl rfl (by decide) (by decide) (fun w15 H locs hw hP hD hS => ?_)
  have hP : va_P g vwCl [(h1, .inr (10, [.ref h2, .ref h3, x4, .ref h6, .ref h5, .ref h7, x8, .ref h9, .ref h10, x11, x12, .int 0, x13, x14, x15, x16])), (h3, .inr (9, [.ref h2])), (h28, .inl (aC 1, 25, .inr (.inl (fun _ => 0)))), (h30, .inl (aC 0, 30, .inl u1)), (h2, .inr (7, [.int 0, .int 0, x17, x18, .int 1, .int 0, .int 0, x19, x20, x21])), (h27, .inr (4, [.ref h34, .int 1, x35])), (h34, .inl (aC 0, 1000, .inl u2)), (h24, .inl (aC 6, 4, .inr (.inr (.inr (.inr (fun i => if i < 4 then some (R32 i) else none)))))), (h25, .inl (aC 6, 5, .inr (.inr (.inr (.inr (fun i => if i < 5 then some (R33 i) else none)))))), ((R32 0), .inl (aC 0, 2, .inl (fun _ => 0))), ((R32 1), .inl (aC 0, 2, .inl (fun _ => 0))), ((R32 2), .inl (aC 0, 2, .inl (fun _ => 0))), ((R32 3), .inl (aC 0, 2, .inl (fun _ => 0))), ((R33 0), .inl (aC 0, 4, .inl (fun _ => 0))), ((R33 1), .inl (aC 0, 4, .inl (fun _ => 0))), ((R33 2), .inl (aC 0, 4, .inl (fun _ => 0))), ((R33 3), .inl (aC 0, 4, .inl (fun _ => 0))), ((R33 4), .inl (aC 0, 4, .inl (fun _ => 0))), (h7, .inr (6, [.int 0, .ref h38, .ref h39, .int 0, .int 0, .int 0])), (h38, .inl (aC 0, 5, .inl (fun _ => 0))), (h39, .inl (aC 0, 4, .inl (fun _ => 0))), (h6, .inr (8, [.ref h22, x23, .ref h24, .ref h25, x26, .int 0, .int 5, .ref h27, .ref h28, x29, .ref h30, x31])), (h22, .inl (aC 0, 5, .inl (fun _ => 0))), (h9, .inr (5, [x40, .int 0, .int 0, x41, .int 0])), (h10, .inr (1, [.int 0, x42, x43]))] H := hP
  have hD : va_D A [(h1, .inr (10, [.ref h2, .ref h3, x4, .ref h6, .ref h5, .ref h7, x8, .ref h9, .ref h10, x11, x12, .int 0, x13, x14, x15, x16])), (h3, .inr (9, [.ref h2])), (h28, .inl (aC 1, 25, .inr (.inl (fun _ => 0)))), (h30, .inl (aC 0, 30, .inl u1)), (h2, .inr (7, [.int 0, .int 0, x17, x18, .int 1, .int 0, .int 0, x19, x20, x21])), (h27, .inr (4, [.ref h34, .int 1, x35])), (h34, .inl (aC 0, 1000, .inl u2)), (h24, .inl (aC 6, 4, .inr (.inr (.inr (.inr (fun i => if i < 4 then some (R32 i) else none)))))), (h25, .inl (aC 6, 5, .inr (.inr (.inr (.inr (fun i => if i < 5 then some (R33 i) else none)))))), ((R32 0), .inl (aC 0, 2, .inl (fun _ => 0))), ((R32 1), .inl (aC 0, 2, .inl (fun _ => 0))), ((R32 2), .inl (aC 0, 2, .inl (fun _ => 0))), ((R32 3), .inl (aC 0, 2, .inl (fun _ => 0))), ((R33 0), .inl (aC 0, 4, .inl (fun _ => 0))), ((R33 1), .inl (aC 0, 4, .inl (fun _ => 0))), ((R33 2), .inl (aC 0, 4, .inl (fun _ => 0))), ((R33 3), .inl (aC 0, 4, .inl (fun _ => 0))), ((R33 4), .inl (aC 0, 4, .inl (fun _ => 0))), (h7, .inr (6, [.int 0, .ref h38, .ref h39, .int 0, .int 0, .int 0])), (h38, .inl (aC 0, 5, .inl (fun _ => 0))), (h39, .inl (aC 0, 4, .inl (fun _ => 0))), (h6, .inr (8, [.ref h22, x23, .ref h24, .ref h25, x26, .int 0, .int 5, .ref h27, .ref h28, x29, .ref h30, x31])), (h22, .inl (aC 0, 5, .inl (fun _ => 0))), (h9, .inr (5, [x40, .int 0, .int 0, x41, .int 0])), (h10, .inr (1, [.int 0, x42, x43]))] := hD
  refine lv_aload_n hx hb dX10_town_67 rfl (lv_at hl 2 rfl) ?_
  refine lv_iconst (v := 0) hx hb dX10_town_68 (by decide) ?_
  refine xput F hP hD hS 0 rfl rfl inX10 tyX10_ok nmX10 11 (by decide) tb411 rfl rfl rfl (Nat.le_of_ble_eq_true rfl) dX10_town_69 (fun H locs hP hD hS => ?_)
  have hP : va_P g vwCl [(h1, .inr (10, [.ref h2, .ref h3, x4, .ref h6, .ref h5, .ref h7, x8, .ref h9, .ref h10, x11, x12, .int 0, x13, x14, x15, x16])), (h3, .inr (9, [.ref h2])), (h28, .inl (aC 1, 25, .inr (.inl (fun _ => 0)))), (h30, .inl (aC 0, 30, .inl u1)), (h2, .inr (7, [.int 0, .int 0, x17, x18, .int 1, .int 0, .int 0, x19, x20, x21])), (h27, .inr (4, [.ref h34, .int 1, x35])), (h34, .inl (aC 0, 1000, .inl u2)), (h24, .inl (aC 6, 4, .inr (.inr (.inr (.inr (fun i => if i < 4 then some (R32 i) else none)))))), (h25, .inl (aC 6, 5, .inr (.inr (.inr (.inr (fun i => if i < 5 then some (R33 i) else none)))))), ((R32 0), .inl (aC 0, 2, .inl (fun _ => 0))), ((R32 1), .inl (aC 0, 2, .inl (fun _ => 0))), ((R32 2), .inl (aC 0, 2, .inl (fun _ => 0))), ((R32 3), .inl (aC 0, 2, .inl (fun _ => 0))), ((R33 0), .inl (aC 0, 4, .inl (fun _ => 0))), ((R33 1), .inl (aC 0, 4, .inl (fun _ => 0))), ((R33 2), .inl (aC 0, 4, .inl (fun _ => 0))), ((R33 3), .inl (aC 0, 4, .inl (fun _ => 0))), ((R33 4), .inl (aC 0, 4, .inl (fun _ => 0))), (h7, .inr (6, [.int 0, .ref h38, .ref h39, .int 0, .int 0, .int 0])), (h38, .inl (aC 0, 5, .inl (fun _ => 0))), (h39, .inl (aC 0, 4, .inl (fun _ => 0))), (h6, .inr (8, [.ref h22, x23, .ref h24, .ref h25, x26, .int 0, .int 5, .ref h27, .ref h28, x29, .ref h30, x31])), (h22, .inl (aC 0, 5, .inl (fun _ => 0))), (h9, .inr (5, [x40, .int 0, .int 0, x41, .int 0])), (h10, .inr (1, [.int 0, x42, x43]))] H := hP
  have hD : va_D A [(h1, .inr (10, [.ref h2, .ref h3, x4, .ref h6, .ref h5, .ref h7, x8, .ref h9, .ref h10, x11, x12, .int 0, x13, x14, x15, x16])), (h3, .inr (9, [.ref h2])), (h28, .inl (aC 1, 25, .inr (.inl (fun _ => 0)))), (h30, .inl (aC 0, 30, .inl u1)), (h2, .inr (7, [.int 0, .int 0, x17, x18, .int 1, .int 0, .int 0, x19, x20, x21])), (h27, .inr (4, [.ref h34, .int 1, x35])), (h34, .inl (aC 0, 1000, .inl u2)), (h24, .inl (aC 6, 4, .inr (.inr (.inr (.inr (fun i => if i < 4 then some (R32 i) else none)))))), (h25, .inl (aC 6, 5, .inr (.inr (.inr (.inr (fun i => if i < 5 then some (R33 i) else none)))))), ((R32 0), .inl (aC 0, 2, .inl (fun _ => 0))), ((R32 1), .inl (aC 0, 2, .inl (fun _ => 0))), ((R32 2), .inl (aC 0, 2, .inl (fun _ => 0))), ((R32 3), .inl (aC 0, 2, .inl (fun _ => 0))), ((R33 0), .inl (aC 0, 4, .inl (fun _ => 0))), ((R33 1), .inl (aC 0, 4, .inl (fun _ => 0))), ((R33 2), .inl (aC 0, 4, .inl (fun _ => 0))), ((R33 3), .inl (aC 0, 4, .inl (fun _ => 0))), ((R33 4), .inl (aC 0, 4, .inl (fun _ => 0))), (h7, .inr (6, [.int 0, .ref h38, .ref h39, .int 0, .int 0, .int 0])), (h38, .inl (aC 0, 5, .inl (fun _ => 0))), (h39, .inl (aC 0, 4, .inl (fun _ => 0))), (h6, .inr (8, [.ref h22, x23, .ref h24, .ref h25, x26, .int 0, .int 5, .ref h27, .ref h28, x29, .ref h30, x31])), (h22, .inl (aC 0, 5, .inl (fun _ => 0))), (h9, .inr (5, [x40, .int 0, .int 0, x41, .int 0])), (h10, .inr (1, [.int 0, x42, x43]))] := hD
  refine lv_iload_n hx hb dX10_town_72 rfl (lv_at hl 1 rfl) ?_
  have hP9 := hP.sub (ws' := []) [] rfl
  have hD9 := hD.sub (ws' := []) [] (by decide) rfl
  exact rI () hx hb hr hlk rfl hS rfl hP9 hD9 (Nat.le_of_ble_eq_true rfl) (Nat.le_of_ble_eq_true rfl) dX10_town_73

theorem tb103 : (Jvm.Cond.fieldLink "StairGang$NightsReader" (36 : Nat) "StairGang$Tokens" "fault" "I") ∈ gw := lw_m 103 (by decide +kernel)
theorem tb156 : (Jvm.Cond.fieldLink "StairGang$NightsReader" (19 : Nat) "StairGang$NightsReader" "count" "I") ∈ gw := lw_m 156 (by decide +kernel)
theorem tb732 : (Jvm.Cond.methodLink "StairGang$NightsReader" (23 : Nat) ({ cls := "StairGang$Tokens", name := "begin", desc := "()V" } : Jvm.MethodName)) ∈ gw := lw_m 732 (by decide +kernel)
theorem tb733 : (Jvm.Cond.methodLink "StairGang$NightsReader" (28 : Nat) ({ cls := "StairGang$Tokens", name := "hasMore", desc := "()Z" } : Jvm.MethodName)) ∈ gw := lw_m 733 (by decide +kernel)
theorem dX10_nights_0 : decode cX10_nights 0 = .ok (.aload_n 0, 1) := by decide +kernel
theorem dX10_nights_1 : decode cX10_nights 1 = .ok (.getfield 28, 3) := by decide +kernel
theorem dX10_nights_4 : decode cX10_nights 4 = .ok (.aload_n 0, 1) := by decide +kernel
theorem dX10_nights_5 : decode cX10_nights 5 = .ok (.getfield 35, 3) := by decide +kernel
theorem dX10_nights_8 : decode cX10_nights 8 = .ok (.invokevirtual 118, 3) := by decide +kernel
theorem dX2_read_0 : decode cX2_read 0 = .ok (.aload_n 0, 1) := by decide +kernel
theorem dX2_read_1 : decode cX2_read 1 = .ok (.iconst 0, 1) := by decide +kernel
theorem dX2_read_2 : decode cX2_read 2 = .ok (.putfield 19, 3) := by decide +kernel
theorem dX2_read_5 : decode cX2_read 5 = .ok (.aload_n 0, 1) := by decide +kernel
theorem dX2_read_6 : decode cX2_read 6 = .ok (.getfield 15, 3) := by decide +kernel
theorem dX2_read_9 : decode cX2_read 9 = .ok (.invokevirtual 23, 3) := by decide +kernel
theorem dX2_read_12 : decode cX2_read 12 = .ok (.iconst 0, 1) := by decide +kernel
theorem dX2_read_13 : decode cX2_read 13 = .ok (.istore_n 2, 1) := by decide +kernel
theorem dX2_read_14 : decode cX2_read 14 = .ok (.iload_n 2, 1) := by decide +kernel
theorem dX2_read_15 : decode cX2_read 15 = .ok (.sipush 1000, 3) := by decide +kernel
theorem dX2_read_18 : decode cX2_read 18 = .ok (.if_icmp .ge 24, 3) := by decide +kernel
theorem dX2_read_21 : decode cX2_read 21 = .ok (.aload_n 0, 1) := by decide +kernel
theorem dX2_read_22 : decode cX2_read 22 = .ok (.getfield 15, 3) := by decide +kernel
theorem dX2_read_25 : decode cX2_read 25 = .ok (.invokevirtual 28, 3) := by decide +kernel
theorem dX2_read_28 : decode cX2_read 28 = .ok (.ifCond .eq 14, 3) := by decide +kernel
theorem dX2_read_42 : decode cX2_read 42 = .ok (.aload_n 0, 1) := by decide +kernel
theorem dX2_read_43 : decode cX2_read 43 = .ok (.getfield 15, 3) := by decide +kernel
theorem dX2_read_46 : decode cX2_read 46 = .ok (.getfield 36, 3) := by decide +kernel
theorem dX2_read_49 : decode cX2_read 49 = .ok (.ireturn, 1) := by decide +kernel
set_option maxHeartbeats 4000000 in
set_option maxRecDepth 100000 in
theorem a_X2_read_1 (l : Launch) (g : va_G) (aC : Nat → ClassId) (aM : Nat → Nat) (h1 h2 h3 : Nat) (x4 x5 x6 x7 x8 x9 : Value) : Ct l g aC aM yX2_read cX2_read 3 (some .int) 3 [.ref h1, .ref h2] [(h3, .inr (7, [.int 0, .int 0, x4, x5, .int 0, .int 0, .int 0, x6, x7, x8])), (h1, .inr (2, [x9, .int 0, .ref h3]))] (QI g (fun (r : Int32) (_ : Unit) => r = 0) (fun (_ : Unit) => [(h1, .inr (2, [x9, .int 0, .ref h3])), (h3, .inr (7, [.int 0, .int 0, x4, x5, .int 1, .int 0, .int 0, x6, x7, x8]))])) 0 0 := by
  refine Ct.mk (by decide) (Nat.le_of_ble_eq_true rfl) ?_
  intro p e s m below meth c A ls hx hb hml hown hts hr hlk hnm hK hA hM hM2 hP hD hS hl
  have hown : s.vm.findClass RX2 = some m.cls := hown
  have F : Fx p s m _ c cX2_read 3 RX2 g aC aM A := ⟨hx, hb, hml, hown, hts, hK, hA, hM, hM2⟩
  have hl : lv_has ls 3 [(0, .ref h1), (1, .ref h2)] := hl
  refine lv_aload_n hx hb dX2_read_0 rfl (lv_at hl 0 rfl) ?_
  refine lv_iconst (v := 0) hx hb dX2_read_1 (by decide) ?_
  refine xput F hP hD hS 1 rfl rfl inX2 tyX2_ok nmX2 1 (by decide) tb156 rfl rfl rfl (Nat.le_of_ble_eq_true rfl) dX2_read_2 (fun H locs hP hD hS => ?_)
  have hP : va_P g vwCl [(h3, .inr (7, [.int 0, .int 0, x4, x5, .int 0, .int 0, .int 0, x6, x7, x8])), (h1, .inr (2, [x9, .int 0, .ref h3]))] H := hP
  have hD : va_D A [(h3, .inr (7, [.int 0, .int 0, x4, x5, .int 0, .int 0, .int 0, x6, x7, x8])), (h1, .inr (2, [x9, .int 0, .ref h3]))] := hD
  refine lv_aload_n hx hb dX2_read_5 rfl (lv_at hl 0 rfl) ?_
  refine xget F hP 1 rfl rfl inX2 2 (by decide) tb158 rfl dX2_read_6 ?_
  refine goV (wr := [(h1, .inr (2, [x9, .int 0, .ref h3]))]) (runV (n := 0) (As := []) (rest := []) F hP hD hS (a_X7_begin_1 l g aC aM h3 x4 x5 x6 x7 x8) [0] (by decide) rfl 0 7 rfl rfl rfl tb470 tb732 tb468 tb469 tb2 ⟨by decide, by decide, by decide +kernel⟩ ⟨Nat.le_of_ble_eq_true rfl, Nat.le_of_ble_eq_true rfl⟩ rfl hl.1 rfl (Nat.le_of_ble_eq_true rfl) dX2_read_9 ⟨Nat.le_of_ble_eq_true rfl, Nat.le_of_ble_eq_true rfl⟩) hP hD hS hA [0] [1] rfl rfl (by decide) (by decide) (fun w3 H locs hw hP hD hS => ?_)
  have hP : va_P g vwCl [(h1, .inr (2, [x9, .int 0, .ref h3])), (h3, .inr (7, [.int 0, .int 0, x4, x5, .int 1, .int 0, .int 0, x6, x7, x8]))] H := hP
  have hD : va_D A [(h1, .inr (2, [x9, .int 0, .ref h3])), (h3, .inr (7, [.int 0, .int 0, x4, x5, .int 1, .int 0, .int 0, x6, x7, x8]))] := hD
  refine lv_iconst (v := 0) hx hb dX2_read_12 (by decide) ?_
  refine lv_istore_n (lv' := [(2, .int 0), (0, .ref h1), (1, .ref h2)]) hx hb dX2_read_13 rfl hl (by decide) rfl (fun ls hl => ?_)
  refine lv_iload_n hx hb dX2_read_14 rfl (lv_at hl 0 rfl) ?_
  refine lv_sipush (v := 1000) hx hb dX2_read_15 (by decide) ?_
  refine lv_icmp_ge (tgt := 42) hx hb dX2_read_18 (by decide) (fun c_ => absurd c_ (by decide +kernel)) (fun _ => ?_)
  refine lv_aload_n hx hb dX2_read_21 rfl (lv_at hl 1 rfl) ?_
  refine xget F hP 0 rfl rfl inX2 2 (by decide) tb158 rfl dX2_read_22 ?_
  refine goI (wr := [(h1, .inr (2, [x9, .int 0, .ref h3]))]) (runV (n := 0) (As := []) (rest := []) F hP hD hS (a_X7_hasMore_1 l g aC aM h3 (.int 0) x4 x5 (.int 0) (.int 0) x6 x7 x8) [1] (by decide) rfl 1 7 rfl rfl rfl tb549 tb733 tb547 tb548 tb2 ⟨by decide, by decide, by decide +kernel⟩ ⟨Nat.le_of_ble_eq_true rfl, Nat.le_of_ble_eq_true rfl⟩ rfl hl.1 rfl (Nat.le_of_ble_eq_true rfl) dX2_read_25 ⟨Nat.le_of_ble_eq_true rfl, Nat.le_of_ble_eq_true rfl⟩) hP hD hS hA [1] [0] rfl rfl (by decide) (by decide) (fun r_6 w7 H locs hw hP hD hS => ?_)
  have hP : va_P g vwCl [(h1, .inr (2, [x9, .int 0, .ref h3])), (h3, .inr (7, [.int 0, .int 0, x4, x5, .int 1, .int 0, .int 0, x6, x7, x8]))] H := hP
  have hD : va_D A [(h1, .inr (2, [x9, .int 0, .ref h3])), (h3, .inr (7, [.int 0, .int 0, x4, x5, .int 1, .int 0, .int 0, x6, x7, x8]))] := hD
  try dsimp only at hw
  subst hw
  refine lv_if_eq (tgt := 42) hx hb dX2_read_28 (by decide) (fun _ => ?_) (fun c_ => absurd (by decide +kernel) c_)
  refine lv_aload_n hx hb dX2_read_42 rfl (lv_at hl 1 rfl) ?_
  refine xget F hP 0 rfl rfl inX2 2 (by decide) tb158 rfl dX2_read_43 ?_
  refine xget F hP 1 rfl rfl inX7 1 (by decide) tb103 rfl dX2_read_46 ?_
  have hP9 := hP.sub (ws' := [(h1, .inr (2, [x9, .int 0, .ref h3])), (h3, .inr (7, [.int 0, .int 0, x4, x5, .int 1, .int 0, .int 0, x6, x7, x8]))]) [0, 1] rfl
  have hD9 := hD.sub (ws' := [(h1, .inr (2, [x9, .int 0, .ref h3])), (h3, .inr (7, [.int 0, .int 0, x4, x5, .int 1, .int 0, .int 0, x6, x7, x8]))]) [0, 1] (by decide) rfl
  exact rI () hx hb hr hlk rfl hS rfl hP9 hD9 (Nat.le_of_ble_eq_true rfl) (Nat.le_of_ble_eq_true rfl) dX2_read_49

theorem tb155 : (Jvm.Cond.fieldLink "StairGang" (119 : Nat) "StairGang$NightsReader" "lines" "[I") ∈ gw := lw_m 155 (by decide +kernel)
theorem tb157 : (Jvm.Cond.fieldLink "StairGang" (122 : Nat) "StairGang$NightsReader" "count" "I") ∈ gw := lw_m 157 (by decide +kernel)
theorem tb728 : (Jvm.Cond.methodLink "StairGang" (118 : Nat) ({ cls := "StairGang$NightsReader", name := "read", desc := "(LStairGang$Town;)I" } : Jvm.MethodName)) ∈ gw := lw_m 728 (by decide +kernel)
theorem tb729 : (Jvm.Cond.instanceMethod ({ cls := "StairGang$NightsReader", name := "read", desc := "(LStairGang$Town;)I" } : Jvm.MethodName)) ∈ gw := lw_m 729 (by decide +kernel)
theorem tb730 : (Jvm.Cond.selects "StairGang$NightsReader" ({ cls := "StairGang$NightsReader", name := "read", desc := "(LStairGang$Town;)I" } : Jvm.MethodName) ({ cls := "StairGang$NightsReader", name := "read", desc := "(LStairGang$Town;)I" } : Jvm.MethodName)) ∈ gw := lw_m 730 (by decide +kernel)
theorem tb731 : (Jvm.Cond.code ({ cls := "StairGang$NightsReader", name := "read", desc := "(LStairGang$Town;)I" } : Jvm.MethodName) prog_4_method_2_code (3 : Nat) (Option.some Jvm.ClassFile.FieldType.int)) ∈ gw := lw_m 731 (by decide +kernel)
theorem tb754 : (Jvm.Cond.methodLink "StairGang$Said" (32 : Nat) ({ cls := "java/lang/System", name := "arraycopy", desc := "(Ljava/lang/Object;ILjava/lang/Object;II)V" } : Jvm.MethodName)) ∈ gw := lw_m 754 (by decide +kernel)
theorem dX10_nights_11 : decode cX10_nights 11 = .ok (.istore_n 1, 1) := by decide +kernel
theorem dX10_nights_12 : decode cX10_nights 12 = .ok (.aload_n 0, 1) := by decide +kernel
theorem dX10_nights_13 : decode cX10_nights 13 = .ok (.getfield 10, 3) := by decide +kernel
theorem dX10_nights_16 : decode cX10_nights 16 = .ok (.iconst 0, 1) := by decide +kernel
theorem dX10_nights_17 : decode cX10_nights 17 = .ok (.putfield 99, 3) := by decide +kernel
theorem dX10_nights_20 : decode cX10_nights 20 = .ok (.iload_n 1, 1) := by decide +kernel
theorem dX10_nights_21 : decode cX10_nights 21 = .ok (.ifCond .ne 24, 3) := by decide +kernel
theorem dX10_nights_24 : decode cX10_nights 24 = .ok (.aload_n 0, 1) := by decide +kernel
theorem dX10_nights_25 : decode cX10_nights 25 = .ok (.getfield 55, 3) := by decide +kernel
theorem dX10_nights_28 : decode cX10_nights 28 = .ok (.aload_n 0, 1) := by decide +kernel
theorem dX10_nights_29 : decode cX10_nights 29 = .ok (.getfield 28, 3) := by decide +kernel
theorem dX10_nights_32 : decode cX10_nights 32 = .ok (.getfield 119, 3) := by decide +kernel
theorem dX10_nights_35 : decode cX10_nights 35 = .ok (.aload_n 0, 1) := by decide +kernel
theorem dX10_nights_36 : decode cX10_nights 36 = .ok (.getfield 28, 3) := by decide +kernel
theorem dX10_nights_39 : decode cX10_nights 39 = .ok (.getfield 122, 3) := by decide +kernel
theorem dX10_nights_42 : decode cX10_nights 42 = .ok (.invokevirtual 125, 3) := by decide +kernel
theorem dX5_tell_0 : decode cX5_tell 0 = .ok (.aload_n 1, 1) := by decide +kernel
theorem dX5_tell_1 : decode cX5_tell 1 = .ok (.iconst 0, 1) := by decide +kernel
theorem dX5_tell_2 : decode cX5_tell 2 = .ok (.aload_n 0, 1) := by decide +kernel
theorem dX5_tell_3 : decode cX5_tell 3 = .ok (.getfield 9, 3) := by decide +kernel
theorem dX5_tell_6 : decode cX5_tell 6 = .ok (.iconst 0, 1) := by decide +kernel
theorem dX5_tell_7 : decode cX5_tell 7 = .ok (.aload_n 0, 1) := by decide +kernel
theorem dX5_tell_8 : decode cX5_tell 8 = .ok (.getfield 9, 3) := by decide +kernel
theorem dX5_tell_11 : decode cX5_tell 11 = .ok (.arraylength, 1) := by decide +kernel
theorem dX5_tell_12 : decode cX5_tell 12 = .ok (.invokestatic 32, 3) := by decide +kernel
theorem dX5_tell_15 : decode cX5_tell 15 = .ok (.aload_n 0, 1) := by decide +kernel
theorem dX5_tell_16 : decode cX5_tell 16 = .ok (.iload_n 2, 1) := by decide +kernel
theorem dX5_tell_17 : decode cX5_tell 17 = .ok (.putfield 18, 3) := by decide +kernel
theorem dX5_tell_20 : decode cX5_tell 20 = .ok (.return_, 1) := by decide +kernel
set_option maxHeartbeats 4000000 in
set_option maxRecDepth 100000 in
theorem a_X5_tell_1 (l : Launch) (g : va_G) (aC : Nat → ClassId) (aM : Nat → Nat) (h1 h2 h3 : Nat) (x4 x5 x6 : Value) : Ct l g aC aM yX5_tell cX5_tell 3 none 1 [.ref h1, .ref h2, .int 0] [(h2, .inl (aC 0, 160, .inl (fun _ => 0))), (h1, .inr (5, [.ref h3, .int 0, x4, x5, x6])), (h3, .inl (aC 0, 160, .inl (fun _ => 0)))] (QV g (fun (_ : Unit) => True) (fun (_ : Unit) => [(h2, .inl (aC 0, 160, .inl (fun _ => 0))), (h1, .inr (5, [.ref h3, .int 0, x4, x5, x6])), (h3, .inl (aC 0, 160, .inl (fun _ => 0)))])) 0 0 := by
  refine Ct.mk (by decide) (Nat.le_of_ble_eq_true rfl) ?_
  intro p e s m below meth c A ls hx hb hml hown hts hr hlk hnm hK hA hM hM2 hP hD hS hl
  have hown : s.vm.findClass RX5 = some m.cls := hown
  have F : Fx p s m _ c cX5_tell 3 RX5 g aC aM A := ⟨hx, hb, hml, hown, hts, hK, hA, hM, hM2⟩
  have hl : lv_has ls 3 [(0, .ref h1), (1, .ref h2), (2, .int 0)] := hl
  refine lv_aload_n hx hb dX5_tell_0 rfl (lv_at hl 1 rfl) ?_
  refine lv_iconst (v := 0) hx hb dX5_tell_1 (by decide) ?_
  refine lv_aload_n hx hb dX5_tell_2 rfl (lv_at hl 0 rfl) ?_
  refine xget F hP 1 rfl rfl inX5 0 (by decide) tb323 rfl dX5_tell_3 ?_
  refine lv_iconst (v := 0) hx hb dX5_tell_6 (by decide) ?_
  refine lv_aload_n hx hb dX5_tell_7 rfl (lv_at hl 0 rfl) ?_
  refine xget F hP 1 rfl rfl inX5 0 (by decide) tb323 rfl dX5_tell_8 ?_
  refine xlen (v := 160) F hP 2 0 rfl rfl rfl dX5_tell_11 ?_
  refine va_copyi hx hb (hml.trans hl.1.symm) hown (hts _ tb754) (hts _ tb756) (hts _ tb755) (hts _ tb20) hK hP hD hS 0 2 0 0 rfl rfl rfl rfl rfl (by decide +kernel) (by decide +kernel) (by decide +kernel) (by decide +kernel) (by decide +kernel) (fun _ _ => rfl) (Nat.le_of_ble_eq_true rfl) (Nat.le_of_ble_eq_true rfl) dX5_tell_12 (fun H locs hP hD hS => ?_)
  rw [xcpy0] at hP hD
  have hP : va_P g vwCl [(h2, .inl (aC 0, 160, .inl (fun _ => 0))), (h1, .inr (5, [.ref h3, .int 0, x4, x5, x6])), (h3, .inl (aC 0, 160, .inl (fun _ => 0)))] H := hP
  have hD : va_D A [(h2, .inl (aC 0, 160, .inl (fun _ => 0))), (h1, .inr (5, [.ref h3, .int 0, x4, x5, x6])), (h3, .inl (aC 0, 160, .inl (fun _ => 0)))] := hD
  refine lv_aload_n hx hb dX5_tell_15 rfl (lv_at hl 0 rfl) ?_
  refine lv_iload_n hx hb dX5_tell_16 rfl (lv_at hl 2 rfl) ?_
  refine xput F hP hD hS 1 rfl rfl inX5 tyX5_ok nmX5 1 (by decide) tb325 rfl rfl rfl (Nat.le_of_ble_eq_true rfl) dX5_tell_17 (fun H locs hP hD hS => ?_)
  have hP : va_P g vwCl [(h2, .inl (aC 0, 160, .inl (fun _ => 0))), (h1, .inr (5, [.ref h3, .int 0, x4, x5, x6])), (h3, .inl (aC 0, 160, .inl (fun _ => 0)))] H := hP
  have hD : va_D A [(h2, .inl (aC 0, 160, .inl (fun _ => 0))), (h1, .inr (5, [.ref h3, .int 0, x4, x5, x6])), (h3, .inl (aC 0, 160, .inl (fun _ => 0)))] := hD
  have hP9 := hP.sub (ws' := [(h2, .inl (aC 0, 160, .inl (fun _ => 0))), (h1, .inr (5, [.ref h3, .int 0, x4, x5, x6])), (h3, .inl (aC 0, 160, .inl (fun _ => 0)))]) [0, 1, 2] rfl
  have hD9 := hD.sub (ws' := [(h2, .inl (aC 0, 160, .inl (fun _ => 0))), (h1, .inr (5, [.ref h3, .int 0, x4, x5, x6])), (h3, .inl (aC 0, 160, .inl (fun _ => 0)))]) [0, 1, 2] (by decide) rfl
  exact rV () hx hb hr hlk hS trivial hP9 hD9 (Nat.le_of_ble_eq_true rfl) (Nat.le_of_ble_eq_true rfl) dX5_tell_20

theorem tb750 : (Jvm.Cond.methodLink "StairGang" (125 : Nat) ({ cls := "StairGang$Said", name := "tell", desc := "([II)V" } : Jvm.MethodName)) ∈ gw := lw_m 750 (by decide +kernel)
theorem tb751 : (Jvm.Cond.instanceMethod ({ cls := "StairGang$Said", name := "tell", desc := "([II)V" } : Jvm.MethodName)) ∈ gw := lw_m 751 (by decide +kernel)
theorem tb752 : (Jvm.Cond.selects "StairGang$Said" ({ cls := "StairGang$Said", name := "tell", desc := "([II)V" } : Jvm.MethodName) ({ cls := "StairGang$Said", name := "tell", desc := "([II)V" } : Jvm.MethodName)) ∈ gw := lw_m 752 (by decide +kernel)
theorem tb753 : (Jvm.Cond.code ({ cls := "StairGang$Said", name := "tell", desc := "([II)V" } : Jvm.MethodName) prog_7_method_4_code (3 : Nat) (Option.none : Option Jvm.ClassFile.FieldType)) ∈ gw := lw_m 753 (by decide +kernel)
theorem dX10_nights_45 : decode cX10_nights 45 = .ok (.iload_n 1, 1) := by decide +kernel
theorem dX10_nights_46 : decode cX10_nights 46 = .ok (.ireturn, 1) := by decide +kernel
set_option maxHeartbeats 4000000 in
set_option maxRecDepth 100000 in
theorem x_nights (l : Launch) (g : va_G) (aC : Nat → ClassId) (aM : Nat → Nat) (h1 h2 h4 h5 h9 h23 h24 : Nat) (x3 x6 x7 x8 x10 x11 x12 x13 x14 x15 x16 x17 x18 x19 x20 x21 x22 x25 x26 x27 : Value) : Ct l g aC aM yX10_nights cX10_nights 2 (some .int) 4 [.ref h1] [(h1, .inr (10, [.ref h2, x3, .ref h4, .ref h5, x6, x7, x8, .ref h9, x10, x11, x12, x13, x14, x15, x16, x17])), (h2, .inr (7, [.int 0, .int 0, x18, x19, .int 0, .int 0, .int 0, x20, x21, x22])), (h4, .inr (2, [.ref h23, .int 0, .ref h2])), (h23, .inl (aC 0, 160, .inl (fun _ => 0))), (h9, .inr (5, [.ref h24, .int 0, x25, x26, x27])), (h24, .inl (aC 0, 160, .inl (fun _ => 0)))] (QI g (fun (r : Int32) (_ : Unit) => r = 0) (fun (_ : Unit) => [])) 0 0 := by
  refine Ct.mk (by decide) (Nat.le_of_ble_eq_true rfl) ?_
  intro p e s m below meth c A ls hx hb hml hown hts hr hlk hnm hK hA hM hM2 hP hD hS hl
  have hown : s.vm.findClass RX10 = some m.cls := hown
  have F : Fx p s m _ c cX10_nights 2 RX10 g aC aM A := ⟨hx, hb, hml, hown, hts, hK, hA, hM, hM2⟩
  have hl : lv_has ls 2 [(0, .ref h1)] := hl
  refine lv_aload_n hx hb dX10_nights_0 rfl (lv_at hl 0 rfl) ?_
  refine xget F hP 0 rfl rfl inX10 2 (by decide) tb402 rfl dX10_nights_1 ?_
  refine lv_aload_n hx hb dX10_nights_4 rfl (lv_at hl 0 rfl) ?_
  refine xget F hP 0 rfl rfl inX10 3 (by decide) tb403 rfl dX10_nights_5 ?_
  refine goI (wr := [(h1, .inr (10, [.ref h2, x3, .ref h4, .ref h5, x6, x7, x8, .ref h9, x10, x11, x12, x13, x14, x15, x16, x17])), (h23, .inl (aC 0, 160, .inl (fun _ => 0))), (h9, .inr (5, [.ref h24, .int 0, x25, x26, x27])), (h24, .inl (aC 0, 160, .inl (fun _ => 0)))]) (runV (n := 1) (As := [.ref h5]) (rest := []) F hP hD hS (a_X2_read_1 l g aC aM h4 h5 h2 x18 x19 x20 x21 x22 (.ref h23)) [1, 2] (by decide) rfl 2 2 rfl rfl rfl tb731 tb728 tb729 tb730 tb8 ⟨by decide, by decide, by decide +kernel⟩ ⟨Nat.le_of_ble_eq_true rfl, Nat.le_of_ble_eq_true rfl⟩ rfl hl.1 rfl (Nat.le_of_ble_eq_true rfl) dX10_nights_8 ⟨Nat.le_of_ble_eq_true rfl, Nat.le_of_ble_eq_true rfl⟩) hP hD hS hA [1, 2] [0, 3, 4, 5] rfl rfl (by decide) (by decide) (fun r_2 w3 H locs hw hP hD hS => ?_)
  have hP : va_P g vwCl [(h1, .inr (10, [.ref h2, x3, .ref h4, .ref h5, x6, x7, x8, .ref h9, x10, x11, x12, x13, x14, x15, x16, x17])), (h23, .inl (aC 0, 160, .inl (fun _ => 0))), (h9, .inr (5, [.ref h24, .int 0, x25, x26, x27])), (h24, .inl (aC 0, 160, .inl (fun _ => 0))), (h4, .inr (2, [.ref h23, .int 0, .ref h2])), (h2, .inr (7, [.int 0, .int 0, x18, x19, .int 1, .int 0, .int 0, x20, x21, x22]))] H := hP
  have hD : va_D A [(h1, .inr (10, [.ref h2, x3, .ref h4, .ref h5, x6, x7, x8, .ref h9, x10, x11, x12, x13, x14, x15, x16, x17])), (h23, .inl (aC 0, 160, .inl (fun _ => 0))), (h9, .inr (5, [.ref h24, .int 0, x25, x26, x27])), (h24, .inl (aC 0, 160, .inl (fun _ => 0))), (h4, .inr (2, [.ref h23, .int 0, .ref h2])), (h2, .inr (7, [.int 0, .int 0, x18, x19, .int 1, .int 0, .int 0, x20, x21, x22]))] := hD
  try dsimp only at hw
  subst hw
  refine lv_istore_n (lv' := [(1, .int 0), (0, .ref h1)]) hx hb dX10_nights_11 rfl hl (by decide) rfl (fun ls hl => ?_)
  refine lv_aload_n hx hb dX10_nights_12 rfl (lv_at hl 1 rfl) ?_
  refine xget F hP 0 rfl rfl inX10 0 (by decide) tb400 rfl dX10_nights_13 ?_
  refine lv_iconst (v := 0) hx hb dX10_nights_16 (by decide) ?_
  refine xput F hP hD hS 5 rfl rfl inX7 tyX7_ok nmX7 0 (by decide) tb101 rfl rfl rfl (Nat.le_of_ble_eq_true rfl) dX10_nights_17 (fun H locs hP hD hS => ?_)
  have hP : va_P g vwCl [(h1, .inr (10, [.ref h2, x3, .ref h4, .ref h5, x6, x7, x8, .ref h9, x10, x11, x12, x13, x14, x15, x16, x17])), (h23, .inl (aC 0, 160, .inl (fun _ => 0))), (h9, .inr (5, [.ref h24, .int 0, x25, x26, x27])), (h24, .inl (aC 0, 160, .inl (fun _ => 0))), (h4, .inr (2, [.ref h23, .int 0, .ref h2])), (h2, .inr (7, [.int 0, .int 0, x18, x19, .int 1, .int 0, .int 0, x20, x21, x22]))] H := hP
  have hD : va_D A [(h1, .inr (10, [.ref h2, x3, .ref h4, .ref h5, x6, x7, x8, .ref h9, x10, x11, x12, x13, x14, x15, x16, x17])), (h23, .inl (aC 0, 160, .inl (fun _ => 0))), (h9, .inr (5, [.ref h24, .int 0, x25, x26, x27])), (h24, .inl (aC 0, 160, .inl (fun _ => 0))), (h4, .inr (2, [.ref h23, .int 0, .ref h2])), (h2, .inr (7, [.int 0, .int 0, x18, x19, .int 1, .int 0, .int 0, x20, x21, x22]))] := hD
  refine lv_iload_n hx hb dX10_nights_20 rfl (lv_at hl 0 rfl) ?_
  refine lv_if_ne (tgt := 45) hx hb dX10_nights_21 (by decide) (fun c_ => absurd (by decide +kernel) c_) (fun _ => ?_)
  refine lv_aload_n hx hb dX10_nights_24 rfl (lv_at hl 1 rfl) ?_
  refine xget F hP 0 rfl rfl inX10 7 (by decide) tb407 rfl dX10_nights_25 ?_
  refine lv_aload_n hx hb dX10_nights_28 rfl (lv_at hl 1 rfl) ?_
  refine xget F hP 0 rfl rfl inX10 2 (by decide) tb402 rfl dX10_nights_29 ?_
  refine xget F hP 4 rfl rfl inX2 0 (by decide) tb155 rfl dX10_nights_32 ?_
  refine lv_aload_n hx hb dX10_nights_35 rfl (lv_at hl 1 rfl) ?_
  refine xget F hP 0 rfl rfl inX10 2 (by decide) tb402 rfl dX10_nights_36 ?_
  refine xget F hP 4 rfl rfl inX2 1 (by decide) tb157 rfl dX10_nights_39 ?_
  refine goV (wr := [(h1, .inr (10, [.ref h2, x3, .ref h4, .ref h5, x6, x7, x8, .ref h9, x10, x11, x12, x13, x14, x15, x16, x17])), (h4, .inr (2, [.ref h23, .int 0, .ref h2])), (h2, .inr (7, [.int 0, .int 0, x18, x19, .int 1, .int 0, .int 0, x20, x21, x22]))]) (runV (n := 2) (As := [.ref h23, .int 0]) (rest := []) F hP hD hS (a_X5_tell_1 l g aC aM h9 h23 h24 x25 x26 x27) [1, 2, 3] (by decide) rfl 2 5 rfl rfl rfl tb753 tb750 tb751 tb752 tb13 ⟨by decide, by decide, by decide +kernel⟩ ⟨Nat.le_of_ble_eq_true rfl, Nat.le_of_ble_eq_true rfl⟩ rfl hl.1 rfl (Nat.le_of_ble_eq_true rfl) dX10_nights_42 ⟨Nat.le_of_ble_eq_true rfl, Nat.le_of_ble_eq_true rfl⟩) hP hD hS hA [1, 2, 3] [0, 4, 5] rfl rfl (by decide) (by decide) (fun w7 H locs hw hP hD hS => ?_)
  have hP : va_P g vwCl [(h1, .inr (10, [.ref h2, x3, .ref h4, .ref h5, x6, x7, x8, .ref h9, x10, x11, x12, x13, x14, x15, x16, x17])), (h4, .inr (2, [.ref h23, .int 0, .ref h2])), (h2, .inr (7, [.int 0, .int 0, x18, x19, .int 1, .int 0, .int 0, x20, x21, x22])), (h23, .inl (aC 0, 160, .inl (fun _ => 0))), (h9, .inr (5, [.ref h24, .int 0, x25, x26, x27])), (h24, .inl (aC 0, 160, .inl (fun _ => 0)))] H := hP
  have hD : va_D A [(h1, .inr (10, [.ref h2, x3, .ref h4, .ref h5, x6, x7, x8, .ref h9, x10, x11, x12, x13, x14, x15, x16, x17])), (h4, .inr (2, [.ref h23, .int 0, .ref h2])), (h2, .inr (7, [.int 0, .int 0, x18, x19, .int 1, .int 0, .int 0, x20, x21, x22])), (h23, .inl (aC 0, 160, .inl (fun _ => 0))), (h9, .inr (5, [.ref h24, .int 0, x25, x26, x27])), (h24, .inl (aC 0, 160, .inl (fun _ => 0)))] := hD
  refine lv_iload_n hx hb dX10_nights_45 rfl (lv_at hl 0 rfl) ?_
  have hP9 := hP.sub (ws' := []) [] rfl
  have hD9 := hD.sub (ws' := []) [] (by decide) rfl
  exact rI () hx hb hr hlk rfl hS rfl hP9 hD9 (Nat.le_of_ble_eq_true rfl) (Nat.le_of_ble_eq_true rfl) dX10_nights_46
