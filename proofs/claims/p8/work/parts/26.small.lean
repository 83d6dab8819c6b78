set_option maxHeartbeats 4000000 in
set_option maxRecDepth 100000 in
theorem k_coder0 (l : Launch) (g : va_G) (aC : Nat → ClassId) (aM : Nat → Nat)  : Ct l g aC aM yJ0_coder_7d493 cJ0_coder_7d493 1 (some .byte) 1 [.ref (aM (1 + 0))] [] (QI g (fun (r : Int32) (_ : Unit) => r = 0) (fun (_ : Unit) => [])) 0 0 := by
  refine Ct.mk (by decide) (Nat.le_of_ble_eq_true rfl) ?_
  intro p e s m below meth c A ls hx hb hml hown hts hr hlk hnm hK hA hM hM2 hP hD hS hl
  have hown : s.vm.findClass RJ0 = some m.cls := hown
  have F : Fx p s m _ c cJ0_coder_7d493 1 RJ0 g aC aM A := ⟨hx, hb, hml, hown, hts, hK, hA, hM, hM2⟩
  have hl : lv_has ls 1 [(0, .ref (aM (1 + 0)))] := hl
  refine va_gets hx hb hM.2.2.1 hS hown (hts _ tb53) (fun _ h => h) dJ0_coder_7d493_0 ?_
  refine lv_if_eq (tgt := 13) hx hb dJ0_coder_7d493_3 (by decide) (fun c_ => absurd c_ (by decide +kernel)) (fun _ => ?_)
  refine lv_aload_n hx hb dJ0_coder_7d493_6 rfl (lv_at hl 0 rfl) ?_
  refine vk_getf hx hb (hM.2.2.2.1.1 0 (by decide)).2.1 hS hown (hts _ tb1936) (fun _ h => h) dJ0_coder_7d493_7 ?_
  refine lv_goto (tgt := 14) hx hb dJ0_coder_7d493_10 (by decide) ?_
  have hP9 := hP.sub (ws' := []) [] rfl
  have hD9 := hD.sub (ws' := []) [] (by decide) rfl
  exact rI () hx hb hr hlk rfl hS rfl hP9 hD9 (Nat.le_of_ble_eq_true rfl) (Nat.le_of_ble_eq_true rfl) dJ0_coder_7d493_14

set_option maxHeartbeats 4000000 in
set_option maxRecDepth 100000 in
theorem k_latin0 (l : Launch) (g : va_G) (aC : Nat → ClassId) (aM : Nat → Nat)  : Ct l g aC aM yJ0_isLatin1_aae02 cJ0_isLatin1_aae02 1 (some .boolean) 1 [.ref (aM (1 + 0))] [] (QI g (fun (r : Int32) (_ : Unit) => r = 1) (fun (_ : Unit) => [])) 0 0 := by
  refine Ct.mk (by decide) (Nat.le_of_ble_eq_true rfl) ?_
  intro p e s m below meth c A ls hx hb hml hown hts hr hlk hnm hK hA hM hM2 hP hD hS hl
  have hown : s.vm.findClass RJ0 = some m.cls := hown
  have F : Fx p s m _ c cJ0_isLatin1_aae02 1 RJ0 g aC aM A := ⟨hx, hb, hml, hown, hts, hK, hA, hM, hM2⟩
  have hl : lv_has ls 1 [(0, .ref (aM (1 + 0)))] := hl
  refine va_gets hx hb hM.2.2.1 hS hown (hts _ tb53) (fun _ h => h) dJ0_isLatin1_aae02_0 ?_
  refine lv_if_eq (tgt := 17) hx hb dJ0_isLatin1_aae02_3 (by decide) (fun c_ => absurd c_ (by decide +kernel)) (fun _ => ?_)
  refine lv_aload_n hx hb dJ0_isLatin1_aae02_6 rfl (lv_at hl 0 rfl) ?_
  refine vk_getf hx hb (hM.2.2.2.1.1 0 (by decide)).2.1 hS hown (hts _ tb1936) (fun _ h => h) dJ0_isLatin1_aae02_7 ?_
  refine lv_if_ne (tgt := 17) hx hb dJ0_isLatin1_aae02_10 (by decide) (fun c_ => absurd (by decide +kernel) c_) (fun _ => ?_)
  refine lv_iconst (v := 1) hx hb dJ0_isLatin1_aae02_13 (by decide) ?_
  refine lv_goto (tgt := 18) hx hb dJ0_isLatin1_aae02_14 (by decide) ?_
  have hP9 := hP.sub (ws' := []) [] rfl
  have hD9 := hD.sub (ws' := []) [] (by decide) rfl
  exact rI () hx hb hr hlk rfl hS rfl hP9 hD9 (Nat.le_of_ble_eq_true rfl) (Nat.le_of_ble_eq_true rfl) dJ0_isLatin1_aae02_18

set_option maxHeartbeats 4000000 in
set_option maxRecDepth 100000 in
theorem k_length0 (l : Launch) (g : va_G) (aC : Nat → ClassId) (aM : Nat → Nat)  : Ct l g aC aM yJ0_length_8abf5 cJ0_length_8abf5 1 (some .int) 2 [.ref (aM (1 + 0))] [] (QI g (fun (r : Int32) (_ : Unit) => r = 97) (fun (_ : Unit) => [])) 0 0 := by
  refine Ct.mk (by decide) (Nat.le_of_ble_eq_true rfl) ?_
  intro p e s m below meth c A ls hx hb hml hown hts hr hlk hnm hK hA hM hM2 hP hD hS hl
  have hown : s.vm.findClass RJ0 = some m.cls := hown
  have F : Fx p s m _ c cJ0_length_8abf5 1 RJ0 g aC aM A := ⟨hx, hb, hml, hown, hts, hK, hA, hM, hM2⟩
  have hl : lv_has ls 1 [(0, .ref (aM (1 + 0)))] := hl
  refine lv_aload_n hx hb dJ0_length_8abf5_0 rfl (lv_at hl 0 rfl) ?_
  refine vk_getf hx hb (hM.2.2.2.1.1 0 (by decide)).2.2.1 hS hown (hts _ tb1935) (fun _ h => h) dJ0_length_8abf5_1 ?_
  refine va_tlen (v := 97) hx hb (hM.2.2.2.1.1 0 (by decide)).2.2.2 hS rfl dJ0_length_8abf5_4 ?_
  refine lv_aload_n hx hb dJ0_length_8abf5_5 rfl (lv_at hl 0 rfl) ?_
  refine goI (wr := []) (runVs (n := 0) (As := []) (rest := [.int 97]) F hP hD hS (k_coder0 l g aC aM ) [] (by decide) rfl 0 (by decide) rfl rfl tb52 tb49 tb50 tb51 tb3 ⟨by decide, by decide, by decide +kernel⟩ ⟨Nat.le_of_ble_eq_true rfl, Nat.le_of_ble_eq_true rfl⟩ rfl hl.1 rfl (Nat.le_of_ble_eq_true rfl) dJ0_length_8abf5_6 ⟨Nat.le_of_ble_eq_true rfl, Nat.le_of_ble_eq_true rfl⟩) hP hD hS hA [] [] rfl rfl (by decide) (by decide) (fun r_2 w3 H locs hw hP hD hS => ?_)
  obtain ⟨hP, hD⟩ := cv_PD (L2 := []) hP hD rfl
  try dsimp only at hw
  subst hw
  refine lv_ishr hx hb dJ0_length_8abf5_9 ?_
  refine relit (v := 97) (by decide +kernel) ?_
  have hP9 := hP.sub (ws' := []) [] rfl
  have hD9 := hD.sub (ws' := []) [] (by decide) rfl
  exact rI () hx hb hr hlk rfl hS rfl hP9 hD9 (Nat.le_of_ble_eq_true rfl) (Nat.le_of_ble_eq_true rfl) dJ0_length_8abf5_10

theorem dJ3_checkIndex_8e157_0 : decode cJ3_checkIndex_8e157 0 = .ok (.iload_n 0, 1) := by decide +kernel
theorem dJ3_checkIndex_8e157_1 : decode cJ3_checkIndex_8e157 1 = .ok (.ifCond .lt 8, 3) := by decide +kernel
theorem dJ3_checkIndex_8e157_4 : decode cJ3_checkIndex_8e157 4 = .ok (.iload_n 0, 1) := by decide +kernel
theorem dJ3_checkIndex_8e157_5 : decode cJ3_checkIndex_8e157 5 = .ok (.iload_n 1, 1) := by decide +kernel
theorem dJ3_checkIndex_8e157_6 : decode cJ3_checkIndex_8e157 6 = .ok (.if_icmp .lt 10, 3) := by decide +kernel
theorem dJ3_checkIndex_8e157_16 : decode cJ3_checkIndex_8e157 16 = .ok (.iload_n 0, 1) := by decide +kernel
theorem dJ3_checkIndex_8e157_17 : decode cJ3_checkIndex_8e157 17 = .ok (.ireturn, 1) := by decide +kernel
set_option maxHeartbeats 4000000 in
set_option maxRecDepth 100000 in
theorem k_pci0n (l : Launch) (g : va_G) (aC : Nat → ClassId) (aM : Nat → Nat) (j : Nat) (hj : j < 97) : Ct l g aC aM yJ3_checkIndex_8e157 cJ3_checkIndex_8e157 3 (some .int) 1 [.int (nI j), .int 97, .null] [] (QI g (fun (r : Int32) (_ : Unit) => r = (nI j)) (fun (_ : Unit) => [])) 0 0 := by
  refine Ct.mk (by decide) (Nat.le_of_ble_eq_true rfl) ?_
  intro p e s m below meth c A ls hx hb hml hown hts hr hlk hnm hK hA hM hM2 hP hD hS hl
  have hown : s.vm.findClass RJ3 = some m.cls := hown
  have F : Fx p s m _ c cJ3_checkIndex_8e157 3 RJ3 g aC aM A := ⟨hx, hb, hml, hown, hts, hK, hA, hM, hM2⟩
  have hl : lv_has ls 3 [(0, .int (nI j)), (1, .int 97), (2, .null)] := hl
  refine lv_iload_n hx hb dJ3_checkIndex_8e157_0 rfl (lv_at hl 0 rfl) ?_
  refine lv_if_lt (tgt := 9) hx hb dJ3_checkIndex_8e157_1 (by decide) (fun c_ => absurd c_ (show ¬ (nI j < nI 0) by rw [nI_ltI (by omega) (by omega)]; omega)) (fun _ => ?_)
  refine lv_iload_n hx hb dJ3_checkIndex_8e157_4 rfl (lv_at hl 0 rfl) ?_
  refine lv_iload_n hx hb dJ3_checkIndex_8e157_5 rfl (lv_at hl 1 rfl) ?_
  refine lv_icmp_lt (tgt := 16) hx hb dJ3_checkIndex_8e157_6 (by decide) (fun _ => ?_) (fun c_ => absurd (show nI j < nI 97 by rw [nI_ltI (by omega) (by omega)]; omega) c_)
  refine lv_iload_n hx hb dJ3_checkIndex_8e157_16 rfl (lv_at hl 0 rfl) ?_
  have hP9 := hP.sub (ws' := []) [] rfl
  have hD9 := hD.sub (ws' := []) [] (by decide) rfl
  exact rI () hx hb hr hlk rfl hS rfl hP9 hD9 (Nat.le_of_ble_eq_true rfl) (Nat.le_of_ble_eq_true rfl) dJ3_checkIndex_8e157_17

set_option maxHeartbeats 4000000 in
set_option maxRecDepth 100000 in
theorem k_pci0r (l : Launch) (g : va_G) (aC : Nat → ClassId) (aM : Nat → Nat) (tz : Nat) (j : Nat) (hj : j < 97) : Ct l g aC aM yJ3_checkIndex_8e157 cJ3_checkIndex_8e157 3 (some .int) 1 [.int (nI j), .int 97, .ref tz] [] (QI g (fun (r : Int32) (_ : Unit) => r = (nI j)) (fun (_ : Unit) => [])) 0 0 := by
  refine Ct.mk (by decide) (Nat.le_of_ble_eq_true rfl) ?_
  intro p e s m below meth c A ls hx hb hml hown hts hr hlk hnm hK hA hM hM2 hP hD hS hl
  have hown : s.vm.findClass RJ3 = some m.cls := hown
  have F : Fx p s m _ c cJ3_checkIndex_8e157 3 RJ3 g aC aM A := ⟨hx, hb, hml, hown, hts, hK, hA, hM, hM2⟩
  have hl : lv_has ls 3 [(0, .int (nI j)), (1, .int 97), (2, .ref tz)] := hl
  refine lv_iload_n hx hb dJ3_checkIndex_8e157_0 rfl (lv_at hl 0 rfl) ?_
  refine lv_if_lt (tgt := 9) hx hb dJ3_checkIndex_8e157_1 (by decide) (fun c_ => absurd c_ (show ¬ (nI j < nI 0) by rw [nI_ltI (by omega) (by omega)]; omega)) (fun _ => ?_)
  refine lv_iload_n hx hb dJ3_checkIndex_8e157_4 rfl (lv_at hl 0 rfl) ?_
  refine lv_iload_n hx hb dJ3_checkIndex_8e157_5 rfl (lv_at hl 1 rfl) ?_
  refine lv_icmp_lt (tgt := 16) hx hb dJ3_checkIndex_8e157_6 (by decide) (fun _ => ?_) (fun c_ => absurd (show nI j < nI 97 by rw [nI_ltI (by omega) (by omega)]; omega) c_)
  refine lv_iload_n hx hb dJ3_checkIndex_8e157_16 rfl (lv_at hl 0 rfl) ?_
  have hP9 := hP.sub (ws' := []) [] rfl
  have hD9 := hD.sub (ws' := []) [] (by decide) rfl
  exact rI () hx hb hr hlk rfl hS rfl hP9 hD9 (Nat.le_of_ble_eq_true rfl) (Nat.le_of_ble_eq_true rfl) dJ3_checkIndex_8e157_17

set_option maxRecDepth 100000 in
theorem tb5 : (Jvm.Cond.initialized "jdk/internal/util/Preconditions") ∈ gw := lw_m1 5 rfl
set_option maxRecDepth 100000 in
theorem tb69 : (Jvm.Cond.fieldLink "java/lang/String" (1053 : Nat) "jdk/internal/util/Preconditions" "SIOOBE_FORMATTER" "Ljava/util/function/BiFunction;") ∈ gw := lw_m1 69 rfl
set_option maxRecDepth 100000 in
theorem tb71 : (Jvm.Cond.methodLink "java/lang/String" (1059 : Nat) ({ cls := "jdk/internal/util/Preconditions", name := "checkIndex", desc := "(IILjava/util/function/BiFunction;)I" } : Jvm.MethodName)) ∈ gw := lw_m1 71 rfl
set_option maxRecDepth 100000 in
theorem tb72 : (Jvm.Cond.static ({ cls := "jdk/internal/util/Preconditions", name := "checkIndex", desc := "(IILjava/util/function/BiFunction;)I" } : Jvm.MethodName)) ∈ gw := lw_m1 72 rfl
set_option maxRecDepth 100000 in
theorem tb73 : (Jvm.Cond.code ({ cls := "jdk/internal/util/Preconditions", name := "checkIndex", desc := "(IILjava/util/function/BiFunction;)I" } : Jvm.MethodName) prog_31_method_11_code (3 : Nat) (Option.some Jvm.ClassFile.FieldType.int)) ∈ gw := lw_m1 73 rfl
theorem dJ0_checkIndex_df160_0 : decode cJ0_checkIndex_df160 0 = .ok (.iload_n 0, 1) := by decide +kernel
theorem dJ0_checkIndex_df160_1 : decode cJ0_checkIndex_df160 1 = .ok (.iload_n 1, 1) := by decide +kernel
theorem dJ0_checkIndex_df160_2 : decode cJ0_checkIndex_df160 2 = .ok (.getstatic 1053, 3) := by decide +kernel
theorem dJ0_checkIndex_df160_5 : decode cJ0_checkIndex_df160 5 = .ok (.invokestatic 1059, 3) := by decide +kernel
theorem dJ0_checkIndex_df160_8 : decode cJ0_checkIndex_df160 8 = .ok (.pop, 1) := by decide +kernel
theorem dJ0_checkIndex_df160_9 : decode cJ0_checkIndex_df160 9 = .ok (.return_, 1) := by decide +kernel
set_option maxHeartbeats 4000000 in
set_option maxRecDepth 100000 in
theorem k_ci0 (l : Launch) (g : va_G) (aC : Nat → ClassId) (aM : Nat → Nat) (j : Nat) (hj : j < 97) : Ct l g aC aM yJ0_checkIndex_df160 cJ0_checkIndex_df160 2 none 2 [.int (nI j), .int 97] [] (QV g (fun (_ : Unit) => True) (fun (_ : Unit) => [])) 0 0 := by
  refine Ct.mk (by decide) (Nat.le_of_ble_eq_true rfl) ?_
  intro p e s m below meth c A ls hx hb hml hown hts hr hlk hnm hK hA hM hM2 hP hD hS hl
  have hown : s.vm.findClass RJ0 = some m.cls := hown
  have F : Fx p s m _ c cJ0_checkIndex_df160 2 RJ0 g aC aM A := ⟨hx, hb, hml, hown, hts, hK, hA, hM, hM2⟩
  have hl : lv_has ls 2 [(0, .int (nI j)), (1, .int 97)] := hl
  refine lv_iload_n hx hb dJ0_checkIndex_df160_0 rfl (lv_at hl 0 rfl) ?_
  refine lv_iload_n hx hb dJ0_checkIndex_df160_1 rfl (lv_at hl 1 rfl) ?_
  rcases hM.2.2.2.2 with hz | ⟨tz, hz⟩
  · refine va_gets hx hb hz hS hown (hts _ tb69) (fun _ h => h) dJ0_checkIndex_df160_2 ?_
    refine goI (wr := []) (runS (n := 3) (As := [.int (nI j), .int 97, .null]) (rest := []) F hP hD hS (k_pci0n l g aC aM j (by omega)) [] (by decide) rfl tb73 tb71 tb72 tb5 ⟨by decide, by decide, by decide +kernel⟩ ⟨Nat.le_of_ble_eq_true rfl, Nat.le_of_ble_eq_true rfl⟩ rfl hl.1 rfl (Nat.le_of_ble_eq_true rfl) dJ0_checkIndex_df160_5 ⟨Nat.le_of_ble_eq_true rfl, Nat.le_of_ble_eq_true rfl⟩) hP hD hS hA [] [] rfl rfl (by decide) (by decide) (fun r_2 w3 H locs hw hP hD hS => ?_)
    obtain ⟨hP, hD⟩ := cv_PD (L2 := []) hP hD rfl
    try dsimp only at hw
    subst hw
    refine lv_pop hx hb dJ0_checkIndex_df160_8 rfl ?_
    have hP9 := hP.sub (ws' := []) [] rfl
    have hD9 := hD.sub (ws' := []) [] (by decide) rfl
    exact rV () hx hb hr hlk hS trivial hP9 hD9 (Nat.le_of_ble_eq_true rfl) (Nat.le_of_ble_eq_true rfl) dJ0_checkIndex_df160_9
  · refine va_gets hx hb hz hS hown (hts _ tb69) (fun _ h => h) dJ0_checkIndex_df160_2 ?_
    refine goI (wr := []) (runS (n := 3) (As := [.int (nI j), .int 97, .ref tz]) (rest := []) F hP hD hS (k_pci0r l g aC aM tz j (by omega)) [] (by decide) rfl tb73 tb71 tb72 tb5 ⟨by decide, by decide, by decide +kernel⟩ ⟨Nat.le_of_ble_eq_true rfl, Nat.le_of_ble_eq_true rfl⟩ rfl hl.1 rfl (Nat.le_of_ble_eq_true rfl) dJ0_checkIndex_df160_5 ⟨Nat.le_of_ble_eq_true rfl, Nat.le_of_ble_eq_true rfl⟩) hP hD hS hA [] [] rfl rfl (by decide) (by decide) (fun r_5 w6 H locs hw hP hD hS => ?_)
    obtain ⟨hP, hD⟩ := cv_PD (L2 := []) hP hD rfl
    try dsimp only at hw
    subst hw
    refine lv_pop hx hb dJ0_checkIndex_df160_8 rfl ?_
    have hP9 := hP.sub (ws' := []) [] rfl
    have hD9 := hD.sub (ws' := []) [] (by decide) rfl
    exact rV () hx hb hr hlk hS trivial hP9 hD9 (Nat.le_of_ble_eq_true rfl) (Nat.le_of_ble_eq_true rfl) dJ0_checkIndex_df160_9

set_option maxRecDepth 100000 in
theorem tb66 : (Jvm.Cond.methodLink "java/lang/StringLatin1" (9 : Nat) ({ cls := "java/lang/String", name := "checkIndex", desc := "(II)V" } : Jvm.MethodName)) ∈ gw := lw_m1 66 rfl
set_option maxRecDepth 100000 in
theorem tb67 : (Jvm.Cond.static ({ cls := "java/lang/String", name := "checkIndex", desc := "(II)V" } : Jvm.MethodName)) ∈ gw := lw_m1 67 rfl
set_option maxRecDepth 100000 in
theorem tb68 : (Jvm.Cond.code ({ cls := "java/lang/String", name := "checkIndex", desc := "(II)V" } : Jvm.MethodName) prog_22_method_155_code (2 : Nat) (Option.none : Option Jvm.ClassFile.FieldType)) ∈ gw := lw_m1 68 rfl
theorem dJ1_charAt_3b067_0 : decode cJ1_charAt_3b067 0 = .ok (.iload_n 1, 1) := by decide +kernel
theorem dJ1_charAt_3b067_1 : decode cJ1_charAt_3b067 1 = .ok (.aload_n 0, 1) := by decide +kernel
theorem dJ1_charAt_3b067_2 : decode cJ1_charAt_3b067 2 = .ok (.arraylength, 1) := by decide +kernel
theorem dJ1_charAt_3b067_3 : decode cJ1_charAt_3b067 3 = .ok (.invokestatic 9, 3) := by decide +kernel
theorem dJ1_charAt_3b067_6 : decode cJ1_charAt_3b067 6 = .ok (.aload_n 0, 1) := by decide +kernel
theorem dJ1_charAt_3b067_7 : decode cJ1_charAt_3b067 7 = .ok (.iload_n 1, 1) := by decide +kernel
theorem dJ1_charAt_3b067_8 : decode cJ1_charAt_3b067 8 = .ok (.baload, 1) := by decide +kernel
theorem dJ1_charAt_3b067_9 : decode cJ1_charAt_3b067 9 = .ok (.sipush 255, 3) := by decide +kernel
theorem dJ1_charAt_3b067_12 : decode cJ1_charAt_3b067 12 = .ok (.iand, 1) := by decide +kernel
theorem dJ1_charAt_3b067_13 : decode cJ1_charAt_3b067 13 = .ok (.i2c, 1) := by decide +kernel
theorem dJ1_charAt_3b067_14 : decode cJ1_charAt_3b067 14 = .ok (.ireturn, 1) := by decide +kernel
set_option maxHeartbeats 4000000 in
set_option maxRecDepth 100000 in
theorem k_lcharAt0 (l : Launch) (g : va_G) (aC : Nat → ClassId) (aM : Nat → Nat) (j : Nat) (hj : j < 97) : Ct l g aC aM yJ1_charAt_3b067 cJ1_charAt_3b067 2 (some .char) 3 [.ref (aM (7 + 0)), .int (nI j)] [] (QI g (fun (r : Int32) (_ : Unit) => r = sgn 0 j) (fun (_ : Unit) => [])) 0 0 := by
  refine Ct.mk (by decide) (Nat.le_of_ble_eq_true rfl) ?_
  intro p e s m below meth c A ls hx hb hml hown hts hr hlk hnm hK hA hM hM2 hP hD hS hl
  have hown : s.vm.findClass RJ1 = some m.cls := hown
  have F : Fx p s m _ c cJ1_charAt_3b067 2 RJ1 g aC aM A := ⟨hx, hb, hml, hown, hts, hK, hA, hM, hM2⟩
  have hl : lv_has ls 2 [(0, .ref (aM (7 + 0))), (1, .int (nI j))] := hl
  refine lv_iload_n hx hb dJ1_charAt_3b067_0 rfl (lv_at hl 1 rfl) ?_
  refine lv_aload_n hx hb dJ1_charAt_3b067_1 rfl (lv_at hl 0 rfl) ?_
  refine va_tlen (v := 97) hx hb (hM.2.2.2.1.1 0 (by decide)).2.2.2 hS rfl dJ1_charAt_3b067_2 ?_
  refine goV (wr := []) (runS (n := 2) (As := [.int (nI j), .int 97]) (rest := []) F hP hD hS (k_ci0 l g aC aM j (by omega)) [] (by decide) rfl tb68 tb66 tb67 tb3 ⟨by decide, by decide, by decide +kernel⟩ ⟨Nat.le_of_ble_eq_true rfl, Nat.le_of_ble_eq_true rfl⟩ rfl hl.1 rfl (Nat.le_of_ble_eq_true rfl) dJ1_charAt_3b067_3 ⟨Nat.le_of_ble_eq_true rfl, Nat.le_of_ble_eq_true rfl⟩) hP hD hS hA [] [] rfl rfl (by decide) (by decide) (fun w3 H locs hw hP hD hS => ?_)
  obtain ⟨hP, hD⟩ := cv_PD (L2 := []) hP hD rfl
  refine lv_aload_n hx hb dJ1_charAt_3b067_6 rfl (lv_at hl 0 rfl) ?_
  refine lv_iload_n hx hb dJ1_charAt_3b067_7 rfl (lv_at hl 1 rfl) ?_
  obtain ⟨b4, eb4⟩ : ∃ z : Int32, ((stB.getD 0 []).getD j 0) = z := ⟨_, rfl⟩
  refine va_tb (v := .int b4) hx hb (hM.2.2.2.1.1 0 (by decide)).2.2.2 hS (vpin (nI_pos (by omega)) (nI_clamp (by omega)) (show j < 97 by omega)) (by rw [nI_clamp (by omega), eb4]) dJ1_charAt_3b067_8 ?_
  refine lv_sipush (v := 255) hx hb dJ1_charAt_3b067_9 (by decide) ?_
  refine lv_iand hx hb dJ1_charAt_3b067_12 ?_
  refine lv_i2c (v := (((b4 &&& 255).toUInt32 % 65536).toInt32)) hx hb dJ1_charAt_3b067_13 rfl ?_
  have hP9 := hP.sub (ws' := []) [] rfl
  have hD9 := hD.sub (ws' := []) [] (by decide) rfl
  exact rI () hx hb hr hlk (pk_nc _) hS (by unfold sgn; rw [eb4]) hP9 hD9 (Nat.le_of_ble_eq_true rfl) (Nat.le_of_ble_eq_true rfl) dJ1_charAt_3b067_14

set_option maxRecDepth 100000 in
theorem tb63 : (Jvm.Cond.methodLink "java/lang/String" (495 : Nat) ({ cls := "java/lang/StringLatin1", name := "charAt", desc := "([BI)C" } : Jvm.MethodName)) ∈ gw := lw_m1 63 rfl
set_option maxRecDepth 100000 in
theorem tb64 : (Jvm.Cond.static ({ cls := "java/lang/StringLatin1", name := "charAt", desc := "([BI)C" } : Jvm.MethodName)) ∈ gw := lw_m1 64 rfl
set_option maxRecDepth 100000 in
theorem tb65 : (Jvm.Cond.code ({ cls := "java/lang/StringLatin1", name := "charAt", desc := "([BI)C" } : Jvm.MethodName) prog_23_method_2_code (2 : Nat) (Option.some Jvm.ClassFile.FieldType.char)) ∈ gw := lw_m1 65 rfl
theorem dJ0_charAt_5068e_0 : decode cJ0_charAt_5068e 0 = .ok (.aload_n 0, 1) := by decide +kernel
theorem dJ0_charAt_5068e_1 : decode cJ0_charAt_5068e 1 = .ok (.invokevirtual 492, 3) := by decide +kernel
theorem dJ0_charAt_5068e_4 : decode cJ0_charAt_5068e 4 = .ok (.ifCond .eq 12, 3) := by decide +kernel
theorem dJ0_charAt_5068e_7 : decode cJ0_charAt_5068e 7 = .ok (.aload_n 0, 1) := by decide +kernel
theorem dJ0_charAt_5068e_8 : decode cJ0_charAt_5068e 8 = .ok (.getfield 9, 3) := by decide +kernel
theorem dJ0_charAt_5068e_11 : decode cJ0_charAt_5068e 11 = .ok (.iload_n 1, 1) := by decide +kernel
theorem dJ0_charAt_5068e_12 : decode cJ0_charAt_5068e 12 = .ok (.invokestatic 495, 3) := by decide +kernel
theorem dJ0_charAt_5068e_15 : decode cJ0_charAt_5068e 15 = .ok (.ireturn, 1) := by decide +kernel
set_option maxHeartbeats 4000000 in
set_option maxRecDepth 100000 in
theorem k_charAt0 (l : Launch) (g : va_G) (aC : Nat → ClassId) (aM : Nat → Nat) (j : Nat) (hj : j < 97) : Ct l g aC aM yJ0_charAt_5068e cJ0_charAt_5068e 2 (some .char) 4 [.ref (aM (1 + 0)), .int (nI j)] [] (QI g (fun (r : Int32) (_ : Unit) => r = sgn 0 j) (fun (_ : Unit) => [])) 0 0 := by
  refine Ct.mk (by decide) (Nat.le_of_ble_eq_true rfl) ?_
  intro p e s m below meth c A ls hx hb hml hown hts hr hlk hnm hK hA hM hM2 hP hD hS hl
  have hown : s.vm.findClass RJ0 = some m.cls := hown
  have F : Fx p s m _ c cJ0_charAt_5068e 2 RJ0 g aC aM A := ⟨hx, hb, hml, hown, hts, hK, hA, hM, hM2⟩
  have hl : lv_has ls 2 [(0, .ref (aM (1 + 0))), (1, .int (nI j))] := hl
  refine lv_aload_n hx hb dJ0_charAt_5068e_0 rfl (lv_at hl 0 rfl) ?_
  refine goI (wr := []) (runVs (n := 0) (As := []) (rest := []) F hP hD hS (k_latin0 l g aC aM ) [] (by decide) rfl 0 (by decide) rfl rfl tb62 tb59 tb60 tb61 tb3 ⟨by decide, by decide, by decide +kernel⟩ ⟨Nat.le_of_ble_eq_true rfl, Nat.le_of_ble_eq_true rfl⟩ rfl hl.1 rfl (Nat.le_of_ble_eq_true rfl) dJ0_charAt_5068e_1 ⟨Nat.le_of_ble_eq_true rfl, Nat.le_of_ble_eq_true rfl⟩) hP hD hS hA [] [] rfl rfl (by decide) (by decide) (fun r_2 w3 H locs hw hP hD hS => ?_)
  obtain ⟨hP, hD⟩ := cv_PD (L2 := []) hP hD rfl
  try dsimp only at hw
  subst hw
  refine lv_if_eq (tgt := 16) hx hb dJ0_charAt_5068e_4 (by decide) (fun c_ => absurd c_ (by decide +kernel)) (fun _ => ?_)
  refine lv_aload_n hx hb dJ0_charAt_5068e_7 rfl (lv_at hl 0 rfl) ?_
  refine vk_getf hx hb (hM.2.2.2.1.1 0 (by decide)).2.2.1 hS hown (hts _ tb1935) (fun _ h => h) dJ0_charAt_5068e_8 ?_
  refine lv_iload_n hx hb dJ0_charAt_5068e_11 rfl (lv_at hl 1 rfl) ?_
  refine goI (wr := []) (runS (n := 2) (As := [.ref (aM (7 + 0)), .int (nI j)]) (rest := []) F hP hD hS (k_lcharAt0 l g aC aM j (by omega)) [] (by decide) rfl tb65 tb63 tb64 tb4 ⟨by decide, by decide, by decide +kernel⟩ ⟨Nat.le_of_ble_eq_true rfl, Nat.le_of_ble_eq_true rfl⟩ rfl hl.1 rfl (Nat.le_of_ble_eq_true rfl) dJ0_charAt_5068e_12 ⟨Nat.le_of_ble_eq_true rfl, Nat.le_of_ble_eq_true rfl⟩) hP hD hS hA [] [] rfl rfl (by decide) (by decide) (fun r_6 w7 H locs hw hP hD hS => ?_)
  obtain ⟨hP, hD⟩ := cv_PD (L2 := []) hP hD rfl
  have y_ : r_6 = sgn 0 j := hw
  have x8 : narrow .char (.int r_6) = .int r_6 := by rw [y_]; exact pk_nc _
  have hP9 := hP.sub (ws' := []) [] rfl
  have hD9 := hD.sub (ws' := []) [] (by decide) rfl
  exact rI () hx hb hr hlk x8 hS y_ hP9 hD9 (Nat.le_of_ble_eq_true rfl) (Nat.le_of_ble_eq_true rfl) dJ0_charAt_5068e_15

set_option maxHeartbeats 4000000 in
set_option maxRecDepth 100000 in
theorem k_coder1 (l : Launch) (g : va_G) (aC : Nat → ClassId) (aM : Nat → Nat)  : Ct l g aC aM yJ0_coder_7d493 cJ0_coder_7d493 1 (some .byte) 1 [.ref (aM (1 + 1))] [] (QI g (fun (r : Int32) (_ : Unit) => r = 0) (fun (_ : Unit) => [])) 0 0 := by
  refine Ct.mk (by decide) (Nat.le_of_ble_eq_true rfl) ?_
  intro p e s m below meth c A ls hx hb hml hown hts hr hlk hnm hK hA hM hM2 hP hD hS hl
  have hown : s.vm.findClass RJ0 = some m.cls := hown
  have F : Fx p s m _ c cJ0_coder_7d493 1 RJ0 g aC aM A := ⟨hx, hb, hml, hown, hts, hK, hA, hM, hM2⟩
  have hl : lv_has ls 1 [(0, .ref (aM (1 + 1)))] := hl
  refine va_gets hx hb hM.2.2.1 hS hown (hts _ tb53) (fun _ h => h) dJ0_coder_7d493_0 ?_
  refine lv_if_eq (tgt := 13) hx hb dJ0_coder_7d493_3 (by decide) (fun c_ => absurd c_ (by decide +kernel)) (fun _ => ?_)
  refine lv_aload_n hx hb dJ0_coder_7d493_6 rfl (lv_at hl 0 rfl) ?_
  refine vk_getf hx hb (hM.2.2.2.1.1 1 (by decide)).2.1 hS hown (hts _ tb1936) (fun _ h => h) dJ0_coder_7d493_7 ?_
  refine lv_goto (tgt := 14) hx hb dJ0_coder_7d493_10 (by decide) ?_
  have hP9 := hP.sub (ws' := []) [] rfl
  have hD9 := hD.sub (ws' := []) [] (by decide) rfl
  exact rI () hx hb hr hlk rfl hS rfl hP9 hD9 (Nat.le_of_ble_eq_true rfl) (Nat.le_of_ble_eq_true rfl) dJ0_coder_7d493_14

set_option maxHeartbeats 4000000 in
set_option maxRecDepth 100000 in
theorem k_latin1 (l : Launch) (g : va_G) (aC : Nat → ClassId) (aM : Nat → Nat)  : Ct l g aC aM yJ0_isLatin1_aae02 cJ0_isLatin1_aae02 1 (some .boolean) 1 [.ref (aM (1 + 1))] [] (QI g (fun (r : Int32) (_ : Unit) => r = 1) (fun (_ : Unit) => [])) 0 0 := by
  refine Ct.mk (by decide) (Nat.le_of_ble_eq_true rfl) ?_
  intro p e s m below meth c A ls hx hb hml hown hts hr hlk hnm hK hA hM hM2 hP hD hS hl
  have hown : s.vm.findClass RJ0 = some m.cls := hown
  have F : Fx p s m _ c cJ0_isLatin1_aae02 1 RJ0 g aC aM A := ⟨hx, hb, hml, hown, hts, hK, hA, hM, hM2⟩
  have hl : lv_has ls 1 [(0, .ref (aM (1 + 1)))] := hl
  refine va_gets hx hb hM.2.2.1 hS hown (hts _ tb53) (fun _ h => h) dJ0_isLatin1_aae02_0 ?_
  refine lv_if_eq (tgt := 17) hx hb dJ0_isLatin1_aae02_3 (by decide) (fun c_ => absurd c_ (by decide +kernel)) (fun _ => ?_)
  refine lv_aload_n hx hb dJ0_isLatin1_aae02_6 rfl (lv_at hl 0 rfl) ?_
  refine vk_getf hx hb (hM.2.2.2.1.1 1 (by decide)).2.1 hS hown (hts _ tb1936) (fun _ h => h) dJ0_isLatin1_aae02_7 ?_
  refine lv_if_ne (tgt := 17) hx hb dJ0_isLatin1_aae02_10 (by decide) (fun c_ => absurd (by decide +kernel) c_) (fun _ => ?_)
  refine lv_iconst (v := 1) hx hb dJ0_isLatin1_aae02_13 (by decide) ?_
  refine lv_goto (tgt := 18) hx hb dJ0_isLatin1_aae02_14 (by decide) ?_
  have hP9 := hP.sub (ws' := []) [] rfl
  have hD9 := hD.sub (ws' := []) [] (by decide) rfl
  exact rI () hx hb hr hlk rfl hS rfl hP9 hD9 (Nat.le_of_ble_eq_true rfl) (Nat.le_of_ble_eq_true rfl) dJ0_isLatin1_aae02_18

set_option maxHeartbeats 4000000 in
set_option maxRecDepth 100000 in
theorem k_length1 (l : Launch) (g : va_G) (aC : Nat → ClassId) (aM : Nat → Nat)  : Ct l g aC aM yJ0_length_8abf5 cJ0_length_8abf5 1 (some .int) 2 [.ref (aM (1 + 1))] [] (QI g (fun (r : Int32) (_ : Unit) => r = 38) (fun (_ : Unit) => [])) 0 0 := by
  refine Ct.mk (by decide) (Nat.le_of_ble_eq_true rfl) ?_
  intro p e s m below meth c A ls hx hb hml hown hts hr hlk hnm hK hA hM hM2 hP hD hS hl
  have hown : s.vm.findClass RJ0 = some m.cls := hown
  have F : Fx p s m _ c cJ0_length_8abf5 1 RJ0 g aC aM A := ⟨hx, hb, hml, hown, hts, hK, hA, hM, hM2⟩
  have hl : lv_has ls 1 [(0, .ref (aM (1 + 1)))] := hl
  refine lv_aload_n hx hb dJ0_length_8abf5_0 rfl (lv_at hl 0 rfl) ?_
  refine vk_getf hx hb (hM.2.2.2.1.1 1 (by decide)).2.2.1 hS hown (hts _ tb1935) (fun _ h => h) dJ0_length_8abf5_1 ?_
  refine va_tlen (v := 38) hx hb (hM.2.2.2.1.1 1 (by decide)).2.2.2 hS rfl dJ0_length_8abf5_4 ?_
  refine lv_aload_n hx hb dJ0_length_8abf5_5 rfl (lv_at hl 0 rfl) ?_
  refine goI (wr := []) (runVs (n := 0) (As := []) (rest := [.int 38]) F hP hD hS (k_coder1 l g aC aM ) [] (by decide) rfl 1 (by decide) rfl rfl tb52 tb49 tb50 tb51 tb3 ⟨by decide, by decide, by decide +kernel⟩ ⟨Nat.le_of_ble_eq_true rfl, Nat.le_of_ble_eq_true rfl⟩ rfl hl.1 rfl (Nat.le_of_ble_eq_true rfl) dJ0_length_8abf5_6 ⟨Nat.le_of_ble_eq_true rfl, Nat.le_of_ble_eq_true rfl⟩) hP hD hS hA [] [] rfl rfl (by decide) (by decide) (fun r_2 w3 H locs hw hP hD hS => ?_)
  obtain ⟨hP, hD⟩ := cv_PD (L2 := []) hP hD rfl
  try dsimp only at hw
  subst hw
  refine lv_ishr hx hb dJ0_length_8abf5_9 ?_
  refine relit (v := 38) (by decide +kernel) ?_
  have hP9 := hP.sub (ws' := []) [] rfl
  have hD9 := hD.sub (ws' := []) [] (by decide) rfl
  exact rI () hx hb hr hlk rfl hS rfl hP9 hD9 (Nat.le_of_ble_eq_true rfl) (Nat.le_of_ble_eq_true rfl) dJ0_length_8abf5_10

set_option maxHeartbeats 4000000 in
set_option maxRecDepth 100000 in
theorem k_pci1n (l : Launch) (g : va_G) (aC : Nat → ClassId) (aM : Nat → Nat) (j : Nat) (hj : j < 38) : Ct l g aC aM yJ3_checkIndex_8e157 cJ3_checkIndex_8e157 3 (some .int) 1 [.int (nI j), .int 38, .null] [] (QI g (fun (r : Int32) (_ : Unit) => r = (nI j)) (fun (_ : Unit) => [])) 0 0 := by
  refine Ct.mk (by decide) (Nat.le_of_ble_eq_true rfl) ?_
  intro p e s m below meth c A ls hx hb hml hown hts hr hlk hnm hK hA hM hM2 hP hD hS hl
  have hown : s.vm.findClass RJ3 = some m.cls := hown
  have F : Fx p s m _ c cJ3_checkIndex_8e157 3 RJ3 g aC aM A := ⟨hx, hb, hml, hown, hts, hK, hA, hM, hM2⟩
  have hl : lv_has ls 3 [(0, .int (nI j)), (1, .int 38), (2, .null)] := hl
  refine lv_iload_n hx hb dJ3_checkIndex_8e157_0 rfl (lv_at hl 0 rfl) ?_
  refine lv_if_lt (tgt := 9) hx hb dJ3_checkIndex_8e157_1 (by decide) (fun c_ => absurd c_ (show ¬ (nI j < nI 0) by rw [nI_ltI (by omega) (by omega)]; omega)) (fun _ => ?_)
  refine lv_iload_n hx hb dJ3_checkIndex_8e157_4 rfl (lv_at hl 0 rfl) ?_
  refine lv_iload_n hx hb dJ3_checkIndex_8e157_5 rfl (lv_at hl 1 rfl) ?_
  refine lv_icmp_lt (tgt := 16) hx hb dJ3_checkIndex_8e157_6 (by decide) (fun _ => ?_) (fun c_ => absurd (show nI j < nI 38 by rw [nI_ltI (by omega) (by omega)]; omega) c_)
  refine lv_iload_n hx hb dJ3_checkIndex_8e157_16 rfl (lv_at hl 0 rfl) ?_
  have hP9 := hP.sub (ws' := []) [] rfl
  have hD9 := hD.sub (ws' := []) [] (by decide) rfl
  exact rI () hx hb hr hlk rfl hS rfl hP9 hD9 (Nat.le_of_ble_eq_true rfl) (Nat.le_of_ble_eq_true rfl) dJ3_checkIndex_8e157_17

set_option maxHeartbeats 4000000 in
set_option maxRecDepth 100000 in
theorem k_pci1r (l : Launch) (g : va_G) (aC : Nat → ClassId) (aM : Nat → Nat) (tz : Nat) (j : Nat) (hj : j < 38) : Ct l g aC aM yJ3_checkIndex_8e157 cJ3_checkIndex_8e157 3 (some .int) 1 [.int (nI j), .int 38, .ref tz] [] (QI g (fun (r : Int32) (_ : Unit) => r = (nI j)) (fun (_ : Unit) => [])) 0 0 := by
  refine Ct.mk (by decide) (Nat.le_of_ble_eq_true rfl) ?_
  intro p e s m below meth c A ls hx hb hml hown hts hr hlk hnm hK hA hM hM2 hP hD hS hl
  have hown : s.vm.findClass RJ3 = some m.cls := hown
  have F : Fx p s m _ c cJ3_checkIndex_8e157 3 RJ3 g aC aM A := ⟨hx, hb, hml, hown, hts, hK, hA, hM, hM2⟩
  have hl : lv_has ls 3 [(0, .int (nI j)), (1, .int 38), (2, .ref tz)] := hl
  refine lv_iload_n hx hb dJ3_checkIndex_8e157_0 rfl (lv_at hl 0 rfl) ?_
  refine lv_if_lt (tgt := 9) hx hb dJ3_checkIndex_8e157_1 (by decide) (fun c_ => absurd c_ (show ¬ (nI j < nI 0) by rw [nI_ltI (by omega) (by omega)]; omega)) (fun _ => ?_)
  refine lv_iload_n hx hb dJ3_checkIndex_8e157_4 rfl (lv_at hl 0 rfl) ?_
  refine lv_iload_n hx hb dJ3_checkIndex_8e157_5 rfl (lv_at hl 1 rfl) ?_
  refine lv_icmp_lt (tgt := 16) hx hb dJ3_checkIndex_8e157_6 (by decide) (fun _ => ?_) (fun c_ => absurd (show nI j < nI 38 by rw [nI_ltI (by omega) (by omega)]; omega) c_)
  refine lv_iload_n hx hb dJ3_checkIndex_8e157_16 rfl (lv_at hl 0 rfl) ?_
  have hP9 := hP.sub (ws' := []) [] rfl
  have hD9 := hD.sub (ws' := []) [] (by decide) rfl
  exact rI () hx hb hr hlk rfl hS rfl hP9 hD9 (Nat.le_of_ble_eq_true rfl) (Nat.le_of_ble_eq_true rfl) dJ3_checkIndex_8e157_17

set_option maxHeartbeats 4000000 in
set_option maxRecDepth 100000 in
theorem k_ci1 (l : Launch) (g : va_G) (aC : Nat → ClassId) (aM : Nat → Nat) (j : Nat) (hj : j < 38) : Ct l g aC aM yJ0_checkIndex_df160 cJ0_checkIndex_df160 2 none 2 [.int (nI j), .int 38] [] (QV g (fun (_ : Unit) => True) (fun (_ : Unit) => [])) 0 0 := by
  refine Ct.mk (by decide) (Nat.le_of_ble_eq_true rfl) ?_
  intro p e s m below meth c A ls hx hb hml hown hts hr hlk hnm hK hA hM hM2 hP hD hS hl
  have hown : s.vm.findClass RJ0 = some m.cls := hown
  have F : Fx p s m _ c cJ0_checkIndex_df160 2 RJ0 g aC aM A := ⟨hx, hb, hml, hown, hts, hK, hA, hM, hM2⟩
  have hl : lv_has ls 2 [(0, .int (nI j)), (1, .int 38)] := hl
  refine lv_iload_n hx hb dJ0_checkIndex_df160_0 rfl (lv_at hl 0 rfl) ?_
  refine lv_iload_n hx hb dJ0_checkIndex_df160_1 rfl (lv_at hl 1 rfl) ?_
  rcases hM.2.2.2.2 with hz | ⟨tz, hz⟩
  · refine va_gets hx hb hz hS hown (hts _ tb69) (fun _ h => h) dJ0_checkIndex_df160_2 ?_
    refine goI (wr := []) (runS (n := 3) (As := [.int (nI j), .int 38, .null]) (rest := []) F hP hD hS (k_pci1n l g aC aM j (by omega)) [] (by decide) rfl tb73 tb71 tb72 tb5 ⟨by decide, by decide, by decide +kernel⟩ ⟨Nat.le_of_ble_eq_true rfl, Nat.le_of_ble_eq_true rfl⟩ rfl hl.1 rfl (Nat.le_of_ble_eq_true rfl) dJ0_checkIndex_df160_5 ⟨Nat.le_of_ble_eq_true rfl, Nat.le_of_ble_eq_true rfl⟩) hP hD hS hA [] [] rfl rfl (by decide) (by decide) (fun r_2 w3 H locs hw hP hD hS => ?_)
    obtain ⟨hP, hD⟩ := cv_PD (L2 := []) hP hD rfl
    try dsimp only at hw
    subst hw
    refine lv_pop hx hb dJ0_checkIndex_df160_8 rfl ?_
    have hP9 := hP.sub (ws' := []) [] rfl
    have hD9 := hD.sub (ws' := []) [] (by decide) rfl
    exact rV () hx hb hr hlk hS trivial hP9 hD9 (Nat.le_of_ble_eq_true rfl) (Nat.le_of_ble_eq_true rfl) dJ0_checkIndex_df160_9
  · refine va_gets hx hb hz hS hown (hts _ tb69) (fun _ h => h) dJ0_checkIndex_df160_2 ?_
    refine goI (wr := []) (runS (n := 3) (As := [.int (nI j), .int 38, .ref tz]) (rest := []) F hP hD hS (k_pci1r l g aC aM tz j (by omega)) [] (by decide) rfl tb73 tb71 tb72 tb5 ⟨by decide, by decide, by decide +kernel⟩ ⟨Nat.le_of_ble_eq_true rfl, Nat.le_of_ble_eq_true rfl⟩ rfl hl.1 rfl (Nat.le_of_ble_eq_true rfl) dJ0_checkIndex_df160_5 ⟨Nat.le_of_ble_eq_true rfl, Nat.le_of_ble_eq_true rfl⟩) hP hD hS hA [] [] rfl rfl (by decide) (by decide) (fun r_5 w6 H locs hw hP hD hS => ?_)
    obtain ⟨hP, hD⟩ := cv_PD (L2 := []) hP hD rfl
    try dsimp only at hw
    subst hw
    refine lv_pop hx hb dJ0_checkIndex_df160_8 rfl ?_
    have hP9 := hP.sub (ws' := []) [] rfl
    have hD9 := hD.sub (ws' := []) [] (by decide) rfl
    exact rV () hx hb hr hlk hS trivial hP9 hD9 (Nat.le_of_ble_eq_true rfl) (Nat.le_of_ble_eq_true rfl) dJ0_checkIndex_df160_9

set_option maxHeartbeats 4000000 in
set_option maxRecDepth 100000 in
theorem k_lcharAt1 (l : Launch) (g : va_G) (aC : Nat → ClassId) (aM : Nat → Nat) (j : Nat) (hj : j < 38) : Ct l g aC aM yJ1_charAt_3b067 cJ1_charAt_3b067 2 (some .char) 3 [.ref (aM (7 + 1)), .int (nI j)] [] (QI g (fun (r : Int32) (_ : Unit) => r = sgn 1 j) (fun (_ : Unit) => [])) 0 0 := by
  refine Ct.mk (by decide) (Nat.le_of_ble_eq_true rfl) ?_
  intro p e s m below meth c A ls hx hb hml hown hts hr hlk hnm hK hA hM hM2 hP hD hS hl
  have hown : s.vm.findClass RJ1 = some m.cls := hown
  have F : Fx p s m _ c cJ1_charAt_3b067 2 RJ1 g aC aM A := ⟨hx, hb, hml, hown, hts, hK, hA, hM, hM2⟩
  have hl : lv_has ls 2 [(0, .ref (aM (7 + 1))), (1, .int (nI j))] := hl
  refine lv_iload_n hx hb dJ1_charAt_3b067_0 rfl (lv_at hl 1 rfl) ?_
  refine lv_aload_n hx hb dJ1_charAt_3b067_1 rfl (lv_at hl 0 rfl) ?_
  refine va_tlen (v := 38) hx hb (hM.2.2.2.1.1 1 (by decide)).2.2.2 hS rfl dJ1_charAt_3b067_2 ?_
  refine goV (wr := []) (runS (n := 2) (As := [.int (nI j), .int 38]) (rest := []) F hP hD hS (k_ci1 l g aC aM j (by omega)) [] (by decide) rfl tb68 tb66 tb67 tb3 ⟨by decide, by decide, by decide +kernel⟩ ⟨Nat.le_of_ble_eq_true rfl, Nat.le_of_ble_eq_true rfl⟩ rfl hl.1 rfl (Nat.le_of_ble_eq_true rfl) dJ1_charAt_3b067_3 ⟨Nat.le_of_ble_eq_true rfl, Nat.le_of_ble_eq_true rfl⟩) hP hD hS hA [] [] rfl rfl (by decide) (by decide) (fun w3 H locs hw hP hD hS => ?_)
  obtain ⟨hP, hD⟩ := cv_PD (L2 := []) hP hD rfl
  refine lv_aload_n hx hb dJ1_charAt_3b067_6 rfl (lv_at hl 0 rfl) ?_
  refine lv_iload_n hx hb dJ1_charAt_3b067_7 rfl (lv_at hl 1 rfl) ?_
  obtain ⟨b4, eb4⟩ : ∃ z : Int32, ((stB.getD 1 []).getD j 0) = z := ⟨_, rfl⟩
  refine va_tb (v := .int b4) hx hb (hM.2.2.2.1.1 1 (by decide)).2.2.2 hS (vpin (nI_pos (by omega)) (nI_clamp (by omega)) (show j < 38 by omega)) (by rw [nI_clamp (by omega), eb4]) dJ1_charAt_3b067_8 ?_
  refine lv_sipush (v := 255) hx hb dJ1_charAt_3b067_9 (by decide) ?_
  refine lv_iand hx hb dJ1_charAt_3b067_12 ?_
  refine lv_i2c (v := (((b4 &&& 255).toUInt32 % 65536).toInt32)) hx hb dJ1_charAt_3b067_13 rfl ?_
  have hP9 := hP.sub (ws' := []) [] rfl
  have hD9 := hD.sub (ws' := []) [] (by decide) rfl
  exact rI () hx hb hr hlk (pk_nc _) hS (by unfold sgn; rw [eb4]) hP9 hD9 (Nat.le_of_ble_eq_true rfl) (Nat.le_of_ble_eq_true rfl) dJ1_charAt_3b067_14

set_option maxHeartbeats 4000000 in
set_option maxRecDepth 100000 in
theorem k_charAt1 (l : Launch) (g : va_G) (aC : Nat → ClassId) (aM : Nat → Nat) (j : Nat) (hj : j < 38) : Ct l g aC aM yJ0_charAt_5068e cJ0_charAt_5068e 2 (some .char) 4 [.ref (aM (1 + 1)), .int (nI j)] [] (QI g (fun (r : Int32) (_ : Unit) => r = sgn 1 j) (fun (_ : Unit) => [])) 0 0 := by
  refine Ct.mk (by decide) (Nat.le_of_ble_eq_true rfl) ?_
  intro p e s m below meth c A ls hx hb hml hown hts hr hlk hnm hK hA hM hM2 hP hD hS hl
  have hown : s.vm.findClass RJ0 = some m.cls := hown
  have F : Fx p s m _ c cJ0_charAt_5068e 2 RJ0 g aC aM A := ⟨hx, hb, hml, hown, hts, hK, hA, hM, hM2⟩
  have hl : lv_has ls 2 [(0, .ref (aM (1 + 1))), (1, .int (nI j))] := hl
  refine lv_aload_n hx hb dJ0_charAt_5068e_0 rfl (lv_at hl 0 rfl) ?_
  refine goI (wr := []) (runVs (n := 0) (As := []) (rest := []) F hP hD hS (k_latin1 l g aC aM ) [] (by decide) rfl 1 (by decide) rfl rfl tb62 tb59 tb60 tb61 tb3 ⟨by decide, by decide, by decide +kernel⟩ ⟨Nat.le_of_ble_eq_true rfl, Nat.le_of_ble_eq_true rfl⟩ rfl hl.1 rfl (Nat.le_of_ble_eq_true rfl) dJ0_charAt_5068e_1 ⟨Nat.le_of_ble_eq_true rfl, Nat.le_of_ble_eq_true rfl⟩) hP hD hS hA [] [] rfl rfl (by decide) (by decide) (fun r_2 w3 H locs hw hP hD hS => ?_)
  obtain ⟨hP, hD⟩ := cv_PD (L2 := []) hP hD rfl
  try dsimp only at hw
  subst hw
  refine lv_if_eq (tgt := 16) hx hb dJ0_charAt_5068e_4 (by decide) (fun c_ => absurd c_ (by decide +kernel)) (fun _ => ?_)
  refine lv_aload_n hx hb dJ0_charAt_5068e_7 rfl (lv_at hl 0 rfl) ?_
  refine vk_getf hx hb (hM.2.2.2.1.1 1 (by decide)).2.2.1 hS hown (hts _ tb1935) (fun _ h => h) dJ0_charAt_5068e_8 ?_
  refine lv_iload_n hx hb dJ0_charAt_5068e_11 rfl (lv_at hl 1 rfl) ?_
  refine goI (wr := []) (runS (n := 2) (As := [.ref (aM (7 + 1)), .int (nI j)]) (rest := []) F hP hD hS (k_lcharAt1 l g aC aM j (by omega)) [] (by decide) rfl tb65 tb63 tb64 tb4 ⟨by decide, by decide, by decide +kernel⟩ ⟨Nat.le_of_ble_eq_true rfl, Nat.le_of_ble_eq_true rfl⟩ rfl hl.1 rfl (Nat.le_of_ble_eq_true rfl) dJ0_charAt_5068e_12 ⟨Nat.le_of_ble_eq_true rfl, Nat.le_of_ble_eq_true rfl⟩) hP hD hS hA [] [] rfl rfl (by decide) (by decide) (fun r_6 w7 H locs hw hP hD hS => ?_)
  obtain ⟨hP, hD⟩ := cv_PD (L2 := []) hP hD rfl
  have y_ : r_6 = sgn 1 j := hw
  have x8 : narrow .char (.int r_6) = .int r_6 := by rw [y_]; exact pk_nc _
  have hP9 := hP.sub (ws' := []) [] rfl
  have hD9 := hD.sub (ws' := []) [] (by decide) rfl
  exact rI () hx hb hr hlk x8 hS y_ hP9 hD9 (Nat.le_of_ble_eq_true rfl) (Nat.le_of_ble_eq_true rfl) dJ0_charAt_5068e_15

set_option maxHeartbeats 4000000 in
set_option maxRecDepth 100000 in
theorem k_coder2 (l : Launch) (g : va_G) (aC : Nat → ClassId) (aM : Nat → Nat)  : Ct l g aC aM yJ0_coder_7d493 cJ0_coder_7d493 1 (some .byte) 1 [.ref (aM (1 + 2))] [] (QI g (fun (r : Int32) (_ : Unit) => r = 0) (fun (_ : Unit) => [])) 0 0 := by
  refine Ct.mk (by decide) (Nat.le_of_ble_eq_true rfl) ?_
  intro p e s m below meth c A ls hx hb hml hown hts hr hlk hnm hK hA hM hM2 hP hD hS hl
  have hown : s.vm.findClass RJ0 = some m.cls := hown
  have F : Fx p s m _ c cJ0_coder_7d493 1 RJ0 g aC aM A := ⟨hx, hb, hml, hown, hts, hK, hA, hM, hM2⟩
  have hl : lv_has ls 1 [(0, .ref (aM (1 + 2)))] := hl
  refine va_gets hx hb hM.2.2.1 hS hown (hts _ tb53) (fun _ h => h) dJ0_coder_7d493_0 ?_
  refine lv_if_eq (tgt := 13) hx hb dJ0_coder_7d493_3 (by decide) (fun c_ => absurd c_ (by decide +kernel)) (fun _ => ?_)
  refine lv_aload_n hx hb dJ0_coder_7d493_6 rfl (lv_at hl 0 rfl) ?_
  refine vk_getf hx hb (hM.2.2.2.1.1 2 (by decide)).2.1 hS hown (hts _ tb1936) (fun _ h => h) dJ0_coder_7d493_7 ?_
  refine lv_goto (tgt := 14) hx hb dJ0_coder_7d493_10 (by decide) ?_
  have hP9 := hP.sub (ws' := []) [] rfl
  have hD9 := hD.sub (ws' := []) [] (by decide) rfl
  exact rI () hx hb hr hlk rfl hS rfl hP9 hD9 (Nat.le_of_ble_eq_true rfl) (Nat.le_of_ble_eq_true rfl) dJ0_coder_7d493_14

set_option maxHeartbeats 4000000 in
set_option maxRecDepth 100000 in
theorem k_latin2 (l : Launch) (g : va_G) (aC : Nat → ClassId) (aM : Nat → Nat)  : Ct l g aC aM yJ0_isLatin1_aae02 cJ0_isLatin1_aae02 1 (some .boolean) 1 [.ref (aM (1 + 2))] [] (QI g (fun (r : Int32) (_ : Unit) => r = 1) (fun (_ : Unit) => [])) 0 0 := by
  refine Ct.mk (by decide) (Nat.le_of_ble_eq_true rfl) ?_
  intro p e s m below meth c A ls hx hb hml hown hts hr hlk hnm hK hA hM hM2 hP hD hS hl
  have hown : s.vm.findClass RJ0 = some m.cls := hown
  have F : Fx p s m _ c cJ0_isLatin1_aae02 1 RJ0 g aC aM A := ⟨hx, hb, hml, hown, hts, hK, hA, hM, hM2⟩
  have hl : lv_has ls 1 [(0, .ref (aM (1 + 2)))] := hl
  refine va_gets hx hb hM.2.2.1 hS hown (hts _ tb53) (fun _ h => h) dJ0_isLatin1_aae02_0 ?_
  refine lv_if_eq (tgt := 17) hx hb dJ0_isLatin1_aae02_3 (by decide) (fun c_ => absurd c_ (by decide +kernel)) (fun _ => ?_)
  refine lv_aload_n hx hb dJ0_isLatin1_aae02_6 rfl (lv_at hl 0 rfl) ?_
  refine vk_getf hx hb (hM.2.2.2.1.1 2 (by decide)).2.1 hS hown (hts _ tb1936) (fun _ h => h) dJ0_isLatin1_aae02_7 ?_
  refine lv_if_ne (tgt := 17) hx hb dJ0_isLatin1_aae02_10 (by decide) (fun c_ => absurd (by decide +kernel) c_) (fun _ => ?_)
  refine lv_iconst (v := 1) hx hb dJ0_isLatin1_aae02_13 (by decide) ?_
  refine lv_goto (tgt := 18) hx hb dJ0_isLatin1_aae02_14 (by decide) ?_
  have hP9 := hP.sub (ws' := []) [] rfl
  have hD9 := hD.sub (ws' := []) [] (by decide) rfl
  exact rI () hx hb hr hlk rfl hS rfl hP9 hD9 (Nat.le_of_ble_eq_true rfl) (Nat.le_of_ble_eq_true rfl) dJ0_isLatin1_aae02_18

set_option maxHeartbeats 4000000 in
set_option maxRecDepth 100000 in
theorem k_length2 (l : Launch) (g : va_G) (aC : Nat → ClassId) (aM : Nat → Nat)  : Ct l g aC aM yJ0_length_8abf5 cJ0_length_8abf5 1 (some .int) 2 [.ref (aM (1 + 2))] [] (QI g (fun (r : Int32) (_ : Unit) => r = 17) (fun (_ : Unit) => [])) 0 0 := by
  refine Ct.mk (by decide) (Nat.le_of_ble_eq_true rfl) ?_
  intro p e s m below meth c A ls hx hb hml hown hts hr hlk hnm hK hA hM hM2 hP hD hS hl
  have hown : s.vm.findClass RJ0 = some m.cls := hown
  have F : Fx p s m _ c cJ0_length_8abf5 1 RJ0 g aC aM A := ⟨hx, hb, hml, hown, hts, hK, hA, hM, hM2⟩
  have hl : lv_has ls 1 [(0, .ref (aM (1 + 2)))] := hl
  refine lv_aload_n hx hb dJ0_length_8abf5_0 rfl (lv_at hl 0 rfl) ?_
  refine vk_getf hx hb (hM.2.2.2.1.1 2 (by decide)).2.2.1 hS hown (hts _ tb1935) (fun _ h => h) dJ0_length_8abf5_1 ?_
  refine va_tlen (v := 17) hx hb (hM.2.2.2.1.1 2 (by decide)).2.2.2 hS rfl dJ0_length_8abf5_4 ?_
  refine lv_aload_n hx hb dJ0_length_8abf5_5 rfl (lv_at hl 0 rfl) ?_
  refine goI (wr := []) (runVs (n := 0) (As := []) (rest := [.int 17]) F hP hD hS (k_coder2 l g aC aM ) [] (by decide) rfl 2 (by decide) rfl rfl tb52 tb49 tb50 tb51 tb3 ⟨by decide, by decide, by decide +kernel⟩ ⟨Nat.le_of_ble_eq_true rfl, Nat.le_of_ble_eq_true rfl⟩ rfl hl.1 rfl (Nat.le_of_ble_eq_true rfl) dJ0_length_8abf5_6 ⟨Nat.le_of_ble_eq_true rfl, Nat.le_of_ble_eq_true rfl⟩) hP hD hS hA [] [] rfl rfl (by decide) (by decide) (fun r_2 w3 H locs hw hP hD hS => ?_)
  obtain ⟨hP, hD⟩ := cv_PD (L2 := []) hP hD rfl
  try dsimp only at hw
  subst hw
  refine lv_ishr hx hb dJ0_length_8abf5_9 ?_
  refine relit (v := 17) (by decide +kernel) ?_
  have hP9 := hP.sub (ws' := []) [] rfl
  have hD9 := hD.sub (ws' := []) [] (by decide) rfl
  exact rI () hx hb hr hlk rfl hS rfl hP9 hD9 (Nat.le_of_ble_eq_true rfl) (Nat.le_of_ble_eq_true rfl) dJ0_length_8abf5_10

set_option maxHeartbeats 4000000 in
set_option maxRecDepth 100000 in
theorem k_pci2n (l : Launch) (g : va_G) (aC : Nat → ClassId) (aM : Nat → Nat) (j : Nat) (hj : j < 17) : Ct l g aC aM yJ3_checkIndex_8e157 cJ3_checkIndex_8e157 3 (some .int) 1 [.int (nI j), .int 17, .null] [] (QI g (fun (r : Int32) (_ : Unit) => r = (nI j)) (fun (_ : Unit) => [])) 0 0 := by
  refine Ct.mk (by decide) (Nat.le_of_ble_eq_true rfl) ?_
  intro p e s m below meth c A ls hx hb hml hown hts hr hlk hnm hK hA hM hM2 hP hD hS hl
  have hown : s.vm.findClass RJ3 = some m.cls := hown
  have F : Fx p s m _ c cJ3_checkIndex_8e157 3 RJ3 g aC aM A := ⟨hx, hb, hml, hown, hts, hK, hA, hM, hM2⟩
  have hl : lv_has ls 3 [(0, .int (nI j)), (1, .int 17), (2, .null)] := hl
  refine lv_iload_n hx hb dJ3_checkIndex_8e157_0 rfl (lv_at hl 0 rfl) ?_
  refine lv_if_lt (tgt := 9) hx hb dJ3_checkIndex_8e157_1 (by decide) (fun c_ => absurd c_ (show ¬ (nI j < nI 0) by rw [nI_ltI (by omega) (by omega)]; omega)) (fun _ => ?_)
  refine lv_iload_n hx hb dJ3_checkIndex_8e157_4 rfl (lv_at hl 0 rfl) ?_
  refine lv_iload_n hx hb dJ3_checkIndex_8e157_5 rfl (lv_at hl 1 rfl) ?_
  refine lv_icmp_lt (tgt := 16) hx hb dJ3_checkIndex_8e157_6 (by decide) (fun _ => ?_) (fun c_ => absurd (show nI j < nI 17 by rw [nI_ltI (by omega) (by omega)]; omega) c_)
  refine lv_iload_n hx hb dJ3_checkIndex_8e157_16 rfl (lv_at hl 0 rfl) ?_
  have hP9 := hP.sub (ws' := []) [] rfl
  have hD9 := hD.sub (ws' := []) [] (by decide) rfl
  exact rI () hx hb hr hlk rfl hS rfl hP9 hD9 (Nat.le_of_ble_eq_true rfl) (Nat.le_of_ble_eq_true rfl) dJ3_checkIndex_8e157_17

set_option maxHeartbeats 4000000 in
set_option maxRecDepth 100000 in
theorem k_pci2r (l : Launch) (g : va_G) (aC : Nat → ClassId) (aM : Nat → Nat) (tz : Nat) (j : Nat) (hj : j < 17) : Ct l g aC aM yJ3_checkIndex_8e157 cJ3_checkIndex_8e157 3 (some .int) 1 [.int (nI j), .int 17, .ref tz] [] (QI g (fun (r : Int32) (_ : Unit) => r = (nI j)) (fun (_ : Unit) => [])) 0 0 := by
  refine Ct.mk (by decide) (Nat.le_of_ble_eq_true rfl) ?_
  intro p e s m below meth c A ls hx hb hml hown hts hr hlk hnm hK hA hM hM2 hP hD hS hl
  have hown : s.vm.findClass RJ3 = some m.cls := hown
  have F : Fx p s m _ c cJ3_checkIndex_8e157 3 RJ3 g aC aM A := ⟨hx, hb, hml, hown, hts, hK, hA, hM, hM2⟩
  have hl : lv_has ls 3 [(0, .int (nI j)), (1, .int 17), (2, .ref tz)] := hl
  refine lv_iload_n hx hb dJ3_checkIndex_8e157_0 rfl (lv_at hl 0 rfl) ?_
  refine lv_if_lt (tgt := 9) hx hb dJ3_checkIndex_8e157_1 (by decide) (fun c_ => absurd c_ (show ¬ (nI j < nI 0) by rw [nI_ltI (by omega) (by omega)]; omega)) (fun _ => ?_)
  refine lv_iload_n hx hb dJ3_checkIndex_8e157_4 rfl (lv_at hl 0 rfl) ?_
  refine lv_iload_n hx hb dJ3_checkIndex_8e157_5 rfl (lv_at hl 1 rfl) ?_
  refine lv_icmp_lt (tgt := 16) hx hb dJ3_checkIndex_8e157_6 (by decide) (fun _ => ?_) (fun c_ => absurd (show nI j < nI 17 by rw [nI_ltI (by omega) (by omega)]; omega) c_)
  refine lv_iload_n hx hb dJ3_checkIndex_8e157_16 rfl (lv_at hl 0 rfl) ?_
  have hP9 := hP.sub (ws' := []) [] rfl
  have hD9 := hD.sub (ws' := []) [] (by decide) rfl
  exact rI () hx hb hr hlk rfl hS rfl hP9 hD9 (Nat.le_of_ble_eq_true rfl) (Nat.le_of_ble_eq_true rfl) dJ3_checkIndex_8e157_17

set_option maxHeartbeats 4000000 in
set_option maxRecDepth 100000 in
theorem k_ci2 (l : Launch) (g : va_G) (aC : Nat → ClassId) (aM : Nat → Nat) (j : Nat) (hj : j < 17) : Ct l g aC aM yJ0_checkIndex_df160 cJ0_checkIndex_df160 2 none 2 [.int (nI j), .int 17] [] (QV g (fun (_ : Unit) => True) (fun (_ : Unit) => [])) 0 0 := by
  refine Ct.mk (by decide) (Nat.le_of_ble_eq_true rfl) ?_
  intro p e s m below meth c A ls hx hb hml hown hts hr hlk hnm hK hA hM hM2 hP hD hS hl
  have hown : s.vm.findClass RJ0 = some m.cls := hown
  have F : Fx p s m _ c cJ0_checkIndex_df160 2 RJ0 g aC aM A := ⟨hx, hb, hml, hown, hts, hK, hA, hM, hM2⟩
  have hl : lv_has ls 2 [(0, .int (nI j)), (1, .int 17)] := hl
  refine lv_iload_n hx hb dJ0_checkIndex_df160_0 rfl (lv_at hl 0 rfl) ?_
  refine lv_iload_n hx hb dJ0_checkIndex_df160_1 rfl (lv_at hl 1 rfl) ?_
  rcases hM.2.2.2.2 with hz | ⟨tz, hz⟩
  · refine va_gets hx hb hz hS hown (hts _ tb69) (fun _ h => h) dJ0_checkIndex_df160_2 ?_
    refine goI (wr := []) (runS (n := 3) (As := [.int (nI j), .int 17, .null]) (rest := []) F hP hD hS (k_pci2n l g aC aM j (by omega)) [] (by decide) rfl tb73 tb71 tb72 tb5 ⟨by decide, by decide, by decide +kernel⟩ ⟨Nat.le_of_ble_eq_true rfl, Nat.le_of_ble_eq_true rfl⟩ rfl hl.1 rfl (Nat.le_of_ble_eq_true rfl) dJ0_checkIndex_df160_5 ⟨Nat.le_of_ble_eq_true rfl, Nat.le_of_ble_eq_true rfl⟩) hP hD hS hA [] [] rfl rfl (by decide) (by decide) (fun r_2 w3 H locs hw hP hD hS => ?_)
    obtain ⟨hP, hD⟩ := cv_PD (L2 := []) hP hD rfl
    try dsimp only at hw
    subst hw
    refine lv_pop hx hb dJ0_checkIndex_df160_8 rfl ?_
    have hP9 := hP.sub (ws' := []) [] rfl
    have hD9 := hD.sub (ws' := []) [] (by decide) rfl
    exact rV () hx hb hr hlk hS trivial hP9 hD9 (Nat.le_of_ble_eq_true rfl) (Nat.le_of_ble_eq_true rfl) dJ0_checkIndex_df160_9
  · refine va_gets hx hb hz hS hown (hts _ tb69) (fun _ h => h) dJ0_checkIndex_df160_2 ?_
    refine goI (wr := []) (runS (n := 3) (As := [.int (nI j), .int 17, .ref tz]) (rest := []) F hP hD hS (k_pci2r l g aC aM tz j (by omega)) [] (by decide) rfl tb73 tb71 tb72 tb5 ⟨by decide, by decide, by decide +kernel⟩ ⟨Nat.le_of_ble_eq_true rfl, Nat.le_of_ble_eq_true rfl⟩ rfl hl.1 rfl (Nat.le_of_ble_eq_true rfl) dJ0_checkIndex_df160_5 ⟨Nat.le_of_ble_eq_true rfl, Nat.le_of_ble_eq_true rfl⟩) hP hD hS hA [] [] rfl rfl (by decide) (by decide) (fun r_5 w6 H locs hw hP hD hS => ?_)
    obtain ⟨hP, hD⟩ := cv_PD (L2 := []) hP hD rfl
    try dsimp only at hw
    subst hw
    refine lv_pop hx hb dJ0_checkIndex_df160_8 rfl ?_
    have hP9 := hP.sub (ws' := []) [] rfl
    have hD9 := hD.sub (ws' := []) [] (by decide) rfl
    exact rV () hx hb hr hlk hS trivial hP9 hD9 (Nat.le_of_ble_eq_true rfl) (Nat.le_of_ble_eq_true rfl) dJ0_checkIndex_df160_9

set_option maxHeartbeats 4000000 in
set_option maxRecDepth 100000 in
theorem k_lcharAt2 (l : Launch) (g : va_G) (aC : Nat → ClassId) (aM : Nat → Nat) (j : Nat) (hj : j < 17) : Ct l g aC aM yJ1_charAt_3b067 cJ1_charAt_3b067 2 (some .char) 3 [.ref (aM (7 + 2)), .int (nI j)] [] (QI g (fun (r : Int32) (_ : Unit) => r = sgn 2 j) (fun (_ : Unit) => [])) 0 0 := by
  refine Ct.mk (by decide) (Nat.le_of_ble_eq_true rfl) ?_
  intro p e s m below meth c A ls hx hb hml hown hts hr hlk hnm hK hA hM hM2 hP hD hS hl
  have hown : s.vm.findClass RJ1 = some m.cls := hown
  have F : Fx p s m _ c cJ1_charAt_3b067 2 RJ1 g aC aM A := ⟨hx, hb, hml, hown, hts, hK, hA, hM, hM2⟩
  have hl : lv_has ls 2 [(0, .ref (aM (7 + 2))), (1, .int (nI j))] := hl
  refine lv_iload_n hx hb dJ1_charAt_3b067_0 rfl (lv_at hl 1 rfl) ?_
  refine lv_aload_n hx hb dJ1_charAt_3b067_1 rfl (lv_at hl 0 rfl) ?_
  refine va_tlen (v := 17) hx hb (hM.2.2.2.1.1 2 (by decide)).2.2.2 hS rfl dJ1_charAt_3b067_2 ?_
  refine goV (wr := []) (runS (n := 2) (As := [.int (nI j), .int 17]) (rest := []) F hP hD hS (k_ci2 l g aC aM j (by omega)) [] (by decide) rfl tb68 tb66 tb67 tb3 ⟨by decide, by decide, by decide +kernel⟩ ⟨Nat.le_of_ble_eq_true rfl, Nat.le_of_ble_eq_true rfl⟩ rfl hl.1 rfl (Nat.le_of_ble_eq_true rfl) dJ1_charAt_3b067_3 ⟨Nat.le_of_ble_eq_true rfl, Nat.le_of_ble_eq_true rfl⟩) hP hD hS hA [] [] rfl rfl (by decide) (by decide) (fun w3 H locs hw hP hD hS => ?_)
  obtain ⟨hP, hD⟩ := cv_PD (L2 := []) hP hD rfl
  refine lv_aload_n hx hb dJ1_charAt_3b067_6 rfl (lv_at hl 0 rfl) ?_
  refine lv_iload_n hx hb dJ1_charAt_3b067_7 rfl (lv_at hl 1 rfl) ?_
  obtain ⟨b4, eb4⟩ : ∃ z : Int32, ((stB.getD 2 []).getD j 0) = z := ⟨_, rfl⟩
  refine va_tb (v := .int b4) hx hb (hM.2.2.2.1.1 2 (by decide)).2.2.2 hS (vpin (nI_pos (by omega)) (nI_clamp (by omega)) (show j < 17 by omega)) (by rw [nI_clamp (by omega), eb4]) dJ1_charAt_3b067_8 ?_
  refine lv_sipush (v := 255) hx hb dJ1_charAt_3b067_9 (by decide) ?_
  refine lv_iand hx hb dJ1_charAt_3b067_12 ?_
  refine lv_i2c (v := (((b4 &&& 255).toUInt32 % 65536).toInt32)) hx hb dJ1_charAt_3b067_13 rfl ?_
  have hP9 := hP.sub (ws' := []) [] rfl
  have hD9 := hD.sub (ws' := []) [] (by decide) rfl
  exact rI () hx hb hr hlk (pk_nc _) hS (by unfold sgn; rw [eb4]) hP9 hD9 (Nat.le_of_ble_eq_true rfl) (Nat.le_of_ble_eq_true rfl) dJ1_charAt_3b067_14

set_option maxHeartbeats 4000000 in
set_option maxRecDepth 100000 in
theorem k_charAt2 (l : Launch) (g : va_G) (aC : Nat → ClassId) (aM : Nat → Nat) (j : Nat) (hj : j < 17) : Ct l g aC aM yJ0_charAt_5068e cJ0_charAt_5068e 2 (some .char) 4 [.ref (aM (1 + 2)), .int (nI j)] [] (QI g (fun (r : Int32) (_ : Unit) => r = sgn 2 j) (fun (_ : Unit) => [])) 0 0 := by
  refine Ct.mk (by decide) (Nat.le_of_ble_eq_true rfl) ?_
  intro p e s m below meth c A ls hx hb hml hown hts hr hlk hnm hK hA hM hM2 hP hD hS hl
  have hown : s.vm.findClass RJ0 = some m.cls := hown
  have F : Fx p s m _ c cJ0_charAt_5068e 2 RJ0 g aC aM A := ⟨hx, hb, hml, hown, hts, hK, hA, hM, hM2⟩
  have hl : lv_has ls 2 [(0, .ref (aM (1 + 2))), (1, .int (nI j))] := hl
  refine lv_aload_n hx hb dJ0_charAt_5068e_0 rfl (lv_at hl 0 rfl) ?_
  refine goI (wr := []) (runVs (n := 0) (As := []) (rest := []) F hP hD hS (k_latin2 l g aC aM ) [] (by decide) rfl 2 (by decide) rfl rfl tb62 tb59 tb60 tb61 tb3 ⟨by decide, by decide, by decide +kernel⟩ ⟨Nat.le_of_ble_eq_true rfl, Nat.le_of_ble_eq_true rfl⟩ rfl hl.1 rfl (Nat.le_of_ble_eq_true rfl) dJ0_charAt_5068e_1 ⟨Nat.le_of_ble_eq_true rfl, Nat.le_of_ble_eq_true rfl⟩) hP hD hS hA [] [] rfl rfl (by decide) (by decide) (fun r_2 w3 H locs hw hP hD hS => ?_)
  obtain ⟨hP, hD⟩ := cv_PD (L2 := []) hP hD rfl
  try dsimp only at hw
  subst hw
  refine lv_if_eq (tgt := 16) hx hb dJ0_charAt_5068e_4 (by decide) (fun c_ => absurd c_ (by decide +kernel)) (fun _ => ?_)
  refine lv_aload_n hx hb dJ0_charAt_5068e_7 rfl (lv_at hl 0 rfl) ?_
  refine vk_getf hx hb (hM.2.2.2.1.1 2 (by decide)).2.2.1 hS hown (hts _ tb1935) (fun _ h => h) dJ0_charAt_5068e_8 ?_
  refine lv_iload_n hx hb dJ0_charAt_5068e_11 rfl (lv_at hl 1 rfl) ?_
  refine goI (wr := []) (runS (n := 2) (As := [.ref (aM (7 + 2)), .int (nI j)]) (rest := []) F hP hD hS (k_lcharAt2 l g aC aM j (by omega)) [] (by decide) rfl tb65 tb63 tb64 tb4 ⟨by decide, by decide, by decide +kernel⟩ ⟨Nat.le_of_ble_eq_true rfl, Nat.le_of_ble_eq_true rfl⟩ rfl hl.1 rfl (Nat.le_of_ble_eq_true rfl) dJ0_charAt_5068e_12 ⟨Nat.le_of_ble_eq_true rfl, Nat.le_of_ble_eq_true rfl⟩) hP hD hS hA [] [] rfl rfl (by decide) (by decide) (fun r_6 w7 H locs hw hP hD hS => ?_)
  obtain ⟨hP, hD⟩ := cv_PD (L2 := []) hP hD rfl
  have y_ : r_6 = sgn 2 j := hw
  have x8 : narrow .char (.int r_6) = .int r_6 := by rw [y_]; exact pk_nc _
  have hP9 := hP.sub (ws' := []) [] rfl
  have hD9 := hD.sub (ws' := []) [] (by decide) rfl
  exact rI () hx hb hr hlk x8 hS y_ hP9 hD9 (Nat.le_of_ble_eq_true rfl) (Nat.le_of_ble_eq_true rfl) dJ0_charAt_5068e_15

set_option maxRecDepth 100000 in
theorem tb32 : (Jvm.Cond.instanceMethod ({ cls := "java/lang/Object", name := "<init>", desc := "()V" } : Jvm.MethodName)) ∈ gw := lw_m1 32 rfl
set_option maxRecDepth 100000 in
theorem tb33 : (Jvm.Cond.code ({ cls := "java/lang/Object", name := "<init>", desc := "()V" } : Jvm.MethodName) object_method_1_code (1 : Nat) (Option.none : Option Jvm.ClassFile.FieldType)) ∈ gw := lw_m1 33 rfl
set_option maxRecDepth 100000 in
theorem tb166 : (Jvm.Cond.arrayClass Jvm.ClassFile.FieldType.int) ∈ gw := lw_m1 166 rfl
set_option maxRecDepth 100000 in
theorem tb290 : (Jvm.Cond.methodLink "StairGang$State" (3 : Nat) ({ cls := "java/lang/Object", name := "<init>", desc := "()V" } : Jvm.MethodName)) ∈ gw := lw_m2 50 rfl
theorem dX6_init_0 : decode cX6_init 0 = .ok (.aload_n 0, 1) := by decide +kernel
theorem dX6_init_1 : decode cX6_init 1 = .ok (.invokespecial 3, 3) := by decide +kernel
theorem dX6_init_4 : decode cX6_init 4 = .ok (.aload_n 0, 1) := by decide +kernel
theorem dX6_init_5 : decode cX6_init 5 = .ok (.getstatic 9, 3) := by decide +kernel
theorem dX6_init_8 : decode cX6_init 8 = .ok (.iconst 3, 1) := by decide +kernel
theorem dX6_init_9 : decode cX6_init 9 = .ok (.iaload, 1) := by decide +kernel
theorem dX6_init_10 : decode cX6_init 10 = .ok (.newarray .int, 2) := by decide +kernel
theorem dX6_init_12 : decode cX6_init 12 = .ok (.putfield 13, 3) := by decide +kernel
theorem dX6_init_15 : decode cX6_init 15 = .ok (.aload_n 0, 1) := by decide +kernel
theorem dX6_init_16 : decode cX6_init 16 = .ok (.getstatic 9, 3) := by decide +kernel
theorem dX6_init_19 : decode cX6_init 19 = .ok (.iconst 2, 1) := by decide +kernel
theorem dX6_init_20 : decode cX6_init 20 = .ok (.iaload, 1) := by decide +kernel
theorem dX6_init_21 : decode cX6_init 21 = .ok (.newarray .int, 2) := by decide +kernel
theorem dX6_init_23 : decode cX6_init 23 = .ok (.putfield 18, 3) := by decide +kernel
theorem dX6_init_26 : decode cX6_init 26 = .ok (.return_, 1) := by decide +kernel
set_option maxHeartbeats 4000000 in
set_option maxRecDepth 100000 in
theorem k_State_init (l : Launch) (g : va_G) (aC : Nat → ClassId) (aM : Nat → Nat) (h0 : Nat) : Ct l g aC aM yX6_init cX6_init 1 none 1 [.ref h0] [(h0, .inr (6, [.int 0, .null, .null, .int 0, .int 0, .int 0]))] (QV g (fun (u : Nat × Nat) => True) (fun (u : Nat × Nat) => [(h0, .inr (6, [.int 0, .ref u.1, .ref u.2, .int 0, .int 0, .int 0])), (u.1, .inl (aC 0, 5, .inl (fun _ => 0))), (u.2, .inl (aC 0, 4, .inl (fun _ => 0)))])) 2 9 := by
  refine Ct.mk (by decide) (Nat.le_of_ble_eq_true rfl) ?_
  intro p e s m below meth c A ls hx hb hml hown hts hr hlk hnm hK hA hM hM2 hP hD hS hl
  have hown : s.vm.findClass RX6 = some m.cls := hown
  have F : Fx p s m _ c cX6_init 1 RX6 g aC aM A := ⟨hx, hb, hml, hown, hts, hK, hA, hM, hM2⟩
  have hl : lv_has ls 1 [(0, .ref h0)] := hl
  refine lv_aload_n hx hb dX6_init_0 rfl (lv_at hl 0 rfl) ?_
  refine xobj F tb290 tb32 tb33 hl.1 dX6_init_1 (Nat.le_of_ble_eq_true rfl) (Nat.le_of_ble_eq_true rfl) ?_
  refine lv_aload_n hx hb dX6_init_4 rfl (lv_at hl 0 rfl) ?_
  refine xmostN F hS (by decide) dX6_init_5 ?_
  refine lv_iconst (v := 3) hx hb dX6_init_8 (by decide) ?_
  refine xmolo (v := 5) F hS 3 (by decide +kernel) (by decide +kernel) (by decide) rfl dX6_init_9 ?_
  refine xnewa (atype := .int) (a0 := (5, .inl (fun _ => 0))) (N' := 5) F hP hD hS rfl tb166 0 rfl (fun _ => rfl) (fun _ => rfl) (by decide +kernel) (by decide +kernel) (by decide) (Nat.le_of_ble_eq_true rfl) (Nat.le_of_ble_eq_true rfl) dX6_init_10 (fun q1 H hP hD hS => ?_)
  obtain ⟨hP, hD⟩ := cv_PD (L2 := [(h0, .inr (6, [.int 0, .null, .null, .int 0, .int 0, .int 0])), (q1, .inl (aC 0, 5, .inl (fun _ => 0)))]) hP hD rfl
  refine xputF F hP hD hS 0 rfl rfl inX6 tyX6_ok nmX6 1 (by decide) tb294 rfl hnm rfl rfl rfl (Nat.le_of_ble_eq_true rfl) dX6_init_12 (fun H locs hP hD hS => ?_)
  obtain ⟨hP, hD⟩ := cv_PD (L2 := [(h0, .inr (6, [.int 0, .ref q1, .null, .int 0, .int 0, .int 0])), (q1, .inl (aC 0, 5, .inl (fun _ => 0)))]) hP hD rfl
  refine lv_aload_n hx hb dX6_init_15 rfl (lv_at hl 0 rfl) ?_
  refine xmostN F hS (by decide) dX6_init_16 ?_
  refine lv_iconst (v := 2) hx hb dX6_init_19 (by decide) ?_
  refine xmolo (v := 4) F hS 2 (by decide +kernel) (by decide +kernel) (by decide) rfl dX6_init_20 ?_
  refine xnewa (atype := .int) (a0 := (4, .inl (fun _ => 0))) (N' := 4) F hP hD hS rfl tb166 0 rfl (fun _ => rfl) (fun _ => rfl) (by decide +kernel) (by decide +kernel) (by decide) (Nat.le_of_ble_eq_true rfl) (Nat.le_of_ble_eq_true rfl) dX6_init_21 (fun q2 H hP hD hS => ?_)
  obtain ⟨hP, hD⟩ := cv_PD (L2 := [(h0, .inr (6, [.int 0, .ref q1, .null, .int 0, .int 0, .int 0])), (q1, .inl (aC 0, 5, .inl (fun _ => 0))), (q2, .inl (aC 0, 4, .inl (fun _ => 0)))]) hP hD rfl
  refine xputF F hP hD hS 0 rfl rfl inX6 tyX6_ok nmX6 2 (by decide) tb296 rfl hnm rfl rfl rfl (Nat.le_of_ble_eq_true rfl) dX6_init_23 (fun H locs hP hD hS => ?_)
  obtain ⟨hP, hD⟩ := cv_PD (L2 := [(h0, .inr (6, [.int 0, .ref q1, .ref q2, .int 0, .int 0, .int 0])), (q1, .inl (aC 0, 5, .inl (fun _ => 0))), (q2, .inl (aC 0, 4, .inl (fun _ => 0)))]) hP hD rfl
  have hP9 := hP.sub (ws' := [(h0, .inr (6, [.int 0, .ref q1, .ref q2, .int 0, .int 0, .int 0])), (q1, .inl (aC 0, 5, .inl (fun _ => 0))), (q2, .inl (aC 0, 4, .inl (fun _ => 0)))]) [0, 1, 2] rfl
  have hD9 := hD.sub (ws' := [(h0, .inr (6, [.int 0, .ref q1, .ref q2, .int 0, .int 0, .int 0])), (q1, .inl (aC 0, 5, .inl (fun _ => 0))), (q2, .inl (aC 0, 4, .inl (fun _ => 0)))]) [0, 1, 2] (by decide) rfl
  exact rV (q1, q2) hx hb hr hlk hS trivial hP9 hD9 (Nat.le_of_ble_eq_true rfl) (Nat.le_of_ble_eq_true rfl) dX6_init_26

set_option maxRecDepth 100000 in
theorem tb322 : (Jvm.Cond.methodLink "StairGang$Said" (1 : Nat) ({ cls := "java/lang/Object", name := "<init>", desc := "()V" } : Jvm.MethodName)) ∈ gw := lw_m2 82 rfl
theorem dX5_init_0 : decode cX5_init 0 = .ok (.aload_n 0, 1) := by decide +kernel
theorem dX5_init_1 : decode cX5_init 1 = .ok (.invokespecial 1, 3) := by decide +kernel
theorem dX5_init_4 : decode cX5_init 4 = .ok (.aload_n 0, 1) := by decide +kernel
theorem dX5_init_5 : decode cX5_init 5 = .ok (.sipush 160, 3) := by decide +kernel
theorem dX5_init_8 : decode cX5_init 8 = .ok (.newarray .int, 2) := by decide +kernel
theorem dX5_init_10 : decode cX5_init 10 = .ok (.putfield 9, 3) := by decide +kernel
theorem dX5_init_13 : decode cX5_init 13 = .ok (.aload_n 0, 1) := by decide +kernel
theorem dX5_init_14 : decode cX5_init 14 = .ok (.bipush 8, 2) := by decide +kernel
theorem dX5_init_16 : decode cX5_init 16 = .ok (.newarray .int, 2) := by decide +kernel
theorem dX5_init_18 : decode cX5_init 18 = .ok (.putfield 15, 3) := by decide +kernel
theorem dX5_init_21 : decode cX5_init 21 = .ok (.return_, 1) := by decide +kernel
set_option maxHeartbeats 4000000 in
set_option maxRecDepth 100000 in
theorem k_Said_init (l : Launch) (g : va_G) (aC : Nat → ClassId) (aM : Nat → Nat) (h0 : Nat) : Ct l g aC aM yX5_init cX5_init 1 none 1 [.ref h0] [(h0, .inr (5, [.null, .int 0, .int 0, .null, .int 0]))] (QV g (fun (u : Nat × Nat) => True) (fun (u : Nat × Nat) => [(h0, .inr (5, [.ref u.1, .int 0, .int 0, .ref u.2, .int 0])), (u.1, .inl (aC 0, 160, .inl (fun _ => 0))), (u.2, .inl (aC 0, 8, .inl (fun _ => 0)))])) 2 168 := by
  refine Ct.mk (by decide) (Nat.le_of_ble_eq_true rfl) ?_
  intro p e s m below meth c A ls hx hb hml hown hts hr hlk hnm hK hA hM hM2 hP hD hS hl
  have hown : s.vm.findClass RX5 = some m.cls := hown
  have F : Fx p s m _ c cX5_init 1 RX5 g aC aM A := ⟨hx, hb, hml, hown, hts, hK, hA, hM, hM2⟩
  have hl : lv_has ls 1 [(0, .ref h0)] := hl
  refine lv_aload_n hx hb dX5_init_0 rfl (lv_at hl 0 rfl) ?_
  refine xobj F tb322 tb32 tb33 hl.1 dX5_init_1 (Nat.le_of_ble_eq_true rfl) (Nat.le_of_ble_eq_true rfl) ?_
  refine lv_aload_n hx hb dX5_init_4 rfl (lv_at hl 0 rfl) ?_
  refine lv_sipush (v := 160) hx hb dX5_init_5 (by decide) ?_
  refine xnewa (atype := .int) (a0 := (160, .inl (fun _ => 0))) (N' := 160) F hP hD hS rfl tb166 0 rfl (fun _ => rfl) (fun _ => rfl) (by decide +kernel) (by decide +kernel) (by decide) (Nat.le_of_ble_eq_true rfl) (Nat.le_of_ble_eq_true rfl) dX5_init_8 (fun q1 H hP hD hS => ?_)
  obtain ⟨hP, hD⟩ := cv_PD (L2 := [(h0, .inr (5, [.null, .int 0, .int 0, .null, .int 0])), (q1, .inl (aC 0, 160, .inl (fun _ => 0)))]) hP hD rfl
  refine xputF F hP hD hS 0 rfl rfl inX5 tyX5_ok nmX5 0 (by decide) tb323 rfl hnm rfl rfl rfl (Nat.le_of_ble_eq_true rfl) dX5_init_10 (fun H locs hP hD hS => ?_)
  obtain ⟨hP, hD⟩ := cv_PD (L2 := [(h0, .inr (5, [.ref q1, .int 0, .int 0, .null, .int 0])), (q1, .inl (aC 0, 160, .inl (fun _ => 0)))]) hP hD rfl
  refine lv_aload_n hx hb dX5_init_13 rfl (lv_at hl 0 rfl) ?_
  refine lv_bipush (v := 8) hx hb dX5_init_14 (by decide) ?_
  refine xnewa (atype := .int) (a0 := (8, .inl (fun _ => 0))) (N' := 8) F hP hD hS rfl tb166 0 rfl (fun _ => rfl) (fun _ => rfl) (by decide +kernel) (by decide +kernel) (by decide) (Nat.le_of_ble_eq_true rfl) (Nat.le_of_ble_eq_true rfl) dX5_init_16 (fun q2 H hP hD hS => ?_)
  obtain ⟨hP, hD⟩ := cv_PD (L2 := [(h0, .inr (5, [.ref q1, .int 0, .int 0, .null, .int 0])), (q1, .inl (aC 0, 160, .inl (fun _ => 0))), (q2, .inl (aC 0, 8, .inl (fun _ => 0)))]) hP hD rfl
  refine xputF F hP hD hS 0 rfl rfl inX5 tyX5_ok nmX5 3 (by decide) tb329 rfl hnm rfl rfl rfl (Nat.le_of_ble_eq_true rfl) dX5_init_18 (fun H locs hP hD hS => ?_)
  obtain ⟨hP, hD⟩ := cv_PD (L2 := [(h0, .inr (5, [.ref q1, .int 0, .int 0, .ref q2, .int 0])), (q1, .inl (aC 0, 160, .inl (fun _ => 0))), (q2, .inl (aC 0, 8, .inl (fun _ => 0)))]) hP hD rfl
  have hP9 := hP.sub (ws' := [(h0, .inr (5, [.ref q1, .int 0, .int 0, .ref q2, .int 0])), (q1, .inl (aC 0, 160, .inl (fun _ => 0))), (q2, .inl (aC 0, 8, .inl (fun _ => 0)))]) [0, 1, 2] rfl
  have hD9 := hD.sub (ws' := [(h0, .inr (5, [.ref q1, .int 0, .int 0, .ref q2, .int 0])), (q1, .inl (aC 0, 160, .inl (fun _ => 0))), (q2, .inl (aC 0, 8, .inl (fun _ => 0)))]) [0, 1, 2] (by decide) rfl
  exact rV (q1, q2) hx hb hr hlk hS trivial hP9 hD9 (Nat.le_of_ble_eq_true rfl) (Nat.le_of_ble_eq_true rfl) dX5_init_21

set_option maxRecDepth 100000 in
theorem tb182 : (Jvm.Cond.methodLink "StairGang$Price" (3 : Nat) ({ cls := "java/lang/Object", name := "<init>", desc := "()V" } : Jvm.MethodName)) ∈ gw := lw_m1 182 rfl
theorem dX4_init_0 : decode cX4_init 0 = .ok (.aload_n 0, 1) := by decide +kernel
theorem dX4_init_1 : decode cX4_init 1 = .ok (.invokespecial 3, 3) := by decide +kernel
theorem dX4_init_4 : decode cX4_init 4 = .ok (.aload_n 0, 1) := by decide +kernel
theorem dX4_init_5 : decode cX4_init 5 = .ok (.sipush 1000, 3) := by decide +kernel
theorem dX4_init_8 : decode cX4_init 8 = .ok (.newarray .int, 2) := by decide +kernel
theorem dX4_init_10 : decode cX4_init 10 = .ok (.putfield 9, 3) := by decide +kernel
theorem dX4_init_13 : decode cX4_init 13 = .ok (.aload_n 0, 1) := by decide +kernel
theorem dX4_init_14 : decode cX4_init 14 = .ok (.bipush 24, 2) := by decide +kernel
theorem dX4_init_16 : decode cX4_init 16 = .ok (.newarray .int, 2) := by decide +kernel
theorem dX4_init_18 : decode cX4_init 18 = .ok (.putfield 15, 3) := by decide +kernel
theorem dX4_init_21 : decode cX4_init 21 = .ok (.return_, 1) := by decide +kernel
set_option maxHeartbeats 4000000 in
set_option maxRecDepth 100000 in
theorem k_Price_init (l : Launch) (g : va_G) (aC : Nat → ClassId) (aM : Nat → Nat) (h0 : Nat) : Ct l g aC aM yX4_init cX4_init 1 none 1 [.ref h0] [(h0, .inr (4, [.null, .int 0, .null]))] (QV g (fun (u : Nat × Nat) => True) (fun (u : Nat × Nat) => [(h0, .inr (4, [.ref u.1, .int 0, .ref u.2])), (u.1, .inl (aC 0, 1000, .inl (fun _ => 0))), (u.2, .inl (aC 0, 24, .inl (fun _ => 0)))])) 2 1024 := by
  refine Ct.mk (by decide) (Nat.le_of_ble_eq_true rfl) ?_
  intro p e s m below meth c A ls hx hb hml hown hts hr hlk hnm hK hA hM hM2 hP hD hS hl
  have hown : s.vm.findClass RX4 = some m.cls := hown
  have F : Fx p s m _ c cX4_init 1 RX4 g aC aM A := ⟨hx, hb, hml, hown, hts, hK, hA, hM, hM2⟩
  have hl : lv_has ls 1 [(0, .ref h0)] := hl
  refine lv_aload_n hx hb dX4_init_0 rfl (lv_at hl 0 rfl) ?_
  refine xobj F tb182 tb32 tb33 hl.1 dX4_init_1 (Nat.le_of_ble_eq_true rfl) (Nat.le_of_ble_eq_true rfl) ?_
  refine lv_aload_n hx hb dX4_init_4 rfl (lv_at hl 0 rfl) ?_
  refine lv_sipush (v := 1000) hx hb dX4_init_5 (by decide) ?_
  refine xnewa (atype := .int) (a0 := (1000, .inl (fun _ => 0))) (N' := 1000) F hP hD hS rfl tb166 0 rfl (fun _ => rfl) (fun _ => rfl) (by decide +kernel) (by decide +kernel) (by decide) (Nat.le_of_ble_eq_true rfl) (Nat.le_of_ble_eq_true rfl) dX4_init_8 (fun q1 H hP hD hS => ?_)
  obtain ⟨hP, hD⟩ := cv_PD (L2 := [(h0, .inr (4, [.null, .int 0, .null])), (q1, .inl (aC 0, 1000, .inl (fun _ => 0)))]) hP hD rfl
  refine xputF F hP hD hS 0 rfl rfl inX4 tyX4_ok nmX4 0 (by decide) tb183 rfl hnm rfl rfl rfl (Nat.le_of_ble_eq_true rfl) dX4_init_10 (fun H locs hP hD hS => ?_)
  obtain ⟨hP, hD⟩ := cv_PD (L2 := [(h0, .inr (4, [.ref q1, .int 0, .null])), (q1, .inl (aC 0, 1000, .inl (fun _ => 0)))]) hP hD rfl
  refine lv_aload_n hx hb dX4_init_13 rfl (lv_at hl 0 rfl) ?_
  refine lv_bipush (v := 24) hx hb dX4_init_14 (by decide) ?_
  refine xnewa (atype := .int) (a0 := (24, .inl (fun _ => 0))) (N' := 24) F hP hD hS rfl tb166 0 rfl (fun _ => rfl) (fun _ => rfl) (by decide +kernel) (by decide +kernel) (by decide) (Nat.le_of_ble_eq_true rfl) (Nat.le_of_ble_eq_true rfl) dX4_init_16 (fun q2 H hP hD hS => ?_)
  obtain ⟨hP, hD⟩ := cv_PD (L2 := [(h0, .inr (4, [.ref q1, .int 0, .null])), (q1, .inl (aC 0, 1000, .inl (fun _ => 0))), (q2, .inl (aC 0, 24, .inl (fun _ => 0)))]) hP hD rfl
  refine xputF F hP hD hS 0 rfl rfl inX4 tyX4_ok nmX4 2 (by decide) tb185 rfl hnm rfl rfl rfl (Nat.le_of_ble_eq_true rfl) dX4_init_18 (fun H locs hP hD hS => ?_)
  obtain ⟨hP, hD⟩ := cv_PD (L2 := [(h0, .inr (4, [.ref q1, .int 0, .ref q2])), (q1, .inl (aC 0, 1000, .inl (fun _ => 0))), (q2, .inl (aC 0, 24, .inl (fun _ => 0)))]) hP hD rfl
  have hP9 := hP.sub (ws' := [(h0, .inr (4, [.ref q1, .int 0, .ref q2])), (q1, .inl (aC 0, 1000, .inl (fun _ => 0))), (q2, .inl (aC 0, 24, .inl (fun _ => 0)))]) [0, 1, 2] rfl
  have hD9 := hD.sub (ws' := [(h0, .inr (4, [.ref q1, .int 0, .ref q2])), (q1, .inl (aC 0, 1000, .inl (fun _ => 0))), (q2, .inl (aC 0, 24, .inl (fun _ => 0)))]) [0, 1, 2] (by decide) rfl
  exact rV (q1, q2) hx hb hr hlk hS trivial hP9 hD9 (Nat.le_of_ble_eq_true rfl) (Nat.le_of_ble_eq_true rfl) dX4_init_21

set_option maxRecDepth 100000 in
theorem tb392 : (Jvm.Cond.methodLink "StairGang$Chances" (3 : Nat) ({ cls := "java/lang/Object", name := "<init>", desc := "()V" } : Jvm.MethodName)) ∈ gw := lw_m2 152 rfl
theorem dX0_init_0 : decode cX0_init 0 = .ok (.aload_n 0, 1) := by decide +kernel
theorem dX0_init_1 : decode cX0_init 1 = .ok (.invokespecial 3, 3) := by decide +kernel
theorem dX0_init_4 : decode cX0_init 4 = .ok (.aload_n 0, 1) := by decide +kernel
theorem dX0_init_5 : decode cX0_init 5 = .ok (.sipush 1024, 3) := by decide +kernel
theorem dX0_init_8 : decode cX0_init 8 = .ok (.newarray .int, 2) := by decide +kernel
theorem dX0_init_10 : decode cX0_init 10 = .ok (.putfield 11, 3) := by decide +kernel
theorem dX0_init_13 : decode cX0_init 13 = .ok (.return_, 1) := by decide +kernel
set_option maxHeartbeats 4000000 in
set_option maxRecDepth 100000 in
theorem k_Chances_init (l : Launch) (g : va_G) (aC : Nat → ClassId) (aM : Nat → Nat) (h0 : Nat) : Ct l g aC aM yX0_init cX0_init 1 none 1 [.ref h0] [(h0, .inr (0, [.null, .int 0]))] (QV g (fun (u : Nat) => True) (fun (u : Nat) => [(h0, .inr (0, [.ref u, .int 0])), (u, .inl (aC 0, 1024, .inl (fun _ => 0)))])) 1 1024 := by
  refine Ct.mk (by decide) (Nat.le_of_ble_eq_true rfl) ?_
  intro p e s m below meth c A ls hx hb hml hown hts hr hlk hnm hK hA hM hM2 hP hD hS hl
  have hown : s.vm.findClass RX0 = some m.cls := hown
  have F : Fx p s m _ c cX0_init 1 RX0 g aC aM A := ⟨hx, hb, hml, hown, hts, hK, hA, hM, hM2⟩
  have hl : lv_has ls 1 [(0, .ref h0)] := hl
  refine lv_aload_n hx hb dX0_init_0 rfl (lv_at hl 0 rfl) ?_
  refine xobj F tb392 tb32 tb33 hl.1 dX0_init_1 (Nat.le_of_ble_eq_true rfl) (Nat.le_of_ble_eq_true rfl) ?_
  refine lv_aload_n hx hb dX0_init_4 rfl (lv_at hl 0 rfl) ?_
  refine lv_sipush (v := 1024) hx hb dX0_init_5 (by decide) ?_
  refine xnewa (atype := .int) (a0 := (1024, .inl (fun _ => 0))) (N' := 1024) F hP hD hS rfl tb166 0 rfl (fun _ => rfl) (fun _ => rfl) (by decide +kernel) (by decide +kernel) (by decide) (Nat.le_of_ble_eq_true rfl) (Nat.le_of_ble_eq_true rfl) dX0_init_8 (fun q1 H hP hD hS => ?_)
  obtain ⟨hP, hD⟩ := cv_PD (L2 := [(h0, .inr (0, [.null, .int 0])), (q1, .inl (aC 0, 1024, .inl (fun _ => 0)))]) hP hD rfl
  refine xputF F hP hD hS 0 rfl rfl inX0 tyX0_ok nmX0 0 (by decide) tb393 rfl hnm rfl rfl rfl (Nat.le_of_ble_eq_true rfl) dX0_init_10 (fun H locs hP hD hS => ?_)
  obtain ⟨hP, hD⟩ := cv_PD (L2 := [(h0, .inr (0, [.ref q1, .int 0])), (q1, .inl (aC 0, 1024, .inl (fun _ => 0)))]) hP hD rfl
  have hP9 := hP.sub (ws' := [(h0, .inr (0, [.ref q1, .int 0])), (q1, .inl (aC 0, 1024, .inl (fun _ => 0)))]) [0, 1] rfl
  have hD9 := hD.sub (ws' := [(h0, .inr (0, [.ref q1, .int 0])), (q1, .inl (aC 0, 1024, .inl (fun _ => 0)))]) [0, 1] (by decide) rfl
  exact rV q1 hx hb hr hlk hS trivial hP9 hD9 (Nat.le_of_ble_eq_true rfl) (Nat.le_of_ble_eq_true rfl) dX0_init_13

set_option maxRecDepth 100000 in
theorem tb136 : (Jvm.Cond.arrayClass Jvm.ClassFile.FieldType.long) ∈ gw := lw_m1 136 rfl
set_option maxRecDepth 100000 in
theorem tb369 : (Jvm.Cond.methodLink "StairGang$Orders" (3 : Nat) ({ cls := "java/lang/Object", name := "<init>", desc := "()V" } : Jvm.MethodName)) ∈ gw := lw_m2 129 rfl
theorem dX3_init_0 : decode cX3_init 0 = .ok (.aload_n 0, 1) := by decide +kernel
theorem dX3_init_1 : decode cX3_init 1 = .ok (.invokespecial 3, 3) := by decide +kernel
theorem dX3_init_4 : decode cX3_init 4 = .ok (.aload_n 0, 1) := by decide +kernel
theorem dX3_init_5 : decode cX3_init 5 = .ok (.bipush 7, 2) := by decide +kernel
theorem dX3_init_7 : decode cX3_init 7 = .ok (.newarray .int, 2) := by decide +kernel
theorem dX3_init_9 : decode cX3_init 9 = .ok (.putfield 11, 3) := by decide +kernel
theorem dX3_init_12 : decode cX3_init 12 = .ok (.aload_n 0, 1) := by decide +kernel
theorem dX3_init_13 : decode cX3_init 13 = .ok (.sipush 128, 3) := by decide +kernel
theorem dX3_init_16 : decode cX3_init 16 = .ok (.newarray .int, 2) := by decide +kernel
theorem dX3_init_18 : decode cX3_init 18 = .ok (.putfield 15, 3) := by decide +kernel
theorem dX3_init_21 : decode cX3_init 21 = .ok (.aload_n 0, 1) := by decide +kernel
theorem dX3_init_22 : decode cX3_init 22 = .ok (.sipush 128, 3) := by decide +kernel
theorem dX3_init_25 : decode cX3_init 25 = .ok (.newarray .int, 2) := by decide +kernel
theorem dX3_init_27 : decode cX3_init 27 = .ok (.putfield 18, 3) := by decide +kernel
theorem dX3_init_30 : decode cX3_init 30 = .ok (.aload_n 0, 1) := by decide +kernel
theorem dX3_init_31 : decode cX3_init 31 = .ok (.sipush 128, 3) := by decide +kernel
theorem dX3_init_34 : decode cX3_init 34 = .ok (.newarray .long, 2) := by decide +kernel
theorem dX3_init_36 : decode cX3_init 36 = .ok (.putfield 21, 3) := by decide +kernel
theorem dX3_init_39 : decode cX3_init 39 = .ok (.return_, 1) := by decide +kernel
set_option maxHeartbeats 4000000 in
set_option maxRecDepth 100000 in
theorem k_Orders_init (l : Launch) (g : va_G) (aC : Nat → ClassId) (aM : Nat → Nat) (h0 : Nat) : Ct l g aC aM yX3_init cX3_init 1 none 1 [.ref h0] [(h0, .inr (3, [.int 0, .null, .null, .null, .null]))] (QV g (fun (u : Nat × Nat × Nat × Nat) => True) (fun (u : Nat × Nat × Nat × Nat) => [(h0, .inr (3, [.int 0, .ref u.1, .ref u.2.1, .ref u.2.2.1, .ref u.2.2.2])), (u.1, .inl (aC 0, 7, .inl (fun _ => 0))), (u.2.1, .inl (aC 0, 128, .inl (fun _ => 0))), (u.2.2.1, .inl (aC 0, 128, .inl (fun _ => 0))), (u.2.2.2, .inl (aC 1, 128, .inr (.inl (fun _ => 0))))])) 4 391 := by
  refine Ct.mk (by decide) (Nat.le_of_ble_eq_true rfl) ?_
  intro p e s m below meth c A ls hx hb hml hown hts hr hlk hnm hK hA hM hM2 hP hD hS hl
  have hown : s.vm.findClass RX3 = some m.cls := hown
  have F : Fx p s m _ c cX3_init 1 RX3 g aC aM A := ⟨hx, hb, hml, hown, hts, hK, hA, hM, hM2⟩
  have hl : lv_has ls 1 [(0, .ref h0)] := hl
  refine lv_aload_n hx hb dX3_init_0 rfl (lv_at hl 0 rfl) ?_
  refine xobj F tb369 tb32 tb33 hl.1 dX3_init_1 (Nat.le_of_ble_eq_true rfl) (Nat.le_of_ble_eq_true rfl) ?_
  refine lv_aload_n hx hb dX3_init_4 rfl (lv_at hl 0 rfl) ?_
  refine lv_bipush (v := 7) hx hb dX3_init_5 (by decide) ?_
  refine xnewa (atype := .int) (a0 := (7, .inl (fun _ => 0))) (N' := 7) F hP hD hS rfl tb166 0 rfl (fun _ => rfl) (fun _ => rfl) (by decide +kernel) (by decide +kernel) (by decide) (Nat.le_of_ble_eq_true rfl) (Nat.le_of_ble_eq_true rfl) dX3_init_7 (fun q1 H hP hD hS => ?_)
  obtain ⟨hP, hD⟩ := cv_PD (L2 := [(h0, .inr (3, [.int 0, .null, .null, .null, .null])), (q1, .inl (aC 0, 7, .inl (fun _ => 0)))]) hP hD rfl
  refine xputF F hP hD hS 0 rfl rfl inX3 tyX3_ok nmX3 1 (by decide) tb372 rfl hnm rfl rfl rfl (Nat.le_of_ble_eq_true rfl) dX3_init_9 (fun H locs hP hD hS => ?_)
  obtain ⟨hP, hD⟩ := cv_PD (L2 := [(h0, .inr (3, [.int 0, .ref q1, .null, .null, .null])), (q1, .inl (aC 0, 7, .inl (fun _ => 0)))]) hP hD rfl
  refine lv_aload_n hx hb dX3_init_12 rfl (lv_at hl 0 rfl) ?_
  refine lv_sipush (v := 128) hx hb dX3_init_13 (by decide) ?_
  refine xnewa (atype := .int) (a0 := (128, .inl (fun _ => 0))) (N' := 128) F hP hD hS rfl tb166 0 rfl (fun _ => rfl) (fun _ => rfl) (by decide +kernel) (by decide +kernel) (by decide) (Nat.le_of_ble_eq_true rfl) (Nat.le_of_ble_eq_true rfl) dX3_init_16 (fun q2 H hP hD hS => ?_)
  obtain ⟨hP, hD⟩ := cv_PD (L2 := [(h0, .inr (3, [.int 0, .ref q1, .null, .null, .null])), (q1, .inl (aC 0, 7, .inl (fun _ => 0))), (q2, .inl (aC 0, 128, .inl (fun _ => 0)))]) hP hD rfl
  refine xputF F hP hD hS 0 rfl rfl inX3 tyX3_ok nmX3 2 (by decide) tb373 rfl hnm rfl rfl rfl (Nat.le_of_ble_eq_true rfl) dX3_init_18 (fun H locs hP hD hS => ?_)
  obtain ⟨hP, hD⟩ := cv_PD (L2 := [(h0, .inr (3, [.int 0, .ref q1, .ref q2, .null, .null])), (q1, .inl (aC 0, 7, .inl (fun _ => 0))), (q2, .inl (aC 0, 128, .inl (fun _ => 0)))]) hP hD rfl
  refine lv_aload_n hx hb dX3_init_21 rfl (lv_at hl 0 rfl) ?_
  refine lv_sipush (v := 128) hx hb dX3_init_22 (by decide) ?_
  refine xnewa (atype := .int) (a0 := (128, .inl (fun _ => 0))) (N' := 128) F hP hD hS rfl tb166 0 rfl (fun _ => rfl) (fun _ => rfl) (by decide +kernel) (by decide +kernel) (by decide) (Nat.le_of_ble_eq_true rfl) (Nat.le_of_ble_eq_true rfl) dX3_init_25 (fun q3 H hP hD hS => ?_)
  obtain ⟨hP, hD⟩ := cv_PD (L2 := [(h0, .inr (3, [.int 0, .ref q1, .ref q2, .null, .null])), (q1, .inl (aC 0, 7, .inl (fun _ => 0))), (q2, .inl (aC 0, 128, .inl (fun _ => 0))), (q3, .inl (aC 0, 128, .inl (fun _ => 0)))]) hP hD rfl
  refine xputF F hP hD hS 0 rfl rfl inX3 tyX3_ok nmX3 3 (by decide) tb374 rfl hnm rfl rfl rfl (Nat.le_of_ble_eq_true rfl) dX3_init_27 (fun H locs hP hD hS => ?_)
  obtain ⟨hP, hD⟩ := cv_PD (L2 := [(h0, .inr (3, [.int 0, .ref q1, .ref q2, .ref q3, .null])), (q1, .inl (aC 0, 7, .inl (fun _ => 0))), (q2, .inl (aC 0, 128, .inl (fun _ => 0))), (q3, .inl (aC 0, 128, .inl (fun _ => 0)))]) hP hD rfl
  refine lv_aload_n hx hb dX3_init_30 rfl (lv_at hl 0 rfl) ?_
  refine lv_sipush (v := 128) hx hb dX3_init_31 (by decide) ?_
  refine xnewa (atype := .long) (a0 := (128, .inr (.inl (fun _ => 0)))) (N' := 128) F hP hD hS rfl tb136 1 rfl (fun _ => rfl) (fun _ => rfl) (by decide +kernel) (by decide +kernel) (by decide) (Nat.le_of_ble_eq_true rfl) (Nat.le_of_ble_eq_true rfl) dX3_init_34 (fun q4 H hP hD hS => ?_)
  obtain ⟨hP, hD⟩ := cv_PD (L2 := [(h0, .inr (3, [.int 0, .ref q1, .ref q2, .ref q3, .null])), (q1, .inl (aC 0, 7, .inl (fun _ => 0))), (q2, .inl (aC 0, 128, .inl (fun _ => 0))), (q3, .inl (aC 0, 128, .inl (fun _ => 0))), (q4, .inl (aC 1, 128, .inr (.inl (fun _ => 0))))]) hP hD rfl
  refine xputF F hP hD hS 0 rfl rfl inX3 tyX3_ok nmX3 4 (by decide) tb375 rfl hnm rfl rfl rfl (Nat.le_of_ble_eq_true rfl) dX3_init_36 (fun H locs hP hD hS => ?_)
  obtain ⟨hP, hD⟩ := cv_PD (L2 := [(h0, .inr (3, [.int 0, .ref q1, .ref q2, .ref q3, .ref q4])), (q1, .inl (aC 0, 7, .inl (fun _ => 0))), (q2, .inl (aC 0, 128, .inl (fun _ => 0))), (q3, .inl (aC 0, 128, .inl (fun _ => 0))), (q4, .inl (aC 1, 128, .inr (.inl (fun _ => 0))))]) hP hD rfl
  have hP9 := hP.sub (ws' := [(h0, .inr (3, [.int 0, .ref q1, .ref q2, .ref q3, .ref q4])), (q1, .inl (aC 0, 7, .inl (fun _ => 0))), (q2, .inl (aC 0, 128, .inl (fun _ => 0))), (q3, .inl (aC 0, 128, .inl (fun _ => 0))), (q4, .inl (aC 1, 128, .inr (.inl (fun _ => 0))))]) [0, 1, 2, 3, 4] rfl
  have hD9 := hD.sub (ws' := [(h0, .inr (3, [.int 0, .ref q1, .ref q2, .ref q3, .ref q4])), (q1, .inl (aC 0, 7, .inl (fun _ => 0))), (q2, .inl (aC 0, 128, .inl (fun _ => 0))), (q3, .inl (aC 0, 128, .inl (fun _ => 0))), (q4, .inl (aC 1, 128, .inr (.inl (fun _ => 0))))]) [0, 1, 2, 3, 4] (by decide) rfl
  exact rV (q1, q2, q3, q4) hx hb hr hlk hS trivial hP9 hD9 (Nat.le_of_ble_eq_true rfl) (Nat.le_of_ble_eq_true rfl) dX3_init_39

set_option maxRecDepth 100000 in
theorem tb153 : (Jvm.Cond.methodLink "StairGang$NightsReader" (3 : Nat) ({ cls := "java/lang/Object", name := "<init>", desc := "()V" } : Jvm.MethodName)) ∈ gw := lw_m1 153 rfl
theorem dX2_init_0 : decode cX2_init 0 = .ok (.aload_n 0, 1) := by decide +kernel
theorem dX2_init_1 : decode cX2_init 1 = .ok (.invokespecial 3, 3) := by decide +kernel
theorem dX2_init_4 : decode cX2_init 4 = .ok (.aload_n 0, 1) := by decide +kernel
theorem dX2_init_5 : decode cX2_init 5 = .ok (.sipush 160, 3) := by decide +kernel
theorem dX2_init_8 : decode cX2_init 8 = .ok (.newarray .int, 2) := by decide +kernel
theorem dX2_init_10 : decode cX2_init 10 = .ok (.putfield 11, 3) := by decide +kernel
theorem dX2_init_13 : decode cX2_init 13 = .ok (.aload_n 0, 1) := by decide +kernel
theorem dX2_init_14 : decode cX2_init 14 = .ok (.aload_n 1, 1) := by decide +kernel
theorem dX2_init_15 : decode cX2_init 15 = .ok (.putfield 15, 3) := by decide +kernel
theorem dX2_init_18 : decode cX2_init 18 = .ok (.return_, 1) := by decide +kernel
set_option maxHeartbeats 4000000 in
set_option maxRecDepth 100000 in
theorem k_NightsReader_init (l : Launch) (g : va_G) (aC : Nat → ClassId) (aM : Nat → Nat) (h0 h1 : Nat) : Ct l g aC aM yX2_init cX2_init 2 none 1 [.ref h0, .ref h1] [(h0, .inr (2, [.null, .int 0, .null]))] (QV g (fun (u : Nat) => True) (fun (u : Nat) => [(h0, .inr (2, [.ref u, .int 0, .ref h1])), (u, .inl (aC 0, 160, .inl (fun _ => 0)))])) 1 160 := by
  refine Ct.mk (by decide) (Nat.le_of_ble_eq_true rfl) ?_
  intro p e s m below meth c A ls hx hb hml hown hts hr hlk hnm hK hA hM hM2 hP hD hS hl
  have hown : s.vm.findClass RX2 = some m.cls := hown
  have F : Fx p s m _ c cX2_init 2 RX2 g aC aM A := ⟨hx, hb, hml, hown, hts, hK, hA, hM, hM2⟩
  have hl : lv_has ls 2 [(0, .ref h0), (1, .ref h1)] := hl
  refine lv_aload_n hx hb dX2_init_0 rfl (lv_at hl 0 rfl) ?_
  refine xobj F tb153 tb32 tb33 hl.1 dX2_init_1 (Nat.le_of_ble_eq_true rfl) (Nat.le_of_ble_eq_true rfl) ?_
  refine lv_aload_n hx hb dX2_init_4 rfl (lv_at hl 0 rfl) ?_
  refine lv_sipush (v := 160) hx hb dX2_init_5 (by decide) ?_
  refine xnewa (atype := .int) (a0 := (160, .inl (fun _ => 0))) (N' := 160) F hP hD hS rfl tb166 0 rfl (fun _ => rfl) (fun _ => rfl) (by decide +kernel) (by decide +kernel) (by decide) (Nat.le_of_ble_eq_true rfl) (Nat.le_of_ble_eq_true rfl) dX2_init_8 (fun q1 H hP hD hS => ?_)
  obtain ⟨hP, hD⟩ := cv_PD (L2 := [(h0, .inr (2, [.null, .int 0, .null])), (q1, .inl (aC 0, 160, .inl (fun _ => 0)))]) hP hD rfl
  refine xputF F hP hD hS 0 rfl rfl inX2 tyX2_ok nmX2 0 (by decide) tb154 rfl hnm rfl rfl rfl (Nat.le_of_ble_eq_true rfl) dX2_init_10 (fun H locs hP hD hS => ?_)
  obtain ⟨hP, hD⟩ := cv_PD (L2 := [(h0, .inr (2, [.ref q1, .int 0, .null])), (q1, .inl (aC 0, 160, .inl (fun _ => 0)))]) hP hD rfl
  refine lv_aload_n hx hb dX2_init_13 rfl (lv_at hl 0 rfl) ?_
  refine lv_aload_n hx hb dX2_init_14 rfl (lv_at hl 1 rfl) ?_
  refine xputF F hP hD hS 0 rfl rfl inX2 tyX2_ok nmX2 2 (by decide) tb158 rfl hnm rfl rfl rfl (Nat.le_of_ble_eq_true rfl) dX2_init_15 (fun H locs hP hD hS => ?_)
  obtain ⟨hP, hD⟩ := cv_PD (L2 := [(h0, .inr (2, [.ref q1, .int 0, .ref h1])), (q1, .inl (aC 0, 160, .inl (fun _ => 0)))]) hP hD rfl
  have hP9 := hP.sub (ws' := [(h0, .inr (2, [.ref q1, .int 0, .ref h1])), (q1, .inl (aC 0, 160, .inl (fun _ => 0)))]) [0, 1] rfl
  have hD9 := hD.sub (ws' := [(h0, .inr (2, [.ref q1, .int 0, .ref h1])), (q1, .inl (aC 0, 160, .inl (fun _ => 0)))]) [0, 1] (by decide) rfl
  exact rV q1 hx hb hr hlk hS trivial hP9 hD9 (Nat.le_of_ble_eq_true rfl) (Nat.le_of_ble_eq_true rfl) dX2_init_18

set_option maxRecDepth 100000 in
theorem tb143 : (Jvm.Cond.methodLink "StairGang$TownReader" (3 : Nat) ({ cls := "java/lang/Object", name := "<init>", desc := "()V" } : Jvm.MethodName)) ∈ gw := lw_m1 143 rfl
theorem dX9_init_0 : decode cX9_init 0 = .ok (.aload_n 0, 1) := by decide +kernel
theorem dX9_init_1 : decode cX9_init 1 = .ok (.invokespecial 3, 3) := by decide +kernel
theorem dX9_init_4 : decode cX9_init 4 = .ok (.aload_n 0, 1) := by decide +kernel
theorem dX9_init_5 : decode cX9_init 5 = .ok (.aload_n 1, 1) := by decide +kernel
theorem dX9_init_6 : decode cX9_init 6 = .ok (.putfield 9, 3) := by decide +kernel
theorem dX9_init_9 : decode cX9_init 9 = .ok (.return_, 1) := by decide +kernel
set_option maxHeartbeats 4000000 in
set_option maxRecDepth 100000 in
theorem k_TownReader_init (l : Launch) (g : va_G) (aC : Nat → ClassId) (aM : Nat → Nat) (h0 h1 : Nat) : Ct l g aC aM yX9_init cX9_init 2 none 1 [.ref h0, .ref h1] [(h0, .inr (9, [.null]))] (QV g (fun (_ : Unit) => True) (fun (_ : Unit) => [(h0, .inr (9, [.ref h1]))])) 0 0 := by
  refine Ct.mk (by decide) (Nat.le_of_ble_eq_true rfl) ?_
  intro p e s m below meth c A ls hx hb hml hown hts hr hlk hnm hK hA hM hM2 hP hD hS hl
  have hown : s.vm.findClass RX9 = some m.cls := hown
  have F : Fx p s m _ c cX9_init 2 RX9 g aC aM A := ⟨hx, hb, hml, hown, hts, hK, hA, hM, hM2⟩
  have hl : lv_has ls 2 [(0, .ref h0), (1, .ref h1)] := hl
  refine lv_aload_n hx hb dX9_init_0 rfl (lv_at hl 0 rfl) ?_
  refine xobj F tb143 tb32 tb33 hl.1 dX9_init_1 (Nat.le_of_ble_eq_true rfl) (Nat.le_of_ble_eq_true rfl) ?_
  refine lv_aload_n hx hb dX9_init_4 rfl (lv_at hl 0 rfl) ?_
  refine lv_aload_n hx hb dX9_init_5 rfl (lv_at hl 1 rfl) ?_
  refine xputF F hP hD hS 0 rfl rfl inX9 tyX9_ok nmX9 0 (by decide) tb144 rfl hnm rfl rfl rfl (Nat.le_of_ble_eq_true rfl) dX9_init_6 (fun H locs hP hD hS => ?_)
  obtain ⟨hP, hD⟩ := cv_PD (L2 := [(h0, .inr (9, [.ref h1]))]) hP hD rfl
  have hP9 := hP.sub (ws' := [(h0, .inr (9, [.ref h1]))]) [0] rfl
  have hD9 := hD.sub (ws' := [(h0, .inr (9, [.ref h1]))]) [0] (by decide) rfl
  exact rV () hx hb hr hlk hS trivial hP9 hD9 (Nat.le_of_ble_eq_true rfl) (Nat.le_of_ble_eq_true rfl) dX9_init_9

theorem dX4_clear_0 : decode cX4_clear 0 = .ok (.aload_n 0, 1) := by decide +kernel
theorem dX4_clear_1 : decode cX4_clear 1 = .ok (.iconst 0, 1) := by decide +kernel
theorem dX4_clear_2 : decode cX4_clear 2 = .ok (.putfield 18, 3) := by decide +kernel
theorem dX4_clear_5 : decode cX4_clear 5 = .ok (.return_, 1) := by decide +kernel
set_option maxHeartbeats 4000000 in
set_option maxRecDepth 100000 in
theorem k_Price_clear (l : Launch) (g : va_G) (aC : Nat → ClassId) (aM : Nat → Nat) (h0 : Nat) (x1 x2 : Value) (n1 : Int32) : Ct l g aC aM yX4_clear cX4_clear 1 none 1 [.ref h0] [(h0, .inr (4, [x1, .int n1, x2]))] (QV g (fun (_ : Unit) => True) (fun (_ : Unit) => [(h0, .inr (4, [x1, .int 0, x2]))])) 0 0 := by
  refine Ct.mk (by decide) (Nat.le_of_ble_eq_true rfl) ?_
  intro p e s m below meth c A ls hx hb hml hown hts hr hlk hnm hK hA hM hM2 hP hD hS hl
  have hown : s.vm.findClass RX4 = some m.cls := hown
  have F : Fx p s m _ c cX4_clear 1 RX4 g aC aM A := ⟨hx, hb, hml, hown, hts, hK, hA, hM, hM2⟩
  have hl : lv_has ls 1 [(0, .ref h0)] := hl
  refine lv_aload_n hx hb dX4_clear_0 rfl (lv_at hl 0 rfl) ?_
  refine lv_iconst (v := 0) hx hb dX4_clear_1 (by decide) ?_
  refine xput F hP hD hS 0 rfl rfl inX4 tyX4_ok nmX4 1 (by decide) tb184 rfl rfl rfl (Nat.le_of_ble_eq_true rfl) dX4_clear_2 (fun H locs hP hD hS => ?_)
  obtain ⟨hP, hD⟩ := cv_PD (L2 := [(h0, .inr (4, [x1, .int 0, x2]))]) hP hD rfl
  have hP9 := hP.sub (ws' := [(h0, .inr (4, [x1, .int 0, x2]))]) [0] rfl
  have hD9 := hD.sub (ws' := [(h0, .inr (4, [x1, .int 0, x2]))]) [0] (by decide) rfl
  exact rV () hx hb hr hlk hS trivial hP9 hD9 (Nat.le_of_ble_eq_true rfl) (Nat.le_of_ble_eq_true rfl) dX4_clear_5

theorem dX4_isTold_0 : decode cX4_isTold 0 = .ok (.aload_n 0, 1) := by decide +kernel
theorem dX4_isTold_1 : decode cX4_isTold 1 = .ok (.getfield 18, 3) := by decide +kernel
theorem dX4_isTold_4 : decode cX4_isTold 4 = .ok (.ifCond .le 7, 3) := by decide +kernel
theorem dX4_isTold_11 : decode cX4_isTold 11 = .ok (.iconst 0, 1) := by decide +kernel
theorem dX4_isTold_12 : decode cX4_isTold 12 = .ok (.ireturn, 1) := by decide +kernel
set_option maxHeartbeats 4000000 in
set_option maxRecDepth 100000 in
theorem k_Price_isTold0 (l : Launch) (g : va_G) (aC : Nat → ClassId) (aM : Nat → Nat) (h0 : Nat) (x1 x2 : Value) : Ct l g aC aM yX4_isTold cX4_isTold 1 (some .boolean) 1 [.ref h0] [(h0, .inr (4, [x1, .int 0, x2]))] (QI g (fun (r : Int32) (_ : Unit) => r = 0) (fun (_ : Unit) => [(h0, .inr (4, [x1, .int 0, x2]))])) 0 0 := by
  refine Ct.mk (by decide) (Nat.le_of_ble_eq_true rfl) ?_
  intro p e s m below meth c A ls hx hb hml hown hts hr hlk hnm hK hA hM hM2 hP hD hS hl
  have hown : s.vm.findClass RX4 = some m.cls := hown
  have F : Fx p s m _ c cX4_isTold 1 RX4 g aC aM A := ⟨hx, hb, hml, hown, hts, hK, hA, hM, hM2⟩
  have hl : lv_has ls 1 [(0, .ref h0)] := hl
  refine lv_aload_n hx hb dX4_isTold_0 rfl (lv_at hl 0 rfl) ?_
  refine xget F hP 0 rfl rfl inX4 1 (by decide) tb184 rfl dX4_isTold_1 ?_
  refine lv_if_le (tgt := 11) hx hb dX4_isTold_4 (by decide) (fun _ => ?_) (fun c_ => absurd (by decide +kernel) c_)
  refine lv_iconst (v := 0) hx hb dX4_isTold_11 (by decide) ?_
  have hP9 := hP.sub (ws' := [(h0, .inr (4, [x1, .int 0, x2]))]) [0] rfl
  have hD9 := hD.sub (ws' := [(h0, .inr (4, [x1, .int 0, x2]))]) [0] (by decide) rfl
  exact rI () hx hb hr hlk rfl hS rfl hP9 hD9 (Nat.le_of_ble_eq_true rfl) (Nat.le_of_ble_eq_true rfl) dX4_isTold_12

theorem dX4_add_0 : decode cX4_add 0 = .ok (.aload_n 0, 1) := by decide +kernel
theorem dX4_add_1 : decode cX4_add 1 = .ok (.getfield 18, 3) := by decide +kernel
theorem dX4_add_4 : decode cX4_add 4 = .ok (.aload_n 0, 1) := by decide +kernel
theorem dX4_add_5 : decode cX4_add 5 = .ok (.getfield 9, 3) := by decide +kernel
theorem dX4_add_8 : decode cX4_add 8 = .ok (.arraylength, 1) := by decide +kernel
theorem dX4_add_9 : decode cX4_add 9 = .ok (.if_icmp .ge 23, 3) := by decide +kernel
theorem dX4_add_12 : decode cX4_add 12 = .ok (.aload_n 0, 1) := by decide +kernel
theorem dX4_add_13 : decode cX4_add 13 = .ok (.getfield 9, 3) := by decide +kernel
theorem dX4_add_16 : decode cX4_add 16 = .ok (.aload_n 0, 1) := by decide +kernel
theorem dX4_add_17 : decode cX4_add 17 = .ok (.getfield 18, 3) := by decide +kernel
theorem dX4_add_20 : decode cX4_add 20 = .ok (.iload_n 1, 1) := by decide +kernel
theorem dX4_add_21 : decode cX4_add 21 = .ok (.iastore, 1) := by decide +kernel
theorem dX4_add_22 : decode cX4_add 22 = .ok (.aload_n 0, 1) := by decide +kernel
theorem dX4_add_23 : decode cX4_add 23 = .ok (.dup, 1) := by decide +kernel
theorem dX4_add_24 : decode cX4_add 24 = .ok (.getfield 18, 3) := by decide +kernel
theorem dX4_add_27 : decode cX4_add 27 = .ok (.iconst 1, 1) := by decide +kernel
theorem dX4_add_28 : decode cX4_add 28 = .ok (.iadd, 1) := by decide +kernel
theorem dX4_add_29 : decode cX4_add 29 = .ok (.putfield 18, 3) := by decide +kernel
theorem dX4_add_32 : decode cX4_add 32 = .ok (.return_, 1) := by decide +kernel
set_option maxHeartbeats 4000000 in
set_option maxRecDepth 100000 in
theorem k_Price_add (l : Launch) (g : va_G) (aC : Nat → ClassId) (aM : Nat → Nat) (h0 h1 : Nat) (x2 : Value) (f : Nat → Int32) : Ct l g aC aM yX4_add cX4_add 2 none 1 [.ref h0, .int (-1)] [(h0, .inr (4, [.ref h1, .int 0, x2])), (h1, .inl (aC 0, 1000, .inl f))] (QV g (fun (u : Nat → Int32) => True) (fun (u : Nat → Int32) => [(h0, .inr (4, [.ref h1, .int 1, x2])), (h1, .inl (aC 0, 1000, .inl u))])) 0 0 := by
  refine Ct.mk (by decide) (Nat.le_of_ble_eq_true rfl) ?_
  intro p e s m below meth c A ls hx hb hml hown hts hr hlk hnm hK hA hM hM2 hP hD hS hl
  have hown : s.vm.findClass RX4 = some m.cls := hown
  have F : Fx p s m _ c cX4_add 2 RX4 g aC aM A := ⟨hx, hb, hml, hown, hts, hK, hA, hM, hM2⟩
  have hl : lv_has ls 2 [(0, .ref h0), (1, .int (-1))] := hl
  refine lv_aload_n hx hb dX4_add_0 rfl (lv_at hl 0 rfl) ?_
  refine xget F hP 0 rfl rfl inX4 1 (by decide) tb184 rfl dX4_add_1 ?_
  refine lv_aload_n hx hb dX4_add_4 rfl (lv_at hl 0 rfl) ?_
  refine xget F hP 0 rfl rfl inX4 0 (by decide) tb183 rfl dX4_add_5 ?_
  refine xlen (v := 1000) F hP 1 0 rfl rfl rfl dX4_add_8 ?_
  refine lv_icmp_ge (tgt := 32) hx hb dX4_add_9 (by decide) (fun c_ => absurd c_ (by decide +kernel)) (fun _ => ?_)
  refine lv_aload_n hx hb dX4_add_12 rfl (lv_at hl 0 rfl) ?_
  refine xget F hP 0 rfl rfl inX4 0 (by decide) tb183 rfl dX4_add_13 ?_
  refine lv_aload_n hx hb dX4_add_16 rfl (lv_at hl 0 rfl) ?_
  refine xget F hP 0 rfl rfl inX4 1 (by decide) tb184 rfl dX4_add_17 ?_
  refine lv_iload_n hx hb dX4_add_20 rfl (lv_at hl 1 rfl) ?_
  refine xistE F hP hD hS 1 rfl 0 (by decide +kernel) (by decide +kernel) (by decide) dX4_add_21 (fun f_2 H locs hP hD hS => ?_)
  obtain ⟨hP, hD⟩ := cv_PD (L2 := [(h0, .inr (4, [.ref h1, .int 0, x2])), (h1, .inl (aC 0, 1000, .inl f_2))]) hP hD rfl
  refine lv_aload_n hx hb dX4_add_22 rfl (lv_at hl 0 rfl) ?_
  refine lv_dup hx hb dX4_add_23 rfl ?_
  refine xget F hP 0 rfl rfl inX4 1 (by decide) tb184 rfl dX4_add_24 ?_
  refine lv_iconst (v := 1) hx hb dX4_add_27 (by decide) ?_
  refine lv_iadd hx hb dX4_add_28 ?_
  refine relit (v := 1) (by decide +kernel) ?_
  refine xput F hP hD hS 0 rfl rfl inX4 tyX4_ok nmX4 1 (by decide) tb184 rfl rfl rfl (Nat.le_of_ble_eq_true rfl) dX4_add_29 (fun H locs hP hD hS => ?_)
  obtain ⟨hP, hD⟩ := cv_PD (L2 := [(h0, .inr (4, [.ref h1, .int 1, x2])), (h1, .inl (aC 0, 1000, .inl f_2))]) hP hD rfl
  have hP9 := hP.sub (ws' := [(h0, .inr (4, [.ref h1, .int 1, x2])), (h1, .inl (aC 0, 1000, .inl f_2))]) [0, 1] rfl
  have hD9 := hD.sub (ws' := [(h0, .inr (4, [.ref h1, .int 1, x2])), (h1, .inl (aC 0, 1000, .inl f_2))]) [0, 1] (by decide) rfl
  exact rV f_2 hx hb hr hlk hS trivial hP9 hD9 (Nat.le_of_ble_eq_true rfl) (Nat.le_of_ble_eq_true rfl) dX4_add_32

theorem dX4_beHigh_0 : decode cX4_beHigh 0 = .ok (.aload_n 0, 1) := by decide +kernel
theorem dX4_beHigh_1 : decode cX4_beHigh 1 = .ok (.iconst 0, 1) := by decide +kernel
theorem dX4_beHigh_2 : decode cX4_beHigh 2 = .ok (.putfield 18, 3) := by decide +kernel
theorem dX4_beHigh_5 : decode cX4_beHigh 5 = .ok (.aload_n 0, 1) := by decide +kernel
theorem dX4_beHigh_6 : decode cX4_beHigh 6 = .ok (.iconst (-1), 1) := by decide +kernel
theorem dX4_beHigh_7 : decode cX4_beHigh 7 = .ok (.invokevirtual 22, 3) := by decide +kernel
theorem dX4_beHigh_10 : decode cX4_beHigh 10 = .ok (.return_, 1) := by decide +kernel
set_option maxHeartbeats 4000000 in
set_option maxRecDepth 100000 in
theorem k_Price_beHigh (l : Launch) (g : va_G) (aC : Nat → ClassId) (aM : Nat → Nat) (h0 h1 : Nat) (x2 : Value) (f : Nat → Int32) : Ct l g aC aM yX4_beHigh cX4_beHigh 1 none 2 [.ref h0] [(h0, .inr (4, [.ref h1, .int 0, x2])), (h1, .inl (aC 0, 1000, .inl f))] (QV g (fun (u : Nat → Int32) => True) (fun (u : Nat → Int32) => [(h0, .inr (4, [.ref h1, .int 1, x2])), (h1, .inl (aC 0, 1000, .inl u))])) 0 0 := by
  refine Ct.mk (by decide) (Nat.le_of_ble_eq_true rfl) ?_
  intro p e s m below meth c A ls hx hb hml hown hts hr hlk hnm hK hA hM hM2 hP hD hS hl
  have hown : s.vm.findClass RX4 = some m.cls := hown
  have F : Fx p s m _ c cX4_beHigh 1 RX4 g aC aM A := ⟨hx, hb, hml, hown, hts, hK, hA, hM, hM2⟩
  have hl : lv_has ls 1 [(0, .ref h0)] := hl
  refine lv_aload_n hx hb dX4_beHigh_0 rfl (lv_at hl 0 rfl) ?_
  refine lv_iconst (v := 0) hx hb dX4_beHigh_1 (by decide) ?_
  refine xput F hP hD hS 0 rfl rfl inX4 tyX4_ok nmX4 1 (by decide) tb184 rfl rfl rfl (Nat.le_of_ble_eq_true rfl) dX4_beHigh_2 (fun H locs hP hD hS => ?_)
  obtain ⟨hP, hD⟩ := cv_PD (L2 := [(h0, .inr (4, [.ref h1, .int 0, x2])), (h1, .inl (aC 0, 1000, .inl f))]) hP hD rfl
  refine lv_aload_n hx hb dX4_beHigh_5 rfl (lv_at hl 0 rfl) ?_
  refine lv_iconst (v := (-1)) hx hb dX4_beHigh_6 (by decide) ?_
  refine goV (wr := []) (runV (n := 1) (As := [.int (-1)]) (rest := []) F hP hD hS (k_Price_add l g aC aM h0 h1 x2 f) [0, 1] (by decide) rfl 0 4 rfl rfl rfl tb222 tb219 tb221 tv1 tb10 ⟨by decide, by decide, by decide +kernel⟩ ⟨Nat.le_of_ble_eq_true rfl, Nat.le_of_ble_eq_true rfl⟩ rfl hl.1 rfl (Nat.le_of_ble_eq_true rfl) dX4_beHigh_7 ⟨Nat.le_of_ble_eq_true rfl, Nat.le_of_ble_eq_true rfl⟩) hP hD hS hA [0, 1] [] rfl rfl (by decide) (by decide) (fun w4 H locs hw hP hD hS => ?_)
  obtain ⟨u1, rfl⟩ : ∃ z_, z_ = w4 := ⟨_, rfl⟩
  obtain ⟨hP, hD⟩ := cv_PD (L2 := [(h0, .inr (4, [.ref h1, .int 1, x2])), (h1, .inl (aC 0, 1000, .inl u1))]) hP hD rfl
  have hP9 := hP.sub (ws' := [(h0, .inr (4, [.ref h1, .int 1, x2])), (h1, .inl (aC 0, 1000, .inl u1))]) [0, 1] rfl
  have hD9 := hD.sub (ws' := [(h0, .inr (4, [.ref h1, .int 1, x2])), (h1, .inl (aC 0, 1000, .inl u1))]) [0, 1] (by decide) rfl
  exact rV u1 hx hb hr hlk hS trivial hP9 hD9 (Nat.le_of_ble_eq_true rfl) (Nat.le_of_ble_eq_true rfl) dX4_beHigh_10

theorem dJ7_fill_53178_0 : decode cJ7_fill_53178 0 = .ok (.iconst 0, 1) := by decide +kernel
theorem dJ7_fill_53178_1 : decode cJ7_fill_53178 1 = .ok (.istore_n 2, 1) := by decide +kernel
theorem dJ7_fill_53178_2 : decode cJ7_fill_53178 2 = .ok (.aload_n 0, 1) := by decide +kernel
theorem dJ7_fill_53178_3 : decode cJ7_fill_53178 3 = .ok (.arraylength, 1) := by decide +kernel
theorem dJ7_fill_53178_4 : decode cJ7_fill_53178 4 = .ok (.istore_n 3, 1) := by decide +kernel
theorem dJ7_fill_53178_5 : decode cJ7_fill_53178 5 = .ok (.iload_n 2, 1) := by decide +kernel
theorem dJ7_fill_53178_6 : decode cJ7_fill_53178 6 = .ok (.iload_n 3, 1) := by decide +kernel
theorem dJ7_fill_53178_7 : decode cJ7_fill_53178 7 = .ok (.if_icmp .ge 13, 3) := by decide +kernel
theorem dJ7_fill_53178_10 : decode cJ7_fill_53178 10 = .ok (.aload_n 0, 1) := by decide +kernel
theorem dJ7_fill_53178_11 : decode cJ7_fill_53178 11 = .ok (.iload_n 2, 1) := by decide +kernel
theorem dJ7_fill_53178_12 : decode cJ7_fill_53178 12 = .ok (.iload_n 1, 1) := by decide +kernel
theorem dJ7_fill_53178_13 : decode cJ7_fill_53178 13 = .ok (.iastore, 1) := by decide +kernel
theorem dJ7_fill_53178_14 : decode cJ7_fill_53178 14 = .ok (.iinc 2 1, 3) := by decide +kernel
theorem dJ7_fill_53178_17 : decode cJ7_fill_53178 17 = .ok (.goto (-12), 3) := by decide +kernel
theorem dJ7_fill_53178_20 : decode cJ7_fill_53178 20 = .ok (.return_, 1) := by decide +kernel
set_option maxHeartbeats 4000000 in
set_option maxRecDepth 100000 in
theorem k_fill5 (l : Launch) (g : va_G) (aC : Nat → ClassId) (aM : Nat → Nat) (h0 : Nat) : Ct l g aC aM yJ7_fill_53178 cJ7_fill_53178 4 none 1 [.ref h0, .int 0] [(h0, .inl (aC 0, 5, .inl (fun _ => 0)))] (QV g (fun (_ : Unit) => True) (fun (_ : Unit) => [(h0, .inl (aC 0, 5, .inl (fun _ => 0)))])) 0 0 := by
  refine Ct.mk (by decide) (Nat.le_of_ble_eq_true rfl) ?_
  intro p e s m below meth c A ls hx hb hml hown hts hr hlk hnm hK hA hM hM2 hP hD hS hl
  have hown : s.vm.findClass RJ7 = some m.cls := hown
  have F : Fx p s m _ c cJ7_fill_53178 4 RJ7 g aC aM A := ⟨hx, hb, hml, hown, hts, hK, hA, hM, hM2⟩
  have hl : lv_has ls 4 [(0, .ref h0), (1, .int 0)] := hl
  refine lv_iconst (v := 0) hx hb dJ7_fill_53178_0 (by decide) ?_
  refine lv_istore_n (lv' := [(2, .int 0), (0, .ref h0), (1, .int 0)]) hx hb dJ7_fill_53178_1 rfl hl (by decide) rfl (fun ls hl => ?_)
  refine lv_aload_n hx hb dJ7_fill_53178_2 rfl (lv_at hl 1 rfl) ?_
  refine xlen (v := 5) F hP 0 0 rfl rfl rfl dJ7_fill_53178_3 ?_
  refine lv_istore_n (lv' := [(3, .int 5), (2, .int 0), (0, .ref h0), (1, .int 0)]) hx hb dJ7_fill_53178_4 rfl hl (by decide) rfl (fun ls hl => ?_)
  refine W.widen (k := 0) (n := 0) (Nat.le_of_ble_eq_true rfl) (Nat.le_of_ble_eq_true rfl) ?_
  have hloop5 : ∀ (n k : Nat) (H : Heap) (locs : List Loc) (ls : Array Slot), k + n = 5 → va_P g vwCl [(h0, .inl (aC 0, 5, .inl (fun _ => 0)))] H → va_D A [(h0, .inl (aC 0, 5, .inl (fun _ => 0)))] → va_S A s.heap H locs → lv_has ls 4 [(3, .int 5), (2, .int (nI k)), (0, .ref h0), (1, .int 0)] → W p l e (rmL 1 0 0) s m [.ref h0, .int 0].toArray below meth c H locs 0 0 (MQ below (QV g (fun (_ : Unit) => True) (fun (_ : Unit) => [(h0, .inl (aC 0, 5, .inl (fun _ => 0)))]) A) [.ref h0, .int 0].toArray s 0 0 A) (F0 m 5 ls []) := by
    intro n
    induction n with
    | zero =>
      intro k  H locs ls hk  hP hD hS hl
      obtain rfl : k = 5 := by omega
      have hl : lv_has ls 4 [(3, .int 5), (2, .int 5), (0, .ref h0), (1, .int 0)] := hl
      refine lv_iload_n hx hb dJ7_fill_53178_5 rfl (lv_at hl 1 rfl) ?_
      refine lv_iload_n hx hb dJ7_fill_53178_6 rfl (lv_at hl 0 rfl) ?_
      refine lv_icmp_ge (tgt := 20) hx hb dJ7_fill_53178_7 (by decide) (fun _ => ?_) (fun c_ => absurd (by decide +kernel) c_)
      have hP9 := hP.sub (ws' := [(h0, .inl (aC 0, 5, .inl (fun _ => 0)))]) [0] rfl
      have hD9 := hD.sub (ws' := [(h0, .inl (aC 0, 5, .inl (fun _ => 0)))]) [0] (by decide) rfl
      exact rV () hx hb hr hlk hS trivial hP9 hD9 (Nat.le_of_ble_eq_true rfl) (Nat.le_of_ble_eq_true rfl) dJ7_fill_53178_20
    | succ n ih =>
      intro k  H locs ls hk  hP hD hS hl
      have hk2 : k < 5 := by omega
      refine lv_iload_n hx hb dJ7_fill_53178_5 rfl (lv_at hl 1 rfl) ?_
      refine lv_iload_n hx hb dJ7_fill_53178_6 rfl (lv_at hl 0 rfl) ?_
      refine lv_icmp_ge (tgt := 20) hx hb dJ7_fill_53178_7 (by decide) (fun c_ => absurd c_ (show ¬ (nI 5 ≤ nI k) by rw [nI_leI (by omega) (by omega)]; omega)) (fun _ => ?_)
      refine lv_aload_n hx hb dJ7_fill_53178_10 rfl (lv_at hl 2 rfl) ?_
      refine lv_iload_n hx hb dJ7_fill_53178_11 rfl (lv_at hl 1 rfl) ?_
      refine lv_iload_n hx hb dJ7_fill_53178_12 rfl (lv_at hl 3 rfl) ?_
      refine xist (f' := fun _ => 0) F hP hD hS 0 rfl k (nI_pos (by omega)) (nI_clamp (by omega)) (by omega) (xup0 _) dJ7_fill_53178_13 (fun H locs hP hD hS => ?_)
      obtain ⟨hP, hD⟩ := cv_PD (L2 := [(h0, .inl (aC 0, 5, .inl (fun _ => 0)))]) hP hD rfl
      refine lv_iinc (v := (nI (k + 1))) (lv' := [(2, .int (nI (k + 1))), (3, .int 5), (0, .ref h0), (1, .int 0)]) hx hb dJ7_fill_53178_14 hl (k := 1) rfl (ninc 1 (by omega)) (by decide) rfl (fun ls hl => ?_)
      refine lv_goto (tgt := 5) hx hb dJ7_fill_53178_17 (by decide) ?_
      exact ih (k + 1)  _ _ _ (by omega) (hP.sub [0] rfl) (hD.sub [0] (by decide) rfl) hS (lv_sub hl [1, 0, 2, 3] rfl)
  exact hloop5 5 0  _ _ _ (by omega) hP hD hS hl

set_option maxHeartbeats 4000000 in
set_option maxRecDepth 100000 in
theorem k_fill30 (l : Launch) (g : va_G) (aC : Nat → ClassId) (aM : Nat → Nat) (h0 : Nat) (f : Nat → Int32) : Ct l g aC aM yJ7_fill_53178 cJ7_fill_53178 4 none 1 [.ref h0, .int (-1)] [(h0, .inl (aC 0, 30, .inl f))] (QV g (fun (u : Nat → Int32) => ∀ q, q < 30 → u q = (-1 : Int32)) (fun (u : Nat → Int32) => [(h0, .inl (aC 0, 30, .inl u))])) 0 0 := by
  refine Ct.mk (by decide) (Nat.le_of_ble_eq_true rfl) ?_
  intro p e s m below meth c A ls hx hb hml hown hts hr hlk hnm hK hA hM hM2 hP hD hS hl
  have hown : s.vm.findClass RJ7 = some m.cls := hown
  have F : Fx p s m _ c cJ7_fill_53178 4 RJ7 g aC aM A := ⟨hx, hb, hml, hown, hts, hK, hA, hM, hM2⟩
  have hl : lv_has ls 4 [(0, .ref h0), (1, .int (-1))] := hl
  refine lv_iconst (v := 0) hx hb dJ7_fill_53178_0 (by decide) ?_
  refine lv_istore_n (lv' := [(2, .int 0), (0, .ref h0), (1, .int (-1))]) hx hb dJ7_fill_53178_1 rfl hl (by decide) rfl (fun ls hl => ?_)
  refine lv_aload_n hx hb dJ7_fill_53178_2 rfl (lv_at hl 1 rfl) ?_
  refine xlen (v := 30) F hP 0 0 rfl rfl rfl dJ7_fill_53178_3 ?_
  refine lv_istore_n (lv' := [(3, .int 30), (2, .int 0), (0, .ref h0), (1, .int (-1))]) hx hb dJ7_fill_53178_4 rfl hl (by decide) rfl (fun ls hl => ?_)
  refine W.widen (k := 0) (n := 0) (Nat.le_of_ble_eq_true rfl) (Nat.le_of_ble_eq_true rfl) ?_
  have hloop5 : ∀ (n k : Nat) (f8 : Nat → Int32) (H : Heap) (locs : List Loc) (ls : Array Slot), k + n = 30 → (∀ q, q < k → f8 q = (-1 : Int32)) → va_P g vwCl [(h0, .inl (aC 0, 30, .inl f8))] H → va_D A [(h0, .inl (aC 0, 30, .inl f8))] → va_S A s.heap H locs → lv_has ls 4 [(3, .int 30), (2, .int (nI k)), (0, .ref h0), (1, .int (-1))] → W p l e (rmL 1 0 0) s m [.ref h0, .int (-1)].toArray below meth c H locs 0 0 (MQ below (QV g (fun (u : Nat → Int32) => ∀ q, q < 30 → u q = (-1 : Int32)) (fun (u : Nat → Int32) => [(h0, .inl (aC 0, 30, .inl u))]) A) [.ref h0, .int (-1)].toArray s 0 0 A) (F0 m 5 ls []) := by
    intro n
    induction n with
    | zero =>
      intro k f8 H locs ls hk hfl hP hD hS hl
      obtain rfl : k = 30 := by omega
      have hl : lv_has ls 4 [(3, .int 30), (2, .int 30), (0, .ref h0), (1, .int (-1))] := hl
      refine lv_iload_n hx hb dJ7_fill_53178_5 rfl (lv_at hl 1 rfl) ?_
      refine lv_iload_n hx hb dJ7_fill_53178_6 rfl (lv_at hl 0 rfl) ?_
      refine lv_icmp_ge (tgt := 20) hx hb dJ7_fill_53178_7 (by decide) (fun _ => ?_) (fun c_ => absurd (by decide +kernel) c_)
      have hP9 := hP.sub (ws' := [(h0, .inl (aC 0, 30, .inl f8))]) [0] rfl
      have hD9 := hD.sub (ws' := [(h0, .inl (aC 0, 30, .inl f8))]) [0] (by decide) rfl
      exact rV f8 hx hb hr hlk hS hfl hP9 hD9 (Nat.le_of_ble_eq_true rfl) (Nat.le_of_ble_eq_true rfl) dJ7_fill_53178_20
    | succ n ih =>
      intro k f8 H locs ls hk hfl hP hD hS hl
      have hk2 : k < 30 := by omega
      refine lv_iload_n hx hb dJ7_fill_53178_5 rfl (lv_at hl 1 rfl) ?_
      refine lv_iload_n hx hb dJ7_fill_53178_6 rfl (lv_at hl 0 rfl) ?_
      refine lv_icmp_ge (tgt := 20) hx hb dJ7_fill_53178_7 (by decide) (fun c_ => absurd c_ (show ¬ (nI 30 ≤ nI k) by rw [nI_leI (by omega) (by omega)]; omega)) (fun _ => ?_)
      refine lv_aload_n hx hb dJ7_fill_53178_10 rfl (lv_at hl 2 rfl) ?_
      refine lv_iload_n hx hb dJ7_fill_53178_11 rfl (lv_at hl 1 rfl) ?_
      refine lv_iload_n hx hb dJ7_fill_53178_12 rfl (lv_at hl 3 rfl) ?_
      refine xist (f' := upd f8 k (-1)) F hP hD hS 0 rfl k (nI_pos (by omega)) (nI_clamp (by omega)) (by omega) rfl dJ7_fill_53178_13 (fun H locs hP hD hS => ?_)
      obtain ⟨hP, hD⟩ := cv_PD (L2 := [(h0, .inl (aC 0, 30, .inl (upd f8 k (-1))))]) hP hD rfl
      refine lv_iinc (v := (nI (k + 1))) (lv' := [(2, .int (nI (k + 1))), (3, .int 30), (0, .ref h0), (1, .int (-1))]) hx hb dJ7_fill_53178_14 hl (k := 1) rfl (ninc 1 (by omega)) (by decide) rfl (fun ls hl => ?_)
      refine lv_goto (tgt := 5) hx hb dJ7_fill_53178_17 (by decide) ?_
      exact ih (k + 1) (upd f8 k (-1)) _ _ _ (by omega) (fun q h => by unfold upd; split <;> first | rfl | exact hfl q (by omega)) (hP.sub [0] rfl) (hD.sub [0] (by decide) rfl) hS (lv_sub hl [1, 0, 2, 3] rfl)
  exact hloop5 30 0 f _ _ _ (by omega) (fun q h => absurd h (Nat.not_lt_zero q)) hP hD hS hl

theorem dJ7_fill_d0a16_0 : decode cJ7_fill_d0a16 0 = .ok (.iconst 0, 1) := by decide +kernel
theorem dJ7_fill_d0a16_1 : decode cJ7_fill_d0a16 1 = .ok (.istore_n 3, 1) := by decide +kernel
theorem dJ7_fill_d0a16_2 : decode cJ7_fill_d0a16 2 = .ok (.aload_n 0, 1) := by decide +kernel
theorem dJ7_fill_d0a16_3 : decode cJ7_fill_d0a16 3 = .ok (.arraylength, 1) := by decide +kernel
theorem dJ7_fill_d0a16_4 : decode cJ7_fill_d0a16 4 = .ok (.istore 4, 2) := by decide +kernel
theorem dJ7_fill_d0a16_6 : decode cJ7_fill_d0a16 6 = .ok (.iload_n 3, 1) := by decide +kernel
theorem dJ7_fill_d0a16_7 : decode cJ7_fill_d0a16 7 = .ok (.iload 4, 2) := by decide +kernel
theorem dJ7_fill_d0a16_9 : decode cJ7_fill_d0a16 9 = .ok (.if_icmp .ge 13, 3) := by decide +kernel
theorem dJ7_fill_d0a16_12 : decode cJ7_fill_d0a16 12 = .ok (.aload_n 0, 1) := by decide +kernel
theorem dJ7_fill_d0a16_13 : decode cJ7_fill_d0a16 13 = .ok (.iload_n 3, 1) := by decide +kernel
theorem dJ7_fill_d0a16_14 : decode cJ7_fill_d0a16 14 = .ok (.lload_n 1, 1) := by decide +kernel
theorem dJ7_fill_d0a16_15 : decode cJ7_fill_d0a16 15 = .ok (.lastore, 1) := by decide +kernel
theorem dJ7_fill_d0a16_16 : decode cJ7_fill_d0a16 16 = .ok (.iinc 3 1, 3) := by decide +kernel
theorem dJ7_fill_d0a16_19 : decode cJ7_fill_d0a16 19 = .ok (.goto (-13), 3) := by decide +kernel
theorem dJ7_fill_d0a16_22 : decode cJ7_fill_d0a16 22 = .ok (.return_, 1) := by decide +kernel
set_option maxHeartbeats 4000000 in
set_option maxRecDepth 100000 in
theorem k_fill25 (l : Launch) (g : va_G) (aC : Nat → ClassId) (aM : Nat → Nat) (h0 : Nat) : Ct l g aC aM yJ7_fill_d0a16 cJ7_fill_d0a16 5 none 1 [.ref h0, .long 0] [(h0, .inl (aC 1, 25, .inr (.inl (fun _ => 0))))] (QV g (fun (_ : Unit) => True) (fun (_ : Unit) => [(h0, .inl (aC 1, 25, .inr (.inl (fun _ => 0))))])) 0 0 := by
  refine Ct.mk (by decide) (Nat.le_of_ble_eq_true rfl) ?_
  intro p e s m below meth c A ls hx hb hml hown hts hr hlk hnm hK hA hM hM2 hP hD hS hl
  have hown : s.vm.findClass RJ7 = some m.cls := hown
  have F : Fx p s m _ c cJ7_fill_d0a16 5 RJ7 g aC aM A := ⟨hx, hb, hml, hown, hts, hK, hA, hM, hM2⟩
  have hl : lv_has ls 5 [(0, .ref h0), (1, .long 0)] := hl
  refine lv_iconst (v := 0) hx hb dJ7_fill_d0a16_0 (by decide) ?_
  refine lv_istore_n (lv' := [(3, .int 0), (0, .ref h0), (1, .long 0)]) hx hb dJ7_fill_d0a16_1 rfl hl (by decide) rfl (fun ls hl => ?_)
  refine lv_aload_n hx hb dJ7_fill_d0a16_2 rfl (lv_at hl 1 rfl) ?_
  refine xlen (v := 25) F hP 0 1 rfl rfl rfl dJ7_fill_d0a16_3 ?_
  refine lv_istore (lv' := [(4, .int 25), (3, .int 0), (0, .ref h0), (1, .long 0)]) hx hb dJ7_fill_d0a16_4 hl (by decide) rfl (fun ls hl => ?_)
  refine W.widen (k := 0) (n := 0) (Nat.le_of_ble_eq_true rfl) (Nat.le_of_ble_eq_true rfl) ?_
  have hloop6 : ∀ (n k : Nat) (H : Heap) (locs : List Loc) (ls : Array Slot), k + n = 25 → va_P g vwCl [(h0, .inl (aC 1, 25, .inr (.inl (fun _ => 0))))] H → va_D A [(h0, .inl (aC 1, 25, .inr (.inl (fun _ => 0))))] → va_S A s.heap H locs → lv_has ls 5 [(4, .int 25), (3, .int (nI k)), (0, .ref h0), (1, .long 0)] → W p l e (rmL 1 0 0) s m [.ref h0, .long 0].toArray below meth c H locs 0 0 (MQ below (QV g (fun (_ : Unit) => True) (fun (_ : Unit) => [(h0, .inl (aC 1, 25, .inr (.inl (fun _ => 0))))]) A) [.ref h0, .long 0].toArray s 0 0 A) (F0 m 6 ls []) := by
    intro n
    induction n with
    | zero =>
      intro k  H locs ls hk  hP hD hS hl
      obtain rfl : k = 25 := by omega
      have hl : lv_has ls 5 [(4, .int 25), (3, .int 25), (0, .ref h0), (1, .long 0)] := hl
      refine lv_iload_n hx hb dJ7_fill_d0a16_6 rfl (lv_at hl 1 rfl) ?_
      refine lv_iload hx hb dJ7_fill_d0a16_7 (lv_at hl 0 rfl) ?_
      refine lv_icmp_ge (tgt := 22) hx hb dJ7_fill_d0a16_9 (by decide) (fun _ => ?_) (fun c_ => absurd (by decide +kernel) c_)
      have hP9 := hP.sub (ws' := [(h0, .inl (aC 1, 25, .inr (.inl (fun _ => 0))))]) [0] rfl
      have hD9 := hD.sub (ws' := [(h0, .inl (aC 1, 25, .inr (.inl (fun _ => 0))))]) [0] (by decide) rfl
      exact rV () hx hb hr hlk hS trivial hP9 hD9 (Nat.le_of_ble_eq_true rfl) (Nat.le_of_ble_eq_true rfl) dJ7_fill_d0a16_22
    | succ n ih =>
      intro k  H locs ls hk  hP hD hS hl
      have hk2 : k < 25 := by omega
      refine lv_iload_n hx hb dJ7_fill_d0a16_6 rfl (lv_at hl 1 rfl) ?_
      refine lv_iload hx hb dJ7_fill_d0a16_7 (lv_at hl 0 rfl) ?_
      refine lv_icmp_ge (tgt := 22) hx hb dJ7_fill_d0a16_9 (by decide) (fun c_ => absurd c_ (show ¬ (nI 25 ≤ nI k) by rw [nI_leI (by omega) (by omega)]; omega)) (fun _ => ?_)
      refine lv_aload_n hx hb dJ7_fill_d0a16_12 rfl (lv_at hl 2 rfl) ?_
      refine lv_iload_n hx hb dJ7_fill_d0a16_13 rfl (lv_at hl 1 rfl) ?_
      refine lv_lload_n hx hb dJ7_fill_d0a16_14 rfl (lv_at hl 3 rfl) ?_
      refine xlst (f' := fun _ => 0) F hP hD hS 0 rfl k (nI_pos (by omega)) (nI_clamp (by omega)) (by omega) (xup0L _) dJ7_fill_d0a16_15 (fun H locs hP hD hS => ?_)
      obtain ⟨hP, hD⟩ := cv_PD (L2 := [(h0, .inl (aC 1, 25, .inr (.inl (fun _ => 0))))]) hP hD rfl
      refine lv_iinc (v := (nI (k + 1))) (lv' := [(3, .int (nI (k + 1))), (4, .int 25), (0, .ref h0), (1, .long 0)]) hx hb dJ7_fill_d0a16_16 hl (k := 1) rfl (ninc 1 (by omega)) (by decide) rfl (fun ls hl => ?_)
      refine lv_goto (tgt := 6) hx hb dJ7_fill_d0a16_19 (by decide) ?_
      exact ih (k + 1)  _ _ _ (by omega) (hP.sub [0] rfl) (hD.sub [0] (by decide) rfl) hS (lv_sub hl [1, 0, 2, 3] rfl)
  exact hloop6 25 0  _ _ _ (by omega) hP hD hS hl

theorem dX7_isLetter_0 : decode cX7_isLetter 0 = .ok (.iload_n 0, 1) := by decide +kernel
theorem dX7_isLetter_1 : decode cX7_isLetter 1 = .ok (.bipush 97, 2) := by decide +kernel
theorem dX7_isLetter_3 : decode cX7_isLetter 3 = .ok (.if_icmp .lt 13, 3) := by decide +kernel
theorem dX7_isLetter_6 : decode cX7_isLetter 6 = .ok (.iload_n 0, 1) := by decide +kernel
theorem dX7_isLetter_7 : decode cX7_isLetter 7 = .ok (.bipush 122, 2) := by decide +kernel
theorem dX7_isLetter_9 : decode cX7_isLetter 9 = .ok (.if_icmp .gt 7, 3) := by decide +kernel
theorem dX7_isLetter_12 : decode cX7_isLetter 12 = .ok (.iconst 1, 1) := by decide +kernel
theorem dX7_isLetter_13 : decode cX7_isLetter 13 = .ok (.goto 4, 3) := by decide +kernel
theorem dX7_isLetter_16 : decode cX7_isLetter 16 = .ok (.iconst 0, 1) := by decide +kernel
theorem dX7_isLetter_17 : decode cX7_isLetter 17 = .ok (.ireturn, 1) := by decide +kernel
set_option maxHeartbeats 4000000 in
set_option maxRecDepth 100000 in
theorem k_isLetter (l : Launch) (g : va_G) (aC : Nat → ClassId) (aM : Nat → Nat) (n1 : Int32) : Ct l g aC aM yX7_isLetter cX7_isLetter 1 (some .boolean) 1 [.int n1] [] (QI g (fun (r : Int32) (_ : Unit) => r = (if lnD n1 = true then (1 : Int32) else 0)) (fun (_ : Unit) => [])) 0 0 := by
  refine Ct.mk (by decide) (Nat.le_of_ble_eq_true rfl) ?_
  intro p e s m below meth c A ls hx hb hml hown hts hr hlk hnm hK hA hM hM2 hP hD hS hl
  have hown : s.vm.findClass RX7 = some m.cls := hown
  have F : Fx p s m _ c cX7_isLetter 1 RX7 g aC aM A := ⟨hx, hb, hml, hown, hts, hK, hA, hM, hM2⟩
  have hl : lv_has ls 1 [(0, .int n1)] := hl
  refine lv_iload_n hx hb dX7_isLetter_0 rfl (lv_at hl 0 rfl) ?_
  refine lv_bipush (v := 97) hx hb dX7_isLetter_1 (by decide) ?_
  refine lv_icmp_lt (tgt := 16) hx hb dX7_isLetter_3 (by decide) (fun c1 => ?_) (fun c1 => ?_)
  · refine lv_iconst (v := 0) hx hb dX7_isLetter_16 (by decide) ?_
    have hP9 := hP.sub (ws' := []) [] rfl
    have hD9 := hD.sub (ws' := []) [] (by decide) rfl
    exact rI () hx hb hr hlk rfl hS (ln_i0 c1) hP9 hD9 (Nat.le_of_ble_eq_true rfl) (Nat.le_of_ble_eq_true rfl) dX7_isLetter_17
  · refine lv_iload_n hx hb dX7_isLetter_6 rfl (lv_at hl 0 rfl) ?_
    refine lv_bipush (v := 122) hx hb dX7_isLetter_7 (by decide) ?_
    refine lv_icmp_gt (tgt := 16) hx hb dX7_isLetter_9 (by decide) (fun c2 => ?_) (fun c2 => ?_)
    · refine lv_iconst (v := 0) hx hb dX7_isLetter_16 (by decide) ?_
      have hP9 := hP.sub (ws' := []) [] rfl
      have hD9 := hD.sub (ws' := []) [] (by decide) rfl
      exact rI () hx hb hr hlk rfl hS (ln_i1 c2) hP9 hD9 (Nat.le_of_ble_eq_true rfl) (Nat.le_of_ble_eq_true rfl) dX7_isLetter_17
    · refine lv_iconst (v := 1) hx hb dX7_isLetter_12 (by decide) ?_
      refine lv_goto (tgt := 17) hx hb dX7_isLetter_13 (by decide) ?_
      have hP9 := hP.sub (ws' := []) [] rfl
      have hD9 := hD.sub (ws' := []) [] (by decide) rfl
      exact rI () hx hb hr hlk rfl hS (ln_i2 c1 c2) hP9 hD9 (Nat.le_of_ble_eq_true rfl) (Nat.le_of_ble_eq_true rfl) dX7_isLetter_17

theorem dX7_withLetter_0 : decode cX7_withLetter 0 = .ok (.lload_n 0, 1) := by decide +kernel
theorem dX7_withLetter_1 : decode cX7_withLetter 1 = .ok (.iconst 5, 1) := by decide +kernel
theorem dX7_withLetter_2 : decode cX7_withLetter 2 = .ok (.lshl, 1) := by decide +kernel
theorem dX7_withLetter_3 : decode cX7_withLetter 3 = .ok (.iload_n 2, 1) := by decide +kernel
theorem dX7_withLetter_4 : decode cX7_withLetter 4 = .ok (.bipush 97, 2) := by decide +kernel
theorem dX7_withLetter_6 : decode cX7_withLetter 6 = .ok (.isub, 1) := by decide +kernel
theorem dX7_withLetter_7 : decode cX7_withLetter 7 = .ok (.iconst 1, 1) := by decide +kernel
theorem dX7_withLetter_8 : decode cX7_withLetter 8 = .ok (.iadd, 1) := by decide +kernel
theorem dX7_withLetter_9 : decode cX7_withLetter 9 = .ok (.i2l, 1) := by decide +kernel
theorem dX7_withLetter_10 : decode cX7_withLetter 10 = .ok (.lor, 1) := by decide +kernel
theorem dX7_withLetter_11 : decode cX7_withLetter 11 = .ok (.lreturn, 1) := by decide +kernel
set_option maxHeartbeats 4000000 in
set_option maxRecDepth 100000 in
theorem k_withLetter (l : Launch) (g : va_G) (aC : Nat → ClassId) (aM : Nat → Nat) (m1 : Int64) (n1 : Int32) : Ct l g aC aM yX7_withLetter cX7_withLetter 3 (some .long) 1 [.long m1, .int n1] [] (QL g (fun (r : Int64) (_ : Unit) => r = lnW m1 n1) (fun (_ : Unit) => [])) 0 0 := by
  refine Ct.mk (by decide) (Nat.le_of_ble_eq_true rfl) ?_
  intro p e s m below meth c A ls hx hb hml hown hts hr hlk hnm hK hA hM hM2 hP hD hS hl
  have hown : s.vm.findClass RX7 = some m.cls := hown
  have F : Fx p s m _ c cX7_withLetter 3 RX7 g aC aM A := ⟨hx, hb, hml, hown, hts, hK, hA, hM, hM2⟩
  have hl : lv_has ls 3 [(0, .long m1), (2, .int n1)] := hl
  refine lv_lload_n hx hb dX7_withLetter_0 rfl (lv_at hl 0 rfl) ?_
  refine lv_iconst (v := 5) hx hb dX7_withLetter_1 (by decide) ?_
  refine lv_lshl hx hb dX7_withLetter_2 rfl ?_
  refine lv_iload_n hx hb dX7_withLetter_3 rfl (lv_at hl 1 rfl) ?_
  refine lv_bipush (v := 97) hx hb dX7_withLetter_4 (by decide) ?_
  refine lv_isub hx hb dX7_withLetter_6 ?_
  refine lv_iconst (v := 1) hx hb dX7_withLetter_7 (by decide) ?_
  refine lv_iadd hx hb dX7_withLetter_8 ?_
  refine lv_i2l (v := (((n1 - 97) + 1).toInt64)) hx hb dX7_withLetter_9 rfl ?_
  refine lv_lor hx hb dX7_withLetter_10 ?_
  have hP9 := hP.sub (ws' := []) [] rfl
  have hD9 := hD.sub (ws' := []) [] (by decide) rfl
  exact rL () hx hb hr hlk hS rfl hP9 hD9 (Nat.le_of_ble_eq_true rfl) (Nat.le_of_ble_eq_true rfl) dX7_withLetter_11

