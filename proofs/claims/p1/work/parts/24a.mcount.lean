theorem tb1509 : (Jvm.Cond.methodLink "StairGangModel" (313 : Nat) ({ cls := "StairGangModel", name := "within", desc := "(III)Z" } : Jvm.MethodName)) ∈ gw := lw_m 1509 (by decide +kernel)
theorem tb1510 : (Jvm.Cond.static ({ cls := "StairGangModel", name := "within", desc := "(III)Z" } : Jvm.MethodName)) ∈ gw := lw_m 1510 (by decide +kernel)
theorem tb1511 : (Jvm.Cond.code ({ cls := "StairGangModel", name := "within", desc := "(III)Z" } : Jvm.MethodName) prog_13_method_3_code (3 : Nat) (Option.some Jvm.ClassFile.FieldType.boolean)) ∈ gw := lw_m 1511 (by decide +kernel)
theorem dX11_count_0 : decode cX11_count 0 = .ok (.aload_n 0, 1) := by decide +kernel
theorem dX11_count_1 : decode cX11_count 1 = .ok (.iconst 0, 1) := by decide +kernel
theorem dX11_count_2 : decode cX11_count 2 = .ok (.putfield 180, 3) := by decide +kernel
theorem dX11_count_5 : decode cX11_count 5 = .ok (.iload_n 1, 1) := by decide +kernel
theorem dX11_count_6 : decode cX11_count 6 = .ok (.iconst 0, 1) := by decide +kernel
theorem dX11_count_7 : decode cX11_count 7 = .ok (.bipush 12, 2) := by decide +kernel
theorem dX11_count_9 : decode cX11_count 9 = .ok (.invokestatic 313, 3) := by decide +kernel
theorem dX11_count_12 : decode cX11_count 12 = .ok (.ifCond .ne 5, 3) := by decide +kernel
theorem dX11_count_15 : decode cX11_count 15 = .ok (.iconst (-1), 1) := by decide +kernel
theorem dX11_count_16 : decode cX11_count 16 = .ok (.ireturn, 1) := by decide +kernel
set_option maxHeartbeats 4000000 in
set_option maxRecDepth 100000 in
theorem a_X11_within_4 (l : Launch) (g : va_G) (aC : Nat → ClassId) (aM : Nat → Nat)  : Ct l g aC aM yX11_within cX11_within 3 (some .boolean) 1 [.int 0, .int 0, .int 12] [] (QI g (fun (r : Int32) (_ : Unit) => r = 1) (fun (_ : Unit) => [])) 0 0 := by
  refine Ct.mk (by decide) (Nat.le_of_ble_eq_true rfl) ?_
  intro p e s m below meth c A ls hx hb hml hown hts hr hlk hnm hK hA hM hM2 hP hD hS hl
  have hown : s.vm.findClass RX11 = some m.cls := hown
  have F : Fx p s m _ c cX11_within 3 RX11 g aC aM A := ⟨hx, hb, hml, hown, hts, hK, hA, hM, hM2⟩
  have hl : lv_has ls 3 [(0, .int 0), (1, .int 0), (2, .int 12)] := hl
  refine lv_iload_n hx hb dX11_within_0 rfl (lv_at hl 0 rfl) ?_
  refine lv_iload_n hx hb dX11_within_1 rfl (lv_at hl 1 rfl) ?_
  refine lv_icmp_lt (tgt := 14) hx hb dX11_within_2 (by decide) (fun c_ => absurd c_ (by decide +kernel)) (fun _ => ?_)
  refine lv_iload_n hx hb dX11_within_5 rfl (lv_at hl 0 rfl) ?_
  refine lv_iload_n hx hb dX11_within_6 rfl (lv_at hl 2 rfl) ?_
  refine lv_icmp_gt (tgt := 14) hx hb dX11_within_7 (by decide) (fun c_ => absurd c_ (by decide +kernel)) (fun _ => ?_)
  refine lv_iconst (v := 1) hx hb dX11_within_10 (by decide) ?_
  refine lv_goto (tgt := 15) hx hb dX11_within_11 (by decide) ?_
  have hP9 := hP.sub (ws' := []) [] rfl
  have hD9 := hD.sub (ws' := []) [] (by decide) rfl
  exact rI () hx hb hr hlk rfl hS rfl hP9 hD9 (Nat.le_of_ble_eq_true rfl) (Nat.le_of_ble_eq_true rfl) dX11_within_15

theorem dX11_count_17 : decode cX11_count 17 = .ok (.iload_n 1, 1) := by decide +kernel
theorem dX11_count_18 : decode cX11_count 18 = .ok (.iconst 5, 1) := by decide +kernel
theorem dX11_count_19 : decode cX11_count 19 = .ok (.if_icmp .ge 10, 3) := by decide +kernel
theorem dX11_count_22 : decode cX11_count 22 = .ok (.aload_n 0, 1) := by decide +kernel
theorem dX11_count_23 : decode cX11_count 23 = .ok (.getfield 13, 3) := by decide +kernel
theorem dX11_count_26 : decode cX11_count 26 = .ok (.iload_n 1, 1) := by decide +kernel
theorem dX11_count_27 : decode cX11_count 27 = .ok (.iaload, 1) := by decide +kernel
theorem dX11_count_28 : decode cX11_count 28 = .ok (.ireturn, 1) := by decide +kernel
set_option maxHeartbeats 4000000 in
set_option maxRecDepth 100000 in
theorem a_X11_within_5 (l : Launch) (g : va_G) (aC : Nat → ClassId) (aM : Nat → Nat)  : Ct l g aC aM yX11_within cX11_within 3 (some .boolean) 1 [.int 1, .int 0, .int 12] [] (QI g (fun (r : Int32) (_ : Unit) => r = 1) (fun (_ : Unit) => [])) 0 0 := by
  refine Ct.mk (by decide) (Nat.le_of_ble_eq_true rfl) ?_
  intro p e s m below meth c A ls hx hb hml hown hts hr hlk hnm hK hA hM hM2 hP hD hS hl
  have hown : s.vm.findClass RX11 = some m.cls := hown
  have F : Fx p s m _ c cX11_within 3 RX11 g aC aM A := ⟨hx, hb, hml, hown, hts, hK, hA, hM, hM2⟩
  have hl : lv_has ls 3 [(0, .int 1), (1, .int 0), (2, .int 12)] := hl
  refine lv_iload_n hx hb dX11_within_0 rfl (lv_at hl 0 rfl) ?_
  refine lv_iload_n hx hb dX11_within_1 rfl (lv_at hl 1 rfl) ?_
  refine lv_icmp_lt (tgt := 14) hx hb dX11_within_2 (by decide) (fun c_ => absurd c_ (by decide +kernel)) (fun _ => ?_)
  refine lv_iload_n hx hb dX11_within_5 rfl (lv_at hl 0 rfl) ?_
  refine lv_iload_n hx hb dX11_within_6 rfl (lv_at hl 2 rfl) ?_
  refine lv_icmp_gt (tgt := 14) hx hb dX11_within_7 (by decide) (fun c_ => absurd c_ (by decide +kernel)) (fun _ => ?_)
  refine lv_iconst (v := 1) hx hb dX11_within_10 (by decide) ?_
  refine lv_goto (tgt := 15) hx hb dX11_within_11 (by decide) ?_
  have hP9 := hP.sub (ws' := []) [] rfl
  have hD9 := hD.sub (ws' := []) [] (by decide) rfl
  exact rI () hx hb hr hlk rfl hS rfl hP9 hD9 (Nat.le_of_ble_eq_true rfl) (Nat.le_of_ble_eq_true rfl) dX11_within_15

set_option maxHeartbeats 4000000 in
set_option maxRecDepth 100000 in
theorem a_X11_within_6 (l : Launch) (g : va_G) (aC : Nat → ClassId) (aM : Nat → Nat)  : Ct l g aC aM yX11_within cX11_within 3 (some .boolean) 1 [.int 2, .int 0, .int 12] [] (QI g (fun (r : Int32) (_ : Unit) => r = 1) (fun (_ : Unit) => [])) 0 0 := by
  refine Ct.mk (by decide) (Nat.le_of_ble_eq_true rfl) ?_
  intro p e s m below meth c A ls hx hb hml hown hts hr hlk hnm hK hA hM hM2 hP hD hS hl
  have hown : s.vm.findClass RX11 = some m.cls := hown
  have F : Fx p s m _ c cX11_within 3 RX11 g aC aM A := ⟨hx, hb, hml, hown, hts, hK, hA, hM, hM2⟩
  have hl : lv_has ls 3 [(0, .int 2), (1, .int 0), (2, .int 12)] := hl
  refine lv_iload_n hx hb dX11_within_0 rfl (lv_at hl 0 rfl) ?_
  refine lv_iload_n hx hb dX11_within_1 rfl (lv_at hl 1 rfl) ?_
  refine lv_icmp_lt (tgt := 14) hx hb dX11_within_2 (by decide) (fun c_ => absurd c_ (by decide +kernel)) (fun _ => ?_)
  refine lv_iload_n hx hb dX11_within_5 rfl (lv_at hl 0 rfl) ?_
  refine lv_iload_n hx hb dX11_within_6 rfl (lv_at hl 2 rfl) ?_
  refine lv_icmp_gt (tgt := 14) hx hb dX11_within_7 (by decide) (fun c_ => absurd c_ (by decide +kernel)) (fun _ => ?_)
  refine lv_iconst (v := 1) hx hb dX11_within_10 (by decide) ?_
  refine lv_goto (tgt := 15) hx hb dX11_within_11 (by decide) ?_
  have hP9 := hP.sub (ws' := []) [] rfl
  have hD9 := hD.sub (ws' := []) [] (by decide) rfl
  exact rI () hx hb hr hlk rfl hS rfl hP9 hD9 (Nat.le_of_ble_eq_true rfl) (Nat.le_of_ble_eq_true rfl) dX11_within_15

set_option maxHeartbeats 4000000 in
set_option maxRecDepth 100000 in
theorem a_X11_within_7 (l : Launch) (g : va_G) (aC : Nat → ClassId) (aM : Nat → Nat)  : Ct l g aC aM yX11_within cX11_within 3 (some .boolean) 1 [.int 3, .int 0, .int 12] [] (QI g (fun (r : Int32) (_ : Unit) => r = 1) (fun (_ : Unit) => [])) 0 0 := by
  refine Ct.mk (by decide) (Nat.le_of_ble_eq_true rfl) ?_
  intro p e s m below meth c A ls hx hb hml hown hts hr hlk hnm hK hA hM hM2 hP hD hS hl
  have hown : s.vm.findClass RX11 = some m.cls := hown
  have F : Fx p s m _ c cX11_within 3 RX11 g aC aM A := ⟨hx, hb, hml, hown, hts, hK, hA, hM, hM2⟩
  have hl : lv_has ls 3 [(0, .int 3), (1, .int 0), (2, .int 12)] := hl
  refine lv_iload_n hx hb dX11_within_0 rfl (lv_at hl 0 rfl) ?_
  refine lv_iload_n hx hb dX11_within_1 rfl (lv_at hl 1 rfl) ?_
  refine lv_icmp_lt (tgt := 14) hx hb dX11_within_2 (by decide) (fun c_ => absurd c_ (by decide +kernel)) (fun _ => ?_)
  refine lv_iload_n hx hb dX11_within_5 rfl (lv_at hl 0 rfl) ?_
  refine lv_iload_n hx hb dX11_within_6 rfl (lv_at hl 2 rfl) ?_
  refine lv_icmp_gt (tgt := 14) hx hb dX11_within_7 (by decide) (fun c_ => absurd c_ (by decide +kernel)) (fun _ => ?_)
  refine lv_iconst (v := 1) hx hb dX11_within_10 (by decide) ?_
  refine lv_goto (tgt := 15) hx hb dX11_within_11 (by decide) ?_
  have hP9 := hP.sub (ws' := []) [] rfl
  have hD9 := hD.sub (ws' := []) [] (by decide) rfl
  exact rI () hx hb hr hlk rfl hS rfl hP9 hD9 (Nat.le_of_ble_eq_true rfl) (Nat.le_of_ble_eq_true rfl) dX11_within_15

set_option maxHeartbeats 4000000 in
set_option maxRecDepth 100000 in
theorem a_X11_within_8 (l : Launch) (g : va_G) (aC : Nat → ClassId) (aM : Nat → Nat)  : Ct l g aC aM yX11_within cX11_within 3 (some .boolean) 1 [.int 4, .int 0, .int 12] [] (QI g (fun (r : Int32) (_ : Unit) => r = 1) (fun (_ : Unit) => [])) 0 0 := by
  refine Ct.mk (by decide) (Nat.le_of_ble_eq_true rfl) ?_
  intro p e s m below meth c A ls hx hb hml hown hts hr hlk hnm hK hA hM hM2 hP hD hS hl
  have hown : s.vm.findClass RX11 = some m.cls := hown
  have F : Fx p s m _ c cX11_within 3 RX11 g aC aM A := ⟨hx, hb, hml, hown, hts, hK, hA, hM, hM2⟩
  have hl : lv_has ls 3 [(0, .int 4), (1, .int 0), (2, .int 12)] := hl
  refine lv_iload_n hx hb dX11_within_0 rfl (lv_at hl 0 rfl) ?_
  refine lv_iload_n hx hb dX11_within_1 rfl (lv_at hl 1 rfl) ?_
  refine lv_icmp_lt (tgt := 14) hx hb dX11_within_2 (by decide) (fun c_ => absurd c_ (by decide +kernel)) (fun _ => ?_)
  refine lv_iload_n hx hb dX11_within_5 rfl (lv_at hl 0 rfl) ?_
  refine lv_iload_n hx hb dX11_within_6 rfl (lv_at hl 2 rfl) ?_
  refine lv_icmp_gt (tgt := 14) hx hb dX11_within_7 (by decide) (fun c_ => absurd c_ (by decide +kernel)) (fun _ => ?_)
  refine lv_iconst (v := 1) hx hb dX11_within_10 (by decide) ?_
  refine lv_goto (tgt := 15) hx hb dX11_within_11 (by decide) ?_
  have hP9 := hP.sub (ws' := []) [] rfl
  have hD9 := hD.sub (ws' := []) [] (by decide) rfl
  exact rI () hx hb hr hlk rfl hS rfl hP9 hD9 (Nat.le_of_ble_eq_true rfl) (Nat.le_of_ble_eq_true rfl) dX11_within_15

set_option maxHeartbeats 4000000 in
set_option maxRecDepth 100000 in
theorem a_X11_within_9 (l : Launch) (g : va_G) (aC : Nat → ClassId) (aM : Nat → Nat)  : Ct l g aC aM yX11_within cX11_within 3 (some .boolean) 1 [.int 5, .int 0, .int 12] [] (QI g (fun (r : Int32) (_ : Unit) => r = 1) (fun (_ : Unit) => [])) 0 0 := by
  refine Ct.mk (by decide) (Nat.le_of_ble_eq_true rfl) ?_
  intro p e s m below meth c A ls hx hb hml hown hts hr hlk hnm hK hA hM hM2 hP hD hS hl
  have hown : s.vm.findClass RX11 = some m.cls := hown
  have F : Fx p s m _ c cX11_within 3 RX11 g aC aM A := ⟨hx, hb, hml, hown, hts, hK, hA, hM, hM2⟩
  have hl : lv_has ls 3 [(0, .int 5), (1, .int 0), (2, .int 12)] := hl
  refine lv_iload_n hx hb dX11_within_0 rfl (lv_at hl 0 rfl) ?_
  refine lv_iload_n hx hb dX11_within_1 rfl (lv_at hl 1 rfl) ?_
  refine lv_icmp_lt (tgt := 14) hx hb dX11_within_2 (by decide) (fun c_ => absurd c_ (by decide +kernel)) (fun _ => ?_)
  refine lv_iload_n hx hb dX11_within_5 rfl (lv_at hl 0 rfl) ?_
  refine lv_iload_n hx hb dX11_within_6 rfl (lv_at hl 2 rfl) ?_
  refine lv_icmp_gt (tgt := 14) hx hb dX11_within_7 (by decide) (fun c_ => absurd c_ (by decide +kernel)) (fun _ => ?_)
  refine lv_iconst (v := 1) hx hb dX11_within_10 (by decide) ?_
  refine lv_goto (tgt := 15) hx hb dX11_within_11 (by decide) ?_
  have hP9 := hP.sub (ws' := []) [] rfl
  have hD9 := hD.sub (ws' := []) [] (by decide) rfl
  exact rI () hx hb hr hlk rfl hS rfl hP9 hD9 (Nat.le_of_ble_eq_true rfl) (Nat.le_of_ble_eq_true rfl) dX11_within_15

theorem dX11_count_29 : decode cX11_count 29 = .ok (.iload_n 1, 1) := by decide +kernel
theorem dX11_count_30 : decode cX11_count 30 = .ok (.bipush 8, 2) := by decide +kernel
theorem dX11_count_32 : decode cX11_count 32 = .ok (.if_icmp .ge 32, 3) := by decide +kernel
theorem dX11_count_35 : decode cX11_count 35 = .ok (.aload_n 0, 1) := by decide +kernel
theorem dX11_count_36 : decode cX11_count 36 = .ok (.getfield 141, 3) := by decide +kernel
theorem dX11_count_39 : decode cX11_count 39 = .ok (.iload_n 1, 1) := by decide +kernel
theorem dX11_count_40 : decode cX11_count 40 = .ok (.iconst 5, 1) := by decide +kernel
theorem dX11_count_41 : decode cX11_count 41 = .ok (.if_icmp .ne 8, 3) := by decide +kernel
theorem dX11_count_44 : decode cX11_count 44 = .ok (.bipush 10, 2) := by decide +kernel
theorem dX11_count_46 : decode cX11_count 46 = .ok (.goto 16, 3) := by decide +kernel
theorem dX11_count_62 : decode cX11_count 62 = .ok (.iaload, 1) := by decide +kernel
theorem dX11_count_63 : decode cX11_count 63 = .ok (.ireturn, 1) := by decide +kernel
set_option maxHeartbeats 4000000 in
set_option maxRecDepth 100000 in
theorem a_X11_within_10 (l : Launch) (g : va_G) (aC : Nat → ClassId) (aM : Nat → Nat)  : Ct l g aC aM yX11_within cX11_within 3 (some .boolean) 1 [.int 6, .int 0, .int 12] [] (QI g (fun (r : Int32) (_ : Unit) => r = 1) (fun (_ : Unit) => [])) 0 0 := by
  refine Ct.mk (by decide) (Nat.le_of_ble_eq_true rfl) ?_
  intro p e s m below meth c A ls hx hb hml hown hts hr hlk hnm hK hA hM hM2 hP hD hS hl
  have hown : s.vm.findClass RX11 = some m.cls := hown
  have F : Fx p s m _ c cX11_within 3 RX11 g aC aM A := ⟨hx, hb, hml, hown, hts, hK, hA, hM, hM2⟩
  have hl : lv_has ls 3 [(0, .int 6), (1, .int 0), (2, .int 12)] := hl
  refine lv_iload_n hx hb dX11_within_0 rfl (lv_at hl 0 rfl) ?_
  refine lv_iload_n hx hb dX11_within_1 rfl (lv_at hl 1 rfl) ?_
  refine lv_icmp_lt (tgt := 14) hx hb dX11_within_2 (by decide) (fun c_ => absurd c_ (by decide +kernel)) (fun _ => ?_)
  refine lv_iload_n hx hb dX11_within_5 rfl (lv_at hl 0 rfl) ?_
  refine lv_iload_n hx hb dX11_within_6 rfl (lv_at hl 2 rfl) ?_
  refine lv_icmp_gt (tgt := 14) hx hb dX11_within_7 (by decide) (fun c_ => absurd c_ (by decide +kernel)) (fun _ => ?_)
  refine lv_iconst (v := 1) hx hb dX11_within_10 (by decide) ?_
  refine lv_goto (tgt := 15) hx hb dX11_within_11 (by decide) ?_
  have hP9 := hP.sub (ws' := []) [] rfl
  have hD9 := hD.sub (ws' := []) [] (by decide) rfl
  exact rI () hx hb hr hlk rfl hS rfl hP9 hD9 (Nat.le_of_ble_eq_true rfl) (Nat.le_of_ble_eq_true rfl) dX11_within_15

theorem dX11_count_49 : decode cX11_count 49 = .ok (.iload_n 1, 1) := by decide +kernel
theorem dX11_count_50 : decode cX11_count 50 = .ok (.bipush 6, 2) := by decide +kernel
theorem dX11_count_52 : decode cX11_count 52 = .ok (.if_icmp .ne 8, 3) := by decide +kernel
theorem dX11_count_55 : decode cX11_count 55 = .ok (.bipush 11, 2) := by decide +kernel
theorem dX11_count_57 : decode cX11_count 57 = .ok (.goto 5, 3) := by decide +kernel
set_option maxHeartbeats 4000000 in
set_option maxRecDepth 100000 in
theorem a_X11_within_11 (l : Launch) (g : va_G) (aC : Nat → ClassId) (aM : Nat → Nat)  : Ct l g aC aM yX11_within cX11_within 3 (some .boolean) 1 [.int 7, .int 0, .int 12] [] (QI g (fun (r : Int32) (_ : Unit) => r = 1) (fun (_ : Unit) => [])) 0 0 := by
  refine Ct.mk (by decide) (Nat.le_of_ble_eq_true rfl) ?_
  intro p e s m below meth c A ls hx hb hml hown hts hr hlk hnm hK hA hM hM2 hP hD hS hl
  have hown : s.vm.findClass RX11 = some m.cls := hown
  have F : Fx p s m _ c cX11_within 3 RX11 g aC aM A := ⟨hx, hb, hml, hown, hts, hK, hA, hM, hM2⟩
  have hl : lv_has ls 3 [(0, .int 7), (1, .int 0), (2, .int 12)] := hl
  refine lv_iload_n hx hb dX11_within_0 rfl (lv_at hl 0 rfl) ?_
  refine lv_iload_n hx hb dX11_within_1 rfl (lv_at hl 1 rfl) ?_
  refine lv_icmp_lt (tgt := 14) hx hb dX11_within_2 (by decide) (fun c_ => absurd c_ (by decide +kernel)) (fun _ => ?_)
  refine lv_iload_n hx hb dX11_within_5 rfl (lv_at hl 0 rfl) ?_
  refine lv_iload_n hx hb dX11_within_6 rfl (lv_at hl 2 rfl) ?_
  refine lv_icmp_gt (tgt := 14) hx hb dX11_within_7 (by decide) (fun c_ => absurd c_ (by decide +kernel)) (fun _ => ?_)
  refine lv_iconst (v := 1) hx hb dX11_within_10 (by decide) ?_
  refine lv_goto (tgt := 15) hx hb dX11_within_11 (by decide) ?_
  have hP9 := hP.sub (ws' := []) [] rfl
  have hD9 := hD.sub (ws' := []) [] (by decide) rfl
  exact rI () hx hb hr hlk rfl hS rfl hP9 hD9 (Nat.le_of_ble_eq_true rfl) (Nat.le_of_ble_eq_true rfl) dX11_within_15

theorem dX11_count_60 : decode cX11_count 60 = .ok (.bipush 12, 2) := by decide +kernel
set_option maxHeartbeats 4000000 in
set_option maxRecDepth 100000 in
theorem a_X11_within_12 (l : Launch) (g : va_G) (aC : Nat → ClassId) (aM : Nat → Nat)  : Ct l g aC aM yX11_within cX11_within 3 (some .boolean) 1 [.int 8, .int 0, .int 12] [] (QI g (fun (r : Int32) (_ : Unit) => r = 1) (fun (_ : Unit) => [])) 0 0 := by
  refine Ct.mk (by decide) (Nat.le_of_ble_eq_true rfl) ?_
  intro p e s m below meth c A ls hx hb hml hown hts hr hlk hnm hK hA hM hM2 hP hD hS hl
  have hown : s.vm.findClass RX11 = some m.cls := hown
  have F : Fx p s m _ c cX11_within 3 RX11 g aC aM A := ⟨hx, hb, hml, hown, hts, hK, hA, hM, hM2⟩
  have hl : lv_has ls 3 [(0, .int 8), (1, .int 0), (2, .int 12)] := hl
  refine lv_iload_n hx hb dX11_within_0 rfl (lv_at hl 0 rfl) ?_
  refine lv_iload_n hx hb dX11_within_1 rfl (lv_at hl 1 rfl) ?_
  refine lv_icmp_lt (tgt := 14) hx hb dX11_within_2 (by decide) (fun c_ => absurd c_ (by decide +kernel)) (fun _ => ?_)
  refine lv_iload_n hx hb dX11_within_5 rfl (lv_at hl 0 rfl) ?_
  refine lv_iload_n hx hb dX11_within_6 rfl (lv_at hl 2 rfl) ?_
  refine lv_icmp_gt (tgt := 14) hx hb dX11_within_7 (by decide) (fun c_ => absurd c_ (by decide +kernel)) (fun _ => ?_)
  refine lv_iconst (v := 1) hx hb dX11_within_10 (by decide) ?_
  refine lv_goto (tgt := 15) hx hb dX11_within_11 (by decide) ?_
  have hP9 := hP.sub (ws' := []) [] rfl
  have hD9 := hD.sub (ws' := []) [] (by decide) rfl
  exact rI () hx hb hr hlk rfl hS rfl hP9 hD9 (Nat.le_of_ble_eq_true rfl) (Nat.le_of_ble_eq_true rfl) dX11_within_15

theorem dX11_bits_0 : decode cX11_bits 0 = .ok (.iconst 0, 1) := by decide +kernel
theorem dX11_bits_1 : decode cX11_bits 1 = .ok (.istore_n 1, 1) := by decide +kernel
theorem dX11_bits_2 : decode cX11_bits 2 = .ok (.iconst 0, 1) := by decide +kernel
theorem dX11_bits_3 : decode cX11_bits 3 = .ok (.istore_n 2, 1) := by decide +kernel
theorem dX11_bits_4 : decode cX11_bits 4 = .ok (.iload_n 2, 1) := by decide +kernel
theorem dX11_bits_5 : decode cX11_bits 5 = .ok (.bipush 10, 2) := by decide +kernel
theorem dX11_bits_7 : decode cX11_bits 7 = .ok (.if_icmp .ge 17, 3) := by decide +kernel
theorem dX11_bits_10 : decode cX11_bits 10 = .ok (.iload_n 1, 1) := by decide +kernel
theorem dX11_bits_11 : decode cX11_bits 11 = .ok (.iload_n 0, 1) := by decide +kernel
theorem dX11_bits_12 : decode cX11_bits 12 = .ok (.iload_n 2, 1) := by decide +kernel
theorem dX11_bits_13 : decode cX11_bits 13 = .ok (.ishr, 1) := by decide +kernel
theorem dX11_bits_14 : decode cX11_bits 14 = .ok (.iconst 1, 1) := by decide +kernel
theorem dX11_bits_15 : decode cX11_bits 15 = .ok (.iand, 1) := by decide +kernel
theorem dX11_bits_16 : decode cX11_bits 16 = .ok (.iadd, 1) := by decide +kernel
theorem dX11_bits_17 : decode cX11_bits 17 = .ok (.istore_n 1, 1) := by decide +kernel
theorem dX11_bits_18 : decode cX11_bits 18 = .ok (.iinc 2 1, 3) := by decide +kernel
theorem dX11_bits_21 : decode cX11_bits 21 = .ok (.goto (-17), 3) := by decide +kernel
theorem dX11_bits_24 : decode cX11_bits 24 = .ok (.iload_n 1, 1) := by decide +kernel
theorem dX11_bits_25 : decode cX11_bits 25 = .ok (.ireturn, 1) := by decide +kernel
theorem dX11_count_64 : decode cX11_count 64 = .ok (.iload_n 1, 1) := by decide +kernel
theorem dX11_count_65 : decode cX11_count 65 = .ok (.bipush 10, 2) := by decide +kernel
theorem dX11_count_67 : decode cX11_count 67 = .ok (.if_icmp .ge 28, 3) := by decide +kernel
theorem dX11_count_70 : decode cX11_count 70 = .ok (.iload_n 1, 1) := by decide +kernel
theorem dX11_count_71 : decode cX11_count 71 = .ok (.bipush 8, 2) := by decide +kernel
theorem dX11_count_73 : decode cX11_count 73 = .ok (.if_icmp .ne 15, 3) := by decide +kernel
theorem dX11_count_76 : decode cX11_count 76 = .ok (.aload_n 0, 1) := by decide +kernel
theorem dX11_count_77 : decode cX11_count 77 = .ok (.getfield 141, 3) := by decide +kernel
theorem dX11_count_80 : decode cX11_count 80 = .ok (.iconst 0, 1) := by decide +kernel
theorem dX11_count_81 : decode cX11_count 81 = .ok (.iaload, 1) := by decide +kernel
theorem dX11_count_82 : decode cX11_count 82 = .ok (.invokestatic 471, 3) := by decide +kernel
set_option maxHeartbeats 4000000 in
set_option maxRecDepth 100000 in
theorem a_X11_bits_1 (l : Launch) (g : va_G) (aC : Nat → ClassId) (aM : Nat → Nat)  : Ct l g aC aM yX11_bits cX11_bits 3 (some .int) 1 [.int 0] [] (QI g (fun (r : Int32) (_ : Unit) => r = 0) (fun (_ : Unit) => [])) 0 0 := by
  refine Ct.mk (by decide) (Nat.le_of_ble_eq_true rfl) ?_
  intro p e s m below meth c A ls hx hb hml hown hts hr hlk hnm hK hA hM hM2 hP hD hS hl
  have hown : s.vm.findClass RX11 = some m.cls := hown
  have F : Fx p s m _ c cX11_bits 3 RX11 g aC aM A := ⟨hx, hb, hml, hown, hts, hK, hA, hM, hM2⟩
  have hl : lv_has ls 3 [(0, .int 0)] := hl
  refine lv_iconst (v := 0) hx hb dX11_bits_0 (by decide) ?_
  refine lv_istore_n (lv' := [(1, .int 0), (0, .int 0)]) hx hb dX11_bits_1 rfl hl (by decide) rfl (fun ls hl => ?_)
  refine lv_iconst (v := 0) hx hb dX11_bits_2 (by decide) ?_
  refine lv_istore_n (lv' := [(2, .int 0), (1, .int 0), (0, .int 0)]) hx hb dX11_bits_3 rfl hl (by decide) rfl (fun ls hl => ?_)
  refine lv_iload_n hx hb dX11_bits_4 rfl (lv_at hl 0 rfl) ?_
  refine lv_bipush (v := 10) hx hb dX11_bits_5 (by decide) ?_
  refine lv_icmp_ge (tgt := 24) hx hb dX11_bits_7 (by decide) (fun c_ => absurd c_ (by decide +kernel)) (fun _ => ?_)
  refine lv_iload_n hx hb dX11_bits_10 rfl (lv_at hl 1 rfl) ?_
  refine lv_iload_n hx hb dX11_bits_11 rfl (lv_at hl 2 rfl) ?_
  refine lv_iload_n hx hb dX11_bits_12 rfl (lv_at hl 0 rfl) ?_
  refine lv_ishr hx hb dX11_bits_13 ?_
  refine relit (v := 0) (by decide +kernel) ?_
  refine lv_iconst (v := 1) hx hb dX11_bits_14 (by decide) ?_
  refine lv_iand hx hb dX11_bits_15 ?_
  refine relit (v := 0) (by decide +kernel) ?_
  refine lv_iadd hx hb dX11_bits_16 ?_
  refine relit (v := 0) (by decide +kernel) ?_
  refine lv_istore_n (lv' := [(1, .int 0), (2, .int 0), (0, .int 0)]) hx hb dX11_bits_17 rfl hl (by decide) rfl (fun ls hl => ?_)
  refine lv_iinc (v := 1) (lv' := [(2, .int 1), (1, .int 0), (0, .int 0)]) hx hb dX11_bits_18 hl (k := 1) rfl (by decide +kernel) (by decide) rfl (fun ls hl => ?_)
  refine lv_goto (tgt := 4) hx hb dX11_bits_21 (by decide) ?_
  refine lv_iload_n hx hb dX11_bits_4 rfl (lv_at hl 0 rfl) ?_
  refine lv_bipush (v := 10) hx hb dX11_bits_5 (by decide) ?_
  refine lv_icmp_ge (tgt := 24) hx hb dX11_bits_7 (by decide) (fun c_ => absurd c_ (by decide +kernel)) (fun _ => ?_)
  refine lv_iload_n hx hb dX11_bits_10 rfl (lv_at hl 1 rfl) ?_
  refine lv_iload_n hx hb dX11_bits_11 rfl (lv_at hl 2 rfl) ?_
  refine lv_iload_n hx hb dX11_bits_12 rfl (lv_at hl 0 rfl) ?_
  refine lv_ishr hx hb dX11_bits_13 ?_
  refine relit (v := 0) (by decide +kernel) ?_
  refine lv_iconst (v := 1) hx hb dX11_bits_14 (by decide) ?_
  refine lv_iand hx hb dX11_bits_15 ?_
  refine relit (v := 0) (by decide +kernel) ?_
  refine lv_iadd hx hb dX11_bits_16 ?_
  refine relit (v := 0) (by decide +kernel) ?_
  refine lv_istore_n (lv' := [(1, .int 0), (2, .int 1), (0, .int 0)]) hx hb dX11_bits_17 rfl hl (by decide) rfl (fun ls hl => ?_)
  refine lv_iinc (v := 2) (lv' := [(2, .int 2), (1, .int 0), (0, .int 0)]) hx hb dX11_bits_18 hl (k := 1) rfl (by decide +kernel) (by decide) rfl (fun ls hl => ?_)
  refine lv_goto (tgt := 4) hx hb dX11_bits_21 (by decide) ?_
  refine lv_iload_n hx hb dX11_bits_4 rfl (lv_at hl 0 rfl) ?_
  refine lv_bipush (v := 10) hx hb dX11_bits_5 (by decide) ?_
  refine lv_icmp_ge (tgt := 24) hx hb dX11_bits_7 (by decide) (fun c_ => absurd c_ (by decide +kernel)) (fun _ => ?_)
  refine lv_iload_n hx hb dX11_bits_10 rfl (lv_at hl 1 rfl) ?_
  refine lv_iload_n hx hb dX11_bits_11 rfl (lv_at hl 2 rfl) ?_
  refine lv_iload_n hx hb dX11_bits_12 rfl (lv_at hl 0 rfl) ?_
  refine lv_ishr hx hb dX11_bits_13 ?_
  refine relit (v := 0) (by decide +kernel) ?_
  refine lv_iconst (v := 1) hx hb dX11_bits_14 (by decide) ?_
  refine lv_iand hx hb dX11_bits_15 ?_
  refine relit (v := 0) (by decide +kernel) ?_
  refine lv_iadd hx hb dX11_bits_16 ?_
  refine relit (v := 0) (by decide +kernel) ?_
  refine lv_istore_n (lv' := [(1, .int 0), (2, .int 2), (0, .int 0)]) hx hb dX11_bits_17 rfl hl (by decide) rfl (fun ls hl => ?_)
  refine lv_iinc (v := 3) (lv' := [(2, .int 3), (1, .int 0), (0, .int 0)]) hx hb dX11_bits_18 hl (k := 1) rfl (by decide +kernel) (by decide) rfl (fun ls hl => ?_)
  refine lv_goto (tgt := 4) hx hb dX11_bits_21 (by decide) ?_
  refine lv_iload_n hx hb dX11_bits_4 rfl (lv_at hl 0 rfl) ?_
  refine lv_bipush (v := 10) hx hb dX11_bits_5 (by decide) ?_
  refine lv_icmp_ge (tgt := 24) hx hb dX11_bits_7 (by decide) (fun c_ => absurd c_ (by decide +kernel)) (fun _ => ?_)
  refine lv_iload_n hx hb dX11_bits_10 rfl (lv_at hl 1 rfl) ?_
  refine lv_iload_n hx hb dX11_bits_11 rfl (lv_at hl 2 rfl) ?_
  refine lv_iload_n hx hb dX11_bits_12 rfl (lv_at hl 0 rfl) ?_
  refine lv_ishr hx hb dX11_bits_13 ?_
  refine relit (v := 0) (by decide +kernel) ?_
  refine lv_iconst (v := 1) hx hb dX11_bits_14 (by decide) ?_
  refine lv_iand hx hb dX11_bits_15 ?_
  refine relit (v := 0) (by decide +kernel) ?_
  refine lv_iadd hx hb dX11_bits_16 ?_
  refine relit (v := 0) (by decide +kernel) ?_
  refine lv_istore_n (lv' := [(1, .int 0), (2, .int 3), (0, .int 0)]) hx hb dX11_bits_17 rfl hl (by decide) rfl (fun ls hl => ?_)
  refine lv_iinc (v := 4) (lv' := [(2, .int 4), (1, .int 0), (0, .int 0)]) hx hb dX11_bits_18 hl (k := 1) rfl (by decide +kernel) (by decide) rfl (fun ls hl => ?_)
  refine lv_goto (tgt := 4) hx hb dX11_bits_21 (by decide) ?_
  refine lv_iload_n hx hb dX11_bits_4 rfl (lv_at hl 0 rfl) ?_
  refine lv_bipush (v := 10) hx hb dX11_bits_5 (by decide) ?_
  refine lv_icmp_ge (tgt := 24) hx hb dX11_bits_7 (by decide) (fun c_ => absurd c_ (by decide +kernel)) (fun _ => ?_)
  refine lv_iload_n hx hb dX11_bits_10 rfl (lv_at hl 1 rfl) ?_
  refine lv_iload_n hx hb dX11_bits_11 rfl (lv_at hl 2 rfl) ?_
  refine lv_iload_n hx hb dX11_bits_12 rfl (lv_at hl 0 rfl) ?_
  refine lv_ishr hx hb dX11_bits_13 ?_
  refine relit (v := 0) (by decide +kernel) ?_
  refine lv_iconst (v := 1) hx hb dX11_bits_14 (by decide) ?_
  refine lv_iand hx hb dX11_bits_15 ?_
  refine relit (v := 0) (by decide +kernel) ?_
  refine lv_iadd hx hb dX11_bits_16 ?_
  refine relit (v := 0) (by decide +kernel) ?_
  refine lv_istore_n (lv' := [(1, .int 0), (2, .int 4), (0, .int 0)]) hx hb dX11_bits_17 rfl hl (by decide) rfl (fun ls hl => ?_)
  refine lv_iinc (v := 5) (lv' := [(2, .int 5), (1, .int 0), (0, .int 0)]) hx hb dX11_bits_18 hl (k := 1) rfl (by decide +kernel) (by decide) rfl (fun ls hl => ?_)
  refine lv_goto (tgt := 4) hx hb dX11_bits_21 (by decide) ?_
  refine lv_iload_n hx hb dX11_bits_4 rfl (lv_at hl 0 rfl) ?_
  refine lv_bipush (v := 10) hx hb dX11_bits_5 (by decide) ?_
  refine lv_icmp_ge (tgt := 24) hx hb dX11_bits_7 (by decide) (fun c_ => absurd c_ (by decide +kernel)) (fun _ => ?_)
  refine lv_iload_n hx hb dX11_bits_10 rfl (lv_at hl 1 rfl) ?_
  refine lv_iload_n hx hb dX11_bits_11 rfl (lv_at hl 2 rfl) ?_
  refine lv_iload_n hx hb dX11_bits_12 rfl (lv_at hl 0 rfl) ?_
  refine lv_ishr hx hb dX11_bits_13 ?_
  refine relit (v := 0) (by decide +kernel) ?_
  refine lv_iconst (v := 1) hx hb dX11_bits_14 (by decide) ?_
  refine lv_iand hx hb dX11_bits_15 ?_
  refine relit (v := 0) (by decide +kernel) ?_
  refine lv_iadd hx hb dX11_bits_16 ?_
  refine relit (v := 0) (by decide +kernel) ?_
  refine lv_istore_n (lv' := [(1, .int 0), (2, .int 5), (0, .int 0)]) hx hb dX11_bits_17 rfl hl (by decide) rfl (fun ls hl => ?_)
  refine lv_iinc (v := 6) (lv' := [(2, .int 6), (1, .int 0), (0, .int 0)]) hx hb dX11_bits_18 hl (k := 1) rfl (by decide +kernel) (by decide) rfl (fun ls hl => ?_)
  refine lv_goto (tgt := 4) hx hb dX11_bits_21 (by decide) ?_
  refine lv_iload_n hx hb dX11_bits_4 rfl (lv_at hl 0 rfl) ?_
  refine lv_bipush (v := 10) hx hb dX11_bits_5 (by decide) ?_
  refine lv_icmp_ge (tgt := 24) hx hb dX11_bits_7 (by decide) (fun c_ => absurd c_ (by decide +kernel)) (fun _ => ?_)
  refine lv_iload_n hx hb dX11_bits_10 rfl (lv_at hl 1 rfl) ?_
  refine lv_iload_n hx hb dX11_bits_11 rfl (lv_at hl 2 rfl) ?_
  refine lv_iload_n hx hb dX11_bits_12 rfl (lv_at hl 0 rfl) ?_
  refine lv_ishr hx hb dX11_bits_13 ?_
  refine relit (v := 0) (by decide +kernel) ?_
  refine lv_iconst (v := 1) hx hb dX11_bits_14 (by decide) ?_
  refine lv_iand hx hb dX11_bits_15 ?_
  refine relit (v := 0) (by decide +kernel) ?_
  refine lv_iadd hx hb dX11_bits_16 ?_
  refine relit (v := 0) (by decide +kernel) ?_
  refine lv_istore_n (lv' := [(1, .int 0), (2, .int 6), (0, .int 0)]) hx hb dX11_bits_17 rfl hl (by decide) rfl (fun ls hl => ?_)
  refine lv_iinc (v := 7) (lv' := [(2, .int 7), (1, .int 0), (0, .int 0)]) hx hb dX11_bits_18 hl (k := 1) rfl (by decide +kernel) (by decide) rfl (fun ls hl => ?_)
  refine lv_goto (tgt := 4) hx hb dX11_bits_21 (by decide) ?_
  refine lv_iload_n hx hb dX11_bits_4 rfl (lv_at hl 0 rfl) ?_
  refine lv_bipush (v := 10) hx hb dX11_bits_5 (by decide) ?_
  refine lv_icmp_ge (tgt := 24) hx hb dX11_bits_7 (by decide) (fun c_ => absurd c_ (by decide +kernel)) (fun _ => ?_)
  refine lv_iload_n hx hb dX11_bits_10 rfl (lv_at hl 1 rfl) ?_
  refine lv_iload_n hx hb dX11_bits_11 rfl (lv_at hl 2 rfl) ?_
  refine lv_iload_n hx hb dX11_bits_12 rfl (lv_at hl 0 rfl) ?_
  refine lv_ishr hx hb dX11_bits_13 ?_
  refine relit (v := 0) (by decide +kernel) ?_
  refine lv_iconst (v := 1) hx hb dX11_bits_14 (by decide) ?_
  refine lv_iand hx hb dX11_bits_15 ?_
  refine relit (v := 0) (by decide +kernel) ?_
  refine lv_iadd hx hb dX11_bits_16 ?_
  refine relit (v := 0) (by decide +kernel) ?_
  refine lv_istore_n (lv' := [(1, .int 0), (2, .int 7), (0, .int 0)]) hx hb dX11_bits_17 rfl hl (by decide) rfl (fun ls hl => ?_)
  refine lv_iinc (v := 8) (lv' := [(2, .int 8), (1, .int 0), (0, .int 0)]) hx hb dX11_bits_18 hl (k := 1) rfl (by decide +kernel) (by decide) rfl (fun ls hl => ?_)
  refine lv_goto (tgt := 4) hx hb dX11_bits_21 (by decide) ?_
  refine lv_iload_n hx hb dX11_bits_4 rfl (lv_at hl 0 rfl) ?_
  refine lv_bipush (v := 10) hx hb dX11_bits_5 (by decide) ?_
  refine lv_icmp_ge (tgt := 24) hx hb dX11_bits_7 (by decide) (fun c_ => absurd c_ (by decide +kernel)) (fun _ => ?_)
  refine lv_iload_n hx hb dX11_bits_10 rfl (lv_at hl 1 rfl) ?_
  refine lv_iload_n hx hb dX11_bits_11 rfl (lv_at hl 2 rfl) ?_
  refine lv_iload_n hx hb dX11_bits_12 rfl (lv_at hl 0 rfl) ?_
  refine lv_ishr hx hb dX11_bits_13 ?_
  refine relit (v := 0) (by decide +kernel) ?_
  refine lv_iconst (v := 1) hx hb dX11_bits_14 (by decide) ?_
  refine lv_iand hx hb dX11_bits_15 ?_
  refine relit (v := 0) (by decide +kernel) ?_
  refine lv_iadd hx hb dX11_bits_16 ?_
  refine relit (v := 0) (by decide +kernel) ?_
  refine lv_istore_n (lv' := [(1, .int 0), (2, .int 8), (0, .int 0)]) hx hb dX11_bits_17 rfl hl (by decide) rfl (fun ls hl => ?_)
  refine lv_iinc (v := 9) (lv' := [(2, .int 9), (1, .int 0), (0, .int 0)]) hx hb dX11_bits_18 hl (k := 1) rfl (by decide +kernel) (by decide) rfl (fun ls hl => ?_)
  refine lv_goto (tgt := 4) hx hb dX11_bits_21 (by decide) ?_
  refine lv_iload_n hx hb dX11_bits_4 rfl (lv_at hl 0 rfl) ?_
  refine lv_bipush (v := 10) hx hb dX11_bits_5 (by decide) ?_
  refine lv_icmp_ge (tgt := 24) hx hb dX11_bits_7 (by decide) (fun c_ => absurd c_ (by decide +kernel)) (fun _ => ?_)
  refine lv_iload_n hx hb dX11_bits_10 rfl (lv_at hl 1 rfl) ?_
  refine lv_iload_n hx hb dX11_bits_11 rfl (lv_at hl 2 rfl) ?_
  refine lv_iload_n hx hb dX11_bits_12 rfl (lv_at hl 0 rfl) ?_
  refine lv_ishr hx hb dX11_bits_13 ?_
  refine relit (v := 0) (by decide +kernel) ?_
  refine lv_iconst (v := 1) hx hb dX11_bits_14 (by decide) ?_
  refine lv_iand hx hb dX11_bits_15 ?_
  refine relit (v := 0) (by decide +kernel) ?_
  refine lv_iadd hx hb dX11_bits_16 ?_
  refine relit (v := 0) (by decide +kernel) ?_
  refine lv_istore_n (lv' := [(1, .int 0), (2, .int 9), (0, .int 0)]) hx hb dX11_bits_17 rfl hl (by decide) rfl (fun ls hl => ?_)
  refine lv_iinc (v := 10) (lv' := [(2, .int 10), (1, .int 0), (0, .int 0)]) hx hb dX11_bits_18 hl (k := 1) rfl (by decide +kernel) (by decide) rfl (fun ls hl => ?_)
  refine lv_goto (tgt := 4) hx hb dX11_bits_21 (by decide) ?_
  refine lv_iload_n hx hb dX11_bits_4 rfl (lv_at hl 0 rfl) ?_
  refine lv_bipush (v := 10) hx hb dX11_bits_5 (by decide) ?_
  refine lv_icmp_ge (tgt := 24) hx hb dX11_bits_7 (by decide) (fun _ => ?_) (fun c_ => absurd (by decide +kernel) c_)
  refine lv_iload_n hx hb dX11_bits_24 rfl (lv_at hl 1 rfl) ?_
  have hP9 := hP.sub (ws' := []) [] rfl
  have hD9 := hD.sub (ws' := []) [] (by decide) rfl
  exact rI () hx hb hr hlk rfl hS rfl hP9 hD9 (Nat.le_of_ble_eq_true rfl) (Nat.le_of_ble_eq_true rfl) dX11_bits_25

theorem tb1709 : (Jvm.Cond.methodLink "StairGangModel" (471 : Nat) ({ cls := "StairGangModel", name := "bits", desc := "(I)I" } : Jvm.MethodName)) ∈ gw := lw_m 1709 (by decide +kernel)
theorem tb1710 : (Jvm.Cond.static ({ cls := "StairGangModel", name := "bits", desc := "(I)I" } : Jvm.MethodName)) ∈ gw := lw_m 1710 (by decide +kernel)
theorem tb1711 : (Jvm.Cond.code ({ cls := "StairGangModel", name := "bits", desc := "(I)I" } : Jvm.MethodName) prog_13_method_6_code (3 : Nat) (Option.some Jvm.ClassFile.FieldType.int)) ∈ gw := lw_m 1711 (by decide +kernel)
theorem dX11_count_85 : decode cX11_count 85 = .ok (.goto 9, 3) := by decide +kernel
theorem dX11_count_94 : decode cX11_count 94 = .ok (.ireturn, 1) := by decide +kernel
set_option maxHeartbeats 4000000 in
set_option maxRecDepth 100000 in
theorem a_X11_within_13 (l : Launch) (g : va_G) (aC : Nat → ClassId) (aM : Nat → Nat)  : Ct l g aC aM yX11_within cX11_within 3 (some .boolean) 1 [.int 9, .int 0, .int 12] [] (QI g (fun (r : Int32) (_ : Unit) => r = 1) (fun (_ : Unit) => [])) 0 0 := by
  refine Ct.mk (by decide) (Nat.le_of_ble_eq_true rfl) ?_
  intro p e s m below meth c A ls hx hb hml hown hts hr hlk hnm hK hA hM hM2 hP hD hS hl
  have hown : s.vm.findClass RX11 = some m.cls := hown
  have F : Fx p s m _ c cX11_within 3 RX11 g aC aM A := ⟨hx, hb, hml, hown, hts, hK, hA, hM, hM2⟩
  have hl : lv_has ls 3 [(0, .int 9), (1, .int 0), (2, .int 12)] := hl
  refine lv_iload_n hx hb dX11_within_0 rfl (lv_at hl 0 rfl) ?_
  refine lv_iload_n hx hb dX11_within_1 rfl (lv_at hl 1 rfl) ?_
  refine lv_icmp_lt (tgt := 14) hx hb dX11_within_2 (by decide) (fun c_ => absurd c_ (by decide +kernel)) (fun _ => ?_)
  refine lv_iload_n hx hb dX11_within_5 rfl (lv_at hl 0 rfl) ?_
  refine lv_iload_n hx hb dX11_within_6 rfl (lv_at hl 2 rfl) ?_
  refine lv_icmp_gt (tgt := 14) hx hb dX11_within_7 (by decide) (fun c_ => absurd c_ (by decide +kernel)) (fun _ => ?_)
  refine lv_iconst (v := 1) hx hb dX11_within_10 (by decide) ?_
  refine lv_goto (tgt := 15) hx hb dX11_within_11 (by decide) ?_
  have hP9 := hP.sub (ws' := []) [] rfl
  have hD9 := hD.sub (ws' := []) [] (by decide) rfl
  exact rI () hx hb hr hlk rfl hS rfl hP9 hD9 (Nat.le_of_ble_eq_true rfl) (Nat.le_of_ble_eq_true rfl) dX11_within_15

theorem dX11_count_88 : decode cX11_count 88 = .ok (.aload_n 0, 1) := by decide +kernel
theorem dX11_count_89 : decode cX11_count 89 = .ok (.getfield 114, 3) := by decide +kernel
theorem dX11_count_92 : decode cX11_count 92 = .ok (.iconst 0, 1) := by decide +kernel
theorem dX11_count_93 : decode cX11_count 93 = .ok (.iaload, 1) := by decide +kernel
set_option maxHeartbeats 4000000 in
set_option maxRecDepth 100000 in
theorem a_X11_within_14 (l : Launch) (g : va_G) (aC : Nat → ClassId) (aM : Nat → Nat)  : Ct l g aC aM yX11_within cX11_within 3 (some .boolean) 1 [.int 10, .int 0, .int 12] [] (QI g (fun (r : Int32) (_ : Unit) => r = 1) (fun (_ : Unit) => [])) 0 0 := by
  refine Ct.mk (by decide) (Nat.le_of_ble_eq_true rfl) ?_
  intro p e s m below meth c A ls hx hb hml hown hts hr hlk hnm hK hA hM hM2 hP hD hS hl
  have hown : s.vm.findClass RX11 = some m.cls := hown
  have F : Fx p s m _ c cX11_within 3 RX11 g aC aM A := ⟨hx, hb, hml, hown, hts, hK, hA, hM, hM2⟩
  have hl : lv_has ls 3 [(0, .int 10), (1, .int 0), (2, .int 12)] := hl
  refine lv_iload_n hx hb dX11_within_0 rfl (lv_at hl 0 rfl) ?_
  refine lv_iload_n hx hb dX11_within_1 rfl (lv_at hl 1 rfl) ?_
  refine lv_icmp_lt (tgt := 14) hx hb dX11_within_2 (by decide) (fun c_ => absurd c_ (by decide +kernel)) (fun _ => ?_)
  refine lv_iload_n hx hb dX11_within_5 rfl (lv_at hl 0 rfl) ?_
  refine lv_iload_n hx hb dX11_within_6 rfl (lv_at hl 2 rfl) ?_
  refine lv_icmp_gt (tgt := 14) hx hb dX11_within_7 (by decide) (fun c_ => absurd c_ (by decide +kernel)) (fun _ => ?_)
  refine lv_iconst (v := 1) hx hb dX11_within_10 (by decide) ?_
  refine lv_goto (tgt := 15) hx hb dX11_within_11 (by decide) ?_
  have hP9 := hP.sub (ws' := []) [] rfl
  have hD9 := hD.sub (ws' := []) [] (by decide) rfl
  exact rI () hx hb hr hlk rfl hS rfl hP9 hD9 (Nat.le_of_ble_eq_true rfl) (Nat.le_of_ble_eq_true rfl) dX11_within_15

theorem dX11_count_95 : decode cX11_count 95 = .ok (.iload_n 1, 1) := by decide +kernel
theorem dX11_count_96 : decode cX11_count 96 = .ok (.bipush 10, 2) := by decide +kernel
theorem dX11_count_98 : decode cX11_count 98 = .ok (.if_icmp .ne 12, 3) := by decide +kernel
theorem dX11_count_101 : decode cX11_count 101 = .ok (.aload_n 0, 1) := by decide +kernel
theorem dX11_count_102 : decode cX11_count 102 = .ok (.getfield 129, 3) := by decide +kernel
theorem dX11_count_105 : decode cX11_count 105 = .ok (.iconst 0, 1) := by decide +kernel
theorem dX11_count_106 : decode cX11_count 106 = .ok (.iaload, 1) := by decide +kernel
theorem dX11_count_107 : decode cX11_count 107 = .ok (.goto 20, 3) := by decide +kernel
theorem dX11_count_127 : decode cX11_count 127 = .ok (.ireturn, 1) := by decide +kernel
set_option maxHeartbeats 4000000 in
set_option maxRecDepth 100000 in
theorem a_X11_within_15 (l : Launch) (g : va_G) (aC : Nat → ClassId) (aM : Nat → Nat)  : Ct l g aC aM yX11_within cX11_within 3 (some .boolean) 1 [.int 11, .int 0, .int 12] [] (QI g (fun (r : Int32) (_ : Unit) => r = 1) (fun (_ : Unit) => [])) 0 0 := by
  refine Ct.mk (by decide) (Nat.le_of_ble_eq_true rfl) ?_
  intro p e s m below meth c A ls hx hb hml hown hts hr hlk hnm hK hA hM hM2 hP hD hS hl
  have hown : s.vm.findClass RX11 = some m.cls := hown
  have F : Fx p s m _ c cX11_within 3 RX11 g aC aM A := ⟨hx, hb, hml, hown, hts, hK, hA, hM, hM2⟩
  have hl : lv_has ls 3 [(0, .int 11), (1, .int 0), (2, .int 12)] := hl
  refine lv_iload_n hx hb dX11_within_0 rfl (lv_at hl 0 rfl) ?_
  refine lv_iload_n hx hb dX11_within_1 rfl (lv_at hl 1 rfl) ?_
  refine lv_icmp_lt (tgt := 14) hx hb dX11_within_2 (by decide) (fun c_ => absurd c_ (by decide +kernel)) (fun _ => ?_)
  refine lv_iload_n hx hb dX11_within_5 rfl (lv_at hl 0 rfl) ?_
  refine lv_iload_n hx hb dX11_within_6 rfl (lv_at hl 2 rfl) ?_
  refine lv_icmp_gt (tgt := 14) hx hb dX11_within_7 (by decide) (fun c_ => absurd c_ (by decide +kernel)) (fun _ => ?_)
  refine lv_iconst (v := 1) hx hb dX11_within_10 (by decide) ?_
  refine lv_goto (tgt := 15) hx hb dX11_within_11 (by decide) ?_
  have hP9 := hP.sub (ws' := []) [] rfl
  have hD9 := hD.sub (ws' := []) [] (by decide) rfl
  exact rI () hx hb hr hlk rfl hS rfl hP9 hD9 (Nat.le_of_ble_eq_true rfl) (Nat.le_of_ble_eq_true rfl) dX11_within_15

theorem dX11_count_110 : decode cX11_count 110 = .ok (.iload_n 1, 1) := by decide +kernel
theorem dX11_count_111 : decode cX11_count 111 = .ok (.bipush 11, 2) := by decide +kernel
theorem dX11_count_113 : decode cX11_count 113 = .ok (.if_icmp .ne 10, 3) := by decide +kernel
theorem dX11_count_116 : decode cX11_count 116 = .ok (.aload_n 0, 1) := by decide +kernel
theorem dX11_count_117 : decode cX11_count 117 = .ok (.getfield 416, 3) := by decide +kernel
theorem dX11_count_120 : decode cX11_count 120 = .ok (.goto 7, 3) := by decide +kernel
set_option maxHeartbeats 4000000 in
set_option maxRecDepth 100000 in
theorem a_X11_within_16 (l : Launch) (g : va_G) (aC : Nat → ClassId) (aM : Nat → Nat)  : Ct l g aC aM yX11_within cX11_within 3 (some .boolean) 1 [.int 12, .int 0, .int 12] [] (QI g (fun (r : Int32) (_ : Unit) => r = 1) (fun (_ : Unit) => [])) 0 0 := by
  refine Ct.mk (by decide) (Nat.le_of_ble_eq_true rfl) ?_
  intro p e s m below meth c A ls hx hb hml hown hts hr hlk hnm hK hA hM hM2 hP hD hS hl
  have hown : s.vm.findClass RX11 = some m.cls := hown
  have F : Fx p s m _ c cX11_within 3 RX11 g aC aM A := ⟨hx, hb, hml, hown, hts, hK, hA, hM, hM2⟩
  have hl : lv_has ls 3 [(0, .int 12), (1, .int 0), (2, .int 12)] := hl
  refine lv_iload_n hx hb dX11_within_0 rfl (lv_at hl 0 rfl) ?_
  refine lv_iload_n hx hb dX11_within_1 rfl (lv_at hl 1 rfl) ?_
  refine lv_icmp_lt (tgt := 14) hx hb dX11_within_2 (by decide) (fun c_ => absurd c_ (by decide +kernel)) (fun _ => ?_)
  refine lv_iload_n hx hb dX11_within_5 rfl (lv_at hl 0 rfl) ?_
  refine lv_iload_n hx hb dX11_within_6 rfl (lv_at hl 2 rfl) ?_
  refine lv_icmp_gt (tgt := 14) hx hb dX11_within_7 (by decide) (fun c_ => absurd c_ (by decide +kernel)) (fun _ => ?_)
  refine lv_iconst (v := 1) hx hb dX11_within_10 (by decide) ?_
  refine lv_goto (tgt := 15) hx hb dX11_within_11 (by decide) ?_
  have hP9 := hP.sub (ws' := []) [] rfl
  have hD9 := hD.sub (ws' := []) [] (by decide) rfl
  exact rI () hx hb hr hlk rfl hS rfl hP9 hD9 (Nat.le_of_ble_eq_true rfl) (Nat.le_of_ble_eq_true rfl) dX11_within_15

theorem dX11_count_123 : decode cX11_count 123 = .ok (.aload_n 0, 1) := by decide +kernel
theorem dX11_count_124 : decode cX11_count 124 = .ok (.getfield 186, 3) := by decide +kernel
set_option maxHeartbeats 4000000 in
set_option maxRecDepth 100000 in
theorem m_count_lo (l : Launch) (g : va_G) (aC : Nat → ClassId) (aM : Nat → Nat) (h1 h10 h46 h51 h55 : Nat) (x2 x3 x4 x5 x6 x7 x8 x9 x11 x12 x13 x14 x15 x16 x17 x18 x19 x20 x21 x22 x23 x24 x25 x26 x27 x28 x29 x30 x31 x32 x33 x34 x35 x36 x37 x38 x39 x40 x41 x42 x43 x44 x45 x47 x48 x49 x50 x52 x53 x54 x56 x57 x58 x59 x60 x61 x62 x63 x64 x65 x66 x67 x68 x69 x70 x71 x72 : Value) (n_1 : Int32) (hh1 : n_1 ≤ (-1)) : Ct l g aC aM yX11_count cX11_count 2 (some .int) 2 [.ref h1, .int n_1] [(h1, .inr (11, [.int 0, .int 0, x2, x3, x4, x5, x6, x7, x8, x9, .ref h10, x11, x12, x13, x14, x15, x16, x17, x18, x19, x20, x21, x22, x23, x24, x25, x26, x27, x28, x29, x30, x31, x32, x33, x34, x35, x36, x37, x38, x39, x40, x41, x42, x43, x44, x45, .ref h46, x47, x48, x49, x50, .ref h51, x52, x53, x54, .ref h55, x56, x57, x58, x59, .int 0, x60, x61, x62, x63, x64, x65, x66, x67, x68, x69, x70, x71, x72])), (h10, .inl (aC 0, 14, .inl (fun _ => 0))), (h46, .inl (aC 0, 6, .inl (fun _ => 0))), (h51, .inl (aC 0, 5, .inl (fun _ => 0))), (h55, .inl (aC 0, 13, .inl (fun _ => 0)))] (QI g (fun (r : Int32) (_ : Unit) => r = (-1)) (fun (_ : Unit) => [])) 0 0 := by
  refine Ct.mk (by decide) (Nat.le_of_ble_eq_true rfl) ?_
  intro p e s m below meth c A ls hx hb hml hown hts hr hlk hnm hK hA hM hM2 hP hD hS hl
  have hown : s.vm.findClass RX11 = some m.cls := hown
  have F : Fx p s m _ c cX11_count 2 RX11 g aC aM A := ⟨hx, hb, hml, hown, hts, hK, hA, hM, hM2⟩
  have hl : lv_has ls 2 [(0, .ref h1), (1, .int n_1)] := hl
  refine lv_aload_n hx hb dX11_count_0 rfl (lv_at hl 0 rfl) ?_
  refine lv_iconst (v := 0) hx hb dX11_count_1 (by decide) ?_
  refine xput F hP hD hS 0 rfl rfl inX11 tyX11_ok nmX11 0 (by decide) tb1182 rfl rfl rfl (Nat.le_of_ble_eq_true rfl) dX11_count_2 (fun H locs hP hD hS => ?_)
  have hP : va_P g vwCl [(h1, .inr (11, [.int 0, .int 0, x2, x3, x4, x5, x6, x7, x8, x9, .ref h10, x11, x12, x13, x14, x15, x16, x17, x18, x19, x20, x21, x22, x23, x24, x25, x26, x27, x28, x29, x30, x31, x32, x33, x34, x35, x36, x37, x38, x39, x40, x41, x42, x43, x44, x45, .ref h46, x47, x48, x49, x50, .ref h51, x52, x53, x54, .ref h55, x56, x57, x58, x59, .int 0, x60, x61, x62, x63, x64, x65, x66, x67, x68, x69, x70, x71, x72])), (h10, .inl (aC 0, 14, .inl (fun _ => 0))), (h46, .inl (aC 0, 6, .inl (fun _ => 0))), (h51, .inl (aC 0, 5, .inl (fun _ => 0))), (h55, .inl (aC 0, 13, .inl (fun _ => 0)))] H := hP
  have hD : va_D A [(h1, .inr (11, [.int 0, .int 0, x2, x3, x4, x5, x6, x7, x8, x9, .ref h10, x11, x12, x13, x14, x15, x16, x17, x18, x19, x20, x21, x22, x23, x24, x25, x26, x27, x28, x29, x30, x31, x32, x33, x34, x35, x36, x37, x38, x39, x40, x41, x42, x43, x44, x45, .ref h46, x47, x48, x49, x50, .ref h51, x52, x53, x54, .ref h55, x56, x57, x58, x59, .int 0, x60, x61, x62, x63, x64, x65, x66, x67, x68, x69, x70, x71, x72])), (h10, .inl (aC 0, 14, .inl (fun _ => 0))), (h46, .inl (aC 0, 6, .inl (fun _ => 0))), (h51, .inl (aC 0, 5, .inl (fun _ => 0))), (h55, .inl (aC 0, 13, .inl (fun _ => 0)))] := hD
  refine lv_iload_n hx hb dX11_count_5 rfl (lv_at hl 1 rfl) ?_
  refine lv_iconst (v := 0) hx hb dX11_count_6 (by decide) ?_
  refine lv_bipush (v := 12) hx hb dX11_count_7 (by decide) ?_
  refine goI (wr := [(h1, .inr (11, [.int 0, .int 0, x2, x3, x4, x5, x6, x7, x8, x9, .ref h10, x11, x12, x13, x14, x15, x16, x17, x18, x19, x20, x21, x22, x23, x24, x25, x26, x27, x28, x29, x30, x31, x32, x33, x34, x35, x36, x37, x38, x39, x40, x41, x42, x43, x44, x45, .ref h46, x47, x48, x49, x50, .ref h51, x52, x53, x54, .ref h55, x56, x57, x58, x59, .int 0, x60, x61, x62, x63, x64, x65, x66, x67, x68, x69, x70, x71, x72])), (h10, .inl (aC 0, 14, .inl (fun _ => 0))), (h46, .inl (aC 0, 6, .inl (fun _ => 0))), (h51, .inl (aC 0, 5, .inl (fun _ => 0))), (h55, .inl (aC 0, 13, .inl (fun _ => 0)))]) (runS (n := 3) (As := [.int n_1, .int 0, .int 12]) (rest := []) F hP hD hS (k_within_lo l g aC aM n_1 0 12 (by have a0_ := hh1; simp only [Int32.lt_iff_toInt_lt, Int32.le_iff_toInt_le, ← Int32.toInt_inj, show (-1 : Int32).toInt = -1 by decide, show (0 : Int32).toInt = 0 by decide, show (12 : Int32).toInt = 12 by decide] at a0_ ⊢; omega)) [] (by decide) rfl tb1511 tb1509 tb1510 tb17 ⟨by decide, by decide, by decide +kernel⟩ ⟨Nat.le_of_ble_eq_true rfl, Nat.le_of_ble_eq_true rfl⟩ rfl hl.1 rfl (Nat.le_of_ble_eq_true rfl) dX11_count_9 ⟨Nat.le_of_ble_eq_true rfl, Nat.le_of_ble_eq_true rfl⟩) hP hD hS hA [] [0, 1, 2, 3, 4] rfl rfl (by decide) (by decide) (fun r_2 w3 H locs hw hP hD hS => ?_)
  have hP : va_P g vwCl [(h1, .inr (11, [.int 0, .int 0, x2, x3, x4, x5, x6, x7, x8, x9, .ref h10, x11, x12, x13, x14, x15, x16, x17, x18, x19, x20, x21, x22, x23, x24, x25, x26, x27, x28, x29, x30, x31, x32, x33, x34, x35, x36, x37, x38, x39, x40, x41, x42, x43, x44, x45, .ref h46, x47, x48, x49, x50, .ref h51, x52, x53, x54, .ref h55, x56, x57, x58, x59, .int 0, x60, x61, x62, x63, x64, x65, x66, x67, x68, x69, x70, x71, x72])), (h10, .inl (aC 0, 14, .inl (fun _ => 0))), (h46, .inl (aC 0, 6, .inl (fun _ => 0))), (h51, .inl (aC 0, 5, .inl (fun _ => 0))), (h55, .inl (aC 0, 13, .inl (fun _ => 0)))] H := hP
  have hD : va_D A [(h1, .inr (11, [.int 0, .int 0, x2, x3, x4, x5, x6, x7, x8, x9, .ref h10, x11, x12, x13, x14, x15, x16, x17, x18, x19, x20, x21, x22, x23, x24, x25, x26, x27, x28, x29, x30, x31, x32, x33, x34, x35, x36, x37, x38, x39, x40, x41, x42, x43, x44, x45, .ref h46, x47, x48, x49, x50, .ref h51, x52, x53, x54, .ref h55, x56, x57, x58, x59, .int 0, x60, x61, x62, x63, x64, x65, x66, x67, x68, x69, x70, x71, x72])), (h10, .inl (aC 0, 14, .inl (fun _ => 0))), (h46, .inl (aC 0, 6, .inl (fun _ => 0))), (h51, .inl (aC 0, 5, .inl (fun _ => 0))), (h55, .inl (aC 0, 13, .inl (fun _ => 0)))] := hD
  try dsimp only at hw
  subst hw
  refine lv_if_ne (tgt := 17) hx hb dX11_count_12 (by decide) (fun c_ => absurd (by decide +kernel) c_) (fun _ => ?_)
  refine lv_iconst (v := (-1)) hx hb dX11_count_15 (by decide) ?_
  have hP9 := hP.sub (ws' := []) [] rfl
  have hD9 := hD.sub (ws' := []) [] (by decide) rfl
  exact rI () hx hb hr hlk rfl hS rfl hP9 hD9 (Nat.le_of_ble_eq_true rfl) (Nat.le_of_ble_eq_true rfl) dX11_count_16

set_option maxHeartbeats 4000000 in
set_option maxRecDepth 100000 in
theorem m_count_hi (l : Launch) (g : va_G) (aC : Nat → ClassId) (aM : Nat → Nat) (h1 h10 h46 h51 h55 : Nat) (x2 x3 x4 x5 x6 x7 x8 x9 x11 x12 x13 x14 x15 x16 x17 x18 x19 x20 x21 x22 x23 x24 x25 x26 x27 x28 x29 x30 x31 x32 x33 x34 x35 x36 x37 x38 x39 x40 x41 x42 x43 x44 x45 x47 x48 x49 x50 x52 x53 x54 x56 x57 x58 x59 x60 x61 x62 x63 x64 x65 x66 x67 x68 x69 x70 x71 x72 : Value) (n_1 : Int32) (hl1 : 13 ≤ n_1) : Ct l g aC aM yX11_count cX11_count 2 (some .int) 2 [.ref h1, .int n_1] [(h1, .inr (11, [.int 0, .int 0, x2, x3, x4, x5, x6, x7, x8, x9, .ref h10, x11, x12, x13, x14, x15, x16, x17, x18, x19, x20, x21, x22, x23, x24, x25, x26, x27, x28, x29, x30, x31, x32, x33, x34, x35, x36, x37, x38, x39, x40, x41, x42, x43, x44, x45, .ref h46, x47, x48, x49, x50, .ref h51, x52, x53, x54, .ref h55, x56, x57, x58, x59, .int 0, x60, x61, x62, x63, x64, x65, x66, x67, x68, x69, x70, x71, x72])), (h10, .inl (aC 0, 14, .inl (fun _ => 0))), (h46, .inl (aC 0, 6, .inl (fun _ => 0))), (h51, .inl (aC 0, 5, .inl (fun _ => 0))), (h55, .inl (aC 0, 13, .inl (fun _ => 0)))] (QI g (fun (r : Int32) (_ : Unit) => r = (-1)) (fun (_ : Unit) => [])) 0 0 := by
  refine Ct.mk (by decide) (Nat.le_of_ble_eq_true rfl) ?_
  intro p e s m below meth c A ls hx hb hml hown hts hr hlk hnm hK hA hM hM2 hP hD hS hl
  have hown : s.vm.findClass RX11 = some m.cls := hown
  have F : Fx p s m _ c cX11_count 2 RX11 g aC aM A := ⟨hx, hb, hml, hown, hts, hK, hA, hM, hM2⟩
  have hl : lv_has ls 2 [(0, .ref h1), (1, .int n_1)] := hl
  refine lv_aload_n hx hb dX11_count_0 rfl (lv_at hl 0 rfl) ?_
  refine lv_iconst (v := 0) hx hb dX11_count_1 (by decide) ?_
  refine xput F hP hD hS 0 rfl rfl inX11 tyX11_ok nmX11 0 (by decide) tb1182 rfl rfl rfl (Nat.le_of_ble_eq_true rfl) dX11_count_2 (fun H locs hP hD hS => ?_)
  have hP : va_P g vwCl [(h1, .inr (11, [.int 0, .int 0, x2, x3, x4, x5, x6, x7, x8, x9, .ref h10, x11, x12, x13, x14, x15, x16, x17, x18, x19, x20, x21, x22, x23, x24, x25, x26, x27, x28, x29, x30, x31, x32, x33, x34, x35, x36, x37, x38, x39, x40, x41, x42, x43, x44, x45, .ref h46, x47, x48, x49, x50, .ref h51, x52, x53, x54, .ref h55, x56, x57, x58, x59, .int 0, x60, x61, x62, x63, x64, x65, x66, x67, x68, x69, x70, x71, x72])), (h10, .inl (aC 0, 14, .inl (fun _ => 0))), (h46, .inl (aC 0, 6, .inl (fun _ => 0))), (h51, .inl (aC 0, 5, .inl (fun _ => 0))), (h55, .inl (aC 0, 13, .inl (fun _ => 0)))] H := hP
  have hD : va_D A [(h1, .inr (11, [.int 0, .int 0, x2, x3, x4, x5, x6, x7, x8, x9, .ref h10, x11, x12, x13, x14, x15, x16, x17, x18, x19, x20, x21, x22, x23, x24, x25, x26, x27, x28, x29, x30, x31, x32, x33, x34, x35, x36, x37, x38, x39, x40, x41, x42, x43, x44, x45, .ref h46, x47, x48, x49, x50, .ref h51, x52, x53, x54, .ref h55, x56, x57, x58, x59, .int 0, x60, x61, x62, x63, x64, x65, x66, x67, x68, x69, x70, x71, x72])), (h10, .inl (aC 0, 14, .inl (fun _ => 0))), (h46, .inl (aC 0, 6, .inl (fun _ => 0))), (h51, .inl (aC 0, 5, .inl (fun _ => 0))), (h55, .inl (aC 0, 13, .inl (fun _ => 0)))] := hD
  refine lv_iload_n hx hb dX11_count_5 rfl (lv_at hl 1 rfl) ?_
  refine lv_iconst (v := 0) hx hb dX11_count_6 (by decide) ?_
  refine lv_bipush (v := 12) hx hb dX11_count_7 (by decide) ?_
  refine goI (wr := [(h1, .inr (11, [.int 0, .int 0, x2, x3, x4, x5, x6, x7, x8, x9, .ref h10, x11, x12, x13, x14, x15, x16, x17, x18, x19, x20, x21, x22, x23, x24, x25, x26, x27, x28, x29, x30, x31, x32, x33, x34, x35, x36, x37, x38, x39, x40, x41, x42, x43, x44, x45, .ref h46, x47, x48, x49, x50, .ref h51, x52, x53, x54, .ref h55, x56, x57, x58, x59, .int 0, x60, x61, x62, x63, x64, x65, x66, x67, x68, x69, x70, x71, x72])), (h10, .inl (aC 0, 14, .inl (fun _ => 0))), (h46, .inl (aC 0, 6, .inl (fun _ => 0))), (h51, .inl (aC 0, 5, .inl (fun _ => 0))), (h55, .inl (aC 0, 13, .inl (fun _ => 0)))]) (runS (n := 3) (As := [.int n_1, .int 0, .int 12]) (rest := []) F hP hD hS (k_within_hi l g aC aM n_1 0 12 (by have a0_ := hl1; simp only [Int32.lt_iff_toInt_lt, Int32.le_iff_toInt_le, ← Int32.toInt_inj, show (0 : Int32).toInt = 0 by decide, show (12 : Int32).toInt = 12 by decide, show (13 : Int32).toInt = 13 by decide] at a0_ ⊢; omega) (by have a0_ := hl1; simp only [Int32.lt_iff_toInt_lt, Int32.le_iff_toInt_le, ← Int32.toInt_inj, show (0 : Int32).toInt = 0 by decide, show (12 : Int32).toInt = 12 by decide, show (13 : Int32).toInt = 13 by decide] at a0_ ⊢; omega)) [] (by decide) rfl tb1511 tb1509 tb1510 tb17 ⟨by decide, by decide, by decide +kernel⟩ ⟨Nat.le_of_ble_eq_true rfl, Nat.le_of_ble_eq_true rfl⟩ rfl hl.1 rfl (Nat.le_of_ble_eq_true rfl) dX11_count_9 ⟨Nat.le_of_ble_eq_true rfl, Nat.le_of_ble_eq_true rfl⟩) hP hD hS hA [] [0, 1, 2, 3, 4] rfl rfl (by decide) (by decide) (fun r_2 w3 H locs hw hP hD hS => ?_)
  have hP : va_P g vwCl [(h1, .inr (11, [.int 0, .int 0, x2, x3, x4, x5, x6, x7, x8, x9, .ref h10, x11, x12, x13, x14, x15, x16, x17, x18, x19, x20, x21, x22, x23, x24, x25, x26, x27, x28, x29, x30, x31, x32, x33, x34, x35, x36, x37, x38, x39, x40, x41, x42, x43, x44, x45, .ref h46, x47, x48, x49, x50, .ref h51, x52, x53, x54, .ref h55, x56, x57, x58, x59, .int 0, x60, x61, x62, x63, x64, x65, x66, x67, x68, x69, x70, x71, x72])), (h10, .inl (aC 0, 14, .inl (fun _ => 0))), (h46, .inl (aC 0, 6, .inl (fun _ => 0))), (h51, .inl (aC 0, 5, .inl (fun _ => 0))), (h55, .inl (aC 0, 13, .inl (fun _ => 0)))] H := hP
  have hD : va_D A [(h1, .inr (11, [.int 0, .int 0, x2, x3, x4, x5, x6, x7, x8, x9, .ref h10, x11, x12, x13, x14, x15, x16, x17, x18, x19, x20, x21, x22, x23, x24, x25, x26, x27, x28, x29, x30, x31, x32, x33, x34, x35, x36, x37, x38, x39, x40, x41, x42, x43, x44, x45, .ref h46, x47, x48, x49, x50, .ref h51, x52, x53, x54, .ref h55, x56, x57, x58, x59, .int 0, x60, x61, x62, x63, x64, x65, x66, x67, x68, x69, x70, x71, x72])), (h10, .inl (aC 0, 14, .inl (fun _ => 0))), (h46, .inl (aC 0, 6, .inl (fun _ => 0))), (h51, .inl (aC 0, 5, .inl (fun _ => 0))), (h55, .inl (aC 0, 13, .inl (fun _ => 0)))] := hD
  try dsimp only at hw
  subst hw
  refine lv_if_ne (tgt := 17) hx hb dX11_count_12 (by decide) (fun c_ => absurd (by decide +kernel) c_) (fun _ => ?_)
  refine lv_iconst (v := (-1)) hx hb dX11_count_15 (by decide) ?_
  have hP9 := hP.sub (ws' := []) [] rfl
  have hD9 := hD.sub (ws' := []) [] (by decide) rfl
  exact rI () hx hb hr hlk rfl hS rfl hP9 hD9 (Nat.le_of_ble_eq_true rfl) (Nat.le_of_ble_eq_true rfl) dX11_count_16

set_option maxHeartbeats 4000000 in
set_option maxRecDepth 100000 in
theorem m_count_0 (l : Launch) (g : va_G) (aC : Nat → ClassId) (aM : Nat → Nat) (h1 h10 h46 h51 h55 : Nat) (x2 x3 x4 x5 x6 x7 x8 x9 x11 x12 x13 x14 x15 x16 x17 x18 x19 x20 x21 x22 x23 x24 x25 x26 x27 x28 x29 x30 x31 x32 x33 x34 x35 x36 x37 x38 x39 x40 x41 x42 x43 x44 x45 x47 x48 x49 x50 x52 x53 x54 x56 x57 x58 x59 x60 x61 x62 x63 x64 x65 x66 x67 x68 x69 x70 x71 x72 : Value) : Ct l g aC aM yX11_count cX11_count 2 (some .int) 2 [.ref h1, .int 0] [(h1, .inr (11, [.int 0, .int 0, x2, x3, x4, x5, x6, x7, x8, x9, .ref h10, x11, x12, x13, x14, x15, x16, x17, x18, x19, x20, x21, x22, x23, x24, x25, x26, x27, x28, x29, x30, x31, x32, x33, x34, x35, x36, x37, x38, x39, x40, x41, x42, x43, x44, x45, .ref h46, x47, x48, x49, x50, .ref h51, x52, x53, x54, .ref h55, x56, x57, x58, x59, .int 0, x60, x61, x62, x63, x64, x65, x66, x67, x68, x69, x70, x71, x72])), (h10, .inl (aC 0, 14, .inl (fun _ => 0))), (h46, .inl (aC 0, 6, .inl (fun _ => 0))), (h51, .inl (aC 0, 5, .inl (fun _ => 0))), (h55, .inl (aC 0, 13, .inl (fun _ => 0)))] (QI g (fun (r : Int32) (_ : Unit) => r = 0) (fun (_ : Unit) => [])) 0 0 := by
  refine Ct.mk (by decide) (Nat.le_of_ble_eq_true rfl) ?_
  intro p e s m below meth c A ls hx hb hml hown hts hr hlk hnm hK hA hM hM2 hP hD hS hl
  have hown : s.vm.findClass RX11 = some m.cls := hown
  have F : Fx p s m _ c cX11_count 2 RX11 g aC aM A := ⟨hx, hb, hml, hown, hts, hK, hA, hM, hM2⟩
  have hl : lv_has ls 2 [(0, .ref h1), (1, .int 0)] := hl
  refine lv_aload_n hx hb dX11_count_0 rfl (lv_at hl 0 rfl) ?_
  refine lv_iconst (v := 0) hx hb dX11_count_1 (by decide) ?_
  refine xput F hP hD hS 0 rfl rfl inX11 tyX11_ok nmX11 0 (by decide) tb1182 rfl rfl rfl (Nat.le_of_ble_eq_true rfl) dX11_count_2 (fun H locs hP hD hS => ?_)
  have hP : va_P g vwCl [(h1, .inr (11, [.int 0, .int 0, x2, x3, x4, x5, x6, x7, x8, x9, .ref h10, x11, x12, x13, x14, x15, x16, x17, x18, x19, x20, x21, x22, x23, x24, x25, x26, x27, x28, x29, x30, x31, x32, x33, x34, x35, x36, x37, x38, x39, x40, x41, x42, x43, x44, x45, .ref h46, x47, x48, x49, x50, .ref h51, x52, x53, x54, .ref h55, x56, x57, x58, x59, .int 0, x60, x61, x62, x63, x64, x65, x66, x67, x68, x69, x70, x71, x72])), (h10, .inl (aC 0, 14, .inl (fun _ => 0))), (h46, .inl (aC 0, 6, .inl (fun _ => 0))), (h51, .inl (aC 0, 5, .inl (fun _ => 0))), (h55, .inl (aC 0, 13, .inl (fun _ => 0)))] H := hP
  have hD : va_D A [(h1, .inr (11, [.int 0, .int 0, x2, x3, x4, x5, x6, x7, x8, x9, .ref h10, x11, x12, x13, x14, x15, x16, x17, x18, x19, x20, x21, x22, x23, x24, x25, x26, x27, x28, x29, x30, x31, x32, x33, x34, x35, x36, x37, x38, x39, x40, x41, x42, x43, x44, x45, .ref h46, x47, x48, x49, x50, .ref h51, x52, x53, x54, .ref h55, x56, x57, x58, x59, .int 0, x60, x61, x62, x63, x64, x65, x66, x67, x68, x69, x70, x71, x72])), (h10, .inl (aC 0, 14, .inl (fun _ => 0))), (h46, .inl (aC 0, 6, .inl (fun _ => 0))), (h51, .inl (aC 0, 5, .inl (fun _ => 0))), (h55, .inl (aC 0, 13, .inl (fun _ => 0)))] := hD
  refine lv_iload_n hx hb dX11_count_5 rfl (lv_at hl 1 rfl) ?_
  refine lv_iconst (v := 0) hx hb dX11_count_6 (by decide) ?_
  refine lv_bipush (v := 12) hx hb dX11_count_7 (by decide) ?_
  refine goI (wr := [(h1, .inr (11, [.int 0, .int 0, x2, x3, x4, x5, x6, x7, x8, x9, .ref h10, x11, x12, x13, x14, x15, x16, x17, x18, x19, x20, x21, x22, x23, x24, x25, x26, x27, x28, x29, x30, x31, x32, x33, x34, x35, x36, x37, x38, x39, x40, x41, x42, x43, x44, x45, .ref h46, x47, x48, x49, x50, .ref h51, x52, x53, x54, .ref h55, x56, x57, x58, x59, .int 0, x60, x61, x62, x63, x64, x65, x66, x67, x68, x69, x70, x71, x72])), (h10, .inl (aC 0, 14, .inl (fun _ => 0))), (h46, .inl (aC 0, 6, .inl (fun _ => 0))), (h51, .inl (aC 0, 5, .inl (fun _ => 0))), (h55, .inl (aC 0, 13, .inl (fun _ => 0)))]) (runS (n := 3) (As := [.int 0, .int 0, .int 12]) (rest := []) F hP hD hS (a_X11_within_4 l g aC aM ) [] (by decide) rfl tb1511 tb1509 tb1510 tb17 ⟨by decide, by decide, by decide +kernel⟩ ⟨Nat.le_of_ble_eq_true rfl, Nat.le_of_ble_eq_true rfl⟩ rfl hl.1 rfl (Nat.le_of_ble_eq_true rfl) dX11_count_9 ⟨Nat.le_of_ble_eq_true rfl, Nat.le_of_ble_eq_true rfl⟩) hP hD hS hA [] [0, 1, 2, 3, 4] rfl rfl (by decide) (by decide) (fun r_2 w3 H locs hw hP hD hS => ?_)
  have hP : va_P g vwCl [(h1, .inr (11, [.int 0, .int 0, x2, x3, x4, x5, x6, x7, x8, x9, .ref h10, x11, x12, x13, x14, x15, x16, x17, x18, x19, x20, x21, x22, x23, x24, x25, x26, x27, x28, x29, x30, x31, x32, x33, x34, x35, x36, x37, x38, x39, x40, x41, x42, x43, x44, x45, .ref h46, x47, x48, x49, x50, .ref h51, x52, x53, x54, .ref h55, x56, x57, x58, x59, .int 0, x60, x61, x62, x63, x64, x65, x66, x67, x68, x69, x70, x71, x72])), (h10, .inl (aC 0, 14, .inl (fun _ => 0))), (h46, .inl (aC 0, 6, .inl (fun _ => 0))), (h51, .inl (aC 0, 5, .inl (fun _ => 0))), (h55, .inl (aC 0, 13, .inl (fun _ => 0)))] H := hP
  have hD : va_D A [(h1, .inr (11, [.int 0, .int 0, x2, x3, x4, x5, x6, x7, x8, x9, .ref h10, x11, x12, x13, x14, x15, x16, x17, x18, x19, x20, x21, x22, x23, x24, x25, x26, x27, x28, x29, x30, x31, x32, x33, x34, x35, x36, x37, x38, x39, x40, x41, x42, x43, x44, x45, .ref h46, x47, x48, x49, x50, .ref h51, x52, x53, x54, .ref h55, x56, x57, x58, x59, .int 0, x60, x61, x62, x63, x64, x65, x66, x67, x68, x69, x70, x71, x72])), (h10, .inl (aC 0, 14, .inl (fun _ => 0))), (h46, .inl (aC 0, 6, .inl (fun _ => 0))), (h51, .inl (aC 0, 5, .inl (fun _ => 0))), (h55, .inl (aC 0, 13, .inl (fun _ => 0)))] := hD
  try dsimp only at hw
  subst hw
  refine lv_if_ne (tgt := 17) hx hb dX11_count_12 (by decide) (fun _ => ?_) (fun c_ => absurd c_ (by decide +kernel))
  refine lv_iload_n hx hb dX11_count_17 rfl (lv_at hl 1 rfl) ?_
  refine lv_iconst (v := 5) hx hb dX11_count_18 (by decide) ?_
  refine lv_icmp_ge (tgt := 29) hx hb dX11_count_19 (by decide) (fun c_ => absurd c_ (by decide +kernel)) (fun _ => ?_)
  refine lv_aload_n hx hb dX11_count_22 rfl (lv_at hl 0 rfl) ?_
  refine xget F hP 0 rfl rfl inX11 10 (by decide) tb1192 rfl dX11_count_23 ?_
  refine lv_iload_n hx hb dX11_count_26 rfl (lv_at hl 1 rfl) ?_
  refine xilo (v := 0) F hP 1 rfl 0 (by decide +kernel) (by decide +kernel) (by decide) (by decide +kernel) dX11_count_27 ?_
  have hP9 := hP.sub (ws' := []) [] rfl
  have hD9 := hD.sub (ws' := []) [] (by decide) rfl
  exact rI () hx hb hr hlk rfl hS rfl hP9 hD9 (Nat.le_of_ble_eq_true rfl) (Nat.le_of_ble_eq_true rfl) dX11_count_28

set_option maxHeartbeats 4000000 in
set_option maxRecDepth 100000 in
theorem m_count_1 (l : Launch) (g : va_G) (aC : Nat → ClassId) (aM : Nat → Nat) (h1 h10 h46 h51 h55 : Nat) (x2 x3 x4 x5 x6 x7 x8 x9 x11 x12 x13 x14 x15 x16 x17 x18 x19 x20 x21 x22 x23 x24 x25 x26 x27 x28 x29 x30 x31 x32 x33 x34 x35 x36 x37 x38 x39 x40 x41 x42 x43 x44 x45 x47 x48 x49 x50 x52 x53 x54 x56 x57 x58 x59 x60 x61 x62 x63 x64 x65 x66 x67 x68 x69 x70 x71 x72 : Value) : Ct l g aC aM yX11_count cX11_count 2 (some .int) 2 [.ref h1, .int 1] [(h1, .inr (11, [.int 0, .int 0, x2, x3, x4, x5, x6, x7, x8, x9, .ref h10, x11, x12, x13, x14, x15, x16, x17, x18, x19, x20, x21, x22, x23, x24, x25, x26, x27, x28, x29, x30, x31, x32, x33, x34, x35, x36, x37, x38, x39, x40, x41, x42, x43, x44, x45, .ref h46, x47, x48, x49, x50, .ref h51, x52, x53, x54, .ref h55, x56, x57, x58, x59, .int 0, x60, x61, x62, x63, x64, x65, x66, x67, x68, x69, x70, x71, x72])), (h10, .inl (aC 0, 14, .inl (fun _ => 0))), (h46, .inl (aC 0, 6, .inl (fun _ => 0))), (h51, .inl (aC 0, 5, .inl (fun _ => 0))), (h55, .inl (aC 0, 13, .inl (fun _ => 0)))] (QI g (fun (r : Int32) (_ : Unit) => r = 0) (fun (_ : Unit) => [])) 0 0 := by
  refine Ct.mk (by decide) (Nat.le_of_ble_eq_true rfl) ?_
  intro p e s m below meth c A ls hx hb hml hown hts hr hlk hnm hK hA hM hM2 hP hD hS hl
  have hown : s.vm.findClass RX11 = some m.cls := hown
  have F : Fx p s m _ c cX11_count 2 RX11 g aC aM A := ⟨hx, hb, hml, hown, hts, hK, hA, hM, hM2⟩
  have hl : lv_has ls 2 [(0, .ref h1), (1, .int 1)] := hl
  refine lv_aload_n hx hb dX11_count_0 rfl (lv_at hl 0 rfl) ?_
  refine lv_iconst (v := 0) hx hb dX11_count_1 (by decide) ?_
  refine xput F hP hD hS 0 rfl rfl inX11 tyX11_ok nmX11 0 (by decide) tb1182 rfl rfl rfl (Nat.le_of_ble_eq_true rfl) dX11_count_2 (fun H locs hP hD hS => ?_)
  have hP : va_P g vwCl [(h1, .inr (11, [.int 0, .int 0, x2, x3, x4, x5, x6, x7, x8, x9, .ref h10, x11, x12, x13, x14, x15, x16, x17, x18, x19, x20, x21, x22, x23, x24, x25, x26, x27, x28, x29, x30, x31, x32, x33, x34, x35, x36, x37, x38, x39, x40, x41, x42, x43, x44, x45, .ref h46, x47, x48, x49, x50, .ref h51, x52, x53, x54, .ref h55, x56, x57, x58, x59, .int 0, x60, x61, x62, x63, x64, x65, x66, x67, x68, x69, x70, x71, x72])), (h10, .inl (aC 0, 14, .inl (fun _ => 0))), (h46, .inl (aC 0, 6, .inl (fun _ => 0))), (h51, .inl (aC 0, 5, .inl (fun _ => 0))), (h55, .inl (aC 0, 13, .inl (fun _ => 0)))] H := hP
  have hD : va_D A [(h1, .inr (11, [.int 0, .int 0, x2, x3, x4, x5, x6, x7, x8, x9, .ref h10, x11, x12, x13, x14, x15, x16, x17, x18, x19, x20, x21, x22, x23, x24, x25, x26, x27, x28, x29, x30, x31, x32, x33, x34, x35, x36, x37, x38, x39, x40, x41, x42, x43, x44, x45, .ref h46, x47, x48, x49, x50, .ref h51, x52, x53, x54, .ref h55, x56, x57, x58, x59, .int 0, x60, x61, x62, x63, x64, x65, x66, x67, x68, x69, x70, x71, x72])), (h10, .inl (aC 0, 14, .inl (fun _ => 0))), (h46, .inl (aC 0, 6, .inl (fun _ => 0))), (h51, .inl (aC 0, 5, .inl (fun _ => 0))), (h55, .inl (aC 0, 13, .inl (fun _ => 0)))] := hD
  refine lv_iload_n hx hb dX11_count_5 rfl (lv_at hl 1 rfl) ?_
  refine lv_iconst (v := 0) hx hb dX11_count_6 (by decide) ?_
  refine lv_bipush (v := 12) hx hb dX11_count_7 (by decide) ?_
  refine goI (wr := [(h1, .inr (11, [.int 0, .int 0, x2, x3, x4, x5, x6, x7, x8, x9, .ref h10, x11, x12, x13, x14, x15, x16, x17, x18, x19, x20, x21, x22, x23, x24, x25, x26, x27, x28, x29, x30, x31, x32, x33, x34, x35, x36, x37, x38, x39, x40, x41, x42, x43, x44, x45, .ref h46, x47, x48, x49, x50, .ref h51, x52, x53, x54, .ref h55, x56, x57, x58, x59, .int 0, x60, x61, x62, x63, x64, x65, x66, x67, x68, x69, x70, x71, x72])), (h10, .inl (aC 0, 14, .inl (fun _ => 0))), (h46, .inl (aC 0, 6, .inl (fun _ => 0))), (h51, .inl (aC 0, 5, .inl (fun _ => 0))), (h55, .inl (aC 0, 13, .inl (fun _ => 0)))]) (runS (n := 3) (As := [.int 1, .int 0, .int 12]) (rest := []) F hP hD hS (a_X11_within_5 l g aC aM ) [] (by decide) rfl tb1511 tb1509 tb1510 tb17 ⟨by decide, by decide, by decide +kernel⟩ ⟨Nat.le_of_ble_eq_true rfl, Nat.le_of_ble_eq_true rfl⟩ rfl hl.1 rfl (Nat.le_of_ble_eq_true rfl) dX11_count_9 ⟨Nat.le_of_ble_eq_true rfl, Nat.le_of_ble_eq_true rfl⟩) hP hD hS hA [] [0, 1, 2, 3, 4] rfl rfl (by decide) (by decide) (fun r_2 w3 H locs hw hP hD hS => ?_)
  have hP : va_P g vwCl [(h1, .inr (11, [.int 0, .int 0, x2, x3, x4, x5, x6, x7, x8, x9, .ref h10, x11, x12, x13, x14, x15, x16, x17, x18, x19, x20, x21, x22, x23, x24, x25, x26, x27, x28, x29, x30, x31, x32, x33, x34, x35, x36, x37, x38, x39, x40, x41, x42, x43, x44, x45, .ref h46, x47, x48, x49, x50, .ref h51, x52, x53, x54, .ref h55, x56, x57, x58, x59, .int 0, x60, x61, x62, x63, x64, x65, x66, x67, x68, x69, x70, x71, x72])), (h10, .inl (aC 0, 14, .inl (fun _ => 0))), (h46, .inl (aC 0, 6, .inl (fun _ => 0))), (h51, .inl (aC 0, 5, .inl (fun _ => 0))), (h55, .inl (aC 0, 13, .inl (fun _ => 0)))] H := hP
  have hD : va_D A [(h1, .inr (11, [.int 0, .int 0, x2, x3, x4, x5, x6, x7, x8, x9, .ref h10, x11, x12, x13, x14, x15, x16, x17, x18, x19, x20, x21, x22, x23, x24, x25, x26, x27, x28, x29, x30, x31, x32, x33, x34, x35, x36, x37, x38, x39, x40, x41, x42, x43, x44, x45, .ref h46, x47, x48, x49, x50, .ref h51, x52, x53, x54, .ref h55, x56, x57, x58, x59, .int 0, x60, x61, x62, x63, x64, x65, x66, x67, x68, x69, x70, x71, x72])), (h10, .inl (aC 0, 14, .inl (fun _ => 0))), (h46, .inl (aC 0, 6, .inl (fun _ => 0))), (h51, .inl (aC 0, 5, .inl (fun _ => 0))), (h55, .inl (aC 0, 13, .inl (fun _ => 0)))] := hD
  try dsimp only at hw
  subst hw
  refine lv_if_ne (tgt := 17) hx hb dX11_count_12 (by decide) (fun _ => ?_) (fun c_ => absurd c_ (by decide +kernel))
  refine lv_iload_n hx hb dX11_count_17 rfl (lv_at hl 1 rfl) ?_
  refine lv_iconst (v := 5) hx hb dX11_count_18 (by decide) ?_
  refine lv_icmp_ge (tgt := 29) hx hb dX11_count_19 (by decide) (fun c_ => absurd c_ (by decide +kernel)) (fun _ => ?_)
  refine lv_aload_n hx hb dX11_count_22 rfl (lv_at hl 0 rfl) ?_
  refine xget F hP 0 rfl rfl inX11 10 (by decide) tb1192 rfl dX11_count_23 ?_
  refine lv_iload_n hx hb dX11_count_26 rfl (lv_at hl 1 rfl) ?_
  refine xilo (v := 0) F hP 1 rfl 1 (by decide +kernel) (by decide +kernel) (by decide) (by decide +kernel) dX11_count_27 ?_
  have hP9 := hP.sub (ws' := []) [] rfl
  have hD9 := hD.sub (ws' := []) [] (by decide) rfl
  exact rI () hx hb hr hlk rfl hS rfl hP9 hD9 (Nat.le_of_ble_eq_true rfl) (Nat.le_of_ble_eq_true rfl) dX11_count_28

set_option maxHeartbeats 4000000 in
set_option maxRecDepth 100000 in
theorem m_count_2 (l : Launch) (g : va_G) (aC : Nat → ClassId) (aM : Nat → Nat) (h1 h10 h46 h51 h55 : Nat) (x2 x3 x4 x5 x6 x7 x8 x9 x11 x12 x13 x14 x15 x16 x17 x18 x19 x20 x21 x22 x23 x24 x25 x26 x27 x28 x29 x30 x31 x32 x33 x34 x35 x36 x37 x38 x39 x40 x41 x42 x43 x44 x45 x47 x48 x49 x50 x52 x53 x54 x56 x57 x58 x59 x60 x61 x62 x63 x64 x65 x66 x67 x68 x69 x70 x71 x72 : Value) : Ct l g aC aM yX11_count cX11_count 2 (some .int) 2 [.ref h1, .int 2] [(h1, .inr (11, [.int 0, .int 0, x2, x3, x4, x5, x6, x7, x8, x9, .ref h10, x11, x12, x13, x14, x15, x16, x17, x18, x19, x20, x21, x22, x23, x24, x25, x26, x27, x28, x29, x30, x31, x32, x33, x34, x35, x36, x37, x38, x39, x40, x41, x42, x43, x44, x45, .ref h46, x47, x48, x49, x50, .ref h51, x52, x53, x54, .ref h55, x56, x57, x58, x59, .int 0, x60, x61, x62, x63, x64, x65, x66, x67, x68, x69, x70, x71, x72])), (h10, .inl (aC 0, 14, .inl (fun _ => 0))), (h46, .inl (aC 0, 6, .inl (fun _ => 0))), (h51, .inl (aC 0, 5, .inl (fun _ => 0))), (h55, .inl (aC 0, 13, .inl (fun _ => 0)))] (QI g (fun (r : Int32) (_ : Unit) => r = 0) (fun (_ : Unit) => [])) 0 0 := by
  refine Ct.mk (by decide) (Nat.le_of_ble_eq_true rfl) ?_
  intro p e s m below meth c A ls hx hb hml hown hts hr hlk hnm hK hA hM hM2 hP hD hS hl
  have hown : s.vm.findClass RX11 = some m.cls := hown
  have F : Fx p s m _ c cX11_count 2 RX11 g aC aM A := ⟨hx, hb, hml, hown, hts, hK, hA, hM, hM2⟩
  have hl : lv_has ls 2 [(0, .ref h1), (1, .int 2)] := hl
  refine lv_aload_n hx hb dX11_count_0 rfl (lv_at hl 0 rfl) ?_
  refine lv_iconst (v := 0) hx hb dX11_count_1 (by decide) ?_
  refine xput F hP hD hS 0 rfl rfl inX11 tyX11_ok nmX11 0 (by decide) tb1182 rfl rfl rfl (Nat.le_of_ble_eq_true rfl) dX11_count_2 (fun H locs hP hD hS => ?_)
  have hP : va_P g vwCl [(h1, .inr (11, [.int 0, .int 0, x2, x3, x4, x5, x6, x7, x8, x9, .ref h10, x11, x12, x13, x14, x15, x16, x17, x18, x19, x20, x21, x22, x23, x24, x25, x26, x27, x28, x29, x30, x31, x32, x33, x34, x35, x36, x37, x38, x39, x40, x41, x42, x43, x44, x45, .ref h46, x47, x48, x49, x50, .ref h51, x52, x53, x54, .ref h55, x56, x57, x58, x59, .int 0, x60, x61, x62, x63, x64, x65, x66, x67, x68, x69, x70, x71, x72])), (h10, .inl (aC 0, 14, .inl (fun _ => 0))), (h46, .inl (aC 0, 6, .inl (fun _ => 0))), (h51, .inl (aC 0, 5, .inl (fun _ => 0))), (h55, .inl (aC 0, 13, .inl (fun _ => 0)))] H := hP
  have hD : va_D A [(h1, .inr (11, [.int 0, .int 0, x2, x3, x4, x5, x6, x7, x8, x9, .ref h10, x11, x12, x13, x14, x15, x16, x17, x18, x19, x20, x21, x22, x23, x24, x25, x26, x27, x28, x29, x30, x31, x32, x33, x34, x35, x36, x37, x38, x39, x40, x41, x42, x43, x44, x45, .ref h46, x47, x48, x49, x50, .ref h51, x52, x53, x54, .ref h55, x56, x57, x58, x59, .int 0, x60, x61, x62, x63, x64, x65, x66, x67, x68, x69, x70, x71, x72])), (h10, .inl (aC 0, 14, .inl (fun _ => 0))), (h46, .inl (aC 0, 6, .inl (fun _ => 0))), (h51, .inl (aC 0, 5, .inl (fun _ => 0))), (h55, .inl (aC 0, 13, .inl (fun _ => 0)))] := hD
  refine lv_iload_n hx hb dX11_count_5 rfl (lv_at hl 1 rfl) ?_
  refine lv_iconst (v := 0) hx hb dX11_count_6 (by decide) ?_
  refine lv_bipush (v := 12) hx hb dX11_count_7 (by decide) ?_
  refine goI (wr := [(h1, .inr (11, [.int 0, .int 0, x2, x3, x4, x5, x6, x7, x8, x9, .ref h10, x11, x12, x13, x14, x15, x16, x17, x18, x19, x20, x21, x22, x23, x24, x25, x26, x27, x28, x29, x30, x31, x32, x33, x34, x35, x36, x37, x38, x39, x40, x41, x42, x43, x44, x45, .ref h46, x47, x48, x49, x50, .ref h51, x52, x53, x54, .ref h55, x56, x57, x58, x59, .int 0, x60, x61, x62, x63, x64, x65, x66, x67, x68, x69, x70, x71, x72])), (h10, .inl (aC 0, 14, .inl (fun _ => 0))), (h46, .inl (aC 0, 6, .inl (fun _ => 0))), (h51, .inl (aC 0, 5, .inl (fun _ => 0))), (h55, .inl (aC 0, 13, .inl (fun _ => 0)))]) (runS (n := 3) (As := [.int 2, .int 0, .int 12]) (rest := []) F hP hD hS (a_X11_within_6 l g aC aM ) [] (by decide) rfl tb1511 tb1509 tb1510 tb17 ⟨by decide, by decide, by decide +kernel⟩ ⟨Nat.le_of_ble_eq_true rfl, Nat.le_of_ble_eq_true rfl⟩ rfl hl.1 rfl (Nat.le_of_ble_eq_true rfl) dX11_count_9 ⟨Nat.le_of_ble_eq_true rfl, Nat.le_of_ble_eq_true rfl⟩) hP hD hS hA [] [0, 1, 2, 3, 4] rfl rfl (by decide) (by decide) (fun r_2 w3 H locs hw hP hD hS => ?_)
  have hP : va_P g vwCl [(h1, .inr (11, [.int 0, .int 0, x2, x3, x4, x5, x6, x7, x8, x9, .ref h10, x11, x12, x13, x14, x15, x16, x17, x18, x19, x20, x21, x22, x23, x24, x25, x26, x27, x28, x29, x30, x31, x32, x33, x34, x35, x36, x37, x38, x39, x40, x41, x42, x43, x44, x45, .ref h46, x47, x48, x49, x50, .ref h51, x52, x53, x54, .ref h55, x56, x57, x58, x59, .int 0, x60, x61, x62, x63, x64, x65, x66, x67, x68, x69, x70, x71, x72])), (h10, .inl (aC 0, 14, .inl (fun _ => 0))), (h46, .inl (aC 0, 6, .inl (fun _ => 0))), (h51, .inl (aC 0, 5, .inl (fun _ => 0))), (h55, .inl (aC 0, 13, .inl (fun _ => 0)))] H := hP
  have hD : va_D A [(h1, .inr (11, [.int 0, .int 0, x2, x3, x4, x5, x6, x7, x8, x9, .ref h10, x11, x12, x13, x14, x15, x16, x17, x18, x19, x20, x21, x22, x23, x24, x25, x26, x27, x28, x29, x30, x31, x32, x33, x34, x35, x36, x37, x38, x39, x40, x41, x42, x43, x44, x45, .ref h46, x47, x48, x49, x50, .ref h51, x52, x53, x54, .ref h55, x56, x57, x58, x59, .int 0, x60, x61, x62, x63, x64, x65, x66, x67, x68, x69, x70, x71, x72])), (h10, .inl (aC 0, 14, .inl (fun _ => 0))), (h46, .inl (aC 0, 6, .inl (fun _ => 0))), (h51, .inl (aC 0, 5, .inl (fun _ => 0))), (h55, .inl (aC 0, 13, .inl (fun _ => 0)))] := hD
  try dsimp only at hw
  subst hw
  refine lv_if_ne (tgt := 17) hx hb dX11_count_12 (by decide) (fun _ => ?_) (fun c_ => absurd c_ (by decide +kernel))
  refine lv_iload_n hx hb dX11_count_17 rfl (lv_at hl 1 rfl) ?_
  refine lv_iconst (v := 5) hx hb dX11_count_18 (by decide) ?_
  refine lv_icmp_ge (tgt := 29) hx hb dX11_count_19 (by decide) (fun c_ => absurd c_ (by decide +kernel)) (fun _ => ?_)
  refine lv_aload_n hx hb dX11_count_22 rfl (lv_at hl 0 rfl) ?_
  refine xget F hP 0 rfl rfl inX11 10 (by decide) tb1192 rfl dX11_count_23 ?_
  refine lv_iload_n hx hb dX11_count_26 rfl (lv_at hl 1 rfl) ?_
  refine xilo (v := 0) F hP 1 rfl 2 (by decide +kernel) (by decide +kernel) (by decide) (by decide +kernel) dX11_count_27 ?_
  have hP9 := hP.sub (ws' := []) [] rfl
  have hD9 := hD.sub (ws' := []) [] (by decide) rfl
  exact rI () hx hb hr hlk rfl hS rfl hP9 hD9 (Nat.le_of_ble_eq_true rfl) (Nat.le_of_ble_eq_true rfl) dX11_count_28

set_option maxHeartbeats 4000000 in
set_option maxRecDepth 100000 in
theorem m_count_3 (l : Launch) (g : va_G) (aC : Nat → ClassId) (aM : Nat → Nat) (h1 h10 h46 h51 h55 : Nat) (x2 x3 x4 x5 x6 x7 x8 x9 x11 x12 x13 x14 x15 x16 x17 x18 x19 x20 x21 x22 x23 x24 x25 x26 x27 x28 x29 x30 x31 x32 x33 x34 x35 x36 x37 x38 x39 x40 x41 x42 x43 x44 x45 x47 x48 x49 x50 x52 x53 x54 x56 x57 x58 x59 x60 x61 x62 x63 x64 x65 x66 x67 x68 x69 x70 x71 x72 : Value) : Ct l g aC aM yX11_count cX11_count 2 (some .int) 2 [.ref h1, .int 3] [(h1, .inr (11, [.int 0, .int 0, x2, x3, x4, x5, x6, x7, x8, x9, .ref h10, x11, x12, x13, x14, x15, x16, x17, x18, x19, x20, x21, x22, x23, x24, x25, x26, x27, x28, x29, x30, x31, x32, x33, x34, x35, x36, x37, x38, x39, x40, x41, x42, x43, x44, x45, .ref h46, x47, x48, x49, x50, .ref h51, x52, x53, x54, .ref h55, x56, x57, x58, x59, .int 0, x60, x61, x62, x63, x64, x65, x66, x67, x68, x69, x70, x71, x72])), (h10, .inl (aC 0, 14, .inl (fun _ => 0))), (h46, .inl (aC 0, 6, .inl (fun _ => 0))), (h51, .inl (aC 0, 5, .inl (fun _ => 0))), (h55, .inl (aC 0, 13, .inl (fun _ => 0)))] (QI g (fun (r : Int32) (_ : Unit) => r = 0) (fun (_ : Unit) => [])) 0 0 := by
  refine Ct.mk (by decide) (Nat.le_of_ble_eq_true rfl) ?_
  intro p e s m below meth c A ls hx hb hml hown hts hr hlk hnm hK hA hM hM2 hP hD hS hl
  have hown : s.vm.findClass RX11 = some m.cls := hown
  have F : Fx p s m _ c cX11_count 2 RX11 g aC aM A := ⟨hx, hb, hml, hown, hts, hK, hA, hM, hM2⟩
  have hl : lv_has ls 2 [(0, .ref h1), (1, .int 3)] := hl
  refine lv_aload_n hx hb dX11_count_0 rfl (lv_at hl 0 rfl) ?_
  refine lv_iconst (v := 0) hx hb dX11_count_1 (by decide) ?_
  refine xput F hP hD hS 0 rfl rfl inX11 tyX11_ok nmX11 0 (by decide) tb1182 rfl rfl rfl (Nat.le_of_ble_eq_true rfl) dX11_count_2 (fun H locs hP hD hS => ?_)
  have hP : va_P g vwCl [(h1, .inr (11, [.int 0, .int 0, x2, x3, x4, x5, x6, x7, x8, x9, .ref h10, x11, x12, x13, x14, x15, x16, x17, x18, x19, x20, x21, x22, x23, x24, x25, x26, x27, x28, x29, x30, x31, x32, x33, x34, x35, x36, x37, x38, x39, x40, x41, x42, x43, x44, x45, .ref h46, x47, x48, x49, x50, .ref h51, x52, x53, x54, .ref h55, x56, x57, x58, x59, .int 0, x60, x61, x62, x63, x64, x65, x66, x67, x68, x69, x70, x71, x72])), (h10, .inl (aC 0, 14, .inl (fun _ => 0))), (h46, .inl (aC 0, 6, .inl (fun _ => 0))), (h51, .inl (aC 0, 5, .inl (fun _ => 0))), (h55, .inl (aC 0, 13, .inl (fun _ => 0)))] H := hP
  have hD : va_D A [(h1, .inr (11, [.int 0, .int 0, x2, x3, x4, x5, x6, x7, x8, x9, .ref h10, x11, x12, x13, x14, x15, x16, x17, x18, x19, x20, x21, x22, x23, x24, x25, x26, x27, x28, x29, x30, x31, x32, x33, x34, x35, x36, x37, x38, x39, x40, x41, x42, x43, x44, x45, .ref h46, x47, x48, x49, x50, .ref h51, x52, x53, x54, .ref h55, x56, x57, x58, x59, .int 0, x60, x61, x62, x63, x64, x65, x66, x67, x68, x69, x70, x71, x72])), (h10, .inl (aC 0, 14, .inl (fun _ => 0))), (h46, .inl (aC 0, 6, .inl (fun _ => 0))), (h51, .inl (aC 0, 5, .inl (fun _ => 0))), (h55, .inl (aC 0, 13, .inl (fun _ => 0)))] := hD
  refine lv_iload_n hx hb dX11_count_5 rfl (lv_at hl 1 rfl) ?_
  refine lv_iconst (v := 0) hx hb dX11_count_6 (by decide) ?_
  refine lv_bipush (v := 12) hx hb dX11_count_7 (by decide) ?_
  refine goI (wr := [(h1, .inr (11, [.int 0, .int 0, x2, x3, x4, x5, x6, x7, x8, x9, .ref h10, x11, x12, x13, x14, x15, x16, x17, x18, x19, x20, x21, x22, x23, x24, x25, x26, x27, x28, x29, x30, x31, x32, x33, x34, x35, x36, x37, x38, x39, x40, x41, x42, x43, x44, x45, .ref h46, x47, x48, x49, x50, .ref h51, x52, x53, x54, .ref h55, x56, x57, x58, x59, .int 0, x60, x61, x62, x63, x64, x65, x66, x67, x68, x69, x70, x71, x72])), (h10, .inl (aC 0, 14, .inl (fun _ => 0))), (h46, .inl (aC 0, 6, .inl (fun _ => 0))), (h51, .inl (aC 0, 5, .inl (fun _ => 0))), (h55, .inl (aC 0, 13, .inl (fun _ => 0)))]) (runS (n := 3) (As := [.int 3, .int 0, .int 12]) (rest := []) F hP hD hS (a_X11_within_7 l g aC aM ) [] (by decide) rfl tb1511 tb1509 tb1510 tb17 ⟨by decide, by decide, by decide +kernel⟩ ⟨Nat.le_of_ble_eq_true rfl, Nat.le_of_ble_eq_true rfl⟩ rfl hl.1 rfl (Nat.le_of_ble_eq_true rfl) dX11_count_9 ⟨Nat.le_of_ble_eq_true rfl, Nat.le_of_ble_eq_true rfl⟩) hP hD hS hA [] [0, 1, 2, 3, 4] rfl rfl (by decide) (by decide) (fun r_2 w3 H locs hw hP hD hS => ?_)
  have hP : va_P g vwCl [(h1, .inr (11, [.int 0, .int 0, x2, x3, x4, x5, x6, x7, x8, x9, .ref h10, x11, x12, x13, x14, x15, x16, x17, x18, x19, x20, x21, x22, x23, x24, x25, x26, x27, x28, x29, x30, x31, x32, x33, x34, x35, x36, x37, x38, x39, x40, x41, x42, x43, x44, x45, .ref h46, x47, x48, x49, x50, .ref h51, x52, x53, x54, .ref h55, x56, x57, x58, x59, .int 0, x60, x61, x62, x63, x64, x65, x66, x67, x68, x69, x70, x71, x72])), (h10, .inl (aC 0, 14, .inl (fun _ => 0))), (h46, .inl (aC 0, 6, .inl (fun _ => 0))), (h51, .inl (aC 0, 5, .inl (fun _ => 0))), (h55, .inl (aC 0, 13, .inl (fun _ => 0)))] H := hP
  have hD : va_D A [(h1, .inr (11, [.int 0, .int 0, x2, x3, x4, x5, x6, x7, x8, x9, .ref h10, x11, x12, x13, x14, x15, x16, x17, x18, x19, x20, x21, x22, x23, x24, x25, x26, x27, x28, x29, x30, x31, x32, x33, x34, x35, x36, x37, x38, x39, x40, x41, x42, x43, x44, x45, .ref h46, x47, x48, x49, x50, .ref h51, x52, x53, x54, .ref h55, x56, x57, x58, x59, .int 0, x60, x61, x62, x63, x64, x65, x66, x67, x68, x69, x70, x71, x72])), (h10, .inl (aC 0, 14, .inl (fun _ => 0))), (h46, .inl (aC 0, 6, .inl (fun _ => 0))), (h51, .inl (aC 0, 5, .inl (fun _ => 0))), (h55, .inl (aC 0, 13, .inl (fun _ => 0)))] := hD
  try dsimp only at hw
  subst hw
  refine lv_if_ne (tgt := 17) hx hb dX11_count_12 (by decide) (fun _ => ?_) (fun c_ => absurd c_ (by decide +kernel))
  refine lv_iload_n hx hb dX11_count_17 rfl (lv_at hl 1 rfl) ?_
  refine lv_iconst (v := 5) hx hb dX11_count_18 (by decide) ?_
  refine lv_icmp_ge (tgt := 29) hx hb dX11_count_19 (by decide) (fun c_ => absurd c_ (by decide +kernel)) (fun _ => ?_)
  refine lv_aload_n hx hb dX11_count_22 rfl (lv_at hl 0 rfl) ?_
  refine xget F hP 0 rfl rfl inX11 10 (by decide) tb1192 rfl dX11_count_23 ?_
  refine lv_iload_n hx hb dX11_count_26 rfl (lv_at hl 1 rfl) ?_
  refine xilo (v := 0) F hP 1 rfl 3 (by decide +kernel) (by decide +kernel) (by decide) (by decide +kernel) dX11_count_27 ?_
  have hP9 := hP.sub (ws' := []) [] rfl
  have hD9 := hD.sub (ws' := []) [] (by decide) rfl
  exact rI () hx hb hr hlk rfl hS rfl hP9 hD9 (Nat.le_of_ble_eq_true rfl) (Nat.le_of_ble_eq_true rfl) dX11_count_28

set_option maxHeartbeats 4000000 in
set_option maxRecDepth 100000 in
theorem m_count_4 (l : Launch) (g : va_G) (aC : Nat → ClassId) (aM : Nat → Nat) (h1 h10 h46 h51 h55 : Nat) (x2 x3 x4 x5 x6 x7 x8 x9 x11 x12 x13 x14 x15 x16 x17 x18 x19 x20 x21 x22 x23 x24 x25 x26 x27 x28 x29 x30 x31 x32 x33 x34 x35 x36 x37 x38 x39 x40 x41 x42 x43 x44 x45 x47 x48 x49 x50 x52 x53 x54 x56 x57 x58 x59 x60 x61 x62 x63 x64 x65 x66 x67 x68 x69 x70 x71 x72 : Value) : Ct l g aC aM yX11_count cX11_count 2 (some .int) 2 [.ref h1, .int 4] [(h1, .inr (11, [.int 0, .int 0, x2, x3, x4, x5, x6, x7, x8, x9, .ref h10, x11, x12, x13, x14, x15, x16, x17, x18, x19, x20, x21, x22, x23, x24, x25, x26, x27, x28, x29, x30, x31, x32, x33, x34, x35, x36, x37, x38, x39, x40, x41, x42, x43, x44, x45, .ref h46, x47, x48, x49, x50, .ref h51, x52, x53, x54, .ref h55, x56, x57, x58, x59, .int 0, x60, x61, x62, x63, x64, x65, x66, x67, x68, x69, x70, x71, x72])), (h10, .inl (aC 0, 14, .inl (fun _ => 0))), (h46, .inl (aC 0, 6, .inl (fun _ => 0))), (h51, .inl (aC 0, 5, .inl (fun _ => 0))), (h55, .inl (aC 0, 13, .inl (fun _ => 0)))] (QI g (fun (r : Int32) (_ : Unit) => r = 0) (fun (_ : Unit) => [])) 0 0 := by
  refine Ct.mk (by decide) (Nat.le_of_ble_eq_true rfl) ?_
  intro p e s m below meth c A ls hx hb hml hown hts hr hlk hnm hK hA hM hM2 hP hD hS hl
  have hown : s.vm.findClass RX11 = some m.cls := hown
  have F : Fx p s m _ c cX11_count 2 RX11 g aC aM A := ⟨hx, hb, hml, hown, hts, hK, hA, hM, hM2⟩
  have hl : lv_has ls 2 [(0, .ref h1), (1, .int 4)] := hl
  refine lv_aload_n hx hb dX11_count_0 rfl (lv_at hl 0 rfl) ?_
  refine lv_iconst (v := 0) hx hb dX11_count_1 (by decide) ?_
  refine xput F hP hD hS 0 rfl rfl inX11 tyX11_ok nmX11 0 (by decide) tb1182 rfl rfl rfl (Nat.le_of_ble_eq_true rfl) dX11_count_2 (fun H locs hP hD hS => ?_)
  have hP : va_P g vwCl [(h1, .inr (11, [.int 0, .int 0, x2, x3, x4, x5, x6, x7, x8, x9, .ref h10, x11, x12, x13, x14, x15, x16, x17, x18, x19, x20, x21, x22, x23, x24, x25, x26, x27, x28, x29, x30, x31, x32, x33, x34, x35, x36, x37, x38, x39, x40, x41, x42, x43, x44, x45, .ref h46, x47, x48, x49, x50, .ref h51, x52, x53, x54, .ref h55, x56, x57, x58, x59, .int 0, x60, x61, x62, x63, x64, x65, x66, x67, x68, x69, x70, x71, x72])), (h10, .inl (aC 0, 14, .inl (fun _ => 0))), (h46, .inl (aC 0, 6, .inl (fun _ => 0))), (h51, .inl (aC 0, 5, .inl (fun _ => 0))), (h55, .inl (aC 0, 13, .inl (fun _ => 0)))] H := hP
  have hD : va_D A [(h1, .inr (11, [.int 0, .int 0, x2, x3, x4, x5, x6, x7, x8, x9, .ref h10, x11, x12, x13, x14, x15, x16, x17, x18, x19, x20, x21, x22, x23, x24, x25, x26, x27, x28, x29, x30, x31, x32, x33, x34, x35, x36, x37, x38, x39, x40, x41, x42, x43, x44, x45, .ref h46, x47, x48, x49, x50, .ref h51, x52, x53, x54, .ref h55, x56, x57, x58, x59, .int 0, x60, x61, x62, x63, x64, x65, x66, x67, x68, x69, x70, x71, x72])), (h10, .inl (aC 0, 14, .inl (fun _ => 0))), (h46, .inl (aC 0, 6, .inl (fun _ => 0))), (h51, .inl (aC 0, 5, .inl (fun _ => 0))), (h55, .inl (aC 0, 13, .inl (fun _ => 0)))] := hD
  refine lv_iload_n hx hb dX11_count_5 rfl (lv_at hl 1 rfl) ?_
  refine lv_iconst (v := 0) hx hb dX11_count_6 (by decide) ?_
  refine lv_bipush (v := 12) hx hb dX11_count_7 (by decide) ?_
  refine goI (wr := [(h1, .inr (11, [.int 0, .int 0, x2, x3, x4, x5, x6, x7, x8, x9, .ref h10, x11, x12, x13, x14, x15, x16, x17, x18, x19, x20, x21, x22, x23, x24, x25, x26, x27, x28, x29, x30, x31, x32, x33, x34, x35, x36, x37, x38, x39, x40, x41, x42, x43, x44, x45, .ref h46, x47, x48, x49, x50, .ref h51, x52, x53, x54, .ref h55, x56, x57, x58, x59, .int 0, x60, x61, x62, x63, x64, x65, x66, x67, x68, x69, x70, x71, x72])), (h10, .inl (aC 0, 14, .inl (fun _ => 0))), (h46, .inl (aC 0, 6, .inl (fun _ => 0))), (h51, .inl (aC 0, 5, .inl (fun _ => 0))), (h55, .inl (aC 0, 13, .inl (fun _ => 0)))]) (runS (n := 3) (As := [.int 4, .int 0, .int 12]) (rest := []) F hP hD hS (a_X11_within_8 l g aC aM ) [] (by decide) rfl tb1511 tb1509 tb1510 tb17 ⟨by decide, by decide, by decide +kernel⟩ ⟨Nat.le_of_ble_eq_true rfl, Nat.le_of_ble_eq_true rfl⟩ rfl hl.1 rfl (Nat.le_of_ble_eq_true rfl) dX11_count_9 ⟨Nat.le_of_ble_eq_true rfl, Nat.le_of_ble_eq_true rfl⟩) hP hD hS hA [] [0, 1, 2, 3, 4] rfl rfl (by decide) (by decide) (fun r_2 w3 H locs hw hP hD hS => ?_)
  have hP : va_P g vwCl [(h1, .inr (11, [.int 0, .int 0, x2, x3, x4, x5, x6, x7, x8, x9, .ref h10, x11, x12, x13, x14, x15, x16, x17, x18, x19, x20, x21, x22, x23, x24, x25, x26, x27, x28, x29, x30, x31, x32, x33, x34, x35, x36, x37, x38, x39, x40, x41, x42, x43, x44, x45, .ref h46, x47, x48, x49, x50, .ref h51, x52, x53, x54, .ref h55, x56, x57, x58, x59, .int 0, x60, x61, x62, x63, x64, x65, x66, x67, x68, x69, x70, x71, x72])), (h10, .inl (aC 0, 14, .inl (fun _ => 0))), (h46, .inl (aC 0, 6, .inl (fun _ => 0))), (h51, .inl (aC 0, 5, .inl (fun _ => 0))), (h55, .inl (aC 0, 13, .inl (fun _ => 0)))] H := hP
  have hD : va_D A [(h1, .inr (11, [.int 0, .int 0, x2, x3, x4, x5, x6, x7, x8, x9, .ref h10, x11, x12, x13, x14, x15, x16, x17, x18, x19, x20, x21, x22, x23, x24, x25, x26, x27, x28, x29, x30, x31, x32, x33, x34, x35, x36, x37, x38, x39, x40, x41, x42, x43, x44, x45, .ref h46, x47, x48, x49, x50, .ref h51, x52, x53, x54, .ref h55, x56, x57, x58, x59, .int 0, x60, x61, x62, x63, x64, x65, x66, x67, x68, x69, x70, x71, x72])), (h10, .inl (aC 0, 14, .inl (fun _ => 0))), (h46, .inl (aC 0, 6, .inl (fun _ => 0))), (h51, .inl (aC 0, 5, .inl (fun _ => 0))), (h55, .inl (aC 0, 13, .inl (fun _ => 0)))] := hD
  try dsimp only at hw
  subst hw
  refine lv_if_ne (tgt := 17) hx hb dX11_count_12 (by decide) (fun _ => ?_) (fun c_ => absurd c_ (by decide +kernel))
  refine lv_iload_n hx hb dX11_count_17 rfl (lv_at hl 1 rfl) ?_
  refine lv_iconst (v := 5) hx hb dX11_count_18 (by decide) ?_
  refine lv_icmp_ge (tgt := 29) hx hb dX11_count_19 (by decide) (fun c_ => absurd c_ (by decide +kernel)) (fun _ => ?_)
  refine lv_aload_n hx hb dX11_count_22 rfl (lv_at hl 0 rfl) ?_
  refine xget F hP 0 rfl rfl inX11 10 (by decide) tb1192 rfl dX11_count_23 ?_
  refine lv_iload_n hx hb dX11_count_26 rfl (lv_at hl 1 rfl) ?_
  refine xilo (v := 0) F hP 1 rfl 4 (by decide +kernel) (by decide +kernel) (by decide) (by decide +kernel) dX11_count_27 ?_
  have hP9 := hP.sub (ws' := []) [] rfl
  have hD9 := hD.sub (ws' := []) [] (by decide) rfl
  exact rI () hx hb hr hlk rfl hS rfl hP9 hD9 (Nat.le_of_ble_eq_true rfl) (Nat.le_of_ble_eq_true rfl) dX11_count_28

set_option maxHeartbeats 4000000 in
set_option maxRecDepth 100000 in
theorem m_count_5 (l : Launch) (g : va_G) (aC : Nat → ClassId) (aM : Nat → Nat) (h1 h10 h46 h51 h55 : Nat) (x2 x3 x4 x5 x6 x7 x8 x9 x11 x12 x13 x14 x15 x16 x17 x18 x19 x20 x21 x22 x23 x24 x25 x26 x27 x28 x29 x30 x31 x32 x33 x34 x35 x36 x37 x38 x39 x40 x41 x42 x43 x44 x45 x47 x48 x49 x50 x52 x53 x54 x56 x57 x58 x59 x60 x61 x62 x63 x64 x65 x66 x67 x68 x69 x70 x71 x72 : Value) : Ct l g aC aM yX11_count cX11_count 2 (some .int) 2 [.ref h1, .int 5] [(h1, .inr (11, [.int 0, .int 0, x2, x3, x4, x5, x6, x7, x8, x9, .ref h10, x11, x12, x13, x14, x15, x16, x17, x18, x19, x20, x21, x22, x23, x24, x25, x26, x27, x28, x29, x30, x31, x32, x33, x34, x35, x36, x37, x38, x39, x40, x41, x42, x43, x44, x45, .ref h46, x47, x48, x49, x50, .ref h51, x52, x53, x54, .ref h55, x56, x57, x58, x59, .int 0, x60, x61, x62, x63, x64, x65, x66, x67, x68, x69, x70, x71, x72])), (h10, .inl (aC 0, 14, .inl (fun _ => 0))), (h46, .inl (aC 0, 6, .inl (fun _ => 0))), (h51, .inl (aC 0, 5, .inl (fun _ => 0))), (h55, .inl (aC 0, 13, .inl (fun _ => 0)))] (QI g (fun (r : Int32) (_ : Unit) => r = 0) (fun (_ : Unit) => [])) 0 0 := by
  refine Ct.mk (by decide) (Nat.le_of_ble_eq_true rfl) ?_
  intro p e s m below meth c A ls hx hb hml hown hts hr hlk hnm hK hA hM hM2 hP hD hS hl
  have hown : s.vm.findClass RX11 = some m.cls := hown
  have F : Fx p s m _ c cX11_count 2 RX11 g aC aM A := ⟨hx, hb, hml, hown, hts, hK, hA, hM, hM2⟩
  have hl : lv_has ls 2 [(0, .ref h1), (1, .int 5)] := hl
  refine lv_aload_n hx hb dX11_count_0 rfl (lv_at hl 0 rfl) ?_
  refine lv_iconst (v := 0) hx hb dX11_count_1 (by decide) ?_
  refine xput F hP hD hS 0 rfl rfl inX11 tyX11_ok nmX11 0 (by decide) tb1182 rfl rfl rfl (Nat.le_of_ble_eq_true rfl) dX11_count_2 (fun H locs hP hD hS => ?_)
  have hP : va_P g vwCl [(h1, .inr (11, [.int 0, .int 0, x2, x3, x4, x5, x6, x7, x8, x9, .ref h10, x11, x12, x13, x14, x15, x16, x17, x18, x19, x20, x21, x22, x23, x24, x25, x26, x27, x28, x29, x30, x31, x32, x33, x34, x35, x36, x37, x38, x39, x40, x41, x42, x43, x44, x45, .ref h46, x47, x48, x49, x50, .ref h51, x52, x53, x54, .ref h55, x56, x57, x58, x59, .int 0, x60, x61, x62, x63, x64, x65, x66, x67, x68, x69, x70, x71, x72])), (h10, .inl (aC 0, 14, .inl (fun _ => 0))), (h46, .inl (aC 0, 6, .inl (fun _ => 0))), (h51, .inl (aC 0, 5, .inl (fun _ => 0))), (h55, .inl (aC 0, 13, .inl (fun _ => 0)))] H := hP
  have hD : va_D A [(h1, .inr (11, [.int 0, .int 0, x2, x3, x4, x5, x6, x7, x8, x9, .ref h10, x11, x12, x13, x14, x15, x16, x17, x18, x19, x20, x21, x22, x23, x24, x25, x26, x27, x28, x29, x30, x31, x32, x33, x34, x35, x36, x37, x38, x39, x40, x41, x42, x43, x44, x45, .ref h46, x47, x48, x49, x50, .ref h51, x52, x53, x54, .ref h55, x56, x57, x58, x59, .int 0, x60, x61, x62, x63, x64, x65, x66, x67, x68, x69, x70, x71, x72])), (h10, .inl (aC 0, 14, .inl (fun _ => 0))), (h46, .inl (aC 0, 6, .inl (fun _ => 0))), (h51, .inl (aC 0, 5, .inl (fun _ => 0))), (h55, .inl (aC 0, 13, .inl (fun _ => 0)))] := hD
  refine lv_iload_n hx hb dX11_count_5 rfl (lv_at hl 1 rfl) ?_
  refine lv_iconst (v := 0) hx hb dX11_count_6 (by decide) ?_
  refine lv_bipush (v := 12) hx hb dX11_count_7 (by decide) ?_
  refine goI (wr := [(h1, .inr (11, [.int 0, .int 0, x2, x3, x4, x5, x6, x7, x8, x9, .ref h10, x11, x12, x13, x14, x15, x16, x17, x18, x19, x20, x21, x22, x23, x24, x25, x26, x27, x28, x29, x30, x31, x32, x33, x34, x35, x36, x37, x38, x39, x40, x41, x42, x43, x44, x45, .ref h46, x47, x48, x49, x50, .ref h51, x52, x53, x54, .ref h55, x56, x57, x58, x59, .int 0, x60, x61, x62, x63, x64, x65, x66, x67, x68, x69, x70, x71, x72])), (h10, .inl (aC 0, 14, .inl (fun _ => 0))), (h46, .inl (aC 0, 6, .inl (fun _ => 0))), (h51, .inl (aC 0, 5, .inl (fun _ => 0))), (h55, .inl (aC 0, 13, .inl (fun _ => 0)))]) (runS (n := 3) (As := [.int 5, .int 0, .int 12]) (rest := []) F hP hD hS (a_X11_within_9 l g aC aM ) [] (by decide) rfl tb1511 tb1509 tb1510 tb17 ⟨by decide, by decide, by decide +kernel⟩ ⟨Nat.le_of_ble_eq_true rfl, Nat.le_of_ble_eq_true rfl⟩ rfl hl.1 rfl (Nat.le_of_ble_eq_true rfl) dX11_count_9 ⟨Nat.le_of_ble_eq_true rfl, Nat.le_of_ble_eq_true rfl⟩) hP hD hS hA [] [0, 1, 2, 3, 4] rfl rfl (by decide) (by decide) (fun r_2 w3 H locs hw hP hD hS => ?_)
  have hP : va_P g vwCl [(h1, .inr (11, [.int 0, .int 0, x2, x3, x4, x5, x6, x7, x8, x9, .ref h10, x11, x12, x13, x14, x15, x16, x17, x18, x19, x20, x21, x22, x23, x24, x25, x26, x27, x28, x29, x30, x31, x32, x33, x34, x35, x36, x37, x38, x39, x40, x41, x42, x43, x44, x45, .ref h46, x47, x48, x49, x50, .ref h51, x52, x53, x54, .ref h55, x56, x57, x58, x59, .int 0, x60, x61, x62, x63, x64, x65, x66, x67, x68, x69, x70, x71, x72])), (h10, .inl (aC 0, 14, .inl (fun _ => 0))), (h46, .inl (aC 0, 6, .inl (fun _ => 0))), (h51, .inl (aC 0, 5, .inl (fun _ => 0))), (h55, .inl (aC 0, 13, .inl (fun _ => 0)))] H := hP
  have hD : va_D A [(h1, .inr (11, [.int 0, .int 0, x2, x3, x4, x5, x6, x7, x8, x9, .ref h10, x11, x12, x13, x14, x15, x16, x17, x18, x19, x20, x21, x22, x23, x24, x25, x26, x27, x28, x29, x30, x31, x32, x33, x34, x35, x36, x37, x38, x39, x40, x41, x42, x43, x44, x45, .ref h46, x47, x48, x49, x50, .ref h51, x52, x53, x54, .ref h55, x56, x57, x58, x59, .int 0, x60, x61, x62, x63, x64, x65, x66, x67, x68, x69, x70, x71, x72])), (h10, .inl (aC 0, 14, .inl (fun _ => 0))), (h46, .inl (aC 0, 6, .inl (fun _ => 0))), (h51, .inl (aC 0, 5, .inl (fun _ => 0))), (h55, .inl (aC 0, 13, .inl (fun _ => 0)))] := hD
  try dsimp only at hw
  subst hw
  refine lv_if_ne (tgt := 17) hx hb dX11_count_12 (by decide) (fun _ => ?_) (fun c_ => absurd c_ (by decide +kernel))
  refine lv_iload_n hx hb dX11_count_17 rfl (lv_at hl 1 rfl) ?_
  refine lv_iconst (v := 5) hx hb dX11_count_18 (by decide) ?_
  refine lv_icmp_ge (tgt := 29) hx hb dX11_count_19 (by decide) (fun _ => ?_) (fun c_ => absurd (by decide +kernel) c_)
  refine lv_iload_n hx hb dX11_count_29 rfl (lv_at hl 1 rfl) ?_
  refine lv_bipush (v := 8) hx hb dX11_count_30 (by decide) ?_
  refine lv_icmp_ge (tgt := 64) hx hb dX11_count_32 (by decide) (fun c_ => absurd c_ (by decide +kernel)) (fun _ => ?_)
  refine lv_aload_n hx hb dX11_count_35 rfl (lv_at hl 0 rfl) ?_
  refine xget F hP 0 rfl rfl inX11 55 (by decide) tb1237 rfl dX11_count_36 ?_
  refine lv_iload_n hx hb dX11_count_39 rfl (lv_at hl 1 rfl) ?_
  refine lv_iconst (v := 5) hx hb dX11_count_40 (by decide) ?_
  refine lv_icmp_ne (tgt := 49) hx hb dX11_count_41 (by decide) (fun c_ => absurd (by decide +kernel) c_) (fun _ => ?_)
  refine lv_bipush (v := 10) hx hb dX11_count_44 (by decide) ?_
  refine lv_goto (tgt := 62) hx hb dX11_count_46 (by decide) ?_
  refine xilo (v := 0) F hP 4 rfl 10 (by decide +kernel) (by decide +kernel) (by decide) (by decide +kernel) dX11_count_62 ?_
  have hP9 := hP.sub (ws' := []) [] rfl
  have hD9 := hD.sub (ws' := []) [] (by decide) rfl
  exact rI () hx hb hr hlk rfl hS rfl hP9 hD9 (Nat.le_of_ble_eq_true rfl) (Nat.le_of_ble_eq_true rfl) dX11_count_63

set_option maxHeartbeats 4000000 in
set_option maxRecDepth 100000 in
theorem m_count_6 (l : Launch) (g : va_G) (aC : Nat → ClassId) (aM : Nat → Nat) (h1 h10 h46 h51 h55 : Nat) (x2 x3 x4 x5 x6 x7 x8 x9 x11 x12 x13 x14 x15 x16 x17 x18 x19 x20 x21 x22 x23 x24 x25 x26 x27 x28 x29 x30 x31 x32 x33 x34 x35 x36 x37 x38 x39 x40 x41 x42 x43 x44 x45 x47 x48 x49 x50 x52 x53 x54 x56 x57 x58 x59 x60 x61 x62 x63 x64 x65 x66 x67 x68 x69 x70 x71 x72 : Value) : Ct l g aC aM yX11_count cX11_count 2 (some .int) 2 [.ref h1, .int 6] [(h1, .inr (11, [.int 0, .int 0, x2, x3, x4, x5, x6, x7, x8, x9, .ref h10, x11, x12, x13, x14, x15, x16, x17, x18, x19, x20, x21, x22, x23, x24, x25, x26, x27, x28, x29, x30, x31, x32, x33, x34, x35, x36, x37, x38, x39, x40, x41, x42, x43, x44, x45, .ref h46, x47, x48, x49, x50, .ref h51, x52, x53, x54, .ref h55, x56, x57, x58, x59, .int 0, x60, x61, x62, x63, x64, x65, x66, x67, x68, x69, x70, x71, x72])), (h10, .inl (aC 0, 14, .inl (fun _ => 0))), (h46, .inl (aC 0, 6, .inl (fun _ => 0))), (h51, .inl (aC 0, 5, .inl (fun _ => 0))), (h55, .inl (aC 0, 13, .inl (fun _ => 0)))] (QI g (fun (r : Int32) (_ : Unit) => r = 0) (fun (_ : Unit) => [])) 0 0 := by
  refine Ct.mk (by decide) (Nat.le_of_ble_eq_true rfl) ?_
  intro p e s m below meth c A ls hx hb hml hown hts hr hlk hnm hK hA hM hM2 hP hD hS hl
  have hown : s.vm.findClass RX11 = some m.cls := hown
  have F : Fx p s m _ c cX11_count 2 RX11 g aC aM A := ⟨hx, hb, hml, hown, hts, hK, hA, hM, hM2⟩
  have hl : lv_has ls 2 [(0, .ref h1), (1, .int 6)] := hl
  refine lv_aload_n hx hb dX11_count_0 rfl (lv_at hl 0 rfl) ?_
  refine lv_iconst (v := 0) hx hb dX11_count_1 (by decide) ?_
  refine xput F hP hD hS 0 rfl rfl inX11 tyX11_ok nmX11 0 (by decide) tb1182 rfl rfl rfl (Nat.le_of_ble_eq_true rfl) dX11_count_2 (fun H locs hP hD hS => ?_)
  have hP : va_P g vwCl [(h1, .inr (11, [.int 0, .int 0, x2, x3, x4, x5, x6, x7, x8, x9, .ref h10, x11, x12, x13, x14, x15, x16, x17, x18, x19, x20, x21, x22, x23, x24, x25, x26, x27, x28, x29, x30, x31, x32, x33, x34, x35, x36, x37, x38, x39, x40, x41, x42, x43, x44, x45, .ref h46, x47, x48, x49, x50, .ref h51, x52, x53, x54, .ref h55, x56, x57, x58, x59, .int 0, x60, x61, x62, x63, x64, x65, x66, x67, x68, x69, x70, x71, x72])), (h10, .inl (aC 0, 14, .inl (fun _ => 0))), (h46, .inl (aC 0, 6, .inl (fun _ => 0))), (h51, .inl (aC 0, 5, .inl (fun _ => 0))), (h55, .inl (aC 0, 13, .inl (fun _ => 0)))] H := hP
  have hD : va_D A [(h1, .inr (11, [.int 0, .int 0, x2, x3, x4, x5, x6, x7, x8, x9, .ref h10, x11, x12, x13, x14, x15, x16, x17, x18, x19, x20, x21, x22, x23, x24, x25, x26, x27, x28, x29, x30, x31, x32, x33, x34, x35, x36, x37, x38, x39, x40, x41, x42, x43, x44, x45, .ref h46, x47, x48, x49, x50, .ref h51, x52, x53, x54, .ref h55, x56, x57, x58, x59, .int 0, x60, x61, x62, x63, x64, x65, x66, x67, x68, x69, x70, x71, x72])), (h10, .inl (aC 0, 14, .inl (fun _ => 0))), (h46, .inl (aC 0, 6, .inl (fun _ => 0))), (h51, .inl (aC 0, 5, .inl (fun _ => 0))), (h55, .inl (aC 0, 13, .inl (fun _ => 0)))] := hD
  refine lv_iload_n hx hb dX11_count_5 rfl (lv_at hl 1 rfl) ?_
  refine lv_iconst (v := 0) hx hb dX11_count_6 (by decide) ?_
  refine lv_bipush (v := 12) hx hb dX11_count_7 (by decide) ?_
  refine goI (wr := [(h1, .inr (11, [.int 0, .int 0, x2, x3, x4, x5, x6, x7, x8, x9, .ref h10, x11, x12, x13, x14, x15, x16, x17, x18, x19, x20, x21, x22, x23, x24, x25, x26, x27, x28, x29, x30, x31, x32, x33, x34, x35, x36, x37, x38, x39, x40, x41, x42, x43, x44, x45, .ref h46, x47, x48, x49, x50, .ref h51, x52, x53, x54, .ref h55, x56, x57, x58, x59, .int 0, x60, x61, x62, x63, x64, x65, x66, x67, x68, x69, x70, x71, x72])), (h10, .inl (aC 0, 14, .inl (fun _ => 0))), (h46, .inl (aC 0, 6, .inl (fun _ => 0))), (h51, .inl (aC 0, 5, .inl (fun _ => 0))), (h55, .inl (aC 0, 13, .inl (fun _ => 0)))]) (runS (n := 3) (As := [.int 6, .int 0, .int 12]) (rest := []) F hP hD hS (a_X11_within_10 l g aC aM ) [] (by decide) rfl tb1511 tb1509 tb1510 tb17 ⟨by decide, by decide, by decide +kernel⟩ ⟨Nat.le_of_ble_eq_true rfl, Nat.le_of_ble_eq_true rfl⟩ rfl hl.1 rfl (Nat.le_of_ble_eq_true rfl) dX11_count_9 ⟨Nat.le_of_ble_eq_true rfl, Nat.le_of_ble_eq_true rfl⟩) hP hD hS hA [] [0, 1, 2, 3, 4] rfl rfl (by decide) (by decide) (fun r_2 w3 H locs hw hP hD hS => ?_)
  have hP : va_P g vwCl [(h1, .inr (11, [.int 0, .int 0, x2, x3, x4, x5, x6, x7, x8, x9, .ref h10, x11, x12, x13, x14, x15, x16, x17, x18, x19, x20, x21, x22, x23, x24, x25, x26, x27, x28, x29, x30, x31, x32, x33, x34, x35, x36, x37, x38, x39, x40, x41, x42, x43, x44, x45, .ref h46, x47, x48, x49, x50, .ref h51, x52, x53, x54, .ref h55, x56, x57, x58, x59, .int 0, x60, x61, x62, x63, x64, x65, x66, x67, x68, x69, x70, x71, x72])), (h10, .inl (aC 0, 14, .inl (fun _ => 0))), (h46, .inl (aC 0, 6, .inl (fun _ => 0))), (h51, .inl (aC 0, 5, .inl (fun _ => 0))), (h55, .inl (aC 0, 13, .inl (fun _ => 0)))] H := hP
  have hD : va_D A [(h1, .inr (11, [.int 0, .int 0, x2, x3, x4, x5, x6, x7, x8, x9, .ref h10, x11, x12, x13, x14, x15, x16, x17, x18, x19, x20, x21, x22, x23, x24, x25, x26, x27, x28, x29, x30, x31, x32, x33, x34, x35, x36, x37, x38, x39, x40, x41, x42, x43, x44, x45, .ref h46, x47, x48, x49, x50, .ref h51, x52, x53, x54, .ref h55, x56, x57, x58, x59, .int 0, x60, x61, x62, x63, x64, x65, x66, x67, x68, x69, x70, x71, x72])), (h10, .inl (aC 0, 14, .inl (fun _ => 0))), (h46, .inl (aC 0, 6, .inl (fun _ => 0))), (h51, .inl (aC 0, 5, .inl (fun _ => 0))), (h55, .inl (aC 0, 13, .inl (fun _ => 0)))] := hD
  try dsimp only at hw
  subst hw
  refine lv_if_ne (tgt := 17) hx hb dX11_count_12 (by decide) (fun _ => ?_) (fun c_ => absurd c_ (by decide +kernel))
  refine lv_iload_n hx hb dX11_count_17 rfl (lv_at hl 1 rfl) ?_
  refine lv_iconst (v := 5) hx hb dX11_count_18 (by decide) ?_
  refine lv_icmp_ge (tgt := 29) hx hb dX11_count_19 (by decide) (fun _ => ?_) (fun c_ => absurd (by decide +kernel) c_)
  refine lv_iload_n hx hb dX11_count_29 rfl (lv_at hl 1 rfl) ?_
  refine lv_bipush (v := 8) hx hb dX11_count_30 (by decide) ?_
  refine lv_icmp_ge (tgt := 64) hx hb dX11_count_32 (by decide) (fun c_ => absurd c_ (by decide +kernel)) (fun _ => ?_)
  refine lv_aload_n hx hb dX11_count_35 rfl (lv_at hl 0 rfl) ?_
  refine xget F hP 0 rfl rfl inX11 55 (by decide) tb1237 rfl dX11_count_36 ?_
  refine lv_iload_n hx hb dX11_count_39 rfl (lv_at hl 1 rfl) ?_
  refine lv_iconst (v := 5) hx hb dX11_count_40 (by decide) ?_
  refine lv_icmp_ne (tgt := 49) hx hb dX11_count_41 (by decide) (fun _ => ?_) (fun c_ => absurd c_ (by decide +kernel))
  refine lv_iload_n hx hb dX11_count_49 rfl (lv_at hl 1 rfl) ?_
  refine lv_bipush (v := 6) hx hb dX11_count_50 (by decide) ?_
  refine lv_icmp_ne (tgt := 60) hx hb dX11_count_52 (by decide) (fun c_ => absurd (by decide +kernel) c_) (fun _ => ?_)
  refine lv_bipush (v := 11) hx hb dX11_count_55 (by decide) ?_
  refine lv_goto (tgt := 62) hx hb dX11_count_57 (by decide) ?_
  refine xilo (v := 0) F hP 4 rfl 11 (by decide +kernel) (by decide +kernel) (by decide) (by decide +kernel) dX11_count_62 ?_
  have hP9 := hP.sub (ws' := []) [] rfl
  have hD9 := hD.sub (ws' := []) [] (by decide) rfl
  exact rI () hx hb hr hlk rfl hS rfl hP9 hD9 (Nat.le_of_ble_eq_true rfl) (Nat.le_of_ble_eq_true rfl) dX11_count_63

set_option maxHeartbeats 4000000 in
set_option maxRecDepth 100000 in
theorem m_count_7 (l : Launch) (g : va_G) (aC : Nat → ClassId) (aM : Nat → Nat) (h1 h10 h46 h51 h55 : Nat) (x2 x3 x4 x5 x6 x7 x8 x9 x11 x12 x13 x14 x15 x16 x17 x18 x19 x20 x21 x22 x23 x24 x25 x26 x27 x28 x29 x30 x31 x32 x33 x34 x35 x36 x37 x38 x39 x40 x41 x42 x43 x44 x45 x47 x48 x49 x50 x52 x53 x54 x56 x57 x58 x59 x60 x61 x62 x63 x64 x65 x66 x67 x68 x69 x70 x71 x72 : Value) : Ct l g aC aM yX11_count cX11_count 2 (some .int) 2 [.ref h1, .int 7] [(h1, .inr (11, [.int 0, .int 0, x2, x3, x4, x5, x6, x7, x8, x9, .ref h10, x11, x12, x13, x14, x15, x16, x17, x18, x19, x20, x21, x22, x23, x24, x25, x26, x27, x28, x29, x30, x31, x32, x33, x34, x35, x36, x37, x38, x39, x40, x41, x42, x43, x44, x45, .ref h46, x47, x48, x49, x50, .ref h51, x52, x53, x54, .ref h55, x56, x57, x58, x59, .int 0, x60, x61, x62, x63, x64, x65, x66, x67, x68, x69, x70, x71, x72])), (h10, .inl (aC 0, 14, .inl (fun _ => 0))), (h46, .inl (aC 0, 6, .inl (fun _ => 0))), (h51, .inl (aC 0, 5, .inl (fun _ => 0))), (h55, .inl (aC 0, 13, .inl (fun _ => 0)))] (QI g (fun (r : Int32) (_ : Unit) => r = 0) (fun (_ : Unit) => [])) 0 0 := by
  refine Ct.mk (by decide) (Nat.le_of_ble_eq_true rfl) ?_
  intro p e s m below meth c A ls hx hb hml hown hts hr hlk hnm hK hA hM hM2 hP hD hS hl
  have hown : s.vm.findClass RX11 = some m.cls := hown
  have F : Fx p s m _ c cX11_count 2 RX11 g aC aM A := ⟨hx, hb, hml, hown, hts, hK, hA, hM, hM2⟩
  have hl : lv_has ls 2 [(0, .ref h1), (1, .int 7)] := hl
  refine lv_aload_n hx hb dX11_count_0 rfl (lv_at hl 0 rfl) ?_
  refine lv_iconst (v := 0) hx hb dX11_count_1 (by decide) ?_
  refine xput F hP hD hS 0 rfl rfl inX11 tyX11_ok nmX11 0 (by decide) tb1182 rfl rfl rfl (Nat.le_of_ble_eq_true rfl) dX11_count_2 (fun H locs hP hD hS => ?_)
  have hP : va_P g vwCl [(h1, .inr (11, [.int 0, .int 0, x2, x3, x4, x5, x6, x7, x8, x9, .ref h10, x11, x12, x13, x14, x15, x16, x17, x18, x19, x20, x21, x22, x23, x24, x25, x26, x27, x28, x29, x30, x31, x32, x33, x34, x35, x36, x37, x38, x39, x40, x41, x42, x43, x44, x45, .ref h46, x47, x48, x49, x50, .ref h51, x52, x53, x54, .ref h55, x56, x57, x58, x59, .int 0, x60, x61, x62, x63, x64, x65, x66, x67, x68, x69, x70, x71, x72])), (h10, .inl (aC 0, 14, .inl (fun _ => 0))), (h46, .inl (aC 0, 6, .inl (fun _ => 0))), (h51, .inl (aC 0, 5, .inl (fun _ => 0))), (h55, .inl (aC 0, 13, .inl (fun _ => 0)))] H := hP
  have hD : va_D A [(h1, .inr (11, [.int 0, .int 0, x2, x3, x4, x5, x6, x7, x8, x9, .ref h10, x11, x12, x13, x14, x15, x16, x17, x18, x19, x20, x21, x22, x23, x24, x25, x26, x27, x28, x29, x30, x31, x32, x33, x34, x35, x36, x37, x38, x39, x40, x41, x42, x43, x44, x45, .ref h46, x47, x48, x49, x50, .ref h51, x52, x53, x54, .ref h55, x56, x57, x58, x59, .int 0, x60, x61, x62, x63, x64, x65, x66, x67, x68, x69, x70, x71, x72])), (h10, .inl (aC 0, 14, .inl (fun _ => 0))), (h46, .inl (aC 0, 6, .inl (fun _ => 0))), (h51, .inl (aC 0, 5, .inl (fun _ => 0))), (h55, .inl (aC 0, 13, .inl (fun _ => 0)))] := hD
  refine lv_iload_n hx hb dX11_count_5 rfl (lv_at hl 1 rfl) ?_
  refine lv_iconst (v := 0) hx hb dX11_count_6 (by decide) ?_
  refine lv_bipush (v := 12) hx hb dX11_count_7 (by decide) ?_
  refine goI (wr := [(h1, .inr (11, [.int 0, .int 0, x2, x3, x4, x5, x6, x7, x8, x9, .ref h10, x11, x12, x13, x14, x15, x16, x17, x18, x19, x20, x21, x22, x23, x24, x25, x26, x27, x28, x29, x30, x31, x32, x33, x34, x35, x36, x37, x38, x39, x40, x41, x42, x43, x44, x45, .ref h46, x47, x48, x49, x50, .ref h51, x52, x53, x54, .ref h55, x56, x57, x58, x59, .int 0, x60, x61, x62, x63, x64, x65, x66, x67, x68, x69, x70, x71, x72])), (h10, .inl (aC 0, 14, .inl (fun _ => 0))), (h46, .inl (aC 0, 6, .inl (fun _ => 0))), (h51, .inl (aC 0, 5, .inl (fun _ => 0))), (h55, .inl (aC 0, 13, .inl (fun _ => 0)))]) (runS (n := 3) (As := [.int 7, .int 0, .int 12]) (rest := []) F hP hD hS (a_X11_within_11 l g aC aM ) [] (by decide) rfl tb1511 tb1509 tb1510 tb17 ⟨by decide, by decide, by decide +kernel⟩ ⟨Nat.le_of_ble_eq_true rfl, Nat.le_of_ble_eq_true rfl⟩ rfl hl.1 rfl (Nat.le_of_ble_eq_true rfl) dX11_count_9 ⟨Nat.le_of_ble_eq_true rfl, Nat.le_of_ble_eq_true rfl⟩) hP hD hS hA [] [0, 1, 2, 3, 4] rfl rfl (by decide) (by decide) (fun r_2 w3 H locs hw hP hD hS => ?_)
  have hP : va_P g vwCl [(h1, .inr (11, [.int 0, .int 0, x2, x3, x4, x5, x6, x7, x8, x9, .ref h10, x11, x12, x13, x14, x15, x16, x17, x18, x19, x20, x21, x22, x23, x24, x25, x26, x27, x28, x29, x30, x31, x32, x33, x34, x35, x36, x37, x38, x39, x40, x41, x42, x43, x44, x45, .ref h46, x47, x48, x49, x50, .ref h51, x52, x53, x54, .ref h55, x56, x57, x58, x59, .int 0, x60, x61, x62, x63, x64, x65, x66, x67, x68, x69, x70, x71, x72])), (h10, .inl (aC 0, 14, .inl (fun _ => 0))), (h46, .inl (aC 0, 6, .inl (fun _ => 0))), (h51, .inl (aC 0, 5, .inl (fun _ => 0))), (h55, .inl (aC 0, 13, .inl (fun _ => 0)))] H := hP
  have hD : va_D A [(h1, .inr (11, [.int 0, .int 0, x2, x3, x4, x5, x6, x7, x8, x9, .ref h10, x11, x12, x13, x14, x15, x16, x17, x18, x19, x20, x21, x22, x23, x24, x25, x26, x27, x28, x29, x30, x31, x32, x33, x34, x35, x36, x37, x38, x39, x40, x41, x42, x43, x44, x45, .ref h46, x47, x48, x49, x50, .ref h51, x52, x53, x54, .ref h55, x56, x57, x58, x59, .int 0, x60, x61, x62, x63, x64, x65, x66, x67, x68, x69, x70, x71, x72])), (h10, .inl (aC 0, 14, .inl (fun _ => 0))), (h46, .inl (aC 0, 6, .inl (fun _ => 0))), (h51, .inl (aC 0, 5, .inl (fun _ => 0))), (h55, .inl (aC 0, 13, .inl (fun _ => 0)))] := hD
  try dsimp only at hw
  subst hw
  refine lv_if_ne (tgt := 17) hx hb dX11_count_12 (by decide) (fun _ => ?_) (fun c_ => absurd c_ (by decide +kernel))
  refine lv_iload_n hx hb dX11_count_17 rfl (lv_at hl 1 rfl) ?_
  refine lv_iconst (v := 5) hx hb dX11_count_18 (by decide) ?_
  refine lv_icmp_ge (tgt := 29) hx hb dX11_count_19 (by decide) (fun _ => ?_) (fun c_ => absurd (by decide +kernel) c_)
  refine lv_iload_n hx hb dX11_count_29 rfl (lv_at hl 1 rfl) ?_
  refine lv_bipush (v := 8) hx hb dX11_count_30 (by decide) ?_
  refine lv_icmp_ge (tgt := 64) hx hb dX11_count_32 (by decide) (fun c_ => absurd c_ (by decide +kernel)) (fun _ => ?_)
  refine lv_aload_n hx hb dX11_count_35 rfl (lv_at hl 0 rfl) ?_
  refine xget F hP 0 rfl rfl inX11 55 (by decide) tb1237 rfl dX11_count_36 ?_
  refine lv_iload_n hx hb dX11_count_39 rfl (lv_at hl 1 rfl) ?_
  refine lv_iconst (v := 5) hx hb dX11_count_40 (by decide) ?_
  refine lv_icmp_ne (tgt := 49) hx hb dX11_count_41 (by decide) (fun _ => ?_) (fun c_ => absurd c_ (by decide +kernel))
  refine lv_iload_n hx hb dX11_count_49 rfl (lv_at hl 1 rfl) ?_
  refine lv_bipush (v := 6) hx hb dX11_count_50 (by decide) ?_
  refine lv_icmp_ne (tgt := 60) hx hb dX11_count_52 (by decide) (fun _ => ?_) (fun c_ => absurd c_ (by decide +kernel))
  refine lv_bipush (v := 12) hx hb dX11_count_60 (by decide) ?_
  refine xilo (v := 0) F hP 4 rfl 12 (by decide +kernel) (by decide +kernel) (by decide) (by decide +kernel) dX11_count_62 ?_
  have hP9 := hP.sub (ws' := []) [] rfl
  have hD9 := hD.sub (ws' := []) [] (by decide) rfl
  exact rI () hx hb hr hlk rfl hS rfl hP9 hD9 (Nat.le_of_ble_eq_true rfl) (Nat.le_of_ble_eq_true rfl) dX11_count_63

set_option maxHeartbeats 4000000 in
set_option maxRecDepth 100000 in
theorem m_count_8 (l : Launch) (g : va_G) (aC : Nat → ClassId) (aM : Nat → Nat) (h1 h10 h46 h51 h55 : Nat) (x2 x3 x4 x5 x6 x7 x8 x9 x11 x12 x13 x14 x15 x16 x17 x18 x19 x20 x21 x22 x23 x24 x25 x26 x27 x28 x29 x30 x31 x32 x33 x34 x35 x36 x37 x38 x39 x40 x41 x42 x43 x44 x45 x47 x48 x49 x50 x52 x53 x54 x56 x57 x58 x59 x60 x61 x62 x63 x64 x65 x66 x67 x68 x69 x70 x71 x72 : Value) : Ct l g aC aM yX11_count cX11_count 2 (some .int) 2 [.ref h1, .int 8] [(h1, .inr (11, [.int 0, .int 0, x2, x3, x4, x5, x6, x7, x8, x9, .ref h10, x11, x12, x13, x14, x15, x16, x17, x18, x19, x20, x21, x22, x23, x24, x25, x26, x27, x28, x29, x30, x31, x32, x33, x34, x35, x36, x37, x38, x39, x40, x41, x42, x43, x44, x45, .ref h46, x47, x48, x49, x50, .ref h51, x52, x53, x54, .ref h55, x56, x57, x58, x59, .int 0, x60, x61, x62, x63, x64, x65, x66, x67, x68, x69, x70, x71, x72])), (h10, .inl (aC 0, 14, .inl (fun _ => 0))), (h46, .inl (aC 0, 6, .inl (fun _ => 0))), (h51, .inl (aC 0, 5, .inl (fun _ => 0))), (h55, .inl (aC 0, 13, .inl (fun _ => 0)))] (QI g (fun (r : Int32) (_ : Unit) => r = 0) (fun (_ : Unit) => [])) 0 0 := by
  refine Ct.mk (by decide) (Nat.le_of_ble_eq_true rfl) ?_
  intro p e s m below meth c A ls hx hb hml hown hts hr hlk hnm hK hA hM hM2 hP hD hS hl
  have hown : s.vm.findClass RX11 = some m.cls := hown
  have F : Fx p s m _ c cX11_count 2 RX11 g aC aM A := ⟨hx, hb, hml, hown, hts, hK, hA, hM, hM2⟩
  have hl : lv_has ls 2 [(0, .ref h1), (1, .int 8)] := hl
  refine lv_aload_n hx hb dX11_count_0 rfl (lv_at hl 0 rfl) ?_
  refine lv_iconst (v := 0) hx hb dX11_count_1 (by decide) ?_
  refine xput F hP hD hS 0 rfl rfl inX11 tyX11_ok nmX11 0 (by decide) tb1182 rfl rfl rfl (Nat.le_of_ble_eq_true rfl) dX11_count_2 (fun H locs hP hD hS => ?_)
  have hP : va_P g vwCl [(h1, .inr (11, [.int 0, .int 0, x2, x3, x4, x5, x6, x7, x8, x9, .ref h10, x11, x12, x13, x14, x15, x16, x17, x18, x19, x20, x21, x22, x23, x24, x25, x26, x27, x28, x29, x30, x31, x32, x33, x34, x35, x36, x37, x38, x39, x40, x41, x42, x43, x44, x45, .ref h46, x47, x48, x49, x50, .ref h51, x52, x53, x54, .ref h55, x56, x57, x58, x59, .int 0, x60, x61, x62, x63, x64, x65, x66, x67, x68, x69, x70, x71, x72])), (h10, .inl (aC 0, 14, .inl (fun _ => 0))), (h46, .inl (aC 0, 6, .inl (fun _ => 0))), (h51, .inl (aC 0, 5, .inl (fun _ => 0))), (h55, .inl (aC 0, 13, .inl (fun _ => 0)))] H := hP
  have hD : va_D A [(h1, .inr (11, [.int 0, .int 0, x2, x3, x4, x5, x6, x7, x8, x9, .ref h10, x11, x12, x13, x14, x15, x16, x17, x18, x19, x20, x21, x22, x23, x24, x25, x26, x27, x28, x29, x30, x31, x32, x33, x34, x35, x36, x37, x38, x39, x40, x41, x42, x43, x44, x45, .ref h46, x47, x48, x49, x50, .ref h51, x52, x53, x54, .ref h55, x56, x57, x58, x59, .int 0, x60, x61, x62, x63, x64, x65, x66, x67, x68, x69, x70, x71, x72])), (h10, .inl (aC 0, 14, .inl (fun _ => 0))), (h46, .inl (aC 0, 6, .inl (fun _ => 0))), (h51, .inl (aC 0, 5, .inl (fun _ => 0))), (h55, .inl (aC 0, 13, .inl (fun _ => 0)))] := hD
  refine lv_iload_n hx hb dX11_count_5 rfl (lv_at hl 1 rfl) ?_
  refine lv_iconst (v := 0) hx hb dX11_count_6 (by decide) ?_
  refine lv_bipush (v := 12) hx hb dX11_count_7 (by decide) ?_
  refine goI (wr := [(h1, .inr (11, [.int 0, .int 0, x2, x3, x4, x5, x6, x7, x8, x9, .ref h10, x11, x12, x13, x14, x15, x16, x17, x18, x19, x20, x21, x22, x23, x24, x25, x26, x27, x28, x29, x30, x31, x32, x33, x34, x35, x36, x37, x38, x39, x40, x41, x42, x43, x44, x45, .ref h46, x47, x48, x49, x50, .ref h51, x52, x53, x54, .ref h55, x56, x57, x58, x59, .int 0, x60, x61, x62, x63, x64, x65, x66, x67, x68, x69, x70, x71, x72])), (h10, .inl (aC 0, 14, .inl (fun _ => 0))), (h46, .inl (aC 0, 6, .inl (fun _ => 0))), (h51, .inl (aC 0, 5, .inl (fun _ => 0))), (h55, .inl (aC 0, 13, .inl (fun _ => 0)))]) (runS (n := 3) (As := [.int 8, .int 0, .int 12]) (rest := []) F hP hD hS (a_X11_within_12 l g aC aM ) [] (by decide) rfl tb1511 tb1509 tb1510 tb17 ⟨by decide, by decide, by decide +kernel⟩ ⟨Nat.le_of_ble_eq_true rfl, Nat.le_of_ble_eq_true rfl⟩ rfl hl.1 rfl (Nat.le_of_ble_eq_true rfl) dX11_count_9 ⟨Nat.le_of_ble_eq_true rfl, Nat.le_of_ble_eq_true rfl⟩) hP hD hS hA [] [0, 1, 2, 3, 4] rfl rfl (by decide) (by decide) (fun r_2 w3 H locs hw hP hD hS => ?_)
  have hP : va_P g vwCl [(h1, .inr (11, [.int 0, .int 0, x2, x3, x4, x5, x6, x7, x8, x9, .ref h10, x11, x12, x13, x14, x15, x16, x17, x18, x19, x20, x21, x22, x23, x24, x25, x26, x27, x28, x29, x30, x31, x32, x33, x34, x35, x36, x37, x38, x39, x40, x41, x42, x43, x44, x45, .ref h46, x47, x48, x49, x50, .ref h51, x52, x53, x54, .ref h55, x56, x57, x58, x59, .int 0, x60, x61, x62, x63, x64, x65, x66, x67, x68, x69, x70, x71, x72])), (h10, .inl (aC 0, 14, .inl (fun _ => 0))), (h46, .inl (aC 0, 6, .inl (fun _ => 0))), (h51, .inl (aC 0, 5, .inl (fun _ => 0))), (h55, .inl (aC 0, 13, .inl (fun _ => 0)))] H := hP
  have hD : va_D A [(h1, .inr (11, [.int 0, .int 0, x2, x3, x4, x5, x6, x7, x8, x9, .ref h10, x11, x12, x13, x14, x15, x16, x17, x18, x19, x20, x21, x22, x23, x24, x25, x26, x27, x28, x29, x30, x31, x32, x33, x34, x35, x36, x37, x38, x39, x40, x41, x42, x43, x44, x45, .ref h46, x47, x48, x49, x50, .ref h51, x52, x53, x54, .ref h55, x56, x57, x58, x59, .int 0, x60, x61, x62, x63, x64, x65, x66, x67, x68, x69, x70, x71, x72])), (h10, .inl (aC 0, 14, .inl (fun _ => 0))), (h46, .inl (aC 0, 6, .inl (fun _ => 0))), (h51, .inl (aC 0, 5, .inl (fun _ => 0))), (h55, .inl (aC 0, 13, .inl (fun _ => 0)))] := hD
  try dsimp only at hw
  subst hw
  refine lv_if_ne (tgt := 17) hx hb dX11_count_12 (by decide) (fun _ => ?_) (fun c_ => absurd c_ (by decide +kernel))
  refine lv_iload_n hx hb dX11_count_17 rfl (lv_at hl 1 rfl) ?_
  refine lv_iconst (v := 5) hx hb dX11_count_18 (by decide) ?_
  refine lv_icmp_ge (tgt := 29) hx hb dX11_count_19 (by decide) (fun _ => ?_) (fun c_ => absurd (by decide +kernel) c_)
  refine lv_iload_n hx hb dX11_count_29 rfl (lv_at hl 1 rfl) ?_
  refine lv_bipush (v := 8) hx hb dX11_count_30 (by decide) ?_
  refine lv_icmp_ge (tgt := 64) hx hb dX11_count_32 (by decide) (fun _ => ?_) (fun c_ => absurd (by decide +kernel) c_)
  refine lv_iload_n hx hb dX11_count_64 rfl (lv_at hl 1 rfl) ?_
  refine lv_bipush (v := 10) hx hb dX11_count_65 (by decide) ?_
  refine lv_icmp_ge (tgt := 95) hx hb dX11_count_67 (by decide) (fun c_ => absurd c_ (by decide +kernel)) (fun _ => ?_)
  refine lv_iload_n hx hb dX11_count_70 rfl (lv_at hl 1 rfl) ?_
  refine lv_bipush (v := 8) hx hb dX11_count_71 (by decide) ?_
  refine lv_icmp_ne (tgt := 88) hx hb dX11_count_73 (by decide) (fun c_ => absurd (by decide +kernel) c_) (fun _ => ?_)
  refine lv_aload_n hx hb dX11_count_76 rfl (lv_at hl 0 rfl) ?_
  refine xget F hP 0 rfl rfl inX11 55 (by decide) tb1237 rfl dX11_count_77 ?_
  refine lv_iconst (v := 0) hx hb dX11_count_80 (by decide) ?_
  refine xilo (v := 0) F hP 4 rfl 0 (by decide +kernel) (by decide +kernel) (by decide) (by decide +kernel) dX11_count_81 ?_
  refine goI (wr := [(h1, .inr (11, [.int 0, .int 0, x2, x3, x4, x5, x6, x7, x8, x9, .ref h10, x11, x12, x13, x14, x15, x16, x17, x18, x19, x20, x21, x22, x23, x24, x25, x26, x27, x28, x29, x30, x31, x32, x33, x34, x35, x36, x37, x38, x39, x40, x41, x42, x43, x44, x45, .ref h46, x47, x48, x49, x50, .ref h51, x52, x53, x54, .ref h55, x56, x57, x58, x59, .int 0, x60, x61, x62, x63, x64, x65, x66, x67, x68, x69, x70, x71, x72])), (h10, .inl (aC 0, 14, .inl (fun _ => 0))), (h46, .inl (aC 0, 6, .inl (fun _ => 0))), (h51, .inl (aC 0, 5, .inl (fun _ => 0))), (h55, .inl (aC 0, 13, .inl (fun _ => 0)))]) (runS (n := 1) (As := [.int 0]) (rest := []) F hP hD hS (a_X11_bits_1 l g aC aM ) [] (by decide) rfl tb1711 tb1709 tb1710 tb17 ⟨by decide, by decide, by decide +kernel⟩ ⟨Nat.le_of_ble_eq_true rfl, Nat.le_of_ble_eq_true rfl⟩ rfl hl.1 rfl (Nat.le_of_ble_eq_true rfl) dX11_count_82 ⟨Nat.le_of_ble_eq_true rfl, Nat.le_of_ble_eq_true rfl⟩) hP hD hS hA [] [0, 1, 2, 3, 4] rfl rfl (by decide) (by decide) (fun r_10 w11 H locs hw hP hD hS => ?_)
  have hP : va_P g vwCl [(h1, .inr (11, [.int 0, .int 0, x2, x3, x4, x5, x6, x7, x8, x9, .ref h10, x11, x12, x13, x14, x15, x16, x17, x18, x19, x20, x21, x22, x23, x24, x25, x26, x27, x28, x29, x30, x31, x32, x33, x34, x35, x36, x37, x38, x39, x40, x41, x42, x43, x44, x45, .ref h46, x47, x48, x49, x50, .ref h51, x52, x53, x54, .ref h55, x56, x57, x58, x59, .int 0, x60, x61, x62, x63, x64, x65, x66, x67, x68, x69, x70, x71, x72])), (h10, .inl (aC 0, 14, .inl (fun _ => 0))), (h46, .inl (aC 0, 6, .inl (fun _ => 0))), (h51, .inl (aC 0, 5, .inl (fun _ => 0))), (h55, .inl (aC 0, 13, .inl (fun _ => 0)))] H := hP
  have hD : va_D A [(h1, .inr (11, [.int 0, .int 0, x2, x3, x4, x5, x6, x7, x8, x9, .ref h10, x11, x12, x13, x14, x15, x16, x17, x18, x19, x20, x21, x22, x23, x24, x25, x26, x27, x28, x29, x30, x31, x32, x33, x34, x35, x36, x37, x38, x39, x40, x41, x42, x43, x44, x45, .ref h46, x47, x48, x49, x50, .ref h51, x52, x53, x54, .ref h55, x56, x57, x58, x59, .int 0, x60, x61, x62, x63, x64, x65, x66, x67, x68, x69, x70, x71, x72])), (h10, .inl (aC 0, 14, .inl (fun _ => 0))), (h46, .inl (aC 0, 6, .inl (fun _ => 0))), (h51, .inl (aC 0, 5, .inl (fun _ => 0))), (h55, .inl (aC 0, 13, .inl (fun _ => 0)))] := hD
  try dsimp only at hw
  subst hw
  refine lv_goto (tgt := 94) hx hb dX11_count_85 (by decide) ?_
  have hP9 := hP.sub (ws' := []) [] rfl
  have hD9 := hD.sub (ws' := []) [] (by decide) rfl
  exact rI () hx hb hr hlk rfl hS rfl hP9 hD9 (Nat.le_of_ble_eq_true rfl) (Nat.le_of_ble_eq_true rfl) dX11_count_94

set_option maxHeartbeats 4000000 in
set_option maxRecDepth 100000 in
theorem m_count_9 (l : Launch) (g : va_G) (aC : Nat → ClassId) (aM : Nat → Nat) (h1 h10 h46 h51 h55 : Nat) (x2 x3 x4 x5 x6 x7 x8 x9 x11 x12 x13 x14 x15 x16 x17 x18 x19 x20 x21 x22 x23 x24 x25 x26 x27 x28 x29 x30 x31 x32 x33 x34 x35 x36 x37 x38 x39 x40 x41 x42 x43 x44 x45 x47 x48 x49 x50 x52 x53 x54 x56 x57 x58 x59 x60 x61 x62 x63 x64 x65 x66 x67 x68 x69 x70 x71 x72 : Value) : Ct l g aC aM yX11_count cX11_count 2 (some .int) 2 [.ref h1, .int 9] [(h1, .inr (11, [.int 0, .int 0, x2, x3, x4, x5, x6, x7, x8, x9, .ref h10, x11, x12, x13, x14, x15, x16, x17, x18, x19, x20, x21, x22, x23, x24, x25, x26, x27, x28, x29, x30, x31, x32, x33, x34, x35, x36, x37, x38, x39, x40, x41, x42, x43, x44, x45, .ref h46, x47, x48, x49, x50, .ref h51, x52, x53, x54, .ref h55, x56, x57, x58, x59, .int 0, x60, x61, x62, x63, x64, x65, x66, x67, x68, x69, x70, x71, x72])), (h10, .inl (aC 0, 14, .inl (fun _ => 0))), (h46, .inl (aC 0, 6, .inl (fun _ => 0))), (h51, .inl (aC 0, 5, .inl (fun _ => 0))), (h55, .inl (aC 0, 13, .inl (fun _ => 0)))] (QI g (fun (r : Int32) (_ : Unit) => r = 0) (fun (_ : Unit) => [])) 0 0 := by
  refine Ct.mk (by decide) (Nat.le_of_ble_eq_true rfl) ?_
  intro p e s m below meth c A ls hx hb hml hown hts hr hlk hnm hK hA hM hM2 hP hD hS hl
  have hown : s.vm.findClass RX11 = some m.cls := hown
  have F : Fx p s m _ c cX11_count 2 RX11 g aC aM A := ⟨hx, hb, hml, hown, hts, hK, hA, hM, hM2⟩
  have hl : lv_has ls 2 [(0, .ref h1), (1, .int 9)] := hl
  refine lv_aload_n hx hb dX11_count_0 rfl (lv_at hl 0 rfl) ?_
  refine lv_iconst (v := 0) hx hb dX11_count_1 (by decide) ?_
  refine xput F hP hD hS 0 rfl rfl inX11 tyX11_ok nmX11 0 (by decide) tb1182 rfl rfl rfl (Nat.le_of_ble_eq_true rfl) dX11_count_2 (fun H locs hP hD hS => ?_)
  have hP : va_P g vwCl [(h1, .inr (11, [.int 0, .int 0, x2, x3, x4, x5, x6, x7, x8, x9, .ref h10, x11, x12, x13, x14, x15, x16, x17, x18, x19, x20, x21, x22, x23, x24, x25, x26, x27, x28, x29, x30, x31, x32, x33, x34, x35, x36, x37, x38, x39, x40, x41, x42, x43, x44, x45, .ref h46, x47, x48, x49, x50, .ref h51, x52, x53, x54, .ref h55, x56, x57, x58, x59, .int 0, x60, x61, x62, x63, x64, x65, x66, x67, x68, x69, x70, x71, x72])), (h10, .inl (aC 0, 14, .inl (fun _ => 0))), (h46, .inl (aC 0, 6, .inl (fun _ => 0))), (h51, .inl (aC 0, 5, .inl (fun _ => 0))), (h55, .inl (aC 0, 13, .inl (fun _ => 0)))] H := hP
  have hD : va_D A [(h1, .inr (11, [.int 0, .int 0, x2, x3, x4, x5, x6, x7, x8, x9, .ref h10, x11, x12, x13, x14, x15, x16, x17, x18, x19, x20, x21, x22, x23, x24, x25, x26, x27, x28, x29, x30, x31, x32, x33, x34, x35, x36, x37, x38, x39, x40, x41, x42, x43, x44, x45, .ref h46, x47, x48, x49, x50, .ref h51, x52, x53, x54, .ref h55, x56, x57, x58, x59, .int 0, x60, x61, x62, x63, x64, x65, x66, x67, x68, x69, x70, x71, x72])), (h10, .inl (aC 0, 14, .inl (fun _ => 0))), (h46, .inl (aC 0, 6, .inl (fun _ => 0))), (h51, .inl (aC 0, 5, .inl (fun _ => 0))), (h55, .inl (aC 0, 13, .inl (fun _ => 0)))] := hD
  refine lv_iload_n hx hb dX11_count_5 rfl (lv_at hl 1 rfl) ?_
  refine lv_iconst (v := 0) hx hb dX11_count_6 (by decide) ?_
  refine lv_bipush (v := 12) hx hb dX11_count_7 (by decide) ?_
  refine goI (wr := [(h1, .inr (11, [.int 0, .int 0, x2, x3, x4, x5, x6, x7, x8, x9, .ref h10, x11, x12, x13, x14, x15, x16, x17, x18, x19, x20, x21, x22, x23, x24, x25, x26, x27, x28, x29, x30, x31, x32, x33, x34, x35, x36, x37, x38, x39, x40, x41, x42, x43, x44, x45, .ref h46, x47, x48, x49, x50, .ref h51, x52, x53, x54, .ref h55, x56, x57, x58, x59, .int 0, x60, x61, x62, x63, x64, x65, x66, x67, x68, x69, x70, x71, x72])), (h10, .inl (aC 0, 14, .inl (fun _ => 0))), (h46, .inl (aC 0, 6, .inl (fun _ => 0))), (h51, .inl (aC 0, 5, .inl (fun _ => 0))), (h55, .inl (aC 0, 13, .inl (fun _ => 0)))]) (runS (n := 3) (As := [.int 9, .int 0, .int 12]) (rest := []) F hP hD hS (a_X11_within_13 l g aC aM ) [] (by decide) rfl tb1511 tb1509 tb1510 tb17 ⟨by decide, by decide, by decide +kernel⟩ ⟨Nat.le_of_ble_eq_true rfl, Nat.le_of_ble_eq_true rfl⟩ rfl hl.1 rfl (Nat.le_of_ble_eq_true rfl) dX11_count_9 ⟨Nat.le_of_ble_eq_true rfl, Nat.le_of_ble_eq_true rfl⟩) hP hD hS hA [] [0, 1, 2, 3, 4] rfl rfl (by decide) (by decide) (fun r_2 w3 H locs hw hP hD hS => ?_)
  have hP : va_P g vwCl [(h1, .inr (11, [.int 0, .int 0, x2, x3, x4, x5, x6, x7, x8, x9, .ref h10, x11, x12, x13, x14, x15, x16, x17, x18, x19, x20, x21, x22, x23, x24, x25, x26, x27, x28, x29, x30, x31, x32, x33, x34, x35, x36, x37, x38, x39, x40, x41, x42, x43, x44, x45, .ref h46, x47, x48, x49, x50, .ref h51, x52, x53, x54, .ref h55, x56, x57, x58, x59, .int 0, x60, x61, x62, x63, x64, x65, x66, x67, x68, x69, x70, x71, x72])), (h10, .inl (aC 0, 14, .inl (fun _ => 0))), (h46, .inl (aC 0, 6, .inl (fun _ => 0))), (h51, .inl (aC 0, 5, .inl (fun _ => 0))), (h55, .inl (aC 0, 13, .inl (fun _ => 0)))] H := hP
  have hD : va_D A [(h1, .inr (11, [.int 0, .int 0, x2, x3, x4, x5, x6, x7, x8, x9, .ref h10, x11, x12, x13, x14, x15, x16, x17, x18, x19, x20, x21, x22, x23, x24, x25, x26, x27, x28, x29, x30, x31, x32, x33, x34, x35, x36, x37, x38, x39, x40, x41, x42, x43, x44, x45, .ref h46, x47, x48, x49, x50, .ref h51, x52, x53, x54, .ref h55, x56, x57, x58, x59, .int 0, x60, x61, x62, x63, x64, x65, x66, x67, x68, x69, x70, x71, x72])), (h10, .inl (aC 0, 14, .inl (fun _ => 0))), (h46, .inl (aC 0, 6, .inl (fun _ => 0))), (h51, .inl (aC 0, 5, .inl (fun _ => 0))), (h55, .inl (aC 0, 13, .inl (fun _ => 0)))] := hD
  try dsimp only at hw
  subst hw
  refine lv_if_ne (tgt := 17) hx hb dX11_count_12 (by decide) (fun _ => ?_) (fun c_ => absurd c_ (by decide +kernel))
  refine lv_iload_n hx hb dX11_count_17 rfl (lv_at hl 1 rfl) ?_
  refine lv_iconst (v := 5) hx hb dX11_count_18 (by decide) ?_
  refine lv_icmp_ge (tgt := 29) hx hb dX11_count_19 (by decide) (fun _ => ?_) (fun c_ => absurd (by decide +kernel) c_)
  refine lv_iload_n hx hb dX11_count_29 rfl (lv_at hl 1 rfl) ?_
  refine lv_bipush (v := 8) hx hb dX11_count_30 (by decide) ?_
  refine lv_icmp_ge (tgt := 64) hx hb dX11_count_32 (by decide) (fun _ => ?_) (fun c_ => absurd (by decide +kernel) c_)
  refine lv_iload_n hx hb dX11_count_64 rfl (lv_at hl 1 rfl) ?_
  refine lv_bipush (v := 10) hx hb dX11_count_65 (by decide) ?_
  refine lv_icmp_ge (tgt := 95) hx hb dX11_count_67 (by decide) (fun c_ => absurd c_ (by decide +kernel)) (fun _ => ?_)
  refine lv_iload_n hx hb dX11_count_70 rfl (lv_at hl 1 rfl) ?_
  refine lv_bipush (v := 8) hx hb dX11_count_71 (by decide) ?_
  refine lv_icmp_ne (tgt := 88) hx hb dX11_count_73 (by decide) (fun _ => ?_) (fun c_ => absurd c_ (by decide +kernel))
  refine lv_aload_n hx hb dX11_count_88 rfl (lv_at hl 0 rfl) ?_
  refine xget F hP 0 rfl rfl inX11 46 (by decide) tb1228 rfl dX11_count_89 ?_
  refine lv_iconst (v := 0) hx hb dX11_count_92 (by decide) ?_
  refine xilo (v := 0) F hP 2 rfl 0 (by decide +kernel) (by decide +kernel) (by decide) (by decide +kernel) dX11_count_93 ?_
  have hP9 := hP.sub (ws' := []) [] rfl
  have hD9 := hD.sub (ws' := []) [] (by decide) rfl
  exact rI () hx hb hr hlk rfl hS rfl hP9 hD9 (Nat.le_of_ble_eq_true rfl) (Nat.le_of_ble_eq_true rfl) dX11_count_94

set_option maxHeartbeats 4000000 in
set_option maxRecDepth 100000 in
theorem m_count_10 (l : Launch) (g : va_G) (aC : Nat → ClassId) (aM : Nat → Nat) (h1 h10 h46 h51 h55 : Nat) (x2 x3 x4 x5 x6 x7 x8 x9 x11 x12 x13 x14 x15 x16 x17 x18 x19 x20 x21 x22 x23 x24 x25 x26 x27 x28 x29 x30 x31 x32 x33 x34 x35 x36 x37 x38 x39 x40 x41 x42 x43 x44 x45 x47 x48 x49 x50 x52 x53 x54 x56 x57 x58 x59 x60 x61 x62 x63 x64 x65 x66 x67 x68 x69 x70 x71 x72 : Value) : Ct l g aC aM yX11_count cX11_count 2 (some .int) 2 [.ref h1, .int 10] [(h1, .inr (11, [.int 0, .int 0, x2, x3, x4, x5, x6, x7, x8, x9, .ref h10, x11, x12, x13, x14, x15, x16, x17, x18, x19, x20, x21, x22, x23, x24, x25, x26, x27, x28, x29, x30, x31, x32, x33, x34, x35, x36, x37, x38, x39, x40, x41, x42, x43, x44, x45, .ref h46, x47, x48, x49, x50, .ref h51, x52, x53, x54, .ref h55, x56, x57, x58, x59, .int 0, x60, x61, x62, x63, x64, x65, x66, x67, x68, x69, x70, x71, x72])), (h10, .inl (aC 0, 14, .inl (fun _ => 0))), (h46, .inl (aC 0, 6, .inl (fun _ => 0))), (h51, .inl (aC 0, 5, .inl (fun _ => 0))), (h55, .inl (aC 0, 13, .inl (fun _ => 0)))] (QI g (fun (r : Int32) (_ : Unit) => r = 0) (fun (_ : Unit) => [])) 0 0 := by
  refine Ct.mk (by decide) (Nat.le_of_ble_eq_true rfl) ?_
  intro p e s m below meth c A ls hx hb hml hown hts hr hlk hnm hK hA hM hM2 hP hD hS hl
  have hown : s.vm.findClass RX11 = some m.cls := hown
  have F : Fx p s m _ c cX11_count 2 RX11 g aC aM A := ⟨hx, hb, hml, hown, hts, hK, hA, hM, hM2⟩
  have hl : lv_has ls 2 [(0, .ref h1), (1, .int 10)] := hl
  refine lv_aload_n hx hb dX11_count_0 rfl (lv_at hl 0 rfl) ?_
  refine lv_iconst (v := 0) hx hb dX11_count_1 (by decide) ?_
  refine xput F hP hD hS 0 rfl rfl inX11 tyX11_ok nmX11 0 (by decide) tb1182 rfl rfl rfl (Nat.le_of_ble_eq_true rfl) dX11_count_2 (fun H locs hP hD hS => ?_)
  have hP : va_P g vwCl [(h1, .inr (11, [.int 0, .int 0, x2, x3, x4, x5, x6, x7, x8, x9, .ref h10, x11, x12, x13, x14, x15, x16, x17, x18, x19, x20, x21, x22, x23, x24, x25, x26, x27, x28, x29, x30, x31, x32, x33, x34, x35, x36, x37, x38, x39, x40, x41, x42, x43, x44, x45, .ref h46, x47, x48, x49, x50, .ref h51, x52, x53, x54, .ref h55, x56, x57, x58, x59, .int 0, x60, x61, x62, x63, x64, x65, x66, x67, x68, x69, x70, x71, x72])), (h10, .inl (aC 0, 14, .inl (fun _ => 0))), (h46, .inl (aC 0, 6, .inl (fun _ => 0))), (h51, .inl (aC 0, 5, .inl (fun _ => 0))), (h55, .inl (aC 0, 13, .inl (fun _ => 0)))] H := hP
  have hD : va_D A [(h1, .inr (11, [.int 0, .int 0, x2, x3, x4, x5, x6, x7, x8, x9, .ref h10, x11, x12, x13, x14, x15, x16, x17, x18, x19, x20, x21, x22, x23, x24, x25, x26, x27, x28, x29, x30, x31, x32, x33, x34, x35, x36, x37, x38, x39, x40, x41, x42, x43, x44, x45, .ref h46, x47, x48, x49, x50, .ref h51, x52, x53, x54, .ref h55, x56, x57, x58, x59, .int 0, x60, x61, x62, x63, x64, x65, x66, x67, x68, x69, x70, x71, x72])), (h10, .inl (aC 0, 14, .inl (fun _ => 0))), (h46, .inl (aC 0, 6, .inl (fun _ => 0))), (h51, .inl (aC 0, 5, .inl (fun _ => 0))), (h55, .inl (aC 0, 13, .inl (fun _ => 0)))] := hD
  refine lv_iload_n hx hb dX11_count_5 rfl (lv_at hl 1 rfl) ?_
  refine lv_iconst (v := 0) hx hb dX11_count_6 (by decide) ?_
  refine lv_bipush (v := 12) hx hb dX11_count_7 (by decide) ?_
  refine goI (wr := [(h1, .inr (11, [.int 0, .int 0, x2, x3, x4, x5, x6, x7, x8, x9, .ref h10, x11, x12, x13, x14, x15, x16, x17, x18, x19, x20, x21, x22, x23, x24, x25, x26, x27, x28, x29, x30, x31, x32, x33, x34, x35, x36, x37, x38, x39, x40, x41, x42, x43, x44, x45, .ref h46, x47, x48, x49, x50, .ref h51, x52, x53, x54, .ref h55, x56, x57, x58, x59, .int 0, x60, x61, x62, x63, x64, x65, x66, x67, x68, x69, x70, x71, x72])), (h10, .inl (aC 0, 14, .inl (fun _ => 0))), (h46, .inl (aC 0, 6, .inl (fun _ => 0))), (h51, .inl (aC 0, 5, .inl (fun _ => 0))), (h55, .inl (aC 0, 13, .inl (fun _ => 0)))]) (runS (n := 3) (As := [.int 10, .int 0, .int 12]) (rest := []) F hP hD hS (a_X11_within_14 l g aC aM ) [] (by decide) rfl tb1511 tb1509 tb1510 tb17 ⟨by decide, by decide, by decide +kernel⟩ ⟨Nat.le_of_ble_eq_true rfl, Nat.le_of_ble_eq_true rfl⟩ rfl hl.1 rfl (Nat.le_of_ble_eq_true rfl) dX11_count_9 ⟨Nat.le_of_ble_eq_true rfl, Nat.le_of_ble_eq_true rfl⟩) hP hD hS hA [] [0, 1, 2, 3, 4] rfl rfl (by decide) (by decide) (fun r_2 w3 H locs hw hP hD hS => ?_)
  have hP : va_P g vwCl [(h1, .inr (11, [.int 0, .int 0, x2, x3, x4, x5, x6, x7, x8, x9, .ref h10, x11, x12, x13, x14, x15, x16, x17, x18, x19, x20, x21, x22, x23, x24, x25, x26, x27, x28, x29, x30, x31, x32, x33, x34, x35, x36, x37, x38, x39, x40, x41, x42, x43, x44, x45, .ref h46, x47, x48, x49, x50, .ref h51, x52, x53, x54, .ref h55, x56, x57, x58, x59, .int 0, x60, x61, x62, x63, x64, x65, x66, x67, x68, x69, x70, x71, x72])), (h10, .inl (aC 0, 14, .inl (fun _ => 0))), (h46, .inl (aC 0, 6, .inl (fun _ => 0))), (h51, .inl (aC 0, 5, .inl (fun _ => 0))), (h55, .inl (aC 0, 13, .inl (fun _ => 0)))] H := hP
  have hD : va_D A [(h1, .inr (11, [.int 0, .int 0, x2, x3, x4, x5, x6, x7, x8, x9, .ref h10, x11, x12, x13, x14, x15, x16, x17, x18, x19, x20, x21, x22, x23, x24, x25, x26, x27, x28, x29, x30, x31, x32, x33, x34, x35, x36, x37, x38, x39, x40, x41, x42, x43, x44, x45, .ref h46, x47, x48, x49, x50, .ref h51, x52, x53, x54, .ref h55, x56, x57, x58, x59, .int 0, x60, x61, x62, x63, x64, x65, x66, x67, x68, x69, x70, x71, x72])), (h10, .inl (aC 0, 14, .inl (fun _ => 0))), (h46, .inl (aC 0, 6, .inl (fun _ => 0))), (h51, .inl (aC 0, 5, .inl (fun _ => 0))), (h55, .inl (aC 0, 13, .inl (fun _ => 0)))] := hD
  try dsimp only at hw
  subst hw
  refine lv_if_ne (tgt := 17) hx hb dX11_count_12 (by decide) (fun _ => ?_) (fun c_ => absurd c_ (by decide +kernel))
  refine lv_iload_n hx hb dX11_count_17 rfl (lv_at hl 1 rfl) ?_
  refine lv_iconst (v := 5) hx hb dX11_count_18 (by decide) ?_
  refine lv_icmp_ge (tgt := 29) hx hb dX11_count_19 (by decide) (fun _ => ?_) (fun c_ => absurd (by decide +kernel) c_)
  refine lv_iload_n hx hb dX11_count_29 rfl (lv_at hl 1 rfl) ?_
  refine lv_bipush (v := 8) hx hb dX11_count_30 (by decide) ?_
  refine lv_icmp_ge (tgt := 64) hx hb dX11_count_32 (by decide) (fun _ => ?_) (fun c_ => absurd (by decide +kernel) c_)
  refine lv_iload_n hx hb dX11_count_64 rfl (lv_at hl 1 rfl) ?_
  refine lv_bipush (v := 10) hx hb dX11_count_65 (by decide) ?_
  refine lv_icmp_ge (tgt := 95) hx hb dX11_count_67 (by decide) (fun _ => ?_) (fun c_ => absurd (by decide +kernel) c_)
  refine lv_iload_n hx hb dX11_count_95 rfl (lv_at hl 1 rfl) ?_
  refine lv_bipush (v := 10) hx hb dX11_count_96 (by decide) ?_
  refine lv_icmp_ne (tgt := 110) hx hb dX11_count_98 (by decide) (fun c_ => absurd (by decide +kernel) c_) (fun _ => ?_)
  refine lv_aload_n hx hb dX11_count_101 rfl (lv_at hl 0 rfl) ?_
  refine xget F hP 0 rfl rfl inX11 51 (by decide) tb1233 rfl dX11_count_102 ?_
  refine lv_iconst (v := 0) hx hb dX11_count_105 (by decide) ?_
  refine xilo (v := 0) F hP 3 rfl 0 (by decide +kernel) (by decide +kernel) (by decide) (by decide +kernel) dX11_count_106 ?_
  refine lv_goto (tgt := 127) hx hb dX11_count_107 (by decide) ?_
  have hP9 := hP.sub (ws' := []) [] rfl
  have hD9 := hD.sub (ws' := []) [] (by decide) rfl
  exact rI () hx hb hr hlk rfl hS rfl hP9 hD9 (Nat.le_of_ble_eq_true rfl) (Nat.le_of_ble_eq_true rfl) dX11_count_127

set_option maxHeartbeats 4000000 in
set_option maxRecDepth 100000 in
theorem m_count_11 (l : Launch) (g : va_G) (aC : Nat → ClassId) (aM : Nat → Nat) (h1 h10 h46 h51 h55 : Nat) (x2 x3 x4 x5 x6 x7 x8 x9 x11 x12 x13 x14 x15 x16 x17 x18 x19 x20 x21 x22 x23 x24 x25 x26 x27 x28 x29 x30 x31 x32 x33 x34 x35 x36 x37 x38 x39 x40 x41 x42 x43 x44 x45 x47 x48 x49 x50 x52 x53 x54 x56 x57 x58 x59 x60 x61 x62 x63 x64 x65 x66 x67 x68 x69 x70 x71 x72 : Value) : Ct l g aC aM yX11_count cX11_count 2 (some .int) 2 [.ref h1, .int 11] [(h1, .inr (11, [.int 0, .int 0, x2, x3, x4, x5, x6, x7, x8, x9, .ref h10, x11, x12, x13, x14, x15, x16, x17, x18, x19, x20, x21, x22, x23, x24, x25, x26, x27, x28, x29, x30, x31, x32, x33, x34, x35, x36, x37, x38, x39, x40, x41, x42, x43, x44, x45, .ref h46, x47, x48, x49, x50, .ref h51, x52, x53, x54, .ref h55, x56, x57, x58, x59, .int 0, x60, x61, x62, x63, x64, x65, x66, x67, x68, x69, x70, x71, x72])), (h10, .inl (aC 0, 14, .inl (fun _ => 0))), (h46, .inl (aC 0, 6, .inl (fun _ => 0))), (h51, .inl (aC 0, 5, .inl (fun _ => 0))), (h55, .inl (aC 0, 13, .inl (fun _ => 0)))] (QI g (fun (r : Int32) (_ : Unit) => r = 0) (fun (_ : Unit) => [])) 0 0 := by
  refine Ct.mk (by decide) (Nat.le_of_ble_eq_true rfl) ?_
  intro p e s m below meth c A ls hx hb hml hown hts hr hlk hnm hK hA hM hM2 hP hD hS hl
  have hown : s.vm.findClass RX11 = some m.cls := hown
  have F : Fx p s m _ c cX11_count 2 RX11 g aC aM A := ⟨hx, hb, hml, hown, hts, hK, hA, hM, hM2⟩
  have hl : lv_has ls 2 [(0, .ref h1), (1, .int 11)] := hl
  refine lv_aload_n hx hb dX11_count_0 rfl (lv_at hl 0 rfl) ?_
  refine lv_iconst (v := 0) hx hb dX11_count_1 (by decide) ?_
  refine xput F hP hD hS 0 rfl rfl inX11 tyX11_ok nmX11 0 (by decide) tb1182 rfl rfl rfl (Nat.le_of_ble_eq_true rfl) dX11_count_2 (fun H locs hP hD hS => ?_)
  have hP : va_P g vwCl [(h1, .inr (11, [.int 0, .int 0, x2, x3, x4, x5, x6, x7, x8, x9, .ref h10, x11, x12, x13, x14, x15, x16, x17, x18, x19, x20, x21, x22, x23, x24, x25, x26, x27, x28, x29, x30, x31, x32, x33, x34, x35, x36, x37, x38, x39, x40, x41, x42, x43, x44, x45, .ref h46, x47, x48, x49, x50, .ref h51, x52, x53, x54, .ref h55, x56, x57, x58, x59, .int 0, x60, x61, x62, x63, x64, x65, x66, x67, x68, x69, x70, x71, x72])), (h10, .inl (aC 0, 14, .inl (fun _ => 0))), (h46, .inl (aC 0, 6, .inl (fun _ => 0))), (h51, .inl (aC 0, 5, .inl (fun _ => 0))), (h55, .inl (aC 0, 13, .inl (fun _ => 0)))] H := hP
  have hD : va_D A [(h1, .inr (11, [.int 0, .int 0, x2, x3, x4, x5, x6, x7, x8, x9, .ref h10, x11, x12, x13, x14, x15, x16, x17, x18, x19, x20, x21, x22, x23, x24, x25, x26, x27, x28, x29, x30, x31, x32, x33, x34, x35, x36, x37, x38, x39, x40, x41, x42, x43, x44, x45, .ref h46, x47, x48, x49, x50, .ref h51, x52, x53, x54, .ref h55, x56, x57, x58, x59, .int 0, x60, x61, x62, x63, x64, x65, x66, x67, x68, x69, x70, x71, x72])), (h10, .inl (aC 0, 14, .inl (fun _ => 0))), (h46, .inl (aC 0, 6, .inl (fun _ => 0))), (h51, .inl (aC 0, 5, .inl (fun _ => 0))), (h55, .inl (aC 0, 13, .inl (fun _ => 0)))] := hD
  refine lv_iload_n hx hb dX11_count_5 rfl (lv_at hl 1 rfl) ?_
  refine lv_iconst (v := 0) hx hb dX11_count_6 (by decide) ?_
  refine lv_bipush (v := 12) hx hb dX11_count_7 (by decide) ?_
  refine goI (wr := [(h1, .inr (11, [.int 0, .int 0, x2, x3, x4, x5, x6, x7, x8, x9, .ref h10, x11, x12, x13, x14, x15, x16, x17, x18, x19, x20, x21, x22, x23, x24, x25, x26, x27, x28, x29, x30, x31, x32, x33, x34, x35, x36, x37, x38, x39, x40, x41, x42, x43, x44, x45, .ref h46, x47, x48, x49, x50, .ref h51, x52, x53, x54, .ref h55, x56, x57, x58, x59, .int 0, x60, x61, x62, x63, x64, x65, x66, x67, x68, x69, x70, x71, x72])), (h10, .inl (aC 0, 14, .inl (fun _ => 0))), (h46, .inl (aC 0, 6, .inl (fun _ => 0))), (h51, .inl (aC 0, 5, .inl (fun _ => 0))), (h55, .inl (aC 0, 13, .inl (fun _ => 0)))]) (runS (n := 3) (As := [.int 11, .int 0, .int 12]) (rest := []) F hP hD hS (a_X11_within_15 l g aC aM ) [] (by decide) rfl tb1511 tb1509 tb1510 tb17 ⟨by decide, by decide, by decide +kernel⟩ ⟨Nat.le_of_ble_eq_true rfl, Nat.le_of_ble_eq_true rfl⟩ rfl hl.1 rfl (Nat.le_of_ble_eq_true rfl) dX11_count_9 ⟨Nat.le_of_ble_eq_true rfl, Nat.le_of_ble_eq_true rfl⟩) hP hD hS hA [] [0, 1, 2, 3, 4] rfl rfl (by decide) (by decide) (fun r_2 w3 H locs hw hP hD hS => ?_)
  have hP : va_P g vwCl [(h1, .inr (11, [.int 0, .int 0, x2, x3, x4, x5, x6, x7, x8, x9, .ref h10, x11, x12, x13, x14, x15, x16, x17, x18, x19, x20, x21, x22, x23, x24, x25, x26, x27, x28, x29, x30, x31, x32, x33, x34, x35, x36, x37, x38, x39, x40, x41, x42, x43, x44, x45, .ref h46, x47, x48, x49, x50, .ref h51, x52, x53, x54, .ref h55, x56, x57, x58, x59, .int 0, x60, x61, x62, x63, x64, x65, x66, x67, x68, x69, x70, x71, x72])), (h10, .inl (aC 0, 14, .inl (fun _ => 0))), (h46, .inl (aC 0, 6, .inl (fun _ => 0))), (h51, .inl (aC 0, 5, .inl (fun _ => 0))), (h55, .inl (aC 0, 13, .inl (fun _ => 0)))] H := hP
  have hD : va_D A [(h1, .inr (11, [.int 0, .int 0, x2, x3, x4, x5, x6, x7, x8, x9, .ref h10, x11, x12, x13, x14, x15, x16, x17, x18, x19, x20, x21, x22, x23, x24, x25, x26, x27, x28, x29, x30, x31, x32, x33, x34, x35, x36, x37, x38, x39, x40, x41, x42, x43, x44, x45, .ref h46, x47, x48, x49, x50, .ref h51, x52, x53, x54, .ref h55, x56, x57, x58, x59, .int 0, x60, x61, x62, x63, x64, x65, x66, x67, x68, x69, x70, x71, x72])), (h10, .inl (aC 0, 14, .inl (fun _ => 0))), (h46, .inl (aC 0, 6, .inl (fun _ => 0))), (h51, .inl (aC 0, 5, .inl (fun _ => 0))), (h55, .inl (aC 0, 13, .inl (fun _ => 0)))] := hD
  try dsimp only at hw
  subst hw
  refine lv_if_ne (tgt := 17) hx hb dX11_count_12 (by decide) (fun _ => ?_) (fun c_ => absurd c_ (by decide +kernel))
  refine lv_iload_n hx hb dX11_count_17 rfl (lv_at hl 1 rfl) ?_
  refine lv_iconst (v := 5) hx hb dX11_count_18 (by decide) ?_
  refine lv_icmp_ge (tgt := 29) hx hb dX11_count_19 (by decide) (fun _ => ?_) (fun c_ => absurd (by decide +kernel) c_)
  refine lv_iload_n hx hb dX11_count_29 rfl (lv_at hl 1 rfl) ?_
  refine lv_bipush (v := 8) hx hb dX11_count_30 (by decide) ?_
  refine lv_icmp_ge (tgt := 64) hx hb dX11_count_32 (by decide) (fun _ => ?_) (fun c_ => absurd (by decide +kernel) c_)
  refine lv_iload_n hx hb dX11_count_64 rfl (lv_at hl 1 rfl) ?_
  refine lv_bipush (v := 10) hx hb dX11_count_65 (by decide) ?_
  refine lv_icmp_ge (tgt := 95) hx hb dX11_count_67 (by decide) (fun _ => ?_) (fun c_ => absurd (by decide +kernel) c_)
  refine lv_iload_n hx hb dX11_count_95 rfl (lv_at hl 1 rfl) ?_
  refine lv_bipush (v := 10) hx hb dX11_count_96 (by decide) ?_
  refine lv_icmp_ne (tgt := 110) hx hb dX11_count_98 (by decide) (fun _ => ?_) (fun c_ => absurd c_ (by decide +kernel))
  refine lv_iload_n hx hb dX11_count_110 rfl (lv_at hl 1 rfl) ?_
  refine lv_bipush (v := 11) hx hb dX11_count_111 (by decide) ?_
  refine lv_icmp_ne (tgt := 123) hx hb dX11_count_113 (by decide) (fun c_ => absurd (by decide +kernel) c_) (fun _ => ?_)
  refine lv_aload_n hx hb dX11_count_116 rfl (lv_at hl 0 rfl) ?_
  refine xget F hP 0 rfl rfl inX11 60 (by decide) tb1242 rfl dX11_count_117 ?_
  refine lv_goto (tgt := 127) hx hb dX11_count_120 (by decide) ?_
  have hP9 := hP.sub (ws' := []) [] rfl
  have hD9 := hD.sub (ws' := []) [] (by decide) rfl
  exact rI () hx hb hr hlk rfl hS rfl hP9 hD9 (Nat.le_of_ble_eq_true rfl) (Nat.le_of_ble_eq_true rfl) dX11_count_127

set_option maxHeartbeats 4000000 in
set_option maxRecDepth 100000 in
theorem m_count_12 (l : Launch) (g : va_G) (aC : Nat → ClassId) (aM : Nat → Nat) (h1 h10 h46 h51 h55 : Nat) (x2 x3 x4 x5 x6 x7 x8 x9 x11 x12 x13 x14 x15 x16 x17 x18 x19 x20 x21 x22 x23 x24 x25 x26 x27 x28 x29 x30 x31 x32 x33 x34 x35 x36 x37 x38 x39 x40 x41 x42 x43 x44 x45 x47 x48 x49 x50 x52 x53 x54 x56 x57 x58 x59 x60 x61 x62 x63 x64 x65 x66 x67 x68 x69 x70 x71 x72 : Value) : Ct l g aC aM yX11_count cX11_count 2 (some .int) 2 [.ref h1, .int 12] [(h1, .inr (11, [.int 0, .int 0, x2, x3, x4, x5, x6, x7, x8, x9, .ref h10, x11, x12, x13, x14, x15, x16, x17, x18, x19, x20, x21, x22, x23, x24, x25, x26, x27, x28, x29, x30, x31, x32, x33, x34, x35, x36, x37, x38, x39, x40, x41, x42, x43, x44, x45, .ref h46, x47, x48, x49, x50, .ref h51, x52, x53, x54, .ref h55, x56, x57, x58, x59, .int 0, x60, x61, x62, x63, x64, x65, x66, x67, x68, x69, x70, x71, x72])), (h10, .inl (aC 0, 14, .inl (fun _ => 0))), (h46, .inl (aC 0, 6, .inl (fun _ => 0))), (h51, .inl (aC 0, 5, .inl (fun _ => 0))), (h55, .inl (aC 0, 13, .inl (fun _ => 0)))] (QI g (fun (r : Int32) (_ : Unit) => r = 0) (fun (_ : Unit) => [])) 0 0 := by
  refine Ct.mk (by decide) (Nat.le_of_ble_eq_true rfl) ?_
  intro p e s m below meth c A ls hx hb hml hown hts hr hlk hnm hK hA hM hM2 hP hD hS hl
  have hown : s.vm.findClass RX11 = some m.cls := hown
  have F : Fx p s m _ c cX11_count 2 RX11 g aC aM A := ⟨hx, hb, hml, hown, hts, hK, hA, hM, hM2⟩
  have hl : lv_has ls 2 [(0, .ref h1), (1, .int 12)] := hl
  refine lv_aload_n hx hb dX11_count_0 rfl (lv_at hl 0 rfl) ?_
  refine lv_iconst (v := 0) hx hb dX11_count_1 (by decide) ?_
  refine xput F hP hD hS 0 rfl rfl inX11 tyX11_ok nmX11 0 (by decide) tb1182 rfl rfl rfl (Nat.le_of_ble_eq_true rfl) dX11_count_2 (fun H locs hP hD hS => ?_)
  have hP : va_P g vwCl [(h1, .inr (11, [.int 0, .int 0, x2, x3, x4, x5, x6, x7, x8, x9, .ref h10, x11, x12, x13, x14, x15, x16, x17, x18, x19, x20, x21, x22, x23, x24, x25, x26, x27, x28, x29, x30, x31, x32, x33, x34, x35, x36, x37, x38, x39, x40, x41, x42, x43, x44, x45, .ref h46, x47, x48, x49, x50, .ref h51, x52, x53, x54, .ref h55, x56, x57, x58, x59, .int 0, x60, x61, x62, x63, x64, x65, x66, x67, x68, x69, x70, x71, x72])), (h10, .inl (aC 0, 14, .inl (fun _ => 0))), (h46, .inl (aC 0, 6, .inl (fun _ => 0))), (h51, .inl (aC 0, 5, .inl (fun _ => 0))), (h55, .inl (aC 0, 13, .inl (fun _ => 0)))] H := hP
  have hD : va_D A [(h1, .inr (11, [.int 0, .int 0, x2, x3, x4, x5, x6, x7, x8, x9, .ref h10, x11, x12, x13, x14, x15, x16, x17, x18, x19, x20, x21, x22, x23, x24, x25, x26, x27, x28, x29, x30, x31, x32, x33, x34, x35, x36, x37, x38, x39, x40, x41, x42, x43, x44, x45, .ref h46, x47, x48, x49, x50, .ref h51, x52, x53, x54, .ref h55, x56, x57, x58, x59, .int 0, x60, x61, x62, x63, x64, x65, x66, x67, x68, x69, x70, x71, x72])), (h10, .inl (aC 0, 14, .inl (fun _ => 0))), (h46, .inl (aC 0, 6, .inl (fun _ => 0))), (h51, .inl (aC 0, 5, .inl (fun _ => 0))), (h55, .inl (aC 0, 13, .inl (fun _ => 0)))] := hD
  refine lv_iload_n hx hb dX11_count_5 rfl (lv_at hl 1 rfl) ?_
  refine lv_iconst (v := 0) hx hb dX11_count_6 (by decide) ?_
  refine lv_bipush (v := 12) hx hb dX11_count_7 (by decide) ?_
  refine goI (wr := [(h1, .inr (11, [.int 0, .int 0, x2, x3, x4, x5, x6, x7, x8, x9, .ref h10, x11, x12, x13, x14, x15, x16, x17, x18, x19, x20, x21, x22, x23, x24, x25, x26, x27, x28, x29, x30, x31, x32, x33, x34, x35, x36, x37, x38, x39, x40, x41, x42, x43, x44, x45, .ref h46, x47, x48, x49, x50, .ref h51, x52, x53, x54, .ref h55, x56, x57, x58, x59, .int 0, x60, x61, x62, x63, x64, x65, x66, x67, x68, x69, x70, x71, x72])), (h10, .inl (aC 0, 14, .inl (fun _ => 0))), (h46, .inl (aC 0, 6, .inl (fun _ => 0))), (h51, .inl (aC 0, 5, .inl (fun _ => 0))), (h55, .inl (aC 0, 13, .inl (fun _ => 0)))]) (runS (n := 3) (As := [.int 12, .int 0, .int 12]) (rest := []) F hP hD hS (a_X11_within_16 l g aC aM ) [] (by decide) rfl tb1511 tb1509 tb1510 tb17 ⟨by decide, by decide, by decide +kernel⟩ ⟨Nat.le_of_ble_eq_true rfl, Nat.le_of_ble_eq_true rfl⟩ rfl hl.1 rfl (Nat.le_of_ble_eq_true rfl) dX11_count_9 ⟨Nat.le_of_ble_eq_true rfl, Nat.le_of_ble_eq_true rfl⟩) hP hD hS hA [] [0, 1, 2, 3, 4] rfl rfl (by decide) (by decide) (fun r_2 w3 H locs hw hP hD hS => ?_)
  have hP : va_P g vwCl [(h1, .inr (11, [.int 0, .int 0, x2, x3, x4, x5, x6, x7, x8, x9, .ref h10, x11, x12, x13, x14, x15, x16, x17, x18, x19, x20, x21, x22, x23, x24, x25, x26, x27, x28, x29, x30, x31, x32, x33, x34, x35, x36, x37, x38, x39, x40, x41, x42, x43, x44, x45, .ref h46, x47, x48, x49, x50, .ref h51, x52, x53, x54, .ref h55, x56, x57, x58, x59, .int 0, x60, x61, x62, x63, x64, x65, x66, x67, x68, x69, x70, x71, x72])), (h10, .inl (aC 0, 14, .inl (fun _ => 0))), (h46, .inl (aC 0, 6, .inl (fun _ => 0))), (h51, .inl (aC 0, 5, .inl (fun _ => 0))), (h55, .inl (aC 0, 13, .inl (fun _ => 0)))] H := hP
  have hD : va_D A [(h1, .inr (11, [.int 0, .int 0, x2, x3, x4, x5, x6, x7, x8, x9, .ref h10, x11, x12, x13, x14, x15, x16, x17, x18, x19, x20, x21, x22, x23, x24, x25, x26, x27, x28, x29, x30, x31, x32, x33, x34, x35, x36, x37, x38, x39, x40, x41, x42, x43, x44, x45, .ref h46, x47, x48, x49, x50, .ref h51, x52, x53, x54, .ref h55, x56, x57, x58, x59, .int 0, x60, x61, x62, x63, x64, x65, x66, x67, x68, x69, x70, x71, x72])), (h10, .inl (aC 0, 14, .inl (fun _ => 0))), (h46, .inl (aC 0, 6, .inl (fun _ => 0))), (h51, .inl (aC 0, 5, .inl (fun _ => 0))), (h55, .inl (aC 0, 13, .inl (fun _ => 0)))] := hD
  try dsimp only at hw
  subst hw
  refine lv_if_ne (tgt := 17) hx hb dX11_count_12 (by decide) (fun _ => ?_) (fun c_ => absurd c_ (by decide +kernel))
  refine lv_iload_n hx hb dX11_count_17 rfl (lv_at hl 1 rfl) ?_
  refine lv_iconst (v := 5) hx hb dX11_count_18 (by decide) ?_
  refine lv_icmp_ge (tgt := 29) hx hb dX11_count_19 (by decide) (fun _ => ?_) (fun c_ => absurd (by decide +kernel) c_)
  refine lv_iload_n hx hb dX11_count_29 rfl (lv_at hl 1 rfl) ?_
  refine lv_bipush (v := 8) hx hb dX11_count_30 (by decide) ?_
  refine lv_icmp_ge (tgt := 64) hx hb dX11_count_32 (by decide) (fun _ => ?_) (fun c_ => absurd (by decide +kernel) c_)
  refine lv_iload_n hx hb dX11_count_64 rfl (lv_at hl 1 rfl) ?_
  refine lv_bipush (v := 10) hx hb dX11_count_65 (by decide) ?_
  refine lv_icmp_ge (tgt := 95) hx hb dX11_count_67 (by decide) (fun _ => ?_) (fun c_ => absurd (by decide +kernel) c_)
  refine lv_iload_n hx hb dX11_count_95 rfl (lv_at hl 1 rfl) ?_
  refine lv_bipush (v := 10) hx hb dX11_count_96 (by decide) ?_
  refine lv_icmp_ne (tgt := 110) hx hb dX11_count_98 (by decide) (fun _ => ?_) (fun c_ => absurd c_ (by decide +kernel))
  refine lv_iload_n hx hb dX11_count_110 rfl (lv_at hl 1 rfl) ?_
  refine lv_bipush (v := 11) hx hb dX11_count_111 (by decide) ?_
  refine lv_icmp_ne (tgt := 123) hx hb dX11_count_113 (by decide) (fun _ => ?_) (fun c_ => absurd c_ (by decide +kernel))
  refine lv_aload_n hx hb dX11_count_123 rfl (lv_at hl 0 rfl) ?_
  refine xget F hP 0 rfl rfl inX11 1 (by decide) tb1183 rfl dX11_count_124 ?_
  have hP9 := hP.sub (ws' := []) [] rfl
  have hD9 := hD.sub (ws' := []) [] (by decide) rfl
  exact rI () hx hb hr hlk rfl hS rfl hP9 hD9 (Nat.le_of_ble_eq_true rfl) (Nat.le_of_ble_eq_true rfl) dX11_count_127
