theorem tb227 : (Jvm.Cond.fieldLink "StairGang$Town" (13 : Nat) "StairGang$Town" "counts" "[I") ∈ gw := lw_m 227 (by decide +kernel)
theorem dX8_has_0 : decode cX8_has 0 = .ok (.iload_n 2, 1) := by decide +kernel
theorem dX8_has_1 : decode cX8_has 1 = .ok (.ifCond .lt 17, 3) := by decide +kernel
theorem dX8_has_4 : decode cX8_has 4 = .ok (.iload_n 2, 1) := by decide +kernel
theorem dX8_has_5 : decode cX8_has 5 = .ok (.aload_n 0, 1) := by decide +kernel
theorem dX8_has_6 : decode cX8_has 6 = .ok (.getfield 13, 3) := by decide +kernel
theorem dX8_has_9 : decode cX8_has 9 = .ok (.iload_n 1, 1) := by decide +kernel
theorem dX8_has_10 : decode cX8_has 10 = .ok (.iaload, 1) := by decide +kernel
theorem dX8_has_11 : decode cX8_has 11 = .ok (.if_icmp .ge 7, 3) := by decide +kernel
theorem dX8_has_18 : decode cX8_has 18 = .ok (.iconst 0, 1) := by decide +kernel
theorem dX8_has_19 : decode cX8_has 19 = .ok (.ireturn, 1) := by decide +kernel
set_option maxHeartbeats 4000000 in
set_option maxRecDepth 100000 in
theorem k_has0 (l : Launch) (g : va_G) (aC : Nat → ClassId) (aM : Nat → Nat) (h0 h1 : Nat) (x1 x2 x3 x4 x5 x6 x7 x8 x9 x10 x11 : Value) (n1 : Int32) : Ct l g aC aM yX8_has cX8_has 3 (some .boolean) 1 [.ref h0, .int 0, .int n1] [(h0, .inr (8, [.ref h1, x1, x2, x3, x4, x5, x6, x7, x8, x9, x10, x11])), (h1, .inl (aC 0, 5, .inl (fun _ => 0)))] (QI g (fun (r : Int32) (_ : Unit) => r = 0) (fun (_ : Unit) => [(h0, .inr (8, [.ref h1, x1, x2, x3, x4, x5, x6, x7, x8, x9, x10, x11])), (h1, .inl (aC 0, 5, .inl (fun _ => 0)))])) 0 0 := by
  refine Ct.mk (by decide) (Nat.le_of_ble_eq_true rfl) ?_
  intro p e s m below meth c A ls hx hb hml hown hts hr hlk hnm hK hA hM hM2 hP hD hS hl
  have hown : s.vm.findClass RX8 = some m.cls := hown
  have F : Fx p s m _ c cX8_has 3 RX8 g aC aM A := ⟨hx, hb, hml, hown, hts, hK, hA, hM, hM2⟩
  have hl : lv_has ls 3 [(0, .ref h0), (1, .int 0), (2, .int n1)] := hl
  refine lv_iload_n hx hb dX8_has_0 rfl (lv_at hl 2 rfl) ?_
  refine lv_if_lt (tgt := 18) hx hb dX8_has_1 (by decide) (fun c1 => ?_) (fun c1 => ?_)
  · refine lv_iconst (v := 0) hx hb dX8_has_18 (by decide) ?_
    have hP9 := hP.sub (ws' := [(h0, .inr (8, [.ref h1, x1, x2, x3, x4, x5, x6, x7, x8, x9, x10, x11])), (h1, .inl (aC 0, 5, .inl (fun _ => 0)))]) [0, 1] rfl
    have hD9 := hD.sub (ws' := [(h0, .inr (8, [.ref h1, x1, x2, x3, x4, x5, x6, x7, x8, x9, x10, x11])), (h1, .inl (aC 0, 5, .inl (fun _ => 0)))]) [0, 1] (by decide) rfl
    exact rI () hx hb hr hlk rfl hS rfl hP9 hD9 (Nat.le_of_ble_eq_true rfl) (Nat.le_of_ble_eq_true rfl) dX8_has_19
  · refine lv_iload_n hx hb dX8_has_4 rfl (lv_at hl 2 rfl) ?_
    refine lv_aload_n hx hb dX8_has_5 rfl (lv_at hl 0 rfl) ?_
    refine xget F hP 0 rfl rfl inX8 0 (by decide) tb227 rfl dX8_has_6 ?_
    refine lv_iload_n hx hb dX8_has_9 rfl (lv_at hl 1 rfl) ?_
    refine xilo (v := 0) F hP 1 rfl 0 (by decide +kernel) (by decide +kernel) (by decide) (by decide +kernel) dX8_has_10 ?_
    refine lv_icmp_ge (tgt := 18) hx hb dX8_has_11 (by decide) (fun c2 => ?_) (fun c2 => ?_)
    · refine lv_iconst (v := 0) hx hb dX8_has_18 (by decide) ?_
      have hP9 := hP.sub (ws' := [(h0, .inr (8, [.ref h1, x1, x2, x3, x4, x5, x6, x7, x8, x9, x10, x11])), (h1, .inl (aC 0, 5, .inl (fun _ => 0)))]) [0, 1] rfl
      have hD9 := hD.sub (ws' := [(h0, .inr (8, [.ref h1, x1, x2, x3, x4, x5, x6, x7, x8, x9, x10, x11])), (h1, .inl (aC 0, 5, .inl (fun _ => 0)))]) [0, 1] (by decide) rfl
      exact rI () hx hb hr hlk rfl hS rfl hP9 hD9 (Nat.le_of_ble_eq_true rfl) (Nat.le_of_ble_eq_true rfl) dX8_has_19
    · exfalso
      simp only [Int32.lt_iff_toInt_lt, Int32.le_iff_toInt_le, ← Int32.toInt_inj, show (0 : Int32).toInt = 0 by decide] at c1 c2; omega

set_option maxHeartbeats 4000000 in
set_option maxRecDepth 100000 in
theorem k_has1 (l : Launch) (g : va_G) (aC : Nat → ClassId) (aM : Nat → Nat) (h0 h1 : Nat) (x1 x2 x3 x4 x5 x6 x7 x8 x9 x10 x11 : Value) (n1 : Int32) : Ct l g aC aM yX8_has cX8_has 3 (some .boolean) 1 [.ref h0, .int 1, .int n1] [(h0, .inr (8, [.ref h1, x1, x2, x3, x4, x5, x6, x7, x8, x9, x10, x11])), (h1, .inl (aC 0, 5, .inl (fun _ => 0)))] (QI g (fun (r : Int32) (_ : Unit) => r = 0) (fun (_ : Unit) => [(h0, .inr (8, [.ref h1, x1, x2, x3, x4, x5, x6, x7, x8, x9, x10, x11])), (h1, .inl (aC 0, 5, .inl (fun _ => 0)))])) 0 0 := by
  refine Ct.mk (by decide) (Nat.le_of_ble_eq_true rfl) ?_
  intro p e s m below meth c A ls hx hb hml hown hts hr hlk hnm hK hA hM hM2 hP hD hS hl
  have hown : s.vm.findClass RX8 = some m.cls := hown
  have F : Fx p s m _ c cX8_has 3 RX8 g aC aM A := ⟨hx, hb, hml, hown, hts, hK, hA, hM, hM2⟩
  have hl : lv_has ls 3 [(0, .ref h0), (1, .int 1), (2, .int n1)] := hl
  refine lv_iload_n hx hb dX8_has_0 rfl (lv_at hl 2 rfl) ?_
  refine lv_if_lt (tgt := 18) hx hb dX8_has_1 (by decide) (fun c1 => ?_) (fun c1 => ?_)
  · refine lv_iconst (v := 0) hx hb dX8_has_18 (by decide) ?_
    have hP9 := hP.sub (ws' := [(h0, .inr (8, [.ref h1, x1, x2, x3, x4, x5, x6, x7, x8, x9, x10, x11])), (h1, .inl (aC 0, 5, .inl (fun _ => 0)))]) [0, 1] rfl
    have hD9 := hD.sub (ws' := [(h0, .inr (8, [.ref h1, x1, x2, x3, x4, x5, x6, x7, x8, x9, x10, x11])), (h1, .inl (aC 0, 5, .inl (fun _ => 0)))]) [0, 1] (by decide) rfl
    exact rI () hx hb hr hlk rfl hS rfl hP9 hD9 (Nat.le_of_ble_eq_true rfl) (Nat.le_of_ble_eq_true rfl) dX8_has_19
  · refine lv_iload_n hx hb dX8_has_4 rfl (lv_at hl 2 rfl) ?_
    refine lv_aload_n hx hb dX8_has_5 rfl (lv_at hl 0 rfl) ?_
    refine xget F hP 0 rfl rfl inX8 0 (by decide) tb227 rfl dX8_has_6 ?_
    refine lv_iload_n hx hb dX8_has_9 rfl (lv_at hl 1 rfl) ?_
    refine xilo (v := 0) F hP 1 rfl 1 (by decide +kernel) (by decide +kernel) (by decide) (by decide +kernel) dX8_has_10 ?_
    refine lv_icmp_ge (tgt := 18) hx hb dX8_has_11 (by decide) (fun c2 => ?_) (fun c2 => ?_)
    · refine lv_iconst (v := 0) hx hb dX8_has_18 (by decide) ?_
      have hP9 := hP.sub (ws' := [(h0, .inr (8, [.ref h1, x1, x2, x3, x4, x5, x6, x7, x8, x9, x10, x11])), (h1, .inl (aC 0, 5, .inl (fun _ => 0)))]) [0, 1] rfl
      have hD9 := hD.sub (ws' := [(h0, .inr (8, [.ref h1, x1, x2, x3, x4, x5, x6, x7, x8, x9, x10, x11])), (h1, .inl (aC 0, 5, .inl (fun _ => 0)))]) [0, 1] (by decide) rfl
      exact rI () hx hb hr hlk rfl hS rfl hP9 hD9 (Nat.le_of_ble_eq_true rfl) (Nat.le_of_ble_eq_true rfl) dX8_has_19
    · exfalso
      simp only [Int32.lt_iff_toInt_lt, Int32.le_iff_toInt_le, ← Int32.toInt_inj, show (0 : Int32).toInt = 0 by decide] at c1 c2; omega

set_option maxHeartbeats 4000000 in
set_option maxRecDepth 100000 in
theorem k_has2 (l : Launch) (g : va_G) (aC : Nat → ClassId) (aM : Nat → Nat) (h0 h1 : Nat) (x1 x2 x3 x4 x5 x6 x7 x8 x9 x10 x11 : Value) (n1 : Int32) : Ct l g aC aM yX8_has cX8_has 3 (some .boolean) 1 [.ref h0, .int 2, .int n1] [(h0, .inr (8, [.ref h1, x1, x2, x3, x4, x5, x6, x7, x8, x9, x10, x11])), (h1, .inl (aC 0, 5, .inl (fun _ => 0)))] (QI g (fun (r : Int32) (_ : Unit) => r = 0) (fun (_ : Unit) => [(h0, .inr (8, [.ref h1, x1, x2, x3, x4, x5, x6, x7, x8, x9, x10, x11])), (h1, .inl (aC 0, 5, .inl (fun _ => 0)))])) 0 0 := by
  refine Ct.mk (by decide) (Nat.le_of_ble_eq_true rfl) ?_
  intro p e s m below meth c A ls hx hb hml hown hts hr hlk hnm hK hA hM hM2 hP hD hS hl
  have hown : s.vm.findClass RX8 = some m.cls := hown
  have F : Fx p s m _ c cX8_has 3 RX8 g aC aM A := ⟨hx, hb, hml, hown, hts, hK, hA, hM, hM2⟩
  have hl : lv_has ls 3 [(0, .ref h0), (1, .int 2), (2, .int n1)] := hl
  refine lv_iload_n hx hb dX8_has_0 rfl (lv_at hl 2 rfl) ?_
  refine lv_if_lt (tgt := 18) hx hb dX8_has_1 (by decide) (fun c1 => ?_) (fun c1 => ?_)
  · refine lv_iconst (v := 0) hx hb dX8_has_18 (by decide) ?_
    have hP9 := hP.sub (ws' := [(h0, .inr (8, [.ref h1, x1, x2, x3, x4, x5, x6, x7, x8, x9, x10, x11])), (h1, .inl (aC 0, 5, .inl (fun _ => 0)))]) [0, 1] rfl
    have hD9 := hD.sub (ws' := [(h0, .inr (8, [.ref h1, x1, x2, x3, x4, x5, x6, x7, x8, x9, x10, x11])), (h1, .inl (aC 0, 5, .inl (fun _ => 0)))]) [0, 1] (by decide) rfl
    exact rI () hx hb hr hlk rfl hS rfl hP9 hD9 (Nat.le_of_ble_eq_true rfl) (Nat.le_of_ble_eq_true rfl) dX8_has_19
  · refine lv_iload_n hx hb dX8_has_4 rfl (lv_at hl 2 rfl) ?_
    refine lv_aload_n hx hb dX8_has_5 rfl (lv_at hl 0 rfl) ?_
    refine xget F hP 0 rfl rfl inX8 0 (by decide) tb227 rfl dX8_has_6 ?_
    refine lv_iload_n hx hb dX8_has_9 rfl (lv_at hl 1 rfl) ?_
    refine xilo (v := 0) F hP 1 rfl 2 (by decide +kernel) (by decide +kernel) (by decide) (by decide +kernel) dX8_has_10 ?_
    refine lv_icmp_ge (tgt := 18) hx hb dX8_has_11 (by decide) (fun c2 => ?_) (fun c2 => ?_)
    · refine lv_iconst (v := 0) hx hb dX8_has_18 (by decide) ?_
      have hP9 := hP.sub (ws' := [(h0, .inr (8, [.ref h1, x1, x2, x3, x4, x5, x6, x7, x8, x9, x10, x11])), (h1, .inl (aC 0, 5, .inl (fun _ => 0)))]) [0, 1] rfl
      have hD9 := hD.sub (ws' := [(h0, .inr (8, [.ref h1, x1, x2, x3, x4, x5, x6, x7, x8, x9, x10, x11])), (h1, .inl (aC 0, 5, .inl (fun _ => 0)))]) [0, 1] (by decide) rfl
      exact rI () hx hb hr hlk rfl hS rfl hP9 hD9 (Nat.le_of_ble_eq_true rfl) (Nat.le_of_ble_eq_true rfl) dX8_has_19
    · exfalso
      simp only [Int32.lt_iff_toInt_lt, Int32.le_iff_toInt_le, ← Int32.toInt_inj, show (0 : Int32).toInt = 0 by decide] at c1 c2; omega

set_option maxHeartbeats 4000000 in
set_option maxRecDepth 100000 in
theorem k_has3 (l : Launch) (g : va_G) (aC : Nat → ClassId) (aM : Nat → Nat) (h0 h1 : Nat) (x1 x2 x3 x4 x5 x6 x7 x8 x9 x10 x11 : Value) (n1 : Int32) : Ct l g aC aM yX8_has cX8_has 3 (some .boolean) 1 [.ref h0, .int 3, .int n1] [(h0, .inr (8, [.ref h1, x1, x2, x3, x4, x5, x6, x7, x8, x9, x10, x11])), (h1, .inl (aC 0, 5, .inl (fun _ => 0)))] (QI g (fun (r : Int32) (_ : Unit) => r = 0) (fun (_ : Unit) => [(h0, .inr (8, [.ref h1, x1, x2, x3, x4, x5, x6, x7, x8, x9, x10, x11])), (h1, .inl (aC 0, 5, .inl (fun _ => 0)))])) 0 0 := by
  refine Ct.mk (by decide) (Nat.le_of_ble_eq_true rfl) ?_
  intro p e s m below meth c A ls hx hb hml hown hts hr hlk hnm hK hA hM hM2 hP hD hS hl
  have hown : s.vm.findClass RX8 = some m.cls := hown
  have F : Fx p s m _ c cX8_has 3 RX8 g aC aM A := ⟨hx, hb, hml, hown, hts, hK, hA, hM, hM2⟩
  have hl : lv_has ls 3 [(0, .ref h0), (1, .int 3), (2, .int n1)] := hl
  refine lv_iload_n hx hb dX8_has_0 rfl (lv_at hl 2 rfl) ?_
  refine lv_if_lt (tgt := 18) hx hb dX8_has_1 (by decide) (fun c1 => ?_) (fun c1 => ?_)
  · refine lv_iconst (v := 0) hx hb dX8_has_18 (by decide) ?_
    have hP9 := hP.sub (ws' := [(h0, .inr (8, [.ref h1, x1, x2, x3, x4, x5, x6, x7, x8, x9, x10, x11])), (h1, .inl (aC 0, 5, .inl (fun _ => 0)))]) [0, 1] rfl
    have hD9 := hD.sub (ws' := [(h0, .inr (8, [.ref h1, x1, x2, x3, x4, x5, x6, x7, x8, x9, x10, x11])), (h1, .inl (aC 0, 5, .inl (fun _ => 0)))]) [0, 1] (by decide) rfl
    exact rI () hx hb hr hlk rfl hS rfl hP9 hD9 (Nat.le_of_ble_eq_true rfl) (Nat.le_of_ble_eq_true rfl) dX8_has_19
  · refine lv_iload_n hx hb dX8_has_4 rfl (lv_at hl 2 rfl) ?_
    refine lv_aload_n hx hb dX8_has_5 rfl (lv_at hl 0 rfl) ?_
    refine xget F hP 0 rfl rfl inX8 0 (by decide) tb227 rfl dX8_has_6 ?_
    refine lv_iload_n hx hb dX8_has_9 rfl (lv_at hl 1 rfl) ?_
    refine xilo (v := 0) F hP 1 rfl 3 (by decide +kernel) (by decide +kernel) (by decide) (by decide +kernel) dX8_has_10 ?_
    refine lv_icmp_ge (tgt := 18) hx hb dX8_has_11 (by decide) (fun c2 => ?_) (fun c2 => ?_)
    · refine lv_iconst (v := 0) hx hb dX8_has_18 (by decide) ?_
      have hP9 := hP.sub (ws' := [(h0, .inr (8, [.ref h1, x1, x2, x3, x4, x5, x6, x7, x8, x9, x10, x11])), (h1, .inl (aC 0, 5, .inl (fun _ => 0)))]) [0, 1] rfl
      have hD9 := hD.sub (ws' := [(h0, .inr (8, [.ref h1, x1, x2, x3, x4, x5, x6, x7, x8, x9, x10, x11])), (h1, .inl (aC 0, 5, .inl (fun _ => 0)))]) [0, 1] (by decide) rfl
      exact rI () hx hb hr hlk rfl hS rfl hP9 hD9 (Nat.le_of_ble_eq_true rfl) (Nat.le_of_ble_eq_true rfl) dX8_has_19
    · exfalso
      simp only [Int32.lt_iff_toInt_lt, Int32.le_iff_toInt_le, ← Int32.toInt_inj, show (0 : Int32).toInt = 0 by decide] at c1 c2; omega

set_option maxHeartbeats 4000000 in
set_option maxRecDepth 100000 in
theorem k_has4 (l : Launch) (g : va_G) (aC : Nat → ClassId) (aM : Nat → Nat) (h0 h1 : Nat) (x1 x2 x3 x4 x5 x6 x7 x8 x9 x10 x11 : Value) (n1 : Int32) : Ct l g aC aM yX8_has cX8_has 3 (some .boolean) 1 [.ref h0, .int 4, .int n1] [(h0, .inr (8, [.ref h1, x1, x2, x3, x4, x5, x6, x7, x8, x9, x10, x11])), (h1, .inl (aC 0, 5, .inl (fun _ => 0)))] (QI g (fun (r : Int32) (_ : Unit) => r = 0) (fun (_ : Unit) => [(h0, .inr (8, [.ref h1, x1, x2, x3, x4, x5, x6, x7, x8, x9, x10, x11])), (h1, .inl (aC 0, 5, .inl (fun _ => 0)))])) 0 0 := by
  refine Ct.mk (by decide) (Nat.le_of_ble_eq_true rfl) ?_
  intro p e s m below meth c A ls hx hb hml hown hts hr hlk hnm hK hA hM hM2 hP hD hS hl
  have hown : s.vm.findClass RX8 = some m.cls := hown
  have F : Fx p s m _ c cX8_has 3 RX8 g aC aM A := ⟨hx, hb, hml, hown, hts, hK, hA, hM, hM2⟩
  have hl : lv_has ls 3 [(0, .ref h0), (1, .int 4), (2, .int n1)] := hl
  refine lv_iload_n hx hb dX8_has_0 rfl (lv_at hl 2 rfl) ?_
  refine lv_if_lt (tgt := 18) hx hb dX8_has_1 (by decide) (fun c1 => ?_) (fun c1 => ?_)
  · refine lv_iconst (v := 0) hx hb dX8_has_18 (by decide) ?_
    have hP9 := hP.sub (ws' := [(h0, .inr (8, [.ref h1, x1, x2, x3, x4, x5, x6, x7, x8, x9, x10, x11])), (h1, .inl (aC 0, 5, .inl (fun _ => 0)))]) [0, 1] rfl
    have hD9 := hD.sub (ws' := [(h0, .inr (8, [.ref h1, x1, x2, x3, x4, x5, x6, x7, x8, x9, x10, x11])), (h1, .inl (aC 0, 5, .inl (fun _ => 0)))]) [0, 1] (by decide) rfl
    exact rI () hx hb hr hlk rfl hS rfl hP9 hD9 (Nat.le_of_ble_eq_true rfl) (Nat.le_of_ble_eq_true rfl) dX8_has_19
  · refine lv_iload_n hx hb dX8_has_4 rfl (lv_at hl 2 rfl) ?_
    refine lv_aload_n hx hb dX8_has_5 rfl (lv_at hl 0 rfl) ?_
    refine xget F hP 0 rfl rfl inX8 0 (by decide) tb227 rfl dX8_has_6 ?_
    refine lv_iload_n hx hb dX8_has_9 rfl (lv_at hl 1 rfl) ?_
    refine xilo (v := 0) F hP 1 rfl 4 (by decide +kernel) (by decide +kernel) (by decide) (by decide +kernel) dX8_has_10 ?_
    refine lv_icmp_ge (tgt := 18) hx hb dX8_has_11 (by decide) (fun c2 => ?_) (fun c2 => ?_)
    · refine lv_iconst (v := 0) hx hb dX8_has_18 (by decide) ?_
      have hP9 := hP.sub (ws' := [(h0, .inr (8, [.ref h1, x1, x2, x3, x4, x5, x6, x7, x8, x9, x10, x11])), (h1, .inl (aC 0, 5, .inl (fun _ => 0)))]) [0, 1] rfl
      have hD9 := hD.sub (ws' := [(h0, .inr (8, [.ref h1, x1, x2, x3, x4, x5, x6, x7, x8, x9, x10, x11])), (h1, .inl (aC 0, 5, .inl (fun _ => 0)))]) [0, 1] (by decide) rfl
      exact rI () hx hb hr hlk rfl hS rfl hP9 hD9 (Nat.le_of_ble_eq_true rfl) (Nat.le_of_ble_eq_true rfl) dX8_has_19
    · exfalso
      simp only [Int32.lt_iff_toInt_lt, Int32.le_iff_toInt_le, ← Int32.toInt_inj, show (0 : Int32).toInt = 0 by decide] at c1 c2; omega

theorem tb32 : (Jvm.Cond.instanceMethod ({ cls := "java/lang/Object", name := "<init>", desc := "()V" } : Jvm.MethodName)) ∈ gw := lw_m 32 (by decide +kernel)
theorem tb33 : (Jvm.Cond.code ({ cls := "java/lang/Object", name := "<init>", desc := "()V" } : Jvm.MethodName) object_method_1_code (1 : Nat) (Option.none : Option Jvm.ClassFile.FieldType)) ∈ gw := lw_m 33 (by decide +kernel)
theorem tb166 : (Jvm.Cond.arrayClass Jvm.ClassFile.FieldType.int) ∈ gw := lw_m 166 (by decide +kernel)
theorem tb290 : (Jvm.Cond.methodLink "StairGang$State" (3 : Nat) ({ cls := "java/lang/Object", name := "<init>", desc := "()V" } : Jvm.MethodName)) ∈ gw := lw_m 290 (by decide +kernel)
theorem tb294 : (Jvm.Cond.fieldLink "StairGang$State" (13 : Nat) "StairGang$State" "people" "[I") ∈ gw := lw_m 294 (by decide +kernel)
theorem tb296 : (Jvm.Cond.fieldLink "StairGang$State" (18 : Nat) "StairGang$State" "things" "[I") ∈ gw := lw_m 296 (by decide +kernel)
theorem dX6_init_0 : decode cX6_init 0 = .ok (.aload_n 0, 1) := by decide +kernel
theorem dX6_init_1 : decode cX6_init 1 = .ok (.invokespecial 3, 3) := by decide +kernel
theorem dX6_init_4 : decode cX6_init 4 = .ok (.aload_n 0, 1) := by decide +kernel
theorem dX6_init_5 : decode cX6_init 5 = .ok (.getstatic 9, 3) := by decide +kernel
theorem dX6_init_8 : decode cX6_init 8 = .ok (.iconst 3, 1) := by decide +kernel
theorem dX6_init_9 : decode cX6_init 9 = .ok (.iaload, 1) := by decide +kernel
theorem dX6_init_10 : decode cX6_init 10 = .ok (.newarray .int, 2) := by decide +kernel
theorem dX6_init_12 : decode cX6_init 12 = .ok (.putfield 13, 3) := by decide +kernel
theorem dX6_init_15 : decode cX6_init 15 = .ok (.aload_n 0, 1) := by decide +kernel
theorem dX6_init_16 : decode cX6_init 16 = .ok (.getstatic 9, 3) := by decide +kernel
theorem dX6_init_19 : decode cX6_init 19 = .ok (.iconst 2, 1) := by decide +kernel
theorem dX6_init_20 : decode cX6_init 20 = .ok (.iaload, 1) := by decide +kernel
theorem dX6_init_21 : decode cX6_init 21 = .ok (.newarray .int, 2) := by decide +kernel
theorem dX6_init_23 : decode cX6_init 23 = .ok (.putfield 18, 3) := by decide +kernel
theorem dX6_init_26 : decode cX6_init 26 = .ok (.return_, 1) := by decide +kernel
set_option maxHeartbeats 4000000 in
set_option maxRecDepth 100000 in
theorem k_State_init (l : Launch) (g : va_G) (aC : Nat → ClassId) (aM : Nat → Nat) (h0 : Nat) : Ct l g aC aM yX6_init cX6_init 1 none 1 [.ref h0] [(h0, .inr (6, [.int 0, .null, .null, .int 0, .int 0, .int 0]))] (QV g (fun (u : Nat × Nat) => True) (fun (u : Nat × Nat) => [(h0, .inr (6, [.int 0, .ref u.1, .ref u.2, .int 0, .int 0, .int 0])), (u.1, .inl (aC 0, 5, .inl (fun _ => 0))), (u.2, .inl (aC 0, 4, .inl (fun _ => 0)))])) 2 9 := by
  refine Ct.mk (by decide) (Nat.le_of_ble_eq_true rfl) ?_
  intro p e s m below meth c A ls hx hb hml hown hts hr hlk hnm hK hA hM hM2 hP hD hS hl
  have hown : s.vm.findClass RX6 = some m.cls := hown
  have F : Fx p s m _ c cX6_init 1 RX6 g aC aM A := ⟨hx, hb, hml, hown, hts, hK, hA, hM, hM2⟩
  have hl : lv_has ls 1 [(0, .ref h0)] := hl
  refine lv_aload_n hx hb dX6_init_0 rfl (lv_at hl 0 rfl) ?_
  refine xobj F tb290 tb32 tb33 hl.1 dX6_init_1 (Nat.le_of_ble_eq_true rfl) (Nat.le_of_ble_eq_true rfl) ?_
  refine lv_aload_n hx hb dX6_init_4 rfl (lv_at hl 0 rfl) ?_
  refine xmostN F hS (by decide) dX6_init_5 ?_
  refine lv_iconst (v := 3) hx hb dX6_init_8 (by decide) ?_
  refine xmolo (v := 5) F hS 3 (by decide +kernel) (by decide +kernel) (by decide) rfl dX6_init_9 ?_
  refine xnewa (atype := .int) (a0 := (5, .inl (fun _ => 0))) (N' := 5) F hP hD hS rfl tb166 0 rfl (fun _ => rfl) (fun _ => rfl) (by decide +kernel) (by decide +kernel) (by decide) (Nat.le_of_ble_eq_true rfl) (Nat.le_of_ble_eq_true rfl) dX6_init_10 (fun q1 H hP hD hS => ?_)
  have hP : va_P g vwCl [(h0, .inr (6, [.int 0, .null, .null, .int 0, .int 0, .int 0])), (q1, .inl (aC 0, 5, .inl (fun _ => 0)))] H := hP
  have hD : va_D A [(h0, .inr (6, [.int 0, .null, .null, .int 0, .int 0, .int 0])), (q1, .inl (aC 0, 5, .inl (fun _ => 0)))] := hD
  refine xputF F hP hD hS 0 rfl rfl inX6 tyX6_ok nmX6 1 (by decide) tb294 rfl hnm rfl rfl rfl (Nat.le_of_ble_eq_true rfl) dX6_init_12 (fun H locs hP hD hS => ?_)
  have hP : va_P g vwCl [(h0, .inr (6, [.int 0, .ref q1, .null, .int 0, .int 0, .int 0])), (q1, .inl (aC 0, 5, .inl (fun _ => 0)))] H := hP
  have hD : va_D A [(h0, .inr (6, [.int 0, .ref q1, .null, .int 0, .int 0, .int 0])), (q1, .inl (aC 0, 5, .inl (fun _ => 0)))] := hD
  refine lv_aload_n hx hb dX6_init_15 rfl (lv_at hl 0 rfl) ?_
  refine xmostN F hS (by decide) dX6_init_16 ?_
  refine lv_iconst (v := 2) hx hb dX6_init_19 (by decide) ?_
  refine xmolo (v := 4) F hS 2 (by decide +kernel) (by decide +kernel) (by decide) rfl dX6_init_20 ?_
  refine xnewa (atype := .int) (a0 := (4, .inl (fun _ => 0))) (N' := 4) F hP hD hS rfl tb166 0 rfl (fun _ => rfl) (fun _ => rfl) (by decide +kernel) (by decide +kernel) (by decide) (Nat.le_of_ble_eq_true rfl) (Nat.le_of_ble_eq_true rfl) dX6_init_21 (fun q2 H hP hD hS => ?_)
  have hP : va_P g vwCl [(h0, .inr (6, [.int 0, .ref q1, .null, .int 0, .int 0, .int 0])), (q1, .inl (aC 0, 5, .inl (fun _ => 0))), (q2, .inl (aC 0, 4, .inl (fun _ => 0)))] H := hP
  have hD : va_D A [(h0, .inr (6, [.int 0, .ref q1, .null, .int 0, .int 0, .int 0])), (q1, .inl (aC 0, 5, .inl (fun _ => 0))), (q2, .inl (aC 0, 4, .inl (fun _ => 0)))] := hD
  refine xputF F hP hD hS 0 rfl rfl inX6 tyX6_ok nmX6 2 (by decide) tb296 rfl hnm rfl rfl rfl (Nat.le_of_ble_eq_true rfl) dX6_init_23 (fun H locs hP hD hS => ?_)
  have hP : va_P g vwCl [(h0, .inr (6, [.int 0, .ref q1, .ref q2, .int 0, .int 0, .int 0])), (q1, .inl (aC 0, 5, .inl (fun _ => 0))), (q2, .inl (aC 0, 4, .inl (fun _ => 0)))] H := hP
  have hD : va_D A [(h0, .inr (6, [.int 0, .ref q1, .ref q2, .int 0, .int 0, .int 0])), (q1, .inl (aC 0, 5, .inl (fun _ => 0))), (q2, .inl (aC 0, 4, .inl (fun _ => 0)))] := hD
  have hP9 := hP.sub (ws' := [(h0, .inr (6, [.int 0, .ref q1, .ref q2, .int 0, .int 0, .int 0])), (q1, .inl (aC 0, 5, .inl (fun _ => 0))), (q2, .inl (aC 0, 4, .inl (fun _ => 0)))]) [0, 1, 2] rfl
  have hD9 := hD.sub (ws' := [(h0, .inr (6, [.int 0, .ref q1, .ref q2, .int 0, .int 0, .int 0])), (q1, .inl (aC 0, 5, .inl (fun _ => 0))), (q2, .inl (aC 0, 4, .inl (fun _ => 0)))]) [0, 1, 2] (by decide) rfl
  exact rV (q1, q2) hx hb hr hlk hS trivial hP9 hD9 (Nat.le_of_ble_eq_true rfl) (Nat.le_of_ble_eq_true rfl) dX6_init_26

theorem tb322 : (Jvm.Cond.methodLink "StairGang$Said" (1 : Nat) ({ cls := "java/lang/Object", name := "<init>", desc := "()V" } : Jvm.MethodName)) ∈ gw := lw_m 322 (by decide +kernel)
theorem tb323 : (Jvm.Cond.fieldLink "StairGang$Said" (9 : Nat) "StairGang$Said" "lines" "[I") ∈ gw := lw_m 323 (by decide +kernel)
theorem tb329 : (Jvm.Cond.fieldLink "StairGang$Said" (15 : Nat) "StairGang$Said" "seenLacks" "[I") ∈ gw := lw_m 329 (by decide +kernel)
theorem dX5_init_0 : decode cX5_init 0 = .ok (.aload_n 0, 1) := by decide +kernel
theorem dX5_init_1 : decode cX5_init 1 = .ok (.invokespecial 1, 3) := by decide +kernel
theorem dX5_init_4 : decode cX5_init 4 = .ok (.aload_n 0, 1) := by decide +kernel
theorem dX5_init_5 : decode cX5_init 5 = .ok (.sipush 160, 3) := by decide +kernel
theorem dX5_init_8 : decode cX5_init 8 = .ok (.newarray .int, 2) := by decide +kernel
theorem dX5_init_10 : decode cX5_init 10 = .ok (.putfield 9, 3) := by decide +kernel
theorem dX5_init_13 : decode cX5_init 13 = .ok (.aload_n 0, 1) := by decide +kernel
theorem dX5_init_14 : decode cX5_init 14 = .ok (.bipush 8, 2) := by decide +kernel
theorem dX5_init_16 : decode cX5_init 16 = .ok (.newarray .int, 2) := by decide +kernel
theorem dX5_init_18 : decode cX5_init 18 = .ok (.putfield 15, 3) := by decide +kernel
theorem dX5_init_21 : decode cX5_init 21 = .ok (.return_, 1) := by decide +kernel
set_option maxHeartbeats 4000000 in
set_option maxRecDepth 100000 in
theorem k_Said_init (l : Launch) (g : va_G) (aC : Nat → ClassId) (aM : Nat → Nat) (h0 : Nat) : Ct l g aC aM yX5_init cX5_init 1 none 1 [.ref h0] [(h0, .inr (5, [.null, .int 0, .int 0, .null, .int 0]))] (QV g (fun (u : Nat × Nat) => True) (fun (u : Nat × Nat) => [(h0, .inr (5, [.ref u.1, .int 0, .int 0, .ref u.2, .int 0])), (u.1, .inl (aC 0, 160, .inl (fun _ => 0))), (u.2, .inl (aC 0, 8, .inl (fun _ => 0)))])) 2 168 := by
  refine Ct.mk (by decide) (Nat.le_of_ble_eq_true rfl) ?_
  intro p e s m below meth c A ls hx hb hml hown hts hr hlk hnm hK hA hM hM2 hP hD hS hl
  have hown : s.vm.findClass RX5 = some m.cls := hown
  have F : Fx p s m _ c cX5_init 1 RX5 g aC aM A := ⟨hx, hb, hml, hown, hts, hK, hA, hM, hM2⟩
  have hl : lv_has ls 1 [(0, .ref h0)] := hl
  refine lv_aload_n hx hb dX5_init_0 rfl (lv_at hl 0 rfl) ?_
  refine xobj F tb322 tb32 tb33 hl.1 dX5_init_1 (Nat.le_of_ble_eq_true rfl) (Nat.le_of_ble_eq_true rfl) ?_
  refine lv_aload_n hx hb dX5_init_4 rfl (lv_at hl 0 rfl) ?_
  refine lv_sipush (v := 160) hx hb dX5_init_5 (by decide) ?_
  refine xnewa (atype := .int) (a0 := (160, .inl (fun _ => 0))) (N' := 160) F hP hD hS rfl tb166 0 rfl (fun _ => rfl) (fun _ => rfl) (by decide +kernel) (by decide +kernel) (by decide) (Nat.le_of_ble_eq_true rfl) (Nat.le_of_ble_eq_true rfl) dX5_init_8 (fun q1 H hP hD hS => ?_)
  have hP : va_P g vwCl [(h0, .inr (5, [.null, .int 0, .int 0, .null, .int 0])), (q1, .inl (aC 0, 160, .inl (fun _ => 0)))] H := hP
  have hD : va_D A [(h0, .inr (5, [.null, .int 0, .int 0, .null, .int 0])), (q1, .inl (aC 0, 160, .inl (fun _ => 0)))] := hD
  refine xputF F hP hD hS 0 rfl rfl inX5 tyX5_ok nmX5 0 (by decide) tb323 rfl hnm rfl rfl rfl (Nat.le_of_ble_eq_true rfl) dX5_init_10 (fun H locs hP hD hS => ?_)
  have hP : va_P g vwCl [(h0, .inr (5, [.ref q1, .int 0, .int 0, .null, .int 0])), (q1, .inl (aC 0, 160, .inl (fun _ => 0)))] H := hP
  have hD : va_D A [(h0, .inr (5, [.ref q1, .int 0, .int 0, .null, .int 0])), (q1, .inl (aC 0, 160, .inl (fun _ => 0)))] := hD
  refine lv_aload_n hx hb dX5_init_13 rfl (lv_at hl 0 rfl) ?_
  refine lv_bipush (v := 8) hx hb dX5_init_14 (by decide) ?_
  refine xnewa (atype := .int) (a0 := (8, .inl (fun _ => 0))) (N' := 8) F hP hD hS rfl tb166 0 rfl (fun _ => rfl) (fun _ => rfl) (by decide +kernel) (by decide +kernel) (by decide) (Nat.le_of_ble_eq_true rfl) (Nat.le_of_ble_eq_true rfl) dX5_init_16 (fun q2 H hP hD hS => ?_)
  have hP : va_P g vwCl [(h0, .inr (5, [.ref q1, .int 0, .int 0, .null, .int 0])), (q1, .inl (aC 0, 160, .inl (fun _ => 0))), (q2, .inl (aC 0, 8, .inl (fun _ => 0)))] H := hP
  have hD : va_D A [(h0, .inr (5, [.ref q1, .int 0, .int 0, .null, .int 0])), (q1, .inl (aC 0, 160, .inl (fun _ => 0))), (q2, .inl (aC 0, 8, .inl (fun _ => 0)))] := hD
  refine xputF F hP hD hS 0 rfl rfl inX5 tyX5_ok nmX5 3 (by decide) tb329 rfl hnm rfl rfl rfl (Nat.le_of_ble_eq_true rfl) dX5_init_18 (fun H locs hP hD hS => ?_)
  have hP : va_P g vwCl [(h0, .inr (5, [.ref q1, .int 0, .int 0, .ref q2, .int 0])), (q1, .inl (aC 0, 160, .inl (fun _ => 0))), (q2, .inl (aC 0, 8, .inl (fun _ => 0)))] H := hP
  have hD : va_D A [(h0, .inr (5, [.ref q1, .int 0, .int 0, .ref q2, .int 0])), (q1, .inl (aC 0, 160, .inl (fun _ => 0))), (q2, .inl (aC 0, 8, .inl (fun _ => 0)))] := hD
  have hP9 := hP.sub (ws' := [(h0, .inr (5, [.ref q1, .int 0, .int 0, .ref q2, .int 0])), (q1, .inl (aC 0, 160, .inl (fun _ => 0))), (q2, .inl (aC 0, 8, .inl (fun _ => 0)))]) [0, 1, 2] rfl
  have hD9 := hD.sub (ws' := [(h0, .inr (5, [.ref q1, .int 0, .int 0, .ref q2, .int 0])), (q1, .inl (aC 0, 160, .inl (fun _ => 0))), (q2, .inl (aC 0, 8, .inl (fun _ => 0)))]) [0, 1, 2] (by decide) rfl
  exact rV (q1, q2) hx hb hr hlk hS trivial hP9 hD9 (Nat.le_of_ble_eq_true rfl) (Nat.le_of_ble_eq_true rfl) dX5_init_21

theorem tb182 : (Jvm.Cond.methodLink "StairGang$Price" (3 : Nat) ({ cls := "java/lang/Object", name := "<init>", desc := "()V" } : Jvm.MethodName)) ∈ gw := lw_m 182 (by decide +kernel)
theorem tb183 : (Jvm.Cond.fieldLink "StairGang$Price" (9 : Nat) "StairGang$Price" "steps" "[I") ∈ gw := lw_m 183 (by decide +kernel)
theorem tb185 : (Jvm.Cond.fieldLink "StairGang$Price" (15 : Nat) "StairGang$Price" "stack" "[I") ∈ gw := lw_m 185 (by decide +kernel)
theorem dX4_init_0 : decode cX4_init 0 = .ok (.aload_n 0, 1) := by decide +kernel
theorem dX4_init_1 : decode cX4_init 1 = .ok (.invokespecial 3, 3) := by decide +kernel
theorem dX4_init_4 : decode cX4_init 4 = .ok (.aload_n 0, 1) := by decide +kernel
theorem dX4_init_5 : decode cX4_init 5 = .ok (.sipush 1000, 3) := by decide +kernel
theorem dX4_init_8 : decode cX4_init 8 = .ok (.newarray .int, 2) := by decide +kernel
theorem dX4_init_10 : decode cX4_init 10 = .ok (.putfield 9, 3) := by decide +kernel
theorem dX4_init_13 : decode cX4_init 13 = .ok (.aload_n 0, 1) := by decide +kernel
theorem dX4_init_14 : decode cX4_init 14 = .ok (.bipush 24, 2) := by decide +kernel
theorem dX4_init_16 : decode cX4_init 16 = .ok (.newarray .int, 2) := by decide +kernel
theorem dX4_init_18 : decode cX4_init 18 = .ok (.putfield 15, 3) := by decide +kernel
theorem dX4_init_21 : decode cX4_init 21 = .ok (.return_, 1) := by decide +kernel
set_option maxHeartbeats 4000000 in
set_option maxRecDepth 100000 in
theorem k_Price_init (l : Launch) (g : va_G) (aC : Nat → ClassId) (aM : Nat → Nat) (h0 : Nat) : Ct l g aC aM yX4_init cX4_init 1 none 1 [.ref h0] [(h0, .inr (4, [.null, .int 0, .null]))] (QV g (fun (u : Nat × Nat) => True) (fun (u : Nat × Nat) => [(h0, .inr (4, [.ref u.1, .int 0, .ref u.2])), (u.1, .inl (aC 0, 1000, .inl (fun _ => 0))), (u.2, .inl (aC 0, 24, .inl (fun _ => 0)))])) 2 1024 := by
  refine Ct.mk (by decide) (Nat.le_of_ble_eq_true rfl) ?_
  intro p e s m below meth c A ls hx hb hml hown hts hr hlk hnm hK hA hM hM2 hP hD hS hl
  have hown : s.vm.findClass RX4 = some m.cls := hown
  have F : Fx p s m _ c cX4_init 1 RX4 g aC aM A := ⟨hx, hb, hml, hown, hts, hK, hA, hM, hM2⟩
  have hl : lv_has ls 1 [(0, .ref h0)] := hl
  refine lv_aload_n hx hb dX4_init_0 rfl (lv_at hl 0 rfl) ?_
  refine xobj F tb182 tb32 tb33 hl.1 dX4_init_1 (Nat.le_of_ble_eq_true rfl) (Nat.le_of_ble_eq_true rfl) ?_
  refine lv_aload_n hx hb dX4_init_4 rfl (lv_at hl 0 rfl) ?_
  refine lv_sipush (v := 1000) hx hb dX4_init_5 (by decide) ?_
  refine xnewa (atype := .int) (a0 := (1000, .inl (fun _ => 0))) (N' := 1000) F hP hD hS rfl tb166 0 rfl (fun _ => rfl) (fun _ => rfl) (by decide +kernel) (by decide +kernel) (by decide) (Nat.le_of_ble_eq_true rfl) (Nat.le_of_ble_eq_true rfl) dX4_init_8 (fun q1 H hP hD hS => ?_)
  have hP : va_P g vwCl [(h0, .inr (4, [.null, .int 0, .null])), (q1, .inl (aC 0, 1000, .inl (fun _ => 0)))] H := hP
  have hD : va_D A [(h0, .inr (4, [.null, .int 0, .null])), (q1, .inl (aC 0, 1000, .inl (fun _ => 0)))] := hD
  refine xputF F hP hD hS 0 rfl rfl inX4 tyX4_ok nmX4 0 (by decide) tb183 rfl hnm rfl rfl rfl (Nat.le_of_ble_eq_true rfl) dX4_init_10 (fun H locs hP hD hS => ?_)
  have hP : va_P g vwCl [(h0, .inr (4, [.ref q1, .int 0, .null])), (q1, .inl (aC 0, 1000, .inl (fun _ => 0)))] H := hP
  have hD : va_D A [(h0, .inr (4, [.ref q1, .int 0, .null])), (q1, .inl (aC 0, 1000, .inl (fun _ => 0)))] := hD
  refine lv_aload_n hx hb dX4_init_13 rfl (lv_at hl 0 rfl) ?_
  refine lv_bipush (v := 24) hx hb dX4_init_14 (by decide) ?_
  refine xnewa (atype := .int) (a0 := (24, .inl (fun _ => 0))) (N' := 24) F hP hD hS rfl tb166 0 rfl (fun _ => rfl) (fun _ => rfl) (by decide +kernel) (by decide +kernel) (by decide) (Nat.le_of_ble_eq_true rfl) (Nat.le_of_ble_eq_true rfl) dX4_init_16 (fun q2 H hP hD hS => ?_)
  have hP : va_P g vwCl [(h0, .inr (4, [.ref q1, .int 0, .null])), (q1, .inl (aC 0, 1000, .inl (fun _ => 0))), (q2, .inl (aC 0, 24, .inl (fun _ => 0)))] H := hP
  have hD : va_D A [(h0, .inr (4, [.ref q1, .int 0, .null])), (q1, .inl (aC 0, 1000, .inl (fun _ => 0))), (q2, .inl (aC 0, 24, .inl (fun _ => 0)))] := hD
  refine xputF F hP hD hS 0 rfl rfl inX4 tyX4_ok nmX4 2 (by decide) tb185 rfl hnm rfl rfl rfl (Nat.le_of_ble_eq_true rfl) dX4_init_18 (fun H locs hP hD hS => ?_)
  have hP : va_P g vwCl [(h0, .inr (4, [.ref q1, .int 0, .ref q2])), (q1, .inl (aC 0, 1000, .inl (fun _ => 0))), (q2, .inl (aC 0, 24, .inl (fun _ => 0)))] H := hP
  have hD : va_D A [(h0, .inr (4, [.ref q1, .int 0, .ref q2])), (q1, .inl (aC 0, 1000, .inl (fun _ => 0))), (q2, .inl (aC 0, 24, .inl (fun _ => 0)))] := hD
  have hP9 := hP.sub (ws' := [(h0, .inr (4, [.ref q1, .int 0, .ref q2])), (q1, .inl (aC 0, 1000, .inl (fun _ => 0))), (q2, .inl (aC 0, 24, .inl (fun _ => 0)))]) [0, 1, 2] rfl
  have hD9 := hD.sub (ws' := [(h0, .inr (4, [.ref q1, .int 0, .ref q2])), (q1, .inl (aC 0, 1000, .inl (fun _ => 0))), (q2, .inl (aC 0, 24, .inl (fun _ => 0)))]) [0, 1, 2] (by decide) rfl
  exact rV (q1, q2) hx hb hr hlk hS trivial hP9 hD9 (Nat.le_of_ble_eq_true rfl) (Nat.le_of_ble_eq_true rfl) dX4_init_21

theorem tb392 : (Jvm.Cond.methodLink "StairGang$Chances" (3 : Nat) ({ cls := "java/lang/Object", name := "<init>", desc := "()V" } : Jvm.MethodName)) ∈ gw := lw_m 392 (by decide +kernel)
theorem tb393 : (Jvm.Cond.fieldLink "StairGang$Chances" (11 : Nat) "StairGang$Chances" "sums" "[I") ∈ gw := lw_m 393 (by decide +kernel)
theorem dX0_init_0 : decode cX0_init 0 = .ok (.aload_n 0, 1) := by decide +kernel
theorem dX0_init_1 : decode cX0_init 1 = .ok (.invokespecial 3, 3) := by decide +kernel
theorem dX0_init_4 : decode cX0_init 4 = .ok (.aload_n 0, 1) := by decide +kernel
theorem dX0_init_5 : decode cX0_init 5 = .ok (.sipush 1024, 3) := by decide +kernel
theorem dX0_init_8 : decode cX0_init 8 = .ok (.newarray .int, 2) := by decide +kernel
theorem dX0_init_10 : decode cX0_init 10 = .ok (.putfield 11, 3) := by decide +kernel
theorem dX0_init_13 : decode cX0_init 13 = .ok (.return_, 1) := by decide +kernel
set_option maxHeartbeats 4000000 in
set_option maxRecDepth 100000 in
theorem k_Chances_init (l : Launch) (g : va_G) (aC : Nat → ClassId) (aM : Nat → Nat) (h0 : Nat) : Ct l g aC aM yX0_init cX0_init 1 none 1 [.ref h0] [(h0, .inr (0, [.null, .int 0]))] (QV g (fun (u : Nat) => True) (fun (u : Nat) => [(h0, .inr (0, [.ref u, .int 0])), (u, .inl (aC 0, 1024, .inl (fun _ => 0)))])) 1 1024 := by
  refine Ct.mk (by decide) (Nat.le_of_ble_eq_true rfl) ?_
  intro p e s m below meth c A ls hx hb hml hown hts hr hlk hnm hK hA hM hM2 hP hD hS hl
  have hown : s.vm.findClass RX0 = some m.cls := hown
  have F : Fx p s m _ c cX0_init 1 RX0 g aC aM A := ⟨hx, hb, hml, hown, hts, hK, hA, hM, hM2⟩
  have hl : lv_has ls 1 [(0, .ref h0)] := hl
  refine lv_aload_n hx hb dX0_init_0 rfl (lv_at hl 0 rfl) ?_
  refine xobj F tb392 tb32 tb33 hl.1 dX0_init_1 (Nat.le_of_ble_eq_true rfl) (Nat.le_of_ble_eq_true rfl) ?_
  refine lv_aload_n hx hb dX0_init_4 rfl (lv_at hl 0 rfl) ?_
  refine lv_sipush (v := 1024) hx hb dX0_init_5 (by decide) ?_
  refine xnewa (atype := .int) (a0 := (1024, .inl (fun _ => 0))) (N' := 1024) F hP hD hS rfl tb166 0 rfl (fun _ => rfl) (fun _ => rfl) (by decide +kernel) (by decide +kernel) (by decide) (Nat.le_of_ble_eq_true rfl) (Nat.le_of_ble_eq_true rfl) dX0_init_8 (fun q1 H hP hD hS => ?_)
  have hP : va_P g vwCl [(h0, .inr (0, [.null, .int 0])), (q1, .inl (aC 0, 1024, .inl (fun _ => 0)))] H := hP
  have hD : va_D A [(h0, .inr (0, [.null, .int 0])), (q1, .inl (aC 0, 1024, .inl (fun _ => 0)))] := hD
  refine xputF F hP hD hS 0 rfl rfl inX0 tyX0_ok nmX0 0 (by decide) tb393 rfl hnm rfl rfl rfl (Nat.le_of_ble_eq_true rfl) dX0_init_10 (fun H locs hP hD hS => ?_)
  have hP : va_P g vwCl [(h0, .inr (0, [.ref q1, .int 0])), (q1, .inl (aC 0, 1024, .inl (fun _ => 0)))] H := hP
  have hD : va_D A [(h0, .inr (0, [.ref q1, .int 0])), (q1, .inl (aC 0, 1024, .inl (fun _ => 0)))] := hD
  have hP9 := hP.sub (ws' := [(h0, .inr (0, [.ref q1, .int 0])), (q1, .inl (aC 0, 1024, .inl (fun _ => 0)))]) [0, 1] rfl
  have hD9 := hD.sub (ws' := [(h0, .inr (0, [.ref q1, .int 0])), (q1, .inl (aC 0, 1024, .inl (fun _ => 0)))]) [0, 1] (by decide) rfl
  exact rV q1 hx hb hr hlk hS trivial hP9 hD9 (Nat.le_of_ble_eq_true rfl) (Nat.le_of_ble_eq_true rfl) dX0_init_13

theorem tb136 : (Jvm.Cond.arrayClass Jvm.ClassFile.FieldType.long) ∈ gw := lw_m 136 (by decide +kernel)
theorem tb369 : (Jvm.Cond.methodLink "StairGang$Orders" (3 : Nat) ({ cls := "java/lang/Object", name := "<init>", desc := "()V" } : Jvm.MethodName)) ∈ gw := lw_m 369 (by decide +kernel)
theorem tb372 : (Jvm.Cond.fieldLink "StairGang$Orders" (11 : Nat) "StairGang$Orders" "packed" "[I") ∈ gw := lw_m 372 (by decide +kernel)
theorem tb373 : (Jvm.Cond.fieldLink "StairGang$Orders" (15 : Nat) "StairGang$Orders" "rises" "[I") ∈ gw := lw_m 373 (by decide +kernel)
theorem tb374 : (Jvm.Cond.fieldLink "StairGang$Orders" (18 : Nat) "StairGang$Orders" "weights" "[I") ∈ gw := lw_m 374 (by decide +kernel)
theorem tb375 : (Jvm.Cond.fieldLink "StairGang$Orders" (21 : Nat) "StairGang$Orders" "best" "[J") ∈ gw := lw_m 375 (by decide +kernel)
theorem dX3_init_0 : decode cX3_init 0 = .ok (.aload_n 0, 1) := by decide +kernel
theorem dX3_init_1 : decode cX3_init 1 = .ok (.invokespecial 3, 3) := by decide +kernel
theorem dX3_init_4 : decode cX3_init 4 = .ok (.aload_n 0, 1) := by decide +kernel
theorem dX3_init_5 : decode cX3_init 5 = .ok (.bipush 7, 2) := by decide +kernel
theorem dX3_init_7 : decode cX3_init 7 = .ok (.newarray .int, 2) := by decide +kernel
theorem dX3_init_9 : decode cX3_init 9 = .ok (.putfield 11, 3) := by decide +kernel
theorem dX3_init_12 : decode cX3_init 12 = .ok (.aload_n 0, 1) := by decide +kernel
theorem dX3_init_13 : decode cX3_init 13 = .ok (.sipush 128, 3) := by decide +kernel
theorem dX3_init_16 : decode cX3_init 16 = .ok (.newarray .int, 2) := by decide +kernel
theorem dX3_init_18 : decode cX3_init 18 = .ok (.putfield 15, 3) := by decide +kernel
theorem dX3_init_21 : decode cX3_init 21 = .ok (.aload_n 0, 1) := by decide +kernel
theorem dX3_init_22 : decode cX3_init 22 = .ok (.sipush 128, 3) := by decide +kernel
theorem dX3_init_25 : decode cX3_init 25 = .ok (.newarray .int, 2) := by decide +kernel
theorem dX3_init_27 : decode cX3_init 27 = .ok (.putfield 18, 3) := by decide +kernel
theorem dX3_init_30 : decode cX3_init 30 = .ok (.aload_n 0, 1) := by decide +kernel
theorem dX3_init_31 : decode cX3_init 31 = .ok (.sipush 128, 3) := by decide +kernel
theorem dX3_init_34 : decode cX3_init 34 = .ok (.newarray .long, 2) := by decide +kernel
theorem dX3_init_36 : decode cX3_init 36 = .ok (.putfield 21, 3) := by decide +kernel
theorem dX3_init_39 : decode cX3_init 39 = .ok (.return_, 1) := by decide +kernel
set_option maxHeartbeats 4000000 in
set_option maxRecDepth 100000 in
theorem k_Orders_init (l : Launch) (g : va_G) (aC : Nat → ClassId) (aM : Nat → Nat) (h0 : Nat) : Ct l g aC aM yX3_init cX3_init 1 none 1 [.ref h0] [(h0, .inr (3, [.int 0, .null, .null, .null, .null]))] (QV g (fun (u : Nat × Nat × Nat × Nat) => True) (fun (u : Nat × Nat × Nat × Nat) => [(h0, .inr (3, [.int 0, .ref u.1, .ref u.2.1, .ref u.2.2.1, .ref u.2.2.2])), (u.1, .inl (aC 0, 7, .inl (fun _ => 0))), (u.2.1, .inl (aC 0, 128, .inl (fun _ => 0))), (u.2.2.1, .inl (aC 0, 128, .inl (fun _ => 0))), (u.2.2.2, .inl (aC 1, 128, .inr (.inl (fun _ => 0))))])) 4 391 := by
  refine Ct.mk (by decide) (Nat.le_of_ble_eq_true rfl) ?_
  intro p e s m below meth c A ls hx hb hml hown hts hr hlk hnm hK hA hM hM2 hP hD hS hl
  have hown : s.vm.findClass RX3 = some m.cls := hown
  have F : Fx p s m _ c cX3_init 1 RX3 g aC aM A := ⟨hx, hb, hml, hown, hts, hK, hA, hM, hM2⟩
  have hl : lv_has ls 1 [(0, .ref h0)] := hl
  refine lv_aload_n hx hb dX3_init_0 rfl (lv_at hl 0 rfl) ?_
  refine xobj F tb369 tb32 tb33 hl.1 dX3_init_1 (Nat.le_of_ble_eq_true rfl) (Nat.le_of_ble_eq_true rfl) ?_
  refine lv_aload_n hx hb dX3_init_4 rfl (lv_at hl 0 rfl) ?_
  refine lv_bipush (v := 7) hx hb dX3_init_5 (by decide) ?_
  refine xnewa (atype := .int) (a0 := (7, .inl (fun _ => 0))) (N' := 7) F hP hD hS rfl tb166 0 rfl (fun _ => rfl) (fun _ => rfl) (by decide +kernel) (by decide +kernel) (by decide) (Nat.le_of_ble_eq_true rfl) (Nat.le_of_ble_eq_true rfl) dX3_init_7 (fun q1 H hP hD hS => ?_)
  have hP : va_P g vwCl [(h0, .inr (3, [.int 0, .null, .null, .null, .null])), (q1, .inl (aC 0, 7, .inl (fun _ => 0)))] H := hP
  have hD : va_D A [(h0, .inr (3, [.int 0, .null, .null, .null, .null])), (q1, .inl (aC 0, 7, .inl (fun _ => 0)))] := hD
  refine xputF F hP hD hS 0 rfl rfl inX3 tyX3_ok nmX3 1 (by decide) tb372 rfl hnm rfl rfl rfl (Nat.le_of_ble_eq_true rfl) dX3_init_9 (fun H locs hP hD hS => ?_)
  have hP : va_P g vwCl [(h0, .inr (3, [.int 0, .ref q1, .null, .null, .null])), (q1, .inl (aC 0, 7, .inl (fun _ => 0)))] H := hP
  have hD : va_D A [(h0, .inr (3, [.int 0, .ref q1, .null, .null, .null])), (q1, .inl (aC 0, 7, .inl (fun _ => 0)))] := hD
  refine lv_aload_n hx hb dX3_init_12 rfl (lv_at hl 0 rfl) ?_
  refine lv_sipush (v := 128) hx hb dX3_init_13 (by decide) ?_
  refine xnewa (atype := .int) (a0 := (128, .inl (fun _ => 0))) (N' := 128) F hP hD hS rfl tb166 0 rfl (fun _ => rfl) (fun _ => rfl) (by decide +kernel) (by decide +kernel) (by decide) (Nat.le_of_ble_eq_true rfl) (Nat.le_of_ble_eq_true rfl) dX3_init_16 (fun q2 H hP hD hS => ?_)
  have hP : va_P g vwCl [(h0, .inr (3, [.int 0, .ref q1, .null, .null, .null])), (q1, .inl (aC 0, 7, .inl (fun _ => 0))), (q2, .inl (aC 0, 128, .inl (fun _ => 0)))] H := hP
  have hD : va_D A [(h0, .inr (3, [.int 0, .ref q1, .null, .null, .null])), (q1, .inl (aC 0, 7, .inl (fun _ => 0))), (q2, .inl (aC 0, 128, .inl (fun _ => 0)))] := hD
  refine xputF F hP hD hS 0 rfl rfl inX3 tyX3_ok nmX3 2 (by decide) tb373 rfl hnm rfl rfl rfl (Nat.le_of_ble_eq_true rfl) dX3_init_18 (fun H locs hP hD hS => ?_)
  have hP : va_P g vwCl [(h0, .inr (3, [.int 0, .ref q1, .ref q2, .null, .null])), (q1, .inl (aC 0, 7, .inl (fun _ => 0))), (q2, .inl (aC 0, 128, .inl (fun _ => 0)))] H := hP
  have hD : va_D A [(h0, .inr (3, [.int 0, .ref q1, .ref q2, .null, .null])), (q1, .inl (aC 0, 7, .inl (fun _ => 0))), (q2, .inl (aC 0, 128, .inl (fun _ => 0)))] := hD
  refine lv_aload_n hx hb dX3_init_21 rfl (lv_at hl 0 rfl) ?_
  refine lv_sipush (v := 128) hx hb dX3_init_22 (by decide) ?_
  refine xnewa (atype := .int) (a0 := (128, .inl (fun _ => 0))) (N' := 128) F hP hD hS rfl tb166 0 rfl (fun _ => rfl) (fun _ => rfl) (by decide +kernel) (by decide +kernel) (by decide) (Nat.le_of_ble_eq_true rfl) (Nat.le_of_ble_eq_true rfl) dX3_init_25 (fun q3 H hP hD hS => ?_)
  have hP : va_P g vwCl [(h0, .inr (3, [.int 0, .ref q1, .ref q2, .null, .null])), (q1, .inl (aC 0, 7, .inl (fun _ => 0))), (q2, .inl (aC 0, 128, .inl (fun _ => 0))), (q3, .inl (aC 0, 128, .inl (fun _ => 0)))] H := hP
  have hD : va_D A [(h0, .inr (3, [.int 0, .ref q1, .ref q2, .null, .null])), (q1, .inl (aC 0, 7, .inl (fun _ => 0))), (q2, .inl (aC 0, 128, .inl (fun _ => 0))), (q3, .inl (aC 0, 128, .inl (fun _ => 0)))] := hD
  refine xputF F hP hD hS 0 rfl rfl inX3 tyX3_ok nmX3 3 (by decide) tb374 rfl hnm rfl rfl rfl (Nat.le_of_ble_eq_true rfl) dX3_init_27 (fun H locs hP hD hS => ?_)
  have hP : va_P g vwCl [(h0, .inr (3, [.int 0, .ref q1, .ref q2, .ref q3, .null])), (q1, .inl (aC 0, 7, .inl (fun _ => 0))), (q2, .inl (aC 0, 128, .inl (fun _ => 0))), (q3, .inl (aC 0, 128, .inl (fun _ => 0)))] H := hP
  have hD : va_D A [(h0, .inr (3, [.int 0, .ref q1, .ref q2, .ref q3, .null])), (q1, .inl (aC 0, 7, .inl (fun _ => 0))), (q2, .inl (aC 0, 128, .inl (fun _ => 0))), (q3, .inl (aC 0, 128, .inl (fun _ => 0)))] := hD
  refine lv_aload_n hx hb dX3_init_30 rfl (lv_at hl 0 rfl) ?_
  refine lv_sipush (v := 128) hx hb dX3_init_31 (by decide) ?_
  refine xnewa (atype := .long) (a0 := (128, .inr (.inl (fun _ => 0)))) (N' := 128) F hP hD hS rfl tb136 1 rfl (fun _ => rfl) (fun _ => rfl) (by decide +kernel) (by decide +kernel) (by decide) (Nat.le_of_ble_eq_true rfl) (Nat.le_of_ble_eq_true rfl) dX3_init_34 (fun q4 H hP hD hS => ?_)
  have hP : va_P g vwCl [(h0, .inr (3, [.int 0, .ref q1, .ref q2, .ref q3, .null])), (q1, .inl (aC 0, 7, .inl (fun _ => 0))), (q2, .inl (aC 0, 128, .inl (fun _ => 0))), (q3, .inl (aC 0, 128, .inl (fun _ => 0))), (q4, .inl (aC 1, 128, .inr (.inl (fun _ => 0))))] H := hP
  have hD : va_D A [(h0, .inr (3, [.int 0, .ref q1, .ref q2, .ref q3, .null])), (q1, .inl (aC 0, 7, .inl (fun _ => 0))), (q2, .inl (aC 0, 128, .inl (fun _ => 0))), (q3, .inl (aC 0, 128, .inl (fun _ => 0))), (q4, .inl (aC 1, 128, .inr (.inl (fun _ => 0))))] := hD
  refine xputF F hP hD hS 0 rfl rfl inX3 tyX3_ok nmX3 4 (by decide) tb375 rfl hnm rfl rfl rfl (Nat.le_of_ble_eq_true rfl) dX3_init_36 (fun H locs hP hD hS => ?_)
  have hP : va_P g vwCl [(h0, .inr (3, [.int 0, .ref q1, .ref q2, .ref q3, .ref q4])), (q1, .inl (aC 0, 7, .inl (fun _ => 0))), (q2, .inl (aC 0, 128, .inl (fun _ => 0))), (q3, .inl (aC 0, 128, .inl (fun _ => 0))), (q4, .inl (aC 1, 128, .inr (.inl (fun _ => 0))))] H := hP
  have hD : va_D A [(h0, .inr (3, [.int 0, .ref q1, .ref q2, .ref q3, .ref q4])), (q1, .inl (aC 0, 7, .inl (fun _ => 0))), (q2, .inl (aC 0, 128, .inl (fun _ => 0))), (q3, .inl (aC 0, 128, .inl (fun _ => 0))), (q4, .inl (aC 1, 128, .inr (.inl (fun _ => 0))))] := hD
  have hP9 := hP.sub (ws' := [(h0, .inr (3, [.int 0, .ref q1, .ref q2, .ref q3, .ref q4])), (q1, .inl (aC 0, 7, .inl (fun _ => 0))), (q2, .inl (aC 0, 128, .inl (fun _ => 0))), (q3, .inl (aC 0, 128, .inl (fun _ => 0))), (q4, .inl (aC 1, 128, .inr (.inl (fun _ => 0))))]) [0, 1, 2, 3, 4] rfl
  have hD9 := hD.sub (ws' := [(h0, .inr (3, [.int 0, .ref q1, .ref q2, .ref q3, .ref q4])), (q1, .inl (aC 0, 7, .inl (fun _ => 0))), (q2, .inl (aC 0, 128, .inl (fun _ => 0))), (q3, .inl (aC 0, 128, .inl (fun _ => 0))), (q4, .inl (aC 1, 128, .inr (.inl (fun _ => 0))))]) [0, 1, 2, 3, 4] (by decide) rfl
  exact rV (q1, q2, q3, q4) hx hb hr hlk hS trivial hP9 hD9 (Nat.le_of_ble_eq_true rfl) (Nat.le_of_ble_eq_true rfl) dX3_init_39

theorem tb153 : (Jvm.Cond.methodLink "StairGang$NightsReader" (3 : Nat) ({ cls := "java/lang/Object", name := "<init>", desc := "()V" } : Jvm.MethodName)) ∈ gw := lw_m 153 (by decide +kernel)
theorem tb154 : (Jvm.Cond.fieldLink "StairGang$NightsReader" (11 : Nat) "StairGang$NightsReader" "lines" "[I") ∈ gw := lw_m 154 (by decide +kernel)
theorem tb158 : (Jvm.Cond.fieldLink "StairGang$NightsReader" (15 : Nat) "StairGang$NightsReader" "tokens" "LStairGang$Tokens;") ∈ gw := lw_m 158 (by decide +kernel)
theorem dX2_init_0 : decode cX2_init 0 = .ok (.aload_n 0, 1) := by decide +kernel
theorem dX2_init_1 : decode cX2_init 1 = .ok (.invokespecial 3, 3) := by decide +kernel
theorem dX2_init_4 : decode cX2_init 4 = .ok (.aload_n 0, 1) := by decide +kernel
theorem dX2_init_5 : decode cX2_init 5 = .ok (.sipush 160, 3) := by decide +kernel
theorem dX2_init_8 : decode cX2_init 8 = .ok (.newarray .int, 2) := by decide +kernel
theorem dX2_init_10 : decode cX2_init 10 = .ok (.putfield 11, 3) := by decide +kernel
theorem dX2_init_13 : decode cX2_init 13 = .ok (.aload_n 0, 1) := by decide +kernel
theorem dX2_init_14 : decode cX2_init 14 = .ok (.aload_n 1, 1) := by decide +kernel
theorem dX2_init_15 : decode cX2_init 15 = .ok (.putfield 15, 3) := by decide +kernel
theorem dX2_init_18 : decode cX2_init 18 = .ok (.return_, 1) := by decide +kernel
set_option maxHeartbeats 4000000 in
set_option maxRecDepth 100000 in
theorem k_NightsReader_init (l : Launch) (g : va_G) (aC : Nat → ClassId) (aM : Nat → Nat) (h0 h1 : Nat) : Ct l g aC aM yX2_init cX2_init 2 none 1 [.ref h0, .ref h1] [(h0, .inr (2, [.null, .int 0, .null]))] (QV g (fun (u : Nat) => True) (fun (u : Nat) => [(h0, .inr (2, [.ref u, .int 0, .ref h1])), (u, .inl (aC 0, 160, .inl (fun _ => 0)))])) 1 160 := by
  refine Ct.mk (by decide) (Nat.le_of_ble_eq_true rfl) ?_
  intro p e s m below meth c A ls hx hb hml hown hts hr hlk hnm hK hA hM hM2 hP hD hS hl
  have hown : s.vm.findClass RX2 = some m.cls := hown
  have F : Fx p s m _ c cX2_init 2 RX2 g aC aM A := ⟨hx, hb, hml, hown, hts, hK, hA, hM, hM2⟩
  have hl : lv_has ls 2 [(0, .ref h0), (1, .ref h1)] := hl
  refine lv_aload_n hx hb dX2_init_0 rfl (lv_at hl 0 rfl) ?_
  refine xobj F tb153 tb32 tb33 hl.1 dX2_init_1 (Nat.le_of_ble_eq_true rfl) (Nat.le_of_ble_eq_true rfl) ?_
  refine lv_aload_n hx hb dX2_init_4 rfl (lv_at hl 0 rfl) ?_
  refine lv_sipush (v := 160) hx hb dX2_init_5 (by decide) ?_
  refine xnewa (atype := .int) (a0 := (160, .inl (fun _ => 0))) (N' := 160) F hP hD hS rfl tb166 0 rfl (fun _ => rfl) (fun _ => rfl) (by decide +kernel) (by decide +kernel) (by decide) (Nat.le_of_ble_eq_true rfl) (Nat.le_of_ble_eq_true rfl) dX2_init_8 (fun q1 H hP hD hS => ?_)
  have hP : va_P g vwCl [(h0, .inr (2, [.null, .int 0, .null])), (q1, .inl (aC 0, 160, .inl (fun _ => 0)))] H := hP
  have hD : va_D A [(h0, .inr (2, [.null, .int 0, .null])), (q1, .inl (aC 0, 160, .inl (fun _ => 0)))] := hD
  refine xputF F hP hD hS 0 rfl rfl inX2 tyX2_ok nmX2 0 (by decide) tb154 rfl hnm rfl rfl rfl (Nat.le_of_ble_eq_true rfl) dX2_init_10 (fun H locs hP hD hS => ?_)
  have hP : va_P g vwCl [(h0, .inr (2, [.ref q1, .int 0, .null])), (q1, .inl (aC 0, 160, .inl (fun _ => 0)))] H := hP
  have hD : va_D A [(h0, .inr (2, [.ref q1, .int 0, .null])), (q1, .inl (aC 0, 160, .inl (fun _ => 0)))] := hD
  refine lv_aload_n hx hb dX2_init_13 rfl (lv_at hl 0 rfl) ?_
  refine lv_aload_n hx hb dX2_init_14 rfl (lv_at hl 1 rfl) ?_
  refine xputF F hP hD hS 0 rfl rfl inX2 tyX2_ok nmX2 2 (by decide) tb158 rfl hnm rfl rfl rfl (Nat.le_of_ble_eq_true rfl) dX2_init_15 (fun H locs hP hD hS => ?_)
  have hP : va_P g vwCl [(h0, .inr (2, [.ref q1, .int 0, .ref h1])), (q1, .inl (aC 0, 160, .inl (fun _ => 0)))] H := hP
  have hD : va_D A [(h0, .inr (2, [.ref q1, .int 0, .ref h1])), (q1, .inl (aC 0, 160, .inl (fun _ => 0)))] := hD
  have hP9 := hP.sub (ws' := [(h0, .inr (2, [.ref q1, .int 0, .ref h1])), (q1, .inl (aC 0, 160, .inl (fun _ => 0)))]) [0, 1] rfl
  have hD9 := hD.sub (ws' := [(h0, .inr (2, [.ref q1, .int 0, .ref h1])), (q1, .inl (aC 0, 160, .inl (fun _ => 0)))]) [0, 1] (by decide) rfl
  exact rV q1 hx hb hr hlk hS trivial hP9 hD9 (Nat.le_of_ble_eq_true rfl) (Nat.le_of_ble_eq_true rfl) dX2_init_18

theorem tb143 : (Jvm.Cond.methodLink "StairGang$TownReader" (3 : Nat) ({ cls := "java/lang/Object", name := "<init>", desc := "()V" } : Jvm.MethodName)) ∈ gw := lw_m 143 (by decide +kernel)
theorem tb144 : (Jvm.Cond.fieldLink "StairGang$TownReader" (9 : Nat) "StairGang$TownReader" "tokens" "LStairGang$Tokens;") ∈ gw := lw_m 144 (by decide +kernel)
theorem dX9_init_0 : decode cX9_init 0 = .ok (.aload_n 0, 1) := by decide +kernel
theorem dX9_init_1 : decode cX9_init 1 = .ok (.invokespecial 3, 3) := by decide +kernel
theorem dX9_init_4 : decode cX9_init 4 = .ok (.aload_n 0, 1) := by decide +kernel
theorem dX9_init_5 : decode cX9_init 5 = .ok (.aload_n 1, 1) := by decide +kernel
theorem dX9_init_6 : decode cX9_init 6 = .ok (.putfield 9, 3) := by decide +kernel
theorem dX9_init_9 : decode cX9_init 9 = .ok (.return_, 1) := by decide +kernel
set_option maxHeartbeats 4000000 in
set_option maxRecDepth 100000 in
theorem k_TownReader_init (l : Launch) (g : va_G) (aC : Nat → ClassId) (aM : Nat → Nat) (h0 h1 : Nat) : Ct l g aC aM yX9_init cX9_init 2 none 1 [.ref h0, .ref h1] [(h0, .inr (9, [.null]))] (QV g (fun (_ : Unit) => True) (fun (_ : Unit) => [(h0, .inr (9, [.ref h1]))])) 0 0 := by
  refine Ct.mk (by decide) (Nat.le_of_ble_eq_true rfl) ?_
  intro p e s m below meth c A ls hx hb hml hown hts hr hlk hnm hK hA hM hM2 hP hD hS hl
  have hown : s.vm.findClass RX9 = some m.cls := hown
  have F : Fx p s m _ c cX9_init 2 RX9 g aC aM A := ⟨hx, hb, hml, hown, hts, hK, hA, hM, hM2⟩
  have hl : lv_has ls 2 [(0, .ref h0), (1, .ref h1)] := hl
  refine lv_aload_n hx hb dX9_init_0 rfl (lv_at hl 0 rfl) ?_
  refine xobj F tb143 tb32 tb33 hl.1 dX9_init_1 (Nat.le_of_ble_eq_true rfl) (Nat.le_of_ble_eq_true rfl) ?_
  refine lv_aload_n hx hb dX9_init_4 rfl (lv_at hl 0 rfl) ?_
  refine lv_aload_n hx hb dX9_init_5 rfl (lv_at hl 1 rfl) ?_
  refine xputF F hP hD hS 0 rfl rfl inX9 tyX9_ok nmX9 0 (by decide) tb144 rfl hnm rfl rfl rfl (Nat.le_of_ble_eq_true rfl) dX9_init_6 (fun H locs hP hD hS => ?_)
  have hP : va_P g vwCl [(h0, .inr (9, [.ref h1]))] H := hP
  have hD : va_D A [(h0, .inr (9, [.ref h1]))] := hD
  have hP9 := hP.sub (ws' := [(h0, .inr (9, [.ref h1]))]) [0] rfl
  have hD9 := hD.sub (ws' := [(h0, .inr (9, [.ref h1]))]) [0] (by decide) rfl
  exact rV () hx hb hr hlk hS trivial hP9 hD9 (Nat.le_of_ble_eq_true rfl) (Nat.le_of_ble_eq_true rfl) dX9_init_9

theorem tb184 : (Jvm.Cond.fieldLink "StairGang$Price" (18 : Nat) "StairGang$Price" "length" "I") ∈ gw := lw_m 184 (by decide +kernel)
theorem dX4_clear_0 : decode cX4_clear 0 = .ok (.aload_n 0, 1) := by decide +kernel
theorem dX4_clear_1 : decode cX4_clear 1 = .ok (.iconst 0, 1) := by decide +kernel
theorem dX4_clear_2 : decode cX4_clear 2 = .ok (.putfield 18, 3) := by decide +kernel
theorem dX4_clear_5 : decode cX4_clear 5 = .ok (.return_, 1) := by decide +kernel
set_option maxHeartbeats 4000000 in
set_option maxRecDepth 100000 in
theorem k_Price_clear (l : Launch) (g : va_G) (aC : Nat → ClassId) (aM : Nat → Nat) (h0 : Nat) (x1 x2 : Value) (n1 : Int32) : Ct l g aC aM yX4_clear cX4_clear 1 none 1 [.ref h0] [(h0, .inr (4, [x1, .int n1, x2]))] (QV g (fun (_ : Unit) => True) (fun (_ : Unit) => [(h0, .inr (4, [x1, .int 0, x2]))])) 0 0 := by
  refine Ct.mk (by decide) (Nat.le_of_ble_eq_true rfl) ?_
  intro p e s m below meth c A ls hx hb hml hown hts hr hlk hnm hK hA hM hM2 hP hD hS hl
  have hown : s.vm.findClass RX4 = some m.cls := hown
  have F : Fx p s m _ c cX4_clear 1 RX4 g aC aM A := ⟨hx, hb, hml, hown, hts, hK, hA, hM, hM2⟩
  have hl : lv_has ls 1 [(0, .ref h0)] := hl
  refine lv_aload_n hx hb dX4_clear_0 rfl (lv_at hl 0 rfl) ?_
  refine lv_iconst (v := 0) hx hb dX4_clear_1 (by decide) ?_
  refine xput F hP hD hS 0 rfl rfl inX4 tyX4_ok nmX4 1 (by decide) tb184 rfl rfl rfl (Nat.le_of_ble_eq_true rfl) dX4_clear_2 (fun H locs hP hD hS => ?_)
  have hP : va_P g vwCl [(h0, .inr (4, [x1, .int 0, x2]))] H := hP
  have hD : va_D A [(h0, .inr (4, [x1, .int 0, x2]))] := hD
  have hP9 := hP.sub (ws' := [(h0, .inr (4, [x1, .int 0, x2]))]) [0] rfl
  have hD9 := hD.sub (ws' := [(h0, .inr (4, [x1, .int 0, x2]))]) [0] (by decide) rfl
  exact rV () hx hb hr hlk hS trivial hP9 hD9 (Nat.le_of_ble_eq_true rfl) (Nat.le_of_ble_eq_true rfl) dX4_clear_5

theorem dX4_isTold_0 : decode cX4_isTold 0 = .ok (.aload_n 0, 1) := by decide +kernel
theorem dX4_isTold_1 : decode cX4_isTold 1 = .ok (.getfield 18, 3) := by decide +kernel
theorem dX4_isTold_4 : decode cX4_isTold 4 = .ok (.ifCond .le 7, 3) := by decide +kernel
theorem dX4_isTold_11 : decode cX4_isTold 11 = .ok (.iconst 0, 1) := by decide +kernel
theorem dX4_isTold_12 : decode cX4_isTold 12 = .ok (.ireturn, 1) := by decide +kernel
set_option maxHeartbeats 4000000 in
set_option maxRecDepth 100000 in
theorem k_Price_isTold0 (l : Launch) (g : va_G) (aC : Nat → ClassId) (aM : Nat → Nat) (h0 : Nat) (x1 x2 : Value) : Ct l g aC aM yX4_isTold cX4_isTold 1 (some .boolean) 1 [.ref h0] [(h0, .inr (4, [x1, .int 0, x2]))] (QI g (fun (r : Int32) (_ : Unit) => r = 0) (fun (_ : Unit) => [(h0, .inr (4, [x1, .int 0, x2]))])) 0 0 := by
  refine Ct.mk (by decide) (Nat.le_of_ble_eq_true rfl) ?_
  intro p e s m below meth c A ls hx hb hml hown hts hr hlk hnm hK hA hM hM2 hP hD hS hl
  have hown : s.vm.findClass RX4 = some m.cls := hown
  have F : Fx p s m _ c cX4_isTold 1 RX4 g aC aM A := ⟨hx, hb, hml, hown, hts, hK, hA, hM, hM2⟩
  have hl : lv_has ls 1 [(0, .ref h0)] := hl
  refine lv_aload_n hx hb dX4_isTold_0 rfl (lv_at hl 0 rfl) ?_
  refine xget F hP 0 rfl rfl inX4 1 (by decide) tb184 rfl dX4_isTold_1 ?_
  refine lv_if_le (tgt := 11) hx hb dX4_isTold_4 (by decide) (fun _ => ?_) (fun c_ => absurd (by decide +kernel) c_)
  refine lv_iconst (v := 0) hx hb dX4_isTold_11 (by decide) ?_
  have hP9 := hP.sub (ws' := [(h0, .inr (4, [x1, .int 0, x2]))]) [0] rfl
  have hD9 := hD.sub (ws' := [(h0, .inr (4, [x1, .int 0, x2]))]) [0] (by decide) rfl
  exact rI () hx hb hr hlk rfl hS rfl hP9 hD9 (Nat.le_of_ble_eq_true rfl) (Nat.le_of_ble_eq_true rfl) dX4_isTold_12

theorem dX4_add_0 : decode cX4_add 0 = .ok (.aload_n 0, 1) := by decide +kernel
theorem dX4_add_1 : decode cX4_add 1 = .ok (.getfield 18, 3) := by decide +kernel
theorem dX4_add_4 : decode cX4_add 4 = .ok (.aload_n 0, 1) := by decide +kernel
theorem dX4_add_5 : decode cX4_add 5 = .ok (.getfield 9, 3) := by decide +kernel
theorem dX4_add_8 : decode cX4_add 8 = .ok (.arraylength, 1) := by decide +kernel
theorem dX4_add_9 : decode cX4_add 9 = .ok (.if_icmp .ge 23, 3) := by decide +kernel
theorem dX4_add_12 : decode cX4_add 12 = .ok (.aload_n 0, 1) := by decide +kernel
theorem dX4_add_13 : decode cX4_add 13 = .ok (.getfield 9, 3) := by decide +kernel
theorem dX4_add_16 : decode cX4_add 16 = .ok (.aload_n 0, 1) := by decide +kernel
theorem dX4_add_17 : decode cX4_add 17 = .ok (.getfield 18, 3) := by decide +kernel
theorem dX4_add_20 : decode cX4_add 20 = .ok (.iload_n 1, 1) := by decide +kernel
theorem dX4_add_21 : decode cX4_add 21 = .ok (.iastore, 1) := by decide +kernel
theorem dX4_add_22 : decode cX4_add 22 = .ok (.aload_n 0, 1) := by decide +kernel
theorem dX4_add_23 : decode cX4_add 23 = .ok (.dup, 1) := by decide +kernel
theorem dX4_add_24 : decode cX4_add 24 = .ok (.getfield 18, 3) := by decide +kernel
theorem dX4_add_27 : decode cX4_add 27 = .ok (.iconst 1, 1) := by decide +kernel
theorem dX4_add_28 : decode cX4_add 28 = .ok (.iadd, 1) := by decide +kernel
theorem dX4_add_29 : decode cX4_add 29 = .ok (.putfield 18, 3) := by decide +kernel
theorem dX4_add_32 : decode cX4_add 32 = .ok (.return_, 1) := by decide +kernel
set_option maxHeartbeats 4000000 in
set_option maxRecDepth 100000 in
theorem k_Price_add (l : Launch) (g : va_G) (aC : Nat → ClassId) (aM : Nat → Nat) (h0 h1 : Nat) (x2 : Value) (f : Nat → Int32) : Ct l g aC aM yX4_add cX4_add 2 none 1 [.ref h0, .int (-1)] [(h0, .inr (4, [.ref h1, .int 0, x2])), (h1, .inl (aC 0, 1000, .inl f))] (QV g (fun (u : Nat → Int32) => True) (fun (u : Nat → Int32) => [(h0, .inr (4, [.ref h1, .int 1, x2])), (h1, .inl (aC 0, 1000, .inl u))])) 0 0 := by
  refine Ct.mk (by decide) (Nat.le_of_ble_eq_true rfl) ?_
  intro p e s m below meth c A ls hx hb hml hown hts hr hlk hnm hK hA hM hM2 hP hD hS hl
  have hown : s.vm.findClass RX4 = some m.cls := hown
  have F : Fx p s m _ c cX4_add 2 RX4 g aC aM A := ⟨hx, hb, hml, hown, hts, hK, hA, hM, hM2⟩
  have hl : lv_has ls 2 [(0, .ref h0), (1, .int (-1))] := hl
  refine lv_aload_n hx hb dX4_add_0 rfl (lv_at hl 0 rfl) ?_
  refine xget F hP 0 rfl rfl inX4 1 (by decide) tb184 rfl dX4_add_1 ?_
  refine lv_aload_n hx hb dX4_add_4 rfl (lv_at hl 0 rfl) ?_
  refine xget F hP 0 rfl rfl inX4 0 (by decide) tb183 rfl dX4_add_5 ?_
  refine xlen (v := 1000) F hP 1 0 rfl rfl rfl dX4_add_8 ?_
  refine lv_icmp_ge (tgt := 32) hx hb dX4_add_9 (by decide) (fun c_ => absurd c_ (by decide +kernel)) (fun _ => ?_)
  refine lv_aload_n hx hb dX4_add_12 rfl (lv_at hl 0 rfl) ?_
  refine xget F hP 0 rfl rfl inX4 0 (by decide) tb183 rfl dX4_add_13 ?_
  refine lv_aload_n hx hb dX4_add_16 rfl (lv_at hl 0 rfl) ?_
  refine xget F hP 0 rfl rfl inX4 1 (by decide) tb184 rfl dX4_add_17 ?_
  refine lv_iload_n hx hb dX4_add_20 rfl (lv_at hl 1 rfl) ?_
  refine xistE F hP hD hS 1 rfl 0 (by decide +kernel) (by decide +kernel) (by decide) dX4_add_21 (fun f_2 H locs hP hD hS => ?_)
  have hP : va_P g vwCl [(h0, .inr (4, [.ref h1, .int 0, x2])), (h1, .inl (aC 0, 1000, .inl f_2))] H := hP
  have hD : va_D A [(h0, .inr (4, [.ref h1, .int 0, x2])), (h1, .inl (aC 0, 1000, .inl f_2))] := hD
  refine lv_aload_n hx hb dX4_add_22 rfl (lv_at hl 0 rfl) ?_
  refine lv_dup hx hb dX4_add_23 rfl ?_
  refine xget F hP 0 rfl rfl inX4 1 (by decide) tb184 rfl dX4_add_24 ?_
  refine lv_iconst (v := 1) hx hb dX4_add_27 (by decide) ?_
  refine lv_iadd hx hb dX4_add_28 ?_
  refine relit (v := 1) (by decide +kernel) ?_
  refine xput F hP hD hS 0 rfl rfl inX4 tyX4_ok nmX4 1 (by decide) tb184 rfl rfl rfl (Nat.le_of_ble_eq_true rfl) dX4_add_29 (fun H locs hP hD hS => ?_)
  have hP : va_P g vwCl [(h0, .inr (4, [.ref h1, .int 1, x2])), (h1, .inl (aC 0, 1000, .inl f_2))] H := hP
  have hD : va_D A [(h0, .inr (4, [.ref h1, .int 1, x2])), (h1, .inl (aC 0, 1000, .inl f_2))] := hD
  have hP9 := hP.sub (ws' := [(h0, .inr (4, [.ref h1, .int 1, x2])), (h1, .inl (aC 0, 1000, .inl f_2))]) [0, 1] rfl
  have hD9 := hD.sub (ws' := [(h0, .inr (4, [.ref h1, .int 1, x2])), (h1, .inl (aC 0, 1000, .inl f_2))]) [0, 1] (by decide) rfl
  exact rV f_2 hx hb hr hlk hS trivial hP9 hD9 (Nat.le_of_ble_eq_true rfl) (Nat.le_of_ble_eq_true rfl) dX4_add_32

theorem tb10 : (Jvm.Cond.initialized "StairGang$Price") ∈ gw := lw_m 10 (by decide +kernel)
theorem tb219 : (Jvm.Cond.methodLink "StairGang$Price" (22 : Nat) ({ cls := "StairGang$Price", name := "add", desc := "(I)V" } : Jvm.MethodName)) ∈ gw := lw_m 219 (by decide +kernel)
theorem tb221 : (Jvm.Cond.instanceMethod ({ cls := "StairGang$Price", name := "add", desc := "(I)V" } : Jvm.MethodName)) ∈ gw := lw_m 221 (by decide +kernel)
theorem tb222 : (Jvm.Cond.code ({ cls := "StairGang$Price", name := "add", desc := "(I)V" } : Jvm.MethodName) prog_6_method_5_code (2 : Nat) (Option.none : Option Jvm.ClassFile.FieldType)) ∈ gw := lw_m 222 (by decide +kernel)
theorem tv1 : Cond.selects "StairGang$Price" ⟨"StairGang$Price", "add", "(I)V"⟩ ⟨"StairGang$Price", "add", "(I)V"⟩ ∈ gw := lw_v 1 (by decide +kernel)
theorem dX4_beHigh_0 : decode cX4_beHigh 0 = .ok (.aload_n 0, 1) := by decide +kernel
theorem dX4_beHigh_1 : decode cX4_beHigh 1 = .ok (.iconst 0, 1) := by decide +kernel
theorem dX4_beHigh_2 : decode cX4_beHigh 2 = .ok (.putfield 18, 3) := by decide +kernel
theorem dX4_beHigh_5 : decode cX4_beHigh 5 = .ok (.aload_n 0, 1) := by decide +kernel
theorem dX4_beHigh_6 : decode cX4_beHigh 6 = .ok (.iconst (-1), 1) := by decide +kernel
theorem dX4_beHigh_7 : decode cX4_beHigh 7 = .ok (.invokevirtual 22, 3) := by decide +kernel
theorem dX4_beHigh_10 : decode cX4_beHigh 10 = .ok (.return_, 1) := by decide +kernel
set_option maxHeartbeats 4000000 in
set_option maxRecDepth 100000 in
theorem k_Price_beHigh (l : Launch) (g : va_G) (aC : Nat → ClassId) (aM : Nat → Nat) (h0 h1 : Nat) (x2 : Value) (f : Nat → Int32) : Ct l g aC aM yX4_beHigh cX4_beHigh 1 none 2 [.ref h0] [(h0, .inr (4, [.ref h1, .int 0, x2])), (h1, .inl (aC 0, 1000, .inl f))] (QV g (fun (u : Nat → Int32) => True) (fun (u : Nat → Int32) => [(h0, .inr (4, [.ref h1, .int 1, x2])), (h1, .inl (aC 0, 1000, .inl u))])) 0 0 := by
  refine Ct.mk (by decide) (Nat.le_of_ble_eq_true rfl) ?_
  intro p e s m below meth c A ls hx hb hml hown hts hr hlk hnm hK hA hM hM2 hP hD hS hl
  have hown : s.vm.findClass RX4 = some m.cls := hown
  have F : Fx p s m _ c cX4_beHigh 1 RX4 g aC aM A := ⟨hx, hb, hml, hown, hts, hK, hA, hM, hM2⟩
  have hl : lv_has ls 1 [(0, .ref h0)] := hl
  refine lv_aload_n hx hb dX4_beHigh_0 rfl (lv_at hl 0 rfl) ?_
  refine lv_iconst (v := 0) hx hb dX4_beHigh_1 (by decide) ?_
  refine xput F hP hD hS 0 rfl rfl inX4 tyX4_ok nmX4 1 (by decide) tb184 rfl rfl rfl (Nat.le_of_ble_eq_true rfl) dX4_beHigh_2 (fun H locs hP hD hS => ?_)
  have hP : va_P g vwCl [(h0, .inr (4, [.ref h1, .int 0, x2])), (h1, .inl (aC 0, 1000, .inl f))] H := hP
  have hD : va_D A [(h0, .inr (4, [.ref h1, .int 0, x2])), (h1, .inl (aC 0, 1000, .inl f))] := hD
  refine lv_aload_n hx hb dX4_beHigh_5 rfl (lv_at hl 0 rfl) ?_
  refine lv_iconst (v := (-1)) hx hb dX4_beHigh_6 (by decide) ?_
  refine goV (wr := []) (runV (n := 1) (As := [.int (-1)]) (rest := []) F hP hD hS (k_Price_add l g aC aM h0 h1 x2 f) [0, 1] (by decide) rfl 0 4 rfl rfl rfl tb222 tb219 tb221 tv1 tb10 ⟨by decide, by decide, by decide +kernel⟩ ⟨Nat.le_of_ble_eq_true rfl, Nat.le_of_ble_eq_true rfl⟩ rfl hl.1 rfl (Nat.le_of_ble_eq_true rfl) dX4_beHigh_7 ⟨Nat.le_of_ble_eq_true rfl, Nat.le_of_ble_eq_true rfl⟩) hP hD hS hA [0, 1] [] rfl rfl (by decide) (by decide) (fun w4 H locs hw hP hD hS => ?_)
  obtain ⟨u1, rfl⟩ : ∃ z_, z_ = w4 := ⟨_, rfl⟩
  have hP : va_P g vwCl [(h0, .inr (4, [.ref h1, .int 1, x2])), (h1, .inl (aC 0, 1000, .inl u1))] H := hP
  have hD : va_D A [(h0, .inr (4, [.ref h1, .int 1, x2])), (h1, .inl (aC 0, 1000, .inl u1))] := hD
  have hP9 := hP.sub (ws' := [(h0, .inr (4, [.ref h1, .int 1, x2])), (h1, .inl (aC 0, 1000, .inl u1))]) [0, 1] rfl
  have hD9 := hD.sub (ws' := [(h0, .inr (4, [.ref h1, .int 1, x2])), (h1, .inl (aC 0, 1000, .inl u1))]) [0, 1] (by decide) rfl
  exact rV u1 hx hb hr hlk hS trivial hP9 hD9 (Nat.le_of_ble_eq_true rfl) (Nat.le_of_ble_eq_true rfl) dX4_beHigh_10

theorem dJ7_fill_53178_0 : decode cJ7_fill_53178 0 = .ok (.iconst 0, 1) := by decide +kernel
theorem dJ7_fill_53178_1 : decode cJ7_fill_53178 1 = .ok (.istore_n 2, 1) := by decide +kernel
theorem dJ7_fill_53178_2 : decode cJ7_fill_53178 2 = .ok (.aload_n 0, 1) := by decide +kernel
theorem dJ7_fill_53178_3 : decode cJ7_fill_53178 3 = .ok (.arraylength, 1) := by decide +kernel
theorem dJ7_fill_53178_4 : decode cJ7_fill_53178 4 = .ok (.istore_n 3, 1) := by decide +kernel
theorem dJ7_fill_53178_5 : decode cJ7_fill_53178 5 = .ok (.iload_n 2, 1) := by decide +kernel
theorem dJ7_fill_53178_6 : decode cJ7_fill_53178 6 = .ok (.iload_n 3, 1) := by decide +kernel
theorem dJ7_fill_53178_7 : decode cJ7_fill_53178 7 = .ok (.if_icmp .ge 13, 3) := by decide +kernel
theorem dJ7_fill_53178_10 : decode cJ7_fill_53178 10 = .ok (.aload_n 0, 1) := by decide +kernel
theorem dJ7_fill_53178_11 : decode cJ7_fill_53178 11 = .ok (.iload_n 2, 1) := by decide +kernel
theorem dJ7_fill_53178_12 : decode cJ7_fill_53178 12 = .ok (.iload_n 1, 1) := by decide +kernel
theorem dJ7_fill_53178_13 : decode cJ7_fill_53178 13 = .ok (.iastore, 1) := by decide +kernel
theorem dJ7_fill_53178_14 : decode cJ7_fill_53178 14 = .ok (.iinc 2 1, 3) := by decide +kernel
theorem dJ7_fill_53178_17 : decode cJ7_fill_53178 17 = .ok (.goto (-12), 3) := by decide +kernel
theorem dJ7_fill_53178_20 : decode cJ7_fill_53178 20 = .ok (.return_, 1) := by decide +kernel
set_option maxHeartbeats 4000000 in
set_option maxRecDepth 100000 in
theorem k_fill5 (l : Launch) (g : va_G) (aC : Nat → ClassId) (aM : Nat → Nat) (h0 : Nat) : Ct l g aC aM yJ7_fill_53178 cJ7_fill_53178 4 none 1 [.ref h0, .int 0] [(h0, .inl (aC 0, 5, .inl (fun _ => 0)))] (QV g (fun (_ : Unit) => True) (fun (_ : Unit) => [(h0, .inl (aC 0, 5, .inl (fun _ => 0)))])) 0 0 := by
  refine Ct.mk (by decide) (Nat.le_of_ble_eq_true rfl) ?_
  intro p e s m below meth c A ls hx hb hml hown hts hr hlk hnm hK hA hM hM2 hP hD hS hl
  have hown : s.vm.findClass RJ7 = some m.cls := hown
  have F : Fx p s m _ c cJ7_fill_53178 4 RJ7 g aC aM A := ⟨hx, hb, hml, hown, hts, hK, hA, hM, hM2⟩
  have hl : lv_has ls 4 [(0, .ref h0), (1, .int 0)] := hl
  refine lv_iconst (v := 0) hx hb dJ7_fill_53178_0 (by decide) ?_
  refine lv_istore_n (lv' := [(2, .int 0), (0, .ref h0), (1, .int 0)]) hx hb dJ7_fill_53178_1 rfl hl (by decide) rfl (fun ls hl => ?_)
  refine lv_aload_n hx hb dJ7_fill_53178_2 rfl (lv_at hl 1 rfl) ?_
  refine xlen (v := 5) F hP 0 0 rfl rfl rfl dJ7_fill_53178_3 ?_
  refine lv_istore_n (lv' := [(3, .int 5), (2, .int 0), (0, .ref h0), (1, .int 0)]) hx hb dJ7_fill_53178_4 rfl hl (by decide) rfl (fun ls hl => ?_)
  refine W.widen (k := 0) (n := 0) (Nat.le_of_ble_eq_true rfl) (Nat.le_of_ble_eq_true rfl) ?_
  have hloop5 : ∀ (n k : Nat) (H : Heap) (locs : List Loc) (ls : Array Slot), k + n = 5 → va_P g vwCl [(h0, .inl (aC 0, 5, .inl (fun _ => 0)))] H → va_D A [(h0, .inl (aC 0, 5, .inl (fun _ => 0)))] → va_S A s.heap H locs → lv_has ls 4 [(3, .int 5), (2, .int (nI k)), (0, .ref h0), (1, .int 0)] → W p l e (rmL 1 0 0) s m [.ref h0, .int 0].toArray below meth c H locs 0 0 (MQ below (QV g (fun (_ : Unit) => True) (fun (_ : Unit) => [(h0, .inl (aC 0, 5, .inl (fun _ => 0)))]) A) [.ref h0, .int 0].toArray s 0 0 A) (F0 m 5 ls []) := by
    intro n
    induction n with
    | zero =>
      intro k  H locs ls hk  hP hD hS hl
      obtain rfl : k = 5 := by omega
      have hl : lv_has ls 4 [(3, .int 5), (2, .int 5), (0, .ref h0), (1, .int 0)] := hl
      refine lv_iload_n hx hb dJ7_fill_53178_5 rfl (lv_at hl 1 rfl) ?_
      refine lv_iload_n hx hb dJ7_fill_53178_6 rfl (lv_at hl 0 rfl) ?_
      refine lv_icmp_ge (tgt := 20) hx hb dJ7_fill_53178_7 (by decide) (fun _ => ?_) (fun c_ => absurd (by decide +kernel) c_)
      have hP9 := hP.sub (ws' := [(h0, .inl (aC 0, 5, .inl (fun _ => 0)))]) [0] rfl
      have hD9 := hD.sub (ws' := [(h0, .inl (aC 0, 5, .inl (fun _ => 0)))]) [0] (by decide) rfl
      exact rV () hx hb hr hlk hS trivial hP9 hD9 (Nat.le_of_ble_eq_true rfl) (Nat.le_of_ble_eq_true rfl) dJ7_fill_53178_20
    | succ n ih =>
      intro k  H locs ls hk  hP hD hS hl
      have hk2 : k < 5 := by omega
      refine lv_iload_n hx hb dJ7_fill_53178_5 rfl (lv_at hl 1 rfl) ?_
      refine lv_iload_n hx hb dJ7_fill_53178_6 rfl (lv_at hl 0 rfl) ?_
      refine lv_icmp_ge (tgt := 20) hx hb dJ7_fill_53178_7 (by decide) (fun c_ => absurd c_ (show ¬ (nI 5 ≤ nI k) by rw [nI_leI (by omega) (by omega)]; omega)) (fun _ => ?_)
      refine lv_aload_n hx hb dJ7_fill_53178_10 rfl (lv_at hl 2 rfl) ?_
      refine lv_iload_n hx hb dJ7_fill_53178_11 rfl (lv_at hl 1 rfl) ?_
      refine lv_iload_n hx hb dJ7_fill_53178_12 rfl (lv_at hl 3 rfl) ?_
      refine xist (f' := fun _ => 0) F hP hD hS 0 rfl k (nI_pos (by omega)) (nI_clamp (by omega)) (by omega) (xup0 _) dJ7_fill_53178_13 (fun H locs hP hD hS => ?_)
      have hP : va_P g vwCl [(h0, .inl (aC 0, 5, .inl (fun _ => 0)))] H := hP
      have hD : va_D A [(h0, .inl (aC 0, 5, .inl (fun _ => 0)))] := hD
      refine lv_iinc (v := (nI (k + 1))) (lv' := [(2, .int (nI (k + 1))), (3, .int 5), (0, .ref h0), (1, .int 0)]) hx hb dJ7_fill_53178_14 hl (k := 1) rfl (ninc 1 (by omega)) (by decide) rfl (fun ls hl => ?_)
      refine lv_goto (tgt := 5) hx hb dJ7_fill_53178_17 (by decide) ?_
      exact ih (k + 1)  _ _ _ (by omega) (hP.sub [0] rfl) (hD.sub [0] (by decide) rfl) hS (lv_sub hl [1, 0, 2, 3] rfl)
  exact hloop5 5 0  _ _ _ (by omega) hP hD hS hl

set_option maxHeartbeats 4000000 in
set_option maxRecDepth 100000 in
theorem k_fill30 (l : Launch) (g : va_G) (aC : Nat → ClassId) (aM : Nat → Nat) (h0 : Nat) (f : Nat → Int32) : Ct l g aC aM yJ7_fill_53178 cJ7_fill_53178 4 none 1 [.ref h0, .int (-1)] [(h0, .inl (aC 0, 30, .inl f))] (QV g (fun (u : Nat → Int32) => True) (fun (u : Nat → Int32) => [(h0, .inl (aC 0, 30, .inl u))])) 0 0 := by
  refine Ct.mk (by decide) (Nat.le_of_ble_eq_true rfl) ?_
  intro p e s m below meth c A ls hx hb hml hown hts hr hlk hnm hK hA hM hM2 hP hD hS hl
  have hown : s.vm.findClass RJ7 = some m.cls := hown
  have F : Fx p s m _ c cJ7_fill_53178 4 RJ7 g aC aM A := ⟨hx, hb, hml, hown, hts, hK, hA, hM, hM2⟩
  have hl : lv_has ls 4 [(0, .ref h0), (1, .int (-1))] := hl
  refine lv_iconst (v := 0) hx hb dJ7_fill_53178_0 (by decide) ?_
  refine lv_istore_n (lv' := [(2, .int 0), (0, .ref h0), (1, .int (-1))]) hx hb dJ7_fill_53178_1 rfl hl (by decide) rfl (fun ls hl => ?_)
  refine lv_aload_n hx hb dJ7_fill_53178_2 rfl (lv_at hl 1 rfl) ?_
  refine xlen (v := 30) F hP 0 0 rfl rfl rfl dJ7_fill_53178_3 ?_
  refine lv_istore_n (lv' := [(3, .int 30), (2, .int 0), (0, .ref h0), (1, .int (-1))]) hx hb dJ7_fill_53178_4 rfl hl (by decide) rfl (fun ls hl => ?_)
  refine W.widen (k := 0) (n := 0) (Nat.le_of_ble_eq_true rfl) (Nat.le_of_ble_eq_true rfl) ?_
  have hloop5 : ∀ (n k : Nat) (f8 : Nat → Int32) (H : Heap) (locs : List Loc) (ls : Array Slot), k + n = 30 → va_P g vwCl [(h0, .inl (aC 0, 30, .inl f8))] H → va_D A [(h0, .inl (aC 0, 30, .inl f8))] → va_S A s.heap H locs → lv_has ls 4 [(3, .int 30), (2, .int (nI k)), (0, .ref h0), (1, .int (-1))] → W p l e (rmL 1 0 0) s m [.ref h0, .int (-1)].toArray below meth c H locs 0 0 (MQ below (QV g (fun (u : Nat → Int32) => True) (fun (u : Nat → Int32) => [(h0, .inl (aC 0, 30, .inl u))]) A) [.ref h0, .int (-1)].toArray s 0 0 A) (F0 m 5 ls []) := by
    intro n
    induction n with
    | zero =>
      intro k f8 H locs ls hk  hP hD hS hl
      obtain rfl : k = 30 := by omega
      have hl : lv_has ls 4 [(3, .int 30), (2, .int 30), (0, .ref h0), (1, .int (-1))] := hl
      refine lv_iload_n hx hb dJ7_fill_53178_5 rfl (lv_at hl 1 rfl) ?_
      refine lv_iload_n hx hb dJ7_fill_53178_6 rfl (lv_at hl 0 rfl) ?_
      refine lv_icmp_ge (tgt := 20) hx hb dJ7_fill_53178_7 (by decide) (fun _ => ?_) (fun c_ => absurd (by decide +kernel) c_)
      have hP9 := hP.sub (ws' := [(h0, .inl (aC 0, 30, .inl f8))]) [0] rfl
      have hD9 := hD.sub (ws' := [(h0, .inl (aC 0, 30, .inl f8))]) [0] (by decide) rfl
      exact rV f8 hx hb hr hlk hS trivial hP9 hD9 (Nat.le_of_ble_eq_true rfl) (Nat.le_of_ble_eq_true rfl) dJ7_fill_53178_20
    | succ n ih =>
      intro k f8 H locs ls hk  hP hD hS hl
      have hk2 : k < 30 := by omega
      refine lv_iload_n hx hb dJ7_fill_53178_5 rfl (lv_at hl 1 rfl) ?_
      refine lv_iload_n hx hb dJ7_fill_53178_6 rfl (lv_at hl 0 rfl) ?_
      refine lv_icmp_ge (tgt := 20) hx hb dJ7_fill_53178_7 (by decide) (fun c_ => absurd c_ (show ¬ (nI 30 ≤ nI k) by rw [nI_leI (by omega) (by omega)]; omega)) (fun _ => ?_)
      refine lv_aload_n hx hb dJ7_fill_53178_10 rfl (lv_at hl 2 rfl) ?_
      refine lv_iload_n hx hb dJ7_fill_53178_11 rfl (lv_at hl 1 rfl) ?_
      refine lv_iload_n hx hb dJ7_fill_53178_12 rfl (lv_at hl 3 rfl) ?_
      refine xistE F hP hD hS 0 rfl k (nI_pos (by omega)) (nI_clamp (by omega)) (by omega) dJ7_fill_53178_13 (fun f_2 H locs hP hD hS => ?_)
      have hP : va_P g vwCl [(h0, .inl (aC 0, 30, .inl f_2))] H := hP
      have hD : va_D A [(h0, .inl (aC 0, 30, .inl f_2))] := hD
      refine lv_iinc (v := (nI (k + 1))) (lv' := [(2, .int (nI (k + 1))), (3, .int 30), (0, .ref h0), (1, .int (-1))]) hx hb dJ7_fill_53178_14 hl (k := 1) rfl (ninc 1 (by omega)) (by decide) rfl (fun ls hl => ?_)
      refine lv_goto (tgt := 5) hx hb dJ7_fill_53178_17 (by decide) ?_
      exact ih (k + 1) f_2 _ _ _ (by omega) (hP.sub [0] rfl) (hD.sub [0] (by decide) rfl) hS (lv_sub hl [1, 0, 2, 3] rfl)
  exact hloop5 30 0 f _ _ _ (by omega) hP hD hS hl

theorem dJ7_fill_d0a16_0 : decode cJ7_fill_d0a16 0 = .ok (.iconst 0, 1) := by decide +kernel
theorem dJ7_fill_d0a16_1 : decode cJ7_fill_d0a16 1 = .ok (.istore_n 3, 1) := by decide +kernel
theorem dJ7_fill_d0a16_2 : decode cJ7_fill_d0a16 2 = .ok (.aload_n 0, 1) := by decide +kernel
theorem dJ7_fill_d0a16_3 : decode cJ7_fill_d0a16 3 = .ok (.arraylength, 1) := by decide +kernel
theorem dJ7_fill_d0a16_4 : decode cJ7_fill_d0a16 4 = .ok (.istore 4, 2) := by decide +kernel
theorem dJ7_fill_d0a16_6 : decode cJ7_fill_d0a16 6 = .ok (.iload_n 3, 1) := by decide +kernel
theorem dJ7_fill_d0a16_7 : decode cJ7_fill_d0a16 7 = .ok (.iload 4, 2) := by decide +kernel
theorem dJ7_fill_d0a16_9 : decode cJ7_fill_d0a16 9 = .ok (.if_icmp .ge 13, 3) := by decide +kernel
theorem dJ7_fill_d0a16_12 : decode cJ7_fill_d0a16 12 = .ok (.aload_n 0, 1) := by decide +kernel
theorem dJ7_fill_d0a16_13 : decode cJ7_fill_d0a16 13 = .ok (.iload_n 3, 1) := by decide +kernel
theorem dJ7_fill_d0a16_14 : decode cJ7_fill_d0a16 14 = .ok (.lload_n 1, 1) := by decide +kernel
theorem dJ7_fill_d0a16_15 : decode cJ7_fill_d0a16 15 = .ok (.lastore, 1) := by decide +kernel
theorem dJ7_fill_d0a16_16 : decode cJ7_fill_d0a16 16 = .ok (.iinc 3 1, 3) := by decide +kernel
theorem dJ7_fill_d0a16_19 : decode cJ7_fill_d0a16 19 = .ok (.goto (-13), 3) := by decide +kernel
theorem dJ7_fill_d0a16_22 : decode cJ7_fill_d0a16 22 = .ok (.return_, 1) := by decide +kernel
set_option maxHeartbeats 4000000 in
set_option maxRecDepth 100000 in
theorem k_fill25 (l : Launch) (g : va_G) (aC : Nat → ClassId) (aM : Nat → Nat) (h0 : Nat) : Ct l g aC aM yJ7_fill_d0a16 cJ7_fill_d0a16 5 none 1 [.ref h0, .long 0] [(h0, .inl (aC 1, 25, .inr (.inl (fun _ => 0))))] (QV g (fun (_ : Unit) => True) (fun (_ : Unit) => [(h0, .inl (aC 1, 25, .inr (.inl (fun _ => 0))))])) 0 0 := by
  refine Ct.mk (by decide) (Nat.le_of_ble_eq_true rfl) ?_
  intro p e s m below meth c A ls hx hb hml hown hts hr hlk hnm hK hA hM hM2 hP hD hS hl
  have hown : s.vm.findClass RJ7 = some m.cls := hown
  have F : Fx p s m _ c cJ7_fill_d0a16 5 RJ7 g aC aM A := ⟨hx, hb, hml, hown, hts, hK, hA, hM, hM2⟩
  have hl : lv_has ls 5 [(0, .ref h0), (1, .long 0)] := hl
  refine lv_iconst (v := 0) hx hb dJ7_fill_d0a16_0 (by decide) ?_
  refine lv_istore_n (lv' := [(3, .int 0), (0, .ref h0), (1, .long 0)]) hx hb dJ7_fill_d0a16_1 rfl hl (by decide) rfl (fun ls hl => ?_)
  refine lv_aload_n hx hb dJ7_fill_d0a16_2 rfl (lv_at hl 1 rfl) ?_
  refine xlen (v := 25) F hP 0 1 rfl rfl rfl dJ7_fill_d0a16_3 ?_
  refine lv_istore (lv' := [(4, .int 25), (3, .int 0), (0, .ref h0), (1, .long 0)]) hx hb dJ7_fill_d0a16_4 hl (by decide) rfl (fun ls hl => ?_)
  refine W.widen (k := 0) (n := 0) (Nat.le_of_ble_eq_true rfl) (Nat.le_of_ble_eq_true rfl) ?_
  have hloop6 : ∀ (n k : Nat) (H : Heap) (locs : List Loc) (ls : Array Slot), k + n = 25 → va_P g vwCl [(h0, .inl (aC 1, 25, .inr (.inl (fun _ => 0))))] H → va_D A [(h0, .inl (aC 1, 25, .inr (.inl (fun _ => 0))))] → va_S A s.heap H locs → lv_has ls 5 [(4, .int 25), (3, .int (nI k)), (0, .ref h0), (1, .long 0)] → W p l e (rmL 1 0 0) s m [.ref h0, .long 0].toArray below meth c H locs 0 0 (MQ below (QV g (fun (_ : Unit) => True) (fun (_ : Unit) => [(h0, .inl (aC 1, 25, .inr (.inl (fun _ => 0))))]) A) [.ref h0, .long 0].toArray s 0 0 A) (F0 m 6 ls []) := by
    intro n
    induction n with
    | zero =>
      intro k  H locs ls hk  hP hD hS hl
      obtain rfl : k = 25 := by omega
      have hl : lv_has ls 5 [(4, .int 25), (3, .int 25), (0, .ref h0), (1, .long 0)] := hl
      refine lv_iload_n hx hb dJ7_fill_d0a16_6 rfl (lv_at hl 1 rfl) ?_
      refine lv_iload hx hb dJ7_fill_d0a16_7 (lv_at hl 0 rfl) ?_
      refine lv_icmp_ge (tgt := 22) hx hb dJ7_fill_d0a16_9 (by decide) (fun _ => ?_) (fun c_ => absurd (by decide +kernel) c_)
      have hP9 := hP.sub (ws' := [(h0, .inl (aC 1, 25, .inr (.inl (fun _ => 0))))]) [0] rfl
      have hD9 := hD.sub (ws' := [(h0, .inl (aC 1, 25, .inr (.inl (fun _ => 0))))]) [0] (by decide) rfl
      exact rV () hx hb hr hlk hS trivial hP9 hD9 (Nat.le_of_ble_eq_true rfl) (Nat.le_of_ble_eq_true rfl) dJ7_fill_d0a16_22
    | succ n ih =>
      intro k  H locs ls hk  hP hD hS hl
      have hk2 : k < 25 := by omega
      refine lv_iload_n hx hb dJ7_fill_d0a16_6 rfl (lv_at hl 1 rfl) ?_
      refine lv_iload hx hb dJ7_fill_d0a16_7 (lv_at hl 0 rfl) ?_
      refine lv_icmp_ge (tgt := 22) hx hb dJ7_fill_d0a16_9 (by decide) (fun c_ => absurd c_ (show ¬ (nI 25 ≤ nI k) by rw [nI_leI (by omega) (by omega)]; omega)) (fun _ => ?_)
      refine lv_aload_n hx hb dJ7_fill_d0a16_12 rfl (lv_at hl 2 rfl) ?_
      refine lv_iload_n hx hb dJ7_fill_d0a16_13 rfl (lv_at hl 1 rfl) ?_
      refine lv_lload_n hx hb dJ7_fill_d0a16_14 rfl (lv_at hl 3 rfl) ?_
      refine xlst (f' := fun _ => 0) F hP hD hS 0 rfl k (nI_pos (by omega)) (nI_clamp (by omega)) (by omega) (xup0L _) dJ7_fill_d0a16_15 (fun H locs hP hD hS => ?_)
      have hP : va_P g vwCl [(h0, .inl (aC 1, 25, .inr (.inl (fun _ => 0))))] H := hP
      have hD : va_D A [(h0, .inl (aC 1, 25, .inr (.inl (fun _ => 0))))] := hD
      refine lv_iinc (v := (nI (k + 1))) (lv' := [(3, .int (nI (k + 1))), (4, .int 25), (0, .ref h0), (1, .long 0)]) hx hb dJ7_fill_d0a16_16 hl (k := 1) rfl (ninc 1 (by omega)) (by decide) rfl (fun ls hl => ?_)
      refine lv_goto (tgt := 6) hx hb dJ7_fill_d0a16_19 (by decide) ?_
      exact ih (k + 1)  _ _ _ (by omega) (hP.sub [0] rfl) (hD.sub [0] (by decide) rfl) hS (lv_sub hl [1, 0, 2, 3] rfl)
  exact hloop6 25 0  _ _ _ (by omega) hP hD hS hl

theorem dX7_isLetter_0 : decode cX7_isLetter 0 = .ok (.iload_n 0, 1) := by decide +kernel
theorem dX7_isLetter_1 : decode cX7_isLetter 1 = .ok (.bipush 97, 2) := by decide +kernel
theorem dX7_isLetter_3 : decode cX7_isLetter 3 = .ok (.if_icmp .lt 13, 3) := by decide +kernel
theorem dX7_isLetter_6 : decode cX7_isLetter 6 = .ok (.iload_n 0, 1) := by decide +kernel
theorem dX7_isLetter_7 : decode cX7_isLetter 7 = .ok (.bipush 122, 2) := by decide +kernel
theorem dX7_isLetter_9 : decode cX7_isLetter 9 = .ok (.if_icmp .gt 7, 3) := by decide +kernel
theorem dX7_isLetter_12 : decode cX7_isLetter 12 = .ok (.iconst 1, 1) := by decide +kernel
theorem dX7_isLetter_13 : decode cX7_isLetter 13 = .ok (.goto 4, 3) := by decide +kernel
theorem dX7_isLetter_16 : decode cX7_isLetter 16 = .ok (.iconst 0, 1) := by decide +kernel
theorem dX7_isLetter_17 : decode cX7_isLetter 17 = .ok (.ireturn, 1) := by decide +kernel
set_option maxHeartbeats 4000000 in
set_option maxRecDepth 100000 in
theorem k_isLetter (l : Launch) (g : va_G) (aC : Nat → ClassId) (aM : Nat → Nat) (n1 : Int32) : Ct l g aC aM yX7_isLetter cX7_isLetter 1 (some .boolean) 1 [.int n1] [] (QI g (fun (r : Int32) (_ : Unit) => True) (fun (_ : Unit) => [])) 0 0 := by
  refine Ct.mk (by decide) (Nat.le_of_ble_eq_true rfl) ?_
  intro p e s m below meth c A ls hx hb hml hown hts hr hlk hnm hK hA hM hM2 hP hD hS hl
  have hown : s.vm.findClass RX7 = some m.cls := hown
  have F : Fx p s m _ c cX7_isLetter 1 RX7 g aC aM A := ⟨hx, hb, hml, hown, hts, hK, hA, hM, hM2⟩
  have hl : lv_has ls 1 [(0, .int n1)] := hl
  refine lv_iload_n hx hb dX7_isLetter_0 rfl (lv_at hl 0 rfl) ?_
  refine lv_bipush (v := 97) hx hb dX7_isLetter_1 (by decide) ?_
  refine lv_icmp_lt (tgt := 16) hx hb dX7_isLetter_3 (by decide) (fun c1 => ?_) (fun c1 => ?_)
  · refine lv_iconst (v := 0) hx hb dX7_isLetter_16 (by decide) ?_
    have hP9 := hP.sub (ws' := []) [] rfl
    have hD9 := hD.sub (ws' := []) [] (by decide) rfl
    exact rI () hx hb hr hlk rfl hS trivial hP9 hD9 (Nat.le_of_ble_eq_true rfl) (Nat.le_of_ble_eq_true rfl) dX7_isLetter_17
  · refine lv_iload_n hx hb dX7_isLetter_6 rfl (lv_at hl 0 rfl) ?_
    refine lv_bipush (v := 122) hx hb dX7_isLetter_7 (by decide) ?_
    refine lv_icmp_gt (tgt := 16) hx hb dX7_isLetter_9 (by decide) (fun c2 => ?_) (fun c2 => ?_)
    · refine lv_iconst (v := 0) hx hb dX7_isLetter_16 (by decide) ?_
      have hP9 := hP.sub (ws' := []) [] rfl
      have hD9 := hD.sub (ws' := []) [] (by decide) rfl
      exact rI () hx hb hr hlk rfl hS trivial hP9 hD9 (Nat.le_of_ble_eq_true rfl) (Nat.le_of_ble_eq_true rfl) dX7_isLetter_17
    · refine lv_iconst (v := 1) hx hb dX7_isLetter_12 (by decide) ?_
      refine lv_goto (tgt := 17) hx hb dX7_isLetter_13 (by decide) ?_
      have hP9 := hP.sub (ws' := []) [] rfl
      have hD9 := hD.sub (ws' := []) [] (by decide) rfl
      exact rI () hx hb hr hlk rfl hS trivial hP9 hD9 (Nat.le_of_ble_eq_true rfl) (Nat.le_of_ble_eq_true rfl) dX7_isLetter_17

theorem dX7_withLetter_0 : decode cX7_withLetter 0 = .ok (.lload_n 0, 1) := by decide +kernel
theorem dX7_withLetter_1 : decode cX7_withLetter 1 = .ok (.iconst 5, 1) := by decide +kernel
theorem dX7_withLetter_2 : decode cX7_withLetter 2 = .ok (.lshl, 1) := by decide +kernel
theorem dX7_withLetter_3 : decode cX7_withLetter 3 = .ok (.iload_n 2, 1) := by decide +kernel
theorem dX7_withLetter_4 : decode cX7_withLetter 4 = .ok (.bipush 97, 2) := by decide +kernel
theorem dX7_withLetter_6 : decode cX7_withLetter 6 = .ok (.isub, 1) := by decide +kernel
theorem dX7_withLetter_7 : decode cX7_withLetter 7 = .ok (.iconst 1, 1) := by decide +kernel
theorem dX7_withLetter_8 : decode cX7_withLetter 8 = .ok (.iadd, 1) := by decide +kernel
theorem dX7_withLetter_9 : decode cX7_withLetter 9 = .ok (.i2l, 1) := by decide +kernel
theorem dX7_withLetter_10 : decode cX7_withLetter 10 = .ok (.lor, 1) := by decide +kernel
theorem dX7_withLetter_11 : decode cX7_withLetter 11 = .ok (.lreturn, 1) := by decide +kernel
set_option maxHeartbeats 4000000 in
set_option maxRecDepth 100000 in
theorem k_withLetter (l : Launch) (g : va_G) (aC : Nat → ClassId) (aM : Nat → Nat) (m1 : Int64) (n1 : Int32) : Ct l g aC aM yX7_withLetter cX7_withLetter 3 (some .long) 1 [.long m1, .int n1] [] (QL g (fun (r : Int64) (_ : Unit) => True) (fun (_ : Unit) => [])) 0 0 := by
  refine Ct.mk (by decide) (Nat.le_of_ble_eq_true rfl) ?_
  intro p e s m below meth c A ls hx hb hml hown hts hr hlk hnm hK hA hM hM2 hP hD hS hl
  have hown : s.vm.findClass RX7 = some m.cls := hown
  have F : Fx p s m _ c cX7_withLetter 3 RX7 g aC aM A := ⟨hx, hb, hml, hown, hts, hK, hA, hM, hM2⟩
  have hl : lv_has ls 3 [(0, .long m1), (2, .int n1)] := hl
  refine lv_lload_n hx hb dX7_withLetter_0 rfl (lv_at hl 0 rfl) ?_
  refine lv_iconst (v := 5) hx hb dX7_withLetter_1 (by decide) ?_
  refine lv_lshl hx hb dX7_withLetter_2 rfl ?_
  refine lv_iload_n hx hb dX7_withLetter_3 rfl (lv_at hl 1 rfl) ?_
  refine lv_bipush (v := 97) hx hb dX7_withLetter_4 (by decide) ?_
  refine lv_isub hx hb dX7_withLetter_6 ?_
  refine lv_iconst (v := 1) hx hb dX7_withLetter_7 (by decide) ?_
  refine lv_iadd hx hb dX7_withLetter_8 ?_
  refine lv_i2l (v := (((n1 - 97) + 1).toInt64)) hx hb dX7_withLetter_9 rfl ?_
  refine lv_lor hx hb dX7_withLetter_10 ?_
  have hP9 := hP.sub (ws' := []) [] rfl
  have hD9 := hD.sub (ws' := []) [] (by decide) rfl
  exact rL () hx hb hr hlk hS trivial hP9 hD9 (Nat.le_of_ble_eq_true rfl) (Nat.le_of_ble_eq_true rfl) dX7_withLetter_11

theorem tb855 : (Jvm.Cond.constant "java/lang/Integer" (265 : Nat) (1431655765 : Int32)) ∈ gw := lw_m 855 (by decide +kernel)
theorem tb856 : (Jvm.Cond.constant "java/lang/Integer" (266 : Nat) (858993459 : Int32)) ∈ gw := lw_m 856 (by decide +kernel)
theorem tb857 : (Jvm.Cond.constant "java/lang/Integer" (267 : Nat) (252645135 : Int32)) ∈ gw := lw_m 857 (by decide +kernel)
theorem dJ6_bitCount_0f7a4_0 : decode cJ6_bitCount_0f7a4 0 = .ok (.iload_n 0, 1) := by decide +kernel
theorem dJ6_bitCount_0f7a4_1 : decode cJ6_bitCount_0f7a4 1 = .ok (.iload_n 0, 1) := by decide +kernel
theorem dJ6_bitCount_0f7a4_2 : decode cJ6_bitCount_0f7a4 2 = .ok (.iconst 1, 1) := by decide +kernel
theorem dJ6_bitCount_0f7a4_3 : decode cJ6_bitCount_0f7a4 3 = .ok (.iushr, 1) := by decide +kernel
theorem dJ6_bitCount_0f7a4_4 : decode cJ6_bitCount_0f7a4 4 = .ok (.ldc_w 265, 3) := by decide +kernel
theorem dJ6_bitCount_0f7a4_7 : decode cJ6_bitCount_0f7a4 7 = .ok (.iand, 1) := by decide +kernel
theorem dJ6_bitCount_0f7a4_8 : decode cJ6_bitCount_0f7a4 8 = .ok (.isub, 1) := by decide +kernel
theorem dJ6_bitCount_0f7a4_9 : decode cJ6_bitCount_0f7a4 9 = .ok (.istore_n 0, 1) := by decide +kernel
theorem dJ6_bitCount_0f7a4_10 : decode cJ6_bitCount_0f7a4 10 = .ok (.iload_n 0, 1) := by decide +kernel
theorem dJ6_bitCount_0f7a4_11 : decode cJ6_bitCount_0f7a4 11 = .ok (.ldc_w 266, 3) := by decide +kernel
theorem dJ6_bitCount_0f7a4_14 : decode cJ6_bitCount_0f7a4 14 = .ok (.iand, 1) := by decide +kernel
theorem dJ6_bitCount_0f7a4_15 : decode cJ6_bitCount_0f7a4 15 = .ok (.iload_n 0, 1) := by decide +kernel
theorem dJ6_bitCount_0f7a4_16 : decode cJ6_bitCount_0f7a4 16 = .ok (.iconst 2, 1) := by decide +kernel
theorem dJ6_bitCount_0f7a4_17 : decode cJ6_bitCount_0f7a4 17 = .ok (.iushr, 1) := by decide +kernel
theorem dJ6_bitCount_0f7a4_18 : decode cJ6_bitCount_0f7a4 18 = .ok (.ldc_w 266, 3) := by decide +kernel
theorem dJ6_bitCount_0f7a4_21 : decode cJ6_bitCount_0f7a4 21 = .ok (.iand, 1) := by decide +kernel
theorem dJ6_bitCount_0f7a4_22 : decode cJ6_bitCount_0f7a4 22 = .ok (.iadd, 1) := by decide +kernel
theorem dJ6_bitCount_0f7a4_23 : decode cJ6_bitCount_0f7a4 23 = .ok (.istore_n 0, 1) := by decide +kernel
theorem dJ6_bitCount_0f7a4_24 : decode cJ6_bitCount_0f7a4 24 = .ok (.iload_n 0, 1) := by decide +kernel
theorem dJ6_bitCount_0f7a4_25 : decode cJ6_bitCount_0f7a4 25 = .ok (.iload_n 0, 1) := by decide +kernel
theorem dJ6_bitCount_0f7a4_26 : decode cJ6_bitCount_0f7a4 26 = .ok (.iconst 4, 1) := by decide +kernel
theorem dJ6_bitCount_0f7a4_27 : decode cJ6_bitCount_0f7a4 27 = .ok (.iushr, 1) := by decide +kernel
theorem dJ6_bitCount_0f7a4_28 : decode cJ6_bitCount_0f7a4 28 = .ok (.iadd, 1) := by decide +kernel
theorem dJ6_bitCount_0f7a4_29 : decode cJ6_bitCount_0f7a4 29 = .ok (.ldc_w 267, 3) := by decide +kernel
theorem dJ6_bitCount_0f7a4_32 : decode cJ6_bitCount_0f7a4 32 = .ok (.iand, 1) := by decide +kernel
theorem dJ6_bitCount_0f7a4_33 : decode cJ6_bitCount_0f7a4 33 = .ok (.istore_n 0, 1) := by decide +kernel
theorem dJ6_bitCount_0f7a4_34 : decode cJ6_bitCount_0f7a4 34 = .ok (.iload_n 0, 1) := by decide +kernel
theorem dJ6_bitCount_0f7a4_35 : decode cJ6_bitCount_0f7a4 35 = .ok (.iload_n 0, 1) := by decide +kernel
theorem dJ6_bitCount_0f7a4_36 : decode cJ6_bitCount_0f7a4 36 = .ok (.bipush 8, 2) := by decide +kernel
theorem dJ6_bitCount_0f7a4_38 : decode cJ6_bitCount_0f7a4 38 = .ok (.iushr, 1) := by decide +kernel
theorem dJ6_bitCount_0f7a4_39 : decode cJ6_bitCount_0f7a4 39 = .ok (.iadd, 1) := by decide +kernel
theorem dJ6_bitCount_0f7a4_40 : decode cJ6_bitCount_0f7a4 40 = .ok (.istore_n 0, 1) := by decide +kernel
theorem dJ6_bitCount_0f7a4_41 : decode cJ6_bitCount_0f7a4 41 = .ok (.iload_n 0, 1) := by decide +kernel
theorem dJ6_bitCount_0f7a4_42 : decode cJ6_bitCount_0f7a4 42 = .ok (.iload_n 0, 1) := by decide +kernel
theorem dJ6_bitCount_0f7a4_43 : decode cJ6_bitCount_0f7a4 43 = .ok (.bipush 16, 2) := by decide +kernel
theorem dJ6_bitCount_0f7a4_45 : decode cJ6_bitCount_0f7a4 45 = .ok (.iushr, 1) := by decide +kernel
theorem dJ6_bitCount_0f7a4_46 : decode cJ6_bitCount_0f7a4 46 = .ok (.iadd, 1) := by decide +kernel
theorem dJ6_bitCount_0f7a4_47 : decode cJ6_bitCount_0f7a4 47 = .ok (.istore_n 0, 1) := by decide +kernel
theorem dJ6_bitCount_0f7a4_48 : decode cJ6_bitCount_0f7a4 48 = .ok (.iload_n 0, 1) := by decide +kernel
theorem dJ6_bitCount_0f7a4_49 : decode cJ6_bitCount_0f7a4 49 = .ok (.bipush 63, 2) := by decide +kernel
theorem dJ6_bitCount_0f7a4_51 : decode cJ6_bitCount_0f7a4 51 = .ok (.iand, 1) := by decide +kernel
theorem dJ6_bitCount_0f7a4_52 : decode cJ6_bitCount_0f7a4 52 = .ok (.ireturn, 1) := by decide +kernel
set_option maxHeartbeats 4000000 in
set_option maxRecDepth 100000 in
theorem k_bitCount0 (l : Launch) (g : va_G) (aC : Nat → ClassId) (aM : Nat → Nat)  : Ct l g aC aM yJ6_bitCount_0f7a4 cJ6_bitCount_0f7a4 1 (some .int) 1 [.int 0] [] (QI g (fun (r : Int32) (_ : Unit) => r = 0) (fun (_ : Unit) => [])) 0 0 := by
  refine Ct.mk (by decide) (Nat.le_of_ble_eq_true rfl) ?_
  intro p e s m below meth c A ls hx hb hml hown hts hr hlk hnm hK hA hM hM2 hP hD hS hl
  have hown : s.vm.findClass RJ6 = some m.cls := hown
  have F : Fx p s m _ c cJ6_bitCount_0f7a4 1 RJ6 g aC aM A := ⟨hx, hb, hml, hown, hts, hK, hA, hM, hM2⟩
  have hl : lv_has ls 1 [(0, .int 0)] := hl
  refine lv_iload_n hx hb dJ6_bitCount_0f7a4_0 rfl (lv_at hl 0 rfl) ?_
  refine lv_iload_n hx hb dJ6_bitCount_0f7a4_1 rfl (lv_at hl 0 rfl) ?_
  refine lv_iconst (v := 1) hx hb dJ6_bitCount_0f7a4_2 (by decide) ?_
  refine lv_iushr (v := 0) hx hb dJ6_bitCount_0f7a4_3 (by decide +kernel) ?_
  refine lv_ldcw (v := 1431655765) hx hb hown (hts _ tb855) dJ6_bitCount_0f7a4_4 ?_
  refine lv_iand hx hb dJ6_bitCount_0f7a4_7 ?_
  refine relit (v := 0) (by decide +kernel) ?_
  refine lv_isub hx hb dJ6_bitCount_0f7a4_8 ?_
  refine relit (v := 0) (by decide +kernel) ?_
  refine lv_istore_n (lv' := [(0, .int 0)]) hx hb dJ6_bitCount_0f7a4_9 rfl hl (by decide) rfl (fun ls hl => ?_)
  refine lv_iload_n hx hb dJ6_bitCount_0f7a4_10 rfl (lv_at hl 0 rfl) ?_
  refine lv_ldcw (v := 858993459) hx hb hown (hts _ tb856) dJ6_bitCount_0f7a4_11 ?_
  refine lv_iand hx hb dJ6_bitCount_0f7a4_14 ?_
  refine relit (v := 0) (by decide +kernel) ?_
  refine lv_iload_n hx hb dJ6_bitCount_0f7a4_15 rfl (lv_at hl 0 rfl) ?_
  refine lv_iconst (v := 2) hx hb dJ6_bitCount_0f7a4_16 (by decide) ?_
  refine lv_iushr (v := 0) hx hb dJ6_bitCount_0f7a4_17 (by decide +kernel) ?_
  refine lv_ldcw (v := 858993459) hx hb hown (hts _ tb856) dJ6_bitCount_0f7a4_18 ?_
  refine lv_iand hx hb dJ6_bitCount_0f7a4_21 ?_
  refine relit (v := 0) (by decide +kernel) ?_
  refine lv_iadd hx hb dJ6_bitCount_0f7a4_22 ?_
  refine relit (v := 0) (by decide +kernel) ?_
  refine lv_istore_n (lv' := [(0, .int 0)]) hx hb dJ6_bitCount_0f7a4_23 rfl hl (by decide) rfl (fun ls hl => ?_)
  refine lv_iload_n hx hb dJ6_bitCount_0f7a4_24 rfl (lv_at hl 0 rfl) ?_
  refine lv_iload_n hx hb dJ6_bitCount_0f7a4_25 rfl (lv_at hl 0 rfl) ?_
  refine lv_iconst (v := 4) hx hb dJ6_bitCount_0f7a4_26 (by decide) ?_
  refine lv_iushr (v := 0) hx hb dJ6_bitCount_0f7a4_27 (by decide +kernel) ?_
  refine lv_iadd hx hb dJ6_bitCount_0f7a4_28 ?_
  refine relit (v := 0) (by decide +kernel) ?_
  refine lv_ldcw (v := 252645135) hx hb hown (hts _ tb857) dJ6_bitCount_0f7a4_29 ?_
  refine lv_iand hx hb dJ6_bitCount_0f7a4_32 ?_
  refine relit (v := 0) (by decide +kernel) ?_
  refine lv_istore_n (lv' := [(0, .int 0)]) hx hb dJ6_bitCount_0f7a4_33 rfl hl (by decide) rfl (fun ls hl => ?_)
  refine lv_iload_n hx hb dJ6_bitCount_0f7a4_34 rfl (lv_at hl 0 rfl) ?_
  refine lv_iload_n hx hb dJ6_bitCount_0f7a4_35 rfl (lv_at hl 0 rfl) ?_
  refine lv_bipush (v := 8) hx hb dJ6_bitCount_0f7a4_36 (by decide) ?_
  refine lv_iushr (v := 0) hx hb dJ6_bitCount_0f7a4_38 (by decide +kernel) ?_
  refine lv_iadd hx hb dJ6_bitCount_0f7a4_39 ?_
  refine relit (v := 0) (by decide +kernel) ?_
  refine lv_istore_n (lv' := [(0, .int 0)]) hx hb dJ6_bitCount_0f7a4_40 rfl hl (by decide) rfl (fun ls hl => ?_)
  refine lv_iload_n hx hb dJ6_bitCount_0f7a4_41 rfl (lv_at hl 0 rfl) ?_
  refine lv_iload_n hx hb dJ6_bitCount_0f7a4_42 rfl (lv_at hl 0 rfl) ?_
  refine lv_bipush (v := 16) hx hb dJ6_bitCount_0f7a4_43 (by decide) ?_
  refine lv_iushr (v := 0) hx hb dJ6_bitCount_0f7a4_45 (by decide +kernel) ?_
  refine lv_iadd hx hb dJ6_bitCount_0f7a4_46 ?_
  refine relit (v := 0) (by decide +kernel) ?_
  refine lv_istore_n (lv' := [(0, .int 0)]) hx hb dJ6_bitCount_0f7a4_47 rfl hl (by decide) rfl (fun ls hl => ?_)
  refine lv_iload_n hx hb dJ6_bitCount_0f7a4_48 rfl (lv_at hl 0 rfl) ?_
  refine lv_bipush (v := 63) hx hb dJ6_bitCount_0f7a4_49 (by decide) ?_
  refine lv_iand hx hb dJ6_bitCount_0f7a4_51 ?_
  refine relit (v := 0) (by decide +kernel) ?_
  have hP9 := hP.sub (ws' := []) [] rfl
  have hD9 := hD.sub (ws' := []) [] (by decide) rfl
  exact rI () hx hb hr hlk rfl hS rfl hP9 hD9 (Nat.le_of_ble_eq_true rfl) (Nat.le_of_ble_eq_true rfl) dJ6_bitCount_0f7a4_52
