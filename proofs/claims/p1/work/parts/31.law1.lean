theorem tb766 : (Jvm.Cond.methodLink "StairGangLaw" (44 : Nat) ({ cls := "StairGang", name := "thing", desc := "(I)I" } : Jvm.MethodName)) ∈ gw := lw_m 766 (by decide +kernel)
theorem tb767 : (Jvm.Cond.instanceMethod ({ cls := "StairGang", name := "thing", desc := "(I)I" } : Jvm.MethodName)) ∈ gw := lw_m 767 (by decide +kernel)
theorem tb768 : (Jvm.Cond.selects "StairGang" ({ cls := "StairGang", name := "thing", desc := "(I)I" } : Jvm.MethodName) ({ cls := "StairGang", name := "thing", desc := "(I)I" } : Jvm.MethodName)) ∈ gw := lw_m 768 (by decide +kernel)
theorem tb769 : (Jvm.Cond.code ({ cls := "StairGang", name := "thing", desc := "(I)I" } : Jvm.MethodName) prog_1_method_7_code (2 : Nat) (Option.some Jvm.ClassFile.FieldType.int)) ∈ gw := lw_m 769 (by decide +kernel)
theorem tb1625 : (Jvm.Cond.methodLink "StairGangLaw" (48 : Nat) ({ cls := "StairGangModel", name := "thing", desc := "(I)I" } : Jvm.MethodName)) ∈ gw := lw_m 1625 (by decide +kernel)
theorem tb1626 : (Jvm.Cond.instanceMethod ({ cls := "StairGangModel", name := "thing", desc := "(I)I" } : Jvm.MethodName)) ∈ gw := lw_m 1626 (by decide +kernel)
theorem tb1627 : (Jvm.Cond.selects "StairGangModel" ({ cls := "StairGangModel", name := "thing", desc := "(I)I" } : Jvm.MethodName) ({ cls := "StairGangModel", name := "thing", desc := "(I)I" } : Jvm.MethodName)) ∈ gw := lw_m 1627 (by decide +kernel)
theorem tb1628 : (Jvm.Cond.code ({ cls := "StairGangModel", name := "thing", desc := "(I)I" } : Jvm.MethodName) prog_13_method_69_code (2 : Nat) (Option.some Jvm.ClassFile.FieldType.int)) ∈ gw := lw_m 1628 (by decide +kernel)
theorem dL_law_423 : decode cL_law 423 = .ok (.aload_n 1, 1) := by decide +kernel
theorem dL_law_424 : decode cL_law 424 = .ok (.aload_n 0, 1) := by decide +kernel
theorem dL_law_425 : decode cL_law 425 = .ok (.iload 4, 2) := by decide +kernel
theorem dL_law_427 : decode cL_law 427 = .ok (.iconst 1, 1) := by decide +kernel
theorem dL_law_428 : decode cL_law 428 = .ok (.iadd, 1) := by decide +kernel
theorem dL_law_429 : decode cL_law 429 = .ok (.iaload, 1) := by decide +kernel
theorem dL_law_430 : decode cL_law 430 = .ok (.invokevirtual 44, 3) := by decide +kernel
theorem dL_law_433 : decode cL_law 433 = .ok (.aload_n 2, 1) := by decide +kernel
theorem dL_law_434 : decode cL_law 434 = .ok (.aload_n 0, 1) := by decide +kernel
theorem dL_law_435 : decode cL_law 435 = .ok (.iload 4, 2) := by decide +kernel
theorem dL_law_437 : decode cL_law 437 = .ok (.iconst 1, 1) := by decide +kernel
theorem dL_law_438 : decode cL_law 438 = .ok (.iadd, 1) := by decide +kernel
theorem dL_law_439 : decode cL_law 439 = .ok (.iaload, 1) := by decide +kernel
theorem dL_law_440 : decode cL_law 440 = .ok (.invokevirtual 48, 3) := by decide +kernel
theorem dL_law_443 : decode cL_law 443 = .ok (.if_icmp .eq 836, 3) := by decide +kernel
set_option maxHeartbeats 4000000 in
set_option maxRecDepth 100000 in
theorem lc_thing {p : Program} {l : Launch} {e : Env} {s : State} {m : MethodId} {below : List Frame} {meth : Method} {c : Code} {g : va_G} {aC : Nat → ClassId} {aM : Nat → Nat} {A : Nat → Prop} {b : Nat} {xs : Nat → Int32} (F : Fx p s m #[Value.ref b] c code 7 RL g aC aM A) (hr : meth.sig.returnType = ret) (hlocks : meth.locks = false) (hX : va_X b 7 xs s s.heap) (hbl : b < s.heap.size) (hbA : ¬ A b) (hAs : ∀ q, A q → s.heap.size ≤ q) (h1x h5x h18x : Nat) (x2x x3x x4x x6x x7x x8x x9x x10x x11x x12x x13x x14x x15x x16x x17x x19x x20x x21x x22x x23x x24x x25x x26x x27x x28x x29x : Value) (h1m h11m : Nat) (x2m x3m x4m x5m x6m x7m x8m x9m x10m x12m x13m x14m x15m x16m x17m x18m x19m x20m x21m x22m x23m x24m x25m x26m x27m x28m x29m x30m x31m x32m x33m x34m x35m x36m x37m x38m x39m x40m x41m x42m x43m x44m x45m x46m x47m x48m x49m x50m x51m x52m x53m x54m x55m x56m x57m x58m x59m x60m x61m x62m x63m x64m x65m x66m x67m x68m x69m x70m x71m x72m x73m x74m : Value) (ho : Nat) {H : Heap} {locs : List Loc} (hP : va_P g vwCl [(h1x, .inr (10, [x2x, x3x, x4x, .ref h5x, x6x, x7x, x8x, x9x, x10x, x11x, x12x, x13x, x14x, x15x, x16x, x17x])), (h5x, .inr (8, [.ref h18x, x19x, x20x, x21x, x22x, x23x, x24x, x25x, x26x, x27x, x28x, x29x])), (h18x, .inl (aC 0, 5, .inl (fun _ => 0))), (h1m, .inr (11, [.int 0, x2m, x3m, x4m, x5m, x6m, x7m, x8m, x9m, x10m, .ref h11m, x12m, x13m, x14m, x15m, x16m, x17m, x18m, x19m, x20m, x21m, x22m, x23m, x24m, x25m, x26m, x27m, x28m, x29m, x30m, x31m, x32m, x33m, x34m, x35m, x36m, x37m, x38m, x39m, x40m, x41m, x42m, x43m, x44m, x45m, x46m, x47m, x48m, x49m, x50m, x51m, x52m, x53m, x54m, x55m, x56m, x57m, x58m, x59m, x60m, x61m, x62m, x63m, x64m, x65m, x66m, x67m, x68m, x69m, x70m, x71m, x72m, x73m, x74m])), (h11m, .inl (aC 0, 14, .inl (fun _ => 0)))] H) (hD : va_D A [(h1x, .inr (10, [x2x, x3x, x4x, .ref h5x, x6x, x7x, x8x, x9x, x10x, x11x, x12x, x13x, x14x, x15x, x16x, x17x])), (h5x, .inr (8, [.ref h18x, x19x, x20x, x21x, x22x, x23x, x24x, x25x, x26x, x27x, x28x, x29x])), (h18x, .inl (aC 0, 5, .inl (fun _ => 0))), (h1m, .inr (11, [.int 0, x2m, x3m, x4m, x5m, x6m, x7m, x8m, x9m, x10m, .ref h11m, x12m, x13m, x14m, x15m, x16m, x17m, x18m, x19m, x20m, x21m, x22m, x23m, x24m, x25m, x26m, x27m, x28m, x29m, x30m, x31m, x32m, x33m, x34m, x35m, x36m, x37m, x38m, x39m, x40m, x41m, x42m, x43m, x44m, x45m, x46m, x47m, x48m, x49m, x50m, x51m, x52m, x53m, x54m, x55m, x56m, x57m, x58m, x59m, x60m, x61m, x62m, x63m, x64m, x65m, x66m, x67m, x68m, x69m, x70m, x71m, x72m, x73m, x74m])), (h11m, .inl (aC 0, 14, .inl (fun _ => 0)))]) (hS : va_S A s.heap H locs) (ls : Array Slot) (hl : lv_has ls 7 [(4, .int 0), (3, .ref ho), (2, .ref h1m), (1, .ref h1x), (0, .ref b)]) : W p l e room_1 s m #[Value.ref b] below meth c H locs 700 60000 (lw_Z below #[Value.ref b] s) (F0 m 423 ls []) := by
  obtain ⟨hx, hb, hml, hown, hts, hK, hA, hM, hM2⟩ := id F
  refine lv_aload_n hx hb dL_law_423 rfl (lv_at hl 3 rfl) ?_
  refine lv_aload_n hx hb dL_law_424 rfl (lv_at hl 4 rfl) ?_
  refine lv_iload hx hb dL_law_425 (lv_at hl 0 rfl) ?_
  refine lv_iconst (v := 1) hx hb dL_law_427 (by decide) ?_
  refine lv_iadd hx hb dL_law_428 ?_
  refine relit (v := 1) (by decide +kernel) ?_
  refine va_sld hx hb hX hbl hbA hS (vpin (j := 1) (by decide +kernel) (by decide +kernel) (by decide)) dL_law_429 ?_
  refine relit (v := xs 1) (by rw [show ((1 : Int32).toNatClampNeg) = 1 from by decide +kernel]) ?_
  refine goI (wr := [(h1m, .inr (11, [.int 0, x2m, x3m, x4m, x5m, x6m, x7m, x8m, x9m, x10m, .ref h11m, x12m, x13m, x14m, x15m, x16m, x17m, x18m, x19m, x20m, x21m, x22m, x23m, x24m, x25m, x26m, x27m, x28m, x29m, x30m, x31m, x32m, x33m, x34m, x35m, x36m, x37m, x38m, x39m, x40m, x41m, x42m, x43m, x44m, x45m, x46m, x47m, x48m, x49m, x50m, x51m, x52m, x53m, x54m, x55m, x56m, x57m, x58m, x59m, x60m, x61m, x62m, x63m, x64m, x65m, x66m, x67m, x68m, x69m, x70m, x71m, x72m, x73m, x74m])), (h11m, .inl (aC 0, 14, .inl (fun _ => 0)))]) (runV (n := 1) (As := [.int (xs 1)]) (rest := []) F hP hD hS (x_thing l g aC aM h1x h5x h18x x2x x3x x4x x6x x7x x8x x9x x10x x11x x12x x13x x14x x15x x16x x17x x19x x20x x21x x22x x23x x24x x25x x26x x27x x28x x29x (xs 1)) [0, 1, 2] (by decide) rfl 0 10 rfl rfl rfl tb769 tb766 tb767 tb768 tb1 ⟨by decide, by decide, by decide +kernel⟩ ⟨Nat.le_of_ble_eq_true rfl, Nat.le_of_ble_eq_true rfl⟩ rfl hl.1 rfl (Nat.le_of_ble_eq_true rfl) dL_law_430 ⟨Nat.le_of_ble_eq_true rfl, Nat.le_of_ble_eq_true rfl⟩) hP hD hS hA [0, 1, 2] [3, 4] rfl rfl (by decide) (by decide) (fun r_2 w3 H locs hw hP hD hS => ?_)
  have hP : va_P g vwCl [(h1m, .inr (11, [.int 0, x2m, x3m, x4m, x5m, x6m, x7m, x8m, x9m, x10m, .ref h11m, x12m, x13m, x14m, x15m, x16m, x17m, x18m, x19m, x20m, x21m, x22m, x23m, x24m, x25m, x26m, x27m, x28m, x29m, x30m, x31m, x32m, x33m, x34m, x35m, x36m, x37m, x38m, x39m, x40m, x41m, x42m, x43m, x44m, x45m, x46m, x47m, x48m, x49m, x50m, x51m, x52m, x53m, x54m, x55m, x56m, x57m, x58m, x59m, x60m, x61m, x62m, x63m, x64m, x65m, x66m, x67m, x68m, x69m, x70m, x71m, x72m, x73m, x74m])), (h11m, .inl (aC 0, 14, .inl (fun _ => 0)))] H := hP
  have hD : va_D A [(h1m, .inr (11, [.int 0, x2m, x3m, x4m, x5m, x6m, x7m, x8m, x9m, x10m, .ref h11m, x12m, x13m, x14m, x15m, x16m, x17m, x18m, x19m, x20m, x21m, x22m, x23m, x24m, x25m, x26m, x27m, x28m, x29m, x30m, x31m, x32m, x33m, x34m, x35m, x36m, x37m, x38m, x39m, x40m, x41m, x42m, x43m, x44m, x45m, x46m, x47m, x48m, x49m, x50m, x51m, x52m, x53m, x54m, x55m, x56m, x57m, x58m, x59m, x60m, x61m, x62m, x63m, x64m, x65m, x66m, x67m, x68m, x69m, x70m, x71m, x72m, x73m, x74m])), (h11m, .inl (aC 0, 14, .inl (fun _ => 0)))] := hD
  try dsimp only at hw
  subst hw
  refine lv_aload_n hx hb dL_law_433 rfl (lv_at hl 2 rfl) ?_
  refine lv_aload_n hx hb dL_law_434 rfl (lv_at hl 4 rfl) ?_
  refine lv_iload hx hb dL_law_435 (lv_at hl 0 rfl) ?_
  refine lv_iconst (v := 1) hx hb dL_law_437 (by decide) ?_
  refine lv_iadd hx hb dL_law_438 ?_
  refine relit (v := 1) (by decide +kernel) ?_
  refine va_sld hx hb hX hbl hbA hS (vpin (j := 1) (by decide +kernel) (by decide +kernel) (by decide)) dL_law_439 ?_
  refine relit (v := xs 1) (by rw [show ((1 : Int32).toNatClampNeg) = 1 from by decide +kernel]) ?_
  refine goI (wr := []) (runV (n := 1) (As := [.int (xs 1)]) (rest := [.int (-1)]) F hP hD hS (m_thing l g aC aM h1m h11m x2m x3m x4m x5m x6m x7m x8m x9m x10m x12m x13m x14m x15m x16m x17m x18m x19m x20m x21m x22m x23m x24m x25m x26m x27m x28m x29m x30m x31m x32m x33m x34m x35m x36m x37m x38m x39m x40m x41m x42m x43m x44m x45m x46m x47m x48m x49m x50m x51m x52m x53m x54m x55m x56m x57m x58m x59m x60m x61m x62m x63m x64m x65m x66m x67m x68m x69m x70m x71m x72m x73m x74m (xs 1)) [0, 1] (by decide) rfl 0 11 rfl rfl rfl tb1628 tb1625 tb1626 tb1627 tb17 ⟨by decide, by decide, by decide +kernel⟩ ⟨Nat.le_of_ble_eq_true rfl, Nat.le_of_ble_eq_true rfl⟩ rfl hl.1 rfl (Nat.le_of_ble_eq_true rfl) dL_law_440 ⟨Nat.le_of_ble_eq_true rfl, Nat.le_of_ble_eq_true rfl⟩) hP hD hS hA [0, 1] [] rfl rfl (by decide) (by decide) (fun r_5 w6 H locs hw hP hD hS => ?_)
  have hP : va_P g vwCl [] H := hP
  have hD : va_D A [] := hD
  try dsimp only at hw
  subst hw
  refine lv_icmp_eq (tgt := 1279) hx hb dL_law_443 (by decide) (fun _ => ?_) (fun c_ => absurd (by decide +kernel) c_)
  exact law_end F hr hlocks hX hbl hbA hAs hS (Nat.le_of_ble_eq_true rfl) (Nat.le_of_ble_eq_true rfl) _ (lv_sub hl [0, 4] rfl)

theorem tb770 : (Jvm.Cond.methodLink "StairGangLaw" (49 : Nat) ({ cls := "StairGang", name := "reach", desc := "(I)I" } : Jvm.MethodName)) ∈ gw := lw_m 770 (by decide +kernel)
theorem tb771 : (Jvm.Cond.instanceMethod ({ cls := "StairGang", name := "reach", desc := "(I)I" } : Jvm.MethodName)) ∈ gw := lw_m 771 (by decide +kernel)
theorem tb772 : (Jvm.Cond.selects "StairGang" ({ cls := "StairGang", name := "reach", desc := "(I)I" } : Jvm.MethodName) ({ cls := "StairGang", name := "reach", desc := "(I)I" } : Jvm.MethodName)) ∈ gw := lw_m 772 (by decide +kernel)
theorem tb773 : (Jvm.Cond.code ({ cls := "StairGang", name := "reach", desc := "(I)I" } : Jvm.MethodName) prog_1_method_8_code (5 : Nat) (Option.some Jvm.ClassFile.FieldType.int)) ∈ gw := lw_m 773 (by decide +kernel)
theorem tb1633 : (Jvm.Cond.methodLink "StairGangLaw" (52 : Nat) ({ cls := "StairGangModel", name := "reach", desc := "(I)I" } : Jvm.MethodName)) ∈ gw := lw_m 1633 (by decide +kernel)
theorem tb1634 : (Jvm.Cond.instanceMethod ({ cls := "StairGangModel", name := "reach", desc := "(I)I" } : Jvm.MethodName)) ∈ gw := lw_m 1634 (by decide +kernel)
theorem tb1635 : (Jvm.Cond.selects "StairGangModel" ({ cls := "StairGangModel", name := "reach", desc := "(I)I" } : Jvm.MethodName) ({ cls := "StairGangModel", name := "reach", desc := "(I)I" } : Jvm.MethodName)) ∈ gw := lw_m 1635 (by decide +kernel)
theorem tb1636 : (Jvm.Cond.code ({ cls := "StairGangModel", name := "reach", desc := "(I)I" } : Jvm.MethodName) prog_13_method_70_code (2 : Nat) (Option.some Jvm.ClassFile.FieldType.int)) ∈ gw := lw_m 1636 (by decide +kernel)
theorem dL_law_448 : decode cL_law 448 = .ok (.aload_n 1, 1) := by decide +kernel
theorem dL_law_449 : decode cL_law 449 = .ok (.aload_n 0, 1) := by decide +kernel
theorem dL_law_450 : decode cL_law 450 = .ok (.iload 4, 2) := by decide +kernel
theorem dL_law_452 : decode cL_law 452 = .ok (.iconst 1, 1) := by decide +kernel
theorem dL_law_453 : decode cL_law 453 = .ok (.iadd, 1) := by decide +kernel
theorem dL_law_454 : decode cL_law 454 = .ok (.iaload, 1) := by decide +kernel
theorem dL_law_455 : decode cL_law 455 = .ok (.invokevirtual 49, 3) := by decide +kernel
theorem dL_law_458 : decode cL_law 458 = .ok (.aload_n 2, 1) := by decide +kernel
theorem dL_law_459 : decode cL_law 459 = .ok (.aload_n 0, 1) := by decide +kernel
theorem dL_law_460 : decode cL_law 460 = .ok (.iload 4, 2) := by decide +kernel
theorem dL_law_462 : decode cL_law 462 = .ok (.iconst 1, 1) := by decide +kernel
theorem dL_law_463 : decode cL_law 463 = .ok (.iadd, 1) := by decide +kernel
theorem dL_law_464 : decode cL_law 464 = .ok (.iaload, 1) := by decide +kernel
theorem dL_law_465 : decode cL_law 465 = .ok (.invokevirtual 52, 3) := by decide +kernel
theorem dL_law_468 : decode cL_law 468 = .ok (.if_icmp .eq 811, 3) := by decide +kernel
set_option maxHeartbeats 4000000 in
set_option maxRecDepth 100000 in
theorem lc_reach {p : Program} {l : Launch} {e : Env} {s : State} {m : MethodId} {below : List Frame} {meth : Method} {c : Code} {g : va_G} {aC : Nat → ClassId} {aM : Nat → Nat} {A : Nat → Prop} {b : Nat} {xs : Nat → Int32} (F : Fx p s m #[Value.ref b] c code 7 RL g aC aM A) (hr : meth.sig.returnType = ret) (hlocks : meth.locks = false) (hX : va_X b 7 xs s s.heap) (hbl : b < s.heap.size) (hbA : ¬ A b) (hAs : ∀ q, A q → s.heap.size ≤ q) (h1x h5x h18x : Nat) (x2x x3x x4x x6x x7x x8x x9x x10x x11x x12x x13x x14x x15x x16x x17x x19x x20x x21x x22x x23x x24x x25x x26x x27x x28x x29x : Value) (h1m h11m : Nat) (x2m x3m x4m x5m x6m x7m x8m x9m x10m x12m x13m x14m x15m x16m x17m x18m x19m x20m x21m x22m x23m x24m x25m x26m x27m x28m x29m x30m x31m x32m x33m x34m x35m x36m x37m x38m x39m x40m x41m x42m x43m x44m x45m x46m x47m x48m x49m x50m x51m x52m x53m x54m x55m x56m x57m x58m x59m x60m x61m x62m x63m x64m x65m x66m x67m x68m x69m x70m x71m x72m x73m x74m : Value) (ho : Nat) {H : Heap} {locs : List Loc} (hP : va_P g vwCl [(h1x, .inr (10, [x2x, x3x, x4x, .ref h5x, x6x, x7x, x8x, x9x, x10x, x11x, x12x, x13x, x14x, x15x, x16x, x17x])), (h5x, .inr (8, [.ref h18x, x19x, x20x, x21x, x22x, x23x, x24x, x25x, x26x, x27x, x28x, x29x])), (h18x, .inl (aC 0, 5, .inl (fun _ => 0))), (h1m, .inr (11, [.int 0, x2m, x3m, x4m, x5m, x6m, x7m, x8m, x9m, x10m, .ref h11m, x12m, x13m, x14m, x15m, x16m, x17m, x18m, x19m, x20m, x21m, x22m, x23m, x24m, x25m, x26m, x27m, x28m, x29m, x30m, x31m, x32m, x33m, x34m, x35m, x36m, x37m, x38m, x39m, x40m, x41m, x42m, x43m, x44m, x45m, x46m, x47m, x48m, x49m, x50m, x51m, x52m, x53m, x54m, x55m, x56m, x57m, x58m, x59m, x60m, x61m, x62m, x63m, x64m, x65m, x66m, x67m, x68m, x69m, x70m, x71m, x72m, x73m, x74m])), (h11m, .inl (aC 0, 14, .inl (fun _ => 0)))] H) (hD : va_D A [(h1x, .inr (10, [x2x, x3x, x4x, .ref h5x, x6x, x7x, x8x, x9x, x10x, x11x, x12x, x13x, x14x, x15x, x16x, x17x])), (h5x, .inr (8, [.ref h18x, x19x, x20x, x21x, x22x, x23x, x24x, x25x, x26x, x27x, x28x, x29x])), (h18x, .inl (aC 0, 5, .inl (fun _ => 0))), (h1m, .inr (11, [.int 0, x2m, x3m, x4m, x5m, x6m, x7m, x8m, x9m, x10m, .ref h11m, x12m, x13m, x14m, x15m, x16m, x17m, x18m, x19m, x20m, x21m, x22m, x23m, x24m, x25m, x26m, x27m, x28m, x29m, x30m, x31m, x32m, x33m, x34m, x35m, x36m, x37m, x38m, x39m, x40m, x41m, x42m, x43m, x44m, x45m, x46m, x47m, x48m, x49m, x50m, x51m, x52m, x53m, x54m, x55m, x56m, x57m, x58m, x59m, x60m, x61m, x62m, x63m, x64m, x65m, x66m, x67m, x68m, x69m, x70m, x71m, x72m, x73m, x74m])), (h11m, .inl (aC 0, 14, .inl (fun _ => 0)))]) (hS : va_S A s.heap H locs) (ls : Array Slot) (hl : lv_has ls 7 [(4, .int 0), (3, .ref ho), (2, .ref h1m), (1, .ref h1x), (0, .ref b)]) : W p l e room_1 s m #[Value.ref b] below meth c H locs 700 60000 (lw_Z below #[Value.ref b] s) (F0 m 448 ls []) := by
  obtain ⟨hx, hb, hml, hown, hts, hK, hA, hM, hM2⟩ := id F
  refine lv_aload_n hx hb dL_law_448 rfl (lv_at hl 3 rfl) ?_
  refine lv_aload_n hx hb dL_law_449 rfl (lv_at hl 4 rfl) ?_
  refine lv_iload hx hb dL_law_450 (lv_at hl 0 rfl) ?_
  refine lv_iconst (v := 1) hx hb dL_law_452 (by decide) ?_
  refine lv_iadd hx hb dL_law_453 ?_
  refine relit (v := 1) (by decide +kernel) ?_
  refine va_sld hx hb hX hbl hbA hS (vpin (j := 1) (by decide +kernel) (by decide +kernel) (by decide)) dL_law_454 ?_
  refine relit (v := xs 1) (by rw [show ((1 : Int32).toNatClampNeg) = 1 from by decide +kernel]) ?_
  refine goI (wr := [(h1m, .inr (11, [.int 0, x2m, x3m, x4m, x5m, x6m, x7m, x8m, x9m, x10m, .ref h11m, x12m, x13m, x14m, x15m, x16m, x17m, x18m, x19m, x20m, x21m, x22m, x23m, x24m, x25m, x26m, x27m, x28m, x29m, x30m, x31m, x32m, x33m, x34m, x35m, x36m, x37m, x38m, x39m, x40m, x41m, x42m, x43m, x44m, x45m, x46m, x47m, x48m, x49m, x50m, x51m, x52m, x53m, x54m, x55m, x56m, x57m, x58m, x59m, x60m, x61m, x62m, x63m, x64m, x65m, x66m, x67m, x68m, x69m, x70m, x71m, x72m, x73m, x74m])), (h11m, .inl (aC 0, 14, .inl (fun _ => 0)))]) (runV (n := 1) (As := [.int (xs 1)]) (rest := []) F hP hD hS (x_reach l g aC aM h1x h5x h18x x2x x3x x4x x6x x7x x8x x9x x10x x11x x12x x13x x14x x15x x16x x17x x19x x20x x21x x22x x23x x24x x25x x26x x27x x28x x29x (xs 1)) [0, 1, 2] (by decide) rfl 0 10 rfl rfl rfl tb773 tb770 tb771 tb772 tb1 ⟨by decide, by decide, by decide +kernel⟩ ⟨Nat.le_of_ble_eq_true rfl, Nat.le_of_ble_eq_true rfl⟩ rfl hl.1 rfl (Nat.le_of_ble_eq_true rfl) dL_law_455 ⟨Nat.le_of_ble_eq_true rfl, Nat.le_of_ble_eq_true rfl⟩) hP hD hS hA [0, 1, 2] [3, 4] rfl rfl (by decide) (by decide) (fun r_2 w3 H locs hw hP hD hS => ?_)
  have hP : va_P g vwCl [(h1m, .inr (11, [.int 0, x2m, x3m, x4m, x5m, x6m, x7m, x8m, x9m, x10m, .ref h11m, x12m, x13m, x14m, x15m, x16m, x17m, x18m, x19m, x20m, x21m, x22m, x23m, x24m, x25m, x26m, x27m, x28m, x29m, x30m, x31m, x32m, x33m, x34m, x35m, x36m, x37m, x38m, x39m, x40m, x41m, x42m, x43m, x44m, x45m, x46m, x47m, x48m, x49m, x50m, x51m, x52m, x53m, x54m, x55m, x56m, x57m, x58m, x59m, x60m, x61m, x62m, x63m, x64m, x65m, x66m, x67m, x68m, x69m, x70m, x71m, x72m, x73m, x74m])), (h11m, .inl (aC 0, 14, .inl (fun _ => 0)))] H := hP
  have hD : va_D A [(h1m, .inr (11, [.int 0, x2m, x3m, x4m, x5m, x6m, x7m, x8m, x9m, x10m, .ref h11m, x12m, x13m, x14m, x15m, x16m, x17m, x18m, x19m, x20m, x21m, x22m, x23m, x24m, x25m, x26m, x27m, x28m, x29m, x30m, x31m, x32m, x33m, x34m, x35m, x36m, x37m, x38m, x39m, x40m, x41m, x42m, x43m, x44m, x45m, x46m, x47m, x48m, x49m, x50m, x51m, x52m, x53m, x54m, x55m, x56m, x57m, x58m, x59m, x60m, x61m, x62m, x63m, x64m, x65m, x66m, x67m, x68m, x69m, x70m, x71m, x72m, x73m, x74m])), (h11m, .inl (aC 0, 14, .inl (fun _ => 0)))] := hD
  try dsimp only at hw
  subst hw
  refine lv_aload_n hx hb dL_law_458 rfl (lv_at hl 2 rfl) ?_
  refine lv_aload_n hx hb dL_law_459 rfl (lv_at hl 4 rfl) ?_
  refine lv_iload hx hb dL_law_460 (lv_at hl 0 rfl) ?_
  refine lv_iconst (v := 1) hx hb dL_law_462 (by decide) ?_
  refine lv_iadd hx hb dL_law_463 ?_
  refine relit (v := 1) (by decide +kernel) ?_
  refine va_sld hx hb hX hbl hbA hS (vpin (j := 1) (by decide +kernel) (by decide +kernel) (by decide)) dL_law_464 ?_
  refine relit (v := xs 1) (by rw [show ((1 : Int32).toNatClampNeg) = 1 from by decide +kernel]) ?_
  refine goI (wr := []) (runV (n := 1) (As := [.int (xs 1)]) (rest := [.int (-1)]) F hP hD hS (m_reach l g aC aM h1m h11m x2m x3m x4m x5m x6m x7m x8m x9m x10m x12m x13m x14m x15m x16m x17m x18m x19m x20m x21m x22m x23m x24m x25m x26m x27m x28m x29m x30m x31m x32m x33m x34m x35m x36m x37m x38m x39m x40m x41m x42m x43m x44m x45m x46m x47m x48m x49m x50m x51m x52m x53m x54m x55m x56m x57m x58m x59m x60m x61m x62m x63m x64m x65m x66m x67m x68m x69m x70m x71m x72m x73m x74m (xs 1)) [0, 1] (by decide) rfl 0 11 rfl rfl rfl tb1636 tb1633 tb1634 tb1635 tb17 ⟨by decide, by decide, by decide +kernel⟩ ⟨Nat.le_of_ble_eq_true rfl, Nat.le_of_ble_eq_true rfl⟩ rfl hl.1 rfl (Nat.le_of_ble_eq_true rfl) dL_law_465 ⟨Nat.le_of_ble_eq_true rfl, Nat.le_of_ble_eq_true rfl⟩) hP hD hS hA [0, 1] [] rfl rfl (by decide) (by decide) (fun r_5 w6 H locs hw hP hD hS => ?_)
  have hP : va_P g vwCl [] H := hP
  have hD : va_D A [] := hD
  try dsimp only at hw
  subst hw
  refine lv_icmp_eq (tgt := 1279) hx hb dL_law_468 (by decide) (fun _ => ?_) (fun c_ => absurd (by decide +kernel) c_)
  exact law_end F hr hlocks hX hbl hbA hAs hS (Nat.le_of_ble_eq_true rfl) (Nat.le_of_ble_eq_true rfl) _ (lv_sub hl [0, 4] rfl)

theorem tb805 : (Jvm.Cond.methodLink "StairGangLaw" (53 : Nat) ({ cls := "StairGang", name := "cost", desc := "(II)I" } : Jvm.MethodName)) ∈ gw := lw_m 805 (by decide +kernel)
theorem tb806 : (Jvm.Cond.instanceMethod ({ cls := "StairGang", name := "cost", desc := "(II)I" } : Jvm.MethodName)) ∈ gw := lw_m 806 (by decide +kernel)
theorem tb807 : (Jvm.Cond.selects "StairGang" ({ cls := "StairGang", name := "cost", desc := "(II)I" } : Jvm.MethodName) ({ cls := "StairGang", name := "cost", desc := "(II)I" } : Jvm.MethodName)) ∈ gw := lw_m 807 (by decide +kernel)
theorem tb808 : (Jvm.Cond.code ({ cls := "StairGang", name := "cost", desc := "(II)I" } : Jvm.MethodName) prog_1_method_9_code (6 : Nat) (Option.some Jvm.ClassFile.FieldType.int)) ∈ gw := lw_m 808 (by decide +kernel)
theorem tb1657 : (Jvm.Cond.methodLink "StairGangLaw" (56 : Nat) ({ cls := "StairGangModel", name := "cost", desc := "(II)I" } : Jvm.MethodName)) ∈ gw := lw_m 1657 (by decide +kernel)
theorem tb1658 : (Jvm.Cond.instanceMethod ({ cls := "StairGangModel", name := "cost", desc := "(II)I" } : Jvm.MethodName)) ∈ gw := lw_m 1658 (by decide +kernel)
theorem tb1659 : (Jvm.Cond.selects "StairGangModel" ({ cls := "StairGangModel", name := "cost", desc := "(II)I" } : Jvm.MethodName) ({ cls := "StairGangModel", name := "cost", desc := "(II)I" } : Jvm.MethodName)) ∈ gw := lw_m 1659 (by decide +kernel)
theorem tb1660 : (Jvm.Cond.code ({ cls := "StairGangModel", name := "cost", desc := "(II)I" } : Jvm.MethodName) prog_13_method_72_code (8 : Nat) (Option.some Jvm.ClassFile.FieldType.int)) ∈ gw := lw_m 1660 (by decide +kernel)
theorem dL_law_473 : decode cL_law 473 = .ok (.aload_n 1, 1) := by decide +kernel
theorem dL_law_474 : decode cL_law 474 = .ok (.aload_n 0, 1) := by decide +kernel
theorem dL_law_475 : decode cL_law 475 = .ok (.iload 4, 2) := by decide +kernel
theorem dL_law_477 : decode cL_law 477 = .ok (.iconst 1, 1) := by decide +kernel
theorem dL_law_478 : decode cL_law 478 = .ok (.iadd, 1) := by decide +kernel
theorem dL_law_479 : decode cL_law 479 = .ok (.iaload, 1) := by decide +kernel
theorem dL_law_480 : decode cL_law 480 = .ok (.aload_n 0, 1) := by decide +kernel
theorem dL_law_481 : decode cL_law 481 = .ok (.iload 4, 2) := by decide +kernel
theorem dL_law_483 : decode cL_law 483 = .ok (.iconst 2, 1) := by decide +kernel
theorem dL_law_484 : decode cL_law 484 = .ok (.iadd, 1) := by decide +kernel
theorem dL_law_485 : decode cL_law 485 = .ok (.iaload, 1) := by decide +kernel
theorem dL_law_486 : decode cL_law 486 = .ok (.invokevirtual 53, 3) := by decide +kernel
theorem dL_law_489 : decode cL_law 489 = .ok (.aload_n 2, 1) := by decide +kernel
theorem dL_law_490 : decode cL_law 490 = .ok (.aload_n 0, 1) := by decide +kernel
theorem dL_law_491 : decode cL_law 491 = .ok (.iload 4, 2) := by decide +kernel
theorem dL_law_493 : decode cL_law 493 = .ok (.iconst 1, 1) := by decide +kernel
theorem dL_law_494 : decode cL_law 494 = .ok (.iadd, 1) := by decide +kernel
theorem dL_law_495 : decode cL_law 495 = .ok (.iaload, 1) := by decide +kernel
theorem dL_law_496 : decode cL_law 496 = .ok (.aload_n 0, 1) := by decide +kernel
theorem dL_law_497 : decode cL_law 497 = .ok (.iload 4, 2) := by decide +kernel
theorem dL_law_499 : decode cL_law 499 = .ok (.iconst 2, 1) := by decide +kernel
theorem dL_law_500 : decode cL_law 500 = .ok (.iadd, 1) := by decide +kernel
theorem dL_law_501 : decode cL_law 501 = .ok (.iaload, 1) := by decide +kernel
theorem dL_law_502 : decode cL_law 502 = .ok (.invokevirtual 56, 3) := by decide +kernel
theorem dL_law_505 : decode cL_law 505 = .ok (.if_icmp .eq 774, 3) := by decide +kernel
set_option maxHeartbeats 4000000 in
set_option maxRecDepth 100000 in
theorem lc_cost {p : Program} {l : Launch} {e : Env} {s : State} {m : MethodId} {below : List Frame} {meth : Method} {c : Code} {g : va_G} {aC : Nat → ClassId} {aM : Nat → Nat} {A : Nat → Prop} {b : Nat} {xs : Nat → Int32} (F : Fx p s m #[Value.ref b] c code 7 RL g aC aM A) (hr : meth.sig.returnType = ret) (hlocks : meth.locks = false) (hX : va_X b 7 xs s s.heap) (hbl : b < s.heap.size) (hbA : ¬ A b) (hAs : ∀ q, A q → s.heap.size ≤ q) (h1x h5x h18x : Nat) (x2x x3x x4x x6x x7x x8x x9x x10x x11x x12x x13x x14x x15x x16x x17x x19x x20x x21x x22x x23x x24x x25x x26x x27x x28x x29x : Value) (h1m h11m : Nat) (x2m x3m x4m x5m x6m x7m x8m x9m x10m x12m x13m x14m x15m x16m x17m x18m x19m x20m x21m x22m x23m x24m x25m x26m x27m x28m x29m x30m x31m x32m x33m x34m x35m x36m x37m x38m x39m x40m x41m x42m x43m x44m x45m x46m x47m x48m x49m x50m x51m x52m x53m x54m x55m x56m x57m x58m x59m x60m x61m x62m x63m x64m x65m x66m x67m x68m x69m x70m x71m x72m x73m x74m : Value) (ho : Nat) {H : Heap} {locs : List Loc} (hP : va_P g vwCl [(h1x, .inr (10, [x2x, x3x, x4x, .ref h5x, x6x, x7x, x8x, x9x, x10x, x11x, x12x, x13x, x14x, x15x, x16x, x17x])), (h5x, .inr (8, [.ref h18x, x19x, x20x, x21x, x22x, x23x, x24x, x25x, x26x, x27x, x28x, x29x])), (h18x, .inl (aC 0, 5, .inl (fun _ => 0))), (h1m, .inr (11, [.int 0, x2m, x3m, x4m, x5m, x6m, x7m, x8m, x9m, x10m, .ref h11m, x12m, x13m, x14m, x15m, x16m, x17m, x18m, x19m, x20m, x21m, x22m, x23m, x24m, x25m, x26m, x27m, x28m, x29m, x30m, x31m, x32m, x33m, x34m, x35m, x36m, x37m, x38m, x39m, x40m, x41m, x42m, x43m, x44m, x45m, x46m, x47m, x48m, x49m, x50m, x51m, x52m, x53m, x54m, x55m, x56m, x57m, x58m, x59m, x60m, x61m, x62m, x63m, x64m, x65m, x66m, x67m, x68m, x69m, x70m, x71m, x72m, x73m, x74m])), (h11m, .inl (aC 0, 14, .inl (fun _ => 0)))] H) (hD : va_D A [(h1x, .inr (10, [x2x, x3x, x4x, .ref h5x, x6x, x7x, x8x, x9x, x10x, x11x, x12x, x13x, x14x, x15x, x16x, x17x])), (h5x, .inr (8, [.ref h18x, x19x, x20x, x21x, x22x, x23x, x24x, x25x, x26x, x27x, x28x, x29x])), (h18x, .inl (aC 0, 5, .inl (fun _ => 0))), (h1m, .inr (11, [.int 0, x2m, x3m, x4m, x5m, x6m, x7m, x8m, x9m, x10m, .ref h11m, x12m, x13m, x14m, x15m, x16m, x17m, x18m, x19m, x20m, x21m, x22m, x23m, x24m, x25m, x26m, x27m, x28m, x29m, x30m, x31m, x32m, x33m, x34m, x35m, x36m, x37m, x38m, x39m, x40m, x41m, x42m, x43m, x44m, x45m, x46m, x47m, x48m, x49m, x50m, x51m, x52m, x53m, x54m, x55m, x56m, x57m, x58m, x59m, x60m, x61m, x62m, x63m, x64m, x65m, x66m, x67m, x68m, x69m, x70m, x71m, x72m, x73m, x74m])), (h11m, .inl (aC 0, 14, .inl (fun _ => 0)))]) (hS : va_S A s.heap H locs) (ls : Array Slot) (hl : lv_has ls 7 [(4, .int 0), (3, .ref ho), (2, .ref h1m), (1, .ref h1x), (0, .ref b)]) : W p l e room_1 s m #[Value.ref b] below meth c H locs 700 60000 (lw_Z below #[Value.ref b] s) (F0 m 473 ls []) := by
  obtain ⟨hx, hb, hml, hown, hts, hK, hA, hM, hM2⟩ := id F
  refine lv_aload_n hx hb dL_law_473 rfl (lv_at hl 3 rfl) ?_
  refine lv_aload_n hx hb dL_law_474 rfl (lv_at hl 4 rfl) ?_
  refine lv_iload hx hb dL_law_475 (lv_at hl 0 rfl) ?_
  refine lv_iconst (v := 1) hx hb dL_law_477 (by decide) ?_
  refine lv_iadd hx hb dL_law_478 ?_
  refine relit (v := 1) (by decide +kernel) ?_
  refine va_sld hx hb hX hbl hbA hS (vpin (j := 1) (by decide +kernel) (by decide +kernel) (by decide)) dL_law_479 ?_
  refine relit (v := xs 1) (by rw [show ((1 : Int32).toNatClampNeg) = 1 from by decide +kernel]) ?_
  refine lv_aload_n hx hb dL_law_480 rfl (lv_at hl 4 rfl) ?_
  refine lv_iload hx hb dL_law_481 (lv_at hl 0 rfl) ?_
  refine lv_iconst (v := 2) hx hb dL_law_483 (by decide) ?_
  refine lv_iadd hx hb dL_law_484 ?_
  refine relit (v := 2) (by decide +kernel) ?_
  refine va_sld hx hb hX hbl hbA hS (vpin (j := 2) (by decide +kernel) (by decide +kernel) (by decide)) dL_law_485 ?_
  refine relit (v := xs 2) (by rw [show ((2 : Int32).toNatClampNeg) = 2 from by decide +kernel]) ?_
  refine goI (wr := [(h1m, .inr (11, [.int 0, x2m, x3m, x4m, x5m, x6m, x7m, x8m, x9m, x10m, .ref h11m, x12m, x13m, x14m, x15m, x16m, x17m, x18m, x19m, x20m, x21m, x22m, x23m, x24m, x25m, x26m, x27m, x28m, x29m, x30m, x31m, x32m, x33m, x34m, x35m, x36m, x37m, x38m, x39m, x40m, x41m, x42m, x43m, x44m, x45m, x46m, x47m, x48m, x49m, x50m, x51m, x52m, x53m, x54m, x55m, x56m, x57m, x58m, x59m, x60m, x61m, x62m, x63m, x64m, x65m, x66m, x67m, x68m, x69m, x70m, x71m, x72m, x73m, x74m])), (h11m, .inl (aC 0, 14, .inl (fun _ => 0)))]) (runV (n := 2) (As := [.int (xs 1), .int (xs 2)]) (rest := []) F hP hD hS (x_cost l g aC aM h1x h5x h18x x2x x3x x4x x6x x7x x8x x9x x10x x11x x12x x13x x14x x15x x16x x17x x19x x20x x21x x22x x23x x24x x25x x26x x27x x28x x29x (xs 1) (xs 2)) [0, 1, 2] (by decide) rfl 0 10 rfl rfl rfl tb808 tb805 tb806 tb807 tb1 ⟨by decide, by decide, by decide +kernel⟩ ⟨Nat.le_of_ble_eq_true rfl, Nat.le_of_ble_eq_true rfl⟩ rfl hl.1 rfl (Nat.le_of_ble_eq_true rfl) dL_law_486 ⟨Nat.le_of_ble_eq_true rfl, Nat.le_of_ble_eq_true rfl⟩) hP hD hS hA [0, 1, 2] [3, 4] rfl rfl (by decide) (by decide) (fun r_2 w3 H locs hw hP hD hS => ?_)
  have hP : va_P g vwCl [(h1m, .inr (11, [.int 0, x2m, x3m, x4m, x5m, x6m, x7m, x8m, x9m, x10m, .ref h11m, x12m, x13m, x14m, x15m, x16m, x17m, x18m, x19m, x20m, x21m, x22m, x23m, x24m, x25m, x26m, x27m, x28m, x29m, x30m, x31m, x32m, x33m, x34m, x35m, x36m, x37m, x38m, x39m, x40m, x41m, x42m, x43m, x44m, x45m, x46m, x47m, x48m, x49m, x50m, x51m, x52m, x53m, x54m, x55m, x56m, x57m, x58m, x59m, x60m, x61m, x62m, x63m, x64m, x65m, x66m, x67m, x68m, x69m, x70m, x71m, x72m, x73m, x74m])), (h11m, .inl (aC 0, 14, .inl (fun _ => 0)))] H := hP
  have hD : va_D A [(h1m, .inr (11, [.int 0, x2m, x3m, x4m, x5m, x6m, x7m, x8m, x9m, x10m, .ref h11m, x12m, x13m, x14m, x15m, x16m, x17m, x18m, x19m, x20m, x21m, x22m, x23m, x24m, x25m, x26m, x27m, x28m, x29m, x30m, x31m, x32m, x33m, x34m, x35m, x36m, x37m, x38m, x39m, x40m, x41m, x42m, x43m, x44m, x45m, x46m, x47m, x48m, x49m, x50m, x51m, x52m, x53m, x54m, x55m, x56m, x57m, x58m, x59m, x60m, x61m, x62m, x63m, x64m, x65m, x66m, x67m, x68m, x69m, x70m, x71m, x72m, x73m, x74m])), (h11m, .inl (aC 0, 14, .inl (fun _ => 0)))] := hD
  try dsimp only at hw
  subst hw
  refine lv_aload_n hx hb dL_law_489 rfl (lv_at hl 2 rfl) ?_
  refine lv_aload_n hx hb dL_law_490 rfl (lv_at hl 4 rfl) ?_
  refine lv_iload hx hb dL_law_491 (lv_at hl 0 rfl) ?_
  refine lv_iconst (v := 1) hx hb dL_law_493 (by decide) ?_
  refine lv_iadd hx hb dL_law_494 ?_
  refine relit (v := 1) (by decide +kernel) ?_
  refine va_sld hx hb hX hbl hbA hS (vpin (j := 1) (by decide +kernel) (by decide +kernel) (by decide)) dL_law_495 ?_
  refine relit (v := xs 1) (by rw [show ((1 : Int32).toNatClampNeg) = 1 from by decide +kernel]) ?_
  refine lv_aload_n hx hb dL_law_496 rfl (lv_at hl 4 rfl) ?_
  refine lv_iload hx hb dL_law_497 (lv_at hl 0 rfl) ?_
  refine lv_iconst (v := 2) hx hb dL_law_499 (by decide) ?_
  refine lv_iadd hx hb dL_law_500 ?_
  refine relit (v := 2) (by decide +kernel) ?_
  refine va_sld hx hb hX hbl hbA hS (vpin (j := 2) (by decide +kernel) (by decide +kernel) (by decide)) dL_law_501 ?_
  refine relit (v := xs 2) (by rw [show ((2 : Int32).toNatClampNeg) = 2 from by decide +kernel]) ?_
  refine goI (wr := []) (runV (n := 2) (As := [.int (xs 1), .int (xs 2)]) (rest := [.int (-1)]) F hP hD hS (m_cost l g aC aM h1m h11m x2m x3m x4m x5m x6m x7m x8m x9m x10m x12m x13m x14m x15m x16m x17m x18m x19m x20m x21m x22m x23m x24m x25m x26m x27m x28m x29m x30m x31m x32m x33m x34m x35m x36m x37m x38m x39m x40m x41m x42m x43m x44m x45m x46m x47m x48m x49m x50m x51m x52m x53m x54m x55m x56m x57m x58m x59m x60m x61m x62m x63m x64m x65m x66m x67m x68m x69m x70m x71m x72m x73m x74m (xs 1) (xs 2)) [0, 1] (by decide) rfl 0 11 rfl rfl rfl tb1660 tb1657 tb1658 tb1659 tb17 ⟨by decide, by decide, by decide +kernel⟩ ⟨Nat.le_of_ble_eq_true rfl, Nat.le_of_ble_eq_true rfl⟩ rfl hl.1 rfl (Nat.le_of_ble_eq_true rfl) dL_law_502 ⟨Nat.le_of_ble_eq_true rfl, Nat.le_of_ble_eq_true rfl⟩) hP hD hS hA [0, 1] [] rfl rfl (by decide) (by decide) (fun r_5 w6 H locs hw hP hD hS => ?_)
  have hP : va_P g vwCl [] H := hP
  have hD : va_D A [] := hD
  try dsimp only at hw
  subst hw
  refine lv_icmp_eq (tgt := 1279) hx hb dL_law_505 (by decide) (fun _ => ?_) (fun c_ => absurd (by decide +kernel) c_)
  exact law_end F hr hlocks hX hbl hbA hAs hS (Nat.le_of_ble_eq_true rfl) (Nat.le_of_ble_eq_true rfl) _ (lv_sub hl [0, 4] rfl)

theorem tb813 : (Jvm.Cond.methodLink "StairGangLaw" (57 : Nat) ({ cls := "StairGang", name := "cut", desc := "()I" } : Jvm.MethodName)) ∈ gw := lw_m 813 (by decide +kernel)
theorem tb814 : (Jvm.Cond.instanceMethod ({ cls := "StairGang", name := "cut", desc := "()I" } : Jvm.MethodName)) ∈ gw := lw_m 814 (by decide +kernel)
theorem tb815 : (Jvm.Cond.selects "StairGang" ({ cls := "StairGang", name := "cut", desc := "()I" } : Jvm.MethodName) ({ cls := "StairGang", name := "cut", desc := "()I" } : Jvm.MethodName)) ∈ gw := lw_m 815 (by decide +kernel)
theorem tb816 : (Jvm.Cond.code ({ cls := "StairGang", name := "cut", desc := "()I" } : Jvm.MethodName) prog_1_method_10_code (1 : Nat) (Option.some Jvm.ClassFile.FieldType.int)) ∈ gw := lw_m 816 (by decide +kernel)
theorem tb1670 : (Jvm.Cond.methodLink "StairGangLaw" (60 : Nat) ({ cls := "StairGangModel", name := "cut", desc := "()I" } : Jvm.MethodName)) ∈ gw := lw_m 1670 (by decide +kernel)
theorem tb1671 : (Jvm.Cond.instanceMethod ({ cls := "StairGangModel", name := "cut", desc := "()I" } : Jvm.MethodName)) ∈ gw := lw_m 1671 (by decide +kernel)
theorem tb1672 : (Jvm.Cond.selects "StairGangModel" ({ cls := "StairGangModel", name := "cut", desc := "()I" } : Jvm.MethodName) ({ cls := "StairGangModel", name := "cut", desc := "()I" } : Jvm.MethodName)) ∈ gw := lw_m 1672 (by decide +kernel)
theorem tb1673 : (Jvm.Cond.code ({ cls := "StairGangModel", name := "cut", desc := "()I" } : Jvm.MethodName) prog_13_method_73_code (1 : Nat) (Option.some Jvm.ClassFile.FieldType.int)) ∈ gw := lw_m 1673 (by decide +kernel)
theorem dL_law_510 : decode cL_law 510 = .ok (.aload_n 1, 1) := by decide +kernel
theorem dL_law_511 : decode cL_law 511 = .ok (.invokevirtual 57, 3) := by decide +kernel
theorem dL_law_514 : decode cL_law 514 = .ok (.aload_n 2, 1) := by decide +kernel
theorem dL_law_515 : decode cL_law 515 = .ok (.invokevirtual 60, 3) := by decide +kernel
theorem dL_law_518 : decode cL_law 518 = .ok (.if_icmp .eq 761, 3) := by decide +kernel
set_option maxHeartbeats 4000000 in
set_option maxRecDepth 100000 in
theorem lc_cut {p : Program} {l : Launch} {e : Env} {s : State} {m : MethodId} {below : List Frame} {meth : Method} {c : Code} {g : va_G} {aC : Nat → ClassId} {aM : Nat → Nat} {A : Nat → Prop} {b : Nat} {xs : Nat → Int32} (F : Fx p s m #[Value.ref b] c code 7 RL g aC aM A) (hr : meth.sig.returnType = ret) (hlocks : meth.locks = false) (hX : va_X b 7 xs s s.heap) (hbl : b < s.heap.size) (hbA : ¬ A b) (hAs : ∀ q, A q → s.heap.size ≤ q) (h1x h5x h7x h18x : Nat) (x2x x3x x4x x6x x8x x9x x10x x11x x12x x13x x14x x15x x16x x17x x19x x20x x21x x22x x23x x24x x25x x26x x27x x28x x29x x30x x31x x32x x33x x34x : Value) (h1m h11m h56m : Nat) (x2m x3m x4m x5m x6m x7m x8m x9m x10m x12m x13m x14m x15m x16m x17m x18m x19m x20m x21m x22m x23m x24m x25m x26m x27m x28m x29m x30m x31m x32m x33m x34m x35m x36m x37m x38m x39m x40m x41m x42m x43m x44m x45m x46m x47m x48m x49m x50m x51m x52m x53m x54m x55m x57m x58m x59m x60m x61m x62m x63m x64m x65m x66m x67m x68m x69m x70m x71m x72m x73m x74m : Value) (ho : Nat) {H : Heap} {locs : List Loc} (hP : va_P g vwCl [(h1x, .inr (10, [x2x, x3x, x4x, .ref h5x, x6x, .ref h7x, x8x, x9x, x10x, x11x, x12x, x13x, x14x, x15x, x16x, x17x])), (h5x, .inr (8, [.ref h18x, x19x, x20x, x21x, x22x, x23x, x24x, x25x, x26x, x27x, x28x, x29x])), (h18x, .inl (aC 0, 5, .inl (fun _ => 0))), (h7x, .inr (6, [.int 0, x30x, x31x, x32x, x33x, x34x])), (h1m, .inr (11, [.int 0, x2m, x3m, x4m, x5m, x6m, x7m, x8m, x9m, x10m, .ref h11m, x12m, x13m, x14m, x15m, x16m, x17m, x18m, x19m, x20m, x21m, x22m, x23m, x24m, x25m, x26m, x27m, x28m, x29m, x30m, x31m, x32m, x33m, x34m, x35m, x36m, x37m, x38m, x39m, x40m, x41m, x42m, x43m, x44m, x45m, x46m, x47m, x48m, x49m, x50m, x51m, x52m, x53m, x54m, x55m, .ref h56m, x57m, x58m, x59m, x60m, x61m, x62m, x63m, x64m, x65m, x66m, x67m, x68m, x69m, x70m, x71m, x72m, x73m, x74m])), (h11m, .inl (aC 0, 14, .inl (fun _ => 0))), (h56m, .inl (aC 0, 13, .inl (fun _ => 0)))] H) (hD : va_D A [(h1x, .inr (10, [x2x, x3x, x4x, .ref h5x, x6x, .ref h7x, x8x, x9x, x10x, x11x, x12x, x13x, x14x, x15x, x16x, x17x])), (h5x, .inr (8, [.ref h18x, x19x, x20x, x21x, x22x, x23x, x24x, x25x, x26x, x27x, x28x, x29x])), (h18x, .inl (aC 0, 5, .inl (fun _ => 0))), (h7x, .inr (6, [.int 0, x30x, x31x, x32x, x33x, x34x])), (h1m, .inr (11, [.int 0, x2m, x3m, x4m, x5m, x6m, x7m, x8m, x9m, x10m, .ref h11m, x12m, x13m, x14m, x15m, x16m, x17m, x18m, x19m, x20m, x21m, x22m, x23m, x24m, x25m, x26m, x27m, x28m, x29m, x30m, x31m, x32m, x33m, x34m, x35m, x36m, x37m, x38m, x39m, x40m, x41m, x42m, x43m, x44m, x45m, x46m, x47m, x48m, x49m, x50m, x51m, x52m, x53m, x54m, x55m, .ref h56m, x57m, x58m, x59m, x60m, x61m, x62m, x63m, x64m, x65m, x66m, x67m, x68m, x69m, x70m, x71m, x72m, x73m, x74m])), (h11m, .inl (aC 0, 14, .inl (fun _ => 0))), (h56m, .inl (aC 0, 13, .inl (fun _ => 0)))]) (hS : va_S A s.heap H locs) (ls : Array Slot) (hl : lv_has ls 7 [(4, .int 0), (3, .ref ho), (2, .ref h1m), (1, .ref h1x), (0, .ref b)]) : W p l e room_1 s m #[Value.ref b] below meth c H locs 700 60000 (lw_Z below #[Value.ref b] s) (F0 m 510 ls []) := by
  obtain ⟨hx, hb, hml, hown, hts, hK, hA, hM, hM2⟩ := id F
  refine lv_aload_n hx hb dL_law_510 rfl (lv_at hl 3 rfl) ?_
  refine goI (wr := [(h1m, .inr (11, [.int 0, x2m, x3m, x4m, x5m, x6m, x7m, x8m, x9m, x10m, .ref h11m, x12m, x13m, x14m, x15m, x16m, x17m, x18m, x19m, x20m, x21m, x22m, x23m, x24m, x25m, x26m, x27m, x28m, x29m, x30m, x31m, x32m, x33m, x34m, x35m, x36m, x37m, x38m, x39m, x40m, x41m, x42m, x43m, x44m, x45m, x46m, x47m, x48m, x49m, x50m, x51m, x52m, x53m, x54m, x55m, .ref h56m, x57m, x58m, x59m, x60m, x61m, x62m, x63m, x64m, x65m, x66m, x67m, x68m, x69m, x70m, x71m, x72m, x73m, x74m])), (h11m, .inl (aC 0, 14, .inl (fun _ => 0))), (h56m, .inl (aC 0, 13, .inl (fun _ => 0)))]) (runV (n := 0) (As := []) (rest := []) F hP hD hS (x_cut l g aC aM h1x h5x h7x h18x x2x x3x x4x x6x x8x x9x x10x x11x x12x x13x x14x x15x x16x x17x x19x x20x x21x x22x x23x x24x x25x x26x x27x x28x x29x x30x x31x x32x x33x x34x) [0, 1, 2, 3] (by decide) rfl 0 10 rfl rfl rfl tb816 tb813 tb814 tb815 tb1 ⟨by decide, by decide, by decide +kernel⟩ ⟨Nat.le_of_ble_eq_true rfl, Nat.le_of_ble_eq_true rfl⟩ rfl hl.1 rfl (Nat.le_of_ble_eq_true rfl) dL_law_511 ⟨Nat.le_of_ble_eq_true rfl, Nat.le_of_ble_eq_true rfl⟩) hP hD hS hA [0, 1, 2, 3] [4, 5, 6] rfl rfl (by decide) (by decide) (fun r_2 w3 H locs hw hP hD hS => ?_)
  have hP : va_P g vwCl [(h1m, .inr (11, [.int 0, x2m, x3m, x4m, x5m, x6m, x7m, x8m, x9m, x10m, .ref h11m, x12m, x13m, x14m, x15m, x16m, x17m, x18m, x19m, x20m, x21m, x22m, x23m, x24m, x25m, x26m, x27m, x28m, x29m, x30m, x31m, x32m, x33m, x34m, x35m, x36m, x37m, x38m, x39m, x40m, x41m, x42m, x43m, x44m, x45m, x46m, x47m, x48m, x49m, x50m, x51m, x52m, x53m, x54m, x55m, .ref h56m, x57m, x58m, x59m, x60m, x61m, x62m, x63m, x64m, x65m, x66m, x67m, x68m, x69m, x70m, x71m, x72m, x73m, x74m])), (h11m, .inl (aC 0, 14, .inl (fun _ => 0))), (h56m, .inl (aC 0, 13, .inl (fun _ => 0)))] H := hP
  have hD : va_D A [(h1m, .inr (11, [.int 0, x2m, x3m, x4m, x5m, x6m, x7m, x8m, x9m, x10m, .ref h11m, x12m, x13m, x14m, x15m, x16m, x17m, x18m, x19m, x20m, x21m, x22m, x23m, x24m, x25m, x26m, x27m, x28m, x29m, x30m, x31m, x32m, x33m, x34m, x35m, x36m, x37m, x38m, x39m, x40m, x41m, x42m, x43m, x44m, x45m, x46m, x47m, x48m, x49m, x50m, x51m, x52m, x53m, x54m, x55m, .ref h56m, x57m, x58m, x59m, x60m, x61m, x62m, x63m, x64m, x65m, x66m, x67m, x68m, x69m, x70m, x71m, x72m, x73m, x74m])), (h11m, .inl (aC 0, 14, .inl (fun _ => 0))), (h56m, .inl (aC 0, 13, .inl (fun _ => 0)))] := hD
  try dsimp only at hw
  subst hw
  refine lv_aload_n hx hb dL_law_514 rfl (lv_at hl 2 rfl) ?_
  refine goI (wr := []) (runV (n := 0) (As := []) (rest := [.int 0]) F hP hD hS (m_cut l g aC aM h1m h11m h56m x2m x3m x4m x5m x6m x7m x8m x9m x10m x12m x13m x14m x15m x16m x17m x18m x19m x20m x21m x22m x23m x24m x25m x26m x27m x28m x29m x30m x31m x32m x33m x34m x35m x36m x37m x38m x39m x40m x41m x42m x43m x44m x45m x46m x47m x48m x49m x50m x51m x52m x53m x54m x55m x57m x58m x59m x60m x61m x62m x63m x64m x65m x66m x67m x68m x69m x70m x71m x72m x73m x74m) [0, 1, 2] (by decide) rfl 0 11 rfl rfl rfl tb1673 tb1670 tb1671 tb1672 tb17 ⟨by decide, by decide, by decide +kernel⟩ ⟨Nat.le_of_ble_eq_true rfl, Nat.le_of_ble_eq_true rfl⟩ rfl hl.1 rfl (Nat.le_of_ble_eq_true rfl) dL_law_515 ⟨Nat.le_of_ble_eq_true rfl, Nat.le_of_ble_eq_true rfl⟩) hP hD hS hA [0, 1, 2] [] rfl rfl (by decide) (by decide) (fun r_5 w6 H locs hw hP hD hS => ?_)
  have hP : va_P g vwCl [] H := hP
  have hD : va_D A [] := hD
  try dsimp only at hw
  subst hw
  refine lv_icmp_eq (tgt := 1279) hx hb dL_law_518 (by decide) (fun _ => ?_) (fun c_ => absurd (by decide +kernel) c_)
  exact law_end F hr hlocks hX hbl hbA hAs hS (Nat.le_of_ble_eq_true rfl) (Nat.le_of_ble_eq_true rfl) _ (lv_sub hl [0, 4] rfl)

theorem tb830 : (Jvm.Cond.methodLink "StairGangLaw" (61 : Nat) ({ cls := "StairGang", name := "steal", desc := "(I)I" } : Jvm.MethodName)) ∈ gw := lw_m 830 (by decide +kernel)
theorem tb831 : (Jvm.Cond.instanceMethod ({ cls := "StairGang", name := "steal", desc := "(I)I" } : Jvm.MethodName)) ∈ gw := lw_m 831 (by decide +kernel)
theorem tb832 : (Jvm.Cond.selects "StairGang" ({ cls := "StairGang", name := "steal", desc := "(I)I" } : Jvm.MethodName) ({ cls := "StairGang", name := "steal", desc := "(I)I" } : Jvm.MethodName)) ∈ gw := lw_m 832 (by decide +kernel)
theorem tb833 : (Jvm.Cond.code ({ cls := "StairGang", name := "steal", desc := "(I)I" } : Jvm.MethodName) prog_1_method_11_code (3 : Nat) (Option.some Jvm.ClassFile.FieldType.int)) ∈ gw := lw_m 833 (by decide +kernel)
theorem tb1682 : (Jvm.Cond.methodLink "StairGangLaw" (64 : Nat) ({ cls := "StairGangModel", name := "steal", desc := "(I)I" } : Jvm.MethodName)) ∈ gw := lw_m 1682 (by decide +kernel)
theorem tb1683 : (Jvm.Cond.instanceMethod ({ cls := "StairGangModel", name := "steal", desc := "(I)I" } : Jvm.MethodName)) ∈ gw := lw_m 1683 (by decide +kernel)
theorem tb1684 : (Jvm.Cond.selects "StairGangModel" ({ cls := "StairGangModel", name := "steal", desc := "(I)I" } : Jvm.MethodName) ({ cls := "StairGangModel", name := "steal", desc := "(I)I" } : Jvm.MethodName)) ∈ gw := lw_m 1684 (by decide +kernel)
theorem tb1685 : (Jvm.Cond.code ({ cls := "StairGangModel", name := "steal", desc := "(I)I" } : Jvm.MethodName) prog_13_method_79_code (2 : Nat) (Option.some Jvm.ClassFile.FieldType.int)) ∈ gw := lw_m 1685 (by decide +kernel)
theorem dL_law_523 : decode cL_law 523 = .ok (.aload_n 1, 1) := by decide +kernel
theorem dL_law_524 : decode cL_law 524 = .ok (.aload_n 0, 1) := by decide +kernel
theorem dL_law_525 : decode cL_law 525 = .ok (.iload 4, 2) := by decide +kernel
theorem dL_law_527 : decode cL_law 527 = .ok (.iconst 1, 1) := by decide +kernel
theorem dL_law_528 : decode cL_law 528 = .ok (.iadd, 1) := by decide +kernel
theorem dL_law_529 : decode cL_law 529 = .ok (.iaload, 1) := by decide +kernel
theorem dL_law_530 : decode cL_law 530 = .ok (.invokevirtual 61, 3) := by decide +kernel
theorem dL_law_533 : decode cL_law 533 = .ok (.aload_n 2, 1) := by decide +kernel
theorem dL_law_534 : decode cL_law 534 = .ok (.aload_n 0, 1) := by decide +kernel
theorem dL_law_535 : decode cL_law 535 = .ok (.iload 4, 2) := by decide +kernel
theorem dL_law_537 : decode cL_law 537 = .ok (.iconst 1, 1) := by decide +kernel
theorem dL_law_538 : decode cL_law 538 = .ok (.iadd, 1) := by decide +kernel
theorem dL_law_539 : decode cL_law 539 = .ok (.iaload, 1) := by decide +kernel
theorem dL_law_540 : decode cL_law 540 = .ok (.invokevirtual 64, 3) := by decide +kernel
theorem dL_law_543 : decode cL_law 543 = .ok (.if_icmp .eq 736, 3) := by decide +kernel
set_option maxHeartbeats 4000000 in
set_option maxRecDepth 100000 in
theorem lc_steal {p : Program} {l : Launch} {e : Env} {s : State} {m : MethodId} {below : List Frame} {meth : Method} {c : Code} {g : va_G} {aC : Nat → ClassId} {aM : Nat → Nat} {A : Nat → Prop} {b : Nat} {xs : Nat → Int32} (F : Fx p s m #[Value.ref b] c code 7 RL g aC aM A) (hr : meth.sig.returnType = ret) (hlocks : meth.locks = false) (hX : va_X b 7 xs s s.heap) (hbl : b < s.heap.size) (hbA : ¬ A b) (hAs : ∀ q, A q → s.heap.size ≤ q) (h1x h5x h7x h8x h18x h30x h31x h32x h33x : Nat) (x2x x3x x4x x6x x9x x10x x11x x12x x13x x14x x15x x16x x17x x19x x20x x21x x22x x23x x24x x25x x26x x27x x28x x29x : Value) (h1m h11m : Nat) (x2m x3m x4m x5m x6m x7m x8m x9m x10m x12m x13m x14m x15m x16m x17m x18m x19m x20m x21m x22m x23m x24m x25m x26m x27m x28m x29m x30m x31m x32m x33m x34m x35m x36m x37m x38m x39m x40m x41m x42m x43m x44m x45m x46m x47m x48m x49m x50m x51m x52m x53m x54m x55m x56m x57m x58m x59m x60m x61m x62m x63m x64m x65m x66m x67m x68m x69m x70m x71m x72m x73m x74m : Value) (ho : Nat) {H : Heap} {locs : List Loc} (hP : va_P g vwCl [(h1x, .inr (10, [x2x, x3x, x4x, .ref h5x, x6x, .ref h7x, .ref h8x, x9x, x10x, x11x, x12x, x13x, x14x, x15x, x16x, x17x])), (h5x, .inr (8, [.ref h18x, x19x, x20x, x21x, x22x, x23x, x24x, x25x, x26x, x27x, x28x, x29x])), (h18x, .inl (aC 0, 5, .inl (fun _ => 0))), (h7x, .inr (6, [.int 0, .ref h30x, .ref h31x, .int 0, .int 0, .int 0])), (h30x, .inl (aC 0, 5, .inl (fun _ => 0))), (h31x, .inl (aC 0, 4, .inl (fun _ => 0))), (h8x, .inr (6, [.int 0, .ref h32x, .ref h33x, .int 0, .int 0, .int 0])), (h32x, .inl (aC 0, 5, .inl (fun _ => 0))), (h33x, .inl (aC 0, 4, .inl (fun _ => 0))), (h1m, .inr (11, [.int 0, x2m, x3m, x4m, x5m, x6m, x7m, x8m, x9m, x10m, .ref h11m, x12m, x13m, x14m, x15m, x16m, x17m, x18m, x19m, x20m, x21m, x22m, x23m, x24m, x25m, x26m, x27m, x28m, x29m, x30m, x31m, x32m, x33m, x34m, x35m, x36m, x37m, x38m, x39m, x40m, x41m, x42m, x43m, x44m, x45m, x46m, x47m, x48m, x49m, x50m, x51m, x52m, x53m, x54m, x55m, x56m, x57m, x58m, x59m, x60m, x61m, x62m, x63m, x64m, x65m, x66m, x67m, x68m, x69m, x70m, x71m, x72m, x73m, x74m])), (h11m, .inl (aC 0, 14, .inl (fun _ => 0)))] H) (hD : va_D A [(h1x, .inr (10, [x2x, x3x, x4x, .ref h5x, x6x, .ref h7x, .ref h8x, x9x, x10x, x11x, x12x, x13x, x14x, x15x, x16x, x17x])), (h5x, .inr (8, [.ref h18x, x19x, x20x, x21x, x22x, x23x, x24x, x25x, x26x, x27x, x28x, x29x])), (h18x, .inl (aC 0, 5, .inl (fun _ => 0))), (h7x, .inr (6, [.int 0, .ref h30x, .ref h31x, .int 0, .int 0, .int 0])), (h30x, .inl (aC 0, 5, .inl (fun _ => 0))), (h31x, .inl (aC 0, 4, .inl (fun _ => 0))), (h8x, .inr (6, [.int 0, .ref h32x, .ref h33x, .int 0, .int 0, .int 0])), (h32x, .inl (aC 0, 5, .inl (fun _ => 0))), (h33x, .inl (aC 0, 4, .inl (fun _ => 0))), (h1m, .inr (11, [.int 0, x2m, x3m, x4m, x5m, x6m, x7m, x8m, x9m, x10m, .ref h11m, x12m, x13m, x14m, x15m, x16m, x17m, x18m, x19m, x20m, x21m, x22m, x23m, x24m, x25m, x26m, x27m, x28m, x29m, x30m, x31m, x32m, x33m, x34m, x35m, x36m, x37m, x38m, x39m, x40m, x41m, x42m, x43m, x44m, x45m, x46m, x47m, x48m, x49m, x50m, x51m, x52m, x53m, x54m, x55m, x56m, x57m, x58m, x59m, x60m, x61m, x62m, x63m, x64m, x65m, x66m, x67m, x68m, x69m, x70m, x71m, x72m, x73m, x74m])), (h11m, .inl (aC 0, 14, .inl (fun _ => 0)))]) (hS : va_S A s.heap H locs) (ls : Array Slot) (hl : lv_has ls 7 [(4, .int 0), (3, .ref ho), (2, .ref h1m), (1, .ref h1x), (0, .ref b)]) : W p l e room_1 s m #[Value.ref b] below meth c H locs 700 60000 (lw_Z below #[Value.ref b] s) (F0 m 523 ls []) := by
  obtain ⟨hx, hb, hml, hown, hts, hK, hA, hM, hM2⟩ := id F
  refine lv_aload_n hx hb dL_law_523 rfl (lv_at hl 3 rfl) ?_
  refine lv_aload_n hx hb dL_law_524 rfl (lv_at hl 4 rfl) ?_
  refine lv_iload hx hb dL_law_525 (lv_at hl 0 rfl) ?_
  refine lv_iconst (v := 1) hx hb dL_law_527 (by decide) ?_
  refine lv_iadd hx hb dL_law_528 ?_
  refine relit (v := 1) (by decide +kernel) ?_
  refine va_sld hx hb hX hbl hbA hS (vpin (j := 1) (by decide +kernel) (by decide +kernel) (by decide)) dL_law_529 ?_
  refine relit (v := xs 1) (by rw [show ((1 : Int32).toNatClampNeg) = 1 from by decide +kernel]) ?_
  refine goI (wr := [(h1m, .inr (11, [.int 0, x2m, x3m, x4m, x5m, x6m, x7m, x8m, x9m, x10m, .ref h11m, x12m, x13m, x14m, x15m, x16m, x17m, x18m, x19m, x20m, x21m, x22m, x23m, x24m, x25m, x26m, x27m, x28m, x29m, x30m, x31m, x32m, x33m, x34m, x35m, x36m, x37m, x38m, x39m, x40m, x41m, x42m, x43m, x44m, x45m, x46m, x47m, x48m, x49m, x50m, x51m, x52m, x53m, x54m, x55m, x56m, x57m, x58m, x59m, x60m, x61m, x62m, x63m, x64m, x65m, x66m, x67m, x68m, x69m, x70m, x71m, x72m, x73m, x74m])), (h11m, .inl (aC 0, 14, .inl (fun _ => 0)))]) (runV (n := 1) (As := [.int (xs 1)]) (rest := []) F hP hD hS (x_steal l g aC aM h1x h5x h7x h8x h18x h30x h31x h32x h33x x2x x3x x4x x6x x9x x10x x11x x12x x13x x14x x15x x16x x17x x19x x20x x21x x22x x23x x24x x25x x26x x27x x28x x29x (xs 1)) [0, 1, 2, 3, 4, 5, 6, 7, 8] (by decide) rfl 0 10 rfl rfl rfl tb833 tb830 tb831 tb832 tb1 ⟨by decide, by decide, by decide +kernel⟩ ⟨Nat.le_of_ble_eq_true rfl, Nat.le_of_ble_eq_true rfl⟩ rfl hl.1 rfl (Nat.le_of_ble_eq_true rfl) dL_law_530 ⟨Nat.le_of_ble_eq_true rfl, Nat.le_of_ble_eq_true rfl⟩) hP hD hS hA [0, 1, 2, 3, 4, 5, 6, 7, 8] [9, 10] rfl rfl (by decide) (by decide) (fun r_2 w3 H locs hw hP hD hS => ?_)
  have hP : va_P g vwCl [(h1m, .inr (11, [.int 0, x2m, x3m, x4m, x5m, x6m, x7m, x8m, x9m, x10m, .ref h11m, x12m, x13m, x14m, x15m, x16m, x17m, x18m, x19m, x20m, x21m, x22m, x23m, x24m, x25m, x26m, x27m, x28m, x29m, x30m, x31m, x32m, x33m, x34m, x35m, x36m, x37m, x38m, x39m, x40m, x41m, x42m, x43m, x44m, x45m, x46m, x47m, x48m, x49m, x50m, x51m, x52m, x53m, x54m, x55m, x56m, x57m, x58m, x59m, x60m, x61m, x62m, x63m, x64m, x65m, x66m, x67m, x68m, x69m, x70m, x71m, x72m, x73m, x74m])), (h11m, .inl (aC 0, 14, .inl (fun _ => 0)))] H := hP
  have hD : va_D A [(h1m, .inr (11, [.int 0, x2m, x3m, x4m, x5m, x6m, x7m, x8m, x9m, x10m, .ref h11m, x12m, x13m, x14m, x15m, x16m, x17m, x18m, x19m, x20m, x21m, x22m, x23m, x24m, x25m, x26m, x27m, x28m, x29m, x30m, x31m, x32m, x33m, x34m, x35m, x36m, x37m, x38m, x39m, x40m, x41m, x42m, x43m, x44m, x45m, x46m, x47m, x48m, x49m, x50m, x51m, x52m, x53m, x54m, x55m, x56m, x57m, x58m, x59m, x60m, x61m, x62m, x63m, x64m, x65m, x66m, x67m, x68m, x69m, x70m, x71m, x72m, x73m, x74m])), (h11m, .inl (aC 0, 14, .inl (fun _ => 0)))] := hD
  try dsimp only at hw
  subst hw
  refine lv_aload_n hx hb dL_law_533 rfl (lv_at hl 2 rfl) ?_
  refine lv_aload_n hx hb dL_law_534 rfl (lv_at hl 4 rfl) ?_
  refine lv_iload hx hb dL_law_535 (lv_at hl 0 rfl) ?_
  refine lv_iconst (v := 1) hx hb dL_law_537 (by decide) ?_
  refine lv_iadd hx hb dL_law_538 ?_
  refine relit (v := 1) (by decide +kernel) ?_
  refine va_sld hx hb hX hbl hbA hS (vpin (j := 1) (by decide +kernel) (by decide +kernel) (by decide)) dL_law_539 ?_
  refine relit (v := xs 1) (by rw [show ((1 : Int32).toNatClampNeg) = 1 from by decide +kernel]) ?_
  refine goI (wr := []) (runV (n := 1) (As := [.int (xs 1)]) (rest := [.int (-1)]) F hP hD hS (m_steal l g aC aM h1m h11m x2m x3m x4m x5m x6m x7m x8m x9m x10m x12m x13m x14m x15m x16m x17m x18m x19m x20m x21m x22m x23m x24m x25m x26m x27m x28m x29m x30m x31m x32m x33m x34m x35m x36m x37m x38m x39m x40m x41m x42m x43m x44m x45m x46m x47m x48m x49m x50m x51m x52m x53m x54m x55m x56m x57m x58m x59m x60m x61m x62m x63m x64m x65m x66m x67m x68m x69m x70m x71m x72m x73m x74m (xs 1)) [0, 1] (by decide) rfl 0 11 rfl rfl rfl tb1685 tb1682 tb1683 tb1684 tb17 ⟨by decide, by decide, by decide +kernel⟩ ⟨Nat.le_of_ble_eq_true rfl, Nat.le_of_ble_eq_true rfl⟩ rfl hl.1 rfl (Nat.le_of_ble_eq_true rfl) dL_law_540 ⟨Nat.le_of_ble_eq_true rfl, Nat.le_of_ble_eq_true rfl⟩) hP hD hS hA [0, 1] [] rfl rfl (by decide) (by decide) (fun r_5 w6 H locs hw hP hD hS => ?_)
  have hP : va_P g vwCl [] H := hP
  have hD : va_D A [] := hD
  try dsimp only at hw
  subst hw
  refine lv_icmp_eq (tgt := 1279) hx hb dL_law_543 (by decide) (fun _ => ?_) (fun c_ => absurd (by decide +kernel) c_)
  exact law_end F hr hlocks hX hbl hbA hAs hS (Nat.le_of_ble_eq_true rfl) (Nat.le_of_ble_eq_true rfl) _ (lv_sub hl [0, 4] rfl)
