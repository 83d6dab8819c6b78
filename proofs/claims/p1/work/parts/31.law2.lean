theorem tb873 : (Jvm.Cond.methodLink "StairGangLaw" (65 : Nat) ({ cls := "StairGang", name := "build", desc := "(I)I" } : Jvm.MethodName)) ∈ gw := lw_m 873 (by decide +kernel)
theorem tb874 : (Jvm.Cond.instanceMethod ({ cls := "StairGang", name := "build", desc := "(I)I" } : Jvm.MethodName)) ∈ gw := lw_m 874 (by decide +kernel)
theorem tb875 : (Jvm.Cond.selects "StairGang" ({ cls := "StairGang", name := "build", desc := "(I)I" } : Jvm.MethodName) ({ cls := "StairGang", name := "build", desc := "(I)I" } : Jvm.MethodName)) ∈ gw := lw_m 875 (by decide +kernel)
theorem tb876 : (Jvm.Cond.code ({ cls := "StairGang", name := "build", desc := "(I)I" } : Jvm.MethodName) prog_1_method_12_code (3 : Nat) (Option.some Jvm.ClassFile.FieldType.int)) ∈ gw := lw_m 876 (by decide +kernel)
theorem tb1731 : (Jvm.Cond.methodLink "StairGangLaw" (68 : Nat) ({ cls := "StairGangModel", name := "build", desc := "(I)I" } : Jvm.MethodName)) ∈ gw := lw_m 1731 (by decide +kernel)
theorem tb1732 : (Jvm.Cond.instanceMethod ({ cls := "StairGangModel", name := "build", desc := "(I)I" } : Jvm.MethodName)) ∈ gw := lw_m 1732 (by decide +kernel)
theorem tb1733 : (Jvm.Cond.selects "StairGangModel" ({ cls := "StairGangModel", name := "build", desc := "(I)I" } : Jvm.MethodName) ({ cls := "StairGangModel", name := "build", desc := "(I)I" } : Jvm.MethodName)) ∈ gw := lw_m 1733 (by decide +kernel)
theorem tb1734 : (Jvm.Cond.code ({ cls := "StairGangModel", name := "build", desc := "(I)I" } : Jvm.MethodName) prog_13_method_82_code (2 : Nat) (Option.some Jvm.ClassFile.FieldType.int)) ∈ gw := lw_m 1734 (by decide +kernel)
theorem dL_law_548 : decode cL_law 548 = .ok (.aload_n 1, 1) := by decide +kernel
theorem dL_law_549 : decode cL_law 549 = .ok (.aload_n 0, 1) := by decide +kernel
theorem dL_law_550 : decode cL_law 550 = .ok (.iload 4, 2) := by decide +kernel
theorem dL_law_552 : decode cL_law 552 = .ok (.iconst 1, 1) := by decide +kernel
theorem dL_law_553 : decode cL_law 553 = .ok (.iadd, 1) := by decide +kernel
theorem dL_law_554 : decode cL_law 554 = .ok (.iaload, 1) := by decide +kernel
theorem dL_law_555 : decode cL_law 555 = .ok (.invokevirtual 65, 3) := by decide +kernel
theorem dL_law_558 : decode cL_law 558 = .ok (.aload_n 2, 1) := by decide +kernel
theorem dL_law_559 : decode cL_law 559 = .ok (.aload_n 0, 1) := by decide +kernel
theorem dL_law_560 : decode cL_law 560 = .ok (.iload 4, 2) := by decide +kernel
theorem dL_law_562 : decode cL_law 562 = .ok (.iconst 1, 1) := by decide +kernel
theorem dL_law_563 : decode cL_law 563 = .ok (.iadd, 1) := by decide +kernel
theorem dL_law_564 : decode cL_law 564 = .ok (.iaload, 1) := by decide +kernel
theorem dL_law_565 : decode cL_law 565 = .ok (.invokevirtual 68, 3) := by decide +kernel
theorem dL_law_568 : decode cL_law 568 = .ok (.if_icmp .eq 711, 3) := by decide +kernel
set_option maxHeartbeats 4000000 in
set_option maxRecDepth 100000 in
theorem lc_build {p : Program} {l : Launch} {e : Env} {s : State} {m : MethodId} {below : List Frame} {meth : Method} {c : Code} {g : va_G} {aC : Nat → ClassId} {aM : Nat → Nat} {A : Nat → Prop} {b : Nat} {xs : Nat → Int32} (F : Fx p s m #[Value.ref b] c code 7 RL g aC aM A) (hr : meth.sig.returnType = ret) (hlocks : meth.locks = false) (hX : va_X b 7 xs s s.heap) (hbl : b < s.heap.size) (hbA : ¬ A b) (hAs : ∀ q, A q → s.heap.size ≤ q) (h1x h5x h7x h8x h18x h30x h31x h32x h33x : Nat) (x2x x3x x4x x6x x9x x10x x11x x12x x13x x14x x15x x16x x17x x19x x20x x21x x22x x23x x24x x25x x26x x27x x28x x29x : Value) (h1m h11m : Nat) (x2m x3m x4m x5m x6m x7m x8m x9m x10m x12m x13m x14m x15m x16m x17m x18m x19m x20m x21m x22m x23m x24m x25m x26m x27m x28m x29m x30m x31m x32m x33m x34m x35m x36m x37m x38m x39m x40m x41m x42m x43m x44m x45m x46m x47m x48m x49m x50m x51m x52m x53m x54m x55m x56m x57m x58m x59m x60m x61m x62m x63m x64m x65m x66m x67m x68m x69m x70m x71m x72m x73m x74m : Value) (ho : Nat) {H : Heap} {locs : List Loc} (hP : va_P g vwCl [(h1x, .inr (10, [x2x, x3x, x4x, .ref h5x, x6x, .ref h7x, .ref h8x, x9x, x10x, x11x, x12x, x13x, x14x, x15x, x16x, x17x])), (h5x, .inr (8, [.ref h18x, x19x, x20x, x21x, x22x, x23x, x24x, x25x, x26x, x27x, x28x, x29x])), (h18x, .inl (aC 0, 5, .inl (fun _ => 0))), (h7x, .inr (6, [.int 0, .ref h30x, .ref h31x, .int 0, .int 0, .int 0])), (h30x, .inl (aC 0, 5, .inl (fun _ => 0))), (h31x, .inl (aC 0, 4, .inl (fun _ => 0))), (h8x, .inr (6, [.int 0, .ref h32x, .ref h33x, .int 0, .int 0, .int 0])), (h32x, .inl (aC 0, 5, .inl (fun _ => 0))), (h33x, .inl (aC 0, 4, .inl (fun _ => 0))), (h1m, .inr (11, [.int 0, x2m, x3m, x4m, x5m, x6m, x7m, x8m, x9m, x10m, .ref h11m, x12m, x13m, x14m, x15m, x16m, x17m, x18m, x19m, x20m, x21m, x22m, x23m, x24m, x25m, x26m, x27m, x28m, x29m, x30m, x31m, x32m, x33m, x34m, x35m, x36m, x37m, x38m, x39m, x40m, x41m, x42m, x43m, x44m, x45m, x46m, x47m, x48m, x49m, x50m, x51m, x52m, x53m, x54m, x55m, x56m, x57m, x58m, x59m, x60m, x61m, x62m, x63m, x64m, x65m, x66m, x67m, x68m, x69m, x70m, x71m, x72m, x73m, x74m])), (h11m, .inl (aC 0, 14, .inl (fun _ => 0)))] H) (hD : va_D A [(h1x, .inr (10, [x2x, x3x, x4x, .ref h5x, x6x, .ref h7x, .ref h8x, x9x, x10x, x11x, x12x, x13x, x14x, x15x, x16x, x17x])), (h5x, .inr (8, [.ref h18x, x19x, x20x, x21x, x22x, x23x, x24x, x25x, x26x, x27x, x28x, x29x])), (h18x, .inl (aC 0, 5, .inl (fun _ => 0))), (h7x, .inr (6, [.int 0, .ref h30x, .ref h31x, .int 0, .int 0, .int 0])), (h30x, .inl (aC 0, 5, .inl (fun _ => 0))), (h31x, .inl (aC 0, 4, .inl (fun _ => 0))), (h8x, .inr (6, [.int 0, .ref h32x, .ref h33x, .int 0, .int 0, .int 0])), (h32x, .inl (aC 0, 5, .inl (fun _ => 0))), (h33x, .inl (aC 0, 4, .inl (fun _ => 0))), (h1m, .inr (11, [.int 0, x2m, x3m, x4m, x5m, x6m, x7m, x8m, x9m, x10m, .ref h11m, x12m, x13m, x14m, x15m, x16m, x17m, x18m, x19m, x20m, x21m, x22m, x23m, x24m, x25m, x26m, x27m, x28m, x29m, x30m, x31m, x32m, x33m, x34m, x35m, x36m, x37m, x38m, x39m, x40m, x41m, x42m, x43m, x44m, x45m, x46m, x47m, x48m, x49m, x50m, x51m, x52m, x53m, x54m, x55m, x56m, x57m, x58m, x59m, x60m, x61m, x62m, x63m, x64m, x65m, x66m, x67m, x68m, x69m, x70m, x71m, x72m, x73m, x74m])), (h11m, .inl (aC 0, 14, .inl (fun _ => 0)))]) (hS : va_S A s.heap H locs) (ls : Array Slot) (hl : lv_has ls 7 [(4, .int 0), (3, .ref ho), (2, .ref h1m), (1, .ref h1x), (0, .ref b)]) : W p l e room_1 s m #[Value.ref b] below meth c H locs 700 60000 (lw_Z below #[Value.ref b] s) (F0 m 548 ls []) := by
  obtain ⟨hx, hb, hml, hown, hts, hK, hA, hM, hM2⟩ := id F
  refine lv_aload_n hx hb dL_law_548 rfl (lv_at hl 3 rfl) ?_
  refine lv_aload_n hx hb dL_law_549 rfl (lv_at hl 4 rfl) ?_
  refine lv_iload hx hb dL_law_550 (lv_at hl 0 rfl) ?_
  refine lv_iconst (v := 1) hx hb dL_law_552 (by decide) ?_
  refine lv_iadd hx hb dL_law_553 ?_
  refine relit (v := 1) (by decide +kernel) ?_
  refine va_sld hx hb hX hbl hbA hS (vpin (j := 1) (by decide +kernel) (by decide +kernel) (by decide)) dL_law_554 ?_
  refine relit (v := xs 1) (by rw [show ((1 : Int32).toNatClampNeg) = 1 from by decide +kernel]) ?_
  refine goI (wr := [(h1m, .inr (11, [.int 0, x2m, x3m, x4m, x5m, x6m, x7m, x8m, x9m, x10m, .ref h11m, x12m, x13m, x14m, x15m, x16m, x17m, x18m, x19m, x20m, x21m, x22m, x23m, x24m, x25m, x26m, x27m, x28m, x29m, x30m, x31m, x32m, x33m, x34m, x35m, x36m, x37m, x38m, x39m, x40m, x41m, x42m, x43m, x44m, x45m, x46m, x47m, x48m, x49m, x50m, x51m, x52m, x53m, x54m, x55m, x56m, x57m, x58m, x59m, x60m, x61m, x62m, x63m, x64m, x65m, x66m, x67m, x68m, x69m, x70m, x71m, x72m, x73m, x74m])), (h11m, .inl (aC 0, 14, .inl (fun _ => 0)))]) (runV (n := 1) (As := [.int (xs 1)]) (rest := []) F hP hD hS (x_build l g aC aM h1x h5x h7x h8x h18x h30x h31x h32x h33x x2x x3x x4x x6x x9x x10x x11x x12x x13x x14x x15x x16x x17x x19x x20x x21x x22x x23x x24x x25x x26x x27x x28x x29x (xs 1)) [0, 1, 2, 3, 4, 5, 6, 7, 8] (by decide) rfl 0 10 rfl rfl rfl tb876 tb873 tb874 tb875 tb1 ⟨by decide, by decide, by decide +kernel⟩ ⟨Nat.le_of_ble_eq_true rfl, Nat.le_of_ble_eq_true rfl⟩ rfl hl.1 rfl (Nat.le_of_ble_eq_true rfl) dL_law_555 ⟨Nat.le_of_ble_eq_true rfl, Nat.le_of_ble_eq_true rfl⟩) hP hD hS hA [0, 1, 2, 3, 4, 5, 6, 7, 8] [9, 10] rfl rfl (by decide) (by decide) (fun r_2 w3 H locs hw hP hD hS => ?_)
  have hP : va_P g vwCl [(h1m, .inr (11, [.int 0, x2m, x3m, x4m, x5m, x6m, x7m, x8m, x9m, x10m, .ref h11m, x12m, x13m, x14m, x15m, x16m, x17m, x18m, x19m, x20m, x21m, x22m, x23m, x24m, x25m, x26m, x27m, x28m, x29m, x30m, x31m, x32m, x33m, x34m, x35m, x36m, x37m, x38m, x39m, x40m, x41m, x42m, x43m, x44m, x45m, x46m, x47m, x48m, x49m, x50m, x51m, x52m, x53m, x54m, x55m, x56m, x57m, x58m, x59m, x60m, x61m, x62m, x63m, x64m, x65m, x66m, x67m, x68m, x69m, x70m, x71m, x72m, x73m, x74m])), (h11m, .inl (aC 0, 14, .inl (fun _ => 0)))] H := hP
  have hD : va_D A [(h1m, .inr (11, [.int 0, x2m, x3m, x4m, x5m, x6m, x7m, x8m, x9m, x10m, .ref h11m, x12m, x13m, x14m, x15m, x16m, x17m, x18m, x19m, x20m, x21m, x22m, x23m, x24m, x25m, x26m, x27m, x28m, x29m, x30m, x31m, x32m, x33m, x34m, x35m, x36m, x37m, x38m, x39m, x40m, x41m, x42m, x43m, x44m, x45m, x46m, x47m, x48m, x49m, x50m, x51m, x52m, x53m, x54m, x55m, x56m, x57m, x58m, x59m, x60m, x61m, x62m, x63m, x64m, x65m, x66m, x67m, x68m, x69m, x70m, x71m, x72m, x73m, x74m])), (h11m, .inl (aC 0, 14, .inl (fun _ => 0)))] := hD
  try dsimp only at hw
  subst hw
  refine lv_aload_n hx hb dL_law_558 rfl (lv_at hl 2 rfl) ?_
  refine lv_aload_n hx hb dL_law_559 rfl (lv_at hl 4 rfl) ?_
  refine lv_iload hx hb dL_law_560 (lv_at hl 0 rfl) ?_
  refine lv_iconst (v := 1) hx hb dL_law_562 (by decide) ?_
  refine lv_iadd hx hb dL_law_563 ?_
  refine relit (v := 1) (by decide +kernel) ?_
  refine va_sld hx hb hX hbl hbA hS (vpin (j := 1) (by decide +kernel) (by decide +kernel) (by decide)) dL_law_564 ?_
  refine relit (v := xs 1) (by rw [show ((1 : Int32).toNatClampNeg) = 1 from by decide +kernel]) ?_
  refine goI (wr := []) (runV (n := 1) (As := [.int (xs 1)]) (rest := [.int (-1)]) F hP hD hS (m_build l g aC aM h1m h11m x2m x3m x4m x5m x6m x7m x8m x9m x10m x12m x13m x14m x15m x16m x17m x18m x19m x20m x21m x22m x23m x24m x25m x26m x27m x28m x29m x30m x31m x32m x33m x34m x35m x36m x37m x38m x39m x40m x41m x42m x43m x44m x45m x46m x47m x48m x49m x50m x51m x52m x53m x54m x55m x56m x57m x58m x59m x60m x61m x62m x63m x64m x65m x66m x67m x68m x69m x70m x71m x72m x73m x74m (xs 1)) [0, 1] (by decide) rfl 0 11 rfl rfl rfl tb1734 tb1731 tb1732 tb1733 tb17 ⟨by decide, by decide, by decide +kernel⟩ ⟨Nat.le_of_ble_eq_true rfl, Nat.le_of_ble_eq_true rfl⟩ rfl hl.1 rfl (Nat.le_of_ble_eq_true rfl) dL_law_565 ⟨Nat.le_of_ble_eq_true rfl, Nat.le_of_ble_eq_true rfl⟩) hP hD hS hA [0, 1] [] rfl rfl (by decide) (by decide) (fun r_5 w6 H locs hw hP hD hS => ?_)
  have hP : va_P g vwCl [] H := hP
  have hD : va_D A [] := hD
  try dsimp only at hw
  subst hw
  refine lv_icmp_eq (tgt := 1279) hx hb dL_law_568 (by decide) (fun _ => ?_) (fun c_ => absurd (by decide +kernel) c_)
  exact law_end F hr hlocks hX hbl hbA hAs hS (Nat.le_of_ble_eq_true rfl) (Nat.le_of_ble_eq_true rfl) _ (lv_sub hl [0, 4] rfl)

theorem tb881 : (Jvm.Cond.methodLink "StairGangLaw" (69 : Nat) ({ cls := "StairGang", name := "go", desc := "(II)Z" } : Jvm.MethodName)) ∈ gw := lw_m 881 (by decide +kernel)
theorem tb882 : (Jvm.Cond.instanceMethod ({ cls := "StairGang", name := "go", desc := "(II)Z" } : Jvm.MethodName)) ∈ gw := lw_m 882 (by decide +kernel)
theorem tb883 : (Jvm.Cond.selects "StairGang" ({ cls := "StairGang", name := "go", desc := "(II)Z" } : Jvm.MethodName) ({ cls := "StairGang", name := "go", desc := "(II)Z" } : Jvm.MethodName)) ∈ gw := lw_m 883 (by decide +kernel)
theorem tb884 : (Jvm.Cond.code ({ cls := "StairGang", name := "go", desc := "(II)Z" } : Jvm.MethodName) prog_1_method_13_code (4 : Nat) (Option.some Jvm.ClassFile.FieldType.boolean)) ∈ gw := lw_m 884 (by decide +kernel)
theorem tb1743 : (Jvm.Cond.methodLink "StairGangLaw" (73 : Nat) ({ cls := "StairGangModel", name := "go", desc := "(II)Z" } : Jvm.MethodName)) ∈ gw := lw_m 1743 (by decide +kernel)
theorem tb1744 : (Jvm.Cond.instanceMethod ({ cls := "StairGangModel", name := "go", desc := "(II)Z" } : Jvm.MethodName)) ∈ gw := lw_m 1744 (by decide +kernel)
theorem tb1745 : (Jvm.Cond.selects "StairGangModel" ({ cls := "StairGangModel", name := "go", desc := "(II)Z" } : Jvm.MethodName) ({ cls := "StairGangModel", name := "go", desc := "(II)Z" } : Jvm.MethodName)) ∈ gw := lw_m 1745 (by decide +kernel)
theorem tb1746 : (Jvm.Cond.code ({ cls := "StairGangModel", name := "go", desc := "(II)Z" } : Jvm.MethodName) prog_13_method_84_code (3 : Nat) (Option.some Jvm.ClassFile.FieldType.boolean)) ∈ gw := lw_m 1746 (by decide +kernel)
theorem dL_law_573 : decode cL_law 573 = .ok (.aload_n 1, 1) := by decide +kernel
theorem dL_law_574 : decode cL_law 574 = .ok (.aload_n 0, 1) := by decide +kernel
theorem dL_law_575 : decode cL_law 575 = .ok (.iload 4, 2) := by decide +kernel
theorem dL_law_577 : decode cL_law 577 = .ok (.iconst 1, 1) := by decide +kernel
theorem dL_law_578 : decode cL_law 578 = .ok (.iadd, 1) := by decide +kernel
theorem dL_law_579 : decode cL_law 579 = .ok (.iaload, 1) := by decide +kernel
theorem dL_law_580 : decode cL_law 580 = .ok (.aload_n 0, 1) := by decide +kernel
theorem dL_law_581 : decode cL_law 581 = .ok (.iload 4, 2) := by decide +kernel
theorem dL_law_583 : decode cL_law 583 = .ok (.iconst 2, 1) := by decide +kernel
theorem dL_law_584 : decode cL_law 584 = .ok (.iadd, 1) := by decide +kernel
theorem dL_law_585 : decode cL_law 585 = .ok (.iaload, 1) := by decide +kernel
theorem dL_law_586 : decode cL_law 586 = .ok (.invokevirtual 69, 3) := by decide +kernel
theorem dL_law_589 : decode cL_law 589 = .ok (.aload_n 2, 1) := by decide +kernel
theorem dL_law_590 : decode cL_law 590 = .ok (.aload_n 0, 1) := by decide +kernel
theorem dL_law_591 : decode cL_law 591 = .ok (.iload 4, 2) := by decide +kernel
theorem dL_law_593 : decode cL_law 593 = .ok (.iconst 1, 1) := by decide +kernel
theorem dL_law_594 : decode cL_law 594 = .ok (.iadd, 1) := by decide +kernel
theorem dL_law_595 : decode cL_law 595 = .ok (.iaload, 1) := by decide +kernel
theorem dL_law_596 : decode cL_law 596 = .ok (.aload_n 0, 1) := by decide +kernel
theorem dL_law_597 : decode cL_law 597 = .ok (.iload 4, 2) := by decide +kernel
theorem dL_law_599 : decode cL_law 599 = .ok (.iconst 2, 1) := by decide +kernel
theorem dL_law_600 : decode cL_law 600 = .ok (.iadd, 1) := by decide +kernel
theorem dL_law_601 : decode cL_law 601 = .ok (.iaload, 1) := by decide +kernel
theorem dL_law_602 : decode cL_law 602 = .ok (.invokevirtual 73, 3) := by decide +kernel
theorem dL_law_605 : decode cL_law 605 = .ok (.if_icmp .eq 674, 3) := by decide +kernel
set_option maxHeartbeats 4000000 in
set_option maxRecDepth 100000 in
theorem lc_go {p : Program} {l : Launch} {e : Env} {s : State} {m : MethodId} {below : List Frame} {meth : Method} {c : Code} {g : va_G} {aC : Nat → ClassId} {aM : Nat → Nat} {A : Nat → Prop} {b : Nat} {xs : Nat → Int32} (F : Fx p s m #[Value.ref b] c code 7 RL g aC aM A) (hr : meth.sig.returnType = ret) (hlocks : meth.locks = false) (hX : va_X b 7 xs s s.heap) (hbl : b < s.heap.size) (hbA : ¬ A b) (hAs : ∀ q, A q → s.heap.size ≤ q) (h1x h5x h7x h8x h18x h30x h31x h32x h33x : Nat) (x2x x3x x4x x6x x9x x10x x11x x12x x13x x14x x15x x16x x17x x19x x20x x21x x22x x23x x24x x25x x26x x27x x28x x29x : Value) (h1m h11m : Nat) (x2m x3m x4m x5m x6m x7m x8m x9m x10m x12m x13m x14m x15m x16m x17m x18m x19m x20m x21m x22m x23m x24m x25m x26m x27m x28m x29m x30m x31m x32m x33m x34m x35m x36m x37m x38m x39m x40m x41m x42m x43m x44m x45m x46m x47m x48m x49m x50m x51m x52m x53m x54m x55m x56m x57m x58m x59m x60m x61m x62m x63m x64m x65m x66m x67m x68m x69m x70m x71m x72m x73m x74m : Value) (ho : Nat) {H : Heap} {locs : List Loc} (hP : va_P g vwCl [(h1x, .inr (10, [x2x, x3x, x4x, .ref h5x, x6x, .ref h7x, .ref h8x, x9x, x10x, x11x, x12x, x13x, x14x, x15x, x16x, x17x])), (h5x, .inr (8, [.ref h18x, x19x, x20x, x21x, x22x, x23x, x24x, x25x, x26x, x27x, x28x, x29x])), (h18x, .inl (aC 0, 5, .inl (fun _ => 0))), (h7x, .inr (6, [.int 0, .ref h30x, .ref h31x, .int 0, .int 0, .int 0])), (h30x, .inl (aC 0, 5, .inl (fun _ => 0))), (h31x, .inl (aC 0, 4, .inl (fun _ => 0))), (h8x, .inr (6, [.int 0, .ref h32x, .ref h33x, .int 0, .int 0, .int 0])), (h32x, .inl (aC 0, 5, .inl (fun _ => 0))), (h33x, .inl (aC 0, 4, .inl (fun _ => 0))), (h1m, .inr (11, [.int 0, x2m, x3m, x4m, x5m, x6m, x7m, x8m, x9m, x10m, .ref h11m, x12m, x13m, x14m, x15m, x16m, x17m, x18m, x19m, x20m, x21m, x22m, x23m, x24m, x25m, x26m, x27m, x28m, x29m, x30m, x31m, x32m, x33m, x34m, x35m, x36m, x37m, x38m, x39m, x40m, x41m, x42m, x43m, x44m, x45m, x46m, x47m, x48m, x49m, x50m, x51m, x52m, x53m, x54m, x55m, x56m, x57m, x58m, x59m, x60m, x61m, x62m, x63m, x64m, x65m, x66m, x67m, x68m, x69m, x70m, x71m, x72m, x73m, x74m])), (h11m, .inl (aC 0, 14, .inl (fun _ => 0)))] H) (hD : va_D A [(h1x, .inr (10, [x2x, x3x, x4x, .ref h5x, x6x, .ref h7x, .ref h8x, x9x, x10x, x11x, x12x, x13x, x14x, x15x, x16x, x17x])), (h5x, .inr (8, [.ref h18x, x19x, x20x, x21x, x22x, x23x, x24x, x25x, x26x, x27x, x28x, x29x])), (h18x, .inl (aC 0, 5, .inl (fun _ => 0))), (h7x, .inr (6, [.int 0, .ref h30x, .ref h31x, .int 0, .int 0, .int 0])), (h30x, .inl (aC 0, 5, .inl (fun _ => 0))), (h31x, .inl (aC 0, 4, .inl (fun _ => 0))), (h8x, .inr (6, [.int 0, .ref h32x, .ref h33x, .int 0, .int 0, .int 0])), (h32x, .inl (aC 0, 5, .inl (fun _ => 0))), (h33x, .inl (aC 0, 4, .inl (fun _ => 0))), (h1m, .inr (11, [.int 0, x2m, x3m, x4m, x5m, x6m, x7m, x8m, x9m, x10m, .ref h11m, x12m, x13m, x14m, x15m, x16m, x17m, x18m, x19m, x20m, x21m, x22m, x23m, x24m, x25m, x26m, x27m, x28m, x29m, x30m, x31m, x32m, x33m, x34m, x35m, x36m, x37m, x38m, x39m, x40m, x41m, x42m, x43m, x44m, x45m, x46m, x47m, x48m, x49m, x50m, x51m, x52m, x53m, x54m, x55m, x56m, x57m, x58m, x59m, x60m, x61m, x62m, x63m, x64m, x65m, x66m, x67m, x68m, x69m, x70m, x71m, x72m, x73m, x74m])), (h11m, .inl (aC 0, 14, .inl (fun _ => 0)))]) (hS : va_S A s.heap H locs) (ls : Array Slot) (hl : lv_has ls 7 [(4, .int 0), (3, .ref ho), (2, .ref h1m), (1, .ref h1x), (0, .ref b)]) : W p l e room_1 s m #[Value.ref b] below meth c H locs 700 60000 (lw_Z below #[Value.ref b] s) (F0 m 573 ls []) := by
  obtain ⟨hx, hb, hml, hown, hts, hK, hA, hM, hM2⟩ := id F
  refine lv_aload_n hx hb dL_law_573 rfl (lv_at hl 3 rfl) ?_
  refine lv_aload_n hx hb dL_law_574 rfl (lv_at hl 4 rfl) ?_
  refine lv_iload hx hb dL_law_575 (lv_at hl 0 rfl) ?_
  refine lv_iconst (v := 1) hx hb dL_law_577 (by decide) ?_
  refine lv_iadd hx hb dL_law_578 ?_
  refine relit (v := 1) (by decide +kernel) ?_
  refine va_sld hx hb hX hbl hbA hS (vpin (j := 1) (by decide +kernel) (by decide +kernel) (by decide)) dL_law_579 ?_
  refine relit (v := xs 1) (by rw [show ((1 : Int32).toNatClampNeg) = 1 from by decide +kernel]) ?_
  refine lv_aload_n hx hb dL_law_580 rfl (lv_at hl 4 rfl) ?_
  refine lv_iload hx hb dL_law_581 (lv_at hl 0 rfl) ?_
  refine lv_iconst (v := 2) hx hb dL_law_583 (by decide) ?_
  refine lv_iadd hx hb dL_law_584 ?_
  refine relit (v := 2) (by decide +kernel) ?_
  refine va_sld hx hb hX hbl hbA hS (vpin (j := 2) (by decide +kernel) (by decide +kernel) (by decide)) dL_law_585 ?_
  refine relit (v := xs 2) (by rw [show ((2 : Int32).toNatClampNeg) = 2 from by decide +kernel]) ?_
  refine goI (wr := [(h1m, .inr (11, [.int 0, x2m, x3m, x4m, x5m, x6m, x7m, x8m, x9m, x10m, .ref h11m, x12m, x13m, x14m, x15m, x16m, x17m, x18m, x19m, x20m, x21m, x22m, x23m, x24m, x25m, x26m, x27m, x28m, x29m, x30m, x31m, x32m, x33m, x34m, x35m, x36m, x37m, x38m, x39m, x40m, x41m, x42m, x43m, x44m, x45m, x46m, x47m, x48m, x49m, x50m, x51m, x52m, x53m, x54m, x55m, x56m, x57m, x58m, x59m, x60m, x61m, x62m, x63m, x64m, x65m, x66m, x67m, x68m, x69m, x70m, x71m, x72m, x73m, x74m])), (h11m, .inl (aC 0, 14, .inl (fun _ => 0)))]) (runV (n := 2) (As := [.int (xs 1), .int (xs 2)]) (rest := []) F hP hD hS (x_go l g aC aM h1x h5x h7x h8x h18x h30x h31x h32x h33x x2x x3x x4x x6x x9x x10x x11x x12x x13x x14x x15x x16x x17x x19x x20x x21x x22x x23x x24x x25x x26x x27x x28x x29x (xs 1) (xs 2)) [0, 1, 2, 3, 4, 5, 6, 7, 8] (by decide) rfl 0 10 rfl rfl rfl tb884 tb881 tb882 tb883 tb1 ⟨by decide, by decide, by decide +kernel⟩ ⟨Nat.le_of_ble_eq_true rfl, Nat.le_of_ble_eq_true rfl⟩ rfl hl.1 rfl (Nat.le_of_ble_eq_true rfl) dL_law_586 ⟨Nat.le_of_ble_eq_true rfl, Nat.le_of_ble_eq_true rfl⟩) hP hD hS hA [0, 1, 2, 3, 4, 5, 6, 7, 8] [9, 10] rfl rfl (by decide) (by decide) (fun r_2 w3 H locs hw hP hD hS => ?_)
  have hP : va_P g vwCl [(h1m, .inr (11, [.int 0, x2m, x3m, x4m, x5m, x6m, x7m, x8m, x9m, x10m, .ref h11m, x12m, x13m, x14m, x15m, x16m, x17m, x18m, x19m, x20m, x21m, x22m, x23m, x24m, x25m, x26m, x27m, x28m, x29m, x30m, x31m, x32m, x33m, x34m, x35m, x36m, x37m, x38m, x39m, x40m, x41m, x42m, x43m, x44m, x45m, x46m, x47m, x48m, x49m, x50m, x51m, x52m, x53m, x54m, x55m, x56m, x57m, x58m, x59m, x60m, x61m, x62m, x63m, x64m, x65m, x66m, x67m, x68m, x69m, x70m, x71m, x72m, x73m, x74m])), (h11m, .inl (aC 0, 14, .inl (fun _ => 0)))] H := hP
  have hD : va_D A [(h1m, .inr (11, [.int 0, x2m, x3m, x4m, x5m, x6m, x7m, x8m, x9m, x10m, .ref h11m, x12m, x13m, x14m, x15m, x16m, x17m, x18m, x19m, x20m, x21m, x22m, x23m, x24m, x25m, x26m, x27m, x28m, x29m, x30m, x31m, x32m, x33m, x34m, x35m, x36m, x37m, x38m, x39m, x40m, x41m, x42m, x43m, x44m, x45m, x46m, x47m, x48m, x49m, x50m, x51m, x52m, x53m, x54m, x55m, x56m, x57m, x58m, x59m, x60m, x61m, x62m, x63m, x64m, x65m, x66m, x67m, x68m, x69m, x70m, x71m, x72m, x73m, x74m])), (h11m, .inl (aC 0, 14, .inl (fun _ => 0)))] := hD
  try dsimp only at hw
  subst hw
  refine lv_aload_n hx hb dL_law_589 rfl (lv_at hl 2 rfl) ?_
  refine lv_aload_n hx hb dL_law_590 rfl (lv_at hl 4 rfl) ?_
  refine lv_iload hx hb dL_law_591 (lv_at hl 0 rfl) ?_
  refine lv_iconst (v := 1) hx hb dL_law_593 (by decide) ?_
  refine lv_iadd hx hb dL_law_594 ?_
  refine relit (v := 1) (by decide +kernel) ?_
  refine va_sld hx hb hX hbl hbA hS (vpin (j := 1) (by decide +kernel) (by decide +kernel) (by decide)) dL_law_595 ?_
  refine relit (v := xs 1) (by rw [show ((1 : Int32).toNatClampNeg) = 1 from by decide +kernel]) ?_
  refine lv_aload_n hx hb dL_law_596 rfl (lv_at hl 4 rfl) ?_
  refine lv_iload hx hb dL_law_597 (lv_at hl 0 rfl) ?_
  refine lv_iconst (v := 2) hx hb dL_law_599 (by decide) ?_
  refine lv_iadd hx hb dL_law_600 ?_
  refine relit (v := 2) (by decide +kernel) ?_
  refine va_sld hx hb hX hbl hbA hS (vpin (j := 2) (by decide +kernel) (by decide +kernel) (by decide)) dL_law_601 ?_
  refine relit (v := xs 2) (by rw [show ((2 : Int32).toNatClampNeg) = 2 from by decide +kernel]) ?_
  refine goI (wr := []) (runV (n := 2) (As := [.int (xs 1), .int (xs 2)]) (rest := [.int 0]) F hP hD hS (m_go l g aC aM h1m h11m x2m x3m x4m x5m x6m x7m x8m x9m x10m x12m x13m x14m x15m x16m x17m x18m x19m x20m x21m x22m x23m x24m x25m x26m x27m x28m x29m x30m x31m x32m x33m x34m x35m x36m x37m x38m x39m x40m x41m x42m x43m x44m x45m x46m x47m x48m x49m x50m x51m x52m x53m x54m x55m x56m x57m x58m x59m x60m x61m x62m x63m x64m x65m x66m x67m x68m x69m x70m x71m x72m x73m x74m (xs 1) (xs 2)) [0, 1] (by decide) rfl 0 11 rfl rfl rfl tb1746 tb1743 tb1744 tb1745 tb17 ⟨by decide, by decide, by decide +kernel⟩ ⟨Nat.le_of_ble_eq_true rfl, Nat.le_of_ble_eq_true rfl⟩ rfl hl.1 rfl (Nat.le_of_ble_eq_true rfl) dL_law_602 ⟨Nat.le_of_ble_eq_true rfl, Nat.le_of_ble_eq_true rfl⟩) hP hD hS hA [0, 1] [] rfl rfl (by decide) (by decide) (fun r_5 w6 H locs hw hP hD hS => ?_)
  have hP : va_P g vwCl [] H := hP
  have hD : va_D A [] := hD
  try dsimp only at hw
  subst hw
  refine lv_icmp_eq (tgt := 1279) hx hb dL_law_605 (by decide) (fun _ => ?_) (fun c_ => absurd (by decide +kernel) c_)
  exact law_end F hr hlocks hX hbl hbA hAs hS (Nat.le_of_ble_eq_true rfl) (Nat.le_of_ble_eq_true rfl) _ (lv_sub hl [0, 4] rfl)

theorem tb890 : (Jvm.Cond.methodLink "StairGangLaw" (74 : Nat) ({ cls := "StairGang", name := "carry", desc := "(III)Z" } : Jvm.MethodName)) ∈ gw := lw_m 890 (by decide +kernel)
theorem tb891 : (Jvm.Cond.instanceMethod ({ cls := "StairGang", name := "carry", desc := "(III)Z" } : Jvm.MethodName)) ∈ gw := lw_m 891 (by decide +kernel)
theorem tb892 : (Jvm.Cond.selects "StairGang" ({ cls := "StairGang", name := "carry", desc := "(III)Z" } : Jvm.MethodName) ({ cls := "StairGang", name := "carry", desc := "(III)Z" } : Jvm.MethodName)) ∈ gw := lw_m 892 (by decide +kernel)
theorem tb893 : (Jvm.Cond.code ({ cls := "StairGang", name := "carry", desc := "(III)Z" } : Jvm.MethodName) prog_1_method_14_code (5 : Nat) (Option.some Jvm.ClassFile.FieldType.boolean)) ∈ gw := lw_m 893 (by decide +kernel)
theorem tb1751 : (Jvm.Cond.methodLink "StairGangLaw" (78 : Nat) ({ cls := "StairGangModel", name := "carry", desc := "(III)Z" } : Jvm.MethodName)) ∈ gw := lw_m 1751 (by decide +kernel)
theorem tb1752 : (Jvm.Cond.instanceMethod ({ cls := "StairGangModel", name := "carry", desc := "(III)Z" } : Jvm.MethodName)) ∈ gw := lw_m 1752 (by decide +kernel)
theorem tb1753 : (Jvm.Cond.selects "StairGangModel" ({ cls := "StairGangModel", name := "carry", desc := "(III)Z" } : Jvm.MethodName) ({ cls := "StairGangModel", name := "carry", desc := "(III)Z" } : Jvm.MethodName)) ∈ gw := lw_m 1753 (by decide +kernel)
theorem tb1754 : (Jvm.Cond.code ({ cls := "StairGangModel", name := "carry", desc := "(III)Z" } : Jvm.MethodName) prog_13_method_87_code (4 : Nat) (Option.some Jvm.ClassFile.FieldType.boolean)) ∈ gw := lw_m 1754 (by decide +kernel)
theorem dL_law_610 : decode cL_law 610 = .ok (.aload_n 1, 1) := by decide +kernel
theorem dL_law_611 : decode cL_law 611 = .ok (.aload_n 0, 1) := by decide +kernel
theorem dL_law_612 : decode cL_law 612 = .ok (.iload 4, 2) := by decide +kernel
theorem dL_law_614 : decode cL_law 614 = .ok (.iconst 1, 1) := by decide +kernel
theorem dL_law_615 : decode cL_law 615 = .ok (.iadd, 1) := by decide +kernel
theorem dL_law_616 : decode cL_law 616 = .ok (.iaload, 1) := by decide +kernel
theorem dL_law_617 : decode cL_law 617 = .ok (.aload_n 0, 1) := by decide +kernel
theorem dL_law_618 : decode cL_law 618 = .ok (.iload 4, 2) := by decide +kernel
theorem dL_law_620 : decode cL_law 620 = .ok (.iconst 2, 1) := by decide +kernel
theorem dL_law_621 : decode cL_law 621 = .ok (.iadd, 1) := by decide +kernel
theorem dL_law_622 : decode cL_law 622 = .ok (.iaload, 1) := by decide +kernel
theorem dL_law_623 : decode cL_law 623 = .ok (.aload_n 0, 1) := by decide +kernel
theorem dL_law_624 : decode cL_law 624 = .ok (.iload 4, 2) := by decide +kernel
theorem dL_law_626 : decode cL_law 626 = .ok (.iconst 3, 1) := by decide +kernel
theorem dL_law_627 : decode cL_law 627 = .ok (.iadd, 1) := by decide +kernel
theorem dL_law_628 : decode cL_law 628 = .ok (.iaload, 1) := by decide +kernel
theorem dL_law_629 : decode cL_law 629 = .ok (.invokevirtual 74, 3) := by decide +kernel
theorem dL_law_632 : decode cL_law 632 = .ok (.aload_n 2, 1) := by decide +kernel
theorem dL_law_633 : decode cL_law 633 = .ok (.aload_n 0, 1) := by decide +kernel
theorem dL_law_634 : decode cL_law 634 = .ok (.iload 4, 2) := by decide +kernel
theorem dL_law_636 : decode cL_law 636 = .ok (.iconst 1, 1) := by decide +kernel
theorem dL_law_637 : decode cL_law 637 = .ok (.iadd, 1) := by decide +kernel
theorem dL_law_638 : decode cL_law 638 = .ok (.iaload, 1) := by decide +kernel
theorem dL_law_639 : decode cL_law 639 = .ok (.aload_n 0, 1) := by decide +kernel
theorem dL_law_640 : decode cL_law 640 = .ok (.iload 4, 2) := by decide +kernel
theorem dL_law_642 : decode cL_law 642 = .ok (.iconst 2, 1) := by decide +kernel
theorem dL_law_643 : decode cL_law 643 = .ok (.iadd, 1) := by decide +kernel
theorem dL_law_644 : decode cL_law 644 = .ok (.iaload, 1) := by decide +kernel
theorem dL_law_645 : decode cL_law 645 = .ok (.aload_n 0, 1) := by decide +kernel
theorem dL_law_646 : decode cL_law 646 = .ok (.iload 4, 2) := by decide +kernel
theorem dL_law_648 : decode cL_law 648 = .ok (.iconst 3, 1) := by decide +kernel
theorem dL_law_649 : decode cL_law 649 = .ok (.iadd, 1) := by decide +kernel
theorem dL_law_650 : decode cL_law 650 = .ok (.iaload, 1) := by decide +kernel
theorem dL_law_651 : decode cL_law 651 = .ok (.invokevirtual 78, 3) := by decide +kernel
theorem dL_law_654 : decode cL_law 654 = .ok (.if_icmp .eq 625, 3) := by decide +kernel
set_option maxHeartbeats 4000000 in
set_option maxRecDepth 100000 in
theorem lc_carry {p : Program} {l : Launch} {e : Env} {s : State} {m : MethodId} {below : List Frame} {meth : Method} {c : Code} {g : va_G} {aC : Nat → ClassId} {aM : Nat → Nat} {A : Nat → Prop} {b : Nat} {xs : Nat → Int32} (F : Fx p s m #[Value.ref b] c code 7 RL g aC aM A) (hr : meth.sig.returnType = ret) (hlocks : meth.locks = false) (hX : va_X b 7 xs s s.heap) (hbl : b < s.heap.size) (hbA : ¬ A b) (hAs : ∀ q, A q → s.heap.size ≤ q) (h1x h5x h7x h8x h18x h30x h31x h32x h33x : Nat) (x2x x3x x4x x6x x9x x10x x11x x12x x13x x14x x15x x16x x17x x19x x20x x21x x22x x23x x24x x25x x26x x27x x28x x29x : Value) (h1m h11m : Nat) (x2m x3m x4m x5m x6m x7m x8m x9m x10m x12m x13m x14m x15m x16m x17m x18m x19m x20m x21m x22m x23m x24m x25m x26m x27m x28m x29m x30m x31m x32m x33m x34m x35m x36m x37m x38m x39m x40m x41m x42m x43m x44m x45m x46m x47m x48m x49m x50m x51m x52m x53m x54m x55m x56m x57m x58m x59m x60m x61m x62m x63m x64m x65m x66m x67m x68m x69m x70m x71m x72m x73m x74m : Value) (ho : Nat) {H : Heap} {locs : List Loc} (hP : va_P g vwCl [(h1x, .inr (10, [x2x, x3x, x4x, .ref h5x, x6x, .ref h7x, .ref h8x, x9x, x10x, x11x, x12x, x13x, x14x, x15x, x16x, x17x])), (h5x, .inr (8, [.ref h18x, x19x, x20x, x21x, x22x, x23x, x24x, x25x, x26x, x27x, x28x, x29x])), (h18x, .inl (aC 0, 5, .inl (fun _ => 0))), (h7x, .inr (6, [.int 0, .ref h30x, .ref h31x, .int 0, .int 0, .int 0])), (h30x, .inl (aC 0, 5, .inl (fun _ => 0))), (h31x, .inl (aC 0, 4, .inl (fun _ => 0))), (h8x, .inr (6, [.int 0, .ref h32x, .ref h33x, .int 0, .int 0, .int 0])), (h32x, .inl (aC 0, 5, .inl (fun _ => 0))), (h33x, .inl (aC 0, 4, .inl (fun _ => 0))), (h1m, .inr (11, [.int 0, x2m, x3m, x4m, x5m, x6m, x7m, x8m, x9m, x10m, .ref h11m, x12m, x13m, x14m, x15m, x16m, x17m, x18m, x19m, x20m, x21m, x22m, x23m, x24m, x25m, x26m, x27m, x28m, x29m, x30m, x31m, x32m, x33m, x34m, x35m, x36m, x37m, x38m, x39m, x40m, x41m, x42m, x43m, x44m, x45m, x46m, x47m, x48m, x49m, x50m, x51m, x52m, x53m, x54m, x55m, x56m, x57m, x58m, x59m, x60m, x61m, x62m, x63m, x64m, x65m, x66m, x67m, x68m, x69m, x70m, x71m, x72m, x73m, x74m])), (h11m, .inl (aC 0, 14, .inl (fun _ => 0)))] H) (hD : va_D A [(h1x, .inr (10, [x2x, x3x, x4x, .ref h5x, x6x, .ref h7x, .ref h8x, x9x, x10x, x11x, x12x, x13x, x14x, x15x, x16x, x17x])), (h5x, .inr (8, [.ref h18x, x19x, x20x, x21x, x22x, x23x, x24x, x25x, x26x, x27x, x28x, x29x])), (h18x, .inl (aC 0, 5, .inl (fun _ => 0))), (h7x, .inr (6, [.int 0, .ref h30x, .ref h31x, .int 0, .int 0, .int 0])), (h30x, .inl (aC 0, 5, .inl (fun _ => 0))), (h31x, .inl (aC 0, 4, .inl (fun _ => 0))), (h8x, .inr (6, [.int 0, .ref h32x, .ref h33x, .int 0, .int 0, .int 0])), (h32x, .inl (aC 0, 5, .inl (fun _ => 0))), (h33x, .inl (aC 0, 4, .inl (fun _ => 0))), (h1m, .inr (11, [.int 0, x2m, x3m, x4m, x5m, x6m, x7m, x8m, x9m, x10m, .ref h11m, x12m, x13m, x14m, x15m, x16m, x17m, x18m, x19m, x20m, x21m, x22m, x23m, x24m, x25m, x26m, x27m, x28m, x29m, x30m, x31m, x32m, x33m, x34m, x35m, x36m, x37m, x38m, x39m, x40m, x41m, x42m, x43m, x44m, x45m, x46m, x47m, x48m, x49m, x50m, x51m, x52m, x53m, x54m, x55m, x56m, x57m, x58m, x59m, x60m, x61m, x62m, x63m, x64m, x65m, x66m, x67m, x68m, x69m, x70m, x71m, x72m, x73m, x74m])), (h11m, .inl (aC 0, 14, .inl (fun _ => 0)))]) (hS : va_S A s.heap H locs) (ls : Array Slot) (hl : lv_has ls 7 [(4, .int 0), (3, .ref ho), (2, .ref h1m), (1, .ref h1x), (0, .ref b)]) : W p l e room_1 s m #[Value.ref b] below meth c H locs 700 60000 (lw_Z below #[Value.ref b] s) (F0 m 610 ls []) := by
  obtain ⟨hx, hb, hml, hown, hts, hK, hA, hM, hM2⟩ := id F
  refine lv_aload_n hx hb dL_law_610 rfl (lv_at hl 3 rfl) ?_
  refine lv_aload_n hx hb dL_law_611 rfl (lv_at hl 4 rfl) ?_
  refine lv_iload hx hb dL_law_612 (lv_at hl 0 rfl) ?_
  refine lv_iconst (v := 1) hx hb dL_law_614 (by decide) ?_
  refine lv_iadd hx hb dL_law_615 ?_
  refine relit (v := 1) (by decide +kernel) ?_
  refine va_sld hx hb hX hbl hbA hS (vpin (j := 1) (by decide +kernel) (by decide +kernel) (by decide)) dL_law_616 ?_
  refine relit (v := xs 1) (by rw [show ((1 : Int32).toNatClampNeg) = 1 from by decide +kernel]) ?_
  refine lv_aload_n hx hb dL_law_617 rfl (lv_at hl 4 rfl) ?_
  refine lv_iload hx hb dL_law_618 (lv_at hl 0 rfl) ?_
  refine lv_iconst (v := 2) hx hb dL_law_620 (by decide) ?_
  refine lv_iadd hx hb dL_law_621 ?_
  refine relit (v := 2) (by decide +kernel) ?_
  refine va_sld hx hb hX hbl hbA hS (vpin (j := 2) (by decide +kernel) (by decide +kernel) (by decide)) dL_law_622 ?_
  refine relit (v := xs 2) (by rw [show ((2 : Int32).toNatClampNeg) = 2 from by decide +kernel]) ?_
  refine lv_aload_n hx hb dL_law_623 rfl (lv_at hl 4 rfl) ?_
  refine lv_iload hx hb dL_law_624 (lv_at hl 0 rfl) ?_
  refine lv_iconst (v := 3) hx hb dL_law_626 (by decide) ?_
  refine lv_iadd hx hb dL_law_627 ?_
  refine relit (v := 3) (by decide +kernel) ?_
  refine va_sld hx hb hX hbl hbA hS (vpin (j := 3) (by decide +kernel) (by decide +kernel) (by decide)) dL_law_628 ?_
  refine relit (v := xs 3) (by rw [show ((3 : Int32).toNatClampNeg) = 3 from by decide +kernel]) ?_
  refine goI (wr := [(h1m, .inr (11, [.int 0, x2m, x3m, x4m, x5m, x6m, x7m, x8m, x9m, x10m, .ref h11m, x12m, x13m, x14m, x15m, x16m, x17m, x18m, x19m, x20m, x21m, x22m, x23m, x24m, x25m, x26m, x27m, x28m, x29m, x30m, x31m, x32m, x33m, x34m, x35m, x36m, x37m, x38m, x39m, x40m, x41m, x42m, x43m, x44m, x45m, x46m, x47m, x48m, x49m, x50m, x51m, x52m, x53m, x54m, x55m, x56m, x57m, x58m, x59m, x60m, x61m, x62m, x63m, x64m, x65m, x66m, x67m, x68m, x69m, x70m, x71m, x72m, x73m, x74m])), (h11m, .inl (aC 0, 14, .inl (fun _ => 0)))]) (runV (n := 3) (As := [.int (xs 1), .int (xs 2), .int (xs 3)]) (rest := []) F hP hD hS (x_carry l g aC aM h1x h5x h7x h8x h18x h30x h31x h32x h33x x2x x3x x4x x6x x9x x10x x11x x12x x13x x14x x15x x16x x17x x19x x20x x21x x22x x23x x24x x25x x26x x27x x28x x29x (xs 1) (xs 2) (xs 3)) [0, 1, 2, 3, 4, 5, 6, 7, 8] (by decide) rfl 0 10 rfl rfl rfl tb893 tb890 tb891 tb892 tb1 ⟨by decide, by decide, by decide +kernel⟩ ⟨Nat.le_of_ble_eq_true rfl, Nat.le_of_ble_eq_true rfl⟩ rfl hl.1 rfl (Nat.le_of_ble_eq_true rfl) dL_law_629 ⟨Nat.le_of_ble_eq_true rfl, Nat.le_of_ble_eq_true rfl⟩) hP hD hS hA [0, 1, 2, 3, 4, 5, 6, 7, 8] [9, 10] rfl rfl (by decide) (by decide) (fun r_2 w3 H locs hw hP hD hS => ?_)
  have hP : va_P g vwCl [(h1m, .inr (11, [.int 0, x2m, x3m, x4m, x5m, x6m, x7m, x8m, x9m, x10m, .ref h11m, x12m, x13m, x14m, x15m, x16m, x17m, x18m, x19m, x20m, x21m, x22m, x23m, x24m, x25m, x26m, x27m, x28m, x29m, x30m, x31m, x32m, x33m, x34m, x35m, x36m, x37m, x38m, x39m, x40m, x41m, x42m, x43m, x44m, x45m, x46m, x47m, x48m, x49m, x50m, x51m, x52m, x53m, x54m, x55m, x56m, x57m, x58m, x59m, x60m, x61m, x62m, x63m, x64m, x65m, x66m, x67m, x68m, x69m, x70m, x71m, x72m, x73m, x74m])), (h11m, .inl (aC 0, 14, .inl (fun _ => 0)))] H := hP
  have hD : va_D A [(h1m, .inr (11, [.int 0, x2m, x3m, x4m, x5m, x6m, x7m, x8m, x9m, x10m, .ref h11m, x12m, x13m, x14m, x15m, x16m, x17m, x18m, x19m, x20m, x21m, x22m, x23m, x24m, x25m, x26m, x27m, x28m, x29m, x30m, x31m, x32m, x33m, x34m, x35m, x36m, x37m, x38m, x39m, x40m, x41m, x42m, x43m, x44m, x45m, x46m, x47m, x48m, x49m, x50m, x51m, x52m, x53m, x54m, x55m, x56m, x57m, x58m, x59m, x60m, x61m, x62m, x63m, x64m, x65m, x66m, x67m, x68m, x69m, x70m, x71m, x72m, x73m, x74m])), (h11m, .inl (aC 0, 14, .inl (fun _ => 0)))] := hD
  try dsimp only at hw
  subst hw
  refine lv_aload_n hx hb dL_law_632 rfl (lv_at hl 2 rfl) ?_
  refine lv_aload_n hx hb dL_law_633 rfl (lv_at hl 4 rfl) ?_
  refine lv_iload hx hb dL_law_634 (lv_at hl 0 rfl) ?_
  refine lv_iconst (v := 1) hx hb dL_law_636 (by decide) ?_
  refine lv_iadd hx hb dL_law_637 ?_
  refine relit (v := 1) (by decide +kernel) ?_
  refine va_sld hx hb hX hbl hbA hS (vpin (j := 1) (by decide +kernel) (by decide +kernel) (by decide)) dL_law_638 ?_
  refine relit (v := xs 1) (by rw [show ((1 : Int32).toNatClampNeg) = 1 from by decide +kernel]) ?_
  refine lv_aload_n hx hb dL_law_639 rfl (lv_at hl 4 rfl) ?_
  refine lv_iload hx hb dL_law_640 (lv_at hl 0 rfl) ?_
  refine lv_iconst (v := 2) hx hb dL_law_642 (by decide) ?_
  refine lv_iadd hx hb dL_law_643 ?_
  refine relit (v := 2) (by decide +kernel) ?_
  refine va_sld hx hb hX hbl hbA hS (vpin (j := 2) (by decide +kernel) (by decide +kernel) (by decide)) dL_law_644 ?_
  refine relit (v := xs 2) (by rw [show ((2 : Int32).toNatClampNeg) = 2 from by decide +kernel]) ?_
  refine lv_aload_n hx hb dL_law_645 rfl (lv_at hl 4 rfl) ?_
  refine lv_iload hx hb dL_law_646 (lv_at hl 0 rfl) ?_
  refine lv_iconst (v := 3) hx hb dL_law_648 (by decide) ?_
  refine lv_iadd hx hb dL_law_649 ?_
  refine relit (v := 3) (by decide +kernel) ?_
  refine va_sld hx hb hX hbl hbA hS (vpin (j := 3) (by decide +kernel) (by decide +kernel) (by decide)) dL_law_650 ?_
  refine relit (v := xs 3) (by rw [show ((3 : Int32).toNatClampNeg) = 3 from by decide +kernel]) ?_
  refine goI (wr := []) (runV (n := 3) (As := [.int (xs 1), .int (xs 2), .int (xs 3)]) (rest := [.int 0]) F hP hD hS (m_carry l g aC aM h1m h11m x2m x3m x4m x5m x6m x7m x8m x9m x10m x12m x13m x14m x15m x16m x17m x18m x19m x20m x21m x22m x23m x24m x25m x26m x27m x28m x29m x30m x31m x32m x33m x34m x35m x36m x37m x38m x39m x40m x41m x42m x43m x44m x45m x46m x47m x48m x49m x50m x51m x52m x53m x54m x55m x56m x57m x58m x59m x60m x61m x62m x63m x64m x65m x66m x67m x68m x69m x70m x71m x72m x73m x74m (xs 1) (xs 2) (xs 3)) [0, 1] (by decide) rfl 0 11 rfl rfl rfl tb1754 tb1751 tb1752 tb1753 tb17 ⟨by decide, by decide, by decide +kernel⟩ ⟨Nat.le_of_ble_eq_true rfl, Nat.le_of_ble_eq_true rfl⟩ rfl hl.1 rfl (Nat.le_of_ble_eq_true rfl) dL_law_651 ⟨Nat.le_of_ble_eq_true rfl, Nat.le_of_ble_eq_true rfl⟩) hP hD hS hA [0, 1] [] rfl rfl (by decide) (by decide) (fun r_5 w6 H locs hw hP hD hS => ?_)
  have hP : va_P g vwCl [] H := hP
  have hD : va_D A [] := hD
  try dsimp only at hw
  subst hw
  refine lv_icmp_eq (tgt := 1279) hx hb dL_law_654 (by decide) (fun _ => ?_) (fun c_ => absurd (by decide +kernel) c_)
  exact law_end F hr hlocks hX hbl hbA hAs hS (Nat.le_of_ble_eq_true rfl) (Nat.le_of_ble_eq_true rfl) _ (lv_sub hl [0, 4] rfl)

theorem tb898 : (Jvm.Cond.methodLink "StairGangLaw" (79 : Nat) ({ cls := "StairGang", name := "night", desc := "()I" } : Jvm.MethodName)) ∈ gw := lw_m 898 (by decide +kernel)
theorem tb899 : (Jvm.Cond.instanceMethod ({ cls := "StairGang", name := "night", desc := "()I" } : Jvm.MethodName)) ∈ gw := lw_m 899 (by decide +kernel)
theorem tb900 : (Jvm.Cond.selects "StairGang" ({ cls := "StairGang", name := "night", desc := "()I" } : Jvm.MethodName) ({ cls := "StairGang", name := "night", desc := "()I" } : Jvm.MethodName)) ∈ gw := lw_m 900 (by decide +kernel)
theorem tb901 : (Jvm.Cond.code ({ cls := "StairGang", name := "night", desc := "()I" } : Jvm.MethodName) prog_1_method_15_code (1 : Nat) (Option.some Jvm.ClassFile.FieldType.int)) ∈ gw := lw_m 901 (by decide +kernel)
theorem tb1763 : (Jvm.Cond.methodLink "StairGangLaw" (82 : Nat) ({ cls := "StairGangModel", name := "night", desc := "()I" } : Jvm.MethodName)) ∈ gw := lw_m 1763 (by decide +kernel)
theorem tb1764 : (Jvm.Cond.instanceMethod ({ cls := "StairGangModel", name := "night", desc := "()I" } : Jvm.MethodName)) ∈ gw := lw_m 1764 (by decide +kernel)
theorem tb1765 : (Jvm.Cond.selects "StairGangModel" ({ cls := "StairGangModel", name := "night", desc := "()I" } : Jvm.MethodName) ({ cls := "StairGangModel", name := "night", desc := "()I" } : Jvm.MethodName)) ∈ gw := lw_m 1765 (by decide +kernel)
theorem tb1766 : (Jvm.Cond.code ({ cls := "StairGangModel", name := "night", desc := "()I" } : Jvm.MethodName) prog_13_method_88_code (1 : Nat) (Option.some Jvm.ClassFile.FieldType.int)) ∈ gw := lw_m 1766 (by decide +kernel)
theorem dL_law_659 : decode cL_law 659 = .ok (.aload_n 1, 1) := by decide +kernel
theorem dL_law_660 : decode cL_law 660 = .ok (.invokevirtual 79, 3) := by decide +kernel
theorem dL_law_663 : decode cL_law 663 = .ok (.aload_n 2, 1) := by decide +kernel
theorem dL_law_664 : decode cL_law 664 = .ok (.invokevirtual 82, 3) := by decide +kernel
theorem dL_law_667 : decode cL_law 667 = .ok (.if_icmp .eq 612, 3) := by decide +kernel
set_option maxHeartbeats 4000000 in
set_option maxRecDepth 100000 in
theorem lc_night {p : Program} {l : Launch} {e : Env} {s : State} {m : MethodId} {below : List Frame} {meth : Method} {c : Code} {g : va_G} {aC : Nat → ClassId} {aM : Nat → Nat} {A : Nat → Prop} {b : Nat} {xs : Nat → Int32} (F : Fx p s m #[Value.ref b] c code 7 RL g aC aM A) (hr : meth.sig.returnType = ret) (hlocks : meth.locks = false) (hX : va_X b 7 xs s s.heap) (hbl : b < s.heap.size) (hbA : ¬ A b) (hAs : ∀ q, A q → s.heap.size ≤ q) (h1x h7x h10x h18x h19x h20x h22x h23x h24x : Nat) (x2x x3x x4x x5x x6x x8x x9x x11x x12x x13x x14x x15x x16x x17x : Value) (F21x : Nat → Option Nat) (h1m h56m h59m : Nat) (x2m x3m x4m x5m x6m x7m x8m x9m x10m x11m x12m x13m x14m x15m x16m x17m x18m x19m x20m x21m x22m x23m x24m x25m x26m x27m x28m x29m x30m x31m x32m x33m x34m x35m x36m x37m x38m x39m x40m x41m x42m x43m x44m x45m x46m x47m x48m x49m x50m x51m x52m x53m x54m x55m x57m x58m x60m x61m x62m x63m x64m x65m x66m x67m x68m x69m x70m x71m x72m x73m : Value) (hg1x : F21x 0 = some h22x) (ho : Nat) {H : Heap} {locs : List Loc} (hP : va_P g vwCl [(h1x, .inr (10, [x2x, x3x, x4x, x5x, x6x, .ref h7x, x8x, x9x, .ref h10x, x11x, x12x, x13x, x14x, x15x, x16x, x17x])), (h7x, .inr (6, [.int 0, .ref h18x, .ref h19x, .int 0, .int 0, .int 0])), (h18x, .inl (aC 0, 5, .inl (fun _ => 0))), (h19x, .inl (aC 0, 4, .inl (fun _ => 0))), (h10x, .inr (1, [.int 0, .int 0, .ref h20x])), (h20x, .inl (aC 4, 16, .inr (.inr (.inr (.inr F21x))))), (h22x, .inr (6, [.int 0, .ref h23x, .ref h24x, .int 0, .int 0, .int 0])), (h23x, .inl (aC 0, 5, .inl (fun _ => 0))), (h24x, .inl (aC 0, 4, .inl (fun _ => 0))), (h1m, .inr (11, [.int 0, x2m, x3m, x4m, x5m, x6m, x7m, x8m, x9m, x10m, x11m, x12m, x13m, x14m, x15m, x16m, x17m, x18m, x19m, x20m, x21m, x22m, x23m, x24m, x25m, x26m, x27m, x28m, x29m, x30m, x31m, x32m, x33m, x34m, x35m, x36m, x37m, x38m, x39m, x40m, x41m, x42m, x43m, x44m, x45m, x46m, x47m, x48m, x49m, x50m, x51m, x52m, x53m, x54m, x55m, .ref h56m, x57m, x58m, .ref h59m, x60m, .int 0, x61m, x62m, x63m, x64m, x65m, x66m, x67m, x68m, x69m, x70m, x71m, x72m, x73m])), (h56m, .inl (aC 0, 13, .inl (fun _ => 0))), (h59m, .inl (aC 0, 208, .inl (fun _ => 0)))] H) (hD : va_D A [(h1x, .inr (10, [x2x, x3x, x4x, x5x, x6x, .ref h7x, x8x, x9x, .ref h10x, x11x, x12x, x13x, x14x, x15x, x16x, x17x])), (h7x, .inr (6, [.int 0, .ref h18x, .ref h19x, .int 0, .int 0, .int 0])), (h18x, .inl (aC 0, 5, .inl (fun _ => 0))), (h19x, .inl (aC 0, 4, .inl (fun _ => 0))), (h10x, .inr (1, [.int 0, .int 0, .ref h20x])), (h20x, .inl (aC 4, 16, .inr (.inr (.inr (.inr F21x))))), (h22x, .inr (6, [.int 0, .ref h23x, .ref h24x, .int 0, .int 0, .int 0])), (h23x, .inl (aC 0, 5, .inl (fun _ => 0))), (h24x, .inl (aC 0, 4, .inl (fun _ => 0))), (h1m, .inr (11, [.int 0, x2m, x3m, x4m, x5m, x6m, x7m, x8m, x9m, x10m, x11m, x12m, x13m, x14m, x15m, x16m, x17m, x18m, x19m, x20m, x21m, x22m, x23m, x24m, x25m, x26m, x27m, x28m, x29m, x30m, x31m, x32m, x33m, x34m, x35m, x36m, x37m, x38m, x39m, x40m, x41m, x42m, x43m, x44m, x45m, x46m, x47m, x48m, x49m, x50m, x51m, x52m, x53m, x54m, x55m, .ref h56m, x57m, x58m, .ref h59m, x60m, .int 0, x61m, x62m, x63m, x64m, x65m, x66m, x67m, x68m, x69m, x70m, x71m, x72m, x73m])), (h56m, .inl (aC 0, 13, .inl (fun _ => 0))), (h59m, .inl (aC 0, 208, .inl (fun _ => 0)))]) (hS : va_S A s.heap H locs) (ls : Array Slot) (hl : lv_has ls 7 [(4, .int 0), (3, .ref ho), (2, .ref h1m), (1, .ref h1x), (0, .ref b)]) : W p l e room_1 s m #[Value.ref b] below meth c H locs 700 60000 (lw_Z below #[Value.ref b] s) (F0 m 659 ls []) := by
  obtain ⟨hx, hb, hml, hown, hts, hK, hA, hM, hM2⟩ := id F
  refine lv_aload_n hx hb dL_law_659 rfl (lv_at hl 3 rfl) ?_
  refine goI (wr := [(h1m, .inr (11, [.int 0, x2m, x3m, x4m, x5m, x6m, x7m, x8m, x9m, x10m, x11m, x12m, x13m, x14m, x15m, x16m, x17m, x18m, x19m, x20m, x21m, x22m, x23m, x24m, x25m, x26m, x27m, x28m, x29m, x30m, x31m, x32m, x33m, x34m, x35m, x36m, x37m, x38m, x39m, x40m, x41m, x42m, x43m, x44m, x45m, x46m, x47m, x48m, x49m, x50m, x51m, x52m, x53m, x54m, x55m, .ref h56m, x57m, x58m, .ref h59m, x60m, .int 0, x61m, x62m, x63m, x64m, x65m, x66m, x67m, x68m, x69m, x70m, x71m, x72m, x73m])), (h56m, .inl (aC 0, 13, .inl (fun _ => 0))), (h59m, .inl (aC 0, 208, .inl (fun _ => 0)))]) (runV (n := 0) (As := []) (rest := []) F hP hD hS (x_night l g aC aM h1x h7x h10x h18x h19x h20x h22x h23x h24x x2x x3x x4x x5x x6x x8x x9x x11x x12x x13x x14x x15x x16x x17x F21x hg1x) [0, 1, 2, 3, 4, 5, 6, 7, 8] (by decide) rfl 0 10 rfl rfl rfl tb901 tb898 tb899 tb900 tb1 ⟨by decide, by decide, by decide +kernel⟩ ⟨Nat.le_of_ble_eq_true rfl, Nat.le_of_ble_eq_true rfl⟩ rfl hl.1 rfl (Nat.le_of_ble_eq_true rfl) dL_law_660 ⟨Nat.le_of_ble_eq_true rfl, Nat.le_of_ble_eq_true rfl⟩) hP hD hS hA [0, 1, 2, 3, 4, 5, 6, 7, 8] [9, 10, 11] rfl rfl (by decide) (by decide) (fun r_2 w3 H locs hw hP hD hS => ?_)
  have hP : va_P g vwCl [(h1m, .inr (11, [.int 0, x2m, x3m, x4m, x5m, x6m, x7m, x8m, x9m, x10m, x11m, x12m, x13m, x14m, x15m, x16m, x17m, x18m, x19m, x20m, x21m, x22m, x23m, x24m, x25m, x26m, x27m, x28m, x29m, x30m, x31m, x32m, x33m, x34m, x35m, x36m, x37m, x38m, x39m, x40m, x41m, x42m, x43m, x44m, x45m, x46m, x47m, x48m, x49m, x50m, x51m, x52m, x53m, x54m, x55m, .ref h56m, x57m, x58m, .ref h59m, x60m, .int 0, x61m, x62m, x63m, x64m, x65m, x66m, x67m, x68m, x69m, x70m, x71m, x72m, x73m])), (h56m, .inl (aC 0, 13, .inl (fun _ => 0))), (h59m, .inl (aC 0, 208, .inl (fun _ => 0)))] H := hP
  have hD : va_D A [(h1m, .inr (11, [.int 0, x2m, x3m, x4m, x5m, x6m, x7m, x8m, x9m, x10m, x11m, x12m, x13m, x14m, x15m, x16m, x17m, x18m, x19m, x20m, x21m, x22m, x23m, x24m, x25m, x26m, x27m, x28m, x29m, x30m, x31m, x32m, x33m, x34m, x35m, x36m, x37m, x38m, x39m, x40m, x41m, x42m, x43m, x44m, x45m, x46m, x47m, x48m, x49m, x50m, x51m, x52m, x53m, x54m, x55m, .ref h56m, x57m, x58m, .ref h59m, x60m, .int 0, x61m, x62m, x63m, x64m, x65m, x66m, x67m, x68m, x69m, x70m, x71m, x72m, x73m])), (h56m, .inl (aC 0, 13, .inl (fun _ => 0))), (h59m, .inl (aC 0, 208, .inl (fun _ => 0)))] := hD
  try dsimp only at hw
  subst hw
  refine lv_aload_n hx hb dL_law_663 rfl (lv_at hl 2 rfl) ?_
  refine goI (wr := []) (runV (n := 0) (As := []) (rest := [.int 1]) F hP hD hS (m_night l g aC aM h1m h56m h59m x2m x3m x4m x5m x6m x7m x8m x9m x10m x11m x12m x13m x14m x15m x16m x17m x18m x19m x20m x21m x22m x23m x24m x25m x26m x27m x28m x29m x30m x31m x32m x33m x34m x35m x36m x37m x38m x39m x40m x41m x42m x43m x44m x45m x46m x47m x48m x49m x50m x51m x52m x53m x54m x55m x57m x58m x60m x61m x62m x63m x64m x65m x66m x67m x68m x69m x70m x71m x72m x73m) [0, 1, 2] (by decide) rfl 0 11 rfl rfl rfl tb1766 tb1763 tb1764 tb1765 tb17 ⟨by decide, by decide, by decide +kernel⟩ ⟨Nat.le_of_ble_eq_true rfl, Nat.le_of_ble_eq_true rfl⟩ rfl hl.1 rfl (Nat.le_of_ble_eq_true rfl) dL_law_664 ⟨Nat.le_of_ble_eq_true rfl, Nat.le_of_ble_eq_true rfl⟩) hP hD hS hA [0, 1, 2] [] rfl rfl (by decide) (by decide) (fun r_5 w6 H locs hw hP hD hS => ?_)
  have hP : va_P g vwCl [] H := hP
  have hD : va_D A [] := hD
  try dsimp only at hw
  subst hw
  refine lv_icmp_eq (tgt := 1279) hx hb dL_law_667 (by decide) (fun _ => ?_) (fun c_ => absurd (by decide +kernel) c_)
  exact law_end F hr hlocks hX hbl hbA hAs hS (Nat.le_of_ble_eq_true rfl) (Nat.le_of_ble_eq_true rfl) _ (lv_sub hl [0, 4] rfl)

theorem tb902 : (Jvm.Cond.methodLink "StairGangLaw" (83 : Nat) ({ cls := "StairGang", name := "undo", desc := "()Z" } : Jvm.MethodName)) ∈ gw := lw_m 902 (by decide +kernel)
theorem tb903 : (Jvm.Cond.instanceMethod ({ cls := "StairGang", name := "undo", desc := "()Z" } : Jvm.MethodName)) ∈ gw := lw_m 903 (by decide +kernel)
theorem tb904 : (Jvm.Cond.selects "StairGang" ({ cls := "StairGang", name := "undo", desc := "()Z" } : Jvm.MethodName) ({ cls := "StairGang", name := "undo", desc := "()Z" } : Jvm.MethodName)) ∈ gw := lw_m 904 (by decide +kernel)
theorem tb905 : (Jvm.Cond.code ({ cls := "StairGang", name := "undo", desc := "()Z" } : Jvm.MethodName) prog_1_method_16_code (1 : Nat) (Option.some Jvm.ClassFile.FieldType.boolean)) ∈ gw := lw_m 905 (by decide +kernel)
theorem tb1767 : (Jvm.Cond.methodLink "StairGangLaw" (87 : Nat) ({ cls := "StairGangModel", name := "undo", desc := "()Z" } : Jvm.MethodName)) ∈ gw := lw_m 1767 (by decide +kernel)
theorem tb1768 : (Jvm.Cond.instanceMethod ({ cls := "StairGangModel", name := "undo", desc := "()Z" } : Jvm.MethodName)) ∈ gw := lw_m 1768 (by decide +kernel)
theorem tb1769 : (Jvm.Cond.selects "StairGangModel" ({ cls := "StairGangModel", name := "undo", desc := "()Z" } : Jvm.MethodName) ({ cls := "StairGangModel", name := "undo", desc := "()Z" } : Jvm.MethodName)) ∈ gw := lw_m 1769 (by decide +kernel)
theorem tb1770 : (Jvm.Cond.code ({ cls := "StairGangModel", name := "undo", desc := "()Z" } : Jvm.MethodName) prog_13_method_89_code (1 : Nat) (Option.some Jvm.ClassFile.FieldType.boolean)) ∈ gw := lw_m 1770 (by decide +kernel)
theorem dL_law_672 : decode cL_law 672 = .ok (.aload_n 1, 1) := by decide +kernel
theorem dL_law_673 : decode cL_law 673 = .ok (.invokevirtual 83, 3) := by decide +kernel
theorem dL_law_676 : decode cL_law 676 = .ok (.aload_n 2, 1) := by decide +kernel
theorem dL_law_677 : decode cL_law 677 = .ok (.invokevirtual 87, 3) := by decide +kernel
theorem dL_law_680 : decode cL_law 680 = .ok (.if_icmp .eq 599, 3) := by decide +kernel
set_option maxHeartbeats 4000000 in
set_option maxRecDepth 100000 in
theorem lc_undo {p : Program} {l : Launch} {e : Env} {s : State} {m : MethodId} {below : List Frame} {meth : Method} {c : Code} {g : va_G} {aC : Nat → ClassId} {aM : Nat → Nat} {A : Nat → Prop} {b : Nat} {xs : Nat → Int32} (F : Fx p s m #[Value.ref b] c code 7 RL g aC aM A) (hr : meth.sig.returnType = ret) (hlocks : meth.locks = false) (hX : va_X b 7 xs s s.heap) (hbl : b < s.heap.size) (hbA : ¬ A b) (hAs : ∀ q, A q → s.heap.size ≤ q) (h1x h7x h10x : Nat) (x2x x3x x4x x5x x6x x8x x9x x11x x12x x13x x14x x15x x16x x17x x18x x19x : Value) (h1m : Nat) (x2m x3m x4m x5m x6m x7m x8m x9m x10m x11m x12m x13m x14m x15m x16m x17m x18m x19m x20m x21m x22m x23m x24m x25m x26m x27m x28m x29m x30m x31m x32m x33m x34m x35m x36m x37m x38m x39m x40m x41m x42m x43m x44m x45m x46m x47m x48m x49m x50m x51m x52m x53m x54m x55m x56m x57m x58m x59m x60m x61m x62m x63m x64m x65m x66m x67m x68m x69m x70m x71m x72m x73m : Value) (ho : Nat) {H : Heap} {locs : List Loc} (hP : va_P g vwCl [(h1x, .inr (10, [x2x, x3x, x4x, x5x, x6x, .ref h7x, x8x, x9x, .ref h10x, x11x, x12x, x13x, x14x, x15x, x16x, x17x])), (h10x, .inr (1, [.int 0, x18x, x19x])), (h1m, .inr (11, [.int 0, x2m, x3m, x4m, x5m, x6m, x7m, x8m, x9m, x10m, x11m, x12m, x13m, x14m, x15m, x16m, x17m, x18m, x19m, x20m, x21m, x22m, x23m, x24m, x25m, x26m, x27m, x28m, x29m, x30m, x31m, x32m, x33m, x34m, x35m, x36m, x37m, x38m, x39m, x40m, x41m, x42m, x43m, x44m, x45m, x46m, x47m, x48m, x49m, x50m, x51m, x52m, x53m, x54m, x55m, x56m, x57m, x58m, x59m, x60m, .int 0, x61m, x62m, x63m, x64m, x65m, x66m, x67m, x68m, x69m, x70m, x71m, x72m, x73m]))] H) (hD : va_D A [(h1x, .inr (10, [x2x, x3x, x4x, x5x, x6x, .ref h7x, x8x, x9x, .ref h10x, x11x, x12x, x13x, x14x, x15x, x16x, x17x])), (h10x, .inr (1, [.int 0, x18x, x19x])), (h1m, .inr (11, [.int 0, x2m, x3m, x4m, x5m, x6m, x7m, x8m, x9m, x10m, x11m, x12m, x13m, x14m, x15m, x16m, x17m, x18m, x19m, x20m, x21m, x22m, x23m, x24m, x25m, x26m, x27m, x28m, x29m, x30m, x31m, x32m, x33m, x34m, x35m, x36m, x37m, x38m, x39m, x40m, x41m, x42m, x43m, x44m, x45m, x46m, x47m, x48m, x49m, x50m, x51m, x52m, x53m, x54m, x55m, x56m, x57m, x58m, x59m, x60m, .int 0, x61m, x62m, x63m, x64m, x65m, x66m, x67m, x68m, x69m, x70m, x71m, x72m, x73m]))]) (hS : va_S A s.heap H locs) (ls : Array Slot) (hl : lv_has ls 7 [(4, .int 0), (3, .ref ho), (2, .ref h1m), (1, .ref h1x), (0, .ref b)]) : W p l e room_1 s m #[Value.ref b] below meth c H locs 700 60000 (lw_Z below #[Value.ref b] s) (F0 m 672 ls []) := by
  obtain ⟨hx, hb, hml, hown, hts, hK, hA, hM, hM2⟩ := id F
  refine lv_aload_n hx hb dL_law_672 rfl (lv_at hl 3 rfl) ?_
  refine goI (wr := [(h1m, .inr (11, [.int 0, x2m, x3m, x4m, x5m, x6m, x7m, x8m, x9m, x10m, x11m, x12m, x13m, x14m, x15m, x16m, x17m, x18m, x19m, x20m, x21m, x22m, x23m, x24m, x25m, x26m, x27m, x28m, x29m, x30m, x31m, x32m, x33m, x34m, x35m, x36m, x37m, x38m, x39m, x40m, x41m, x42m, x43m, x44m, x45m, x46m, x47m, x48m, x49m, x50m, x51m, x52m, x53m, x54m, x55m, x56m, x57m, x58m, x59m, x60m, .int 0, x61m, x62m, x63m, x64m, x65m, x66m, x67m, x68m, x69m, x70m, x71m, x72m, x73m]))]) (runV (n := 0) (As := []) (rest := []) F hP hD hS (x_undo l g aC aM h1x h7x h10x x2x x3x x4x x5x x6x x8x x9x x11x x12x x13x x14x x15x x16x x17x x18x x19x) [0, 1] (by decide) rfl 0 10 rfl rfl rfl tb905 tb902 tb903 tb904 tb1 ⟨by decide, by decide, by decide +kernel⟩ ⟨Nat.le_of_ble_eq_true rfl, Nat.le_of_ble_eq_true rfl⟩ rfl hl.1 rfl (Nat.le_of_ble_eq_true rfl) dL_law_673 ⟨Nat.le_of_ble_eq_true rfl, Nat.le_of_ble_eq_true rfl⟩) hP hD hS hA [0, 1] [2] rfl rfl (by decide) (by decide) (fun r_2 w3 H locs hw hP hD hS => ?_)
  have hP : va_P g vwCl [(h1m, .inr (11, [.int 0, x2m, x3m, x4m, x5m, x6m, x7m, x8m, x9m, x10m, x11m, x12m, x13m, x14m, x15m, x16m, x17m, x18m, x19m, x20m, x21m, x22m, x23m, x24m, x25m, x26m, x27m, x28m, x29m, x30m, x31m, x32m, x33m, x34m, x35m, x36m, x37m, x38m, x39m, x40m, x41m, x42m, x43m, x44m, x45m, x46m, x47m, x48m, x49m, x50m, x51m, x52m, x53m, x54m, x55m, x56m, x57m, x58m, x59m, x60m, .int 0, x61m, x62m, x63m, x64m, x65m, x66m, x67m, x68m, x69m, x70m, x71m, x72m, x73m]))] H := hP
  have hD : va_D A [(h1m, .inr (11, [.int 0, x2m, x3m, x4m, x5m, x6m, x7m, x8m, x9m, x10m, x11m, x12m, x13m, x14m, x15m, x16m, x17m, x18m, x19m, x20m, x21m, x22m, x23m, x24m, x25m, x26m, x27m, x28m, x29m, x30m, x31m, x32m, x33m, x34m, x35m, x36m, x37m, x38m, x39m, x40m, x41m, x42m, x43m, x44m, x45m, x46m, x47m, x48m, x49m, x50m, x51m, x52m, x53m, x54m, x55m, x56m, x57m, x58m, x59m, x60m, .int 0, x61m, x62m, x63m, x64m, x65m, x66m, x67m, x68m, x69m, x70m, x71m, x72m, x73m]))] := hD
  try dsimp only at hw
  subst hw
  refine lv_aload_n hx hb dL_law_676 rfl (lv_at hl 2 rfl) ?_
  refine goI (wr := []) (runV (n := 0) (As := []) (rest := [.int 0]) F hP hD hS (m_undo l g aC aM h1m x2m x3m x4m x5m x6m x7m x8m x9m x10m x11m x12m x13m x14m x15m x16m x17m x18m x19m x20m x21m x22m x23m x24m x25m x26m x27m x28m x29m x30m x31m x32m x33m x34m x35m x36m x37m x38m x39m x40m x41m x42m x43m x44m x45m x46m x47m x48m x49m x50m x51m x52m x53m x54m x55m x56m x57m x58m x59m x60m x61m x62m x63m x64m x65m x66m x67m x68m x69m x70m x71m x72m x73m) [0] (by decide) rfl 0 11 rfl rfl rfl tb1770 tb1767 tb1768 tb1769 tb17 ⟨by decide, by decide, by decide +kernel⟩ ⟨Nat.le_of_ble_eq_true rfl, Nat.le_of_ble_eq_true rfl⟩ rfl hl.1 rfl (Nat.le_of_ble_eq_true rfl) dL_law_677 ⟨Nat.le_of_ble_eq_true rfl, Nat.le_of_ble_eq_true rfl⟩) hP hD hS hA [0] [] rfl rfl (by decide) (by decide) (fun r_5 w6 H locs hw hP hD hS => ?_)
  have hP : va_P g vwCl [] H := hP
  have hD : va_D A [] := hD
  try dsimp only at hw
  subst hw
  refine lv_icmp_eq (tgt := 1279) hx hb dL_law_680 (by decide) (fun _ => ?_) (fun c_ => absurd (by decide +kernel) c_)
  exact law_end F hr hlocks hX hbl hbA hAs hS (Nat.le_of_ble_eq_true rfl) (Nat.le_of_ble_eq_true rfl) _ (lv_sub hl [0, 4] rfl)
