theorem tb910 : (Jvm.Cond.methodLink "StairGangLaw" (88 : Nat) ({ cls := "StairGang", name := "judged", desc := "(I)I" } : Jvm.MethodName)) ∈ gw := lw_m 910 (by decide +kernel)
theorem tb911 : (Jvm.Cond.instanceMethod ({ cls := "StairGang", name := "judged", desc := "(I)I" } : Jvm.MethodName)) ∈ gw := lw_m 911 (by decide +kernel)
theorem tb912 : (Jvm.Cond.selects "StairGang" ({ cls := "StairGang", name := "judged", desc := "(I)I" } : Jvm.MethodName) ({ cls := "StairGang", name := "judged", desc := "(I)I" } : Jvm.MethodName)) ∈ gw := lw_m 912 (by decide +kernel)
theorem tb913 : (Jvm.Cond.code ({ cls := "StairGang", name := "judged", desc := "(I)I" } : Jvm.MethodName) prog_1_method_17_code (5 : Nat) (Option.some Jvm.ClassFile.FieldType.int)) ∈ gw := lw_m 913 (by decide +kernel)
theorem tb1771 : (Jvm.Cond.methodLink "StairGangLaw" (91 : Nat) ({ cls := "StairGangModel", name := "judged", desc := "(I)I" } : Jvm.MethodName)) ∈ gw := lw_m 1771 (by decide +kernel)
theorem tb1772 : (Jvm.Cond.instanceMethod ({ cls := "StairGangModel", name := "judged", desc := "(I)I" } : Jvm.MethodName)) ∈ gw := lw_m 1772 (by decide +kernel)
theorem tb1773 : (Jvm.Cond.selects "StairGangModel" ({ cls := "StairGangModel", name := "judged", desc := "(I)I" } : Jvm.MethodName) ({ cls := "StairGangModel", name := "judged", desc := "(I)I" } : Jvm.MethodName)) ∈ gw := lw_m 1773 (by decide +kernel)
theorem tb1774 : (Jvm.Cond.code ({ cls := "StairGangModel", name := "judged", desc := "(I)I" } : Jvm.MethodName) prog_13_method_91_code (6 : Nat) (Option.some Jvm.ClassFile.FieldType.int)) ∈ gw := lw_m 1774 (by decide +kernel)
theorem dL_law_685 : decode cL_law 685 = .ok (.aload_n 1, 1) := by decide +kernel
theorem dL_law_686 : decode cL_law 686 = .ok (.aload_n 0, 1) := by decide +kernel
theorem dL_law_687 : decode cL_law 687 = .ok (.iload 4, 2) := by decide +kernel
theorem dL_law_689 : decode cL_law 689 = .ok (.iconst 1, 1) := by decide +kernel
theorem dL_law_690 : decode cL_law 690 = .ok (.iadd, 1) := by decide +kernel
theorem dL_law_691 : decode cL_law 691 = .ok (.iaload, 1) := by decide +kernel
theorem dL_law_692 : decode cL_law 692 = .ok (.invokevirtual 88, 3) := by decide +kernel
theorem dL_law_695 : decode cL_law 695 = .ok (.aload_n 2, 1) := by decide +kernel
theorem dL_law_696 : decode cL_law 696 = .ok (.aload_n 0, 1) := by decide +kernel
theorem dL_law_697 : decode cL_law 697 = .ok (.iload 4, 2) := by decide +kernel
theorem dL_law_699 : decode cL_law 699 = .ok (.iconst 1, 1) := by decide +kernel
theorem dL_law_700 : decode cL_law 700 = .ok (.iadd, 1) := by decide +kernel
theorem dL_law_701 : decode cL_law 701 = .ok (.iaload, 1) := by decide +kernel
theorem dL_law_702 : decode cL_law 702 = .ok (.invokevirtual 91, 3) := by decide +kernel
theorem dL_law_705 : decode cL_law 705 = .ok (.if_icmp .eq 574, 3) := by decide +kernel
set_option maxHeartbeats 4000000 in
set_option maxRecDepth 100000 in
theorem lc_judged {p : Program} {l : Launch} {e : Env} {s : State} {m : MethodId} {below : List Frame} {meth : Method} {c : Code} {g : va_G} {aC : Nat → ClassId} {aM : Nat → Nat} {A : Nat → Prop} {b : Nat} {xs : Nat → Int32} (F : Fx p s m #[Value.ref b] c code 7 RL g aC aM A) (hr : meth.sig.returnType = ret) (hlocks : meth.locks = false) (hX : va_X b 7 xs s s.heap) (hbl : b < s.heap.size) (hbA : ¬ A b) (hAs : ∀ q, A q → s.heap.size ≤ q) (h1x h5x h8x h9x h18x h20x h21x h31x h32x : Nat) (x2x x3x x4x x6x x7x x10x x11x x12x x13x x14x x15x x16x x17x x19x x22x x23x x24x x25x x26x x27x x28x x33x x34x x35x x36x : Value) (R29x R30x : Nat → Nat) (h1m h11m h47m h56m h57m : Nat) (x2m x3m x4m x5m x6m x7m x8m x9m x10m x12m x13m x14m x15m x16m x17m x18m x19m x20m x21m x22m x23m x24m x25m x26m x27m x28m x29m x30m x31m x32m x33m x34m x35m x36m x37m x38m x39m x40m x41m x42m x43m x44m x45m x46m x48m x49m x50m x51m x52m x53m x54m x55m x58m x59m x60m x61m x62m x63m x64m x65m x66m x67m x68m x69m x70m x71m x72m x73m x74m : Value) (ho : Nat) {H : Heap} {locs : List Loc} (hP : va_P g vwCl [(h1x, .inr (10, [x2x, x3x, x4x, .ref h5x, x6x, x7x, .ref h8x, .ref h9x, x10x, x11x, x12x, x13x, x14x, x15x, x16x, x17x])), (h5x, .inr (8, [.ref h18x, x19x, .ref h20x, .ref h21x, x22x, .int 0, x23x, x24x, x25x, x26x, x27x, x28x])), (h18x, .inl (aC 0, 5, .inl (fun _ => 0))), (h20x, .inl (aC 6, 4, .inr (.inr (.inr (.inr (fun i => if i < 4 then some (R29x i) else none)))))), (h21x, .inl (aC 6, 5, .inr (.inr (.inr (.inr (fun i => if i < 5 then some (R30x i) else none)))))), ((R29x 0), .inl (aC 0, 2, .inl (fun _ => 0))), ((R29x 1), .inl (aC 0, 2, .inl (fun _ => 0))), ((R29x 2), .inl (aC 0, 2, .inl (fun _ => 0))), ((R29x 3), .inl (aC 0, 2, .inl (fun _ => 0))), ((R30x 0), .inl (aC 0, 4, .inl (fun _ => 0))), ((R30x 1), .inl (aC 0, 4, .inl (fun _ => 0))), ((R30x 2), .inl (aC 0, 4, .inl (fun _ => 0))), ((R30x 3), .inl (aC 0, 4, .inl (fun _ => 0))), ((R30x 4), .inl (aC 0, 4, .inl (fun _ => 0))), (h8x, .inr (6, [.int 0, .ref h31x, .ref h32x, .int 0, .int 0, .int 0])), (h31x, .inl (aC 0, 5, .inl (fun _ => 0))), (h32x, .inl (aC 0, 4, .inl (fun _ => 0))), (h9x, .inr (5, [x33x, .int 0, x34x, x35x, x36x])), (h1m, .inr (11, [.int 0, x2m, x3m, x4m, x5m, x6m, x7m, x8m, x9m, x10m, .ref h11m, x12m, x13m, x14m, x15m, x16m, x17m, x18m, x19m, x20m, x21m, x22m, x23m, x24m, x25m, x26m, x27m, x28m, x29m, x30m, x31m, x32m, x33m, x34m, x35m, x36m, x37m, x38m, x39m, x40m, x41m, x42m, x43m, x44m, x45m, x46m, .ref h47m, x48m, x49m, x50m, x51m, x52m, x53m, x54m, x55m, .ref h56m, .ref h57m, x58m, x59m, x60m, x61m, x62m, x63m, x64m, x65m, x66m, x67m, x68m, x69m, x70m, x71m, x72m, x73m, x74m])), (h11m, .inl (aC 0, 14, .inl (fun _ => 0))), (h47m, .inl (aC 0, 6, .inl (fun _ => 0))), (h56m, .inl (aC 0, 13, .inl (fun _ => 0))), (h57m, .inl (aC 0, 13, .inl (fun _ => 0)))] H) (hD : va_D A [(h1x, .inr (10, [x2x, x3x, x4x, .ref h5x, x6x, x7x, .ref h8x, .ref h9x, x10x, x11x, x12x, x13x, x14x, x15x, x16x, x17x])), (h5x, .inr (8, [.ref h18x, x19x, .ref h20x, .ref h21x, x22x, .int 0, x23x, x24x, x25x, x26x, x27x, x28x])), (h18x, .inl (aC 0, 5, .inl (fun _ => 0))), (h20x, .inl (aC 6, 4, .inr (.inr (.inr (.inr (fun i => if i < 4 then some (R29x i) else none)))))), (h21x, .inl (aC 6, 5, .inr (.inr (.inr (.inr (fun i => if i < 5 then some (R30x i) else none)))))), ((R29x 0), .inl (aC 0, 2, .inl (fun _ => 0))), ((R29x 1), .inl (aC 0, 2, .inl (fun _ => 0))), ((R29x 2), .inl (aC 0, 2, .inl (fun _ => 0))), ((R29x 3), .inl (aC 0, 2, .inl (fun _ => 0))), ((R30x 0), .inl (aC 0, 4, .inl (fun _ => 0))), ((R30x 1), .inl (aC 0, 4, .inl (fun _ => 0))), ((R30x 2), .inl (aC 0, 4, .inl (fun _ => 0))), ((R30x 3), .inl (aC 0, 4, .inl (fun _ => 0))), ((R30x 4), .inl (aC 0, 4, .inl (fun _ => 0))), (h8x, .inr (6, [.int 0, .ref h31x, .ref h32x, .int 0, .int 0, .int 0])), (h31x, .inl (aC 0, 5, .inl (fun _ => 0))), (h32x, .inl (aC 0, 4, .inl (fun _ => 0))), (h9x, .inr (5, [x33x, .int 0, x34x, x35x, x36x])), (h1m, .inr (11, [.int 0, x2m, x3m, x4m, x5m, x6m, x7m, x8m, x9m, x10m, .ref h11m, x12m, x13m, x14m, x15m, x16m, x17m, x18m, x19m, x20m, x21m, x22m, x23m, x24m, x25m, x26m, x27m, x28m, x29m, x30m, x31m, x32m, x33m, x34m, x35m, x36m, x37m, x38m, x39m, x40m, x41m, x42m, x43m, x44m, x45m, x46m, .ref h47m, x48m, x49m, x50m, x51m, x52m, x53m, x54m, x55m, .ref h56m, .ref h57m, x58m, x59m, x60m, x61m, x62m, x63m, x64m, x65m, x66m, x67m, x68m, x69m, x70m, x71m, x72m, x73m, x74m])), (h11m, .inl (aC 0, 14, .inl (fun _ => 0))), (h47m, .inl (aC 0, 6, .inl (fun _ => 0))), (h56m, .inl (aC 0, 13, .inl (fun _ => 0))), (h57m, .inl (aC 0, 13, .inl (fun _ => 0)))]) (hS : va_S A s.heap H locs) (ls : Array Slot) (hl : lv_has ls 7 [(4, .int 0), (3, .ref ho), (2, .ref h1m), (1, .ref h1x), (0, .ref b)]) : W p l e room_1 s m #[Value.ref b] below meth c H locs 700 60000 (lw_Z below #[Value.ref b] s) (F0 m 685 ls []) := by
  obtain ⟨hx, hb, hml, hown, hts, hK, hA, hM, hM2⟩ := id F
  refine lv_aload_n hx hb dL_law_685 rfl (lv_at hl 3 rfl) ?_
  refine lv_aload_n hx hb dL_law_686 rfl (lv_at hl 4 rfl) ?_
  refine lv_iload hx hb dL_law_687 (lv_at hl 0 rfl) ?_
  refine lv_iconst (v := 1) hx hb dL_law_689 (by decide) ?_
  refine lv_iadd hx hb dL_law_690 ?_
  refine relit (v := 1) (by decide +kernel) ?_
  refine va_sld hx hb hX hbl hbA hS (vpin (j := 1) (by decide +kernel) (by decide +kernel) (by decide)) dL_law_691 ?_
  refine relit (v := xs 1) (by rw [show ((1 : Int32).toNatClampNeg) = 1 from by decide +kernel]) ?_
  refine goI (wr := [(h1m, .inr (11, [.int 0, x2m, x3m, x4m, x5m, x6m, x7m, x8m, x9m, x10m, .ref h11m, x12m, x13m, x14m, x15m, x16m, x17m, x18m, x19m, x20m, x21m, x22m, x23m, x24m, x25m, x26m, x27m, x28m, x29m, x30m, x31m, x32m, x33m, x34m, x35m, x36m, x37m, x38m, x39m, x40m, x41m, x42m, x43m, x44m, x45m, x46m, .ref h47m, x48m, x49m, x50m, x51m, x52m, x53m, x54m, x55m, .ref h56m, .ref h57m, x58m, x59m, x60m, x61m, x62m, x63m, x64m, x65m, x66m, x67m, x68m, x69m, x70m, x71m, x72m, x73m, x74m])), (h11m, .inl (aC 0, 14, .inl (fun _ => 0))), (h47m, .inl (aC 0, 6, .inl (fun _ => 0))), (h56m, .inl (aC 0, 13, .inl (fun _ => 0))), (h57m, .inl (aC 0, 13, .inl (fun _ => 0)))]) (runV (n := 1) (As := [.int (xs 1)]) (rest := []) F hP hD hS (x_judged l g aC aM h1x h5x h8x h9x h18x h20x h21x h31x h32x x2x x3x x4x x6x x7x x10x x11x x12x x13x x14x x15x x16x x17x x19x x22x x23x x24x x25x x26x x27x x28x x33x x34x x35x x36x R29x R30x (xs 1)) [0, 1, 2, 3, 4, 5, 6, 7, 8, 9, 10, 11, 12, 13, 14, 15, 16, 17] (by decide) rfl 0 10 rfl rfl rfl tb913 tb910 tb911 tb912 tb1 ⟨by decide, by decide, by decide +kernel⟩ ⟨Nat.le_of_ble_eq_true rfl, Nat.le_of_ble_eq_true rfl⟩ rfl hl.1 rfl (Nat.le_of_ble_eq_true rfl) dL_law_692 ⟨Nat.le_of_ble_eq_true rfl, Nat.le_of_ble_eq_true rfl⟩) hP hD hS hA [0, 1, 2, 3, 4, 5, 6, 7, 8, 9, 10, 11, 12, 13, 14, 15, 16, 17] [18, 19, 20, 21, 22] rfl rfl (by decide) (by decide) (fun r_2 w3 H locs hw hP hD hS => ?_)
  have hP : va_P g vwCl [(h1m, .inr (11, [.int 0, x2m, x3m, x4m, x5m, x6m, x7m, x8m, x9m, x10m, .ref h11m, x12m, x13m, x14m, x15m, x16m, x17m, x18m, x19m, x20m, x21m, x22m, x23m, x24m, x25m, x26m, x27m, x28m, x29m, x30m, x31m, x32m, x33m, x34m, x35m, x36m, x37m, x38m, x39m, x40m, x41m, x42m, x43m, x44m, x45m, x46m, .ref h47m, x48m, x49m, x50m, x51m, x52m, x53m, x54m, x55m, .ref h56m, .ref h57m, x58m, x59m, x60m, x61m, x62m, x63m, x64m, x65m, x66m, x67m, x68m, x69m, x70m, x71m, x72m, x73m, x74m])), (h11m, .inl (aC 0, 14, .inl (fun _ => 0))), (h47m, .inl (aC 0, 6, .inl (fun _ => 0))), (h56m, .inl (aC 0, 13, .inl (fun _ => 0))), (h57m, .inl (aC 0, 13, .inl (fun _ => 0)))] H := hP
  have hD : va_D A [(h1m, .inr (11, [.int 0, x2m, x3m, x4m, x5m, x6m, x7m, x8m, x9m, x10m, .ref h11m, x12m, x13m, x14m, x15m, x16m, x17m, x18m, x19m, x20m, x21m, x22m, x23m, x24m, x25m, x26m, x27m, x28m, x29m, x30m, x31m, x32m, x33m, x34m, x35m, x36m, x37m, x38m, x39m, x40m, x41m, x42m, x43m, x44m, x45m, x46m, .ref h47m, x48m, x49m, x50m, x51m, x52m, x53m, x54m, x55m, .ref h56m, .ref h57m, x58m, x59m, x60m, x61m, x62m, x63m, x64m, x65m, x66m, x67m, x68m, x69m, x70m, x71m, x72m, x73m, x74m])), (h11m, .inl (aC 0, 14, .inl (fun _ => 0))), (h47m, .inl (aC 0, 6, .inl (fun _ => 0))), (h56m, .inl (aC 0, 13, .inl (fun _ => 0))), (h57m, .inl (aC 0, 13, .inl (fun _ => 0)))] := hD
  try dsimp only at hw
  subst hw
  refine lv_aload_n hx hb dL_law_695 rfl (lv_at hl 2 rfl) ?_
  refine lv_aload_n hx hb dL_law_696 rfl (lv_at hl 4 rfl) ?_
  refine lv_iload hx hb dL_law_697 (lv_at hl 0 rfl) ?_
  refine lv_iconst (v := 1) hx hb dL_law_699 (by decide) ?_
  refine lv_iadd hx hb dL_law_700 ?_
  refine relit (v := 1) (by decide +kernel) ?_
  refine va_sld hx hb hX hbl hbA hS (vpin (j := 1) (by decide +kernel) (by decide +kernel) (by decide)) dL_law_701 ?_
  refine relit (v := xs 1) (by rw [show ((1 : Int32).toNatClampNeg) = 1 from by decide +kernel]) ?_
  refine goI (wr := []) (runV (n := 1) (As := [.int (xs 1)]) (rest := [.int (sp_judged (xs 1))]) F hP hD hS (m_judged l g aC aM h1m h11m h47m h56m h57m x2m x3m x4m x5m x6m x7m x8m x9m x10m x12m x13m x14m x15m x16m x17m x18m x19m x20m x21m x22m x23m x24m x25m x26m x27m x28m x29m x30m x31m x32m x33m x34m x35m x36m x37m x38m x39m x40m x41m x42m x43m x44m x45m x46m x48m x49m x50m x51m x52m x53m x54m x55m x58m x59m x60m x61m x62m x63m x64m x65m x66m x67m x68m x69m x70m x71m x72m x73m x74m (xs 1)) [0, 1, 2, 3, 4] (by decide) rfl 0 11 rfl rfl rfl tb1774 tb1771 tb1772 tb1773 tb17 ⟨by decide, by decide, by decide +kernel⟩ ⟨Nat.le_of_ble_eq_true rfl, Nat.le_of_ble_eq_true rfl⟩ rfl hl.1 rfl (Nat.le_of_ble_eq_true rfl) dL_law_702 ⟨Nat.le_of_ble_eq_true rfl, Nat.le_of_ble_eq_true rfl⟩) hP hD hS hA [0, 1, 2, 3, 4] [] rfl rfl (by decide) (by decide) (fun r_5 w6 H locs hw hP hD hS => ?_)
  have hP : va_P g vwCl [] H := hP
  have hD : va_D A [] := hD
  try dsimp only at hw
  subst hw
  refine lv_icmp_eq (tgt := 1279) hx hb dL_law_705 (by decide) (fun _ => ?_) (fun c_ => absurd rfl c_)
  exact law_end F hr hlocks hX hbl hbA hAs hS (Nat.le_of_ble_eq_true rfl) (Nat.le_of_ble_eq_true rfl) _ (lv_sub hl [0, 4] rfl)

theorem tb922 : (Jvm.Cond.methodLink "StairGangLaw" (92 : Nat) ({ cls := "StairGang", name := "alone", desc := "(I)I" } : Jvm.MethodName)) ∈ gw := lw_m 922 (by decide +kernel)
theorem tb923 : (Jvm.Cond.instanceMethod ({ cls := "StairGang", name := "alone", desc := "(I)I" } : Jvm.MethodName)) ∈ gw := lw_m 923 (by decide +kernel)
theorem tb924 : (Jvm.Cond.selects "StairGang" ({ cls := "StairGang", name := "alone", desc := "(I)I" } : Jvm.MethodName) ({ cls := "StairGang", name := "alone", desc := "(I)I" } : Jvm.MethodName)) ∈ gw := lw_m 924 (by decide +kernel)
theorem tb925 : (Jvm.Cond.code ({ cls := "StairGang", name := "alone", desc := "(I)I" } : Jvm.MethodName) prog_1_method_18_code (3 : Nat) (Option.some Jvm.ClassFile.FieldType.int)) ∈ gw := lw_m 925 (by decide +kernel)
theorem tb1779 : (Jvm.Cond.methodLink "StairGangLaw" (95 : Nat) ({ cls := "StairGangModel", name := "alone", desc := "(I)I" } : Jvm.MethodName)) ∈ gw := lw_m 1779 (by decide +kernel)
theorem tb1780 : (Jvm.Cond.instanceMethod ({ cls := "StairGangModel", name := "alone", desc := "(I)I" } : Jvm.MethodName)) ∈ gw := lw_m 1780 (by decide +kernel)
theorem tb1781 : (Jvm.Cond.selects "StairGangModel" ({ cls := "StairGangModel", name := "alone", desc := "(I)I" } : Jvm.MethodName) ({ cls := "StairGangModel", name := "alone", desc := "(I)I" } : Jvm.MethodName)) ∈ gw := lw_m 1781 (by decide +kernel)
theorem tb1782 : (Jvm.Cond.code ({ cls := "StairGangModel", name := "alone", desc := "(I)I" } : Jvm.MethodName) prog_13_method_92_code (4 : Nat) (Option.some Jvm.ClassFile.FieldType.int)) ∈ gw := lw_m 1782 (by decide +kernel)
theorem dL_law_710 : decode cL_law 710 = .ok (.aload_n 1, 1) := by decide +kernel
theorem dL_law_711 : decode cL_law 711 = .ok (.aload_n 0, 1) := by decide +kernel
theorem dL_law_712 : decode cL_law 712 = .ok (.iload 4, 2) := by decide +kernel
theorem dL_law_714 : decode cL_law 714 = .ok (.iconst 1, 1) := by decide +kernel
theorem dL_law_715 : decode cL_law 715 = .ok (.iadd, 1) := by decide +kernel
theorem dL_law_716 : decode cL_law 716 = .ok (.iaload, 1) := by decide +kernel
theorem dL_law_717 : decode cL_law 717 = .ok (.invokevirtual 92, 3) := by decide +kernel
theorem dL_law_720 : decode cL_law 720 = .ok (.aload_n 2, 1) := by decide +kernel
theorem dL_law_721 : decode cL_law 721 = .ok (.aload_n 0, 1) := by decide +kernel
theorem dL_law_722 : decode cL_law 722 = .ok (.iload 4, 2) := by decide +kernel
theorem dL_law_724 : decode cL_law 724 = .ok (.iconst 1, 1) := by decide +kernel
theorem dL_law_725 : decode cL_law 725 = .ok (.iadd, 1) := by decide +kernel
theorem dL_law_726 : decode cL_law 726 = .ok (.iaload, 1) := by decide +kernel
theorem dL_law_727 : decode cL_law 727 = .ok (.invokevirtual 95, 3) := by decide +kernel
theorem dL_law_730 : decode cL_law 730 = .ok (.if_icmp .eq 549, 3) := by decide +kernel
set_option maxHeartbeats 4000000 in
set_option maxRecDepth 100000 in
theorem lc_alone {p : Program} {l : Launch} {e : Env} {s : State} {m : MethodId} {below : List Frame} {meth : Method} {c : Code} {g : va_G} {aC : Nat → ClassId} {aM : Nat → Nat} {A : Nat → Prop} {b : Nat} {xs : Nat → Int32} (F : Fx p s m #[Value.ref b] c code 7 RL g aC aM A) (hr : meth.sig.returnType = ret) (hlocks : meth.locks = false) (hX : va_X b 7 xs s s.heap) (hbl : b < s.heap.size) (hbA : ¬ A b) (hAs : ∀ q, A q → s.heap.size ≤ q) (h1x h5x h18x : Nat) (x2x x3x x4x x6x x7x x8x x9x x10x x11x x12x x13x x14x x15x x16x x17x x19x x20x x21x x22x x23x x24x x25x x26x x27x x28x x29x : Value) (h1m h11m : Nat) (x2m x3m x4m x5m x6m x7m x8m x9m x10m x12m x13m x14m x15m x16m x17m x18m x19m x20m x21m x22m x23m x24m x25m x26m x27m x28m x29m x30m x31m x32m x33m x34m x35m x36m x37m x38m x39m x40m x41m x42m x43m x44m x45m x46m x47m x48m x49m x50m x51m x52m x53m x54m x55m x56m x57m x58m x59m x60m x61m x62m x63m x64m x65m x66m x67m x68m x69m x70m x71m x72m x73m x74m : Value) (ho : Nat) {H : Heap} {locs : List Loc} (hP : va_P g vwCl [(h1x, .inr (10, [x2x, x3x, x4x, .ref h5x, x6x, x7x, x8x, x9x, x10x, x11x, x12x, x13x, x14x, x15x, x16x, x17x])), (h5x, .inr (8, [.ref h18x, x19x, x20x, x21x, x22x, x23x, x24x, x25x, x26x, x27x, x28x, x29x])), (h18x, .inl (aC 0, 5, .inl (fun _ => 0))), (h1m, .inr (11, [.int 0, x2m, x3m, x4m, x5m, x6m, x7m, x8m, x9m, x10m, .ref h11m, x12m, x13m, x14m, x15m, x16m, x17m, x18m, x19m, x20m, x21m, x22m, x23m, x24m, x25m, x26m, x27m, x28m, x29m, x30m, x31m, x32m, x33m, x34m, x35m, x36m, x37m, x38m, x39m, x40m, x41m, x42m, x43m, x44m, x45m, x46m, x47m, x48m, x49m, x50m, x51m, x52m, x53m, x54m, x55m, x56m, x57m, x58m, x59m, x60m, x61m, x62m, x63m, x64m, x65m, x66m, x67m, x68m, x69m, x70m, x71m, x72m, x73m, x74m])), (h11m, .inl (aC 0, 14, .inl (fun _ => 0)))] H) (hD : va_D A [(h1x, .inr (10, [x2x, x3x, x4x, .ref h5x, x6x, x7x, x8x, x9x, x10x, x11x, x12x, x13x, x14x, x15x, x16x, x17x])), (h5x, .inr (8, [.ref h18x, x19x, x20x, x21x, x22x, x23x, x24x, x25x, x26x, x27x, x28x, x29x])), (h18x, .inl (aC 0, 5, .inl (fun _ => 0))), (h1m, .inr (11, [.int 0, x2m, x3m, x4m, x5m, x6m, x7m, x8m, x9m, x10m, .ref h11m, x12m, x13m, x14m, x15m, x16m, x17m, x18m, x19m, x20m, x21m, x22m, x23m, x24m, x25m, x26m, x27m, x28m, x29m, x30m, x31m, x32m, x33m, x34m, x35m, x36m, x37m, x38m, x39m, x40m, x41m, x42m, x43m, x44m, x45m, x46m, x47m, x48m, x49m, x50m, x51m, x52m, x53m, x54m, x55m, x56m, x57m, x58m, x59m, x60m, x61m, x62m, x63m, x64m, x65m, x66m, x67m, x68m, x69m, x70m, x71m, x72m, x73m, x74m])), (h11m, .inl (aC 0, 14, .inl (fun _ => 0)))]) (hS : va_S A s.heap H locs) (ls : Array Slot) (hl : lv_has ls 7 [(4, .int 0), (3, .ref ho), (2, .ref h1m), (1, .ref h1x), (0, .ref b)]) : W p l e room_1 s m #[Value.ref b] below meth c H locs 700 60000 (lw_Z below #[Value.ref b] s) (F0 m 710 ls []) := by
  obtain ⟨hx, hb, hml, hown, hts, hK, hA, hM, hM2⟩ := id F
  refine lv_aload_n hx hb dL_law_710 rfl (lv_at hl 3 rfl) ?_
  refine lv_aload_n hx hb dL_law_711 rfl (lv_at hl 4 rfl) ?_
  refine lv_iload hx hb dL_law_712 (lv_at hl 0 rfl) ?_
  refine lv_iconst (v := 1) hx hb dL_law_714 (by decide) ?_
  refine lv_iadd hx hb dL_law_715 ?_
  refine relit (v := 1) (by decide +kernel) ?_
  refine va_sld hx hb hX hbl hbA hS (vpin (j := 1) (by decide +kernel) (by decide +kernel) (by decide)) dL_law_716 ?_
  refine relit (v := xs 1) (by rw [show ((1 : Int32).toNatClampNeg) = 1 from by decide +kernel]) ?_
  refine goI (wr := [(h1m, .inr (11, [.int 0, x2m, x3m, x4m, x5m, x6m, x7m, x8m, x9m, x10m, .ref h11m, x12m, x13m, x14m, x15m, x16m, x17m, x18m, x19m, x20m, x21m, x22m, x23m, x24m, x25m, x26m, x27m, x28m, x29m, x30m, x31m, x32m, x33m, x34m, x35m, x36m, x37m, x38m, x39m, x40m, x41m, x42m, x43m, x44m, x45m, x46m, x47m, x48m, x49m, x50m, x51m, x52m, x53m, x54m, x55m, x56m, x57m, x58m, x59m, x60m, x61m, x62m, x63m, x64m, x65m, x66m, x67m, x68m, x69m, x70m, x71m, x72m, x73m, x74m])), (h11m, .inl (aC 0, 14, .inl (fun _ => 0)))]) (runV (n := 1) (As := [.int (xs 1)]) (rest := []) F hP hD hS (x_alone l g aC aM h1x h5x h18x x2x x3x x4x x6x x7x x8x x9x x10x x11x x12x x13x x14x x15x x16x x17x x19x x20x x21x x22x x23x x24x x25x x26x x27x x28x x29x (xs 1)) [0, 1, 2] (by decide) rfl 0 10 rfl rfl rfl tb925 tb922 tb923 tb924 tb1 ⟨by decide, by decide, by decide +kernel⟩ ⟨Nat.le_of_ble_eq_true rfl, Nat.le_of_ble_eq_true rfl⟩ rfl hl.1 rfl (Nat.le_of_ble_eq_true rfl) dL_law_717 ⟨Nat.le_of_ble_eq_true rfl, Nat.le_of_ble_eq_true rfl⟩) hP hD hS hA [0, 1, 2] [3, 4] rfl rfl (by decide) (by decide) (fun r_2 w3 H locs hw hP hD hS => ?_)
  have hP : va_P g vwCl [(h1m, .inr (11, [.int 0, x2m, x3m, x4m, x5m, x6m, x7m, x8m, x9m, x10m, .ref h11m, x12m, x13m, x14m, x15m, x16m, x17m, x18m, x19m, x20m, x21m, x22m, x23m, x24m, x25m, x26m, x27m, x28m, x29m, x30m, x31m, x32m, x33m, x34m, x35m, x36m, x37m, x38m, x39m, x40m, x41m, x42m, x43m, x44m, x45m, x46m, x47m, x48m, x49m, x50m, x51m, x52m, x53m, x54m, x55m, x56m, x57m, x58m, x59m, x60m, x61m, x62m, x63m, x64m, x65m, x66m, x67m, x68m, x69m, x70m, x71m, x72m, x73m, x74m])), (h11m, .inl (aC 0, 14, .inl (fun _ => 0)))] H := hP
  have hD : va_D A [(h1m, .inr (11, [.int 0, x2m, x3m, x4m, x5m, x6m, x7m, x8m, x9m, x10m, .ref h11m, x12m, x13m, x14m, x15m, x16m, x17m, x18m, x19m, x20m, x21m, x22m, x23m, x24m, x25m, x26m, x27m, x28m, x29m, x30m, x31m, x32m, x33m, x34m, x35m, x36m, x37m, x38m, x39m, x40m, x41m, x42m, x43m, x44m, x45m, x46m, x47m, x48m, x49m, x50m, x51m, x52m, x53m, x54m, x55m, x56m, x57m, x58m, x59m, x60m, x61m, x62m, x63m, x64m, x65m, x66m, x67m, x68m, x69m, x70m, x71m, x72m, x73m, x74m])), (h11m, .inl (aC 0, 14, .inl (fun _ => 0)))] := hD
  try dsimp only at hw
  subst hw
  refine lv_aload_n hx hb dL_law_720 rfl (lv_at hl 2 rfl) ?_
  refine lv_aload_n hx hb dL_law_721 rfl (lv_at hl 4 rfl) ?_
  refine lv_iload hx hb dL_law_722 (lv_at hl 0 rfl) ?_
  refine lv_iconst (v := 1) hx hb dL_law_724 (by decide) ?_
  refine lv_iadd hx hb dL_law_725 ?_
  refine relit (v := 1) (by decide +kernel) ?_
  refine va_sld hx hb hX hbl hbA hS (vpin (j := 1) (by decide +kernel) (by decide +kernel) (by decide)) dL_law_726 ?_
  refine relit (v := xs 1) (by rw [show ((1 : Int32).toNatClampNeg) = 1 from by decide +kernel]) ?_
  refine goI (wr := []) (runV (n := 1) (As := [.int (xs 1)]) (rest := [.int (-1)]) F hP hD hS (m_alone l g aC aM h1m h11m x2m x3m x4m x5m x6m x7m x8m x9m x10m x12m x13m x14m x15m x16m x17m x18m x19m x20m x21m x22m x23m x24m x25m x26m x27m x28m x29m x30m x31m x32m x33m x34m x35m x36m x37m x38m x39m x40m x41m x42m x43m x44m x45m x46m x47m x48m x49m x50m x51m x52m x53m x54m x55m x56m x57m x58m x59m x60m x61m x62m x63m x64m x65m x66m x67m x68m x69m x70m x71m x72m x73m x74m (xs 1)) [0, 1] (by decide) rfl 0 11 rfl rfl rfl tb1782 tb1779 tb1780 tb1781 tb17 ⟨by decide, by decide, by decide +kernel⟩ ⟨Nat.le_of_ble_eq_true rfl, Nat.le_of_ble_eq_true rfl⟩ rfl hl.1 rfl (Nat.le_of_ble_eq_true rfl) dL_law_727 ⟨Nat.le_of_ble_eq_true rfl, Nat.le_of_ble_eq_true rfl⟩) hP hD hS hA [0, 1] [] rfl rfl (by decide) (by decide) (fun r_5 w6 H locs hw hP hD hS => ?_)
  have hP : va_P g vwCl [] H := hP
  have hD : va_D A [] := hD
  try dsimp only at hw
  subst hw
  refine lv_icmp_eq (tgt := 1279) hx hb dL_law_730 (by decide) (fun _ => ?_) (fun c_ => absurd (by decide +kernel) c_)
  exact law_end F hr hlocks hX hbl hbA hAs hS (Nat.le_of_ble_eq_true rfl) (Nat.le_of_ble_eq_true rfl) _ (lv_sub hl [0, 4] rfl)

theorem tb926 : (Jvm.Cond.methodLink "StairGangLaw" (96 : Nat) ({ cls := "StairGang", name := "plan", desc := "(I)I" } : Jvm.MethodName)) ∈ gw := lw_m 926 (by decide +kernel)
theorem tb927 : (Jvm.Cond.instanceMethod ({ cls := "StairGang", name := "plan", desc := "(I)I" } : Jvm.MethodName)) ∈ gw := lw_m 927 (by decide +kernel)
theorem tb928 : (Jvm.Cond.selects "StairGang" ({ cls := "StairGang", name := "plan", desc := "(I)I" } : Jvm.MethodName) ({ cls := "StairGang", name := "plan", desc := "(I)I" } : Jvm.MethodName)) ∈ gw := lw_m 928 (by decide +kernel)
theorem tb929 : (Jvm.Cond.code ({ cls := "StairGang", name := "plan", desc := "(I)I" } : Jvm.MethodName) prog_1_method_19_code (6 : Nat) (Option.some Jvm.ClassFile.FieldType.int)) ∈ gw := lw_m 929 (by decide +kernel)
theorem tb1783 : (Jvm.Cond.methodLink "StairGangLaw" (99 : Nat) ({ cls := "StairGangModel", name := "plan", desc := "(I)I" } : Jvm.MethodName)) ∈ gw := lw_m 1783 (by decide +kernel)
theorem tb1784 : (Jvm.Cond.instanceMethod ({ cls := "StairGangModel", name := "plan", desc := "(I)I" } : Jvm.MethodName)) ∈ gw := lw_m 1784 (by decide +kernel)
theorem tb1785 : (Jvm.Cond.selects "StairGangModel" ({ cls := "StairGangModel", name := "plan", desc := "(I)I" } : Jvm.MethodName) ({ cls := "StairGangModel", name := "plan", desc := "(I)I" } : Jvm.MethodName)) ∈ gw := lw_m 1785 (by decide +kernel)
theorem tb1786 : (Jvm.Cond.code ({ cls := "StairGangModel", name := "plan", desc := "(I)I" } : Jvm.MethodName) prog_13_method_94_code (5 : Nat) (Option.some Jvm.ClassFile.FieldType.int)) ∈ gw := lw_m 1786 (by decide +kernel)
theorem dL_law_735 : decode cL_law 735 = .ok (.aload_n 1, 1) := by decide +kernel
theorem dL_law_736 : decode cL_law 736 = .ok (.aload_n 0, 1) := by decide +kernel
theorem dL_law_737 : decode cL_law 737 = .ok (.iload 4, 2) := by decide +kernel
theorem dL_law_739 : decode cL_law 739 = .ok (.iconst 1, 1) := by decide +kernel
theorem dL_law_740 : decode cL_law 740 = .ok (.iadd, 1) := by decide +kernel
theorem dL_law_741 : decode cL_law 741 = .ok (.iaload, 1) := by decide +kernel
theorem dL_law_742 : decode cL_law 742 = .ok (.invokevirtual 96, 3) := by decide +kernel
theorem dL_law_745 : decode cL_law 745 = .ok (.aload_n 2, 1) := by decide +kernel
theorem dL_law_746 : decode cL_law 746 = .ok (.aload_n 0, 1) := by decide +kernel
theorem dL_law_747 : decode cL_law 747 = .ok (.iload 4, 2) := by decide +kernel
theorem dL_law_749 : decode cL_law 749 = .ok (.iconst 1, 1) := by decide +kernel
theorem dL_law_750 : decode cL_law 750 = .ok (.iadd, 1) := by decide +kernel
theorem dL_law_751 : decode cL_law 751 = .ok (.iaload, 1) := by decide +kernel
theorem dL_law_752 : decode cL_law 752 = .ok (.invokevirtual 99, 3) := by decide +kernel
theorem dL_law_755 : decode cL_law 755 = .ok (.if_icmp .eq 524, 3) := by decide +kernel
set_option maxHeartbeats 4000000 in
set_option maxRecDepth 100000 in
theorem lc_plan {p : Program} {l : Launch} {e : Env} {s : State} {m : MethodId} {below : List Frame} {meth : Method} {c : Code} {g : va_G} {aC : Nat → ClassId} {aM : Nat → Nat} {A : Nat → Prop} {b : Nat} {xs : Nat → Int32} (F : Fx p s m #[Value.ref b] c code 7 RL g aC aM A) (hr : meth.sig.returnType = ret) (hlocks : meth.locks = false) (hX : va_X b 7 xs s s.heap) (hbl : b < s.heap.size) (hbA : ¬ A b) (hAs : ∀ q, A q → s.heap.size ≤ q) (h1x h5x h7x h18x : Nat) (x2x x3x x4x x6x x8x x9x x10x x11x x12x x13x x14x x15x x16x x17x x19x x20x x21x x22x x23x x24x x25x x26x x27x x28x x29x x30x x31x x32x x33x : Value) (h1m h11m h56m : Nat) (x2m x3m x4m x5m x6m x7m x8m x9m x10m x12m x13m x14m x15m x16m x17m x18m x19m x20m x21m x22m x23m x24m x25m x26m x27m x28m x29m x30m x31m x32m x33m x34m x35m x36m x37m x38m x39m x40m x41m x42m x43m x44m x45m x46m x47m x48m x49m x50m x51m x52m x53m x54m x55m x57m x58m x59m x60m x61m x62m x63m x64m x65m x66m x67m x68m x69m x70m x71m x72m x73m x74m : Value) (ho : Nat) {H : Heap} {locs : List Loc} (hP : va_P g vwCl [(h1x, .inr (10, [x2x, x3x, x4x, .ref h5x, x6x, .ref h7x, x8x, x9x, x10x, x11x, x12x, x13x, x14x, x15x, x16x, x17x])), (h5x, .inr (8, [.ref h18x, x19x, x20x, x21x, x22x, x23x, x24x, x25x, x26x, x27x, x28x, x29x])), (h18x, .inl (aC 0, 5, .inl (fun _ => 0))), (h7x, .inr (6, [.int 0, x30x, x31x, .int 0, x32x, x33x])), (h1m, .inr (11, [.int 0, x2m, x3m, x4m, x5m, x6m, x7m, x8m, x9m, x10m, .ref h11m, x12m, x13m, x14m, x15m, x16m, x17m, x18m, x19m, x20m, x21m, x22m, x23m, x24m, x25m, x26m, x27m, x28m, x29m, x30m, x31m, x32m, x33m, x34m, x35m, x36m, x37m, x38m, x39m, x40m, x41m, x42m, x43m, x44m, x45m, x46m, x47m, x48m, x49m, x50m, x51m, x52m, x53m, x54m, x55m, .ref h56m, x57m, x58m, x59m, x60m, x61m, x62m, x63m, x64m, x65m, x66m, x67m, x68m, x69m, x70m, x71m, x72m, x73m, x74m])), (h11m, .inl (aC 0, 14, .inl (fun _ => 0))), (h56m, .inl (aC 0, 13, .inl (fun _ => 0)))] H) (hD : va_D A [(h1x, .inr (10, [x2x, x3x, x4x, .ref h5x, x6x, .ref h7x, x8x, x9x, x10x, x11x, x12x, x13x, x14x, x15x, x16x, x17x])), (h5x, .inr (8, [.ref h18x, x19x, x20x, x21x, x22x, x23x, x24x, x25x, x26x, x27x, x28x, x29x])), (h18x, .inl (aC 0, 5, .inl (fun _ => 0))), (h7x, .inr (6, [.int 0, x30x, x31x, .int 0, x32x, x33x])), (h1m, .inr (11, [.int 0, x2m, x3m, x4m, x5m, x6m, x7m, x8m, x9m, x10m, .ref h11m, x12m, x13m, x14m, x15m, x16m, x17m, x18m, x19m, x20m, x21m, x22m, x23m, x24m, x25m, x26m, x27m, x28m, x29m, x30m, x31m, x32m, x33m, x34m, x35m, x36m, x37m, x38m, x39m, x40m, x41m, x42m, x43m, x44m, x45m, x46m, x47m, x48m, x49m, x50m, x51m, x52m, x53m, x54m, x55m, .ref h56m, x57m, x58m, x59m, x60m, x61m, x62m, x63m, x64m, x65m, x66m, x67m, x68m, x69m, x70m, x71m, x72m, x73m, x74m])), (h11m, .inl (aC 0, 14, .inl (fun _ => 0))), (h56m, .inl (aC 0, 13, .inl (fun _ => 0)))]) (hS : va_S A s.heap H locs) (ls : Array Slot) (hl : lv_has ls 7 [(4, .int 0), (3, .ref ho), (2, .ref h1m), (1, .ref h1x), (0, .ref b)]) : W p l e room_1 s m #[Value.ref b] below meth c H locs 700 60000 (lw_Z below #[Value.ref b] s) (F0 m 735 ls []) := by
  obtain ⟨hx, hb, hml, hown, hts, hK, hA, hM, hM2⟩ := id F
  refine lv_aload_n hx hb dL_law_735 rfl (lv_at hl 3 rfl) ?_
  refine lv_aload_n hx hb dL_law_736 rfl (lv_at hl 4 rfl) ?_
  refine lv_iload hx hb dL_law_737 (lv_at hl 0 rfl) ?_
  refine lv_iconst (v := 1) hx hb dL_law_739 (by decide) ?_
  refine lv_iadd hx hb dL_law_740 ?_
  refine relit (v := 1) (by decide +kernel) ?_
  refine va_sld hx hb hX hbl hbA hS (vpin (j := 1) (by decide +kernel) (by decide +kernel) (by decide)) dL_law_741 ?_
  refine relit (v := xs 1) (by rw [show ((1 : Int32).toNatClampNeg) = 1 from by decide +kernel]) ?_
  refine goI (wr := [(h1m, .inr (11, [.int 0, x2m, x3m, x4m, x5m, x6m, x7m, x8m, x9m, x10m, .ref h11m, x12m, x13m, x14m, x15m, x16m, x17m, x18m, x19m, x20m, x21m, x22m, x23m, x24m, x25m, x26m, x27m, x28m, x29m, x30m, x31m, x32m, x33m, x34m, x35m, x36m, x37m, x38m, x39m, x40m, x41m, x42m, x43m, x44m, x45m, x46m, x47m, x48m, x49m, x50m, x51m, x52m, x53m, x54m, x55m, .ref h56m, x57m, x58m, x59m, x60m, x61m, x62m, x63m, x64m, x65m, x66m, x67m, x68m, x69m, x70m, x71m, x72m, x73m, x74m])), (h11m, .inl (aC 0, 14, .inl (fun _ => 0))), (h56m, .inl (aC 0, 13, .inl (fun _ => 0)))]) (runV (n := 1) (As := [.int (xs 1)]) (rest := []) F hP hD hS (x_plan l g aC aM h1x h5x h7x h18x x2x x3x x4x x6x x8x x9x x10x x11x x12x x13x x14x x15x x16x x17x x19x x20x x21x x22x x23x x24x x25x x26x x27x x28x x29x x30x x31x x32x x33x (xs 1)) [0, 1, 2, 3] (by decide) rfl 0 10 rfl rfl rfl tb929 tb926 tb927 tb928 tb1 ⟨by decide, by decide, by decide +kernel⟩ ⟨Nat.le_of_ble_eq_true rfl, Nat.le_of_ble_eq_true rfl⟩ rfl hl.1 rfl (Nat.le_of_ble_eq_true rfl) dL_law_742 ⟨Nat.le_of_ble_eq_true rfl, Nat.le_of_ble_eq_true rfl⟩) hP hD hS hA [0, 1, 2, 3] [4, 5, 6] rfl rfl (by decide) (by decide) (fun r_2 w3 H locs hw hP hD hS => ?_)
  have hP : va_P g vwCl [(h1m, .inr (11, [.int 0, x2m, x3m, x4m, x5m, x6m, x7m, x8m, x9m, x10m, .ref h11m, x12m, x13m, x14m, x15m, x16m, x17m, x18m, x19m, x20m, x21m, x22m, x23m, x24m, x25m, x26m, x27m, x28m, x29m, x30m, x31m, x32m, x33m, x34m, x35m, x36m, x37m, x38m, x39m, x40m, x41m, x42m, x43m, x44m, x45m, x46m, x47m, x48m, x49m, x50m, x51m, x52m, x53m, x54m, x55m, .ref h56m, x57m, x58m, x59m, x60m, x61m, x62m, x63m, x64m, x65m, x66m, x67m, x68m, x69m, x70m, x71m, x72m, x73m, x74m])), (h11m, .inl (aC 0, 14, .inl (fun _ => 0))), (h56m, .inl (aC 0, 13, .inl (fun _ => 0)))] H := hP
  have hD : va_D A [(h1m, .inr (11, [.int 0, x2m, x3m, x4m, x5m, x6m, x7m, x8m, x9m, x10m, .ref h11m, x12m, x13m, x14m, x15m, x16m, x17m, x18m, x19m, x20m, x21m, x22m, x23m, x24m, x25m, x26m, x27m, x28m, x29m, x30m, x31m, x32m, x33m, x34m, x35m, x36m, x37m, x38m, x39m, x40m, x41m, x42m, x43m, x44m, x45m, x46m, x47m, x48m, x49m, x50m, x51m, x52m, x53m, x54m, x55m, .ref h56m, x57m, x58m, x59m, x60m, x61m, x62m, x63m, x64m, x65m, x66m, x67m, x68m, x69m, x70m, x71m, x72m, x73m, x74m])), (h11m, .inl (aC 0, 14, .inl (fun _ => 0))), (h56m, .inl (aC 0, 13, .inl (fun _ => 0)))] := hD
  try dsimp only at hw
  subst hw
  refine lv_aload_n hx hb dL_law_745 rfl (lv_at hl 2 rfl) ?_
  refine lv_aload_n hx hb dL_law_746 rfl (lv_at hl 4 rfl) ?_
  refine lv_iload hx hb dL_law_747 (lv_at hl 0 rfl) ?_
  refine lv_iconst (v := 1) hx hb dL_law_749 (by decide) ?_
  refine lv_iadd hx hb dL_law_750 ?_
  refine relit (v := 1) (by decide +kernel) ?_
  refine va_sld hx hb hX hbl hbA hS (vpin (j := 1) (by decide +kernel) (by decide +kernel) (by decide)) dL_law_751 ?_
  refine relit (v := xs 1) (by rw [show ((1 : Int32).toNatClampNeg) = 1 from by decide +kernel]) ?_
  refine goI (wr := []) (runV (n := 1) (As := [.int (xs 1)]) (rest := [.int (sp_plan (xs 1))]) F hP hD hS (m_plan l g aC aM h1m h11m h56m x2m x3m x4m x5m x6m x7m x8m x9m x10m x12m x13m x14m x15m x16m x17m x18m x19m x20m x21m x22m x23m x24m x25m x26m x27m x28m x29m x30m x31m x32m x33m x34m x35m x36m x37m x38m x39m x40m x41m x42m x43m x44m x45m x46m x47m x48m x49m x50m x51m x52m x53m x54m x55m x57m x58m x59m x60m x61m x62m x63m x64m x65m x66m x67m x68m x69m x70m x71m x72m x73m x74m (xs 1)) [0, 1, 2] (by decide) rfl 0 11 rfl rfl rfl tb1786 tb1783 tb1784 tb1785 tb17 ⟨by decide, by decide, by decide +kernel⟩ ⟨Nat.le_of_ble_eq_true rfl, Nat.le_of_ble_eq_true rfl⟩ rfl hl.1 rfl (Nat.le_of_ble_eq_true rfl) dL_law_752 ⟨Nat.le_of_ble_eq_true rfl, Nat.le_of_ble_eq_true rfl⟩) hP hD hS hA [0, 1, 2] [] rfl rfl (by decide) (by decide) (fun r_5 w6 H locs hw hP hD hS => ?_)
  have hP : va_P g vwCl [] H := hP
  have hD : va_D A [] := hD
  try dsimp only at hw
  subst hw
  refine lv_icmp_eq (tgt := 1279) hx hb dL_law_755 (by decide) (fun _ => ?_) (fun c_ => absurd rfl c_)
  exact law_end F hr hlocks hX hbl hbA hAs hS (Nat.le_of_ble_eq_true rfl) (Nat.le_of_ble_eq_true rfl) _ (lv_sub hl [0, 4] rfl)

theorem tb931 : (Jvm.Cond.methodLink "StairGangLaw" (100 : Nat) ({ cls := "StairGang", name := "thefts", desc := "(III)I" } : Jvm.MethodName)) ∈ gw := lw_m 931 (by decide +kernel)
theorem tb932 : (Jvm.Cond.instanceMethod ({ cls := "StairGang", name := "thefts", desc := "(III)I" } : Jvm.MethodName)) ∈ gw := lw_m 932 (by decide +kernel)
theorem tb933 : (Jvm.Cond.selects "StairGang" ({ cls := "StairGang", name := "thefts", desc := "(III)I" } : Jvm.MethodName) ({ cls := "StairGang", name := "thefts", desc := "(III)I" } : Jvm.MethodName)) ∈ gw := lw_m 933 (by decide +kernel)
theorem tb934 : (Jvm.Cond.code ({ cls := "StairGang", name := "thefts", desc := "(III)I" } : Jvm.MethodName) prog_1_method_20_code (9 : Nat) (Option.some Jvm.ClassFile.FieldType.int)) ∈ gw := lw_m 934 (by decide +kernel)
theorem tb1791 : (Jvm.Cond.methodLink "StairGangLaw" (104 : Nat) ({ cls := "StairGangModel", name := "thefts", desc := "(III)I" } : Jvm.MethodName)) ∈ gw := lw_m 1791 (by decide +kernel)
theorem tb1792 : (Jvm.Cond.instanceMethod ({ cls := "StairGangModel", name := "thefts", desc := "(III)I" } : Jvm.MethodName)) ∈ gw := lw_m 1792 (by decide +kernel)
theorem tb1793 : (Jvm.Cond.selects "StairGangModel" ({ cls := "StairGangModel", name := "thefts", desc := "(III)I" } : Jvm.MethodName) ({ cls := "StairGangModel", name := "thefts", desc := "(III)I" } : Jvm.MethodName)) ∈ gw := lw_m 1793 (by decide +kernel)
theorem tb1794 : (Jvm.Cond.code ({ cls := "StairGangModel", name := "thefts", desc := "(III)I" } : Jvm.MethodName) prog_13_method_96_code (7 : Nat) (Option.some Jvm.ClassFile.FieldType.int)) ∈ gw := lw_m 1794 (by decide +kernel)
theorem dL_law_760 : decode cL_law 760 = .ok (.aload_n 1, 1) := by decide +kernel
theorem dL_law_761 : decode cL_law 761 = .ok (.aload_n 0, 1) := by decide +kernel
theorem dL_law_762 : decode cL_law 762 = .ok (.iload 4, 2) := by decide +kernel
theorem dL_law_764 : decode cL_law 764 = .ok (.iconst 1, 1) := by decide +kernel
theorem dL_law_765 : decode cL_law 765 = .ok (.iadd, 1) := by decide +kernel
theorem dL_law_766 : decode cL_law 766 = .ok (.iaload, 1) := by decide +kernel
theorem dL_law_767 : decode cL_law 767 = .ok (.aload_n 0, 1) := by decide +kernel
theorem dL_law_768 : decode cL_law 768 = .ok (.iload 4, 2) := by decide +kernel
theorem dL_law_770 : decode cL_law 770 = .ok (.iconst 2, 1) := by decide +kernel
theorem dL_law_771 : decode cL_law 771 = .ok (.iadd, 1) := by decide +kernel
theorem dL_law_772 : decode cL_law 772 = .ok (.iaload, 1) := by decide +kernel
theorem dL_law_773 : decode cL_law 773 = .ok (.aload_n 0, 1) := by decide +kernel
theorem dL_law_774 : decode cL_law 774 = .ok (.iload 4, 2) := by decide +kernel
theorem dL_law_776 : decode cL_law 776 = .ok (.iconst 3, 1) := by decide +kernel
theorem dL_law_777 : decode cL_law 777 = .ok (.iadd, 1) := by decide +kernel
theorem dL_law_778 : decode cL_law 778 = .ok (.iaload, 1) := by decide +kernel
theorem dL_law_779 : decode cL_law 779 = .ok (.invokevirtual 100, 3) := by decide +kernel
theorem dL_law_782 : decode cL_law 782 = .ok (.aload_n 2, 1) := by decide +kernel
theorem dL_law_783 : decode cL_law 783 = .ok (.aload_n 0, 1) := by decide +kernel
theorem dL_law_784 : decode cL_law 784 = .ok (.iload 4, 2) := by decide +kernel
theorem dL_law_786 : decode cL_law 786 = .ok (.iconst 1, 1) := by decide +kernel
theorem dL_law_787 : decode cL_law 787 = .ok (.iadd, 1) := by decide +kernel
theorem dL_law_788 : decode cL_law 788 = .ok (.iaload, 1) := by decide +kernel
theorem dL_law_789 : decode cL_law 789 = .ok (.aload_n 0, 1) := by decide +kernel
theorem dL_law_790 : decode cL_law 790 = .ok (.iload 4, 2) := by decide +kernel
theorem dL_law_792 : decode cL_law 792 = .ok (.iconst 2, 1) := by decide +kernel
theorem dL_law_793 : decode cL_law 793 = .ok (.iadd, 1) := by decide +kernel
theorem dL_law_794 : decode cL_law 794 = .ok (.iaload, 1) := by decide +kernel
theorem dL_law_795 : decode cL_law 795 = .ok (.aload_n 0, 1) := by decide +kernel
theorem dL_law_796 : decode cL_law 796 = .ok (.iload 4, 2) := by decide +kernel
theorem dL_law_798 : decode cL_law 798 = .ok (.iconst 3, 1) := by decide +kernel
theorem dL_law_799 : decode cL_law 799 = .ok (.iadd, 1) := by decide +kernel
theorem dL_law_800 : decode cL_law 800 = .ok (.iaload, 1) := by decide +kernel
theorem dL_law_801 : decode cL_law 801 = .ok (.invokevirtual 104, 3) := by decide +kernel
theorem dL_law_804 : decode cL_law 804 = .ok (.if_icmp .eq 475, 3) := by decide +kernel
set_option maxHeartbeats 4000000 in
set_option maxRecDepth 100000 in
theorem lc_thefts {p : Program} {l : Launch} {e : Env} {s : State} {m : MethodId} {below : List Frame} {meth : Method} {c : Code} {g : va_G} {aC : Nat → ClassId} {aM : Nat → Nat} {A : Nat → Prop} {b : Nat} {xs : Nat → Int32} (F : Fx p s m #[Value.ref b] c code 7 RL g aC aM A) (hr : meth.sig.returnType = ret) (hlocks : meth.locks = false) (hX : va_X b 7 xs s s.heap) (hbl : b < s.heap.size) (hbA : ¬ A b) (hAs : ∀ q, A q → s.heap.size ≤ q) (h1x h5x h7x h18x : Nat) (x2x x3x x4x x6x x8x x9x x10x x11x x12x x13x x14x x15x x16x x17x x19x x20x x21x x22x x23x x24x x25x x26x x27x x28x x29x x30x x31x x32x x33x x34x : Value) (h1m h11m h56m : Nat) (x2m x3m x4m x5m x6m x7m x8m x9m x10m x12m x13m x14m x15m x16m x17m x18m x19m x20m x21m x22m x23m x24m x25m x26m x27m x28m x29m x30m x31m x32m x33m x34m x35m x36m x37m x38m x39m x40m x41m x42m x43m x44m x45m x46m x47m x48m x49m x50m x51m x52m x53m x54m x55m x57m x58m x59m x60m x61m x62m x63m x64m x65m x66m x67m x68m x69m x70m x71m x72m x73m x74m : Value) (ho : Nat) {H : Heap} {locs : List Loc} (hP : va_P g vwCl [(h1x, .inr (10, [x2x, x3x, x4x, .ref h5x, x6x, .ref h7x, x8x, x9x, x10x, x11x, x12x, x13x, x14x, x15x, x16x, x17x])), (h5x, .inr (8, [.ref h18x, x19x, x20x, x21x, x22x, x23x, x24x, x25x, x26x, x27x, x28x, x29x])), (h18x, .inl (aC 0, 5, .inl (fun _ => 0))), (h7x, .inr (6, [.int 0, x30x, x31x, x32x, x33x, x34x])), (h1m, .inr (11, [.int 0, x2m, x3m, x4m, x5m, x6m, x7m, x8m, x9m, x10m, .ref h11m, x12m, x13m, x14m, x15m, x16m, x17m, x18m, x19m, x20m, x21m, x22m, x23m, x24m, x25m, x26m, x27m, x28m, x29m, x30m, x31m, x32m, x33m, x34m, x35m, x36m, x37m, x38m, x39m, x40m, x41m, x42m, x43m, x44m, x45m, x46m, x47m, x48m, x49m, x50m, x51m, x52m, x53m, x54m, x55m, .ref h56m, x57m, x58m, x59m, x60m, x61m, x62m, x63m, x64m, x65m, x66m, x67m, x68m, x69m, x70m, x71m, x72m, x73m, x74m])), (h11m, .inl (aC 0, 14, .inl (fun _ => 0))), (h56m, .inl (aC 0, 13, .inl (fun _ => 0)))] H) (hD : va_D A [(h1x, .inr (10, [x2x, x3x, x4x, .ref h5x, x6x, .ref h7x, x8x, x9x, x10x, x11x, x12x, x13x, x14x, x15x, x16x, x17x])), (h5x, .inr (8, [.ref h18x, x19x, x20x, x21x, x22x, x23x, x24x, x25x, x26x, x27x, x28x, x29x])), (h18x, .inl (aC 0, 5, .inl (fun _ => 0))), (h7x, .inr (6, [.int 0, x30x, x31x, x32x, x33x, x34x])), (h1m, .inr (11, [.int 0, x2m, x3m, x4m, x5m, x6m, x7m, x8m, x9m, x10m, .ref h11m, x12m, x13m, x14m, x15m, x16m, x17m, x18m, x19m, x20m, x21m, x22m, x23m, x24m, x25m, x26m, x27m, x28m, x29m, x30m, x31m, x32m, x33m, x34m, x35m, x36m, x37m, x38m, x39m, x40m, x41m, x42m, x43m, x44m, x45m, x46m, x47m, x48m, x49m, x50m, x51m, x52m, x53m, x54m, x55m, .ref h56m, x57m, x58m, x59m, x60m, x61m, x62m, x63m, x64m, x65m, x66m, x67m, x68m, x69m, x70m, x71m, x72m, x73m, x74m])), (h11m, .inl (aC 0, 14, .inl (fun _ => 0))), (h56m, .inl (aC 0, 13, .inl (fun _ => 0)))]) (hS : va_S A s.heap H locs) (ls : Array Slot) (hl : lv_has ls 7 [(4, .int 0), (3, .ref ho), (2, .ref h1m), (1, .ref h1x), (0, .ref b)]) : W p l e room_1 s m #[Value.ref b] below meth c H locs 700 60000 (lw_Z below #[Value.ref b] s) (F0 m 760 ls []) := by
  obtain ⟨hx, hb, hml, hown, hts, hK, hA, hM, hM2⟩ := id F
  refine lv_aload_n hx hb dL_law_760 rfl (lv_at hl 3 rfl) ?_
  refine lv_aload_n hx hb dL_law_761 rfl (lv_at hl 4 rfl) ?_
  refine lv_iload hx hb dL_law_762 (lv_at hl 0 rfl) ?_
  refine lv_iconst (v := 1) hx hb dL_law_764 (by decide) ?_
  refine lv_iadd hx hb dL_law_765 ?_
  refine relit (v := 1) (by decide +kernel) ?_
  refine va_sld hx hb hX hbl hbA hS (vpin (j := 1) (by decide +kernel) (by decide +kernel) (by decide)) dL_law_766 ?_
  refine relit (v := xs 1) (by rw [show ((1 : Int32).toNatClampNeg) = 1 from by decide +kernel]) ?_
  refine lv_aload_n hx hb dL_law_767 rfl (lv_at hl 4 rfl) ?_
  refine lv_iload hx hb dL_law_768 (lv_at hl 0 rfl) ?_
  refine lv_iconst (v := 2) hx hb dL_law_770 (by decide) ?_
  refine lv_iadd hx hb dL_law_771 ?_
  refine relit (v := 2) (by decide +kernel) ?_
  refine va_sld hx hb hX hbl hbA hS (vpin (j := 2) (by decide +kernel) (by decide +kernel) (by decide)) dL_law_772 ?_
  refine relit (v := xs 2) (by rw [show ((2 : Int32).toNatClampNeg) = 2 from by decide +kernel]) ?_
  refine lv_aload_n hx hb dL_law_773 rfl (lv_at hl 4 rfl) ?_
  refine lv_iload hx hb dL_law_774 (lv_at hl 0 rfl) ?_
  refine lv_iconst (v := 3) hx hb dL_law_776 (by decide) ?_
  refine lv_iadd hx hb dL_law_777 ?_
  refine relit (v := 3) (by decide +kernel) ?_
  refine va_sld hx hb hX hbl hbA hS (vpin (j := 3) (by decide +kernel) (by decide +kernel) (by decide)) dL_law_778 ?_
  refine relit (v := xs 3) (by rw [show ((3 : Int32).toNatClampNeg) = 3 from by decide +kernel]) ?_
  refine goI (wr := [(h1m, .inr (11, [.int 0, x2m, x3m, x4m, x5m, x6m, x7m, x8m, x9m, x10m, .ref h11m, x12m, x13m, x14m, x15m, x16m, x17m, x18m, x19m, x20m, x21m, x22m, x23m, x24m, x25m, x26m, x27m, x28m, x29m, x30m, x31m, x32m, x33m, x34m, x35m, x36m, x37m, x38m, x39m, x40m, x41m, x42m, x43m, x44m, x45m, x46m, x47m, x48m, x49m, x50m, x51m, x52m, x53m, x54m, x55m, .ref h56m, x57m, x58m, x59m, x60m, x61m, x62m, x63m, x64m, x65m, x66m, x67m, x68m, x69m, x70m, x71m, x72m, x73m, x74m])), (h11m, .inl (aC 0, 14, .inl (fun _ => 0))), (h56m, .inl (aC 0, 13, .inl (fun _ => 0)))]) (runV (n := 3) (As := [.int (xs 1), .int (xs 2), .int (xs 3)]) (rest := []) F hP hD hS (x_thefts l g aC aM h1x h5x h7x h18x x2x x3x x4x x6x x8x x9x x10x x11x x12x x13x x14x x15x x16x x17x x19x x20x x21x x22x x23x x24x x25x x26x x27x x28x x29x x30x x31x x32x x33x x34x (xs 1) (xs 2) (xs 3)) [0, 1, 2, 3] (by decide) rfl 0 10 rfl rfl rfl tb934 tb931 tb932 tb933 tb1 ⟨by decide, by decide, by decide +kernel⟩ ⟨Nat.le_of_ble_eq_true rfl, Nat.le_of_ble_eq_true rfl⟩ rfl hl.1 rfl (Nat.le_of_ble_eq_true rfl) dL_law_779 ⟨Nat.le_of_ble_eq_true rfl, Nat.le_of_ble_eq_true rfl⟩) hP hD hS hA [0, 1, 2, 3] [4, 5, 6] rfl rfl (by decide) (by decide) (fun r_2 w3 H locs hw hP hD hS => ?_)
  have hP : va_P g vwCl [(h1m, .inr (11, [.int 0, x2m, x3m, x4m, x5m, x6m, x7m, x8m, x9m, x10m, .ref h11m, x12m, x13m, x14m, x15m, x16m, x17m, x18m, x19m, x20m, x21m, x22m, x23m, x24m, x25m, x26m, x27m, x28m, x29m, x30m, x31m, x32m, x33m, x34m, x35m, x36m, x37m, x38m, x39m, x40m, x41m, x42m, x43m, x44m, x45m, x46m, x47m, x48m, x49m, x50m, x51m, x52m, x53m, x54m, x55m, .ref h56m, x57m, x58m, x59m, x60m, x61m, x62m, x63m, x64m, x65m, x66m, x67m, x68m, x69m, x70m, x71m, x72m, x73m, x74m])), (h11m, .inl (aC 0, 14, .inl (fun _ => 0))), (h56m, .inl (aC 0, 13, .inl (fun _ => 0)))] H := hP
  have hD : va_D A [(h1m, .inr (11, [.int 0, x2m, x3m, x4m, x5m, x6m, x7m, x8m, x9m, x10m, .ref h11m, x12m, x13m, x14m, x15m, x16m, x17m, x18m, x19m, x20m, x21m, x22m, x23m, x24m, x25m, x26m, x27m, x28m, x29m, x30m, x31m, x32m, x33m, x34m, x35m, x36m, x37m, x38m, x39m, x40m, x41m, x42m, x43m, x44m, x45m, x46m, x47m, x48m, x49m, x50m, x51m, x52m, x53m, x54m, x55m, .ref h56m, x57m, x58m, x59m, x60m, x61m, x62m, x63m, x64m, x65m, x66m, x67m, x68m, x69m, x70m, x71m, x72m, x73m, x74m])), (h11m, .inl (aC 0, 14, .inl (fun _ => 0))), (h56m, .inl (aC 0, 13, .inl (fun _ => 0)))] := hD
  try dsimp only at hw
  subst hw
  refine lv_aload_n hx hb dL_law_782 rfl (lv_at hl 2 rfl) ?_
  refine lv_aload_n hx hb dL_law_783 rfl (lv_at hl 4 rfl) ?_
  refine lv_iload hx hb dL_law_784 (lv_at hl 0 rfl) ?_
  refine lv_iconst (v := 1) hx hb dL_law_786 (by decide) ?_
  refine lv_iadd hx hb dL_law_787 ?_
  refine relit (v := 1) (by decide +kernel) ?_
  refine va_sld hx hb hX hbl hbA hS (vpin (j := 1) (by decide +kernel) (by decide +kernel) (by decide)) dL_law_788 ?_
  refine relit (v := xs 1) (by rw [show ((1 : Int32).toNatClampNeg) = 1 from by decide +kernel]) ?_
  refine lv_aload_n hx hb dL_law_789 rfl (lv_at hl 4 rfl) ?_
  refine lv_iload hx hb dL_law_790 (lv_at hl 0 rfl) ?_
  refine lv_iconst (v := 2) hx hb dL_law_792 (by decide) ?_
  refine lv_iadd hx hb dL_law_793 ?_
  refine relit (v := 2) (by decide +kernel) ?_
  refine va_sld hx hb hX hbl hbA hS (vpin (j := 2) (by decide +kernel) (by decide +kernel) (by decide)) dL_law_794 ?_
  refine relit (v := xs 2) (by rw [show ((2 : Int32).toNatClampNeg) = 2 from by decide +kernel]) ?_
  refine lv_aload_n hx hb dL_law_795 rfl (lv_at hl 4 rfl) ?_
  refine lv_iload hx hb dL_law_796 (lv_at hl 0 rfl) ?_
  refine lv_iconst (v := 3) hx hb dL_law_798 (by decide) ?_
  refine lv_iadd hx hb dL_law_799 ?_
  refine relit (v := 3) (by decide +kernel) ?_
  refine va_sld hx hb hX hbl hbA hS (vpin (j := 3) (by decide +kernel) (by decide +kernel) (by decide)) dL_law_800 ?_
  refine relit (v := xs 3) (by rw [show ((3 : Int32).toNatClampNeg) = 3 from by decide +kernel]) ?_
  refine goI (wr := []) (runV (n := 3) (As := [.int (xs 1), .int (xs 2), .int (xs 3)]) (rest := [.int (sp_thefts (xs 1) (xs 2) (xs 3))]) F hP hD hS (m_thefts l g aC aM h1m h11m h56m x2m x3m x4m x5m x6m x7m x8m x9m x10m x12m x13m x14m x15m x16m x17m x18m x19m x20m x21m x22m x23m x24m x25m x26m x27m x28m x29m x30m x31m x32m x33m x34m x35m x36m x37m x38m x39m x40m x41m x42m x43m x44m x45m x46m x47m x48m x49m x50m x51m x52m x53m x54m x55m x57m x58m x59m x60m x61m x62m x63m x64m x65m x66m x67m x68m x69m x70m x71m x72m x73m x74m (xs 1) (xs 2) (xs 3)) [0, 1, 2] (by decide) rfl 0 11 rfl rfl rfl tb1794 tb1791 tb1792 tb1793 tb17 ⟨by decide, by decide, by decide +kernel⟩ ⟨Nat.le_of_ble_eq_true rfl, Nat.le_of_ble_eq_true rfl⟩ rfl hl.1 rfl (Nat.le_of_ble_eq_true rfl) dL_law_801 ⟨Nat.le_of_ble_eq_true rfl, Nat.le_of_ble_eq_true rfl⟩) hP hD hS hA [0, 1, 2] [] rfl rfl (by decide) (by decide) (fun r_5 w6 H locs hw hP hD hS => ?_)
  have hP : va_P g vwCl [] H := hP
  have hD : va_D A [] := hD
  try dsimp only at hw
  subst hw
  refine lv_icmp_eq (tgt := 1279) hx hb dL_law_804 (by decide) (fun _ => ?_) (fun c_ => absurd rfl c_)
  exact law_end F hr hlocks hX hbl hbA hAs hS (Nat.le_of_ble_eq_true rfl) (Nat.le_of_ble_eq_true rfl) _ (lv_sub hl [0, 4] rfl)

theorem tb937 : (Jvm.Cond.methodLink "StairGangLaw" (105 : Nat) ({ cls := "StairGang", name := "see", desc := "(IIZ)Z" } : Jvm.MethodName)) ∈ gw := lw_m 937 (by decide +kernel)
theorem tb938 : (Jvm.Cond.instanceMethod ({ cls := "StairGang", name := "see", desc := "(IIZ)Z" } : Jvm.MethodName)) ∈ gw := lw_m 938 (by decide +kernel)
theorem tb939 : (Jvm.Cond.selects "StairGang" ({ cls := "StairGang", name := "see", desc := "(IIZ)Z" } : Jvm.MethodName) ({ cls := "StairGang", name := "see", desc := "(IIZ)Z" } : Jvm.MethodName)) ∈ gw := lw_m 939 (by decide +kernel)
theorem tb940 : (Jvm.Cond.code ({ cls := "StairGang", name := "see", desc := "(IIZ)Z" } : Jvm.MethodName) prog_1_method_21_code (5 : Nat) (Option.some Jvm.ClassFile.FieldType.boolean)) ∈ gw := lw_m 940 (by decide +kernel)
theorem tb1799 : (Jvm.Cond.methodLink "StairGangLaw" (109 : Nat) ({ cls := "StairGangModel", name := "see", desc := "(IIZ)Z" } : Jvm.MethodName)) ∈ gw := lw_m 1799 (by decide +kernel)
theorem tb1800 : (Jvm.Cond.instanceMethod ({ cls := "StairGangModel", name := "see", desc := "(IIZ)Z" } : Jvm.MethodName)) ∈ gw := lw_m 1800 (by decide +kernel)
theorem tb1801 : (Jvm.Cond.selects "StairGangModel" ({ cls := "StairGangModel", name := "see", desc := "(IIZ)Z" } : Jvm.MethodName) ({ cls := "StairGangModel", name := "see", desc := "(IIZ)Z" } : Jvm.MethodName)) ∈ gw := lw_m 1801 (by decide +kernel)
theorem tb1802 : (Jvm.Cond.code ({ cls := "StairGangModel", name := "see", desc := "(IIZ)Z" } : Jvm.MethodName) prog_13_method_97_code (4 : Nat) (Option.some Jvm.ClassFile.FieldType.boolean)) ∈ gw := lw_m 1802 (by decide +kernel)
theorem dL_law_809 : decode cL_law 809 = .ok (.aload_n 1, 1) := by decide +kernel
theorem dL_law_810 : decode cL_law 810 = .ok (.aload_n 0, 1) := by decide +kernel
theorem dL_law_811 : decode cL_law 811 = .ok (.iload 4, 2) := by decide +kernel
theorem dL_law_813 : decode cL_law 813 = .ok (.iconst 1, 1) := by decide +kernel
theorem dL_law_814 : decode cL_law 814 = .ok (.iadd, 1) := by decide +kernel
theorem dL_law_815 : decode cL_law 815 = .ok (.iaload, 1) := by decide +kernel
theorem dL_law_816 : decode cL_law 816 = .ok (.aload_n 0, 1) := by decide +kernel
theorem dL_law_817 : decode cL_law 817 = .ok (.iload 4, 2) := by decide +kernel
theorem dL_law_819 : decode cL_law 819 = .ok (.iconst 2, 1) := by decide +kernel
theorem dL_law_820 : decode cL_law 820 = .ok (.iadd, 1) := by decide +kernel
theorem dL_law_821 : decode cL_law 821 = .ok (.iaload, 1) := by decide +kernel
theorem dL_law_822 : decode cL_law 822 = .ok (.aload_n 0, 1) := by decide +kernel
theorem dL_law_823 : decode cL_law 823 = .ok (.iload 4, 2) := by decide +kernel
theorem dL_law_825 : decode cL_law 825 = .ok (.iconst 3, 1) := by decide +kernel
theorem dL_law_826 : decode cL_law 826 = .ok (.iadd, 1) := by decide +kernel
theorem dL_law_827 : decode cL_law 827 = .ok (.iaload, 1) := by decide +kernel
theorem dL_law_828 : decode cL_law 828 = .ok (.ifCond .eq 7, 3) := by decide +kernel
theorem dL_law_831 : decode cL_law 831 = .ok (.iconst 1, 1) := by decide +kernel
theorem dL_law_832 : decode cL_law 832 = .ok (.goto 4, 3) := by decide +kernel
theorem dL_law_835 : decode cL_law 835 = .ok (.iconst 0, 1) := by decide +kernel
theorem dL_law_836 : decode cL_law 836 = .ok (.invokevirtual 105, 3) := by decide +kernel
theorem dL_law_839 : decode cL_law 839 = .ok (.aload_n 2, 1) := by decide +kernel
theorem dL_law_840 : decode cL_law 840 = .ok (.aload_n 0, 1) := by decide +kernel
theorem dL_law_841 : decode cL_law 841 = .ok (.iload 4, 2) := by decide +kernel
theorem dL_law_843 : decode cL_law 843 = .ok (.iconst 1, 1) := by decide +kernel
theorem dL_law_844 : decode cL_law 844 = .ok (.iadd, 1) := by decide +kernel
theorem dL_law_845 : decode cL_law 845 = .ok (.iaload, 1) := by decide +kernel
theorem dL_law_846 : decode cL_law 846 = .ok (.aload_n 0, 1) := by decide +kernel
theorem dL_law_847 : decode cL_law 847 = .ok (.iload 4, 2) := by decide +kernel
theorem dL_law_849 : decode cL_law 849 = .ok (.iconst 2, 1) := by decide +kernel
theorem dL_law_850 : decode cL_law 850 = .ok (.iadd, 1) := by decide +kernel
theorem dL_law_851 : decode cL_law 851 = .ok (.iaload, 1) := by decide +kernel
theorem dL_law_852 : decode cL_law 852 = .ok (.aload_n 0, 1) := by decide +kernel
theorem dL_law_853 : decode cL_law 853 = .ok (.iload 4, 2) := by decide +kernel
theorem dL_law_855 : decode cL_law 855 = .ok (.iconst 3, 1) := by decide +kernel
theorem dL_law_856 : decode cL_law 856 = .ok (.iadd, 1) := by decide +kernel
theorem dL_law_857 : decode cL_law 857 = .ok (.iaload, 1) := by decide +kernel
theorem dL_law_858 : decode cL_law 858 = .ok (.ifCond .eq 7, 3) := by decide +kernel
theorem dL_law_861 : decode cL_law 861 = .ok (.iconst 1, 1) := by decide +kernel
theorem dL_law_862 : decode cL_law 862 = .ok (.goto 4, 3) := by decide +kernel
theorem dL_law_865 : decode cL_law 865 = .ok (.iconst 0, 1) := by decide +kernel
theorem dL_law_866 : decode cL_law 866 = .ok (.invokevirtual 109, 3) := by decide +kernel
theorem dL_law_869 : decode cL_law 869 = .ok (.if_icmp .eq 410, 3) := by decide +kernel
set_option maxHeartbeats 4000000 in
set_option maxRecDepth 100000 in
theorem lc_see {p : Program} {l : Launch} {e : Env} {s : State} {m : MethodId} {below : List Frame} {meth : Method} {c : Code} {g : va_G} {aC : Nat → ClassId} {aM : Nat → Nat} {A : Nat → Prop} {b : Nat} {xs : Nat → Int32} (F : Fx p s m #[Value.ref b] c code 7 RL g aC aM A) (hr : meth.sig.returnType = ret) (hlocks : meth.locks = false) (hX : va_X b 7 xs s s.heap) (hbl : b < s.heap.size) (hbA : ¬ A b) (hAs : ∀ q, A q → s.heap.size ≤ q) (h1x h5x h18x : Nat) (x2x x3x x4x x6x x7x x8x x9x x10x x11x x12x x13x x14x x15x x16x x17x x19x x20x x21x x22x x23x x24x x25x x26x x27x x28x x29x : Value) (h1m h11m : Nat) (x2m x3m x4m x5m x6m x7m x8m x9m x10m x12m x13m x14m x15m x16m x17m x18m x19m x20m x21m x22m x23m x24m x25m x26m x27m x28m x29m x30m x31m x32m x33m x34m x35m x36m x37m x38m x39m x40m x41m x42m x43m x44m x45m x46m x47m x48m x49m x50m x51m x52m x53m x54m x55m x56m x57m x58m x59m x60m x61m x62m x63m x64m x65m x66m x67m x68m x69m x70m x71m x72m x73m x74m : Value) (ho : Nat) {H : Heap} {locs : List Loc} (hP : va_P g vwCl [(h1x, .inr (10, [x2x, x3x, x4x, .ref h5x, x6x, x7x, x8x, x9x, x10x, x11x, x12x, x13x, x14x, x15x, x16x, x17x])), (h5x, .inr (8, [.ref h18x, x19x, x20x, x21x, x22x, x23x, x24x, x25x, x26x, x27x, x28x, x29x])), (h18x, .inl (aC 0, 5, .inl (fun _ => 0))), (h1m, .inr (11, [.int 0, x2m, x3m, x4m, x5m, x6m, x7m, x8m, x9m, x10m, .ref h11m, x12m, x13m, x14m, x15m, x16m, x17m, x18m, x19m, x20m, x21m, x22m, x23m, x24m, x25m, x26m, x27m, x28m, x29m, x30m, x31m, x32m, x33m, x34m, x35m, x36m, x37m, x38m, x39m, x40m, x41m, x42m, x43m, x44m, x45m, x46m, x47m, x48m, x49m, x50m, x51m, x52m, x53m, x54m, x55m, x56m, x57m, x58m, x59m, x60m, x61m, x62m, x63m, x64m, x65m, x66m, x67m, x68m, x69m, x70m, x71m, x72m, x73m, x74m])), (h11m, .inl (aC 0, 14, .inl (fun _ => 0)))] H) (hD : va_D A [(h1x, .inr (10, [x2x, x3x, x4x, .ref h5x, x6x, x7x, x8x, x9x, x10x, x11x, x12x, x13x, x14x, x15x, x16x, x17x])), (h5x, .inr (8, [.ref h18x, x19x, x20x, x21x, x22x, x23x, x24x, x25x, x26x, x27x, x28x, x29x])), (h18x, .inl (aC 0, 5, .inl (fun _ => 0))), (h1m, .inr (11, [.int 0, x2m, x3m, x4m, x5m, x6m, x7m, x8m, x9m, x10m, .ref h11m, x12m, x13m, x14m, x15m, x16m, x17m, x18m, x19m, x20m, x21m, x22m, x23m, x24m, x25m, x26m, x27m, x28m, x29m, x30m, x31m, x32m, x33m, x34m, x35m, x36m, x37m, x38m, x39m, x40m, x41m, x42m, x43m, x44m, x45m, x46m, x47m, x48m, x49m, x50m, x51m, x52m, x53m, x54m, x55m, x56m, x57m, x58m, x59m, x60m, x61m, x62m, x63m, x64m, x65m, x66m, x67m, x68m, x69m, x70m, x71m, x72m, x73m, x74m])), (h11m, .inl (aC 0, 14, .inl (fun _ => 0)))]) (hS : va_S A s.heap H locs) (ls : Array Slot) (hl : lv_has ls 7 [(4, .int 0), (3, .ref ho), (2, .ref h1m), (1, .ref h1x), (0, .ref b)]) : W p l e room_1 s m #[Value.ref b] below meth c H locs 700 60000 (lw_Z below #[Value.ref b] s) (F0 m 809 ls []) := by
  obtain ⟨hx, hb, hml, hown, hts, hK, hA, hM, hM2⟩ := id F
  refine lv_aload_n hx hb dL_law_809 rfl (lv_at hl 3 rfl) ?_
  refine lv_aload_n hx hb dL_law_810 rfl (lv_at hl 4 rfl) ?_
  refine lv_iload hx hb dL_law_811 (lv_at hl 0 rfl) ?_
  refine lv_iconst (v := 1) hx hb dL_law_813 (by decide) ?_
  refine lv_iadd hx hb dL_law_814 ?_
  refine relit (v := 1) (by decide +kernel) ?_
  refine va_sld hx hb hX hbl hbA hS (vpin (j := 1) (by decide +kernel) (by decide +kernel) (by decide)) dL_law_815 ?_
  refine relit (v := xs 1) (by rw [show ((1 : Int32).toNatClampNeg) = 1 from by decide +kernel]) ?_
  refine lv_aload_n hx hb dL_law_816 rfl (lv_at hl 4 rfl) ?_
  refine lv_iload hx hb dL_law_817 (lv_at hl 0 rfl) ?_
  refine lv_iconst (v := 2) hx hb dL_law_819 (by decide) ?_
  refine lv_iadd hx hb dL_law_820 ?_
  refine relit (v := 2) (by decide +kernel) ?_
  refine va_sld hx hb hX hbl hbA hS (vpin (j := 2) (by decide +kernel) (by decide +kernel) (by decide)) dL_law_821 ?_
  refine relit (v := xs 2) (by rw [show ((2 : Int32).toNatClampNeg) = 2 from by decide +kernel]) ?_
  refine lv_aload_n hx hb dL_law_822 rfl (lv_at hl 4 rfl) ?_
  refine lv_iload hx hb dL_law_823 (lv_at hl 0 rfl) ?_
  refine lv_iconst (v := 3) hx hb dL_law_825 (by decide) ?_
  refine lv_iadd hx hb dL_law_826 ?_
  refine relit (v := 3) (by decide +kernel) ?_
  refine va_sld hx hb hX hbl hbA hS (vpin (j := 3) (by decide +kernel) (by decide +kernel) (by decide)) dL_law_827 ?_
  refine relit (v := xs 3) (by rw [show ((3 : Int32).toNatClampNeg) = 3 from by decide +kernel]) ?_
  refine lv_if_eq (tgt := 835) hx hb dL_law_828 (by decide) (fun c1 => ?_) (fun c1 => ?_)
  · refine lv_iconst (v := 0) hx hb dL_law_835 (by decide) ?_
    refine goI (wr := [(h1m, .inr (11, [.int 0, x2m, x3m, x4m, x5m, x6m, x7m, x8m, x9m, x10m, .ref h11m, x12m, x13m, x14m, x15m, x16m, x17m, x18m, x19m, x20m, x21m, x22m, x23m, x24m, x25m, x26m, x27m, x28m, x29m, x30m, x31m, x32m, x33m, x34m, x35m, x36m, x37m, x38m, x39m, x40m, x41m, x42m, x43m, x44m, x45m, x46m, x47m, x48m, x49m, x50m, x51m, x52m, x53m, x54m, x55m, x56m, x57m, x58m, x59m, x60m, x61m, x62m, x63m, x64m, x65m, x66m, x67m, x68m, x69m, x70m, x71m, x72m, x73m, x74m])), (h11m, .inl (aC 0, 14, .inl (fun _ => 0)))]) (runV (n := 3) (As := [.int (xs 1), .int (xs 2), .int 0]) (rest := []) F hP hD hS (x_see l g aC aM h1x h5x h18x x2x x3x x4x x6x x7x x8x x9x x10x x11x x12x x13x x14x x15x x16x x17x x19x x20x x21x x22x x23x x24x x25x x26x x27x x28x x29x (xs 1) (xs 2) 0) [0, 1, 2] (by decide) rfl 0 10 rfl rfl rfl tb940 tb937 tb938 tb939 tb1 ⟨by decide, by decide, by decide +kernel⟩ ⟨Nat.le_of_ble_eq_true rfl, Nat.le_of_ble_eq_true rfl⟩ rfl hl.1 rfl (Nat.le_of_ble_eq_true rfl) dL_law_836 ⟨Nat.le_of_ble_eq_true rfl, Nat.le_of_ble_eq_true rfl⟩) hP hD hS hA [0, 1, 2] [3, 4] rfl rfl (by decide) (by decide) (fun r_3 w4 H locs hw hP hD hS => ?_)
    have hP : va_P g vwCl [(h1m, .inr (11, [.int 0, x2m, x3m, x4m, x5m, x6m, x7m, x8m, x9m, x10m, .ref h11m, x12m, x13m, x14m, x15m, x16m, x17m, x18m, x19m, x20m, x21m, x22m, x23m, x24m, x25m, x26m, x27m, x28m, x29m, x30m, x31m, x32m, x33m, x34m, x35m, x36m, x37m, x38m, x39m, x40m, x41m, x42m, x43m, x44m, x45m, x46m, x47m, x48m, x49m, x50m, x51m, x52m, x53m, x54m, x55m, x56m, x57m, x58m, x59m, x60m, x61m, x62m, x63m, x64m, x65m, x66m, x67m, x68m, x69m, x70m, x71m, x72m, x73m, x74m])), (h11m, .inl (aC 0, 14, .inl (fun _ => 0)))] H := hP
    have hD : va_D A [(h1m, .inr (11, [.int 0, x2m, x3m, x4m, x5m, x6m, x7m, x8m, x9m, x10m, .ref h11m, x12m, x13m, x14m, x15m, x16m, x17m, x18m, x19m, x20m, x21m, x22m, x23m, x24m, x25m, x26m, x27m, x28m, x29m, x30m, x31m, x32m, x33m, x34m, x35m, x36m, x37m, x38m, x39m, x40m, x41m, x42m, x43m, x44m, x45m, x46m, x47m, x48m, x49m, x50m, x51m, x52m, x53m, x54m, x55m, x56m, x57m, x58m, x59m, x60m, x61m, x62m, x63m, x64m, x65m, x66m, x67m, x68m, x69m, x70m, x71m, x72m, x73m, x74m])), (h11m, .inl (aC 0, 14, .inl (fun _ => 0)))] := hD
    try dsimp only at hw
    subst hw
    refine lv_aload_n hx hb dL_law_839 rfl (lv_at hl 2 rfl) ?_
    refine lv_aload_n hx hb dL_law_840 rfl (lv_at hl 4 rfl) ?_
    refine lv_iload hx hb dL_law_841 (lv_at hl 0 rfl) ?_
    refine lv_iconst (v := 1) hx hb dL_law_843 (by decide) ?_
    refine lv_iadd hx hb dL_law_844 ?_
    refine relit (v := 1) (by decide +kernel) ?_
    refine va_sld hx hb hX hbl hbA hS (vpin (j := 1) (by decide +kernel) (by decide +kernel) (by decide)) dL_law_845 ?_
    refine relit (v := xs 1) (by rw [show ((1 : Int32).toNatClampNeg) = 1 from by decide +kernel]) ?_
    refine lv_aload_n hx hb dL_law_846 rfl (lv_at hl 4 rfl) ?_
    refine lv_iload hx hb dL_law_847 (lv_at hl 0 rfl) ?_
    refine lv_iconst (v := 2) hx hb dL_law_849 (by decide) ?_
    refine lv_iadd hx hb dL_law_850 ?_
    refine relit (v := 2) (by decide +kernel) ?_
    refine va_sld hx hb hX hbl hbA hS (vpin (j := 2) (by decide +kernel) (by decide +kernel) (by decide)) dL_law_851 ?_
    refine relit (v := xs 2) (by rw [show ((2 : Int32).toNatClampNeg) = 2 from by decide +kernel]) ?_
    refine lv_aload_n hx hb dL_law_852 rfl (lv_at hl 4 rfl) ?_
    refine lv_iload hx hb dL_law_853 (lv_at hl 0 rfl) ?_
    refine lv_iconst (v := 3) hx hb dL_law_855 (by decide) ?_
    refine lv_iadd hx hb dL_law_856 ?_
    refine relit (v := 3) (by decide +kernel) ?_
    refine va_sld hx hb hX hbl hbA hS (vpin (j := 3) (by decide +kernel) (by decide +kernel) (by decide)) dL_law_857 ?_
    refine relit (v := xs 3) (by rw [show ((3 : Int32).toNatClampNeg) = 3 from by decide +kernel]) ?_
    refine lv_if_eq (tgt := 865) hx hb dL_law_858 (by decide) (fun c5 => ?_) (fun c5 => ?_)
    · refine lv_iconst (v := 0) hx hb dL_law_865 (by decide) ?_
      refine goI (wr := []) (runV (n := 3) (As := [.int (xs 1), .int (xs 2), .int 0]) (rest := [.int 0]) F hP hD hS (m_see l g aC aM h1m h11m x2m x3m x4m x5m x6m x7m x8m x9m x10m x12m x13m x14m x15m x16m x17m x18m x19m x20m x21m x22m x23m x24m x25m x26m x27m x28m x29m x30m x31m x32m x33m x34m x35m x36m x37m x38m x39m x40m x41m x42m x43m x44m x45m x46m x47m x48m x49m x50m x51m x52m x53m x54m x55m x56m x57m x58m x59m x60m x61m x62m x63m x64m x65m x66m x67m x68m x69m x70m x71m x72m x73m x74m (xs 1) (xs 2) 0) [0, 1] (by decide) rfl 0 11 rfl rfl rfl tb1802 tb1799 tb1800 tb1801 tb17 ⟨by decide, by decide, by decide +kernel⟩ ⟨Nat.le_of_ble_eq_true rfl, Nat.le_of_ble_eq_true rfl⟩ rfl hl.1 rfl (Nat.le_of_ble_eq_true rfl) dL_law_866 ⟨Nat.le_of_ble_eq_true rfl, Nat.le_of_ble_eq_true rfl⟩) hP hD hS hA [0, 1] [] rfl rfl (by decide) (by decide) (fun r_7 w8 H locs hw hP hD hS => ?_)
      have hP : va_P g vwCl [] H := hP
      have hD : va_D A [] := hD
      try dsimp only at hw
      subst hw
      refine lv_icmp_eq (tgt := 1279) hx hb dL_law_869 (by decide) (fun _ => ?_) (fun c_ => absurd (by decide +kernel) c_)
      exact law_end F hr hlocks hX hbl hbA hAs hS (Nat.le_of_ble_eq_true rfl) (Nat.le_of_ble_eq_true rfl) _ (lv_sub hl [0, 4] rfl)
    · exfalso
      simp only [Int32.lt_iff_toInt_lt, Int32.le_iff_toInt_le, ← Int32.toInt_inj, show (0 : Int32).toInt = 0 by decide] at c1 c5; omega
  · refine lv_iconst (v := 1) hx hb dL_law_831 (by decide) ?_
    refine lv_goto (tgt := 836) hx hb dL_law_832 (by decide) ?_
    refine goI (wr := [(h1m, .inr (11, [.int 0, x2m, x3m, x4m, x5m, x6m, x7m, x8m, x9m, x10m, .ref h11m, x12m, x13m, x14m, x15m, x16m, x17m, x18m, x19m, x20m, x21m, x22m, x23m, x24m, x25m, x26m, x27m, x28m, x29m, x30m, x31m, x32m, x33m, x34m, x35m, x36m, x37m, x38m, x39m, x40m, x41m, x42m, x43m, x44m, x45m, x46m, x47m, x48m, x49m, x50m, x51m, x52m, x53m, x54m, x55m, x56m, x57m, x58m, x59m, x60m, x61m, x62m, x63m, x64m, x65m, x66m, x67m, x68m, x69m, x70m, x71m, x72m, x73m, x74m])), (h11m, .inl (aC 0, 14, .inl (fun _ => 0)))]) (runV (n := 3) (As := [.int (xs 1), .int (xs 2), .int 1]) (rest := []) F hP hD hS (x_see l g aC aM h1x h5x h18x x2x x3x x4x x6x x7x x8x x9x x10x x11x x12x x13x x14x x15x x16x x17x x19x x20x x21x x22x x23x x24x x25x x26x x27x x28x x29x (xs 1) (xs 2) 1) [0, 1, 2] (by decide) rfl 0 10 rfl rfl rfl tb940 tb937 tb938 tb939 tb1 ⟨by decide, by decide, by decide +kernel⟩ ⟨Nat.le_of_ble_eq_true rfl, Nat.le_of_ble_eq_true rfl⟩ rfl hl.1 rfl (Nat.le_of_ble_eq_true rfl) dL_law_836 ⟨Nat.le_of_ble_eq_true rfl, Nat.le_of_ble_eq_true rfl⟩) hP hD hS hA [0, 1, 2] [3, 4] rfl rfl (by decide) (by decide) (fun r_11 w12 H locs hw hP hD hS => ?_)
    have hP : va_P g vwCl [(h1m, .inr (11, [.int 0, x2m, x3m, x4m, x5m, x6m, x7m, x8m, x9m, x10m, .ref h11m, x12m, x13m, x14m, x15m, x16m, x17m, x18m, x19m, x20m, x21m, x22m, x23m, x24m, x25m, x26m, x27m, x28m, x29m, x30m, x31m, x32m, x33m, x34m, x35m, x36m, x37m, x38m, x39m, x40m, x41m, x42m, x43m, x44m, x45m, x46m, x47m, x48m, x49m, x50m, x51m, x52m, x53m, x54m, x55m, x56m, x57m, x58m, x59m, x60m, x61m, x62m, x63m, x64m, x65m, x66m, x67m, x68m, x69m, x70m, x71m, x72m, x73m, x74m])), (h11m, .inl (aC 0, 14, .inl (fun _ => 0)))] H := hP
    have hD : va_D A [(h1m, .inr (11, [.int 0, x2m, x3m, x4m, x5m, x6m, x7m, x8m, x9m, x10m, .ref h11m, x12m, x13m, x14m, x15m, x16m, x17m, x18m, x19m, x20m, x21m, x22m, x23m, x24m, x25m, x26m, x27m, x28m, x29m, x30m, x31m, x32m, x33m, x34m, x35m, x36m, x37m, x38m, x39m, x40m, x41m, x42m, x43m, x44m, x45m, x46m, x47m, x48m, x49m, x50m, x51m, x52m, x53m, x54m, x55m, x56m, x57m, x58m, x59m, x60m, x61m, x62m, x63m, x64m, x65m, x66m, x67m, x68m, x69m, x70m, x71m, x72m, x73m, x74m])), (h11m, .inl (aC 0, 14, .inl (fun _ => 0)))] := hD
    try dsimp only at hw
    subst hw
    refine lv_aload_n hx hb dL_law_839 rfl (lv_at hl 2 rfl) ?_
    refine lv_aload_n hx hb dL_law_840 rfl (lv_at hl 4 rfl) ?_
    refine lv_iload hx hb dL_law_841 (lv_at hl 0 rfl) ?_
    refine lv_iconst (v := 1) hx hb dL_law_843 (by decide) ?_
    refine lv_iadd hx hb dL_law_844 ?_
    refine relit (v := 1) (by decide +kernel) ?_
    refine va_sld hx hb hX hbl hbA hS (vpin (j := 1) (by decide +kernel) (by decide +kernel) (by decide)) dL_law_845 ?_
    refine relit (v := xs 1) (by rw [show ((1 : Int32).toNatClampNeg) = 1 from by decide +kernel]) ?_
    refine lv_aload_n hx hb dL_law_846 rfl (lv_at hl 4 rfl) ?_
    refine lv_iload hx hb dL_law_847 (lv_at hl 0 rfl) ?_
    refine lv_iconst (v := 2) hx hb dL_law_849 (by decide) ?_
    refine lv_iadd hx hb dL_law_850 ?_
    refine relit (v := 2) (by decide +kernel) ?_
    refine va_sld hx hb hX hbl hbA hS (vpin (j := 2) (by decide +kernel) (by decide +kernel) (by decide)) dL_law_851 ?_
    refine relit (v := xs 2) (by rw [show ((2 : Int32).toNatClampNeg) = 2 from by decide +kernel]) ?_
    refine lv_aload_n hx hb dL_law_852 rfl (lv_at hl 4 rfl) ?_
    refine lv_iload hx hb dL_law_853 (lv_at hl 0 rfl) ?_
    refine lv_iconst (v := 3) hx hb dL_law_855 (by decide) ?_
    refine lv_iadd hx hb dL_law_856 ?_
    refine relit (v := 3) (by decide +kernel) ?_
    refine va_sld hx hb hX hbl hbA hS (vpin (j := 3) (by decide +kernel) (by decide +kernel) (by decide)) dL_law_857 ?_
    refine relit (v := xs 3) (by rw [show ((3 : Int32).toNatClampNeg) = 3 from by decide +kernel]) ?_
    refine lv_if_eq (tgt := 865) hx hb dL_law_858 (by decide) (fun c13 => ?_) (fun c13 => ?_)
    · exfalso
      simp only [Int32.lt_iff_toInt_lt, Int32.le_iff_toInt_le, ← Int32.toInt_inj, show (0 : Int32).toInt = 0 by decide] at c1 c13; omega
    · refine lv_iconst (v := 1) hx hb dL_law_861 (by decide) ?_
      refine lv_goto (tgt := 866) hx hb dL_law_862 (by decide) ?_
      refine goI (wr := []) (runV (n := 3) (As := [.int (xs 1), .int (xs 2), .int 1]) (rest := [.int 0]) F hP hD hS (m_see l g aC aM h1m h11m x2m x3m x4m x5m x6m x7m x8m x9m x10m x12m x13m x14m x15m x16m x17m x18m x19m x20m x21m x22m x23m x24m x25m x26m x27m x28m x29m x30m x31m x32m x33m x34m x35m x36m x37m x38m x39m x40m x41m x42m x43m x44m x45m x46m x47m x48m x49m x50m x51m x52m x53m x54m x55m x56m x57m x58m x59m x60m x61m x62m x63m x64m x65m x66m x67m x68m x69m x70m x71m x72m x73m x74m (xs 1) (xs 2) 1) [0, 1] (by decide) rfl 0 11 rfl rfl rfl tb1802 tb1799 tb1800 tb1801 tb17 ⟨by decide, by decide, by decide +kernel⟩ ⟨Nat.le_of_ble_eq_true rfl, Nat.le_of_ble_eq_true rfl⟩ rfl hl.1 rfl (Nat.le_of_ble_eq_true rfl) dL_law_866 ⟨Nat.le_of_ble_eq_true rfl, Nat.le_of_ble_eq_true rfl⟩) hP hD hS hA [0, 1] [] rfl rfl (by decide) (by decide) (fun r_15 w16 H locs hw hP hD hS => ?_)
      have hP : va_P g vwCl [] H := hP
      have hD : va_D A [] := hD
      try dsimp only at hw
      subst hw
      refine lv_icmp_eq (tgt := 1279) hx hb dL_law_869 (by decide) (fun _ => ?_) (fun c_ => absurd (by decide +kernel) c_)
      exact law_end F hr hlocks hX hbl hbA hAs hS (Nat.le_of_ble_eq_true rfl) (Nat.le_of_ble_eq_true rfl) _ (lv_sub hl [0, 4] rfl)
