theorem tb1027 : (Jvm.Cond.methodLink "StairGangLaw" (135 : Nat) ({ cls := "StairGang", name := "live", desc := "(III)I" } : Jvm.MethodName)) ∈ gw := lw_m 1027 (by decide +kernel)
theorem tb1028 : (Jvm.Cond.instanceMethod ({ cls := "StairGang", name := "live", desc := "(III)I" } : Jvm.MethodName)) ∈ gw := lw_m 1028 (by decide +kernel)
theorem tb1029 : (Jvm.Cond.selects "StairGang" ({ cls := "StairGang", name := "live", desc := "(III)I" } : Jvm.MethodName) ({ cls := "StairGang", name := "live", desc := "(III)I" } : Jvm.MethodName)) ∈ gw := lw_m 1029 (by decide +kernel)
theorem tb1030 : (Jvm.Cond.code ({ cls := "StairGang", name := "live", desc := "(III)I" } : Jvm.MethodName) prog_1_method_27_code (4 : Nat) (Option.some Jvm.ClassFile.FieldType.int)) ∈ gw := lw_m 1030 (by decide +kernel)
theorem tb1877 : (Jvm.Cond.methodLink "StairGangLaw" (138 : Nat) ({ cls := "StairGangModel", name := "live", desc := "(III)I" } : Jvm.MethodName)) ∈ gw := lw_m 1877 (by decide +kernel)
theorem tb1878 : (Jvm.Cond.instanceMethod ({ cls := "StairGangModel", name := "live", desc := "(III)I" } : Jvm.MethodName)) ∈ gw := lw_m 1878 (by decide +kernel)
theorem tb1879 : (Jvm.Cond.selects "StairGangModel" ({ cls := "StairGangModel", name := "live", desc := "(III)I" } : Jvm.MethodName) ({ cls := "StairGangModel", name := "live", desc := "(III)I" } : Jvm.MethodName)) ∈ gw := lw_m 1879 (by decide +kernel)
theorem tb1880 : (Jvm.Cond.code ({ cls := "StairGangModel", name := "live", desc := "(III)I" } : Jvm.MethodName) prog_13_method_117_code (4 : Nat) (Option.some Jvm.ClassFile.FieldType.int)) ∈ gw := lw_m 1880 (by decide +kernel)
theorem dL_law_1066 : decode cL_law 1066 = .ok (.aload_n 1, 1) := by decide +kernel
theorem dL_law_1067 : decode cL_law 1067 = .ok (.aload_n 0, 1) := by decide +kernel
theorem dL_law_1068 : decode cL_law 1068 = .ok (.iload 4, 2) := by decide +kernel
theorem dL_law_1070 : decode cL_law 1070 = .ok (.iconst 1, 1) := by decide +kernel
theorem dL_law_1071 : decode cL_law 1071 = .ok (.iadd, 1) := by decide +kernel
theorem dL_law_1072 : decode cL_law 1072 = .ok (.iaload, 1) := by decide +kernel
theorem dL_law_1073 : decode cL_law 1073 = .ok (.aload_n 0, 1) := by decide +kernel
theorem dL_law_1074 : decode cL_law 1074 = .ok (.iload 4, 2) := by decide +kernel
theorem dL_law_1076 : decode cL_law 1076 = .ok (.iconst 2, 1) := by decide +kernel
theorem dL_law_1077 : decode cL_law 1077 = .ok (.iadd, 1) := by decide +kernel
theorem dL_law_1078 : decode cL_law 1078 = .ok (.iaload, 1) := by decide +kernel
theorem dL_law_1079 : decode cL_law 1079 = .ok (.aload_n 0, 1) := by decide +kernel
theorem dL_law_1080 : decode cL_law 1080 = .ok (.iload 4, 2) := by decide +kernel
theorem dL_law_1082 : decode cL_law 1082 = .ok (.iconst 3, 1) := by decide +kernel
theorem dL_law_1083 : decode cL_law 1083 = .ok (.iadd, 1) := by decide +kernel
theorem dL_law_1084 : decode cL_law 1084 = .ok (.iaload, 1) := by decide +kernel
theorem dL_law_1085 : decode cL_law 1085 = .ok (.invokevirtual 135, 3) := by decide +kernel
theorem dL_law_1088 : decode cL_law 1088 = .ok (.aload_n 2, 1) := by decide +kernel
theorem dL_law_1089 : decode cL_law 1089 = .ok (.aload_n 0, 1) := by decide +kernel
theorem dL_law_1090 : decode cL_law 1090 = .ok (.iload 4, 2) := by decide +kernel
theorem dL_law_1092 : decode cL_law 1092 = .ok (.iconst 1, 1) := by decide +kernel
theorem dL_law_1093 : decode cL_law 1093 = .ok (.iadd, 1) := by decide +kernel
theorem dL_law_1094 : decode cL_law 1094 = .ok (.iaload, 1) := by decide +kernel
theorem dL_law_1095 : decode cL_law 1095 = .ok (.aload_n 0, 1) := by decide +kernel
theorem dL_law_1096 : decode cL_law 1096 = .ok (.iload 4, 2) := by decide +kernel
theorem dL_law_1098 : decode cL_law 1098 = .ok (.iconst 2, 1) := by decide +kernel
theorem dL_law_1099 : decode cL_law 1099 = .ok (.iadd, 1) := by decide +kernel
theorem dL_law_1100 : decode cL_law 1100 = .ok (.iaload, 1) := by decide +kernel
theorem dL_law_1101 : decode cL_law 1101 = .ok (.aload_n 0, 1) := by decide +kernel
theorem dL_law_1102 : decode cL_law 1102 = .ok (.iload 4, 2) := by decide +kernel
theorem dL_law_1104 : decode cL_law 1104 = .ok (.iconst 3, 1) := by decide +kernel
theorem dL_law_1105 : decode cL_law 1105 = .ok (.iadd, 1) := by decide +kernel
theorem dL_law_1106 : decode cL_law 1106 = .ok (.iaload, 1) := by decide +kernel
theorem dL_law_1107 : decode cL_law 1107 = .ok (.invokevirtual 138, 3) := by decide +kernel
theorem dL_law_1110 : decode cL_law 1110 = .ok (.if_icmp .eq 169, 3) := by decide +kernel
set_option maxHeartbeats 4000000 in
set_option maxRecDepth 100000 in
theorem lc_live {p : Program} {l : Launch} {e : Env} {s : State} {m : MethodId} {below : List Frame} {meth : Method} {c : Code} {g : va_G} {aC : Nat → ClassId} {aM : Nat → Nat} {A : Nat → Prop} {b : Nat} {xs : Nat → Int32} (F : Fx p s m #[Value.ref b] c code 7 RL g aC aM A) (hr : meth.sig.returnType = ret) (hlocks : meth.locks = false) (hX : va_X b 7 xs s s.heap) (hbl : b < s.heap.size) (hbA : ¬ A b) (hAs : ∀ q, A q → s.heap.size ≤ q) (h1x h5x h18x : Nat) (x2x x3x x4x x6x x7x x8x x9x x10x x11x x12x x13x x14x x15x x16x x17x x19x x20x x21x x22x x23x x24x x25x x26x x27x x28x x29x : Value) (h1m h11m : Nat) (x2m x3m x4m x5m x6m x7m x8m x9m x10m x12m x13m x14m x15m x16m x17m x18m x19m x20m x21m x22m x23m x24m x25m x26m x27m x28m x29m x30m x31m x32m x33m x34m x35m x36m x37m x38m x39m x40m x41m x42m x43m x44m x45m x46m x47m x48m x49m x50m x51m x52m x53m x54m x55m x56m x57m x58m x59m x60m x61m x62m x63m x64m x65m x66m x67m x68m x69m x70m x71m x72m x73m x74m : Value) (ho : Nat) {H : Heap} {locs : List Loc} (hP : va_P g vwCl [(h1x, .inr (10, [x2x, x3x, x4x, .ref h5x, x6x, x7x, x8x, x9x, x10x, x11x, x12x, x13x, x14x, x15x, x16x, x17x])), (h5x, .inr (8, [.ref h18x, x19x, x20x, x21x, x22x, x23x, x24x, x25x, x26x, x27x, x28x, x29x])), (h18x, .inl (aC 0, 5, .inl (fun _ => 0))), (h1m, .inr (11, [.int 0, x2m, x3m, x4m, x5m, x6m, x7m, x8m, x9m, x10m, .ref h11m, x12m, x13m, x14m, x15m, x16m, x17m, x18m, x19m, x20m, x21m, x22m, x23m, x24m, x25m, x26m, x27m, x28m, x29m, x30m, x31m, x32m, x33m, x34m, x35m, x36m, x37m, x38m, x39m, x40m, x41m, x42m, x43m, x44m, x45m, x46m, x47m, x48m, x49m, x50m, x51m, x52m, x53m, x54m, x55m, x56m, x57m, x58m, x59m, x60m, x61m, x62m, x63m, x64m, x65m, x66m, x67m, x68m, x69m, x70m, x71m, x72m, x73m, x74m])), (h11m, .inl (aC 0, 14, .inl (fun _ => 0)))] H) (hD : va_D A [(h1x, .inr (10, [x2x, x3x, x4x, .ref h5x, x6x, x7x, x8x, x9x, x10x, x11x, x12x, x13x, x14x, x15x, x16x, x17x])), (h5x, .inr (8, [.ref h18x, x19x, x20x, x21x, x22x, x23x, x24x, x25x, x26x, x27x, x28x, x29x])), (h18x, .inl (aC 0, 5, .inl (fun _ => 0))), (h1m, .inr (11, [.int 0, x2m, x3m, x4m, x5m, x6m, x7m, x8m, x9m, x10m, .ref h11m, x12m, x13m, x14m, x15m, x16m, x17m, x18m, x19m, x20m, x21m, x22m, x23m, x24m, x25m, x26m, x27m, x28m, x29m, x30m, x31m, x32m, x33m, x34m, x35m, x36m, x37m, x38m, x39m, x40m, x41m, x42m, x43m, x44m, x45m, x46m, x47m, x48m, x49m, x50m, x51m, x52m, x53m, x54m, x55m, x56m, x57m, x58m, x59m, x60m, x61m, x62m, x63m, x64m, x65m, x66m, x67m, x68m, x69m, x70m, x71m, x72m, x73m, x74m])), (h11m, .inl (aC 0, 14, .inl (fun _ => 0)))]) (hS : va_S A s.heap H locs) (ls : Array Slot) (hl : lv_has ls 7 [(4, .int 0), (3, .ref ho), (2, .ref h1m), (1, .ref h1x), (0, .ref b)]) : W p l e room_1 s m #[Value.ref b] below meth c H locs 700 60000 (lw_Z below #[Value.ref b] s) (F0 m 1066 ls []) := by
  obtain ⟨hx, hb, hml, hown, hts, hK, hA, hM, hM2⟩ := id F
  refine lv_aload_n hx hb dL_law_1066 rfl (lv_at hl 3 rfl) ?_
  refine lv_aload_n hx hb dL_law_1067 rfl (lv_at hl 4 rfl) ?_
  refine lv_iload hx hb dL_law_1068 (lv_at hl 0 rfl) ?_
  refine lv_iconst (v := 1) hx hb dL_law_1070 (by decide) ?_
  refine lv_iadd hx hb dL_law_1071 ?_
  refine relit (v := 1) (by decide +kernel) ?_
  refine va_sld hx hb hX hbl hbA hS (vpin (j := 1) (by decide +kernel) (by decide +kernel) (by decide)) dL_law_1072 ?_
  refine relit (v := xs 1) (by rw [show ((1 : Int32).toNatClampNeg) = 1 from by decide +kernel]) ?_
  refine lv_aload_n hx hb dL_law_1073 rfl (lv_at hl 4 rfl) ?_
  refine lv_iload hx hb dL_law_1074 (lv_at hl 0 rfl) ?_
  refine lv_iconst (v := 2) hx hb dL_law_1076 (by decide) ?_
  refine lv_iadd hx hb dL_law_1077 ?_
  refine relit (v := 2) (by decide +kernel) ?_
  refine va_sld hx hb hX hbl hbA hS (vpin (j := 2) (by decide +kernel) (by decide +kernel) (by decide)) dL_law_1078 ?_
  refine relit (v := xs 2) (by rw [show ((2 : Int32).toNatClampNeg) = 2 from by decide +kernel]) ?_
  refine lv_aload_n hx hb dL_law_1079 rfl (lv_at hl 4 rfl) ?_
  refine lv_iload hx hb dL_law_1080 (lv_at hl 0 rfl) ?_
  refine lv_iconst (v := 3) hx hb dL_law_1082 (by decide) ?_
  refine lv_iadd hx hb dL_law_1083 ?_
  refine relit (v := 3) (by decide +kernel) ?_
  refine va_sld hx hb hX hbl hbA hS (vpin (j := 3) (by decide +kernel) (by decide +kernel) (by decide)) dL_law_1084 ?_
  refine relit (v := xs 3) (by rw [show ((3 : Int32).toNatClampNeg) = 3 from by decide +kernel]) ?_
  refine goI (wr := [(h1m, .inr (11, [.int 0, x2m, x3m, x4m, x5m, x6m, x7m, x8m, x9m, x10m, .ref h11m, x12m, x13m, x14m, x15m, x16m, x17m, x18m, x19m, x20m, x21m, x22m, x23m, x24m, x25m, x26m, x27m, x28m, x29m, x30m, x31m, x32m, x33m, x34m, x35m, x36m, x37m, x38m, x39m, x40m, x41m, x42m, x43m, x44m, x45m, x46m, x47m, x48m, x49m, x50m, x51m, x52m, x53m, x54m, x55m, x56m, x57m, x58m, x59m, x60m, x61m, x62m, x63m, x64m, x65m, x66m, x67m, x68m, x69m, x70m, x71m, x72m, x73m, x74m])), (h11m, .inl (aC 0, 14, .inl (fun _ => 0)))]) (runV (n := 3) (As := [.int (xs 1), .int (xs 2), .int (xs 3)]) (rest := []) F hP hD hS (x_live l g aC aM h1x h5x h18x x2x x3x x4x x6x x7x x8x x9x x10x x11x x12x x13x x14x x15x x16x x17x x19x x20x x21x x22x x23x x24x x25x x26x x27x x28x x29x (xs 1) (xs 2) (xs 3)) [0, 1, 2] (by decide) rfl 0 10 rfl rfl rfl tb1030 tb1027 tb1028 tb1029 tb1 ⟨by decide, by decide, by decide +kernel⟩ ⟨Nat.le_of_ble_eq_true rfl, Nat.le_of_ble_eq_true rfl⟩ rfl hl.1 rfl (Nat.le_of_ble_eq_true rfl) dL_law_1085 ⟨Nat.le_of_ble_eq_true rfl, Nat.le_of_ble_eq_true rfl⟩) hP hD hS hA [0, 1, 2] [3, 4] rfl rfl (by decide) (by decide) (fun r_2 w3 H locs hw hP hD hS => ?_)
  have hP : va_P g vwCl [(h1m, .inr (11, [.int 0, x2m, x3m, x4m, x5m, x6m, x7m, x8m, x9m, x10m, .ref h11m, x12m, x13m, x14m, x15m, x16m, x17m, x18m, x19m, x20m, x21m, x22m, x23m, x24m, x25m, x26m, x27m, x28m, x29m, x30m, x31m, x32m, x33m, x34m, x35m, x36m, x37m, x38m, x39m, x40m, x41m, x42m, x43m, x44m, x45m, x46m, x47m, x48m, x49m, x50m, x51m, x52m, x53m, x54m, x55m, x56m, x57m, x58m, x59m, x60m, x61m, x62m, x63m, x64m, x65m, x66m, x67m, x68m, x69m, x70m, x71m, x72m, x73m, x74m])), (h11m, .inl (aC 0, 14, .inl (fun _ => 0)))] H := hP
  have hD : va_D A [(h1m, .inr (11, [.int 0, x2m, x3m, x4m, x5m, x6m, x7m, x8m, x9m, x10m, .ref h11m, x12m, x13m, x14m, x15m, x16m, x17m, x18m, x19m, x20m, x21m, x22m, x23m, x24m, x25m, x26m, x27m, x28m, x29m, x30m, x31m, x32m, x33m, x34m, x35m, x36m, x37m, x38m, x39m, x40m, x41m, x42m, x43m, x44m, x45m, x46m, x47m, x48m, x49m, x50m, x51m, x52m, x53m, x54m, x55m, x56m, x57m, x58m, x59m, x60m, x61m, x62m, x63m, x64m, x65m, x66m, x67m, x68m, x69m, x70m, x71m, x72m, x73m, x74m])), (h11m, .inl (aC 0, 14, .inl (fun _ => 0)))] := hD
  try dsimp only at hw
  subst hw
  refine lv_aload_n hx hb dL_law_1088 rfl (lv_at hl 2 rfl) ?_
  refine lv_aload_n hx hb dL_law_1089 rfl (lv_at hl 4 rfl) ?_
  refine lv_iload hx hb dL_law_1090 (lv_at hl 0 rfl) ?_
  refine lv_iconst (v := 1) hx hb dL_law_1092 (by decide) ?_
  refine lv_iadd hx hb dL_law_1093 ?_
  refine relit (v := 1) (by decide +kernel) ?_
  refine va_sld hx hb hX hbl hbA hS (vpin (j := 1) (by decide +kernel) (by decide +kernel) (by decide)) dL_law_1094 ?_
  refine relit (v := xs 1) (by rw [show ((1 : Int32).toNatClampNeg) = 1 from by decide +kernel]) ?_
  refine lv_aload_n hx hb dL_law_1095 rfl (lv_at hl 4 rfl) ?_
  refine lv_iload hx hb dL_law_1096 (lv_at hl 0 rfl) ?_
  refine lv_iconst (v := 2) hx hb dL_law_1098 (by decide) ?_
  refine lv_iadd hx hb dL_law_1099 ?_
  refine relit (v := 2) (by decide +kernel) ?_
  refine va_sld hx hb hX hbl hbA hS (vpin (j := 2) (by decide +kernel) (by decide +kernel) (by decide)) dL_law_1100 ?_
  refine relit (v := xs 2) (by rw [show ((2 : Int32).toNatClampNeg) = 2 from by decide +kernel]) ?_
  refine lv_aload_n hx hb dL_law_1101 rfl (lv_at hl 4 rfl) ?_
  refine lv_iload hx hb dL_law_1102 (lv_at hl 0 rfl) ?_
  refine lv_iconst (v := 3) hx hb dL_law_1104 (by decide) ?_
  refine lv_iadd hx hb dL_law_1105 ?_
  refine relit (v := 3) (by decide +kernel) ?_
  refine va_sld hx hb hX hbl hbA hS (vpin (j := 3) (by decide +kernel) (by decide +kernel) (by decide)) dL_law_1106 ?_
  refine relit (v := xs 3) (by rw [show ((3 : Int32).toNatClampNeg) = 3 from by decide +kernel]) ?_
  refine goI (wr := []) (runV (n := 3) (As := [.int (xs 1), .int (xs 2), .int (xs 3)]) (rest := [.int (-1)]) F hP hD hS (m_live l g aC aM h1m h11m x2m x3m x4m x5m x6m x7m x8m x9m x10m x12m x13m x14m x15m x16m x17m x18m x19m x20m x21m x22m x23m x24m x25m x26m x27m x28m x29m x30m x31m x32m x33m x34m x35m x36m x37m x38m x39m x40m x41m x42m x43m x44m x45m x46m x47m x48m x49m x50m x51m x52m x53m x54m x55m x56m x57m x58m x59m x60m x61m x62m x63m x64m x65m x66m x67m x68m x69m x70m x71m x72m x73m x74m (xs 1) (xs 2) (xs 3)) [0, 1] (by decide) rfl 0 11 rfl rfl rfl tb1880 tb1877 tb1878 tb1879 tb17 ⟨by decide, by decide, by decide +kernel⟩ ⟨Nat.le_of_ble_eq_true rfl, Nat.le_of_ble_eq_true rfl⟩ rfl hl.1 rfl (Nat.le_of_ble_eq_true rfl) dL_law_1107 ⟨Nat.le_of_ble_eq_true rfl, Nat.le_of_ble_eq_true rfl⟩) hP hD hS hA [0, 1] [] rfl rfl (by decide) (by decide) (fun r_5 w6 H locs hw hP hD hS => ?_)
  have hP : va_P g vwCl [] H := hP
  have hD : va_D A [] := hD
  try dsimp only at hw
  subst hw
  refine lv_icmp_eq (tgt := 1279) hx hb dL_law_1110 (by decide) (fun _ => ?_) (fun c_ => absurd (by decide +kernel) c_)
  exact law_end F hr hlocks hX hbl hbA hAs hS (Nat.le_of_ble_eq_true rfl) (Nat.le_of_ble_eq_true rfl) _ (lv_sub hl [0, 4] rfl)

theorem tb1052 : (Jvm.Cond.methodLink "StairGangLaw" (139 : Nat) ({ cls := "StairGang", name := "best", desc := "(II)I" } : Jvm.MethodName)) ∈ gw := lw_m 1052 (by decide +kernel)
theorem tb1053 : (Jvm.Cond.instanceMethod ({ cls := "StairGang", name := "best", desc := "(II)I" } : Jvm.MethodName)) ∈ gw := lw_m 1053 (by decide +kernel)
theorem tb1054 : (Jvm.Cond.selects "StairGang" ({ cls := "StairGang", name := "best", desc := "(II)I" } : Jvm.MethodName) ({ cls := "StairGang", name := "best", desc := "(II)I" } : Jvm.MethodName)) ∈ gw := lw_m 1054 (by decide +kernel)
theorem tb1055 : (Jvm.Cond.code ({ cls := "StairGang", name := "best", desc := "(II)I" } : Jvm.MethodName) prog_1_method_28_code (8 : Nat) (Option.some Jvm.ClassFile.FieldType.int)) ∈ gw := lw_m 1055 (by decide +kernel)
theorem tb1890 : (Jvm.Cond.methodLink "StairGangLaw" (142 : Nat) ({ cls := "StairGangModel", name := "best", desc := "(II)I" } : Jvm.MethodName)) ∈ gw := lw_m 1890 (by decide +kernel)
theorem tb1891 : (Jvm.Cond.instanceMethod ({ cls := "StairGangModel", name := "best", desc := "(II)I" } : Jvm.MethodName)) ∈ gw := lw_m 1891 (by decide +kernel)
theorem tb1892 : (Jvm.Cond.selects "StairGangModel" ({ cls := "StairGangModel", name := "best", desc := "(II)I" } : Jvm.MethodName) ({ cls := "StairGangModel", name := "best", desc := "(II)I" } : Jvm.MethodName)) ∈ gw := lw_m 1892 (by decide +kernel)
theorem tb1893 : (Jvm.Cond.code ({ cls := "StairGangModel", name := "best", desc := "(II)I" } : Jvm.MethodName) prog_13_method_118_code (7 : Nat) (Option.some Jvm.ClassFile.FieldType.int)) ∈ gw := lw_m 1893 (by decide +kernel)
theorem dL_law_1115 : decode cL_law 1115 = .ok (.aload_n 1, 1) := by decide +kernel
theorem dL_law_1116 : decode cL_law 1116 = .ok (.aload_n 0, 1) := by decide +kernel
theorem dL_law_1117 : decode cL_law 1117 = .ok (.iload 4, 2) := by decide +kernel
theorem dL_law_1119 : decode cL_law 1119 = .ok (.iconst 1, 1) := by decide +kernel
theorem dL_law_1120 : decode cL_law 1120 = .ok (.iadd, 1) := by decide +kernel
theorem dL_law_1121 : decode cL_law 1121 = .ok (.iaload, 1) := by decide +kernel
theorem dL_law_1122 : decode cL_law 1122 = .ok (.aload_n 0, 1) := by decide +kernel
theorem dL_law_1123 : decode cL_law 1123 = .ok (.iload 4, 2) := by decide +kernel
theorem dL_law_1125 : decode cL_law 1125 = .ok (.iconst 2, 1) := by decide +kernel
theorem dL_law_1126 : decode cL_law 1126 = .ok (.iadd, 1) := by decide +kernel
theorem dL_law_1127 : decode cL_law 1127 = .ok (.iaload, 1) := by decide +kernel
theorem dL_law_1128 : decode cL_law 1128 = .ok (.invokevirtual 139, 3) := by decide +kernel
theorem dL_law_1131 : decode cL_law 1131 = .ok (.aload_n 2, 1) := by decide +kernel
theorem dL_law_1132 : decode cL_law 1132 = .ok (.aload_n 0, 1) := by decide +kernel
theorem dL_law_1133 : decode cL_law 1133 = .ok (.iload 4, 2) := by decide +kernel
theorem dL_law_1135 : decode cL_law 1135 = .ok (.iconst 1, 1) := by decide +kernel
theorem dL_law_1136 : decode cL_law 1136 = .ok (.iadd, 1) := by decide +kernel
theorem dL_law_1137 : decode cL_law 1137 = .ok (.iaload, 1) := by decide +kernel
theorem dL_law_1138 : decode cL_law 1138 = .ok (.aload_n 0, 1) := by decide +kernel
theorem dL_law_1139 : decode cL_law 1139 = .ok (.iload 4, 2) := by decide +kernel
theorem dL_law_1141 : decode cL_law 1141 = .ok (.iconst 2, 1) := by decide +kernel
theorem dL_law_1142 : decode cL_law 1142 = .ok (.iadd, 1) := by decide +kernel
theorem dL_law_1143 : decode cL_law 1143 = .ok (.iaload, 1) := by decide +kernel
theorem dL_law_1144 : decode cL_law 1144 = .ok (.invokevirtual 142, 3) := by decide +kernel
theorem dL_law_1147 : decode cL_law 1147 = .ok (.if_icmp .eq 132, 3) := by decide +kernel
set_option maxHeartbeats 4000000 in
set_option maxRecDepth 100000 in
theorem lc_best {p : Program} {l : Launch} {e : Env} {s : State} {m : MethodId} {below : List Frame} {meth : Method} {c : Code} {g : va_G} {aC : Nat → ClassId} {aM : Nat → Nat} {A : Nat → Prop} {b : Nat} {xs : Nat → Int32} (F : Fx p s m #[Value.ref b] c code 7 RL g aC aM A) (hr : meth.sig.returnType = ret) (hlocks : meth.locks = false) (hX : va_X b 7 xs s s.heap) (hbl : b < s.heap.size) (hbA : ¬ A b) (hAs : ∀ q, A q → s.heap.size ≤ q) (h1x h5x h18x : Nat) (x2x x3x x4x x6x x7x x8x x9x x10x x11x x12x x13x x14x x15x x16x x17x x19x x20x x21x x22x x23x x24x x25x x26x x27x x28x x29x : Value) (h1m h11m : Nat) (x2m x3m x4m x5m x6m x7m x8m x9m x10m x12m x13m x14m x15m x16m x17m x18m x19m x20m x21m x22m x23m x24m x25m x26m x27m x28m x29m x30m x31m x32m x33m x34m x35m x36m x37m x38m x39m x40m x41m x42m x43m x44m x45m x46m x47m x48m x49m x50m x51m x52m x53m x54m x55m x56m x57m x58m x59m x60m x61m x62m x63m x64m x65m x66m x67m x68m x69m x70m x71m x72m x73m x74m : Value) (ho : Nat) {H : Heap} {locs : List Loc} (hP : va_P g vwCl [(h1x, .inr (10, [x2x, x3x, x4x, .ref h5x, x6x, x7x, x8x, x9x, x10x, x11x, x12x, x13x, x14x, x15x, x16x, x17x])), (h5x, .inr (8, [.ref h18x, x19x, x20x, x21x, x22x, x23x, x24x, x25x, x26x, x27x, x28x, x29x])), (h18x, .inl (aC 0, 5, .inl (fun _ => 0))), (h1m, .inr (11, [.int 0, x2m, x3m, x4m, x5m, x6m, x7m, x8m, x9m, x10m, .ref h11m, x12m, x13m, x14m, x15m, x16m, x17m, x18m, x19m, x20m, x21m, x22m, x23m, x24m, x25m, x26m, x27m, x28m, x29m, x30m, x31m, x32m, x33m, x34m, x35m, x36m, x37m, x38m, x39m, x40m, x41m, x42m, x43m, x44m, x45m, x46m, x47m, x48m, x49m, x50m, x51m, x52m, x53m, x54m, x55m, x56m, x57m, x58m, x59m, x60m, x61m, x62m, x63m, x64m, x65m, x66m, x67m, x68m, x69m, x70m, x71m, x72m, x73m, x74m])), (h11m, .inl (aC 0, 14, .inl (fun _ => 0)))] H) (hD : va_D A [(h1x, .inr (10, [x2x, x3x, x4x, .ref h5x, x6x, x7x, x8x, x9x, x10x, x11x, x12x, x13x, x14x, x15x, x16x, x17x])), (h5x, .inr (8, [.ref h18x, x19x, x20x, x21x, x22x, x23x, x24x, x25x, x26x, x27x, x28x, x29x])), (h18x, .inl (aC 0, 5, .inl (fun _ => 0))), (h1m, .inr (11, [.int 0, x2m, x3m, x4m, x5m, x6m, x7m, x8m, x9m, x10m, .ref h11m, x12m, x13m, x14m, x15m, x16m, x17m, x18m, x19m, x20m, x21m, x22m, x23m, x24m, x25m, x26m, x27m, x28m, x29m, x30m, x31m, x32m, x33m, x34m, x35m, x36m, x37m, x38m, x39m, x40m, x41m, x42m, x43m, x44m, x45m, x46m, x47m, x48m, x49m, x50m, x51m, x52m, x53m, x54m, x55m, x56m, x57m, x58m, x59m, x60m, x61m, x62m, x63m, x64m, x65m, x66m, x67m, x68m, x69m, x70m, x71m, x72m, x73m, x74m])), (h11m, .inl (aC 0, 14, .inl (fun _ => 0)))]) (hS : va_S A s.heap H locs) (ls : Array Slot) (hl : lv_has ls 7 [(4, .int 0), (3, .ref ho), (2, .ref h1m), (1, .ref h1x), (0, .ref b)]) : W p l e room_1 s m #[Value.ref b] below meth c H locs 700 60000 (lw_Z below #[Value.ref b] s) (F0 m 1115 ls []) := by
  obtain ⟨hx, hb, hml, hown, hts, hK, hA, hM, hM2⟩ := id F
  refine lv_aload_n hx hb dL_law_1115 rfl (lv_at hl 3 rfl) ?_
  refine lv_aload_n hx hb dL_law_1116 rfl (lv_at hl 4 rfl) ?_
  refine lv_iload hx hb dL_law_1117 (lv_at hl 0 rfl) ?_
  refine lv_iconst (v := 1) hx hb dL_law_1119 (by decide) ?_
  refine lv_iadd hx hb dL_law_1120 ?_
  refine relit (v := 1) (by decide +kernel) ?_
  refine va_sld hx hb hX hbl hbA hS (vpin (j := 1) (by decide +kernel) (by decide +kernel) (by decide)) dL_law_1121 ?_
  refine relit (v := xs 1) (by rw [show ((1 : Int32).toNatClampNeg) = 1 from by decide +kernel]) ?_
  refine lv_aload_n hx hb dL_law_1122 rfl (lv_at hl 4 rfl) ?_
  refine lv_iload hx hb dL_law_1123 (lv_at hl 0 rfl) ?_
  refine lv_iconst (v := 2) hx hb dL_law_1125 (by decide) ?_
  refine lv_iadd hx hb dL_law_1126 ?_
  refine relit (v := 2) (by decide +kernel) ?_
  refine va_sld hx hb hX hbl hbA hS (vpin (j := 2) (by decide +kernel) (by decide +kernel) (by decide)) dL_law_1127 ?_
  refine relit (v := xs 2) (by rw [show ((2 : Int32).toNatClampNeg) = 2 from by decide +kernel]) ?_
  refine goI (wr := [(h1m, .inr (11, [.int 0, x2m, x3m, x4m, x5m, x6m, x7m, x8m, x9m, x10m, .ref h11m, x12m, x13m, x14m, x15m, x16m, x17m, x18m, x19m, x20m, x21m, x22m, x23m, x24m, x25m, x26m, x27m, x28m, x29m, x30m, x31m, x32m, x33m, x34m, x35m, x36m, x37m, x38m, x39m, x40m, x41m, x42m, x43m, x44m, x45m, x46m, x47m, x48m, x49m, x50m, x51m, x52m, x53m, x54m, x55m, x56m, x57m, x58m, x59m, x60m, x61m, x62m, x63m, x64m, x65m, x66m, x67m, x68m, x69m, x70m, x71m, x72m, x73m, x74m])), (h11m, .inl (aC 0, 14, .inl (fun _ => 0)))]) (runV (n := 2) (As := [.int (xs 1), .int (xs 2)]) (rest := []) F hP hD hS (x_best l g aC aM h1x h5x h18x x2x x3x x4x x6x x7x x8x x9x x10x x11x x12x x13x x14x x15x x16x x17x x19x x20x x21x x22x x23x x24x x25x x26x x27x x28x x29x (xs 1) (xs 2)) [0, 1, 2] (by decide) rfl 0 10 rfl rfl rfl tb1055 tb1052 tb1053 tb1054 tb1 ⟨by decide, by decide, by decide +kernel⟩ ⟨Nat.le_of_ble_eq_true rfl, Nat.le_of_ble_eq_true rfl⟩ rfl hl.1 rfl (Nat.le_of_ble_eq_true rfl) dL_law_1128 ⟨Nat.le_of_ble_eq_true rfl, Nat.le_of_ble_eq_true rfl⟩) hP hD hS hA [0, 1, 2] [3, 4] rfl rfl (by decide) (by decide) (fun r_2 w3 H locs hw hP hD hS => ?_)
  have hP : va_P g vwCl [(h1m, .inr (11, [.int 0, x2m, x3m, x4m, x5m, x6m, x7m, x8m, x9m, x10m, .ref h11m, x12m, x13m, x14m, x15m, x16m, x17m, x18m, x19m, x20m, x21m, x22m, x23m, x24m, x25m, x26m, x27m, x28m, x29m, x30m, x31m, x32m, x33m, x34m, x35m, x36m, x37m, x38m, x39m, x40m, x41m, x42m, x43m, x44m, x45m, x46m, x47m, x48m, x49m, x50m, x51m, x52m, x53m, x54m, x55m, x56m, x57m, x58m, x59m, x60m, x61m, x62m, x63m, x64m, x65m, x66m, x67m, x68m, x69m, x70m, x71m, x72m, x73m, x74m])), (h11m, .inl (aC 0, 14, .inl (fun _ => 0)))] H := hP
  have hD : va_D A [(h1m, .inr (11, [.int 0, x2m, x3m, x4m, x5m, x6m, x7m, x8m, x9m, x10m, .ref h11m, x12m, x13m, x14m, x15m, x16m, x17m, x18m, x19m, x20m, x21m, x22m, x23m, x24m, x25m, x26m, x27m, x28m, x29m, x30m, x31m, x32m, x33m, x34m, x35m, x36m, x37m, x38m, x39m, x40m, x41m, x42m, x43m, x44m, x45m, x46m, x47m, x48m, x49m, x50m, x51m, x52m, x53m, x54m, x55m, x56m, x57m, x58m, x59m, x60m, x61m, x62m, x63m, x64m, x65m, x66m, x67m, x68m, x69m, x70m, x71m, x72m, x73m, x74m])), (h11m, .inl (aC 0, 14, .inl (fun _ => 0)))] := hD
  try dsimp only at hw
  subst hw
  refine lv_aload_n hx hb dL_law_1131 rfl (lv_at hl 2 rfl) ?_
  refine lv_aload_n hx hb dL_law_1132 rfl (lv_at hl 4 rfl) ?_
  refine lv_iload hx hb dL_law_1133 (lv_at hl 0 rfl) ?_
  refine lv_iconst (v := 1) hx hb dL_law_1135 (by decide) ?_
  refine lv_iadd hx hb dL_law_1136 ?_
  refine relit (v := 1) (by decide +kernel) ?_
  refine va_sld hx hb hX hbl hbA hS (vpin (j := 1) (by decide +kernel) (by decide +kernel) (by decide)) dL_law_1137 ?_
  refine relit (v := xs 1) (by rw [show ((1 : Int32).toNatClampNeg) = 1 from by decide +kernel]) ?_
  refine lv_aload_n hx hb dL_law_1138 rfl (lv_at hl 4 rfl) ?_
  refine lv_iload hx hb dL_law_1139 (lv_at hl 0 rfl) ?_
  refine lv_iconst (v := 2) hx hb dL_law_1141 (by decide) ?_
  refine lv_iadd hx hb dL_law_1142 ?_
  refine relit (v := 2) (by decide +kernel) ?_
  refine va_sld hx hb hX hbl hbA hS (vpin (j := 2) (by decide +kernel) (by decide +kernel) (by decide)) dL_law_1143 ?_
  refine relit (v := xs 2) (by rw [show ((2 : Int32).toNatClampNeg) = 2 from by decide +kernel]) ?_
  refine goI (wr := []) (runV (n := 2) (As := [.int (xs 1), .int (xs 2)]) (rest := [.int (-1)]) F hP hD hS (m_best l g aC aM h1m h11m x2m x3m x4m x5m x6m x7m x8m x9m x10m x12m x13m x14m x15m x16m x17m x18m x19m x20m x21m x22m x23m x24m x25m x26m x27m x28m x29m x30m x31m x32m x33m x34m x35m x36m x37m x38m x39m x40m x41m x42m x43m x44m x45m x46m x47m x48m x49m x50m x51m x52m x53m x54m x55m x56m x57m x58m x59m x60m x61m x62m x63m x64m x65m x66m x67m x68m x69m x70m x71m x72m x73m x74m (xs 1) (xs 2)) [0, 1] (by decide) rfl 0 11 rfl rfl rfl tb1893 tb1890 tb1891 tb1892 tb17 ⟨by decide, by decide, by decide +kernel⟩ ⟨Nat.le_of_ble_eq_true rfl, Nat.le_of_ble_eq_true rfl⟩ rfl hl.1 rfl (Nat.le_of_ble_eq_true rfl) dL_law_1144 ⟨Nat.le_of_ble_eq_true rfl, Nat.le_of_ble_eq_true rfl⟩) hP hD hS hA [0, 1] [] rfl rfl (by decide) (by decide) (fun r_5 w6 H locs hw hP hD hS => ?_)
  have hP : va_P g vwCl [] H := hP
  have hD : va_D A [] := hD
  try dsimp only at hw
  subst hw
  refine lv_icmp_eq (tgt := 1279) hx hb dL_law_1147 (by decide) (fun _ => ?_) (fun c_ => absurd (by decide +kernel) c_)
  exact law_end F hr hlocks hX hbl hbA hAs hS (Nat.le_of_ble_eq_true rfl) (Nat.le_of_ble_eq_true rfl) _ (lv_sub hl [0, 4] rfl)

theorem tb1056 : (Jvm.Cond.methodLink "StairGangLaw" (143 : Nat) ({ cls := "StairGang", name := "years", desc := "(III)I" } : Jvm.MethodName)) ∈ gw := lw_m 1056 (by decide +kernel)
theorem tb1057 : (Jvm.Cond.instanceMethod ({ cls := "StairGang", name := "years", desc := "(III)I" } : Jvm.MethodName)) ∈ gw := lw_m 1057 (by decide +kernel)
theorem tb1058 : (Jvm.Cond.selects "StairGang" ({ cls := "StairGang", name := "years", desc := "(III)I" } : Jvm.MethodName) ({ cls := "StairGang", name := "years", desc := "(III)I" } : Jvm.MethodName)) ∈ gw := lw_m 1058 (by decide +kernel)
theorem tb1059 : (Jvm.Cond.code ({ cls := "StairGang", name := "years", desc := "(III)I" } : Jvm.MethodName) prog_1_method_29_code (6 : Nat) (Option.some Jvm.ClassFile.FieldType.int)) ∈ gw := lw_m 1059 (by decide +kernel)
theorem tb1894 : (Jvm.Cond.methodLink "StairGangLaw" (146 : Nat) ({ cls := "StairGangModel", name := "years", desc := "(III)I" } : Jvm.MethodName)) ∈ gw := lw_m 1894 (by decide +kernel)
theorem tb1895 : (Jvm.Cond.instanceMethod ({ cls := "StairGangModel", name := "years", desc := "(III)I" } : Jvm.MethodName)) ∈ gw := lw_m 1895 (by decide +kernel)
theorem tb1896 : (Jvm.Cond.selects "StairGangModel" ({ cls := "StairGangModel", name := "years", desc := "(III)I" } : Jvm.MethodName) ({ cls := "StairGangModel", name := "years", desc := "(III)I" } : Jvm.MethodName)) ∈ gw := lw_m 1896 (by decide +kernel)
theorem tb1897 : (Jvm.Cond.code ({ cls := "StairGangModel", name := "years", desc := "(III)I" } : Jvm.MethodName) prog_13_method_121_code (6 : Nat) (Option.some Jvm.ClassFile.FieldType.int)) ∈ gw := lw_m 1897 (by decide +kernel)
theorem dL_law_1152 : decode cL_law 1152 = .ok (.aload_n 1, 1) := by decide +kernel
theorem dL_law_1153 : decode cL_law 1153 = .ok (.aload_n 0, 1) := by decide +kernel
theorem dL_law_1154 : decode cL_law 1154 = .ok (.iload 4, 2) := by decide +kernel
theorem dL_law_1156 : decode cL_law 1156 = .ok (.iconst 1, 1) := by decide +kernel
theorem dL_law_1157 : decode cL_law 1157 = .ok (.iadd, 1) := by decide +kernel
theorem dL_law_1158 : decode cL_law 1158 = .ok (.iaload, 1) := by decide +kernel
theorem dL_law_1159 : decode cL_law 1159 = .ok (.aload_n 0, 1) := by decide +kernel
theorem dL_law_1160 : decode cL_law 1160 = .ok (.iload 4, 2) := by decide +kernel
theorem dL_law_1162 : decode cL_law 1162 = .ok (.iconst 2, 1) := by decide +kernel
theorem dL_law_1163 : decode cL_law 1163 = .ok (.iadd, 1) := by decide +kernel
theorem dL_law_1164 : decode cL_law 1164 = .ok (.iaload, 1) := by decide +kernel
theorem dL_law_1165 : decode cL_law 1165 = .ok (.aload_n 0, 1) := by decide +kernel
theorem dL_law_1166 : decode cL_law 1166 = .ok (.iload 4, 2) := by decide +kernel
theorem dL_law_1168 : decode cL_law 1168 = .ok (.iconst 3, 1) := by decide +kernel
theorem dL_law_1169 : decode cL_law 1169 = .ok (.iadd, 1) := by decide +kernel
theorem dL_law_1170 : decode cL_law 1170 = .ok (.iaload, 1) := by decide +kernel
theorem dL_law_1171 : decode cL_law 1171 = .ok (.invokevirtual 143, 3) := by decide +kernel
theorem dL_law_1174 : decode cL_law 1174 = .ok (.aload_n 2, 1) := by decide +kernel
theorem dL_law_1175 : decode cL_law 1175 = .ok (.aload_n 0, 1) := by decide +kernel
theorem dL_law_1176 : decode cL_law 1176 = .ok (.iload 4, 2) := by decide +kernel
theorem dL_law_1178 : decode cL_law 1178 = .ok (.iconst 1, 1) := by decide +kernel
theorem dL_law_1179 : decode cL_law 1179 = .ok (.iadd, 1) := by decide +kernel
theorem dL_law_1180 : decode cL_law 1180 = .ok (.iaload, 1) := by decide +kernel
theorem dL_law_1181 : decode cL_law 1181 = .ok (.aload_n 0, 1) := by decide +kernel
theorem dL_law_1182 : decode cL_law 1182 = .ok (.iload 4, 2) := by decide +kernel
theorem dL_law_1184 : decode cL_law 1184 = .ok (.iconst 2, 1) := by decide +kernel
theorem dL_law_1185 : decode cL_law 1185 = .ok (.iadd, 1) := by decide +kernel
theorem dL_law_1186 : decode cL_law 1186 = .ok (.iaload, 1) := by decide +kernel
theorem dL_law_1187 : decode cL_law 1187 = .ok (.aload_n 0, 1) := by decide +kernel
theorem dL_law_1188 : decode cL_law 1188 = .ok (.iload 4, 2) := by decide +kernel
theorem dL_law_1190 : decode cL_law 1190 = .ok (.iconst 3, 1) := by decide +kernel
theorem dL_law_1191 : decode cL_law 1191 = .ok (.iadd, 1) := by decide +kernel
theorem dL_law_1192 : decode cL_law 1192 = .ok (.iaload, 1) := by decide +kernel
theorem dL_law_1193 : decode cL_law 1193 = .ok (.invokevirtual 146, 3) := by decide +kernel
theorem dL_law_1196 : decode cL_law 1196 = .ok (.if_icmp .eq 83, 3) := by decide +kernel
set_option maxHeartbeats 4000000 in
set_option maxRecDepth 100000 in
theorem lc_years {p : Program} {l : Launch} {e : Env} {s : State} {m : MethodId} {below : List Frame} {meth : Method} {c : Code} {g : va_G} {aC : Nat → ClassId} {aM : Nat → Nat} {A : Nat → Prop} {b : Nat} {xs : Nat → Int32} (F : Fx p s m #[Value.ref b] c code 7 RL g aC aM A) (hr : meth.sig.returnType = ret) (hlocks : meth.locks = false) (hX : va_X b 7 xs s s.heap) (hbl : b < s.heap.size) (hbA : ¬ A b) (hAs : ∀ q, A q → s.heap.size ≤ q) (h1x h5x h7x h8x h17x h29x h30x h31x h32x : Nat) (x2x x3x x4x x6x x9x x10x x11x x12x x13x x14x x15x x16x x18x x19x x20x x21x x22x x23x x24x x25x x26x x27x x28x : Value) (h1m h11m h56m h57m : Nat) (x2m x3m x4m x5m x6m x7m x8m x9m x10m x12m x13m x14m x15m x16m x17m x18m x19m x20m x21m x22m x23m x24m x25m x26m x27m x28m x29m x30m x31m x32m x33m x34m x35m x36m x37m x38m x39m x40m x41m x42m x43m x44m x45m x46m x47m x48m x49m x50m x51m x52m x53m x54m x55m x58m x59m x60m x61m x62m x63m x64m x65m x66m x67m x68m x69m x70m x71m x72m x73m : Value) (ho : Nat) {H : Heap} {locs : List Loc} (hP : va_P g vwCl [(h1x, .inr (10, [x2x, x3x, x4x, .ref h5x, x6x, .ref h7x, .ref h8x, x9x, x10x, x11x, x12x, x13x, x14x, x15x, x16x, .long 0])), (h5x, .inr (8, [.ref h17x, x18x, x19x, x20x, x21x, x22x, x23x, x24x, x25x, x26x, x27x, x28x])), (h17x, .inl (aC 0, 5, .inl (fun _ => 0))), (h7x, .inr (6, [.int 0, .ref h29x, .ref h30x, .int 0, .int 0, .int 0])), (h29x, .inl (aC 0, 5, .inl (fun _ => 0))), (h30x, .inl (aC 0, 4, .inl (fun _ => 0))), (h8x, .inr (6, [.int 0, .ref h31x, .ref h32x, .int 0, .int 0, .int 0])), (h31x, .inl (aC 0, 5, .inl (fun _ => 0))), (h32x, .inl (aC 0, 4, .inl (fun _ => 0))), (h1m, .inr (11, [.int 0, x2m, x3m, x4m, x5m, x6m, x7m, x8m, x9m, x10m, .ref h11m, x12m, x13m, x14m, x15m, x16m, x17m, x18m, x19m, x20m, x21m, x22m, x23m, x24m, x25m, x26m, x27m, x28m, x29m, x30m, x31m, x32m, x33m, x34m, x35m, x36m, x37m, x38m, x39m, x40m, x41m, x42m, x43m, x44m, x45m, x46m, x47m, x48m, x49m, x50m, x51m, x52m, x53m, x54m, x55m, .ref h56m, .ref h57m, x58m, x59m, x60m, x61m, x62m, x63m, x64m, x65m, x66m, x67m, x68m, x69m, x70m, x71m, x72m, x73m, .long 0])), (h11m, .inl (aC 0, 14, .inl (fun _ => 0))), (h56m, .inl (aC 0, 13, .inl (fun _ => 0))), (h57m, .inl (aC 0, 13, .inl (fun _ => 0)))] H) (hD : va_D A [(h1x, .inr (10, [x2x, x3x, x4x, .ref h5x, x6x, .ref h7x, .ref h8x, x9x, x10x, x11x, x12x, x13x, x14x, x15x, x16x, .long 0])), (h5x, .inr (8, [.ref h17x, x18x, x19x, x20x, x21x, x22x, x23x, x24x, x25x, x26x, x27x, x28x])), (h17x, .inl (aC 0, 5, .inl (fun _ => 0))), (h7x, .inr (6, [.int 0, .ref h29x, .ref h30x, .int 0, .int 0, .int 0])), (h29x, .inl (aC 0, 5, .inl (fun _ => 0))), (h30x, .inl (aC 0, 4, .inl (fun _ => 0))), (h8x, .inr (6, [.int 0, .ref h31x, .ref h32x, .int 0, .int 0, .int 0])), (h31x, .inl (aC 0, 5, .inl (fun _ => 0))), (h32x, .inl (aC 0, 4, .inl (fun _ => 0))), (h1m, .inr (11, [.int 0, x2m, x3m, x4m, x5m, x6m, x7m, x8m, x9m, x10m, .ref h11m, x12m, x13m, x14m, x15m, x16m, x17m, x18m, x19m, x20m, x21m, x22m, x23m, x24m, x25m, x26m, x27m, x28m, x29m, x30m, x31m, x32m, x33m, x34m, x35m, x36m, x37m, x38m, x39m, x40m, x41m, x42m, x43m, x44m, x45m, x46m, x47m, x48m, x49m, x50m, x51m, x52m, x53m, x54m, x55m, .ref h56m, .ref h57m, x58m, x59m, x60m, x61m, x62m, x63m, x64m, x65m, x66m, x67m, x68m, x69m, x70m, x71m, x72m, x73m, .long 0])), (h11m, .inl (aC 0, 14, .inl (fun _ => 0))), (h56m, .inl (aC 0, 13, .inl (fun _ => 0))), (h57m, .inl (aC 0, 13, .inl (fun _ => 0)))]) (hS : va_S A s.heap H locs) (ls : Array Slot) (hl : lv_has ls 7 [(4, .int 0), (3, .ref ho), (2, .ref h1m), (1, .ref h1x), (0, .ref b)]) : W p l e room_1 s m #[Value.ref b] below meth c H locs 700 60000 (lw_Z below #[Value.ref b] s) (F0 m 1152 ls []) := by
  obtain ⟨hx, hb, hml, hown, hts, hK, hA, hM, hM2⟩ := id F
  refine lv_aload_n hx hb dL_law_1152 rfl (lv_at hl 3 rfl) ?_
  refine lv_aload_n hx hb dL_law_1153 rfl (lv_at hl 4 rfl) ?_
  refine lv_iload hx hb dL_law_1154 (lv_at hl 0 rfl) ?_
  refine lv_iconst (v := 1) hx hb dL_law_1156 (by decide) ?_
  refine lv_iadd hx hb dL_law_1157 ?_
  refine relit (v := 1) (by decide +kernel) ?_
  refine va_sld hx hb hX hbl hbA hS (vpin (j := 1) (by decide +kernel) (by decide +kernel) (by decide)) dL_law_1158 ?_
  refine relit (v := xs 1) (by rw [show ((1 : Int32).toNatClampNeg) = 1 from by decide +kernel]) ?_
  refine lv_aload_n hx hb dL_law_1159 rfl (lv_at hl 4 rfl) ?_
  refine lv_iload hx hb dL_law_1160 (lv_at hl 0 rfl) ?_
  refine lv_iconst (v := 2) hx hb dL_law_1162 (by decide) ?_
  refine lv_iadd hx hb dL_law_1163 ?_
  refine relit (v := 2) (by decide +kernel) ?_
  refine va_sld hx hb hX hbl hbA hS (vpin (j := 2) (by decide +kernel) (by decide +kernel) (by decide)) dL_law_1164 ?_
  refine relit (v := xs 2) (by rw [show ((2 : Int32).toNatClampNeg) = 2 from by decide +kernel]) ?_
  refine lv_aload_n hx hb dL_law_1165 rfl (lv_at hl 4 rfl) ?_
  refine lv_iload hx hb dL_law_1166 (lv_at hl 0 rfl) ?_
  refine lv_iconst (v := 3) hx hb dL_law_1168 (by decide) ?_
  refine lv_iadd hx hb dL_law_1169 ?_
  refine relit (v := 3) (by decide +kernel) ?_
  refine va_sld hx hb hX hbl hbA hS (vpin (j := 3) (by decide +kernel) (by decide +kernel) (by decide)) dL_law_1170 ?_
  refine relit (v := xs 3) (by rw [show ((3 : Int32).toNatClampNeg) = 3 from by decide +kernel]) ?_
  refine goI (wr := [(h1m, .inr (11, [.int 0, x2m, x3m, x4m, x5m, x6m, x7m, x8m, x9m, x10m, .ref h11m, x12m, x13m, x14m, x15m, x16m, x17m, x18m, x19m, x20m, x21m, x22m, x23m, x24m, x25m, x26m, x27m, x28m, x29m, x30m, x31m, x32m, x33m, x34m, x35m, x36m, x37m, x38m, x39m, x40m, x41m, x42m, x43m, x44m, x45m, x46m, x47m, x48m, x49m, x50m, x51m, x52m, x53m, x54m, x55m, .ref h56m, .ref h57m, x58m, x59m, x60m, x61m, x62m, x63m, x64m, x65m, x66m, x67m, x68m, x69m, x70m, x71m, x72m, x73m, .long 0])), (h11m, .inl (aC 0, 14, .inl (fun _ => 0))), (h56m, .inl (aC 0, 13, .inl (fun _ => 0))), (h57m, .inl (aC 0, 13, .inl (fun _ => 0)))]) (runV (n := 3) (As := [.int (xs 1), .int (xs 2), .int (xs 3)]) (rest := []) F hP hD hS (x_years l g aC aM h1x h5x h7x h8x h17x h29x h30x h31x h32x x2x x3x x4x x6x x9x x10x x11x x12x x13x x14x x15x x16x x18x x19x x20x x21x x22x x23x x24x x25x x26x x27x x28x (xs 1) (xs 2) (xs 3)) [0, 1, 2, 3, 4, 5, 6, 7, 8] (by decide) rfl 0 10 rfl rfl rfl tb1059 tb1056 tb1057 tb1058 tb1 ⟨by decide, by decide, by decide +kernel⟩ ⟨Nat.le_of_ble_eq_true rfl, Nat.le_of_ble_eq_true rfl⟩ rfl hl.1 rfl (Nat.le_of_ble_eq_true rfl) dL_law_1171 ⟨Nat.le_of_ble_eq_true rfl, Nat.le_of_ble_eq_true rfl⟩) hP hD hS hA [0, 1, 2, 3, 4, 5, 6, 7, 8] [9, 10, 11, 12] rfl rfl (by decide) (by decide) (fun r_2 w3 H locs hw hP hD hS => ?_)
  have hP : va_P g vwCl [(h1m, .inr (11, [.int 0, x2m, x3m, x4m, x5m, x6m, x7m, x8m, x9m, x10m, .ref h11m, x12m, x13m, x14m, x15m, x16m, x17m, x18m, x19m, x20m, x21m, x22m, x23m, x24m, x25m, x26m, x27m, x28m, x29m, x30m, x31m, x32m, x33m, x34m, x35m, x36m, x37m, x38m, x39m, x40m, x41m, x42m, x43m, x44m, x45m, x46m, x47m, x48m, x49m, x50m, x51m, x52m, x53m, x54m, x55m, .ref h56m, .ref h57m, x58m, x59m, x60m, x61m, x62m, x63m, x64m, x65m, x66m, x67m, x68m, x69m, x70m, x71m, x72m, x73m, .long 0])), (h11m, .inl (aC 0, 14, .inl (fun _ => 0))), (h56m, .inl (aC 0, 13, .inl (fun _ => 0))), (h57m, .inl (aC 0, 13, .inl (fun _ => 0)))] H := hP
  have hD : va_D A [(h1m, .inr (11, [.int 0, x2m, x3m, x4m, x5m, x6m, x7m, x8m, x9m, x10m, .ref h11m, x12m, x13m, x14m, x15m, x16m, x17m, x18m, x19m, x20m, x21m, x22m, x23m, x24m, x25m, x26m, x27m, x28m, x29m, x30m, x31m, x32m, x33m, x34m, x35m, x36m, x37m, x38m, x39m, x40m, x41m, x42m, x43m, x44m, x45m, x46m, x47m, x48m, x49m, x50m, x51m, x52m, x53m, x54m, x55m, .ref h56m, .ref h57m, x58m, x59m, x60m, x61m, x62m, x63m, x64m, x65m, x66m, x67m, x68m, x69m, x70m, x71m, x72m, x73m, .long 0])), (h11m, .inl (aC 0, 14, .inl (fun _ => 0))), (h56m, .inl (aC 0, 13, .inl (fun _ => 0))), (h57m, .inl (aC 0, 13, .inl (fun _ => 0)))] := hD
  try dsimp only at hw
  subst hw
  refine lv_aload_n hx hb dL_law_1174 rfl (lv_at hl 2 rfl) ?_
  refine lv_aload_n hx hb dL_law_1175 rfl (lv_at hl 4 rfl) ?_
  refine lv_iload hx hb dL_law_1176 (lv_at hl 0 rfl) ?_
  refine lv_iconst (v := 1) hx hb dL_law_1178 (by decide) ?_
  refine lv_iadd hx hb dL_law_1179 ?_
  refine relit (v := 1) (by decide +kernel) ?_
  refine va_sld hx hb hX hbl hbA hS (vpin (j := 1) (by decide +kernel) (by decide +kernel) (by decide)) dL_law_1180 ?_
  refine relit (v := xs 1) (by rw [show ((1 : Int32).toNatClampNeg) = 1 from by decide +kernel]) ?_
  refine lv_aload_n hx hb dL_law_1181 rfl (lv_at hl 4 rfl) ?_
  refine lv_iload hx hb dL_law_1182 (lv_at hl 0 rfl) ?_
  refine lv_iconst (v := 2) hx hb dL_law_1184 (by decide) ?_
  refine lv_iadd hx hb dL_law_1185 ?_
  refine relit (v := 2) (by decide +kernel) ?_
  refine va_sld hx hb hX hbl hbA hS (vpin (j := 2) (by decide +kernel) (by decide +kernel) (by decide)) dL_law_1186 ?_
  refine relit (v := xs 2) (by rw [show ((2 : Int32).toNatClampNeg) = 2 from by decide +kernel]) ?_
  refine lv_aload_n hx hb dL_law_1187 rfl (lv_at hl 4 rfl) ?_
  refine lv_iload hx hb dL_law_1188 (lv_at hl 0 rfl) ?_
  refine lv_iconst (v := 3) hx hb dL_law_1190 (by decide) ?_
  refine lv_iadd hx hb dL_law_1191 ?_
  refine relit (v := 3) (by decide +kernel) ?_
  refine va_sld hx hb hX hbl hbA hS (vpin (j := 3) (by decide +kernel) (by decide +kernel) (by decide)) dL_law_1192 ?_
  refine relit (v := xs 3) (by rw [show ((3 : Int32).toNatClampNeg) = 3 from by decide +kernel]) ?_
  refine goI (wr := []) (runV (n := 3) (As := [.int (xs 1), .int (xs 2), .int (xs 3)]) (rest := [.int (sp_years (xs 1) (xs 2) (xs 3))]) F hP hD hS (m_years l g aC aM h1m h11m h56m h57m x2m x3m x4m x5m x6m x7m x8m x9m x10m x12m x13m x14m x15m x16m x17m x18m x19m x20m x21m x22m x23m x24m x25m x26m x27m x28m x29m x30m x31m x32m x33m x34m x35m x36m x37m x38m x39m x40m x41m x42m x43m x44m x45m x46m x47m x48m x49m x50m x51m x52m x53m x54m x55m x58m x59m x60m x61m x62m x63m x64m x65m x66m x67m x68m x69m x70m x71m x72m x73m (xs 1) (xs 2) (xs 3)) [0, 1, 2, 3] (by decide) rfl 0 11 rfl rfl rfl tb1897 tb1894 tb1895 tb1896 tb17 ⟨by decide, by decide, by decide +kernel⟩ ⟨Nat.le_of_ble_eq_true rfl, Nat.le_of_ble_eq_true rfl⟩ rfl hl.1 rfl (Nat.le_of_ble_eq_true rfl) dL_law_1193 ⟨Nat.le_of_ble_eq_true rfl, Nat.le_of_ble_eq_true rfl⟩) hP hD hS hA [0, 1, 2, 3] [] rfl rfl (by decide) (by decide) (fun r_5 w6 H locs hw hP hD hS => ?_)
  have hP : va_P g vwCl [] H := hP
  have hD : va_D A [] := hD
  try dsimp only at hw
  subst hw
  refine lv_icmp_eq (tgt := 1279) hx hb dL_law_1196 (by decide) (fun _ => ?_) (fun c_ => absurd rfl c_)
  exact law_end F hr hlocks hX hbl hbA hAs hS (Nat.le_of_ble_eq_true rfl) (Nat.le_of_ble_eq_true rfl) _ (lv_sub hl [0, 4] rfl)

theorem tb1076 : (Jvm.Cond.methodLink "StairGangLaw" (147 : Nat) ({ cls := "StairGang", name := "mark", desc := "(IZ)Z" } : Jvm.MethodName)) ∈ gw := lw_m 1076 (by decide +kernel)
theorem tb1077 : (Jvm.Cond.instanceMethod ({ cls := "StairGang", name := "mark", desc := "(IZ)Z" } : Jvm.MethodName)) ∈ gw := lw_m 1077 (by decide +kernel)
theorem tb1078 : (Jvm.Cond.selects "StairGang" ({ cls := "StairGang", name := "mark", desc := "(IZ)Z" } : Jvm.MethodName) ({ cls := "StairGang", name := "mark", desc := "(IZ)Z" } : Jvm.MethodName)) ∈ gw := lw_m 1078 (by decide +kernel)
theorem tb1079 : (Jvm.Cond.code ({ cls := "StairGang", name := "mark", desc := "(IZ)Z" } : Jvm.MethodName) prog_1_method_30_code (3 : Nat) (Option.some Jvm.ClassFile.FieldType.boolean)) ∈ gw := lw_m 1079 (by decide +kernel)
theorem tb1910 : (Jvm.Cond.methodLink "StairGangLaw" (151 : Nat) ({ cls := "StairGangModel", name := "mark", desc := "(IZ)Z" } : Jvm.MethodName)) ∈ gw := lw_m 1910 (by decide +kernel)
theorem tb1911 : (Jvm.Cond.instanceMethod ({ cls := "StairGangModel", name := "mark", desc := "(IZ)Z" } : Jvm.MethodName)) ∈ gw := lw_m 1911 (by decide +kernel)
theorem tb1912 : (Jvm.Cond.selects "StairGangModel" ({ cls := "StairGangModel", name := "mark", desc := "(IZ)Z" } : Jvm.MethodName) ({ cls := "StairGangModel", name := "mark", desc := "(IZ)Z" } : Jvm.MethodName)) ∈ gw := lw_m 1912 (by decide +kernel)
theorem tb1913 : (Jvm.Cond.code ({ cls := "StairGangModel", name := "mark", desc := "(IZ)Z" } : Jvm.MethodName) prog_13_method_122_code (5 : Nat) (Option.some Jvm.ClassFile.FieldType.boolean)) ∈ gw := lw_m 1913 (by decide +kernel)
theorem dL_law_1201 : decode cL_law 1201 = .ok (.aload_n 1, 1) := by decide +kernel
theorem dL_law_1202 : decode cL_law 1202 = .ok (.aload_n 0, 1) := by decide +kernel
theorem dL_law_1203 : decode cL_law 1203 = .ok (.iload 4, 2) := by decide +kernel
theorem dL_law_1205 : decode cL_law 1205 = .ok (.iconst 1, 1) := by decide +kernel
theorem dL_law_1206 : decode cL_law 1206 = .ok (.iadd, 1) := by decide +kernel
theorem dL_law_1207 : decode cL_law 1207 = .ok (.iaload, 1) := by decide +kernel
theorem dL_law_1208 : decode cL_law 1208 = .ok (.aload_n 0, 1) := by decide +kernel
theorem dL_law_1209 : decode cL_law 1209 = .ok (.iload 4, 2) := by decide +kernel
theorem dL_law_1211 : decode cL_law 1211 = .ok (.iconst 2, 1) := by decide +kernel
theorem dL_law_1212 : decode cL_law 1212 = .ok (.iadd, 1) := by decide +kernel
theorem dL_law_1213 : decode cL_law 1213 = .ok (.iaload, 1) := by decide +kernel
theorem dL_law_1214 : decode cL_law 1214 = .ok (.ifCond .eq 7, 3) := by decide +kernel
theorem dL_law_1217 : decode cL_law 1217 = .ok (.iconst 1, 1) := by decide +kernel
theorem dL_law_1218 : decode cL_law 1218 = .ok (.goto 4, 3) := by decide +kernel
theorem dL_law_1221 : decode cL_law 1221 = .ok (.iconst 0, 1) := by decide +kernel
theorem dL_law_1222 : decode cL_law 1222 = .ok (.invokevirtual 147, 3) := by decide +kernel
theorem dL_law_1225 : decode cL_law 1225 = .ok (.aload_n 2, 1) := by decide +kernel
theorem dL_law_1226 : decode cL_law 1226 = .ok (.aload_n 0, 1) := by decide +kernel
theorem dL_law_1227 : decode cL_law 1227 = .ok (.iload 4, 2) := by decide +kernel
theorem dL_law_1229 : decode cL_law 1229 = .ok (.iconst 1, 1) := by decide +kernel
theorem dL_law_1230 : decode cL_law 1230 = .ok (.iadd, 1) := by decide +kernel
theorem dL_law_1231 : decode cL_law 1231 = .ok (.iaload, 1) := by decide +kernel
theorem dL_law_1232 : decode cL_law 1232 = .ok (.aload_n 0, 1) := by decide +kernel
theorem dL_law_1233 : decode cL_law 1233 = .ok (.iload 4, 2) := by decide +kernel
theorem dL_law_1235 : decode cL_law 1235 = .ok (.iconst 2, 1) := by decide +kernel
theorem dL_law_1236 : decode cL_law 1236 = .ok (.iadd, 1) := by decide +kernel
theorem dL_law_1237 : decode cL_law 1237 = .ok (.iaload, 1) := by decide +kernel
theorem dL_law_1238 : decode cL_law 1238 = .ok (.ifCond .eq 7, 3) := by decide +kernel
theorem dL_law_1241 : decode cL_law 1241 = .ok (.iconst 1, 1) := by decide +kernel
theorem dL_law_1242 : decode cL_law 1242 = .ok (.goto 4, 3) := by decide +kernel
theorem dL_law_1245 : decode cL_law 1245 = .ok (.iconst 0, 1) := by decide +kernel
theorem dL_law_1246 : decode cL_law 1246 = .ok (.invokevirtual 151, 3) := by decide +kernel
theorem dL_law_1249 : decode cL_law 1249 = .ok (.if_icmp .eq 30, 3) := by decide +kernel
set_option maxHeartbeats 4000000 in
set_option maxRecDepth 100000 in
theorem lc_mark {p : Program} {l : Launch} {e : Env} {s : State} {m : MethodId} {below : List Frame} {meth : Method} {c : Code} {g : va_G} {aC : Nat → ClassId} {aM : Nat → Nat} {A : Nat → Prop} {b : Nat} {xs : Nat → Int32} (F : Fx p s m #[Value.ref b] c code 7 RL g aC aM A) (hr : meth.sig.returnType = ret) (hlocks : meth.locks = false) (hX : va_X b 7 xs s s.heap) (hbl : b < s.heap.size) (hbA : ¬ A b) (hAs : ∀ q, A q → s.heap.size ≤ q) (h1x h7x h9x h11x h12x h17x h18x h19x h20x h21x h22x h23x h24x h25x h26x h27x h28x h29x h30x h31x h32x h33x h34x h35x h36x h37x h38x h39x h40x h41x h42x h43x h44x : Nat) (x2x x3x x4x x5x x6x x8x x10x x13x x14x x15x x16x : Value) (h1m h47m h48m h49m h50m h51m h52m h53m h54m h55m h56m h58m h60m : Nat) (x2m x3m x4m x5m x6m x7m x8m x9m x10m x11m x12m x13m x14m x15m x16m x17m x18m x19m x20m x21m x22m x23m x24m x25m x26m x27m x28m x29m x30m x31m x32m x33m x34m x35m x36m x37m x38m x39m x40m x41m x42m x43m x44m x45m x46m x57m x59m x61m x62m x63m x64m x65m x66m x67m x68m x69m x70m x71m x72m x73m x74m : Value) (ho : Nat) {H : Heap} {locs : List Loc} (hP : va_P g vwCl [(h1x, .inr (10, [x2x, x3x, x4x, x5x, x6x, .ref h7x, x8x, .ref h9x, x10x, .ref h11x, .ref h12x, .int 0, x13x, x14x, x15x, x16x])), (h7x, .inr (6, [.int 0, .ref h17x, .ref h18x, .int 0, .int 0, .int 0])), (h17x, .inl (aC 0, 5, .inl (fun _ => 0))), (h18x, .inl (aC 0, 4, .inl (fun _ => 0))), (h9x, .inr (5, [.ref h19x, .int 0, .int 0, .ref h20x, .int 0])), (h19x, .inl (aC 0, 160, .inl (fun _ => 0))), (h20x, .inl (aC 0, 8, .inl (fun _ => 0))), (h11x, .inl (aC 4, 4, .inr (.inr (.inr (.inr (va_up (va_up (va_up (va_up (fun _ => none) 0 (some h21x)) 1 (some h22x)) 2 (some h23x)) 3 (some h24x))))))), (h12x, .inl (aC 5, 4, .inr (.inr (.inr (.inr (va_up (va_up (va_up (va_up (fun _ => none) 0 (some h25x)) 1 (some h26x)) 2 (some h27x)) 3 (some h28x))))))), (h21x, .inr (6, [.int 0, .ref h29x, .ref h30x, .int 0, .int 0, .int 0])), (h29x, .inl (aC 0, 5, .inl (fun _ => 0))), (h30x, .inl (aC 0, 4, .inl (fun _ => 0))), (h22x, .inr (6, [.int 0, .ref h31x, .ref h32x, .int 0, .int 0, .int 0])), (h31x, .inl (aC 0, 5, .inl (fun _ => 0))), (h32x, .inl (aC 0, 4, .inl (fun _ => 0))), (h23x, .inr (6, [.int 0, .ref h33x, .ref h34x, .int 0, .int 0, .int 0])), (h33x, .inl (aC 0, 5, .inl (fun _ => 0))), (h34x, .inl (aC 0, 4, .inl (fun _ => 0))), (h24x, .inr (6, [.int 0, .ref h35x, .ref h36x, .int 0, .int 0, .int 0])), (h35x, .inl (aC 0, 5, .inl (fun _ => 0))), (h36x, .inl (aC 0, 4, .inl (fun _ => 0))), (h25x, .inr (5, [.ref h37x, .int 0, .int 0, .ref h38x, .int 0])), (h37x, .inl (aC 0, 160, .inl (fun _ => 0))), (h38x, .inl (aC 0, 8, .inl (fun _ => 0))), (h26x, .inr (5, [.ref h39x, .int 0, .int 0, .ref h40x, .int 0])), (h39x, .inl (aC 0, 160, .inl (fun _ => 0))), (h40x, .inl (aC 0, 8, .inl (fun _ => 0))), (h27x, .inr (5, [.ref h41x, .int 0, .int 0, .ref h42x, .int 0])), (h41x, .inl (aC 0, 160, .inl (fun _ => 0))), (h42x, .inl (aC 0, 8, .inl (fun _ => 0))), (h28x, .inr (5, [.ref h43x, .int 0, .int 0, .ref h44x, .int 0])), (h43x, .inl (aC 0, 160, .inl (fun _ => 0))), (h44x, .inl (aC 0, 8, .inl (fun _ => 0))), (h1m, .inr (11, [.int 0, x2m, x3m, x4m, x5m, x6m, x7m, x8m, x9m, x10m, x11m, x12m, x13m, x14m, x15m, x16m, x17m, x18m, x19m, x20m, x21m, x22m, x23m, x24m, x25m, x26m, x27m, x28m, x29m, x30m, x31m, x32m, x33m, x34m, x35m, x36m, x37m, x38m, x39m, x40m, x41m, x42m, x43m, x44m, x45m, x46m, .ref h47m, .ref h48m, .ref h49m, .ref h50m, .ref h51m, .ref h52m, .ref h53m, .ref h54m, .ref h55m, .ref h56m, x57m, .ref h58m, x59m, .ref h60m, x61m, x62m, x63m, x64m, x65m, x66m, x67m, x68m, x69m, x70m, x71m, x72m, x73m, x74m])), (h47m, .inl (aC 0, 6, .inl (fun _ => 0))), (h48m, .inl (aC 0, 240, .inl (fun _ => 0))), (h49m, .inl (aC 0, 240, .inl (fun _ => 0))), (h50m, .inl (aC 0, 240, .inl (fun _ => 0))), (h51m, .inl (aC 0, 240, .inl (fun _ => 0))), (h52m, .inl (aC 0, 5, .inl (fun _ => 0))), (h53m, .inl (aC 0, 40, .inl (fun _ => 0))), (h54m, .inl (aC 0, 40, .inl (fun _ => 0))), (h55m, .inl (aC 3, 40, .inl (fun _ => 0))), (h56m, .inl (aC 0, 13, .inl (fun _ => 0))), (h58m, .inl (aC 0, 52, .inl (fun _ => 0))), (h60m, .inl (aC 3, 4, .inl (fun _ => 0)))] H) (hD : va_D A [(h1x, .inr (10, [x2x, x3x, x4x, x5x, x6x, .ref h7x, x8x, .ref h9x, x10x, .ref h11x, .ref h12x, .int 0, x13x, x14x, x15x, x16x])), (h7x, .inr (6, [.int 0, .ref h17x, .ref h18x, .int 0, .int 0, .int 0])), (h17x, .inl (aC 0, 5, .inl (fun _ => 0))), (h18x, .inl (aC 0, 4, .inl (fun _ => 0))), (h9x, .inr (5, [.ref h19x, .int 0, .int 0, .ref h20x, .int 0])), (h19x, .inl (aC 0, 160, .inl (fun _ => 0))), (h20x, .inl (aC 0, 8, .inl (fun _ => 0))), (h11x, .inl (aC 4, 4, .inr (.inr (.inr (.inr (va_up (va_up (va_up (va_up (fun _ => none) 0 (some h21x)) 1 (some h22x)) 2 (some h23x)) 3 (some h24x))))))), (h12x, .inl (aC 5, 4, .inr (.inr (.inr (.inr (va_up (va_up (va_up (va_up (fun _ => none) 0 (some h25x)) 1 (some h26x)) 2 (some h27x)) 3 (some h28x))))))), (h21x, .inr (6, [.int 0, .ref h29x, .ref h30x, .int 0, .int 0, .int 0])), (h29x, .inl (aC 0, 5, .inl (fun _ => 0))), (h30x, .inl (aC 0, 4, .inl (fun _ => 0))), (h22x, .inr (6, [.int 0, .ref h31x, .ref h32x, .int 0, .int 0, .int 0])), (h31x, .inl (aC 0, 5, .inl (fun _ => 0))), (h32x, .inl (aC 0, 4, .inl (fun _ => 0))), (h23x, .inr (6, [.int 0, .ref h33x, .ref h34x, .int 0, .int 0, .int 0])), (h33x, .inl (aC 0, 5, .inl (fun _ => 0))), (h34x, .inl (aC 0, 4, .inl (fun _ => 0))), (h24x, .inr (6, [.int 0, .ref h35x, .ref h36x, .int 0, .int 0, .int 0])), (h35x, .inl (aC 0, 5, .inl (fun _ => 0))), (h36x, .inl (aC 0, 4, .inl (fun _ => 0))), (h25x, .inr (5, [.ref h37x, .int 0, .int 0, .ref h38x, .int 0])), (h37x, .inl (aC 0, 160, .inl (fun _ => 0))), (h38x, .inl (aC 0, 8, .inl (fun _ => 0))), (h26x, .inr (5, [.ref h39x, .int 0, .int 0, .ref h40x, .int 0])), (h39x, .inl (aC 0, 160, .inl (fun _ => 0))), (h40x, .inl (aC 0, 8, .inl (fun _ => 0))), (h27x, .inr (5, [.ref h41x, .int 0, .int 0, .ref h42x, .int 0])), (h41x, .inl (aC 0, 160, .inl (fun _ => 0))), (h42x, .inl (aC 0, 8, .inl (fun _ => 0))), (h28x, .inr (5, [.ref h43x, .int 0, .int 0, .ref h44x, .int 0])), (h43x, .inl (aC 0, 160, .inl (fun _ => 0))), (h44x, .inl (aC 0, 8, .inl (fun _ => 0))), (h1m, .inr (11, [.int 0, x2m, x3m, x4m, x5m, x6m, x7m, x8m, x9m, x10m, x11m, x12m, x13m, x14m, x15m, x16m, x17m, x18m, x19m, x20m, x21m, x22m, x23m, x24m, x25m, x26m, x27m, x28m, x29m, x30m, x31m, x32m, x33m, x34m, x35m, x36m, x37m, x38m, x39m, x40m, x41m, x42m, x43m, x44m, x45m, x46m, .ref h47m, .ref h48m, .ref h49m, .ref h50m, .ref h51m, .ref h52m, .ref h53m, .ref h54m, .ref h55m, .ref h56m, x57m, .ref h58m, x59m, .ref h60m, x61m, x62m, x63m, x64m, x65m, x66m, x67m, x68m, x69m, x70m, x71m, x72m, x73m, x74m])), (h47m, .inl (aC 0, 6, .inl (fun _ => 0))), (h48m, .inl (aC 0, 240, .inl (fun _ => 0))), (h49m, .inl (aC 0, 240, .inl (fun _ => 0))), (h50m, .inl (aC 0, 240, .inl (fun _ => 0))), (h51m, .inl (aC 0, 240, .inl (fun _ => 0))), (h52m, .inl (aC 0, 5, .inl (fun _ => 0))), (h53m, .inl (aC 0, 40, .inl (fun _ => 0))), (h54m, .inl (aC 0, 40, .inl (fun _ => 0))), (h55m, .inl (aC 3, 40, .inl (fun _ => 0))), (h56m, .inl (aC 0, 13, .inl (fun _ => 0))), (h58m, .inl (aC 0, 52, .inl (fun _ => 0))), (h60m, .inl (aC 3, 4, .inl (fun _ => 0)))]) (hS : va_S A s.heap H locs) (ls : Array Slot) (hl : lv_has ls 7 [(4, .int 0), (3, .ref ho), (2, .ref h1m), (1, .ref h1x), (0, .ref b)]) : W p l e room_1 s m #[Value.ref b] below meth c H locs 700 60000 (lw_Z below #[Value.ref b] s) (F0 m 1201 ls []) := by
  obtain ⟨hx, hb, hml, hown, hts, hK, hA, hM, hM2⟩ := id F
  refine lv_aload_n hx hb dL_law_1201 rfl (lv_at hl 3 rfl) ?_
  refine lv_aload_n hx hb dL_law_1202 rfl (lv_at hl 4 rfl) ?_
  refine lv_iload hx hb dL_law_1203 (lv_at hl 0 rfl) ?_
  refine lv_iconst (v := 1) hx hb dL_law_1205 (by decide) ?_
  refine lv_iadd hx hb dL_law_1206 ?_
  refine relit (v := 1) (by decide +kernel) ?_
  refine va_sld hx hb hX hbl hbA hS (vpin (j := 1) (by decide +kernel) (by decide +kernel) (by decide)) dL_law_1207 ?_
  refine relit (v := xs 1) (by rw [show ((1 : Int32).toNatClampNeg) = 1 from by decide +kernel]) ?_
  refine lv_aload_n hx hb dL_law_1208 rfl (lv_at hl 4 rfl) ?_
  refine lv_iload hx hb dL_law_1209 (lv_at hl 0 rfl) ?_
  refine lv_iconst (v := 2) hx hb dL_law_1211 (by decide) ?_
  refine lv_iadd hx hb dL_law_1212 ?_
  refine relit (v := 2) (by decide +kernel) ?_
  refine va_sld hx hb hX hbl hbA hS (vpin (j := 2) (by decide +kernel) (by decide +kernel) (by decide)) dL_law_1213 ?_
  refine relit (v := xs 2) (by rw [show ((2 : Int32).toNatClampNeg) = 2 from by decide +kernel]) ?_
  refine lv_if_eq (tgt := 1221) hx hb dL_law_1214 (by decide) (fun c1 => ?_) (fun c1 => ?_)
  · refine lv_iconst (v := 0) hx hb dL_law_1221 (by decide) ?_
    refine goI (wr := [(h1m, .inr (11, [.int 0, x2m, x3m, x4m, x5m, x6m, x7m, x8m, x9m, x10m, x11m, x12m, x13m, x14m, x15m, x16m, x17m, x18m, x19m, x20m, x21m, x22m, x23m, x24m, x25m, x26m, x27m, x28m, x29m, x30m, x31m, x32m, x33m, x34m, x35m, x36m, x37m, x38m, x39m, x40m, x41m, x42m, x43m, x44m, x45m, x46m, .ref h47m, .ref h48m, .ref h49m, .ref h50m, .ref h51m, .ref h52m, .ref h53m, .ref h54m, .ref h55m, .ref h56m, x57m, .ref h58m, x59m, .ref h60m, x61m, x62m, x63m, x64m, x65m, x66m, x67m, x68m, x69m, x70m, x71m, x72m, x73m, x74m])), (h47m, .inl (aC 0, 6, .inl (fun _ => 0))), (h48m, .inl (aC 0, 240, .inl (fun _ => 0))), (h49m, .inl (aC 0, 240, .inl (fun _ => 0))), (h50m, .inl (aC 0, 240, .inl (fun _ => 0))), (h51m, .inl (aC 0, 240, .inl (fun _ => 0))), (h52m, .inl (aC 0, 5, .inl (fun _ => 0))), (h53m, .inl (aC 0, 40, .inl (fun _ => 0))), (h54m, .inl (aC 0, 40, .inl (fun _ => 0))), (h55m, .inl (aC 3, 40, .inl (fun _ => 0))), (h56m, .inl (aC 0, 13, .inl (fun _ => 0))), (h58m, .inl (aC 0, 52, .inl (fun _ => 0))), (h60m, .inl (aC 3, 4, .inl (fun _ => 0)))]) (runV (n := 2) (As := [.int (xs 1), .int 0]) (rest := []) F hP hD hS (x_mark0 l g aC aM h1x h7x h9x h11x h12x h17x h18x h19x h20x h21x h22x h23x h24x h25x h26x h27x h28x h29x h30x h31x h32x h33x h34x h35x h36x h37x h38x h39x h40x h41x h42x h43x h44x x2x x3x x4x x5x x6x x8x x10x x13x x14x x15x x16x (xs 1)) [0, 1, 2, 3, 4, 5, 6, 7, 8, 9, 10, 11, 12, 13, 14, 15, 16, 17, 18, 19, 20, 21, 22, 23, 24, 25, 26, 27, 28, 29, 30, 31, 32] (by decide) rfl 0 10 rfl rfl rfl tb1079 tb1076 tb1077 tb1078 tb1 ⟨by decide, by decide, by decide +kernel⟩ ⟨Nat.le_of_ble_eq_true rfl, Nat.le_of_ble_eq_true rfl⟩ rfl hl.1 rfl (Nat.le_of_ble_eq_true rfl) dL_law_1222 ⟨Nat.le_of_ble_eq_true rfl, Nat.le_of_ble_eq_true rfl⟩) hP hD hS hA [0, 1, 2, 3, 4, 5, 6, 7, 8, 9, 10, 11, 12, 13, 14, 15, 16, 17, 18, 19, 20, 21, 22, 23, 24, 25, 26, 27, 28, 29, 30, 31, 32] [33, 34, 35, 36, 37, 38, 39, 40, 41, 42, 43, 44, 45] rfl rfl (by decide) (by decide) (fun r_3 w4 H locs hw hP hD hS => ?_)
    have hP : va_P g vwCl [(h1m, .inr (11, [.int 0, x2m, x3m, x4m, x5m, x6m, x7m, x8m, x9m, x10m, x11m, x12m, x13m, x14m, x15m, x16m, x17m, x18m, x19m, x20m, x21m, x22m, x23m, x24m, x25m, x26m, x27m, x28m, x29m, x30m, x31m, x32m, x33m, x34m, x35m, x36m, x37m, x38m, x39m, x40m, x41m, x42m, x43m, x44m, x45m, x46m, .ref h47m, .ref h48m, .ref h49m, .ref h50m, .ref h51m, .ref h52m, .ref h53m, .ref h54m, .ref h55m, .ref h56m, x57m, .ref h58m, x59m, .ref h60m, x61m, x62m, x63m, x64m, x65m, x66m, x67m, x68m, x69m, x70m, x71m, x72m, x73m, x74m])), (h47m, .inl (aC 0, 6, .inl (fun _ => 0))), (h48m, .inl (aC 0, 240, .inl (fun _ => 0))), (h49m, .inl (aC 0, 240, .inl (fun _ => 0))), (h50m, .inl (aC 0, 240, .inl (fun _ => 0))), (h51m, .inl (aC 0, 240, .inl (fun _ => 0))), (h52m, .inl (aC 0, 5, .inl (fun _ => 0))), (h53m, .inl (aC 0, 40, .inl (fun _ => 0))), (h54m, .inl (aC 0, 40, .inl (fun _ => 0))), (h55m, .inl (aC 3, 40, .inl (fun _ => 0))), (h56m, .inl (aC 0, 13, .inl (fun _ => 0))), (h58m, .inl (aC 0, 52, .inl (fun _ => 0))), (h60m, .inl (aC 3, 4, .inl (fun _ => 0)))] H := hP
    have hD : va_D A [(h1m, .inr (11, [.int 0, x2m, x3m, x4m, x5m, x6m, x7m, x8m, x9m, x10m, x11m, x12m, x13m, x14m, x15m, x16m, x17m, x18m, x19m, x20m, x21m, x22m, x23m, x24m, x25m, x26m, x27m, x28m, x29m, x30m, x31m, x32m, x33m, x34m, x35m, x36m, x37m, x38m, x39m, x40m, x41m, x42m, x43m, x44m, x45m, x46m, .ref h47m, .ref h48m, .ref h49m, .ref h50m, .ref h51m, .ref h52m, .ref h53m, .ref h54m, .ref h55m, .ref h56m, x57m, .ref h58m, x59m, .ref h60m, x61m, x62m, x63m, x64m, x65m, x66m, x67m, x68m, x69m, x70m, x71m, x72m, x73m, x74m])), (h47m, .inl (aC 0, 6, .inl (fun _ => 0))), (h48m, .inl (aC 0, 240, .inl (fun _ => 0))), (h49m, .inl (aC 0, 240, .inl (fun _ => 0))), (h50m, .inl (aC 0, 240, .inl (fun _ => 0))), (h51m, .inl (aC 0, 240, .inl (fun _ => 0))), (h52m, .inl (aC 0, 5, .inl (fun _ => 0))), (h53m, .inl (aC 0, 40, .inl (fun _ => 0))), (h54m, .inl (aC 0, 40, .inl (fun _ => 0))), (h55m, .inl (aC 3, 40, .inl (fun _ => 0))), (h56m, .inl (aC 0, 13, .inl (fun _ => 0))), (h58m, .inl (aC 0, 52, .inl (fun _ => 0))), (h60m, .inl (aC 3, 4, .inl (fun _ => 0)))] := hD
    try dsimp only at hw
    subst hw
    refine lv_aload_n hx hb dL_law_1225 rfl (lv_at hl 2 rfl) ?_
    refine lv_aload_n hx hb dL_law_1226 rfl (lv_at hl 4 rfl) ?_
    refine lv_iload hx hb dL_law_1227 (lv_at hl 0 rfl) ?_
    refine lv_iconst (v := 1) hx hb dL_law_1229 (by decide) ?_
    refine lv_iadd hx hb dL_law_1230 ?_
    refine relit (v := 1) (by decide +kernel) ?_
    refine va_sld hx hb hX hbl hbA hS (vpin (j := 1) (by decide +kernel) (by decide +kernel) (by decide)) dL_law_1231 ?_
    refine relit (v := xs 1) (by rw [show ((1 : Int32).toNatClampNeg) = 1 from by decide +kernel]) ?_
    refine lv_aload_n hx hb dL_law_1232 rfl (lv_at hl 4 rfl) ?_
    refine lv_iload hx hb dL_law_1233 (lv_at hl 0 rfl) ?_
    refine lv_iconst (v := 2) hx hb dL_law_1235 (by decide) ?_
    refine lv_iadd hx hb dL_law_1236 ?_
    refine relit (v := 2) (by decide +kernel) ?_
    refine va_sld hx hb hX hbl hbA hS (vpin (j := 2) (by decide +kernel) (by decide +kernel) (by decide)) dL_law_1237 ?_
    refine relit (v := xs 2) (by rw [show ((2 : Int32).toNatClampNeg) = 2 from by decide +kernel]) ?_
    refine lv_if_eq (tgt := 1245) hx hb dL_law_1238 (by decide) (fun c5 => ?_) (fun c5 => ?_)
    · refine lv_iconst (v := 0) hx hb dL_law_1245 (by decide) ?_
      refine goI (wr := []) (runV (n := 2) (As := [.int (xs 1), .int 0]) (rest := [.int (sp_mark0 (xs 1))]) F hP hD hS (m_mark0 l g aC aM h1m h47m h48m h49m h50m h51m h52m h53m h54m h55m h56m h58m h60m x2m x3m x4m x5m x6m x7m x8m x9m x10m x11m x12m x13m x14m x15m x16m x17m x18m x19m x20m x21m x22m x23m x24m x25m x26m x27m x28m x29m x30m x31m x32m x33m x34m x35m x36m x37m x38m x39m x40m x41m x42m x43m x44m x45m x46m x57m x59m x61m x62m x63m x64m x65m x66m x67m x68m x69m x70m x71m x72m x73m x74m (xs 1)) [0, 1, 2, 3, 4, 5, 6, 7, 8, 9, 10, 11, 12] (by decide) rfl 0 11 rfl rfl rfl tb1913 tb1910 tb1911 tb1912 tb17 ⟨by decide, by decide, by decide +kernel⟩ ⟨Nat.le_of_ble_eq_true rfl, Nat.le_of_ble_eq_true rfl⟩ rfl hl.1 rfl (Nat.le_of_ble_eq_true rfl) dL_law_1246 ⟨Nat.le_of_ble_eq_true rfl, Nat.le_of_ble_eq_true rfl⟩) hP hD hS hA [0, 1, 2, 3, 4, 5, 6, 7, 8, 9, 10, 11, 12] [] rfl rfl (by decide) (by decide) (fun r_7 w8 H locs hw hP hD hS => ?_)
      have hP : va_P g vwCl [] H := hP
      have hD : va_D A [] := hD
      try dsimp only at hw
      subst hw
      refine lv_icmp_eq (tgt := 1279) hx hb dL_law_1249 (by decide) (fun _ => ?_) (fun c_ => absurd rfl c_)
      exact law_end F hr hlocks hX hbl hbA hAs hS (Nat.le_of_ble_eq_true rfl) (Nat.le_of_ble_eq_true rfl) _ (lv_sub hl [0, 4] rfl)
    · exfalso
      simp only [Int32.lt_iff_toInt_lt, Int32.le_iff_toInt_le, ← Int32.toInt_inj, show (0 : Int32).toInt = 0 by decide] at c1 c5; omega
  · refine lv_iconst (v := 1) hx hb dL_law_1217 (by decide) ?_
    refine lv_goto (tgt := 1222) hx hb dL_law_1218 (by decide) ?_
    refine goI (wr := [(h1m, .inr (11, [.int 0, x2m, x3m, x4m, x5m, x6m, x7m, x8m, x9m, x10m, x11m, x12m, x13m, x14m, x15m, x16m, x17m, x18m, x19m, x20m, x21m, x22m, x23m, x24m, x25m, x26m, x27m, x28m, x29m, x30m, x31m, x32m, x33m, x34m, x35m, x36m, x37m, x38m, x39m, x40m, x41m, x42m, x43m, x44m, x45m, x46m, .ref h47m, .ref h48m, .ref h49m, .ref h50m, .ref h51m, .ref h52m, .ref h53m, .ref h54m, .ref h55m, .ref h56m, x57m, .ref h58m, x59m, .ref h60m, x61m, x62m, x63m, x64m, x65m, x66m, x67m, x68m, x69m, x70m, x71m, x72m, x73m, x74m])), (h47m, .inl (aC 0, 6, .inl (fun _ => 0))), (h48m, .inl (aC 0, 240, .inl (fun _ => 0))), (h49m, .inl (aC 0, 240, .inl (fun _ => 0))), (h50m, .inl (aC 0, 240, .inl (fun _ => 0))), (h51m, .inl (aC 0, 240, .inl (fun _ => 0))), (h52m, .inl (aC 0, 5, .inl (fun _ => 0))), (h53m, .inl (aC 0, 40, .inl (fun _ => 0))), (h54m, .inl (aC 0, 40, .inl (fun _ => 0))), (h55m, .inl (aC 3, 40, .inl (fun _ => 0))), (h56m, .inl (aC 0, 13, .inl (fun _ => 0))), (h58m, .inl (aC 0, 52, .inl (fun _ => 0))), (h60m, .inl (aC 3, 4, .inl (fun _ => 0)))]) (runV (n := 2) (As := [.int (xs 1), .int 1]) (rest := []) F hP hD hS (x_mark1 l g aC aM h1x h7x h9x h11x h12x h17x h18x h19x h20x h21x h22x h23x h24x h25x h26x h27x h28x h29x h30x h31x h32x h33x h34x h35x h36x h37x h38x h39x h40x h41x h42x h43x h44x x2x x3x x4x x5x x6x x8x x10x x13x x14x x15x x16x (xs 1)) [0, 1, 2, 3, 4, 5, 6, 7, 8, 9, 10, 11, 12, 13, 14, 15, 16, 17, 18, 19, 20, 21, 22, 23, 24, 25, 26, 27, 28, 29, 30, 31, 32] (by decide) rfl 0 10 rfl rfl rfl tb1079 tb1076 tb1077 tb1078 tb1 ⟨by decide, by decide, by decide +kernel⟩ ⟨Nat.le_of_ble_eq_true rfl, Nat.le_of_ble_eq_true rfl⟩ rfl hl.1 rfl (Nat.le_of_ble_eq_true rfl) dL_law_1222 ⟨Nat.le_of_ble_eq_true rfl, Nat.le_of_ble_eq_true rfl⟩) hP hD hS hA [0, 1, 2, 3, 4, 5, 6, 7, 8, 9, 10, 11, 12, 13, 14, 15, 16, 17, 18, 19, 20, 21, 22, 23, 24, 25, 26, 27, 28, 29, 30, 31, 32] [33, 34, 35, 36, 37, 38, 39, 40, 41, 42, 43, 44, 45] rfl rfl (by decide) (by decide) (fun r_10 w11 H locs hw hP hD hS => ?_)
    have hP : va_P g vwCl [(h1m, .inr (11, [.int 0, x2m, x3m, x4m, x5m, x6m, x7m, x8m, x9m, x10m, x11m, x12m, x13m, x14m, x15m, x16m, x17m, x18m, x19m, x20m, x21m, x22m, x23m, x24m, x25m, x26m, x27m, x28m, x29m, x30m, x31m, x32m, x33m, x34m, x35m, x36m, x37m, x38m, x39m, x40m, x41m, x42m, x43m, x44m, x45m, x46m, .ref h47m, .ref h48m, .ref h49m, .ref h50m, .ref h51m, .ref h52m, .ref h53m, .ref h54m, .ref h55m, .ref h56m, x57m, .ref h58m, x59m, .ref h60m, x61m, x62m, x63m, x64m, x65m, x66m, x67m, x68m, x69m, x70m, x71m, x72m, x73m, x74m])), (h47m, .inl (aC 0, 6, .inl (fun _ => 0))), (h48m, .inl (aC 0, 240, .inl (fun _ => 0))), (h49m, .inl (aC 0, 240, .inl (fun _ => 0))), (h50m, .inl (aC 0, 240, .inl (fun _ => 0))), (h51m, .inl (aC 0, 240, .inl (fun _ => 0))), (h52m, .inl (aC 0, 5, .inl (fun _ => 0))), (h53m, .inl (aC 0, 40, .inl (fun _ => 0))), (h54m, .inl (aC 0, 40, .inl (fun _ => 0))), (h55m, .inl (aC 3, 40, .inl (fun _ => 0))), (h56m, .inl (aC 0, 13, .inl (fun _ => 0))), (h58m, .inl (aC 0, 52, .inl (fun _ => 0))), (h60m, .inl (aC 3, 4, .inl (fun _ => 0)))] H := hP
    have hD : va_D A [(h1m, .inr (11, [.int 0, x2m, x3m, x4m, x5m, x6m, x7m, x8m, x9m, x10m, x11m, x12m, x13m, x14m, x15m, x16m, x17m, x18m, x19m, x20m, x21m, x22m, x23m, x24m, x25m, x26m, x27m, x28m, x29m, x30m, x31m, x32m, x33m, x34m, x35m, x36m, x37m, x38m, x39m, x40m, x41m, x42m, x43m, x44m, x45m, x46m, .ref h47m, .ref h48m, .ref h49m, .ref h50m, .ref h51m, .ref h52m, .ref h53m, .ref h54m, .ref h55m, .ref h56m, x57m, .ref h58m, x59m, .ref h60m, x61m, x62m, x63m, x64m, x65m, x66m, x67m, x68m, x69m, x70m, x71m, x72m, x73m, x74m])), (h47m, .inl (aC 0, 6, .inl (fun _ => 0))), (h48m, .inl (aC 0, 240, .inl (fun _ => 0))), (h49m, .inl (aC 0, 240, .inl (fun _ => 0))), (h50m, .inl (aC 0, 240, .inl (fun _ => 0))), (h51m, .inl (aC 0, 240, .inl (fun _ => 0))), (h52m, .inl (aC 0, 5, .inl (fun _ => 0))), (h53m, .inl (aC 0, 40, .inl (fun _ => 0))), (h54m, .inl (aC 0, 40, .inl (fun _ => 0))), (h55m, .inl (aC 3, 40, .inl (fun _ => 0))), (h56m, .inl (aC 0, 13, .inl (fun _ => 0))), (h58m, .inl (aC 0, 52, .inl (fun _ => 0))), (h60m, .inl (aC 3, 4, .inl (fun _ => 0)))] := hD
    try dsimp only at hw
    subst hw
    refine lv_aload_n hx hb dL_law_1225 rfl (lv_at hl 2 rfl) ?_
    refine lv_aload_n hx hb dL_law_1226 rfl (lv_at hl 4 rfl) ?_
    refine lv_iload hx hb dL_law_1227 (lv_at hl 0 rfl) ?_
    refine lv_iconst (v := 1) hx hb dL_law_1229 (by decide) ?_
    refine lv_iadd hx hb dL_law_1230 ?_
    refine relit (v := 1) (by decide +kernel) ?_
    refine va_sld hx hb hX hbl hbA hS (vpin (j := 1) (by decide +kernel) (by decide +kernel) (by decide)) dL_law_1231 ?_
    refine relit (v := xs 1) (by rw [show ((1 : Int32).toNatClampNeg) = 1 from by decide +kernel]) ?_
    refine lv_aload_n hx hb dL_law_1232 rfl (lv_at hl 4 rfl) ?_
    refine lv_iload hx hb dL_law_1233 (lv_at hl 0 rfl) ?_
    refine lv_iconst (v := 2) hx hb dL_law_1235 (by decide) ?_
    refine lv_iadd hx hb dL_law_1236 ?_
    refine relit (v := 2) (by decide +kernel) ?_
    refine va_sld hx hb hX hbl hbA hS (vpin (j := 2) (by decide +kernel) (by decide +kernel) (by decide)) dL_law_1237 ?_
    refine relit (v := xs 2) (by rw [show ((2 : Int32).toNatClampNeg) = 2 from by decide +kernel]) ?_
    refine lv_if_eq (tgt := 1245) hx hb dL_law_1238 (by decide) (fun c12 => ?_) (fun c12 => ?_)
    · exfalso
      simp only [Int32.lt_iff_toInt_lt, Int32.le_iff_toInt_le, ← Int32.toInt_inj, show (0 : Int32).toInt = 0 by decide] at c1 c12; omega
    · refine lv_iconst (v := 1) hx hb dL_law_1241 (by decide) ?_
      refine lv_goto (tgt := 1246) hx hb dL_law_1242 (by decide) ?_
      refine goI (wr := []) (runV (n := 2) (As := [.int (xs 1), .int 1]) (rest := [.int (sp_mark1 (xs 1))]) F hP hD hS (m_mark1 l g aC aM h1m h47m h48m h49m h50m h51m h52m h53m h54m h55m h56m h58m h60m x2m x3m x4m x5m x6m x7m x8m x9m x10m x11m x12m x13m x14m x15m x16m x17m x18m x19m x20m x21m x22m x23m x24m x25m x26m x27m x28m x29m x30m x31m x32m x33m x34m x35m x36m x37m x38m x39m x40m x41m x42m x43m x44m x45m x46m x57m x59m x61m x62m x63m x64m x65m x66m x67m x68m x69m x70m x71m x72m x73m x74m (xs 1)) [0, 1, 2, 3, 4, 5, 6, 7, 8, 9, 10, 11, 12] (by decide) rfl 0 11 rfl rfl rfl tb1913 tb1910 tb1911 tb1912 tb17 ⟨by decide, by decide, by decide +kernel⟩ ⟨Nat.le_of_ble_eq_true rfl, Nat.le_of_ble_eq_true rfl⟩ rfl hl.1 rfl (Nat.le_of_ble_eq_true rfl) dL_law_1246 ⟨Nat.le_of_ble_eq_true rfl, Nat.le_of_ble_eq_true rfl⟩) hP hD hS hA [0, 1, 2, 3, 4, 5, 6, 7, 8, 9, 10, 11, 12] [] rfl rfl (by decide) (by decide) (fun r_14 w15 H locs hw hP hD hS => ?_)
      have hP : va_P g vwCl [] H := hP
      have hD : va_D A [] := hD
      try dsimp only at hw
      subst hw
      refine lv_icmp_eq (tgt := 1279) hx hb dL_law_1249 (by decide) (fun _ => ?_) (fun c_ => absurd rfl c_)
      exact law_end F hr hlocks hX hbl hbA hAs hS (Nat.le_of_ble_eq_true rfl) (Nat.le_of_ble_eq_true rfl) _ (lv_sub hl [0, 4] rfl)

theorem tb1085 : (Jvm.Cond.methodLink "StairGangLaw" (152 : Nat) ({ cls := "StairGang", name := "count", desc := "(I)I" } : Jvm.MethodName)) ∈ gw := lw_m 1085 (by decide +kernel)
theorem tb1086 : (Jvm.Cond.instanceMethod ({ cls := "StairGang", name := "count", desc := "(I)I" } : Jvm.MethodName)) ∈ gw := lw_m 1086 (by decide +kernel)
theorem tb1087 : (Jvm.Cond.selects "StairGang" ({ cls := "StairGang", name := "count", desc := "(I)I" } : Jvm.MethodName) ({ cls := "StairGang", name := "count", desc := "(I)I" } : Jvm.MethodName)) ∈ gw := lw_m 1087 (by decide +kernel)
theorem tb1088 : (Jvm.Cond.code ({ cls := "StairGang", name := "count", desc := "(I)I" } : Jvm.MethodName) prog_1_method_31_code (2 : Nat) (Option.some Jvm.ClassFile.FieldType.int)) ∈ gw := lw_m 1088 (by decide +kernel)
theorem tb1918 : (Jvm.Cond.methodLink "StairGangLaw" (155 : Nat) ({ cls := "StairGangModel", name := "count", desc := "(I)I" } : Jvm.MethodName)) ∈ gw := lw_m 1918 (by decide +kernel)
theorem tb1919 : (Jvm.Cond.instanceMethod ({ cls := "StairGangModel", name := "count", desc := "(I)I" } : Jvm.MethodName)) ∈ gw := lw_m 1919 (by decide +kernel)
theorem tb1920 : (Jvm.Cond.selects "StairGangModel" ({ cls := "StairGangModel", name := "count", desc := "(I)I" } : Jvm.MethodName) ({ cls := "StairGangModel", name := "count", desc := "(I)I" } : Jvm.MethodName)) ∈ gw := lw_m 1920 (by decide +kernel)
theorem tb1921 : (Jvm.Cond.code ({ cls := "StairGangModel", name := "count", desc := "(I)I" } : Jvm.MethodName) prog_13_method_123_code (2 : Nat) (Option.some Jvm.ClassFile.FieldType.int)) ∈ gw := lw_m 1921 (by decide +kernel)
theorem dL_law_1254 : decode cL_law 1254 = .ok (.aload_n 1, 1) := by decide +kernel
theorem dL_law_1255 : decode cL_law 1255 = .ok (.aload_n 0, 1) := by decide +kernel
theorem dL_law_1256 : decode cL_law 1256 = .ok (.iload 4, 2) := by decide +kernel
theorem dL_law_1258 : decode cL_law 1258 = .ok (.iconst 1, 1) := by decide +kernel
theorem dL_law_1259 : decode cL_law 1259 = .ok (.iadd, 1) := by decide +kernel
theorem dL_law_1260 : decode cL_law 1260 = .ok (.iaload, 1) := by decide +kernel
theorem dL_law_1261 : decode cL_law 1261 = .ok (.invokevirtual 152, 3) := by decide +kernel
theorem dL_law_1264 : decode cL_law 1264 = .ok (.aload_n 2, 1) := by decide +kernel
theorem dL_law_1265 : decode cL_law 1265 = .ok (.aload_n 0, 1) := by decide +kernel
theorem dL_law_1266 : decode cL_law 1266 = .ok (.iload 4, 2) := by decide +kernel
theorem dL_law_1268 : decode cL_law 1268 = .ok (.iconst 1, 1) := by decide +kernel
theorem dL_law_1269 : decode cL_law 1269 = .ok (.iadd, 1) := by decide +kernel
theorem dL_law_1270 : decode cL_law 1270 = .ok (.iaload, 1) := by decide +kernel
theorem dL_law_1271 : decode cL_law 1271 = .ok (.invokevirtual 155, 3) := by decide +kernel
theorem dL_law_1274 : decode cL_law 1274 = .ok (.if_icmp .eq 5, 3) := by decide +kernel
set_option maxHeartbeats 4000000 in
set_option maxRecDepth 100000 in
theorem lc_count {p : Program} {l : Launch} {e : Env} {s : State} {m : MethodId} {below : List Frame} {meth : Method} {c : Code} {g : va_G} {aC : Nat → ClassId} {aM : Nat → Nat} {A : Nat → Prop} {b : Nat} {xs : Nat → Int32} (F : Fx p s m #[Value.ref b] c code 7 RL g aC aM A) (hr : meth.sig.returnType = ret) (hlocks : meth.locks = false) (hX : va_X b 7 xs s s.heap) (hbl : b < s.heap.size) (hbA : ¬ A b) (hAs : ∀ q, A q → s.heap.size ≤ q) (h1x h2x h5x h7x h9x h10x h27x : Nat) (x3x x4x x6x x8x x11x x12x x13x x14x x15x x16x x17x x18x x19x x20x x21x x22x x23x x24x x25x x26x x28x x29x x30x x31x x32x x33x x34x x35x x36x x37x x38x x39x x40x x41x x42x x43x x44x x45x : Value) (h1m h10m h46m h51m h55m : Nat) (x2m x3m x4m x5m x6m x7m x8m x9m x11m x12m x13m x14m x15m x16m x17m x18m x19m x20m x21m x22m x23m x24m x25m x26m x27m x28m x29m x30m x31m x32m x33m x34m x35m x36m x37m x38m x39m x40m x41m x42m x43m x44m x45m x47m x48m x49m x50m x52m x53m x54m x56m x57m x58m x59m x60m x61m x62m x63m x64m x65m x66m x67m x68m x69m x70m x71m x72m : Value) (ho : Nat) {H : Heap} {locs : List Loc} (hP : va_P g vwCl [(h1x, .inr (10, [.ref h2x, x3x, x4x, .ref h5x, x6x, .ref h7x, x8x, .ref h9x, .ref h10x, x11x, x12x, x13x, x14x, x15x, x16x, x17x])), (h2x, .inr (7, [.int 0, x18x, x19x, x20x, x21x, x22x, x23x, x24x, x25x, x26x])), (h5x, .inr (8, [.ref h27x, x28x, x29x, x30x, x31x, x32x, x33x, x34x, x35x, x36x, x37x, x38x])), (h27x, .inl (aC 0, 5, .inl (fun _ => 0))), (h7x, .inr (6, [.int 0, x39x, x40x, .int 0, .int 0, .int 0])), (h9x, .inr (5, [x41x, .int 0, .int 0, x42x, x43x])), (h10x, .inr (1, [.int 0, x44x, x45x])), (h1m, .inr (11, [.int 0, .int 0, x2m, x3m, x4m, x5m, x6m, x7m, x8m, x9m, .ref h10m, x11m, x12m, x13m, x14m, x15m, x16m, x17m, x18m, x19m, x20m, x21m, x22m, x23m, x24m, x25m, x26m, x27m, x28m, x29m, x30m, x31m, x32m, x33m, x34m, x35m, x36m, x37m, x38m, x39m, x40m, x41m, x42m, x43m, x44m, x45m, .ref h46m, x47m, x48m, x49m, x50m, .ref h51m, x52m, x53m, x54m, .ref h55m, x56m, x57m, x58m, x59m, .int 0, x60m, x61m, x62m, x63m, x64m, x65m, x66m, x67m, x68m, x69m, x70m, x71m, x72m])), (h10m, .inl (aC 0, 14, .inl (fun _ => 0))), (h46m, .inl (aC 0, 6, .inl (fun _ => 0))), (h51m, .inl (aC 0, 5, .inl (fun _ => 0))), (h55m, .inl (aC 0, 13, .inl (fun _ => 0)))] H) (hD : va_D A [(h1x, .inr (10, [.ref h2x, x3x, x4x, .ref h5x, x6x, .ref h7x, x8x, .ref h9x, .ref h10x, x11x, x12x, x13x, x14x, x15x, x16x, x17x])), (h2x, .inr (7, [.int 0, x18x, x19x, x20x, x21x, x22x, x23x, x24x, x25x, x26x])), (h5x, .inr (8, [.ref h27x, x28x, x29x, x30x, x31x, x32x, x33x, x34x, x35x, x36x, x37x, x38x])), (h27x, .inl (aC 0, 5, .inl (fun _ => 0))), (h7x, .inr (6, [.int 0, x39x, x40x, .int 0, .int 0, .int 0])), (h9x, .inr (5, [x41x, .int 0, .int 0, x42x, x43x])), (h10x, .inr (1, [.int 0, x44x, x45x])), (h1m, .inr (11, [.int 0, .int 0, x2m, x3m, x4m, x5m, x6m, x7m, x8m, x9m, .ref h10m, x11m, x12m, x13m, x14m, x15m, x16m, x17m, x18m, x19m, x20m, x21m, x22m, x23m, x24m, x25m, x26m, x27m, x28m, x29m, x30m, x31m, x32m, x33m, x34m, x35m, x36m, x37m, x38m, x39m, x40m, x41m, x42m, x43m, x44m, x45m, .ref h46m, x47m, x48m, x49m, x50m, .ref h51m, x52m, x53m, x54m, .ref h55m, x56m, x57m, x58m, x59m, .int 0, x60m, x61m, x62m, x63m, x64m, x65m, x66m, x67m, x68m, x69m, x70m, x71m, x72m])), (h10m, .inl (aC 0, 14, .inl (fun _ => 0))), (h46m, .inl (aC 0, 6, .inl (fun _ => 0))), (h51m, .inl (aC 0, 5, .inl (fun _ => 0))), (h55m, .inl (aC 0, 13, .inl (fun _ => 0)))]) (hS : va_S A s.heap H locs) (ls : Array Slot) (hl : lv_has ls 7 [(4, .int 0), (3, .ref ho), (2, .ref h1m), (1, .ref h1x), (0, .ref b)]) : W p l e room_1 s m #[Value.ref b] below meth c H locs 700 60000 (lw_Z below #[Value.ref b] s) (F0 m 1254 ls []) := by
  obtain ⟨hx, hb, hml, hown, hts, hK, hA, hM, hM2⟩ := id F
  refine lv_aload_n hx hb dL_law_1254 rfl (lv_at hl 3 rfl) ?_
  refine lv_aload_n hx hb dL_law_1255 rfl (lv_at hl 4 rfl) ?_
  refine lv_iload hx hb dL_law_1256 (lv_at hl 0 rfl) ?_
  refine lv_iconst (v := 1) hx hb dL_law_1258 (by decide) ?_
  refine lv_iadd hx hb dL_law_1259 ?_
  refine relit (v := 1) (by decide +kernel) ?_
  refine va_sld hx hb hX hbl hbA hS (vpin (j := 1) (by decide +kernel) (by decide +kernel) (by decide)) dL_law_1260 ?_
  refine relit (v := xs 1) (by rw [show ((1 : Int32).toNatClampNeg) = 1 from by decide +kernel]) ?_
  refine goI (wr := [(h1m, .inr (11, [.int 0, .int 0, x2m, x3m, x4m, x5m, x6m, x7m, x8m, x9m, .ref h10m, x11m, x12m, x13m, x14m, x15m, x16m, x17m, x18m, x19m, x20m, x21m, x22m, x23m, x24m, x25m, x26m, x27m, x28m, x29m, x30m, x31m, x32m, x33m, x34m, x35m, x36m, x37m, x38m, x39m, x40m, x41m, x42m, x43m, x44m, x45m, .ref h46m, x47m, x48m, x49m, x50m, .ref h51m, x52m, x53m, x54m, .ref h55m, x56m, x57m, x58m, x59m, .int 0, x60m, x61m, x62m, x63m, x64m, x65m, x66m, x67m, x68m, x69m, x70m, x71m, x72m])), (h10m, .inl (aC 0, 14, .inl (fun _ => 0))), (h46m, .inl (aC 0, 6, .inl (fun _ => 0))), (h51m, .inl (aC 0, 5, .inl (fun _ => 0))), (h55m, .inl (aC 0, 13, .inl (fun _ => 0)))]) (runV (n := 1) (As := [.int (xs 1)]) (rest := []) F hP hD hS (x_count l g aC aM h1x h2x h5x h7x h9x h10x h27x x3x x4x x6x x8x x11x x12x x13x x14x x15x x16x x17x x18x x19x x20x x21x x22x x23x x24x x25x x26x x28x x29x x30x x31x x32x x33x x34x x35x x36x x37x x38x x39x x40x x41x x42x x43x x44x x45x (xs 1)) [0, 1, 2, 3, 4, 5, 6] (by decide) rfl 0 10 rfl rfl rfl tb1088 tb1085 tb1086 tb1087 tb1 ⟨by decide, by decide, by decide +kernel⟩ ⟨Nat.le_of_ble_eq_true rfl, Nat.le_of_ble_eq_true rfl⟩ rfl hl.1 rfl (Nat.le_of_ble_eq_true rfl) dL_law_1261 ⟨Nat.le_of_ble_eq_true rfl, Nat.le_of_ble_eq_true rfl⟩) hP hD hS hA [0, 1, 2, 3, 4, 5, 6] [7, 8, 9, 10, 11] rfl rfl (by decide) (by decide) (fun r_2 w3 H locs hw hP hD hS => ?_)
  have hP : va_P g vwCl [(h1m, .inr (11, [.int 0, .int 0, x2m, x3m, x4m, x5m, x6m, x7m, x8m, x9m, .ref h10m, x11m, x12m, x13m, x14m, x15m, x16m, x17m, x18m, x19m, x20m, x21m, x22m, x23m, x24m, x25m, x26m, x27m, x28m, x29m, x30m, x31m, x32m, x33m, x34m, x35m, x36m, x37m, x38m, x39m, x40m, x41m, x42m, x43m, x44m, x45m, .ref h46m, x47m, x48m, x49m, x50m, .ref h51m, x52m, x53m, x54m, .ref h55m, x56m, x57m, x58m, x59m, .int 0, x60m, x61m, x62m, x63m, x64m, x65m, x66m, x67m, x68m, x69m, x70m, x71m, x72m])), (h10m, .inl (aC 0, 14, .inl (fun _ => 0))), (h46m, .inl (aC 0, 6, .inl (fun _ => 0))), (h51m, .inl (aC 0, 5, .inl (fun _ => 0))), (h55m, .inl (aC 0, 13, .inl (fun _ => 0)))] H := hP
  have hD : va_D A [(h1m, .inr (11, [.int 0, .int 0, x2m, x3m, x4m, x5m, x6m, x7m, x8m, x9m, .ref h10m, x11m, x12m, x13m, x14m, x15m, x16m, x17m, x18m, x19m, x20m, x21m, x22m, x23m, x24m, x25m, x26m, x27m, x28m, x29m, x30m, x31m, x32m, x33m, x34m, x35m, x36m, x37m, x38m, x39m, x40m, x41m, x42m, x43m, x44m, x45m, .ref h46m, x47m, x48m, x49m, x50m, .ref h51m, x52m, x53m, x54m, .ref h55m, x56m, x57m, x58m, x59m, .int 0, x60m, x61m, x62m, x63m, x64m, x65m, x66m, x67m, x68m, x69m, x70m, x71m, x72m])), (h10m, .inl (aC 0, 14, .inl (fun _ => 0))), (h46m, .inl (aC 0, 6, .inl (fun _ => 0))), (h51m, .inl (aC 0, 5, .inl (fun _ => 0))), (h55m, .inl (aC 0, 13, .inl (fun _ => 0)))] := hD
  try dsimp only at hw
  subst hw
  refine lv_aload_n hx hb dL_law_1264 rfl (lv_at hl 2 rfl) ?_
  refine lv_aload_n hx hb dL_law_1265 rfl (lv_at hl 4 rfl) ?_
  refine lv_iload hx hb dL_law_1266 (lv_at hl 0 rfl) ?_
  refine lv_iconst (v := 1) hx hb dL_law_1268 (by decide) ?_
  refine lv_iadd hx hb dL_law_1269 ?_
  refine relit (v := 1) (by decide +kernel) ?_
  refine va_sld hx hb hX hbl hbA hS (vpin (j := 1) (by decide +kernel) (by decide +kernel) (by decide)) dL_law_1270 ?_
  refine relit (v := xs 1) (by rw [show ((1 : Int32).toNatClampNeg) = 1 from by decide +kernel]) ?_
  refine goI (wr := []) (runV (n := 1) (As := [.int (xs 1)]) (rest := [.int (sp_count (xs 1))]) F hP hD hS (m_count l g aC aM h1m h10m h46m h51m h55m x2m x3m x4m x5m x6m x7m x8m x9m x11m x12m x13m x14m x15m x16m x17m x18m x19m x20m x21m x22m x23m x24m x25m x26m x27m x28m x29m x30m x31m x32m x33m x34m x35m x36m x37m x38m x39m x40m x41m x42m x43m x44m x45m x47m x48m x49m x50m x52m x53m x54m x56m x57m x58m x59m x60m x61m x62m x63m x64m x65m x66m x67m x68m x69m x70m x71m x72m (xs 1)) [0, 1, 2, 3, 4] (by decide) rfl 0 11 rfl rfl rfl tb1921 tb1918 tb1919 tb1920 tb17 ⟨by decide, by decide, by decide +kernel⟩ ⟨Nat.le_of_ble_eq_true rfl, Nat.le_of_ble_eq_true rfl⟩ rfl hl.1 rfl (Nat.le_of_ble_eq_true rfl) dL_law_1271 ⟨Nat.le_of_ble_eq_true rfl, Nat.le_of_ble_eq_true rfl⟩) hP hD hS hA [0, 1, 2, 3, 4] [] rfl rfl (by decide) (by decide) (fun r_5 w6 H locs hw hP hD hS => ?_)
  have hP : va_P g vwCl [] H := hP
  have hD : va_D A [] := hD
  try dsimp only at hw
  subst hw
  refine lv_icmp_eq (tgt := 1279) hx hb dL_law_1274 (by decide) (fun _ => ?_) (fun c_ => absurd rfl c_)
  exact law_end F hr hlocks hX hbl hbA hAs hS (Nat.le_of_ble_eq_true rfl) (Nat.le_of_ble_eq_true rfl) _ (lv_sub hl [0, 4] rfl)
