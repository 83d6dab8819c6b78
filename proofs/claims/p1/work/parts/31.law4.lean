theorem tb947 : (Jvm.Cond.methodLink "StairGangLaw" (110 : Nat) ({ cls := "StairGang", name := "fits", desc := "(I)I" } : Jvm.MethodName)) ∈ gw := lw_m 947 (by decide +kernel)
theorem tb948 : (Jvm.Cond.instanceMethod ({ cls := "StairGang", name := "fits", desc := "(I)I" } : Jvm.MethodName)) ∈ gw := lw_m 948 (by decide +kernel)
theorem tb949 : (Jvm.Cond.selects "StairGang" ({ cls := "StairGang", name := "fits", desc := "(I)I" } : Jvm.MethodName) ({ cls := "StairGang", name := "fits", desc := "(I)I" } : Jvm.MethodName)) ∈ gw := lw_m 949 (by decide +kernel)
theorem tb950 : (Jvm.Cond.code ({ cls := "StairGang", name := "fits", desc := "(I)I" } : Jvm.MethodName) prog_1_method_22_code (7 : Nat) (Option.some Jvm.ClassFile.FieldType.int)) ∈ gw := lw_m 950 (by decide +kernel)
theorem tb1803 : (Jvm.Cond.methodLink "StairGangLaw" (113 : Nat) ({ cls := "StairGangModel", name := "fits", desc := "(I)I" } : Jvm.MethodName)) ∈ gw := lw_m 1803 (by decide +kernel)
theorem tb1804 : (Jvm.Cond.instanceMethod ({ cls := "StairGangModel", name := "fits", desc := "(I)I" } : Jvm.MethodName)) ∈ gw := lw_m 1804 (by decide +kernel)
theorem tb1805 : (Jvm.Cond.selects "StairGangModel" ({ cls := "StairGangModel", name := "fits", desc := "(I)I" } : Jvm.MethodName) ({ cls := "StairGangModel", name := "fits", desc := "(I)I" } : Jvm.MethodName)) ∈ gw := lw_m 1805 (by decide +kernel)
theorem tb1806 : (Jvm.Cond.code ({ cls := "StairGangModel", name := "fits", desc := "(I)I" } : Jvm.MethodName) prog_13_method_99_code (7 : Nat) (Option.some Jvm.ClassFile.FieldType.int)) ∈ gw := lw_m 1806 (by decide +kernel)
theorem dL_law_874 : decode cL_law 874 = .ok (.aload_n 1, 1) := by decide +kernel
theorem dL_law_875 : decode cL_law 875 = .ok (.aload_n 0, 1) := by decide +kernel
theorem dL_law_876 : decode cL_law 876 = .ok (.iload 4, 2) := by decide +kernel
theorem dL_law_878 : decode cL_law 878 = .ok (.iconst 1, 1) := by decide +kernel
theorem dL_law_879 : decode cL_law 879 = .ok (.iadd, 1) := by decide +kernel
theorem dL_law_880 : decode cL_law 880 = .ok (.iaload, 1) := by decide +kernel
theorem dL_law_881 : decode cL_law 881 = .ok (.invokevirtual 110, 3) := by decide +kernel
theorem dL_law_884 : decode cL_law 884 = .ok (.aload_n 2, 1) := by decide +kernel
theorem dL_law_885 : decode cL_law 885 = .ok (.aload_n 0, 1) := by decide +kernel
theorem dL_law_886 : decode cL_law 886 = .ok (.iload 4, 2) := by decide +kernel
theorem dL_law_888 : decode cL_law 888 = .ok (.iconst 1, 1) := by decide +kernel
theorem dL_law_889 : decode cL_law 889 = .ok (.iadd, 1) := by decide +kernel
theorem dL_law_890 : decode cL_law 890 = .ok (.iaload, 1) := by decide +kernel
theorem dL_law_891 : decode cL_law 891 = .ok (.invokevirtual 113, 3) := by decide +kernel
theorem dL_law_894 : decode cL_law 894 = .ok (.if_icmp .eq 385, 3) := by decide +kernel
set_option maxHeartbeats 4000000 in
set_option maxRecDepth 100000 in
theorem lc_fits {p : Program} {l : Launch} {e : Env} {s : State} {m : MethodId} {below : List Frame} {meth : Method} {c : Code} {g : va_G} {aC : Nat → ClassId} {aM : Nat → Nat} {A : Nat → Prop} {b : Nat} {xs : Nat → Int32} (F : Fx p s m #[Value.ref b] c code 7 RL g aC aM A) (hr : meth.sig.returnType = ret) (hlocks : meth.locks = false) (hX : va_X b 7 xs s s.heap) (hbl : b < s.heap.size) (hbA : ¬ A b) (hAs : ∀ q, A q → s.heap.size ≤ q) (h1x h5x h9x h18x : Nat) (x2x x3x x4x x6x x7x x8x x10x x11x x12x x13x x14x x15x x16x x17x x19x x20x x21x x22x x23x x24x x25x x26x x27x x28x x29x x30x x31x x32x x33x : Value) (h1m h11m h52m : Nat) (x2m x3m x4m x5m x6m x7m x8m x9m x10m x12m x13m x14m x15m x16m x17m x18m x19m x20m x21m x22m x23m x24m x25m x26m x27m x28m x29m x30m x31m x32m x33m x34m x35m x36m x37m x38m x39m x40m x41m x42m x43m x44m x45m x46m x47m x48m x49m x50m x51m x53m x54m x55m x56m x57m x58m x59m x60m x61m x62m x63m x64m x65m x66m x67m x68m x69m x70m x71m x72m x73m x74m : Value) (ho : Nat) {H : Heap} {locs : List Loc} (hP : va_P g vwCl [(h1x, .inr (10, [x2x, x3x, x4x, .ref h5x, x6x, x7x, x8x, .ref h9x, x10x, x11x, x12x, x13x, x14x, x15x, x16x, x17x])), (h5x, .inr (8, [.ref h18x, x19x, x20x, x21x, x22x, x23x, x24x, x25x, x26x, x27x, x28x, x29x])), (h18x, .inl (aC 0, 5, .inl (fun _ => 0))), (h9x, .inr (5, [x30x, x31x, .int 0, x32x, x33x])), (h1m, .inr (11, [.int 0, x2m, x3m, x4m, x5m, x6m, x7m, x8m, x9m, x10m, .ref h11m, x12m, x13m, x14m, x15m, x16m, x17m, x18m, x19m, x20m, x21m, x22m, x23m, x24m, x25m, x26m, x27m, x28m, x29m, x30m, x31m, x32m, x33m, x34m, x35m, x36m, x37m, x38m, x39m, x40m, x41m, x42m, x43m, x44m, x45m, x46m, x47m, x48m, x49m, x50m, x51m, .ref h52m, x53m, x54m, x55m, x56m, x57m, x58m, x59m, x60m, x61m, x62m, x63m, x64m, x65m, x66m, x67m, x68m, x69m, x70m, x71m, x72m, x73m, x74m])), (h11m, .inl (aC 0, 14, .inl (fun _ => 0))), (h52m, .inl (aC 0, 5, .inl (fun _ => 0)))] H) (hD : va_D A [(h1x, .inr (10, [x2x, x3x, x4x, .ref h5x, x6x, x7x, x8x, .ref h9x, x10x, x11x, x12x, x13x, x14x, x15x, x16x, x17x])), (h5x, .inr (8, [.ref h18x, x19x, x20x, x21x, x22x, x23x, x24x, x25x, x26x, x27x, x28x, x29x])), (h18x, .inl (aC 0, 5, .inl (fun _ => 0))), (h9x, .inr (5, [x30x, x31x, .int 0, x32x, x33x])), (h1m, .inr (11, [.int 0, x2m, x3m, x4m, x5m, x6m, x7m, x8m, x9m, x10m, .ref h11m, x12m, x13m, x14m, x15m, x16m, x17m, x18m, x19m, x20m, x21m, x22m, x23m, x24m, x25m, x26m, x27m, x28m, x29m, x30m, x31m, x32m, x33m, x34m, x35m, x36m, x37m, x38m, x39m, x40m, x41m, x42m, x43m, x44m, x45m, x46m, x47m, x48m, x49m, x50m, x51m, .ref h52m, x53m, x54m, x55m, x56m, x57m, x58m, x59m, x60m, x61m, x62m, x63m, x64m, x65m, x66m, x67m, x68m, x69m, x70m, x71m, x72m, x73m, x74m])), (h11m, .inl (aC 0, 14, .inl (fun _ => 0))), (h52m, .inl (aC 0, 5, .inl (fun _ => 0)))]) (hS : va_S A s.heap H locs) (ls : Array Slot) (hl : lv_has ls 7 [(4, .int 0), (3, .ref ho), (2, .ref h1m), (1, .ref h1x), (0, .ref b)]) : W p l e room_1 s m #[Value.ref b] below meth c H locs 700 60000 (lw_Z below #[Value.ref b] s) (F0 m 874 ls []) := by
  obtain ⟨hx, hb, hml, hown, hts, hK, hA, hM, hM2⟩ := id F
  refine lv_aload_n hx hb dL_law_874 rfl (lv_at hl 3 rfl) ?_
  refine lv_aload_n hx hb dL_law_875 rfl (lv_at hl 4 rfl) ?_
  refine lv_iload hx hb dL_law_876 (lv_at hl 0 rfl) ?_
  refine lv_iconst (v := 1) hx hb dL_law_878 (by decide) ?_
  refine lv_iadd hx hb dL_law_879 ?_
  refine relit (v := 1) (by decide +kernel) ?_
  refine va_sld hx hb hX hbl hbA hS (vpin (j := 1) (by decide +kernel) (by decide +kernel) (by decide)) dL_law_880 ?_
  refine relit (v := xs 1) (by rw [show ((1 : Int32).toNatClampNeg) = 1 from by decide +kernel]) ?_
  refine goI (wr := [(h1m, .inr (11, [.int 0, x2m, x3m, x4m, x5m, x6m, x7m, x8m, x9m, x10m, .ref h11m, x12m, x13m, x14m, x15m, x16m, x17m, x18m, x19m, x20m, x21m, x22m, x23m, x24m, x25m, x26m, x27m, x28m, x29m, x30m, x31m, x32m, x33m, x34m, x35m, x36m, x37m, x38m, x39m, x40m, x41m, x42m, x43m, x44m, x45m, x46m, x47m, x48m, x49m, x50m, x51m, .ref h52m, x53m, x54m, x55m, x56m, x57m, x58m, x59m, x60m, x61m, x62m, x63m, x64m, x65m, x66m, x67m, x68m, x69m, x70m, x71m, x72m, x73m, x74m])), (h11m, .inl (aC 0, 14, .inl (fun _ => 0))), (h52m, .inl (aC 0, 5, .inl (fun _ => 0)))]) (runV (n := 1) (As := [.int (xs 1)]) (rest := []) F hP hD hS (x_fits l g aC aM h1x h5x h9x h18x x2x x3x x4x x6x x7x x8x x10x x11x x12x x13x x14x x15x x16x x17x x19x x20x x21x x22x x23x x24x x25x x26x x27x x28x x29x x30x x31x x32x x33x (xs 1)) [0, 1, 2, 3] (by decide) rfl 0 10 rfl rfl rfl tb950 tb947 tb948 tb949 tb1 ⟨by decide, by decide, by decide +kernel⟩ ⟨Nat.le_of_ble_eq_true rfl, Nat.le_of_ble_eq_true rfl⟩ rfl hl.1 rfl (Nat.le_of_ble_eq_true rfl) dL_law_881 ⟨Nat.le_of_ble_eq_true rfl, Nat.le_of_ble_eq_true rfl⟩) hP hD hS hA [0, 1, 2, 3] [4, 5, 6] rfl rfl (by decide) (by decide) (fun r_2 w3 H locs hw hP hD hS => ?_)
  have hP : va_P g vwCl [(h1m, .inr (11, [.int 0, x2m, x3m, x4m, x5m, x6m, x7m, x8m, x9m, x10m, .ref h11m, x12m, x13m, x14m, x15m, x16m, x17m, x18m, x19m, x20m, x21m, x22m, x23m, x24m, x25m, x26m, x27m, x28m, x29m, x30m, x31m, x32m, x33m, x34m, x35m, x36m, x37m, x38m, x39m, x40m, x41m, x42m, x43m, x44m, x45m, x46m, x47m, x48m, x49m, x50m, x51m, .ref h52m, x53m, x54m, x55m, x56m, x57m, x58m, x59m, x60m, x61m, x62m, x63m, x64m, x65m, x66m, x67m, x68m, x69m, x70m, x71m, x72m, x73m, x74m])), (h11m, .inl (aC 0, 14, .inl (fun _ => 0))), (h52m, .inl (aC 0, 5, .inl (fun _ => 0)))] H := hP
  have hD : va_D A [(h1m, .inr (11, [.int 0, x2m, x3m, x4m, x5m, x6m, x7m, x8m, x9m, x10m, .ref h11m, x12m, x13m, x14m, x15m, x16m, x17m, x18m, x19m, x20m, x21m, x22m, x23m, x24m, x25m, x26m, x27m, x28m, x29m, x30m, x31m, x32m, x33m, x34m, x35m, x36m, x37m, x38m, x39m, x40m, x41m, x42m, x43m, x44m, x45m, x46m, x47m, x48m, x49m, x50m, x51m, .ref h52m, x53m, x54m, x55m, x56m, x57m, x58m, x59m, x60m, x61m, x62m, x63m, x64m, x65m, x66m, x67m, x68m, x69m, x70m, x71m, x72m, x73m, x74m])), (h11m, .inl (aC 0, 14, .inl (fun _ => 0))), (h52m, .inl (aC 0, 5, .inl (fun _ => 0)))] := hD
  try dsimp only at hw
  subst hw
  refine lv_aload_n hx hb dL_law_884 rfl (lv_at hl 2 rfl) ?_
  refine lv_aload_n hx hb dL_law_885 rfl (lv_at hl 4 rfl) ?_
  refine lv_iload hx hb dL_law_886 (lv_at hl 0 rfl) ?_
  refine lv_iconst (v := 1) hx hb dL_law_888 (by decide) ?_
  refine lv_iadd hx hb dL_law_889 ?_
  refine relit (v := 1) (by decide +kernel) ?_
  refine va_sld hx hb hX hbl hbA hS (vpin (j := 1) (by decide +kernel) (by decide +kernel) (by decide)) dL_law_890 ?_
  refine relit (v := xs 1) (by rw [show ((1 : Int32).toNatClampNeg) = 1 from by decide +kernel]) ?_
  refine goI (wr := []) (runV (n := 1) (As := [.int (xs 1)]) (rest := [.int (sp_fits (xs 1))]) F hP hD hS (m_fits l g aC aM h1m h11m h52m x2m x3m x4m x5m x6m x7m x8m x9m x10m x12m x13m x14m x15m x16m x17m x18m x19m x20m x21m x22m x23m x24m x25m x26m x27m x28m x29m x30m x31m x32m x33m x34m x35m x36m x37m x38m x39m x40m x41m x42m x43m x44m x45m x46m x47m x48m x49m x50m x51m x53m x54m x55m x56m x57m x58m x59m x60m x61m x62m x63m x64m x65m x66m x67m x68m x69m x70m x71m x72m x73m x74m (xs 1)) [0, 1, 2] (by decide) rfl 0 11 rfl rfl rfl tb1806 tb1803 tb1804 tb1805 tb17 ⟨by decide, by decide, by decide +kernel⟩ ⟨Nat.le_of_ble_eq_true rfl, Nat.le_of_ble_eq_true rfl⟩ rfl hl.1 rfl (Nat.le_of_ble_eq_true rfl) dL_law_891 ⟨Nat.le_of_ble_eq_true rfl, Nat.le_of_ble_eq_true rfl⟩) hP hD hS hA [0, 1, 2] [] rfl rfl (by decide) (by decide) (fun r_5 w6 H locs hw hP hD hS => ?_)
  have hP : va_P g vwCl [] H := hP
  have hD : va_D A [] := hD
  try dsimp only at hw
  subst hw
  refine lv_icmp_eq (tgt := 1279) hx hb dL_law_894 (by decide) (fun _ => ?_) (fun c_ => absurd rfl c_)
  exact law_end F hr hlocks hX hbl hbA hAs hS (Nat.le_of_ble_eq_true rfl) (Nat.le_of_ble_eq_true rfl) _ (lv_sub hl [0, 4] rfl)

theorem tb955 : (Jvm.Cond.methodLink "StairGangLaw" (114 : Nat) ({ cls := "StairGang", name := "orders", desc := "(I)I" } : Jvm.MethodName)) ∈ gw := lw_m 955 (by decide +kernel)
theorem tb956 : (Jvm.Cond.instanceMethod ({ cls := "StairGang", name := "orders", desc := "(I)I" } : Jvm.MethodName)) ∈ gw := lw_m 956 (by decide +kernel)
theorem tb957 : (Jvm.Cond.selects "StairGang" ({ cls := "StairGang", name := "orders", desc := "(I)I" } : Jvm.MethodName) ({ cls := "StairGang", name := "orders", desc := "(I)I" } : Jvm.MethodName)) ∈ gw := lw_m 957 (by decide +kernel)
theorem tb958 : (Jvm.Cond.code ({ cls := "StairGang", name := "orders", desc := "(I)I" } : Jvm.MethodName) prog_1_method_23_code (3 : Nat) (Option.some Jvm.ClassFile.FieldType.int)) ∈ gw := lw_m 958 (by decide +kernel)
theorem tb1811 : (Jvm.Cond.methodLink "StairGangLaw" (117 : Nat) ({ cls := "StairGangModel", name := "orders", desc := "(I)I" } : Jvm.MethodName)) ∈ gw := lw_m 1811 (by decide +kernel)
theorem tb1812 : (Jvm.Cond.instanceMethod ({ cls := "StairGangModel", name := "orders", desc := "(I)I" } : Jvm.MethodName)) ∈ gw := lw_m 1812 (by decide +kernel)
theorem tb1813 : (Jvm.Cond.selects "StairGangModel" ({ cls := "StairGangModel", name := "orders", desc := "(I)I" } : Jvm.MethodName) ({ cls := "StairGangModel", name := "orders", desc := "(I)I" } : Jvm.MethodName)) ∈ gw := lw_m 1813 (by decide +kernel)
theorem tb1814 : (Jvm.Cond.code ({ cls := "StairGangModel", name := "orders", desc := "(I)I" } : Jvm.MethodName) prog_13_method_106_code (5 : Nat) (Option.some Jvm.ClassFile.FieldType.int)) ∈ gw := lw_m 1814 (by decide +kernel)
theorem dL_law_899 : decode cL_law 899 = .ok (.aload_n 1, 1) := by decide +kernel
theorem dL_law_900 : decode cL_law 900 = .ok (.aload_n 0, 1) := by decide +kernel
theorem dL_law_901 : decode cL_law 901 = .ok (.iload 4, 2) := by decide +kernel
theorem dL_law_903 : decode cL_law 903 = .ok (.iconst 1, 1) := by decide +kernel
theorem dL_law_904 : decode cL_law 904 = .ok (.iadd, 1) := by decide +kernel
theorem dL_law_905 : decode cL_law 905 = .ok (.iaload, 1) := by decide +kernel
theorem dL_law_906 : decode cL_law 906 = .ok (.invokevirtual 114, 3) := by decide +kernel
theorem dL_law_909 : decode cL_law 909 = .ok (.aload_n 2, 1) := by decide +kernel
theorem dL_law_910 : decode cL_law 910 = .ok (.aload_n 0, 1) := by decide +kernel
theorem dL_law_911 : decode cL_law 911 = .ok (.iload 4, 2) := by decide +kernel
theorem dL_law_913 : decode cL_law 913 = .ok (.iconst 1, 1) := by decide +kernel
theorem dL_law_914 : decode cL_law 914 = .ok (.iadd, 1) := by decide +kernel
theorem dL_law_915 : decode cL_law 915 = .ok (.iaload, 1) := by decide +kernel
theorem dL_law_916 : decode cL_law 916 = .ok (.invokevirtual 117, 3) := by decide +kernel
theorem dL_law_919 : decode cL_law 919 = .ok (.if_icmp .eq 360, 3) := by decide +kernel
set_option maxHeartbeats 4000000 in
set_option maxRecDepth 100000 in
theorem lc_orders {p : Program} {l : Launch} {e : Env} {s : State} {m : MethodId} {below : List Frame} {meth : Method} {c : Code} {g : va_G} {aC : Nat → ClassId} {aM : Nat → Nat} {A : Nat → Prop} {b : Nat} {xs : Nat → Int32} (F : Fx p s m #[Value.ref b] c code 7 RL g aC aM A) (hr : meth.sig.returnType = ret) (hlocks : meth.locks = false) (hX : va_X b 7 xs s s.heap) (hbl : b < s.heap.size) (hbA : ¬ A b) (hAs : ∀ q, A q → s.heap.size ≤ q) (h1x h5x h7x h15x h18x h37x h38x : Nat) (x2x x3x x4x x6x x8x x9x x10x x11x x12x x13x x14x x16x x17x x19x x20x x21x x22x x23x x24x x25x x26x x27x x28x x29x x30x x31x x32x x33x x34x x35x x36x : Value) (h1m h11m h56m h67m : Nat) (x2m x3m x4m x5m x6m x7m x8m x9m x10m x12m x13m x14m x15m x16m x17m x18m x19m x20m x21m x22m x23m x24m x25m x26m x27m x28m x29m x30m x31m x32m x33m x34m x35m x36m x37m x38m x39m x40m x41m x42m x43m x44m x45m x46m x47m x48m x49m x50m x51m x52m x53m x54m x55m x57m x58m x59m x60m x61m x62m x63m x64m x65m x66m x68m x69m x70m x71m x72m : Value) (ho : Nat) {H : Heap} {locs : List Loc} (hP : va_P g vwCl [(h1x, .inr (10, [x2x, x3x, x4x, .ref h5x, x6x, .ref h7x, x8x, x9x, x10x, x11x, x12x, x13x, x14x, .ref h15x, x16x, x17x])), (h5x, .inr (8, [.ref h18x, x19x, x20x, x21x, x22x, x23x, x24x, x25x, x26x, x27x, x28x, x29x])), (h18x, .inl (aC 0, 5, .inl (fun _ => 0))), (h7x, .inr (6, [.int 0, x30x, x31x, x32x, x33x, x34x])), (h15x, .inr (3, [.int 0, x35x, x36x, .ref h37x, .ref h38x])), (h37x, .inl (aC 0, 128, .inl (fun _ => 0))), (h38x, .inl (aC 1, 128, .inr (.inl (fun _ => 0)))), (h1m, .inr (11, [.int 0, x2m, x3m, x4m, x5m, x6m, x7m, x8m, x9m, x10m, .ref h11m, x12m, x13m, x14m, x15m, x16m, x17m, x18m, x19m, x20m, x21m, x22m, x23m, x24m, x25m, x26m, x27m, x28m, x29m, x30m, x31m, x32m, x33m, x34m, x35m, x36m, x37m, x38m, x39m, x40m, x41m, x42m, x43m, x44m, x45m, x46m, x47m, x48m, x49m, x50m, x51m, x52m, x53m, x54m, x55m, .ref h56m, x57m, x58m, x59m, x60m, x61m, x62m, x63m, x64m, x65m, x66m, .ref h67m, x68m, x69m, .int 0, .int 0, x70m, x71m, x72m])), (h11m, .inl (aC 0, 14, .inl (fun _ => 0))), (h56m, .inl (aC 0, 13, .inl (fun _ => 0))), (h67m, .inl (aC 0, 10, .inl (fun _ => 0)))] H) (hD : va_D A [(h1x, .inr (10, [x2x, x3x, x4x, .ref h5x, x6x, .ref h7x, x8x, x9x, x10x, x11x, x12x, x13x, x14x, .ref h15x, x16x, x17x])), (h5x, .inr (8, [.ref h18x, x19x, x20x, x21x, x22x, x23x, x24x, x25x, x26x, x27x, x28x, x29x])), (h18x, .inl (aC 0, 5, .inl (fun _ => 0))), (h7x, .inr (6, [.int 0, x30x, x31x, x32x, x33x, x34x])), (h15x, .inr (3, [.int 0, x35x, x36x, .ref h37x, .ref h38x])), (h37x, .inl (aC 0, 128, .inl (fun _ => 0))), (h38x, .inl (aC 1, 128, .inr (.inl (fun _ => 0)))), (h1m, .inr (11, [.int 0, x2m, x3m, x4m, x5m, x6m, x7m, x8m, x9m, x10m, .ref h11m, x12m, x13m, x14m, x15m, x16m, x17m, x18m, x19m, x20m, x21m, x22m, x23m, x24m, x25m, x26m, x27m, x28m, x29m, x30m, x31m, x32m, x33m, x34m, x35m, x36m, x37m, x38m, x39m, x40m, x41m, x42m, x43m, x44m, x45m, x46m, x47m, x48m, x49m, x50m, x51m, x52m, x53m, x54m, x55m, .ref h56m, x57m, x58m, x59m, x60m, x61m, x62m, x63m, x64m, x65m, x66m, .ref h67m, x68m, x69m, .int 0, .int 0, x70m, x71m, x72m])), (h11m, .inl (aC 0, 14, .inl (fun _ => 0))), (h56m, .inl (aC 0, 13, .inl (fun _ => 0))), (h67m, .inl (aC 0, 10, .inl (fun _ => 0)))]) (hS : va_S A s.heap H locs) (ls : Array Slot) (hl : lv_has ls 7 [(4, .int 0), (3, .ref ho), (2, .ref h1m), (1, .ref h1x), (0, .ref b)]) : W p l e room_1 s m #[Value.ref b] below meth c H locs 700 60000 (lw_Z below #[Value.ref b] s) (F0 m 899 ls []) := by
  obtain ⟨hx, hb, hml, hown, hts, hK, hA, hM, hM2⟩ := id F
  refine lv_aload_n hx hb dL_law_899 rfl (lv_at hl 3 rfl) ?_
  refine lv_aload_n hx hb dL_law_900 rfl (lv_at hl 4 rfl) ?_
  refine lv_iload hx hb dL_law_901 (lv_at hl 0 rfl) ?_
  refine lv_iconst (v := 1) hx hb dL_law_903 (by decide) ?_
  refine lv_iadd hx hb dL_law_904 ?_
  refine relit (v := 1) (by decide +kernel) ?_
  refine va_sld hx hb hX hbl hbA hS (vpin (j := 1) (by decide +kernel) (by decide +kernel) (by decide)) dL_law_905 ?_
  refine relit (v := xs 1) (by rw [show ((1 : Int32).toNatClampNeg) = 1 from by decide +kernel]) ?_
  refine goI (wr := [(h1m, .inr (11, [.int 0, x2m, x3m, x4m, x5m, x6m, x7m, x8m, x9m, x10m, .ref h11m, x12m, x13m, x14m, x15m, x16m, x17m, x18m, x19m, x20m, x21m, x22m, x23m, x24m, x25m, x26m, x27m, x28m, x29m, x30m, x31m, x32m, x33m, x34m, x35m, x36m, x37m, x38m, x39m, x40m, x41m, x42m, x43m, x44m, x45m, x46m, x47m, x48m, x49m, x50m, x51m, x52m, x53m, x54m, x55m, .ref h56m, x57m, x58m, x59m, x60m, x61m, x62m, x63m, x64m, x65m, x66m, .ref h67m, x68m, x69m, .int 0, .int 0, x70m, x71m, x72m])), (h11m, .inl (aC 0, 14, .inl (fun _ => 0))), (h56m, .inl (aC 0, 13, .inl (fun _ => 0))), (h67m, .inl (aC 0, 10, .inl (fun _ => 0)))]) (runV (n := 1) (As := [.int (xs 1)]) (rest := []) F hP hD hS (x_orders l g aC aM h1x h5x h7x h15x h18x h37x h38x x2x x3x x4x x6x x8x x9x x10x x11x x12x x13x x14x x16x x17x x19x x20x x21x x22x x23x x24x x25x x26x x27x x28x x29x x30x x31x x32x x33x x34x x35x x36x (xs 1)) [0, 1, 2, 3, 4, 5, 6] (by decide) rfl 0 10 rfl rfl rfl tb958 tb955 tb956 tb957 tb1 ⟨by decide, by decide, by decide +kernel⟩ ⟨Nat.le_of_ble_eq_true rfl, Nat.le_of_ble_eq_true rfl⟩ rfl hl.1 rfl (Nat.le_of_ble_eq_true rfl) dL_law_906 ⟨Nat.le_of_ble_eq_true rfl, Nat.le_of_ble_eq_true rfl⟩) hP hD hS hA [0, 1, 2, 3, 4, 5, 6] [7, 8, 9, 10] rfl rfl (by decide) (by decide) (fun r_2 w3 H locs hw hP hD hS => ?_)
  have hP : va_P g vwCl [(h1m, .inr (11, [.int 0, x2m, x3m, x4m, x5m, x6m, x7m, x8m, x9m, x10m, .ref h11m, x12m, x13m, x14m, x15m, x16m, x17m, x18m, x19m, x20m, x21m, x22m, x23m, x24m, x25m, x26m, x27m, x28m, x29m, x30m, x31m, x32m, x33m, x34m, x35m, x36m, x37m, x38m, x39m, x40m, x41m, x42m, x43m, x44m, x45m, x46m, x47m, x48m, x49m, x50m, x51m, x52m, x53m, x54m, x55m, .ref h56m, x57m, x58m, x59m, x60m, x61m, x62m, x63m, x64m, x65m, x66m, .ref h67m, x68m, x69m, .int 0, .int 0, x70m, x71m, x72m])), (h11m, .inl (aC 0, 14, .inl (fun _ => 0))), (h56m, .inl (aC 0, 13, .inl (fun _ => 0))), (h67m, .inl (aC 0, 10, .inl (fun _ => 0)))] H := hP
  have hD : va_D A [(h1m, .inr (11, [.int 0, x2m, x3m, x4m, x5m, x6m, x7m, x8m, x9m, x10m, .ref h11m, x12m, x13m, x14m, x15m, x16m, x17m, x18m, x19m, x20m, x21m, x22m, x23m, x24m, x25m, x26m, x27m, x28m, x29m, x30m, x31m, x32m, x33m, x34m, x35m, x36m, x37m, x38m, x39m, x40m, x41m, x42m, x43m, x44m, x45m, x46m, x47m, x48m, x49m, x50m, x51m, x52m, x53m, x54m, x55m, .ref h56m, x57m, x58m, x59m, x60m, x61m, x62m, x63m, x64m, x65m, x66m, .ref h67m, x68m, x69m, .int 0, .int 0, x70m, x71m, x72m])), (h11m, .inl (aC 0, 14, .inl (fun _ => 0))), (h56m, .inl (aC 0, 13, .inl (fun _ => 0))), (h67m, .inl (aC 0, 10, .inl (fun _ => 0)))] := hD
  try dsimp only at hw
  subst hw
  refine lv_aload_n hx hb dL_law_909 rfl (lv_at hl 2 rfl) ?_
  refine lv_aload_n hx hb dL_law_910 rfl (lv_at hl 4 rfl) ?_
  refine lv_iload hx hb dL_law_911 (lv_at hl 0 rfl) ?_
  refine lv_iconst (v := 1) hx hb dL_law_913 (by decide) ?_
  refine lv_iadd hx hb dL_law_914 ?_
  refine relit (v := 1) (by decide +kernel) ?_
  refine va_sld hx hb hX hbl hbA hS (vpin (j := 1) (by decide +kernel) (by decide +kernel) (by decide)) dL_law_915 ?_
  refine relit (v := xs 1) (by rw [show ((1 : Int32).toNatClampNeg) = 1 from by decide +kernel]) ?_
  refine goI (wr := []) (runV (n := 1) (As := [.int (xs 1)]) (rest := [.int (sp_orders (xs 1))]) F hP hD hS (m_orders l g aC aM h1m h11m h56m h67m x2m x3m x4m x5m x6m x7m x8m x9m x10m x12m x13m x14m x15m x16m x17m x18m x19m x20m x21m x22m x23m x24m x25m x26m x27m x28m x29m x30m x31m x32m x33m x34m x35m x36m x37m x38m x39m x40m x41m x42m x43m x44m x45m x46m x47m x48m x49m x50m x51m x52m x53m x54m x55m x57m x58m x59m x60m x61m x62m x63m x64m x65m x66m x68m x69m x70m x71m x72m (xs 1)) [0, 1, 2, 3] (by decide) rfl 0 11 rfl rfl rfl tb1814 tb1811 tb1812 tb1813 tb17 ⟨by decide, by decide, by decide +kernel⟩ ⟨Nat.le_of_ble_eq_true rfl, Nat.le_of_ble_eq_true rfl⟩ rfl hl.1 rfl (Nat.le_of_ble_eq_true rfl) dL_law_916 ⟨Nat.le_of_ble_eq_true rfl, Nat.le_of_ble_eq_true rfl⟩) hP hD hS hA [0, 1, 2, 3] [] rfl rfl (by decide) (by decide) (fun r_5 w6 H locs hw hP hD hS => ?_)
  have hP : va_P g vwCl [] H := hP
  have hD : va_D A [] := hD
  try dsimp only at hw
  subst hw
  refine lv_icmp_eq (tgt := 1279) hx hb dL_law_919 (by decide) (fun _ => ?_) (fun c_ => absurd rfl c_)
  exact law_end F hr hlocks hX hbl hbA hAs hS (Nat.le_of_ble_eq_true rfl) (Nat.le_of_ble_eq_true rfl) _ (lv_sub hl [0, 4] rfl)

theorem tb999 : (Jvm.Cond.methodLink "StairGangLaw" (118 : Nat) ({ cls := "StairGang", name := "post", desc := "(II)I" } : Jvm.MethodName)) ∈ gw := lw_m 999 (by decide +kernel)
theorem tb1000 : (Jvm.Cond.instanceMethod ({ cls := "StairGang", name := "post", desc := "(II)I" } : Jvm.MethodName)) ∈ gw := lw_m 1000 (by decide +kernel)
theorem tb1001 : (Jvm.Cond.selects "StairGang" ({ cls := "StairGang", name := "post", desc := "(II)I" } : Jvm.MethodName) ({ cls := "StairGang", name := "post", desc := "(II)I" } : Jvm.MethodName)) ∈ gw := lw_m 1001 (by decide +kernel)
theorem tb1002 : (Jvm.Cond.code ({ cls := "StairGang", name := "post", desc := "(II)I" } : Jvm.MethodName) prog_1_method_24_code (7 : Nat) (Option.some Jvm.ClassFile.FieldType.int)) ∈ gw := lw_m 1002 (by decide +kernel)
theorem tb1840 : (Jvm.Cond.methodLink "StairGangLaw" (121 : Nat) ({ cls := "StairGangModel", name := "post", desc := "(II)I" } : Jvm.MethodName)) ∈ gw := lw_m 1840 (by decide +kernel)
theorem tb1841 : (Jvm.Cond.instanceMethod ({ cls := "StairGangModel", name := "post", desc := "(II)I" } : Jvm.MethodName)) ∈ gw := lw_m 1841 (by decide +kernel)
theorem tb1842 : (Jvm.Cond.selects "StairGangModel" ({ cls := "StairGangModel", name := "post", desc := "(II)I" } : Jvm.MethodName) ({ cls := "StairGangModel", name := "post", desc := "(II)I" } : Jvm.MethodName)) ∈ gw := lw_m 1842 (by decide +kernel)
theorem tb1843 : (Jvm.Cond.code ({ cls := "StairGangModel", name := "post", desc := "(II)I" } : Jvm.MethodName) prog_13_method_108_code (9 : Nat) (Option.some Jvm.ClassFile.FieldType.int)) ∈ gw := lw_m 1843 (by decide +kernel)
theorem dL_law_924 : decode cL_law 924 = .ok (.aload_n 1, 1) := by decide +kernel
theorem dL_law_925 : decode cL_law 925 = .ok (.aload_n 0, 1) := by decide +kernel
theorem dL_law_926 : decode cL_law 926 = .ok (.iload 4, 2) := by decide +kernel
theorem dL_law_928 : decode cL_law 928 = .ok (.iconst 1, 1) := by decide +kernel
theorem dL_law_929 : decode cL_law 929 = .ok (.iadd, 1) := by decide +kernel
theorem dL_law_930 : decode cL_law 930 = .ok (.iaload, 1) := by decide +kernel
theorem dL_law_931 : decode cL_law 931 = .ok (.aload_n 0, 1) := by decide +kernel
theorem dL_law_932 : decode cL_law 932 = .ok (.iload 4, 2) := by decide +kernel
theorem dL_law_934 : decode cL_law 934 = .ok (.iconst 2, 1) := by decide +kernel
theorem dL_law_935 : decode cL_law 935 = .ok (.iadd, 1) := by decide +kernel
theorem dL_law_936 : decode cL_law 936 = .ok (.iaload, 1) := by decide +kernel
theorem dL_law_937 : decode cL_law 937 = .ok (.invokevirtual 118, 3) := by decide +kernel
theorem dL_law_940 : decode cL_law 940 = .ok (.aload_n 2, 1) := by decide +kernel
theorem dL_law_941 : decode cL_law 941 = .ok (.aload_n 0, 1) := by decide +kernel
theorem dL_law_942 : decode cL_law 942 = .ok (.iload 4, 2) := by decide +kernel
theorem dL_law_944 : decode cL_law 944 = .ok (.iconst 1, 1) := by decide +kernel
theorem dL_law_945 : decode cL_law 945 = .ok (.iadd, 1) := by decide +kernel
theorem dL_law_946 : decode cL_law 946 = .ok (.iaload, 1) := by decide +kernel
theorem dL_law_947 : decode cL_law 947 = .ok (.aload_n 0, 1) := by decide +kernel
theorem dL_law_948 : decode cL_law 948 = .ok (.iload 4, 2) := by decide +kernel
theorem dL_law_950 : decode cL_law 950 = .ok (.iconst 2, 1) := by decide +kernel
theorem dL_law_951 : decode cL_law 951 = .ok (.iadd, 1) := by decide +kernel
theorem dL_law_952 : decode cL_law 952 = .ok (.iaload, 1) := by decide +kernel
theorem dL_law_953 : decode cL_law 953 = .ok (.invokevirtual 121, 3) := by decide +kernel
theorem dL_law_956 : decode cL_law 956 = .ok (.if_icmp .eq 323, 3) := by decide +kernel
set_option maxHeartbeats 4000000 in
set_option maxRecDepth 100000 in
theorem lc_post {p : Program} {l : Launch} {e : Env} {s : State} {m : MethodId} {below : List Frame} {meth : Method} {c : Code} {g : va_G} {aC : Nat → ClassId} {aM : Nat → Nat} {A : Nat → Prop} {b : Nat} {xs : Nat → Int32} (F : Fx p s m #[Value.ref b] c code 7 RL g aC aM A) (hr : meth.sig.returnType = ret) (hlocks : meth.locks = false) (hX : va_X b 7 xs s s.heap) (hbl : b < s.heap.size) (hbA : ¬ A b) (hAs : ∀ q, A q → s.heap.size ≤ q) (h1x h5x h18x : Nat) (x2x x3x x4x x6x x7x x8x x9x x10x x11x x12x x13x x14x x15x x16x x17x x19x x20x x21x x22x x23x x24x x25x x26x x27x x28x x29x : Value) (h1m h11m : Nat) (x2m x3m x4m x5m x6m x7m x8m x9m x10m x12m x13m x14m x15m x16m x17m x18m x19m x20m x21m x22m x23m x24m x25m x26m x27m x28m x29m x30m x31m x32m x33m x34m x35m x36m x37m x38m x39m x40m x41m x42m x43m x44m x45m x46m x47m x48m x49m x50m x51m x52m x53m x54m x55m x56m x57m x58m x59m x60m x61m x62m x63m x64m x65m x66m x67m x68m x69m x70m x71m x72m x73m x74m : Value) (ho : Nat) {H : Heap} {locs : List Loc} (hP : va_P g vwCl [(h1x, .inr (10, [x2x, x3x, x4x, .ref h5x, x6x, x7x, x8x, x9x, x10x, x11x, x12x, x13x, x14x, x15x, x16x, x17x])), (h5x, .inr (8, [.ref h18x, x19x, x20x, x21x, x22x, x23x, x24x, x25x, x26x, x27x, x28x, x29x])), (h18x, .inl (aC 0, 5, .inl (fun _ => 0))), (h1m, .inr (11, [.int 0, x2m, x3m, x4m, x5m, x6m, x7m, x8m, x9m, x10m, .ref h11m, x12m, x13m, x14m, x15m, x16m, x17m, x18m, x19m, x20m, x21m, x22m, x23m, x24m, x25m, x26m, x27m, x28m, x29m, x30m, x31m, x32m, x33m, x34m, x35m, x36m, x37m, x38m, x39m, x40m, x41m, x42m, x43m, x44m, x45m, x46m, x47m, x48m, x49m, x50m, x51m, x52m, x53m, x54m, x55m, x56m, x57m, x58m, x59m, x60m, x61m, x62m, x63m, x64m, x65m, x66m, x67m, x68m, x69m, x70m, x71m, x72m, x73m, x74m])), (h11m, .inl (aC 0, 14, .inl (fun _ => 0)))] H) (hD : va_D A [(h1x, .inr (10, [x2x, x3x, x4x, .ref h5x, x6x, x7x, x8x, x9x, x10x, x11x, x12x, x13x, x14x, x15x, x16x, x17x])), (h5x, .inr (8, [.ref h18x, x19x, x20x, x21x, x22x, x23x, x24x, x25x, x26x, x27x, x28x, x29x])), (h18x, .inl (aC 0, 5, .inl (fun _ => 0))), (h1m, .inr (11, [.int 0, x2m, x3m, x4m, x5m, x6m, x7m, x8m, x9m, x10m, .ref h11m, x12m, x13m, x14m, x15m, x16m, x17m, x18m, x19m, x20m, x21m, x22m, x23m, x24m, x25m, x26m, x27m, x28m, x29m, x30m, x31m, x32m, x33m, x34m, x35m, x36m, x37m, x38m, x39m, x40m, x41m, x42m, x43m, x44m, x45m, x46m, x47m, x48m, x49m, x50m, x51m, x52m, x53m, x54m, x55m, x56m, x57m, x58m, x59m, x60m, x61m, x62m, x63m, x64m, x65m, x66m, x67m, x68m, x69m, x70m, x71m, x72m, x73m, x74m])), (h11m, .inl (aC 0, 14, .inl (fun _ => 0)))]) (hS : va_S A s.heap H locs) (ls : Array Slot) (hl : lv_has ls 7 [(4, .int 0), (3, .ref ho), (2, .ref h1m), (1, .ref h1x), (0, .ref b)]) : W p l e room_1 s m #[Value.ref b] below meth c H locs 700 60000 (lw_Z below #[Value.ref b] s) (F0 m 924 ls []) := by
  obtain ⟨hx, hb, hml, hown, hts, hK, hA, hM, hM2⟩ := id F
  refine lv_aload_n hx hb dL_law_924 rfl (lv_at hl 3 rfl) ?_
  refine lv_aload_n hx hb dL_law_925 rfl (lv_at hl 4 rfl) ?_
  refine lv_iload hx hb dL_law_926 (lv_at hl 0 rfl) ?_
  refine lv_iconst (v := 1) hx hb dL_law_928 (by decide) ?_
  refine lv_iadd hx hb dL_law_929 ?_
  refine relit (v := 1) (by decide +kernel) ?_
  refine va_sld hx hb hX hbl hbA hS (vpin (j := 1) (by decide +kernel) (by decide +kernel) (by decide)) dL_law_930 ?_
  refine relit (v := xs 1) (by rw [show ((1 : Int32).toNatClampNeg) = 1 from by decide +kernel]) ?_
  refine lv_aload_n hx hb dL_law_931 rfl (lv_at hl 4 rfl) ?_
  refine lv_iload hx hb dL_law_932 (lv_at hl 0 rfl) ?_
  refine lv_iconst (v := 2) hx hb dL_law_934 (by decide) ?_
  refine lv_iadd hx hb dL_law_935 ?_
  refine relit (v := 2) (by decide +kernel) ?_
  refine va_sld hx hb hX hbl hbA hS (vpin (j := 2) (by decide +kernel) (by decide +kernel) (by decide)) dL_law_936 ?_
  refine relit (v := xs 2) (by rw [show ((2 : Int32).toNatClampNeg) = 2 from by decide +kernel]) ?_
  refine goI (wr := [(h1m, .inr (11, [.int 0, x2m, x3m, x4m, x5m, x6m, x7m, x8m, x9m, x10m, .ref h11m, x12m, x13m, x14m, x15m, x16m, x17m, x18m, x19m, x20m, x21m, x22m, x23m, x24m, x25m, x26m, x27m, x28m, x29m, x30m, x31m, x32m, x33m, x34m, x35m, x36m, x37m, x38m, x39m, x40m, x41m, x42m, x43m, x44m, x45m, x46m, x47m, x48m, x49m, x50m, x51m, x52m, x53m, x54m, x55m, x56m, x57m, x58m, x59m, x60m, x61m, x62m, x63m, x64m, x65m, x66m, x67m, x68m, x69m, x70m, x71m, x72m, x73m, x74m])), (h11m, .inl (aC 0, 14, .inl (fun _ => 0)))]) (runV (n := 2) (As := [.int (xs 1), .int (xs 2)]) (rest := []) F hP hD hS (x_post l g aC aM h1x h5x h18x x2x x3x x4x x6x x7x x8x x9x x10x x11x x12x x13x x14x x15x x16x x17x x19x x20x x21x x22x x23x x24x x25x x26x x27x x28x x29x (xs 1) (xs 2)) [0, 1, 2] (by decide) rfl 0 10 rfl rfl rfl tb1002 tb999 tb1000 tb1001 tb1 ⟨by decide, by decide, by decide +kernel⟩ ⟨Nat.le_of_ble_eq_true rfl, Nat.le_of_ble_eq_true rfl⟩ rfl hl.1 rfl (Nat.le_of_ble_eq_true rfl) dL_law_937 ⟨Nat.le_of_ble_eq_true rfl, Nat.le_of_ble_eq_true rfl⟩) hP hD hS hA [0, 1, 2] [3, 4] rfl rfl (by decide) (by decide) (fun r_2 w3 H locs hw hP hD hS => ?_)
  have hP : va_P g vwCl [(h1m, .inr (11, [.int 0, x2m, x3m, x4m, x5m, x6m, x7m, x8m, x9m, x10m, .ref h11m, x12m, x13m, x14m, x15m, x16m, x17m, x18m, x19m, x20m, x21m, x22m, x23m, x24m, x25m, x26m, x27m, x28m, x29m, x30m, x31m, x32m, x33m, x34m, x35m, x36m, x37m, x38m, x39m, x40m, x41m, x42m, x43m, x44m, x45m, x46m, x47m, x48m, x49m, x50m, x51m, x52m, x53m, x54m, x55m, x56m, x57m, x58m, x59m, x60m, x61m, x62m, x63m, x64m, x65m, x66m, x67m, x68m, x69m, x70m, x71m, x72m, x73m, x74m])), (h11m, .inl (aC 0, 14, .inl (fun _ => 0)))] H := hP
  have hD : va_D A [(h1m, .inr (11, [.int 0, x2m, x3m, x4m, x5m, x6m, x7m, x8m, x9m, x10m, .ref h11m, x12m, x13m, x14m, x15m, x16m, x17m, x18m, x19m, x20m, x21m, x22m, x23m, x24m, x25m, x26m, x27m, x28m, x29m, x30m, x31m, x32m, x33m, x34m, x35m, x36m, x37m, x38m, x39m, x40m, x41m, x42m, x43m, x44m, x45m, x46m, x47m, x48m, x49m, x50m, x51m, x52m, x53m, x54m, x55m, x56m, x57m, x58m, x59m, x60m, x61m, x62m, x63m, x64m, x65m, x66m, x67m, x68m, x69m, x70m, x71m, x72m, x73m, x74m])), (h11m, .inl (aC 0, 14, .inl (fun _ => 0)))] := hD
  try dsimp only at hw
  subst hw
  refine lv_aload_n hx hb dL_law_940 rfl (lv_at hl 2 rfl) ?_
  refine lv_aload_n hx hb dL_law_941 rfl (lv_at hl 4 rfl) ?_
  refine lv_iload hx hb dL_law_942 (lv_at hl 0 rfl) ?_
  refine lv_iconst (v := 1) hx hb dL_law_944 (by decide) ?_
  refine lv_iadd hx hb dL_law_945 ?_
  refine relit (v := 1) (by decide +kernel) ?_
  refine va_sld hx hb hX hbl hbA hS (vpin (j := 1) (by decide +kernel) (by decide +kernel) (by decide)) dL_law_946 ?_
  refine relit (v := xs 1) (by rw [show ((1 : Int32).toNatClampNeg) = 1 from by decide +kernel]) ?_
  refine lv_aload_n hx hb dL_law_947 rfl (lv_at hl 4 rfl) ?_
  refine lv_iload hx hb dL_law_948 (lv_at hl 0 rfl) ?_
  refine lv_iconst (v := 2) hx hb dL_law_950 (by decide) ?_
  refine lv_iadd hx hb dL_law_951 ?_
  refine relit (v := 2) (by decide +kernel) ?_
  refine va_sld hx hb hX hbl hbA hS (vpin (j := 2) (by decide +kernel) (by decide +kernel) (by decide)) dL_law_952 ?_
  refine relit (v := xs 2) (by rw [show ((2 : Int32).toNatClampNeg) = 2 from by decide +kernel]) ?_
  refine goI (wr := []) (runV (n := 2) (As := [.int (xs 1), .int (xs 2)]) (rest := [.int (-1)]) F hP hD hS (m_post l g aC aM h1m h11m x2m x3m x4m x5m x6m x7m x8m x9m x10m x12m x13m x14m x15m x16m x17m x18m x19m x20m x21m x22m x23m x24m x25m x26m x27m x28m x29m x30m x31m x32m x33m x34m x35m x36m x37m x38m x39m x40m x41m x42m x43m x44m x45m x46m x47m x48m x49m x50m x51m x52m x53m x54m x55m x56m x57m x58m x59m x60m x61m x62m x63m x64m x65m x66m x67m x68m x69m x70m x71m x72m x73m x74m (xs 1) (xs 2)) [0, 1] (by decide) rfl 0 11 rfl rfl rfl tb1843 tb1840 tb1841 tb1842 tb17 ⟨by decide, by decide, by decide +kernel⟩ ⟨Nat.le_of_ble_eq_true rfl, Nat.le_of_ble_eq_true rfl⟩ rfl hl.1 rfl (Nat.le_of_ble_eq_true rfl) dL_law_953 ⟨Nat.le_of_ble_eq_true rfl, Nat.le_of_ble_eq_true rfl⟩) hP hD hS hA [0, 1] [] rfl rfl (by decide) (by decide) (fun r_5 w6 H locs hw hP hD hS => ?_)
  have hP : va_P g vwCl [] H := hP
  have hD : va_D A [] := hD
  try dsimp only at hw
  subst hw
  refine lv_icmp_eq (tgt := 1279) hx hb dL_law_956 (by decide) (fun _ => ?_) (fun c_ => absurd (by decide +kernel) c_)
  exact law_end F hr hlocks hX hbl hbA hAs hS (Nat.le_of_ble_eq_true rfl) (Nat.le_of_ble_eq_true rfl) _ (lv_sub hl [0, 4] rfl)

theorem tb1013 : (Jvm.Cond.methodLink "StairGangLaw" (122 : Nat) ({ cls := "StairGang", name := "watch", desc := "()I" } : Jvm.MethodName)) ∈ gw := lw_m 1013 (by decide +kernel)
theorem tb1014 : (Jvm.Cond.instanceMethod ({ cls := "StairGang", name := "watch", desc := "()I" } : Jvm.MethodName)) ∈ gw := lw_m 1014 (by decide +kernel)
theorem tb1015 : (Jvm.Cond.selects "StairGang" ({ cls := "StairGang", name := "watch", desc := "()I" } : Jvm.MethodName) ({ cls := "StairGang", name := "watch", desc := "()I" } : Jvm.MethodName)) ∈ gw := lw_m 1015 (by decide +kernel)
theorem tb1016 : (Jvm.Cond.code ({ cls := "StairGang", name := "watch", desc := "()I" } : Jvm.MethodName) prog_1_method_25_code (4 : Nat) (Option.some Jvm.ClassFile.FieldType.int)) ∈ gw := lw_m 1016 (by decide +kernel)
theorem tb1850 : (Jvm.Cond.methodLink "StairGangLaw" (125 : Nat) ({ cls := "StairGangModel", name := "watch", desc := "()I" } : Jvm.MethodName)) ∈ gw := lw_m 1850 (by decide +kernel)
theorem tb1851 : (Jvm.Cond.instanceMethod ({ cls := "StairGangModel", name := "watch", desc := "()I" } : Jvm.MethodName)) ∈ gw := lw_m 1851 (by decide +kernel)
theorem tb1852 : (Jvm.Cond.selects "StairGangModel" ({ cls := "StairGangModel", name := "watch", desc := "()I" } : Jvm.MethodName) ({ cls := "StairGangModel", name := "watch", desc := "()I" } : Jvm.MethodName)) ∈ gw := lw_m 1852 (by decide +kernel)
theorem tb1853 : (Jvm.Cond.code ({ cls := "StairGangModel", name := "watch", desc := "()I" } : Jvm.MethodName) prog_13_method_111_code (3 : Nat) (Option.some Jvm.ClassFile.FieldType.int)) ∈ gw := lw_m 1853 (by decide +kernel)
theorem dL_law_961 : decode cL_law 961 = .ok (.aload_n 1, 1) := by decide +kernel
theorem dL_law_962 : decode cL_law 962 = .ok (.invokevirtual 122, 3) := by decide +kernel
theorem dL_law_965 : decode cL_law 965 = .ok (.aload_n 2, 1) := by decide +kernel
theorem dL_law_966 : decode cL_law 966 = .ok (.invokevirtual 125, 3) := by decide +kernel
theorem dL_law_969 : decode cL_law 969 = .ok (.if_icmp .eq 310, 3) := by decide +kernel
set_option maxHeartbeats 4000000 in
set_option maxRecDepth 100000 in
theorem lc_watch {p : Program} {l : Launch} {e : Env} {s : State} {m : MethodId} {below : List Frame} {meth : Method} {c : Code} {g : va_G} {aC : Nat → ClassId} {aM : Nat → Nat} {A : Nat → Prop} {b : Nat} {xs : Nat → Int32} (F : Fx p s m #[Value.ref b] c code 7 RL g aC aM A) (hr : meth.sig.returnType = ret) (hlocks : meth.locks = false) (hX : va_X b 7 xs s s.heap) (hbl : b < s.heap.size) (hbA : ¬ A b) (hAs : ∀ q, A q → s.heap.size ≤ q) (h1x h5x h18x : Nat) (x2x x3x x4x x6x x7x x8x x9x x10x x11x x12x x13x x14x x15x x16x x17x x19x x20x x21x x22x x23x x24x x25x x26x x27x x28x x29x : Value) (h1m h11m : Nat) (x2m x3m x4m x5m x6m x7m x8m x9m x10m x12m x13m x14m x15m x16m x17m x18m x19m x20m x21m x22m x23m x24m x25m x26m x27m x28m x29m x30m x31m x32m x33m x34m x35m x36m x37m x38m x39m x40m x41m x42m x43m x44m x45m x46m x47m x48m x49m x50m x51m x52m x53m x54m x55m x56m x57m x58m x59m x60m x61m x62m x63m x64m x65m x66m x67m x68m x69m x70m x71m x72m x73m x74m : Value) (ho : Nat) {H : Heap} {locs : List Loc} (hP : va_P g vwCl [(h1x, .inr (10, [x2x, x3x, x4x, .ref h5x, x6x, x7x, x8x, x9x, x10x, x11x, x12x, x13x, x14x, x15x, x16x, x17x])), (h5x, .inr (8, [.ref h18x, x19x, x20x, x21x, x22x, x23x, x24x, x25x, x26x, x27x, x28x, x29x])), (h18x, .inl (aC 0, 5, .inl (fun _ => 0))), (h1m, .inr (11, [.int 0, x2m, x3m, x4m, x5m, x6m, x7m, x8m, x9m, x10m, .ref h11m, x12m, x13m, x14m, x15m, x16m, x17m, x18m, x19m, x20m, x21m, x22m, x23m, x24m, x25m, x26m, x27m, x28m, x29m, x30m, x31m, x32m, x33m, x34m, x35m, x36m, x37m, x38m, x39m, x40m, x41m, x42m, x43m, x44m, x45m, x46m, x47m, x48m, x49m, x50m, x51m, x52m, x53m, x54m, x55m, x56m, x57m, x58m, x59m, x60m, x61m, x62m, x63m, x64m, x65m, x66m, x67m, x68m, x69m, x70m, x71m, x72m, x73m, x74m])), (h11m, .inl (aC 0, 14, .inl (fun _ => 0)))] H) (hD : va_D A [(h1x, .inr (10, [x2x, x3x, x4x, .ref h5x, x6x, x7x, x8x, x9x, x10x, x11x, x12x, x13x, x14x, x15x, x16x, x17x])), (h5x, .inr (8, [.ref h18x, x19x, x20x, x21x, x22x, x23x, x24x, x25x, x26x, x27x, x28x, x29x])), (h18x, .inl (aC 0, 5, .inl (fun _ => 0))), (h1m, .inr (11, [.int 0, x2m, x3m, x4m, x5m, x6m, x7m, x8m, x9m, x10m, .ref h11m, x12m, x13m, x14m, x15m, x16m, x17m, x18m, x19m, x20m, x21m, x22m, x23m, x24m, x25m, x26m, x27m, x28m, x29m, x30m, x31m, x32m, x33m, x34m, x35m, x36m, x37m, x38m, x39m, x40m, x41m, x42m, x43m, x44m, x45m, x46m, x47m, x48m, x49m, x50m, x51m, x52m, x53m, x54m, x55m, x56m, x57m, x58m, x59m, x60m, x61m, x62m, x63m, x64m, x65m, x66m, x67m, x68m, x69m, x70m, x71m, x72m, x73m, x74m])), (h11m, .inl (aC 0, 14, .inl (fun _ => 0)))]) (hS : va_S A s.heap H locs) (ls : Array Slot) (hl : lv_has ls 7 [(4, .int 0), (3, .ref ho), (2, .ref h1m), (1, .ref h1x), (0, .ref b)]) : W p l e room_1 s m #[Value.ref b] below meth c H locs 700 60000 (lw_Z below #[Value.ref b] s) (F0 m 961 ls []) := by
  obtain ⟨hx, hb, hml, hown, hts, hK, hA, hM, hM2⟩ := id F
  refine lv_aload_n hx hb dL_law_961 rfl (lv_at hl 3 rfl) ?_
  refine goI (wr := [(h1m, .inr (11, [.int 0, x2m, x3m, x4m, x5m, x6m, x7m, x8m, x9m, x10m, .ref h11m, x12m, x13m, x14m, x15m, x16m, x17m, x18m, x19m, x20m, x21m, x22m, x23m, x24m, x25m, x26m, x27m, x28m, x29m, x30m, x31m, x32m, x33m, x34m, x35m, x36m, x37m, x38m, x39m, x40m, x41m, x42m, x43m, x44m, x45m, x46m, x47m, x48m, x49m, x50m, x51m, x52m, x53m, x54m, x55m, x56m, x57m, x58m, x59m, x60m, x61m, x62m, x63m, x64m, x65m, x66m, x67m, x68m, x69m, x70m, x71m, x72m, x73m, x74m])), (h11m, .inl (aC 0, 14, .inl (fun _ => 0)))]) (runV (n := 0) (As := []) (rest := []) F hP hD hS (x_watch l g aC aM h1x h5x h18x x2x x3x x4x x6x x7x x8x x9x x10x x11x x12x x13x x14x x15x x16x x17x x19x x20x x21x x22x x23x x24x x25x x26x x27x x28x x29x) [0, 1, 2] (by decide) rfl 0 10 rfl rfl rfl tb1016 tb1013 tb1014 tb1015 tb1 ⟨by decide, by decide, by decide +kernel⟩ ⟨Nat.le_of_ble_eq_true rfl, Nat.le_of_ble_eq_true rfl⟩ rfl hl.1 rfl (Nat.le_of_ble_eq_true rfl) dL_law_962 ⟨Nat.le_of_ble_eq_true rfl, Nat.le_of_ble_eq_true rfl⟩) hP hD hS hA [0, 1, 2] [3, 4] rfl rfl (by decide) (by decide) (fun r_2 w3 H locs hw hP hD hS => ?_)
  have hP : va_P g vwCl [(h1m, .inr (11, [.int 0, x2m, x3m, x4m, x5m, x6m, x7m, x8m, x9m, x10m, .ref h11m, x12m, x13m, x14m, x15m, x16m, x17m, x18m, x19m, x20m, x21m, x22m, x23m, x24m, x25m, x26m, x27m, x28m, x29m, x30m, x31m, x32m, x33m, x34m, x35m, x36m, x37m, x38m, x39m, x40m, x41m, x42m, x43m, x44m, x45m, x46m, x47m, x48m, x49m, x50m, x51m, x52m, x53m, x54m, x55m, x56m, x57m, x58m, x59m, x60m, x61m, x62m, x63m, x64m, x65m, x66m, x67m, x68m, x69m, x70m, x71m, x72m, x73m, x74m])), (h11m, .inl (aC 0, 14, .inl (fun _ => 0)))] H := hP
  have hD : va_D A [(h1m, .inr (11, [.int 0, x2m, x3m, x4m, x5m, x6m, x7m, x8m, x9m, x10m, .ref h11m, x12m, x13m, x14m, x15m, x16m, x17m, x18m, x19m, x20m, x21m, x22m, x23m, x24m, x25m, x26m, x27m, x28m, x29m, x30m, x31m, x32m, x33m, x34m, x35m, x36m, x37m, x38m, x39m, x40m, x41m, x42m, x43m, x44m, x45m, x46m, x47m, x48m, x49m, x50m, x51m, x52m, x53m, x54m, x55m, x56m, x57m, x58m, x59m, x60m, x61m, x62m, x63m, x64m, x65m, x66m, x67m, x68m, x69m, x70m, x71m, x72m, x73m, x74m])), (h11m, .inl (aC 0, 14, .inl (fun _ => 0)))] := hD
  try dsimp only at hw
  subst hw
  refine lv_aload_n hx hb dL_law_965 rfl (lv_at hl 2 rfl) ?_
  refine goI (wr := []) (runV (n := 0) (As := []) (rest := [.int 0]) F hP hD hS (m_watch l g aC aM h1m h11m x2m x3m x4m x5m x6m x7m x8m x9m x10m x12m x13m x14m x15m x16m x17m x18m x19m x20m x21m x22m x23m x24m x25m x26m x27m x28m x29m x30m x31m x32m x33m x34m x35m x36m x37m x38m x39m x40m x41m x42m x43m x44m x45m x46m x47m x48m x49m x50m x51m x52m x53m x54m x55m x56m x57m x58m x59m x60m x61m x62m x63m x64m x65m x66m x67m x68m x69m x70m x71m x72m x73m x74m) [0, 1] (by decide) rfl 0 11 rfl rfl rfl tb1853 tb1850 tb1851 tb1852 tb17 ⟨by decide, by decide, by decide +kernel⟩ ⟨Nat.le_of_ble_eq_true rfl, Nat.le_of_ble_eq_true rfl⟩ rfl hl.1 rfl (Nat.le_of_ble_eq_true rfl) dL_law_966 ⟨Nat.le_of_ble_eq_true rfl, Nat.le_of_ble_eq_true rfl⟩) hP hD hS hA [0, 1] [] rfl rfl (by decide) (by decide) (fun r_5 w6 H locs hw hP hD hS => ?_)
  have hP : va_P g vwCl [] H := hP
  have hD : va_D A [] := hD
  try dsimp only at hw
  subst hw
  refine lv_icmp_eq (tgt := 1279) hx hb dL_law_969 (by decide) (fun _ => ?_) (fun c_ => absurd (by decide +kernel) c_)
  exact law_end F hr hlocks hX hbl hbA hAs hS (Nat.le_of_ble_eq_true rfl) (Nat.le_of_ble_eq_true rfl) _ (lv_sub hl [0, 4] rfl)

theorem tb0 : (Jvm.Cond.initialized "StairGangLaw") ∈ gw := lw_m 0 (by decide +kernel)
theorem tb1089 : (Jvm.Cond.methodLink "StairGangLaw" (126 : Nat) ({ cls := "StairGangLaw", name := "rests", desc := "(LStairGang;IIII[J)I" } : Jvm.MethodName)) ∈ gw := lw_m 1089 (by decide +kernel)
theorem tb1090 : (Jvm.Cond.static ({ cls := "StairGangLaw", name := "rests", desc := "(LStairGang;IIII[J)I" } : Jvm.MethodName)) ∈ gw := lw_m 1090 (by decide +kernel)
theorem tb1091 : (Jvm.Cond.codeWith ({ cls := "StairGangLaw", name := "rests", desc := "(LStairGang;IIII[J)I" } : Jvm.MethodName) method_3_code (7 : Nat) (Option.some Jvm.ClassFile.FieldType.int) [((0 : Nat), (14 : Nat), (17 : Nat), (13 : Nat))]) ∈ gw := lw_m 1091 (by decide +kernel)
theorem tb1406 : (Jvm.Cond.methodLink "StairGangLaw" (132 : Nat) ({ cls := "StairGangModel", name := "thrown", desc := "()I" } : Jvm.MethodName)) ∈ gw := lw_m 1406 (by decide +kernel)
theorem tb1407 : (Jvm.Cond.instanceMethod ({ cls := "StairGangModel", name := "thrown", desc := "()I" } : Jvm.MethodName)) ∈ gw := lw_m 1407 (by decide +kernel)
theorem tb1408 : (Jvm.Cond.selects "StairGangModel" ({ cls := "StairGangModel", name := "thrown", desc := "()I" } : Jvm.MethodName) ({ cls := "StairGangModel", name := "thrown", desc := "()I" } : Jvm.MethodName)) ∈ gw := lw_m 1408 (by decide +kernel)
theorem tb1409 : (Jvm.Cond.code ({ cls := "StairGangModel", name := "thrown", desc := "()I" } : Jvm.MethodName) prog_13_method_2_code (1 : Nat) (Option.some Jvm.ClassFile.FieldType.int)) ∈ gw := lw_m 1409 (by decide +kernel)
theorem tb1862 : (Jvm.Cond.methodLink "StairGangLaw" (131 : Nat) ({ cls := "StairGangModel", name := "rests", desc := "(IIII)I" } : Jvm.MethodName)) ∈ gw := lw_m 1862 (by decide +kernel)
theorem tb1863 : (Jvm.Cond.instanceMethod ({ cls := "StairGangModel", name := "rests", desc := "(IIII)I" } : Jvm.MethodName)) ∈ gw := lw_m 1863 (by decide +kernel)
theorem tb1864 : (Jvm.Cond.selects "StairGangModel" ({ cls := "StairGangModel", name := "rests", desc := "(IIII)I" } : Jvm.MethodName) ({ cls := "StairGangModel", name := "rests", desc := "(IIII)I" } : Jvm.MethodName)) ∈ gw := lw_m 1864 (by decide +kernel)
theorem tb1865 : (Jvm.Cond.code ({ cls := "StairGangModel", name := "rests", desc := "(IIII)I" } : Jvm.MethodName) prog_13_method_114_code (7 : Nat) (Option.some Jvm.ClassFile.FieldType.int)) ∈ gw := lw_m 1865 (by decide +kernel)
theorem dL_law_974 : decode cL_law 974 = .ok (.aload_n 1, 1) := by decide +kernel
theorem dL_law_975 : decode cL_law 975 = .ok (.aload_n 0, 1) := by decide +kernel
theorem dL_law_976 : decode cL_law 976 = .ok (.iload 4, 2) := by decide +kernel
theorem dL_law_978 : decode cL_law 978 = .ok (.iconst 1, 1) := by decide +kernel
theorem dL_law_979 : decode cL_law 979 = .ok (.iadd, 1) := by decide +kernel
theorem dL_law_980 : decode cL_law 980 = .ok (.iaload, 1) := by decide +kernel
theorem dL_law_981 : decode cL_law 981 = .ok (.aload_n 0, 1) := by decide +kernel
theorem dL_law_982 : decode cL_law 982 = .ok (.iload 4, 2) := by decide +kernel
theorem dL_law_984 : decode cL_law 984 = .ok (.iconst 2, 1) := by decide +kernel
theorem dL_law_985 : decode cL_law 985 = .ok (.iadd, 1) := by decide +kernel
theorem dL_law_986 : decode cL_law 986 = .ok (.iaload, 1) := by decide +kernel
theorem dL_law_987 : decode cL_law 987 = .ok (.aload_n 0, 1) := by decide +kernel
theorem dL_law_988 : decode cL_law 988 = .ok (.iload 4, 2) := by decide +kernel
theorem dL_law_990 : decode cL_law 990 = .ok (.iconst 3, 1) := by decide +kernel
theorem dL_law_991 : decode cL_law 991 = .ok (.iadd, 1) := by decide +kernel
theorem dL_law_992 : decode cL_law 992 = .ok (.iaload, 1) := by decide +kernel
theorem dL_law_993 : decode cL_law 993 = .ok (.aload_n 0, 1) := by decide +kernel
theorem dL_law_994 : decode cL_law 994 = .ok (.iload 4, 2) := by decide +kernel
theorem dL_law_996 : decode cL_law 996 = .ok (.iconst 4, 1) := by decide +kernel
theorem dL_law_997 : decode cL_law 997 = .ok (.iadd, 1) := by decide +kernel
theorem dL_law_998 : decode cL_law 998 = .ok (.iaload, 1) := by decide +kernel
theorem dL_law_999 : decode cL_law 999 = .ok (.aload_n 3, 1) := by decide +kernel
theorem dL_law_1000 : decode cL_law 1000 = .ok (.invokestatic 126, 3) := by decide +kernel
theorem dL_law_1003 : decode cL_law 1003 = .ok (.istore 5, 2) := by decide +kernel
theorem dL_law_1005 : decode cL_law 1005 = .ok (.aload_n 2, 1) := by decide +kernel
theorem dL_law_1006 : decode cL_law 1006 = .ok (.aload_n 0, 1) := by decide +kernel
theorem dL_law_1007 : decode cL_law 1007 = .ok (.iload 4, 2) := by decide +kernel
theorem dL_law_1009 : decode cL_law 1009 = .ok (.iconst 1, 1) := by decide +kernel
theorem dL_law_1010 : decode cL_law 1010 = .ok (.iadd, 1) := by decide +kernel
theorem dL_law_1011 : decode cL_law 1011 = .ok (.iaload, 1) := by decide +kernel
theorem dL_law_1012 : decode cL_law 1012 = .ok (.aload_n 0, 1) := by decide +kernel
theorem dL_law_1013 : decode cL_law 1013 = .ok (.iload 4, 2) := by decide +kernel
theorem dL_law_1015 : decode cL_law 1015 = .ok (.iconst 2, 1) := by decide +kernel
theorem dL_law_1016 : decode cL_law 1016 = .ok (.iadd, 1) := by decide +kernel
theorem dL_law_1017 : decode cL_law 1017 = .ok (.iaload, 1) := by decide +kernel
theorem dL_law_1018 : decode cL_law 1018 = .ok (.aload_n 0, 1) := by decide +kernel
theorem dL_law_1019 : decode cL_law 1019 = .ok (.iload 4, 2) := by decide +kernel
theorem dL_law_1021 : decode cL_law 1021 = .ok (.iconst 3, 1) := by decide +kernel
theorem dL_law_1022 : decode cL_law 1022 = .ok (.iadd, 1) := by decide +kernel
theorem dL_law_1023 : decode cL_law 1023 = .ok (.iaload, 1) := by decide +kernel
theorem dL_law_1024 : decode cL_law 1024 = .ok (.aload_n 0, 1) := by decide +kernel
theorem dL_law_1025 : decode cL_law 1025 = .ok (.iload 4, 2) := by decide +kernel
theorem dL_law_1027 : decode cL_law 1027 = .ok (.iconst 4, 1) := by decide +kernel
theorem dL_law_1028 : decode cL_law 1028 = .ok (.iadd, 1) := by decide +kernel
theorem dL_law_1029 : decode cL_law 1029 = .ok (.iaload, 1) := by decide +kernel
theorem dL_law_1030 : decode cL_law 1030 = .ok (.invokevirtual 131, 3) := by decide +kernel
theorem dL_law_1033 : decode cL_law 1033 = .ok (.istore 6, 2) := by decide +kernel
theorem dL_law_1035 : decode cL_law 1035 = .ok (.aload_n 2, 1) := by decide +kernel
theorem dL_law_1036 : decode cL_law 1036 = .ok (.invokevirtual 132, 3) := by decide +kernel
theorem dL_law_1039 : decode cL_law 1039 = .ok (.iload 5, 2) := by decide +kernel
theorem dL_law_1041 : decode cL_law 1041 = .ok (.if_icmp .eq 5, 3) := by decide +kernel
theorem dL_law_1046 : decode cL_law 1046 = .ok (.iload 5, 2) := by decide +kernel
theorem dL_law_1048 : decode cL_law 1048 = .ok (.ifCond .ne 15, 3) := by decide +kernel
theorem dL_law_1063 : decode cL_law 1063 = .ok (.goto 216, 3) := by decide +kernel
set_option maxHeartbeats 4000000 in
set_option maxRecDepth 100000 in
theorem lc_rests {p : Program} {l : Launch} {e : Env} {s : State} {m : MethodId} {below : List Frame} {meth : Method} {c : Code} {g : va_G} {aC : Nat → ClassId} {aM : Nat → Nat} {A : Nat → Prop} {b : Nat} {xs : Nat → Int32} (F : Fx p s m #[Value.ref b] c code 7 RL g aC aM A) (hr : meth.sig.returnType = ret) (hlocks : meth.locks = false) (hX : va_X b 7 xs s s.heap) (hbl : b < s.heap.size) (hbA : ¬ A b) (hAs : ∀ q, A q → s.heap.size ≤ q) (hst : l.stackTraces = false) (hAX : AmX A s s.heap) (hAB : AmB s) (h1x h5x h18x : Nat) (x2x x3x x4x x6x x7x x8x x9x x10x x11x x12x x13x x14x x15x x16x x17x x19x x20x x21x x22x x23x x24x x25x x26x x27x x28x x29x : Value) (h1m h11m : Nat) (x2m x3m x4m x5m x6m x7m x8m x9m x10m x12m x13m x14m x15m x16m x17m x18m x19m x20m x21m x22m x23m x24m x25m x26m x27m x28m x29m x30m x31m x32m x33m x34m x35m x36m x37m x38m x39m x40m x41m x42m x43m x44m x45m x46m x47m x48m x49m x50m x51m x52m x53m x54m x55m x56m x57m x58m x59m x60m x61m x62m x63m x64m x65m x66m x67m x68m x69m x70m x71m x72m x73m x74m : Value) (ho : Nat) {H : Heap} {locs : List Loc} (hP : va_P g vwCl [(h1x, .inr (10, [x2x, x3x, x4x, .ref h5x, x6x, x7x, x8x, x9x, x10x, x11x, x12x, x13x, x14x, x15x, x16x, x17x])), (h5x, .inr (8, [.ref h18x, x19x, x20x, x21x, x22x, x23x, x24x, x25x, x26x, x27x, x28x, x29x])), (h18x, .inl (aC 0, 5, .inl (fun _ => 0))), (h1m, .inr (11, [.int 0, x2m, x3m, x4m, x5m, x6m, x7m, x8m, x9m, x10m, .ref h11m, x12m, x13m, x14m, x15m, x16m, x17m, x18m, x19m, x20m, x21m, x22m, x23m, x24m, x25m, x26m, x27m, x28m, x29m, x30m, x31m, x32m, x33m, x34m, x35m, x36m, x37m, x38m, x39m, x40m, x41m, x42m, x43m, x44m, x45m, x46m, x47m, x48m, x49m, x50m, x51m, x52m, x53m, x54m, x55m, x56m, x57m, x58m, x59m, x60m, x61m, x62m, x63m, x64m, x65m, x66m, x67m, x68m, x69m, x70m, x71m, x72m, x73m, x74m])), (h11m, .inl (aC 0, 14, .inl (fun _ => 0)))] H) (hD : va_D A [(h1x, .inr (10, [x2x, x3x, x4x, .ref h5x, x6x, x7x, x8x, x9x, x10x, x11x, x12x, x13x, x14x, x15x, x16x, x17x])), (h5x, .inr (8, [.ref h18x, x19x, x20x, x21x, x22x, x23x, x24x, x25x, x26x, x27x, x28x, x29x])), (h18x, .inl (aC 0, 5, .inl (fun _ => 0))), (h1m, .inr (11, [.int 0, x2m, x3m, x4m, x5m, x6m, x7m, x8m, x9m, x10m, .ref h11m, x12m, x13m, x14m, x15m, x16m, x17m, x18m, x19m, x20m, x21m, x22m, x23m, x24m, x25m, x26m, x27m, x28m, x29m, x30m, x31m, x32m, x33m, x34m, x35m, x36m, x37m, x38m, x39m, x40m, x41m, x42m, x43m, x44m, x45m, x46m, x47m, x48m, x49m, x50m, x51m, x52m, x53m, x54m, x55m, x56m, x57m, x58m, x59m, x60m, x61m, x62m, x63m, x64m, x65m, x66m, x67m, x68m, x69m, x70m, x71m, x72m, x73m, x74m])), (h11m, .inl (aC 0, 14, .inl (fun _ => 0)))]) (hS : va_S A s.heap H locs) (ls : Array Slot) (hl : lv_has ls 7 [(4, .int 0), (3, .ref ho), (2, .ref h1m), (1, .ref h1x), (0, .ref b)]) : W p l e room_1 s m #[Value.ref b] below meth c H locs 700 60000 (lw_Z below #[Value.ref b] s) (F0 m 974 ls []) := by
  obtain ⟨hx, hb, hml, hown, hts, hK, hA, hM, hM2⟩ := id F
  refine lv_aload_n hx hb dL_law_974 rfl (lv_at hl 3 rfl) ?_
  refine lv_aload_n hx hb dL_law_975 rfl (lv_at hl 4 rfl) ?_
  refine lv_iload hx hb dL_law_976 (lv_at hl 0 rfl) ?_
  refine lv_iconst (v := 1) hx hb dL_law_978 (by decide) ?_
  refine lv_iadd hx hb dL_law_979 ?_
  refine relit (v := 1) (by decide +kernel) ?_
  refine va_sld hx hb hX hbl hbA hS (vpin (j := 1) (by decide +kernel) (by decide +kernel) (by decide)) dL_law_980 ?_
  refine relit (v := xs 1) (by rw [show ((1 : Int32).toNatClampNeg) = 1 from by decide +kernel]) ?_
  refine lv_aload_n hx hb dL_law_981 rfl (lv_at hl 4 rfl) ?_
  refine lv_iload hx hb dL_law_982 (lv_at hl 0 rfl) ?_
  refine lv_iconst (v := 2) hx hb dL_law_984 (by decide) ?_
  refine lv_iadd hx hb dL_law_985 ?_
  refine relit (v := 2) (by decide +kernel) ?_
  refine va_sld hx hb hX hbl hbA hS (vpin (j := 2) (by decide +kernel) (by decide +kernel) (by decide)) dL_law_986 ?_
  refine relit (v := xs 2) (by rw [show ((2 : Int32).toNatClampNeg) = 2 from by decide +kernel]) ?_
  refine lv_aload_n hx hb dL_law_987 rfl (lv_at hl 4 rfl) ?_
  refine lv_iload hx hb dL_law_988 (lv_at hl 0 rfl) ?_
  refine lv_iconst (v := 3) hx hb dL_law_990 (by decide) ?_
  refine lv_iadd hx hb dL_law_991 ?_
  refine relit (v := 3) (by decide +kernel) ?_
  refine va_sld hx hb hX hbl hbA hS (vpin (j := 3) (by decide +kernel) (by decide +kernel) (by decide)) dL_law_992 ?_
  refine relit (v := xs 3) (by rw [show ((3 : Int32).toNatClampNeg) = 3 from by decide +kernel]) ?_
  refine lv_aload_n hx hb dL_law_993 rfl (lv_at hl 4 rfl) ?_
  refine lv_iload hx hb dL_law_994 (lv_at hl 0 rfl) ?_
  refine lv_iconst (v := 4) hx hb dL_law_996 (by decide) ?_
  refine lv_iadd hx hb dL_law_997 ?_
  refine relit (v := 4) (by decide +kernel) ?_
  refine va_sld hx hb hX hbl hbA hS (vpin (j := 4) (by decide +kernel) (by decide +kernel) (by decide)) dL_law_998 ?_
  refine relit (v := xs 4) (by rw [show ((4 : Int32).toNatClampNeg) = 4 from by decide +kernel]) ?_
  refine lv_aload_n hx hb dL_law_999 rfl (lv_at hl 1 rfl) ?_
  have hG : GoodIn gw (va_wsS RL 126 yL_rests uwR) := fun w hw => by
    rcases List.mem_append.mp hw with h | h
    · have hm : w ∈ gw := by
        simp only [List.mem_cons, List.not_mem_nil, or_false] at h
        rcases h with h | h | h
        · rw [h]; exact tb1089
        · rw [h]; exact tb1090
        · rw [h]; exact tb0
      exact ⟨hm, good_of_word (List.all_eq_true.mp lw_good w hm)⟩
    · have hm : w ∈ gw := by
        rcases List.mem_cons.mp h with h | h
        · rw [h]; exact tb1091
        · exact h
      exact ⟨hm, good_of_word (List.all_eq_true.mp lw_good w hm)⟩
  have hrun := vx_runSX (e := e) (below := below) (meth := meth) (R := room_1) (cells := 700) (slots := 60000) (locs := locs) (H := H) (hh := hhR) (g := F0 m 1000 ls [.ref ho, .int (xs 4), .int (xs 3), .int (xs 2), .int (xs 1), .ref h1x]) (As := [.ref h1x, .int (xs 1), .int (xs 2), .int (xs 3), .int (xs 4), .ref ho]) (rest := []) (Ts := gw) (own := RL) (n := 6) ⟨hx, hb, hml, hown, hts⟩ (l_rests l hst g aC aM h1x h5x h18x x2x x3x x4x x6x x7x x8x x9x x10x x11x x12x x13x x14x x15x x16x x17x x19x x20x x21x x22x x23x x24x x25x x26x x27x x28x x29x (xs 1) (xs 2) (xs 3) (xs 4) ho H.size) (vx_cwSW 6 hts hG rfl rfl rfl (by decide +kernel) ⟨Nat.le_of_ble_eq_true rfl, Nat.le_of_ble_eq_true rfl⟩) ⟨PrX.blind, preX_of F hAX hAB hP hD hS [0, 1, 2] (by decide) rfl⟩ rfl rfl hl.1 rfl (lv_room (Nat.le_of_ble_eq_true rfl)) dL_law_1000 ⟨Nat.le_of_ble_eq_true rfl, Nat.le_of_ble_eq_true rfl⟩
  refine goX (wr := [(h1m, .inr (11, [.int 0, x2m, x3m, x4m, x5m, x6m, x7m, x8m, x9m, x10m, .ref h11m, x12m, x13m, x14m, x15m, x16m, x17m, x18m, x19m, x20m, x21m, x22m, x23m, x24m, x25m, x26m, x27m, x28m, x29m, x30m, x31m, x32m, x33m, x34m, x35m, x36m, x37m, x38m, x39m, x40m, x41m, x42m, x43m, x44m, x45m, x46m, x47m, x48m, x49m, x50m, x51m, x52m, x53m, x54m, x55m, x56m, x57m, x58m, x59m, x60m, x61m, x62m, x63m, x64m, x65m, x66m, x67m, x68m, x69m, x70m, x71m, x72m, x73m, x74m])), (h11m, .inl (aC 0, 14, .inl (fun _ => 0)))]) hrun hP hD hS hA [0, 1, 2] [3, 4] rfl rfl (by decide) (by decide) (fun r_ w_ H locs hw hP hD hS => ?_)
  have hP : va_P g vwCl [(h1m, .inr (11, [.int 0, x2m, x3m, x4m, x5m, x6m, x7m, x8m, x9m, x10m, .ref h11m, x12m, x13m, x14m, x15m, x16m, x17m, x18m, x19m, x20m, x21m, x22m, x23m, x24m, x25m, x26m, x27m, x28m, x29m, x30m, x31m, x32m, x33m, x34m, x35m, x36m, x37m, x38m, x39m, x40m, x41m, x42m, x43m, x44m, x45m, x46m, x47m, x48m, x49m, x50m, x51m, x52m, x53m, x54m, x55m, x56m, x57m, x58m, x59m, x60m, x61m, x62m, x63m, x64m, x65m, x66m, x67m, x68m, x69m, x70m, x71m, x72m, x73m, x74m])), (h11m, .inl (aC 0, 14, .inl (fun _ => 0)))] H := hP
  have hD : va_D A [(h1m, .inr (11, [.int 0, x2m, x3m, x4m, x5m, x6m, x7m, x8m, x9m, x10m, .ref h11m, x12m, x13m, x14m, x15m, x16m, x17m, x18m, x19m, x20m, x21m, x22m, x23m, x24m, x25m, x26m, x27m, x28m, x29m, x30m, x31m, x32m, x33m, x34m, x35m, x36m, x37m, x38m, x39m, x40m, x41m, x42m, x43m, x44m, x45m, x46m, x47m, x48m, x49m, x50m, x51m, x52m, x53m, x54m, x55m, x56m, x57m, x58m, x59m, x60m, x61m, x62m, x63m, x64m, x65m, x66m, x67m, x68m, x69m, x70m, x71m, x72m, x73m, x74m])), (h11m, .inl (aC 0, 14, .inl (fun _ => 0)))] := hD
  try dsimp only at hw
  subst hw
  refine lv_istore (lv' := [(5, .int 1), (4, .int 0), (3, .ref ho), (2, .ref h1m), (1, .ref h1x), (0, .ref b)]) hx hb dL_law_1003 hl (by decide) rfl (fun ls hl => ?_)
  refine lv_aload_n hx hb dL_law_1005 rfl (lv_at hl 3 rfl) ?_
  refine lv_aload_n hx hb dL_law_1006 rfl (lv_at hl 5 rfl) ?_
  refine lv_iload hx hb dL_law_1007 (lv_at hl 1 rfl) ?_
  refine lv_iconst (v := 1) hx hb dL_law_1009 (by decide) ?_
  refine lv_iadd hx hb dL_law_1010 ?_
  refine relit (v := 1) (by decide +kernel) ?_
  refine va_sld hx hb hX hbl hbA hS (vpin (j := 1) (by decide +kernel) (by decide +kernel) (by decide)) dL_law_1011 ?_
  refine relit (v := xs 1) (by rw [show ((1 : Int32).toNatClampNeg) = 1 from by decide +kernel]) ?_
  refine lv_aload_n hx hb dL_law_1012 rfl (lv_at hl 5 rfl) ?_
  refine lv_iload hx hb dL_law_1013 (lv_at hl 1 rfl) ?_
  refine lv_iconst (v := 2) hx hb dL_law_1015 (by decide) ?_
  refine lv_iadd hx hb dL_law_1016 ?_
  refine relit (v := 2) (by decide +kernel) ?_
  refine va_sld hx hb hX hbl hbA hS (vpin (j := 2) (by decide +kernel) (by decide +kernel) (by decide)) dL_law_1017 ?_
  refine relit (v := xs 2) (by rw [show ((2 : Int32).toNatClampNeg) = 2 from by decide +kernel]) ?_
  refine lv_aload_n hx hb dL_law_1018 rfl (lv_at hl 5 rfl) ?_
  refine lv_iload hx hb dL_law_1019 (lv_at hl 1 rfl) ?_
  refine lv_iconst (v := 3) hx hb dL_law_1021 (by decide) ?_
  refine lv_iadd hx hb dL_law_1022 ?_
  refine relit (v := 3) (by decide +kernel) ?_
  refine va_sld hx hb hX hbl hbA hS (vpin (j := 3) (by decide +kernel) (by decide +kernel) (by decide)) dL_law_1023 ?_
  refine relit (v := xs 3) (by rw [show ((3 : Int32).toNatClampNeg) = 3 from by decide +kernel]) ?_
  refine lv_aload_n hx hb dL_law_1024 rfl (lv_at hl 5 rfl) ?_
  refine lv_iload hx hb dL_law_1025 (lv_at hl 1 rfl) ?_
  refine lv_iconst (v := 4) hx hb dL_law_1027 (by decide) ?_
  refine lv_iadd hx hb dL_law_1028 ?_
  refine relit (v := 4) (by decide +kernel) ?_
  refine va_sld hx hb hX hbl hbA hS (vpin (j := 4) (by decide +kernel) (by decide +kernel) (by decide)) dL_law_1029 ?_
  refine relit (v := xs 4) (by rw [show ((4 : Int32).toNatClampNeg) = 4 from by decide +kernel]) ?_
  refine goI (wr := []) (runV (n := 4) (As := [.int (xs 1), .int (xs 2), .int (xs 3), .int (xs 4)]) (rest := []) F hP hD hS (m_rests l g aC aM h1m h11m x2m x3m x4m x5m x6m x7m x8m x9m x10m x12m x13m x14m x15m x16m x17m x18m x19m x20m x21m x22m x23m x24m x25m x26m x27m x28m x29m x30m x31m x32m x33m x34m x35m x36m x37m x38m x39m x40m x41m x42m x43m x44m x45m x46m x47m x48m x49m x50m x51m x52m x53m x54m x55m x56m x57m x58m x59m x60m x61m x62m x63m x64m x65m x66m x67m x68m x69m x70m x71m x72m x73m x74m (xs 1) (xs 2) (xs 3) (xs 4)) [0, 1] (by decide) rfl 0 11 rfl rfl rfl tb1865 tb1862 tb1863 tb1864 tb17 ⟨by decide, by decide, by decide +kernel⟩ ⟨Nat.le_of_ble_eq_true rfl, Nat.le_of_ble_eq_true rfl⟩ rfl hl.1 rfl (Nat.le_of_ble_eq_true rfl) dL_law_1030 ⟨Nat.le_of_ble_eq_true rfl, Nat.le_of_ble_eq_true rfl⟩) hP hD hS hA [0, 1] [] rfl rfl (by decide) (by decide) (fun r_2 w3 H locs hw hP hD hS => ?_)
  have hP : va_P g vwCl [(h1m, .inr (11, [.int 1, x2m, x3m, x4m, x5m, x6m, x7m, x8m, x9m, x10m, .ref h11m, x12m, x13m, x14m, x15m, x16m, x17m, x18m, x19m, x20m, x21m, x22m, x23m, x24m, x25m, x26m, x27m, x28m, x29m, x30m, x31m, x32m, x33m, x34m, x35m, x36m, x37m, x38m, x39m, x40m, x41m, x42m, x43m, x44m, x45m, x46m, x47m, x48m, x49m, x50m, x51m, x52m, x53m, x54m, x55m, x56m, x57m, x58m, x59m, x60m, x61m, x62m, x63m, x64m, x65m, x66m, x67m, x68m, x69m, x70m, x71m, x72m, x73m, x74m]))] H := hP
  have hD : va_D A [(h1m, .inr (11, [.int 1, x2m, x3m, x4m, x5m, x6m, x7m, x8m, x9m, x10m, .ref h11m, x12m, x13m, x14m, x15m, x16m, x17m, x18m, x19m, x20m, x21m, x22m, x23m, x24m, x25m, x26m, x27m, x28m, x29m, x30m, x31m, x32m, x33m, x34m, x35m, x36m, x37m, x38m, x39m, x40m, x41m, x42m, x43m, x44m, x45m, x46m, x47m, x48m, x49m, x50m, x51m, x52m, x53m, x54m, x55m, x56m, x57m, x58m, x59m, x60m, x61m, x62m, x63m, x64m, x65m, x66m, x67m, x68m, x69m, x70m, x71m, x72m, x73m, x74m]))] := hD
  try dsimp only at hw
  subst hw
  refine lv_istore (lv' := [(6, .int 0), (5, .int 1), (4, .int 0), (3, .ref ho), (2, .ref h1m), (1, .ref h1x), (0, .ref b)]) hx hb dL_law_1033 hl (by decide) rfl (fun ls hl => ?_)
  refine lv_aload_n hx hb dL_law_1035 rfl (lv_at hl 4 rfl) ?_
  refine goI (wr := []) (runV (n := 0) (As := []) (rest := []) F hP hD hS (m_thrown l g aC aM h1m x2m x3m x4m x5m x6m x7m x8m x9m x10m (.ref h11m) x12m x13m x14m x15m x16m x17m x18m x19m x20m x21m x22m x23m x24m x25m x26m x27m x28m x29m x30m x31m x32m x33m x34m x35m x36m x37m x38m x39m x40m x41m x42m x43m x44m x45m x46m x47m x48m x49m x50m x51m x52m x53m x54m x55m x56m x57m x58m x59m x60m x61m x62m x63m x64m x65m x66m x67m x68m x69m x70m x71m x72m x73m x74m) [0] (by decide) rfl 0 11 rfl rfl rfl tb1409 tb1406 tb1407 tb1408 tb17 ⟨by decide, by decide, by decide +kernel⟩ ⟨Nat.le_of_ble_eq_true rfl, Nat.le_of_ble_eq_true rfl⟩ rfl hl.1 rfl (Nat.le_of_ble_eq_true rfl) dL_law_1036 ⟨Nat.le_of_ble_eq_true rfl, Nat.le_of_ble_eq_true rfl⟩) hP hD hS hA [0] [] rfl rfl (by decide) (by decide) (fun r_5 w6 H locs hw hP hD hS => ?_)
  have hP : va_P g vwCl [] H := hP
  have hD : va_D A [] := hD
  try dsimp only at hw
  subst hw
  refine lv_iload hx hb dL_law_1039 (lv_at hl 1 rfl) ?_
  refine lv_icmp_eq (tgt := 1046) hx hb dL_law_1041 (by decide) (fun _ => ?_) (fun c_ => absurd (by decide +kernel) c_)
  refine lv_iload hx hb dL_law_1046 (lv_at hl 1 rfl) ?_
  refine lv_if_ne (tgt := 1063) hx hb dL_law_1048 (by decide) (fun _ => ?_) (fun c_ => absurd c_ (by decide +kernel))
  refine lv_goto (tgt := 1279) hx hb dL_law_1063 (by decide) ?_
  exact law_end F hr hlocks hX hbl hbA hAs hS (Nat.le_of_ble_eq_true rfl) (Nat.le_of_ble_eq_true rfl) _ (lv_sub hl [2, 6] rfl)
