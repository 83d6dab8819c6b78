/-! links to the JDK -/
set_option maxRecDepth 100000 in
theorem tb487 : (Jvm.Cond.methodLink "StairGang$Tokens" (78 : Nat) ({ cls := "java/lang/String", name := "indexOf", desc := "(I)I" } : Jvm.MethodName)) ∈ gw := lw_m3 7 rfl
set_option maxRecDepth 100000 in
theorem tb754 : (Jvm.Cond.methodLink "StairGang$Said" (32 : Nat) ({ cls := "java/lang/System", name := "arraycopy", desc := "(Ljava/lang/Object;ILjava/lang/Object;II)V" } : Jvm.MethodName)) ∈ gw := lw_m4 34 rfl
set_option maxRecDepth 100000 in
theorem tb799 : (Jvm.Cond.methodLink "StairGang$Town" (100 : Nat) ({ cls := "java/lang/Math", name := "min", desc := "(II)I" } : Jvm.MethodName)) ∈ gw := lw_m4 79 rfl
set_option maxRecDepth 100000 in
theorem tb800 : (Jvm.Cond.methodLink "StairGang$Town" (106 : Nat) ({ cls := "java/lang/Math", name := "max", desc := "(II)I" } : Jvm.MethodName)) ∈ gw := lw_m4 80 rfl
set_option maxRecDepth 100000 in
theorem tb838 : (Jvm.Cond.methodLink "StairGang$State" (46 : Nat) ({ cls := "java/lang/System", name := "arraycopy", desc := "(Ljava/lang/Object;ILjava/lang/Object;II)V" } : Jvm.MethodName)) ∈ gw := lw_m4 118 rfl
set_option maxRecDepth 100000 in
theorem tb865 : (Jvm.Cond.methodLink "StairGang$State" (99 : Nat) ({ cls := "java/lang/Math", name := "min", desc := "(II)I" } : Jvm.MethodName)) ∈ gw := lw_m4 145 rfl
set_option maxRecDepth 100000 in
theorem tb866 : (Jvm.Cond.methodLink "StairGang$State" (104 : Nat) ({ cls := "java/lang/Math", name := "max", desc := "(II)I" } : Jvm.MethodName)) ∈ gw := lw_m4 146 rfl
set_option maxRecDepth 100000 in
theorem tb872 : (Jvm.Cond.methodLink "StairGang$History" (27 : Nat) ({ cls := "java/lang/Math", name := "min", desc := "(II)I" } : Jvm.MethodName)) ∈ gw := lw_m4 152 rfl
set_option maxRecDepth 100000 in
theorem tb978 : (Jvm.Cond.methodLink "StairGang$Orders" (55 : Nat) ({ cls := "java/lang/Math", name := "max", desc := "(JJ)J" } : Jvm.MethodName)) ∈ gw := lw_m5 18 rfl
set_option maxRecDepth 100000 in
theorem tb1010 : (Jvm.Cond.methodLink "StairGang" (311 : Nat) ({ cls := "java/lang/Math", name := "abs", desc := "(I)I" } : Jvm.MethodName)) ∈ gw := lw_m5 50 rfl
set_option maxRecDepth 100000 in
theorem tb1831 : (Jvm.Cond.methodLink "StairGangModel" (526 : Nat) ({ cls := "java/lang/Math", name := "max", desc := "(II)I" } : Jvm.MethodName)) ∈ gw := lw_m8 151 rfl
def exX1 : List (Nat × Nat) := [(27, 1)]
theorem exX1_ok : ∀ q ∈ exX1, Cond.methodLink RX1 q.1 (match q.2 with
  | 0 => Lib.Math.max.name
  | 1 => Lib.Math.min.name
  | 2 => Lib.Math.abs.name
  | 3 => Lib.MathLoose.max_long.x
  | 4 => yIdx
  | _ => yCpy) ∈ gw := (List.forall_mem_cons.mpr ⟨tb872, (List.forall_mem_nil _)⟩)
def exX3 : List (Nat × Nat) := [(55, 3)]
theorem exX3_ok : ∀ q ∈ exX3, Cond.methodLink RX3 q.1 (match q.2 with
  | 0 => Lib.Math.max.name
  | 1 => Lib.Math.min.name
  | 2 => Lib.Math.abs.name
  | 3 => Lib.MathLoose.max_long.x
  | 4 => yIdx
  | _ => yCpy) ∈ gw := (List.forall_mem_cons.mpr ⟨tb978, (List.forall_mem_nil _)⟩)
def exX5 : List (Nat × Nat) := [(32, 5)]
theorem exX5_ok : ∀ q ∈ exX5, Cond.methodLink RX5 q.1 (match q.2 with
  | 0 => Lib.Math.max.name
  | 1 => Lib.Math.min.name
  | 2 => Lib.Math.abs.name
  | 3 => Lib.MathLoose.max_long.x
  | 4 => yIdx
  | _ => yCpy) ∈ gw := (List.forall_mem_cons.mpr ⟨tb754, (List.forall_mem_nil _)⟩)
def exX6 : List (Nat × Nat) := [(46, 5), (99, 1), (104, 0)]
theorem exX6_ok : ∀ q ∈ exX6, Cond.methodLink RX6 q.1 (match q.2 with
  | 0 => Lib.Math.max.name
  | 1 => Lib.Math.min.name
  | 2 => Lib.Math.abs.name
  | 3 => Lib.MathLoose.max_long.x
  | 4 => yIdx
  | _ => yCpy) ∈ gw := (List.forall_mem_cons.mpr ⟨tb838, (List.forall_mem_cons.mpr ⟨tb865, (List.forall_mem_cons.mpr ⟨tb866, (List.forall_mem_nil _)⟩)⟩)⟩)
def exX7 : List (Nat × Nat) := [(78, 4)]
theorem exX7_ok : ∀ q ∈ exX7, Cond.methodLink RX7 q.1 (match q.2 with
  | 0 => Lib.Math.max.name
  | 1 => Lib.Math.min.name
  | 2 => Lib.Math.abs.name
  | 3 => Lib.MathLoose.max_long.x
  | 4 => yIdx
  | _ => yCpy) ∈ gw := (List.forall_mem_cons.mpr ⟨tb487, (List.forall_mem_nil _)⟩)
def exX8 : List (Nat × Nat) := [(100, 1), (106, 0)]
theorem exX8_ok : ∀ q ∈ exX8, Cond.methodLink RX8 q.1 (match q.2 with
  | 0 => Lib.Math.max.name
  | 1 => Lib.Math.min.name
  | 2 => Lib.Math.abs.name
  | 3 => Lib.MathLoose.max_long.x
  | 4 => yIdx
  | _ => yCpy) ∈ gw := (List.forall_mem_cons.mpr ⟨tb799, (List.forall_mem_cons.mpr ⟨tb800, (List.forall_mem_nil _)⟩)⟩)
def exX10 : List (Nat × Nat) := [(311, 2)]
theorem exX10_ok : ∀ q ∈ exX10, Cond.methodLink RX10 q.1 (match q.2 with
  | 0 => Lib.Math.max.name
  | 1 => Lib.Math.min.name
  | 2 => Lib.Math.abs.name
  | 3 => Lib.MathLoose.max_long.x
  | 4 => yIdx
  | _ => yCpy) ∈ gw := (List.forall_mem_cons.mpr ⟨tb1010, (List.forall_mem_nil _)⟩)
def exX11 : List (Nat × Nat) := [(526, 0)]
theorem exX11_ok : ∀ q ∈ exX11, Cond.methodLink RX11 q.1 (match q.2 with
  | 0 => Lib.Math.max.name
  | 1 => Lib.Math.min.name
  | 2 => Lib.Math.abs.name
  | 3 => Lib.MathLoose.max_long.x
  | 4 => yIdx
  | _ => yCpy) ∈ gw := (List.forall_mem_cons.mpr ⟨tb1831, (List.forall_mem_nil _)⟩)
