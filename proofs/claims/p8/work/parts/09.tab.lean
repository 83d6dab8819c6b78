/-! tables of the pure machine -/
def pm_lk {α : Type} (l : List (Nat × α)) (i : Nat) : Option α := (l.find? (fun q => q.1 == i)).map (fun q => q.2)
theorem pm_lk_mem {α : Type} {l : List (Nat × α)} {i : Nat} {x : α} (h : pm_lk l i = some x) : (i, x) ∈ l := by
  unfold pm_lk at h
  obtain ⟨q, hq, rfl⟩ := Option.map_eq_some_iff.mp h
  have h1 := List.find?_some hq
  have h2 := List.mem_of_find?_eq_some hq
  have h3 : q.1 = i := by simpa using h1
  rw [← h3]
  exact h2
def pm_fOK (own : String) (e : Nat × Nat × Nat × FieldType × Bool) : Prop := ∃ (C : String) (T : u_T) (N : Nat) (ty0 : Nat → FieldType), vwCl[e.2.1]? = some (C, T, N) ∧ (∀ w ∈ u_ws C T N, w ∈ gw) ∧ e.2.2.1 < N ∧ Cond.fieldLink own e.1 (T e.2.2.1).1 (T e.2.2.1).2.1 (T e.2.2.1).2.2.1 ∈ gw ∧ (∀ k, k < N → parseFieldDescriptor (T k).2.2.1 = some (ty0 k)) ∧ (∀ a, a < N → ∀ b, b < N → a ≠ b → (T a).2.1 ≠ (T b).2.1) ∧ ty0 e.2.2.1 = e.2.2.2.1 ∧ (T e.2.2.1).2.2.2 = e.2.2.2.2
def pm_cOK (own : String) (e : Nat × Value) : Prop := match e.2 with
  | .int x => Cond.constant own e.1 x ∈ gw
  | .long x => Cond.constantLong own e.1 x ∈ gw
  | .ref k => ∃ i : Nat, i < 6 ∧ k = 1001 + i ∧ stO i = own ∧ stI i = e.1
  | _ => False
theorem pm_okL {own : String} {lf : List (Nat × Nat × Nat × FieldType × Bool)} {lc : List (Nat × Value)} {ls : List Nat} {lm : Nat → Option (Nat × Nat)} (h1 : ∀ e ∈ lf, pm_fOK own e) (h2 : ∀ e ∈ lc, pm_cOK own e) (h3 : ∀ i ∈ ls, Cond.fieldLink own i "StairGang" "MOST" "[I" ∈ gw ∨ (own, i) ∈ nsF) : pm_ok own (pm_lk lf, pm_lk lc, fun i => ls.contains i, lm) :=
  ⟨fun idx ci j ty fin h => h1 _ (pm_lk_mem h), fun idx x h => h2 _ (pm_lk_mem h), fun idx x h => h2 _ (pm_lk_mem h), fun idx k h => h2 _ (pm_lk_mem h), fun idx h => h3 idx (by simpa using h)⟩
def pm_lOK (MT : Nat → Option Me) (own : String) (e : Nat × Nat × Nat) : Prop := ∃ y : MethodName, (MT e.2.1).map (fun m => m.1) = some y ∧ Cond.methodLink own e.1 y ∈ gw ∧ (parseMethodDescriptor y.desc).map (fun d => d.parameters.length) = some e.2.2
def pm_eOK (own : String) (L : Lk) (me : Me) : Prop := me.1.cls = own ∧ Cond.code me.1 me.2.1 me.2.2.1 me.2.2.2.1 ∈ gw ∧ me.2.2.1 ≤ 41 ∧ ((me.2.2.2.2.2 = true ∧ Cond.static me.1 ∈ gw) ∨ (me.2.2.2.2.2 = false ∧ Cond.instanceMethod me.1 ∈ gw ∧ Cond.selects me.1.cls me.1 me.1 ∈ gw)) ∧ me.2.2.2.2.1 = L
def pm_mOK (MT : Nat → Option Me) (me : Me) : Prop := pm_ok me.1.cls me.2.2.2.2.1 ∧ plainName me.1.cls = true ∧ Cond.code me.1 me.2.1 me.2.2.1 me.2.2.2.1 ∈ gw ∧ Cond.initialized me.1.cls ∈ gw ∧ me.2.2.1 ≤ 41 ∧ (me.1.cls ≠ "java/lang/invoke/MethodHandle" ∧ me.1.cls ≠ "java/lang/invoke/VarHandle") ∧ ((me.2.2.2.2.2 = true ∧ Cond.static me.1 ∈ gw) ∨ (me.2.2.2.2.2 = false ∧ Cond.instanceMethod me.1 ∈ gw ∧ Cond.selects me.1.cls me.1 me.1 ∈ gw)) ∧
  ∀ (idx k' np : Nat) (me' : Me), me.2.2.2.2.1.2.2.2 idx = some (k', np) → MT k' = some me' → Cond.methodLink me.1.cls idx me'.1 ∈ gw ∧ (parseMethodDescriptor me'.1.desc).map (fun d => d.parameters.length) = some np
theorem pm_mOK.of {MT : Nat → Option Me} {own : String} {L : Lk} {lm : List (Nat × Nat × Nat)} {me : Me} (hL : pm_ok own L) (hm : ∀ e ∈ lm, pm_lOK MT own e) (hi : Cond.initialized own ∈ gw) (hp : plainName own = true) (hn : own ≠ "java/lang/invoke/MethodHandle" ∧ own ≠ "java/lang/invoke/VarHandle") (he : pm_eOK own L me) (hlm : L.2.2.2 = pm_lk lm := by rfl) : pm_mOK MT me := by
  obtain ⟨rfl, h1, h2, h3, rfl⟩ := he
  refine ⟨hL, hp, h1, hi, h2, hn, h3, fun idx k' np me' q1 q2 => ?_⟩
  rw [hlm] at q1
  obtain ⟨y, e1, e2, e3⟩ := hm _ (pm_lk_mem q1)
  have e4 : MT k' = some me' := q2
  have e1 : (MT k').map (fun m => m.1) = some y := e1
  rw [e4] at e1
  cases e1
  exact ⟨e2, e3⟩
set_option maxRecDepth 100000 in
theorem tb1 : (Jvm.Cond.initialized "StairGang") ∈ gw := lw_m1 1 rfl
set_option maxRecDepth 100000 in
theorem tb2 : (Jvm.Cond.initialized "StairGang$Tokens") ∈ gw := lw_m1 2 rfl
set_option maxRecDepth 100000 in
theorem tb7 : (Jvm.Cond.initialized "StairGang$TownReader") ∈ gw := lw_m1 7 rfl
set_option maxRecDepth 100000 in
theorem tb8 : (Jvm.Cond.initialized "StairGang$NightsReader") ∈ gw := lw_m1 8 rfl
set_option maxRecDepth 100000 in
theorem tb9 : (Jvm.Cond.initialized "StairGang$Town") ∈ gw := lw_m1 9 rfl
set_option maxRecDepth 100000 in
theorem tb10 : (Jvm.Cond.initialized "StairGang$Price") ∈ gw := lw_m1 10 rfl
set_option maxRecDepth 100000 in
theorem tb11 : (Jvm.Cond.initialized "java/util/Arrays") ∈ gw := lw_m1 11 rfl
set_option maxRecDepth 100000 in
theorem tb12 : (Jvm.Cond.initialized "StairGang$State") ∈ gw := lw_m1 12 rfl
set_option maxRecDepth 100000 in
theorem tb13 : (Jvm.Cond.initialized "StairGang$Said") ∈ gw := lw_m1 13 rfl
set_option maxRecDepth 100000 in
theorem tb14 : (Jvm.Cond.initialized "StairGang$History") ∈ gw := lw_m1 14 rfl
set_option maxRecDepth 100000 in
theorem tb15 : (Jvm.Cond.initialized "StairGang$Orders") ∈ gw := lw_m1 15 rfl
set_option maxRecDepth 100000 in
theorem tb16 : (Jvm.Cond.initialized "StairGang$Chances") ∈ gw := lw_m1 16 rfl
set_option maxRecDepth 100000 in
theorem tb17 : (Jvm.Cond.initialized "StairGangModel") ∈ gw := lw_m1 17 rfl
set_option maxRecDepth 100000 in
theorem tb21 : (Jvm.Cond.initialized "java/lang/Integer") ∈ gw := lw_m1 21 rfl
set_option maxRecDepth 100000 in
theorem tb43 : (Jvm.Cond.instanceMethod ({ cls := "StairGang$Tokens", name := "learn", desc := "(Ljava/lang/String;I)I" } : Jvm.MethodName)) ∈ gw := lw_m1 43 rfl
set_option maxRecDepth 100000 in
theorem tb44 : (Jvm.Cond.code ({ cls := "StairGang$Tokens", name := "learn", desc := "(Ljava/lang/String;I)I" } : Jvm.MethodName) prog_9_method_2_code (6 : Nat) (Option.some Jvm.ClassFile.FieldType.int)) ∈ gw := lw_m1 44 rfl
set_option maxRecDepth 100000 in
theorem tb93 : (Jvm.Cond.methodLink "StairGang$Tokens" (39 : Nat) ({ cls := "StairGang$Tokens", name := "isLetter", desc := "(C)Z" } : Jvm.MethodName)) ∈ gw := lw_m1 93 rfl
set_option maxRecDepth 100000 in
theorem tb94 : (Jvm.Cond.static ({ cls := "StairGang$Tokens", name := "isLetter", desc := "(C)Z" } : Jvm.MethodName)) ∈ gw := lw_m1 94 rfl
set_option maxRecDepth 100000 in
theorem tb95 : (Jvm.Cond.code ({ cls := "StairGang$Tokens", name := "isLetter", desc := "(C)Z" } : Jvm.MethodName) prog_9_method_4_code (1 : Nat) (Option.some Jvm.ClassFile.FieldType.boolean)) ∈ gw := lw_m1 95 rfl
set_option maxRecDepth 100000 in
theorem tb96 : (Jvm.Cond.methodLink "StairGang$Tokens" (43 : Nat) ({ cls := "StairGang$Tokens", name := "withLetter", desc := "(JC)J" } : Jvm.MethodName)) ∈ gw := lw_m1 96 rfl
set_option maxRecDepth 100000 in
theorem tb97 : (Jvm.Cond.static ({ cls := "StairGang$Tokens", name := "withLetter", desc := "(JC)J" } : Jvm.MethodName)) ∈ gw := lw_m1 97 rfl
set_option maxRecDepth 100000 in
theorem tb98 : (Jvm.Cond.code ({ cls := "StairGang$Tokens", name := "withLetter", desc := "(JC)J" } : Jvm.MethodName) prog_9_method_3_code (3 : Nat) (Option.some Jvm.ClassFile.FieldType.long)) ∈ gw := lw_m1 98 rfl
set_option maxRecDepth 100000 in
theorem tb101 : (Jvm.Cond.fieldLink "StairGang" (99 : Nat) "StairGang$Tokens" "length" "I") ∈ gw := lw_m1 101 rfl
set_option maxRecDepth 100000 in
theorem tb102 : (Jvm.Cond.fieldLink "StairGang$Tokens" (49 : Nat) "StairGang$Tokens" "length" "I") ∈ gw := lw_m1 102 rfl
set_option maxRecDepth 100000 in
theorem tb103 : (Jvm.Cond.fieldLink "StairGang$NightsReader" (36 : Nat) "StairGang$Tokens" "fault" "I") ∈ gw := lw_m1 103 rfl
set_option maxRecDepth 100000 in
theorem tb104 : (Jvm.Cond.fieldLink "StairGang$TownReader" (88 : Nat) "StairGang$Tokens" "fault" "I") ∈ gw := lw_m1 104 rfl
set_option maxRecDepth 100000 in
theorem tb105 : (Jvm.Cond.fieldLink "StairGang$Tokens" (52 : Nat) "StairGang$Tokens" "fault" "I") ∈ gw := lw_m1 105 rfl
set_option maxRecDepth 100000 in
theorem tb106 : (Jvm.Cond.fieldLink "StairGang$Tokens" (9 : Nat) "StairGang$Tokens" "signs" "[C") ∈ gw := lw_m1 106 rfl
set_option maxRecDepth 100000 in
theorem tb107 : (Jvm.Cond.fieldLink "StairGang$Tokens" (15 : Nat) "StairGang$Tokens" "known" "[J") ∈ gw := lw_m1 107 rfl
set_option maxRecDepth 100000 in
theorem tb108 : (Jvm.Cond.fieldLink "StairGang$Tokens" (61 : Nat) "StairGang$Tokens" "kind" "I") ∈ gw := lw_m1 108 rfl
set_option maxRecDepth 100000 in
theorem tb109 : (Jvm.Cond.fieldLink "StairGang$Tokens" (64 : Nat) "StairGang$Tokens" "place" "I") ∈ gw := lw_m1 109 rfl
set_option maxRecDepth 100000 in
theorem tb110 : (Jvm.Cond.fieldLink "StairGang$Tokens" (55 : Nat) "StairGang$Tokens" "end" "I") ∈ gw := lw_m1 110 rfl
set_option maxRecDepth 100000 in
theorem tb111 : (Jvm.Cond.fieldLink "StairGang$Tokens" (82 : Nat) "StairGang$Tokens" "word" "J") ∈ gw := lw_m1 111 rfl
set_option maxRecDepth 100000 in
theorem tb112 : (Jvm.Cond.fieldLink "StairGang$Tokens" (86 : Nat) "StairGang$Tokens" "key" "I") ∈ gw := lw_m1 112 rfl
set_option maxRecDepth 100000 in
theorem tb113 : (Jvm.Cond.fieldLink "StairGang$Tokens" (89 : Nat) "StairGang$Tokens" "number" "I") ∈ gw := lw_m1 113 rfl
set_option maxRecDepth 100000 in
theorem tb144 : (Jvm.Cond.fieldLink "StairGang$TownReader" (9 : Nat) "StairGang$TownReader" "tokens" "LStairGang$Tokens;") ∈ gw := lw_m1 144 rfl
set_option maxRecDepth 100000 in
theorem tb154 : (Jvm.Cond.fieldLink "StairGang$NightsReader" (11 : Nat) "StairGang$NightsReader" "lines" "[I") ∈ gw := lw_m1 154 rfl
set_option maxRecDepth 100000 in
theorem tb155 : (Jvm.Cond.fieldLink "StairGang" (119 : Nat) "StairGang$NightsReader" "lines" "[I") ∈ gw := lw_m1 155 rfl
set_option maxRecDepth 100000 in
theorem tb156 : (Jvm.Cond.fieldLink "StairGang$NightsReader" (19 : Nat) "StairGang$NightsReader" "count" "I") ∈ gw := lw_m1 156 rfl
set_option maxRecDepth 100000 in
theorem tb157 : (Jvm.Cond.fieldLink "StairGang" (122 : Nat) "StairGang$NightsReader" "count" "I") ∈ gw := lw_m1 157 rfl
set_option maxRecDepth 100000 in
theorem tb158 : (Jvm.Cond.fieldLink "StairGang$NightsReader" (15 : Nat) "StairGang$NightsReader" "tokens" "LStairGang$Tokens;") ∈ gw := lw_m1 158 rfl
set_option maxRecDepth 100000 in
theorem tb183 : (Jvm.Cond.fieldLink "StairGang$Price" (9 : Nat) "StairGang$Price" "steps" "[I") ∈ gw := lw_m1 183 rfl
set_option maxRecDepth 100000 in
theorem tb184 : (Jvm.Cond.fieldLink "StairGang$Price" (18 : Nat) "StairGang$Price" "length" "I") ∈ gw := lw_m1 184 rfl
set_option maxRecDepth 100000 in
theorem tb185 : (Jvm.Cond.fieldLink "StairGang$Price" (15 : Nat) "StairGang$Price" "stack" "[I") ∈ gw := lw_m1 185 rfl
set_option maxRecDepth 100000 in
theorem tb194 : (Jvm.Cond.instanceMethod ({ cls := "StairGang$Town", name := "clear", desc := "()V" } : Jvm.MethodName)) ∈ gw := lw_m1 194 rfl
set_option maxRecDepth 100000 in
theorem tb195 : (Jvm.Cond.selects "StairGang$Town" ({ cls := "StairGang$Town", name := "clear", desc := "()V" } : Jvm.MethodName) ({ cls := "StairGang$Town", name := "clear", desc := "()V" } : Jvm.MethodName)) ∈ gw := lw_m1 195 rfl
set_option maxRecDepth 100000 in
theorem tb196 : (Jvm.Cond.code ({ cls := "StairGang$Town", name := "clear", desc := "()V" } : Jvm.MethodName) prog_10_method_2_code (1 : Nat) (Option.none : Option Jvm.ClassFile.FieldType)) ∈ gw := lw_m1 196 rfl
set_option maxRecDepth 100000 in
theorem tb197 : (Jvm.Cond.methodLink "StairGang$Town" (58 : Nat) ({ cls := "java/util/Arrays", name := "fill", desc := "([II)V" } : Jvm.MethodName)) ∈ gw := lw_m1 197 rfl
set_option maxRecDepth 100000 in
theorem tb198 : (Jvm.Cond.static ({ cls := "java/util/Arrays", name := "fill", desc := "([II)V" } : Jvm.MethodName)) ∈ gw := lw_m1 198 rfl
set_option maxRecDepth 100000 in
theorem tb199 : (Jvm.Cond.code ({ cls := "java/util/Arrays", name := "fill", desc := "([II)V" } : Jvm.MethodName) prog_29_method_103_code (4 : Nat) (Option.none : Option Jvm.ClassFile.FieldType)) ∈ gw := lw_m1 199 rfl
set_option maxRecDepth 100000 in
theorem tb200 : (Jvm.Cond.methodLink "StairGang$Town" (64 : Nat) ({ cls := "java/util/Arrays", name := "fill", desc := "([JJ)V" } : Jvm.MethodName)) ∈ gw := lw_m1 200 rfl
set_option maxRecDepth 100000 in
theorem tb201 : (Jvm.Cond.static ({ cls := "java/util/Arrays", name := "fill", desc := "([JJ)V" } : Jvm.MethodName)) ∈ gw := lw_m1 201 rfl
set_option maxRecDepth 100000 in
theorem tb202 : (Jvm.Cond.code ({ cls := "java/util/Arrays", name := "fill", desc := "([JJ)V" } : Jvm.MethodName) prog_29_method_101_code (5 : Nat) (Option.none : Option Jvm.ClassFile.FieldType)) ∈ gw := lw_m1 202 rfl
set_option maxRecDepth 100000 in
theorem tb203 : (Jvm.Cond.methodLink "StairGang$Town" (74 : Nat) ({ cls := "StairGang$Price", name := "clear", desc := "()V" } : Jvm.MethodName)) ∈ gw := lw_m1 203 rfl
set_option maxRecDepth 100000 in
theorem tb204 : (Jvm.Cond.instanceMethod ({ cls := "StairGang$Price", name := "clear", desc := "()V" } : Jvm.MethodName)) ∈ gw := lw_m1 204 rfl
set_option maxRecDepth 100000 in
theorem tb205 : (Jvm.Cond.selects "StairGang$Price" ({ cls := "StairGang$Price", name := "clear", desc := "()V" } : Jvm.MethodName) ({ cls := "StairGang$Price", name := "clear", desc := "()V" } : Jvm.MethodName)) ∈ gw := lw_m1 205 rfl
set_option maxRecDepth 100000 in
theorem tb206 : (Jvm.Cond.code ({ cls := "StairGang$Price", name := "clear", desc := "()V" } : Jvm.MethodName) prog_6_method_2_code (1 : Nat) (Option.none : Option Jvm.ClassFile.FieldType)) ∈ gw := lw_m1 206 rfl
set_option maxRecDepth 100000 in
theorem tb208 : (Jvm.Cond.instanceMethod ({ cls := "StairGang$Town", name := "close", desc := "()V" } : Jvm.MethodName)) ∈ gw := lw_m1 208 rfl
set_option maxRecDepth 100000 in
theorem tb209 : (Jvm.Cond.selects "StairGang$Town" ({ cls := "StairGang$Town", name := "close", desc := "()V" } : Jvm.MethodName) ({ cls := "StairGang$Town", name := "close", desc := "()V" } : Jvm.MethodName)) ∈ gw := lw_m1 209 rfl
set_option maxRecDepth 100000 in
theorem tb210 : (Jvm.Cond.code ({ cls := "StairGang$Town", name := "close", desc := "()V" } : Jvm.MethodName) prog_10_method_3_code (2 : Nat) (Option.none : Option Jvm.ClassFile.FieldType)) ∈ gw := lw_m1 210 rfl
set_option maxRecDepth 100000 in
theorem tb211 : (Jvm.Cond.methodLink "StairGang$Town" (75 : Nat) ({ cls := "StairGang$Price", name := "isTold", desc := "()Z" } : Jvm.MethodName)) ∈ gw := lw_m1 211 rfl
set_option maxRecDepth 100000 in
theorem tb212 : (Jvm.Cond.instanceMethod ({ cls := "StairGang$Price", name := "isTold", desc := "()Z" } : Jvm.MethodName)) ∈ gw := lw_m1 212 rfl
set_option maxRecDepth 100000 in
theorem tb213 : (Jvm.Cond.selects "StairGang$Price" ({ cls := "StairGang$Price", name := "isTold", desc := "()Z" } : Jvm.MethodName) ({ cls := "StairGang$Price", name := "isTold", desc := "()Z" } : Jvm.MethodName)) ∈ gw := lw_m1 213 rfl
set_option maxRecDepth 100000 in
theorem tb214 : (Jvm.Cond.code ({ cls := "StairGang$Price", name := "isTold", desc := "()Z" } : Jvm.MethodName) prog_6_method_3_code (1 : Nat) (Option.some Jvm.ClassFile.FieldType.boolean)) ∈ gw := lw_m1 214 rfl
set_option maxRecDepth 100000 in
theorem tb215 : (Jvm.Cond.methodLink "StairGang$Town" (79 : Nat) ({ cls := "StairGang$Price", name := "beHigh", desc := "()V" } : Jvm.MethodName)) ∈ gw := lw_m1 215 rfl
set_option maxRecDepth 100000 in
theorem tb216 : (Jvm.Cond.instanceMethod ({ cls := "StairGang$Price", name := "beHigh", desc := "()V" } : Jvm.MethodName)) ∈ gw := lw_m1 216 rfl
set_option maxRecDepth 100000 in
theorem tb217 : (Jvm.Cond.selects "StairGang$Price" ({ cls := "StairGang$Price", name := "beHigh", desc := "()V" } : Jvm.MethodName) ({ cls := "StairGang$Price", name := "beHigh", desc := "()V" } : Jvm.MethodName)) ∈ gw := lw_m1 217 rfl
set_option maxRecDepth 100000 in
theorem tb218 : (Jvm.Cond.code ({ cls := "StairGang$Price", name := "beHigh", desc := "()V" } : Jvm.MethodName) prog_6_method_4_code (1 : Nat) (Option.none : Option Jvm.ClassFile.FieldType)) ∈ gw := lw_m1 218 rfl
set_option maxRecDepth 100000 in
theorem tb219 : (Jvm.Cond.methodLink "StairGang$Price" (22 : Nat) ({ cls := "StairGang$Price", name := "add", desc := "(I)V" } : Jvm.MethodName)) ∈ gw := lw_m1 219 rfl
set_option maxRecDepth 100000 in
theorem tb221 : (Jvm.Cond.instanceMethod ({ cls := "StairGang$Price", name := "add", desc := "(I)V" } : Jvm.MethodName)) ∈ gw := lw_m1 221 rfl
set_option maxRecDepth 100000 in
theorem tb222 : (Jvm.Cond.code ({ cls := "StairGang$Price", name := "add", desc := "(I)V" } : Jvm.MethodName) prog_6_method_5_code (2 : Nat) (Option.none : Option Jvm.ClassFile.FieldType)) ∈ gw := lw_m1 222 rfl
set_option maxRecDepth 100000 in
theorem tb223 : (Jvm.Cond.methodLink "StairGang$Town" (82 : Nat) ({ cls := "StairGang$Town", name := "findAbove", desc := "(I)I" } : Jvm.MethodName)) ∈ gw := lw_m1 223 rfl
set_option maxRecDepth 100000 in
theorem tb225 : (Jvm.Cond.instanceMethod ({ cls := "StairGang$Town", name := "findAbove", desc := "(I)I" } : Jvm.MethodName)) ∈ gw := lw_m1 225 rfl
set_option maxRecDepth 100000 in
theorem tb226 : (Jvm.Cond.code ({ cls := "StairGang$Town", name := "findAbove", desc := "(I)I" } : Jvm.MethodName) prog_10_method_4_code (5 : Nat) (Option.some Jvm.ClassFile.FieldType.int)) ∈ gw := lw_m1 226 rfl
set_option maxRecDepth 100000 in
theorem tb227 : (Jvm.Cond.fieldLink "StairGang$Town" (13 : Nat) "StairGang$Town" "counts" "[I") ∈ gw := lw_m1 227 rfl
set_option maxRecDepth 100000 in
theorem tb228 : (Jvm.Cond.fieldLink "StairGang$Orders" (29 : Nat) "StairGang$Town" "counts" "[I") ∈ gw := lw_m1 228 rfl
set_option maxRecDepth 100000 in
theorem tb229 : (Jvm.Cond.fieldLink "StairGang$Chances" (20 : Nat) "StairGang$Town" "counts" "[I") ∈ gw := lw_m1 229 rfl
set_option maxRecDepth 100000 in
theorem tb230 : (Jvm.Cond.fieldLink "StairGang$State" (56 : Nat) "StairGang$Town" "counts" "[I") ∈ gw := lw_m1 230 rfl
set_option maxRecDepth 100000 in
theorem tb231 : (Jvm.Cond.fieldLink "StairGang" (261 : Nat) "StairGang$Town" "counts" "[I") ∈ gw := lw_m1 231 rfl
set_option maxRecDepth 100000 in
theorem tb232 : (Jvm.Cond.fieldLink "StairGang$Town" (20 : Nat) "StairGang$Town" "flights" "[[I") ∈ gw := lw_m1 232 rfl
set_option maxRecDepth 100000 in
theorem tb233 : (Jvm.Cond.fieldLink "StairGang$Chances" (25 : Nat) "StairGang$Town" "flights" "[[I") ∈ gw := lw_m1 233 rfl
set_option maxRecDepth 100000 in
theorem tb234 : (Jvm.Cond.fieldLink "StairGang$Orders" (44 : Nat) "StairGang$Town" "flights" "[[I") ∈ gw := lw_m1 234 rfl
set_option maxRecDepth 100000 in
theorem tb235 : (Jvm.Cond.fieldLink "StairGang$State" (67 : Nat) "StairGang$Town" "flights" "[[I") ∈ gw := lw_m1 235 rfl
set_option maxRecDepth 100000 in
theorem tb236 : (Jvm.Cond.fieldLink "StairGang" (136 : Nat) "StairGang$Town" "flights" "[[I") ∈ gw := lw_m1 236 rfl
set_option maxRecDepth 100000 in
theorem tb238 : (Jvm.Cond.fieldLink "StairGang$State" (34 : Nat) "StairGang$Town" "things" "[[I") ∈ gw := lw_m1 238 rfl
set_option maxRecDepth 100000 in
theorem tb239 : (Jvm.Cond.fieldLink "StairGang$TownReader" (152 : Nat) "StairGang$Town" "things" "[[I") ∈ gw := lw_m1 239 rfl
set_option maxRecDepth 100000 in
theorem tb241 : (Jvm.Cond.fieldLink "StairGang$State" (31 : Nat) "StairGang$Town" "people" "[[I") ∈ gw := lw_m2 1 rfl
set_option maxRecDepth 100000 in
theorem tb242 : (Jvm.Cond.fieldLink "StairGang" (143 : Nat) "StairGang$Town" "people" "[[I") ∈ gw := lw_m2 2 rfl
set_option maxRecDepth 100000 in
theorem tb243 : (Jvm.Cond.fieldLink "StairGang$TownReader" (156 : Nat) "StairGang$Town" "people" "[[I") ∈ gw := lw_m2 3 rfl
set_option maxRecDepth 100000 in
theorem tb244 : (Jvm.Cond.fieldLink "StairGang$Town" (29 : Nat) "StairGang$Town" "hills" "[[I") ∈ gw := lw_m2 4 rfl
set_option maxRecDepth 100000 in
theorem tb245 : (Jvm.Cond.fieldLink "StairGang$Orders" (48 : Nat) "StairGang$Town" "hills" "[[I") ∈ gw := lw_m2 5 rfl
set_option maxRecDepth 100000 in
theorem tb246 : (Jvm.Cond.fieldLink "StairGang$TownReader" (159 : Nat) "StairGang$Town" "hills" "[[I") ∈ gw := lw_m2 6 rfl
set_option maxRecDepth 100000 in
theorem tb247 : (Jvm.Cond.fieldLink "StairGang$Town" (67 : Nat) "StairGang$Town" "heap" "I") ∈ gw := lw_m2 7 rfl
set_option maxRecDepth 100000 in
theorem tb248 : (Jvm.Cond.fieldLink "StairGang$State" (36 : Nat) "StairGang$Town" "heap" "I") ∈ gw := lw_m2 8 rfl
set_option maxRecDepth 100000 in
theorem tb249 : (Jvm.Cond.fieldLink "StairGang$TownReader" (49 : Nat) "StairGang$Town" "heap" "I") ∈ gw := lw_m2 9 rfl
set_option maxRecDepth 100000 in
theorem tb250 : (Jvm.Cond.fieldLink "StairGang$Town" (71 : Nat) "StairGang$Town" "walk" "I") ∈ gw := lw_m2 10 rfl
set_option maxRecDepth 100000 in
theorem tb251 : (Jvm.Cond.fieldLink "StairGang$TownReader" (65 : Nat) "StairGang$Town" "walk" "I") ∈ gw := lw_m2 11 rfl
set_option maxRecDepth 100000 in
theorem tb252 : (Jvm.Cond.fieldLink "StairGang" (156 : Nat) "StairGang$Town" "walk" "I") ∈ gw := lw_m2 12 rfl
set_option maxRecDepth 100000 in
theorem tb253 : (Jvm.Cond.fieldLink "StairGang$Town" (35 : Nat) "StairGang$Town" "price" "LStairGang$Price;") ∈ gw := lw_m2 13 rfl
set_option maxRecDepth 100000 in
theorem tb254 : (Jvm.Cond.fieldLink "StairGang$TownReader" (68 : Nat) "StairGang$Town" "price" "LStairGang$Price;") ∈ gw := lw_m2 14 rfl
set_option maxRecDepth 100000 in
theorem tb255 : (Jvm.Cond.fieldLink "StairGang$State" (89 : Nat) "StairGang$Town" "price" "LStairGang$Price;") ∈ gw := lw_m2 15 rfl
set_option maxRecDepth 100000 in
theorem tb256 : (Jvm.Cond.fieldLink "StairGang$Town" (39 : Nat) "StairGang$Town" "names" "[J") ∈ gw := lw_m2 16 rfl
set_option maxRecDepth 100000 in
theorem tb257 : (Jvm.Cond.fieldLink "StairGang$Town" (43 : Nat) "StairGang$Town" "floors" "[I") ∈ gw := lw_m2 17 rfl
set_option maxRecDepth 100000 in
theorem tb258 : (Jvm.Cond.fieldLink "StairGang$Town" (46 : Nat) "StairGang$Town" "flightUp" "[I") ∈ gw := lw_m2 18 rfl
set_option maxRecDepth 100000 in
theorem tb259 : (Jvm.Cond.fieldLink "StairGang$Town" (49 : Nat) "StairGang$Town" "above" "[I") ∈ gw := lw_m2 19 rfl
set_option maxRecDepth 100000 in
theorem tb292 : (Jvm.Cond.fieldLink "StairGang$State" (27 : Nat) "StairGang$State" "there" "I") ∈ gw := lw_m2 52 rfl
set_option maxRecDepth 100000 in
theorem tb293 : (Jvm.Cond.fieldLink "StairGang" (133 : Nat) "StairGang$State" "there" "I") ∈ gw := lw_m2 53 rfl
set_option maxRecDepth 100000 in
theorem tb294 : (Jvm.Cond.fieldLink "StairGang$State" (13 : Nat) "StairGang$State" "people" "[I") ∈ gw := lw_m2 54 rfl
set_option maxRecDepth 100000 in
theorem tb295 : (Jvm.Cond.fieldLink "StairGang" (140 : Nat) "StairGang$State" "people" "[I") ∈ gw := lw_m2 55 rfl
set_option maxRecDepth 100000 in
theorem tb296 : (Jvm.Cond.fieldLink "StairGang$State" (18 : Nat) "StairGang$State" "things" "[I") ∈ gw := lw_m2 56 rfl
set_option maxRecDepth 100000 in
theorem tb297 : (Jvm.Cond.fieldLink "StairGang" (145 : Nat) "StairGang$State" "things" "[I") ∈ gw := lw_m2 57 rfl
set_option maxRecDepth 100000 in
theorem tb298 : (Jvm.Cond.fieldLink "StairGang$State" (39 : Nat) "StairGang$State" "heap" "I") ∈ gw := lw_m2 58 rfl
set_option maxRecDepth 100000 in
theorem tb299 : (Jvm.Cond.fieldLink "StairGang" (216 : Nat) "StairGang$State" "heap" "I") ∈ gw := lw_m2 59 rfl
set_option maxRecDepth 100000 in
theorem tb300 : (Jvm.Cond.fieldLink "StairGang$State" (40 : Nat) "StairGang$State" "nights" "I") ∈ gw := lw_m2 60 rfl
set_option maxRecDepth 100000 in
theorem tb301 : (Jvm.Cond.fieldLink "StairGang" (191 : Nat) "StairGang$State" "nights" "I") ∈ gw := lw_m2 61 rfl
set_option maxRecDepth 100000 in
theorem tb302 : (Jvm.Cond.fieldLink "StairGang$State" (43 : Nat) "StairGang$State" "sold" "I") ∈ gw := lw_m2 62 rfl
set_option maxRecDepth 100000 in
theorem tb303 : (Jvm.Cond.fieldLink "StairGang" (206 : Nat) "StairGang$State" "sold" "I") ∈ gw := lw_m2 63 rfl
set_option maxRecDepth 100000 in
theorem tb323 : (Jvm.Cond.fieldLink "StairGang$Said" (9 : Nat) "StairGang$Said" "lines" "[I") ∈ gw := lw_m2 83 rfl
set_option maxRecDepth 100000 in
theorem tb324 : (Jvm.Cond.fieldLink "StairGang" (201 : Nat) "StairGang$Said" "lines" "[I") ∈ gw := lw_m2 84 rfl
set_option maxRecDepth 100000 in
theorem tb325 : (Jvm.Cond.fieldLink "StairGang$Said" (18 : Nat) "StairGang$Said" "lineCount" "I") ∈ gw := lw_m2 85 rfl
set_option maxRecDepth 100000 in
theorem tb326 : (Jvm.Cond.fieldLink "StairGang" (198 : Nat) "StairGang$Said" "lineCount" "I") ∈ gw := lw_m2 86 rfl
set_option maxRecDepth 100000 in
theorem tb327 : (Jvm.Cond.fieldLink "StairGang$Said" (22 : Nat) "StairGang$Said" "seenCount" "I") ∈ gw := lw_m2 87 rfl
set_option maxRecDepth 100000 in
theorem tb328 : (Jvm.Cond.fieldLink "StairGang" (304 : Nat) "StairGang$Said" "seenCount" "I") ∈ gw := lw_m2 88 rfl
set_option maxRecDepth 100000 in
theorem tb329 : (Jvm.Cond.fieldLink "StairGang$Said" (15 : Nat) "StairGang$Said" "seenLacks" "[I") ∈ gw := lw_m2 89 rfl
set_option maxRecDepth 100000 in
theorem tb330 : (Jvm.Cond.fieldLink "StairGang$Said" (25 : Nat) "StairGang$Said" "seenCame" "I") ∈ gw := lw_m2 90 rfl
set_option maxRecDepth 100000 in
theorem tb351 : (Jvm.Cond.fieldLink "StairGang$History" (16 : Nat) "StairGang$History" "count" "I") ∈ gw := lw_m2 111 rfl
set_option maxRecDepth 100000 in
theorem tb352 : (Jvm.Cond.fieldLink "StairGang" (307 : Nat) "StairGang$History" "count" "I") ∈ gw := lw_m2 112 rfl
set_option maxRecDepth 100000 in
theorem tb353 : (Jvm.Cond.fieldLink "StairGang$History" (20 : Nat) "StairGang$History" "next" "I") ∈ gw := lw_m2 113 rfl
set_option maxRecDepth 100000 in
theorem tb354 : (Jvm.Cond.fieldLink "StairGang$History" (11 : Nat) "StairGang$History" "states" "[LStairGang$State;") ∈ gw := lw_m2 114 rfl
set_option maxRecDepth 100000 in
theorem tb363 : (Jvm.Cond.fieldLink "StairGang" (74 : Nat) "StairGang" "MOST" "[I") ∈ gw := lw_m2 123 rfl
set_option maxRecDepth 100000 in
theorem tb370 : (Jvm.Cond.fieldLink "StairGang$Orders" (25 : Nat) "StairGang$Orders" "count" "I") ∈ gw := lw_m2 130 rfl
set_option maxRecDepth 100000 in
theorem tb371 : (Jvm.Cond.fieldLink "StairGang" (245 : Nat) "StairGang$Orders" "count" "I") ∈ gw := lw_m2 131 rfl
set_option maxRecDepth 100000 in
theorem tb372 : (Jvm.Cond.fieldLink "StairGang$Orders" (11 : Nat) "StairGang$Orders" "packed" "[I") ∈ gw := lw_m2 132 rfl
set_option maxRecDepth 100000 in
theorem tb373 : (Jvm.Cond.fieldLink "StairGang$Orders" (15 : Nat) "StairGang$Orders" "rises" "[I") ∈ gw := lw_m2 133 rfl
set_option maxRecDepth 100000 in
theorem tb374 : (Jvm.Cond.fieldLink "StairGang$Orders" (18 : Nat) "StairGang$Orders" "weights" "[I") ∈ gw := lw_m2 134 rfl
set_option maxRecDepth 100000 in
theorem tb375 : (Jvm.Cond.fieldLink "StairGang$Orders" (21 : Nat) "StairGang$Orders" "best" "[J") ∈ gw := lw_m2 135 rfl
set_option maxRecDepth 100000 in
theorem tb393 : (Jvm.Cond.fieldLink "StairGang$Chances" (11 : Nat) "StairGang$Chances" "sums" "[I") ∈ gw := lw_m2 153 rfl
set_option maxRecDepth 100000 in
theorem tb394 : (Jvm.Cond.fieldLink "StairGang$Chances" (15 : Nat) "StairGang$Chances" "able" "I") ∈ gw := lw_m2 154 rfl
set_option maxRecDepth 100000 in
theorem tb400 : (Jvm.Cond.fieldLink "StairGang" (10 : Nat) "StairGang" "tokens" "LStairGang$Tokens;") ∈ gw := lw_m2 160 rfl
set_option maxRecDepth 100000 in
theorem tb401 : (Jvm.Cond.fieldLink "StairGang" (21 : Nat) "StairGang" "townReader" "LStairGang$TownReader;") ∈ gw := lw_m2 161 rfl
set_option maxRecDepth 100000 in
theorem tb402 : (Jvm.Cond.fieldLink "StairGang" (28 : Nat) "StairGang" "nightsReader" "LStairGang$NightsReader;") ∈ gw := lw_m2 162 rfl
set_option maxRecDepth 100000 in
theorem tb403 : (Jvm.Cond.fieldLink "StairGang" (35 : Nat) "StairGang" "told" "LStairGang$Town;") ∈ gw := lw_m2 163 rfl
set_option maxRecDepth 100000 in
theorem tb404 : (Jvm.Cond.fieldLink "StairGang" (39 : Nat) "StairGang" "draft" "LStairGang$Town;") ∈ gw := lw_m2 164 rfl
set_option maxRecDepth 100000 in
theorem tb405 : (Jvm.Cond.fieldLink "StairGang" (45 : Nat) "StairGang" "now" "LStairGang$State;") ∈ gw := lw_m2 165 rfl
set_option maxRecDepth 100000 in
theorem tb406 : (Jvm.Cond.fieldLink "StairGang" (49 : Nat) "StairGang" "trial" "LStairGang$State;") ∈ gw := lw_m2 166 rfl
set_option maxRecDepth 100000 in
theorem tb407 : (Jvm.Cond.fieldLink "StairGang" (55 : Nat) "StairGang" "said" "LStairGang$Said;") ∈ gw := lw_m2 167 rfl
set_option maxRecDepth 100000 in
theorem tb408 : (Jvm.Cond.fieldLink "StairGang" (62 : Nat) "StairGang" "history" "LStairGang$History;") ∈ gw := lw_m2 168 rfl
set_option maxRecDepth 100000 in
theorem tb409 : (Jvm.Cond.fieldLink "StairGang" (66 : Nat) "StairGang" "markStates" "[LStairGang$State;") ∈ gw := lw_m2 169 rfl
set_option maxRecDepth 100000 in
theorem tb410 : (Jvm.Cond.fieldLink "StairGang" (70 : Nat) "StairGang" "markSaid" "[LStairGang$Said;") ∈ gw := lw_m2 170 rfl
set_option maxRecDepth 100000 in
theorem tb411 : (Jvm.Cond.fieldLink "StairGang" (115 : Nat) "StairGang" "marksLaid" "I") ∈ gw := lw_m2 171 rfl
set_option maxRecDepth 100000 in
theorem tb412 : (Jvm.Cond.fieldLink "StairGang" (78 : Nat) "StairGang" "lacks" "[I") ∈ gw := lw_m2 172 rfl
set_option maxRecDepth 100000 in
theorem tb413 : (Jvm.Cond.fieldLink "StairGang" (84 : Nat) "StairGang" "packing" "LStairGang$Orders;") ∈ gw := lw_m2 173 rfl
set_option maxRecDepth 100000 in
theorem tb414 : (Jvm.Cond.fieldLink "StairGang" (91 : Nat) "StairGang" "chances" "LStairGang$Chances;") ∈ gw := lw_m2 174 rfl
set_option maxRecDepth 100000 in
theorem tb415 : (Jvm.Cond.fieldLink "StairGang" (294 : Nat) "StairGang" "drawn" "J") ∈ gw := lw_m2 175 rfl
set_option maxRecDepth 100000 in
theorem tb450 : (Jvm.Cond.instanceMethod ({ cls := "StairGang", name := "feed", desc := "(JJJ)I" } : Jvm.MethodName)) ∈ gw := lw_m2 210 rfl
set_option maxRecDepth 100000 in
theorem tb451 : (Jvm.Cond.selects "StairGang" ({ cls := "StairGang", name := "feed", desc := "(JJJ)I" } : Jvm.MethodName) ({ cls := "StairGang", name := "feed", desc := "(JJJ)I" } : Jvm.MethodName)) ∈ gw := lw_m2 211 rfl
set_option maxRecDepth 100000 in
theorem tb452 : (Jvm.Cond.code ({ cls := "StairGang", name := "feed", desc := "(JJJ)I" } : Jvm.MethodName) prog_1_method_2_code (7 : Nat) (Option.some Jvm.ClassFile.FieldType.int)) ∈ gw := lw_m2 212 rfl
set_option maxRecDepth 100000 in
theorem tb453 : (Jvm.Cond.methodLink "StairGang" (95 : Nat) ({ cls := "StairGang$Tokens", name := "feedEight", desc := "(J)V" } : Jvm.MethodName)) ∈ gw := lw_m2 213 rfl
set_option maxRecDepth 100000 in
theorem tb454 : (Jvm.Cond.instanceMethod ({ cls := "StairGang$Tokens", name := "feedEight", desc := "(J)V" } : Jvm.MethodName)) ∈ gw := lw_m2 214 rfl
set_option maxRecDepth 100000 in
theorem tb455 : (Jvm.Cond.selects "StairGang$Tokens" ({ cls := "StairGang$Tokens", name := "feedEight", desc := "(J)V" } : Jvm.MethodName) ({ cls := "StairGang$Tokens", name := "feedEight", desc := "(J)V" } : Jvm.MethodName)) ∈ gw := lw_m2 215 rfl
set_option maxRecDepth 100000 in
theorem tb456 : (Jvm.Cond.code ({ cls := "StairGang$Tokens", name := "feedEight", desc := "(J)V" } : Jvm.MethodName) prog_9_method_6_code (6 : Nat) (Option.none : Option Jvm.ClassFile.FieldType)) ∈ gw := lw_m2 216 rfl
set_option maxRecDepth 100000 in
theorem tb457 : (Jvm.Cond.constantLong "StairGang$Tokens" (47 : Nat) (255 : Int64)) ∈ gw := lw_m2 217 rfl
set_option maxRecDepth 100000 in
theorem tb459 : (Jvm.Cond.instanceMethod ({ cls := "StairGang", name := "town", desc := "()I" } : Jvm.MethodName)) ∈ gw := lw_m2 219 rfl
set_option maxRecDepth 100000 in
theorem tb460 : (Jvm.Cond.selects "StairGang" ({ cls := "StairGang", name := "town", desc := "()I" } : Jvm.MethodName) ({ cls := "StairGang", name := "town", desc := "()I" } : Jvm.MethodName)) ∈ gw := lw_m2 220 rfl
set_option maxRecDepth 100000 in
theorem tb461 : (Jvm.Cond.code ({ cls := "StairGang", name := "town", desc := "()I" } : Jvm.MethodName) prog_1_method_3_code (3 : Nat) (Option.some Jvm.ClassFile.FieldType.int)) ∈ gw := lw_m2 221 rfl
set_option maxRecDepth 100000 in
theorem tb462 : (Jvm.Cond.methodLink "StairGang" (103 : Nat) ({ cls := "StairGang$TownReader", name := "read", desc := "(LStairGang$Town;)I" } : Jvm.MethodName)) ∈ gw := lw_m2 222 rfl
set_option maxRecDepth 100000 in
theorem tb463 : (Jvm.Cond.instanceMethod ({ cls := "StairGang$TownReader", name := "read", desc := "(LStairGang$Town;)I" } : Jvm.MethodName)) ∈ gw := lw_m2 223 rfl
set_option maxRecDepth 100000 in
theorem tb464 : (Jvm.Cond.selects "StairGang$TownReader" ({ cls := "StairGang$TownReader", name := "read", desc := "(LStairGang$Town;)I" } : Jvm.MethodName) ({ cls := "StairGang$TownReader", name := "read", desc := "(LStairGang$Town;)I" } : Jvm.MethodName)) ∈ gw := lw_m2 224 rfl
set_option maxRecDepth 100000 in
theorem tb465 : (Jvm.Cond.code ({ cls := "StairGang$TownReader", name := "read", desc := "(LStairGang$Town;)I" } : Jvm.MethodName) prog_11_method_2_code (3 : Nat) (Option.some Jvm.ClassFile.FieldType.int)) ∈ gw := lw_m2 225 rfl
set_option maxRecDepth 100000 in
theorem tb466 : (Jvm.Cond.methodLink "StairGang$TownReader" (15 : Nat) ({ cls := "StairGang$Town", name := "clear", desc := "()V" } : Jvm.MethodName)) ∈ gw := lw_m2 226 rfl
set_option maxRecDepth 100000 in
theorem tb467 : (Jvm.Cond.methodLink "StairGang$TownReader" (20 : Nat) ({ cls := "StairGang$Tokens", name := "begin", desc := "()V" } : Jvm.MethodName)) ∈ gw := lw_m2 227 rfl
set_option maxRecDepth 100000 in
theorem tb468 : (Jvm.Cond.instanceMethod ({ cls := "StairGang$Tokens", name := "begin", desc := "()V" } : Jvm.MethodName)) ∈ gw := lw_m2 228 rfl
set_option maxRecDepth 100000 in
theorem tb469 : (Jvm.Cond.selects "StairGang$Tokens" ({ cls := "StairGang$Tokens", name := "begin", desc := "()V" } : Jvm.MethodName) ({ cls := "StairGang$Tokens", name := "begin", desc := "()V" } : Jvm.MethodName)) ∈ gw := lw_m2 229 rfl
set_option maxRecDepth 100000 in
theorem tb470 : (Jvm.Cond.code ({ cls := "StairGang$Tokens", name := "begin", desc := "()V" } : Jvm.MethodName) prog_9_method_7_code (1 : Nat) (Option.none : Option Jvm.ClassFile.FieldType)) ∈ gw := lw_m2 230 rfl
set_option maxRecDepth 100000 in
theorem tb471 : (Jvm.Cond.methodLink "StairGang$Tokens" (58 : Nat) ({ cls := "StairGang$Tokens", name := "next", desc := "()V" } : Jvm.MethodName)) ∈ gw := lw_m2 231 rfl
set_option maxRecDepth 100000 in
theorem tb472 : (Jvm.Cond.instanceMethod ({ cls := "StairGang$Tokens", name := "next", desc := "()V" } : Jvm.MethodName)) ∈ gw := lw_m2 232 rfl
set_option maxRecDepth 100000 in
theorem tb473 : (Jvm.Cond.selects "StairGang$Tokens" ({ cls := "StairGang$Tokens", name := "next", desc := "()V" } : Jvm.MethodName) ({ cls := "StairGang$Tokens", name := "next", desc := "()V" } : Jvm.MethodName)) ∈ gw := lw_m2 233 rfl
set_option maxRecDepth 100000 in
theorem tb474 : (Jvm.Cond.code ({ cls := "StairGang$Tokens", name := "next", desc := "()V" } : Jvm.MethodName) prog_9_method_10_code (1 : Nat) (Option.none : Option Jvm.ClassFile.FieldType)) ∈ gw := lw_m2 234 rfl
set_option maxRecDepth 100000 in
theorem tb475 : (Jvm.Cond.methodLink "StairGang$Tokens" (67 : Nat) ({ cls := "StairGang$Tokens", name := "cutWord", desc := "()V" } : Jvm.MethodName)) ∈ gw := lw_m2 235 rfl
set_option maxRecDepth 100000 in
theorem tb477 : (Jvm.Cond.instanceMethod ({ cls := "StairGang$Tokens", name := "cutWord", desc := "()V" } : Jvm.MethodName)) ∈ gw := lw_m2 237 rfl
set_option maxRecDepth 100000 in
theorem tb478 : (Jvm.Cond.code ({ cls := "StairGang$Tokens", name := "cutWord", desc := "()V" } : Jvm.MethodName) prog_9_method_11_code (2 : Nat) (Option.none : Option Jvm.ClassFile.FieldType)) ∈ gw := lw_m2 238 rfl
set_option maxRecDepth 100000 in
theorem tb479 : (Jvm.Cond.methodLink "StairGang$Tokens" (70 : Nat) ({ cls := "StairGang$Tokens", name := "isDigit", desc := "(C)Z" } : Jvm.MethodName)) ∈ gw := lw_m2 239 rfl
set_option maxRecDepth 100000 in
theorem tb480 : (Jvm.Cond.static ({ cls := "StairGang$Tokens", name := "isDigit", desc := "(C)Z" } : Jvm.MethodName)) ∈ gw := lw_m3 0 rfl
set_option maxRecDepth 100000 in
theorem tb481 : (Jvm.Cond.code ({ cls := "StairGang$Tokens", name := "isDigit", desc := "(C)Z" } : Jvm.MethodName) prog_9_method_5_code (1 : Nat) (Option.some Jvm.ClassFile.FieldType.boolean)) ∈ gw := lw_m3 1 rfl
set_option maxRecDepth 100000 in
theorem tb482 : (Jvm.Cond.methodLink "StairGang$Tokens" (73 : Nat) ({ cls := "StairGang$Tokens", name := "cutNumber", desc := "()V" } : Jvm.MethodName)) ∈ gw := lw_m3 2 rfl
set_option maxRecDepth 100000 in
theorem tb484 : (Jvm.Cond.instanceMethod ({ cls := "StairGang$Tokens", name := "cutNumber", desc := "()V" } : Jvm.MethodName)) ∈ gw := lw_m3 4 rfl
set_option maxRecDepth 100000 in
theorem tb485 : (Jvm.Cond.code ({ cls := "StairGang$Tokens", name := "cutNumber", desc := "()V" } : Jvm.MethodName) prog_9_method_12_code (1 : Nat) (Option.none : Option Jvm.ClassFile.FieldType)) ∈ gw := lw_m3 5 rfl
set_option maxRecDepth 100000 in
theorem tb546 : (Jvm.Cond.methodLink "StairGang$TownReader" (25 : Nat) ({ cls := "StairGang$Tokens", name := "hasMore", desc := "()Z" } : Jvm.MethodName)) ∈ gw := lw_m3 66 rfl
set_option maxRecDepth 100000 in
theorem tb547 : (Jvm.Cond.instanceMethod ({ cls := "StairGang$Tokens", name := "hasMore", desc := "()Z" } : Jvm.MethodName)) ∈ gw := lw_m3 67 rfl
set_option maxRecDepth 100000 in
theorem tb548 : (Jvm.Cond.selects "StairGang$Tokens" ({ cls := "StairGang$Tokens", name := "hasMore", desc := "()Z" } : Jvm.MethodName) ({ cls := "StairGang$Tokens", name := "hasMore", desc := "()Z" } : Jvm.MethodName)) ∈ gw := lw_m3 68 rfl
set_option maxRecDepth 100000 in
theorem tb549 : (Jvm.Cond.code ({ cls := "StairGang$Tokens", name := "hasMore", desc := "()Z" } : Jvm.MethodName) prog_9_method_8_code (1 : Nat) (Option.some Jvm.ClassFile.FieldType.boolean)) ∈ gw := lw_m3 69 rfl
set_option maxRecDepth 100000 in
theorem tb550 : (Jvm.Cond.methodLink "StairGang$TownReader" (29 : Nat) ({ cls := "StairGang$Tokens", name := "keyHere", desc := "()I" } : Jvm.MethodName)) ∈ gw := lw_m3 70 rfl
set_option maxRecDepth 100000 in
theorem tb551 : (Jvm.Cond.instanceMethod ({ cls := "StairGang$Tokens", name := "keyHere", desc := "()I" } : Jvm.MethodName)) ∈ gw := lw_m3 71 rfl
set_option maxRecDepth 100000 in
theorem tb552 : (Jvm.Cond.selects "StairGang$Tokens" ({ cls := "StairGang$Tokens", name := "keyHere", desc := "()I" } : Jvm.MethodName) ({ cls := "StairGang$Tokens", name := "keyHere", desc := "()I" } : Jvm.MethodName)) ∈ gw := lw_m3 72 rfl
set_option maxRecDepth 100000 in
theorem tb553 : (Jvm.Cond.code ({ cls := "StairGang$Tokens", name := "keyHere", desc := "()I" } : Jvm.MethodName) prog_9_method_13_code (1 : Nat) (Option.some Jvm.ClassFile.FieldType.int)) ∈ gw := lw_m3 73 rfl
set_option maxRecDepth 100000 in
theorem tb554 : (Jvm.Cond.methodLink "StairGang$TownReader" (33 : Nat) ({ cls := "StairGang$TownReader", name := "readHouse", desc := "(LStairGang$Town;)V" } : Jvm.MethodName)) ∈ gw := lw_m3 74 rfl
set_option maxRecDepth 100000 in
theorem tb556 : (Jvm.Cond.instanceMethod ({ cls := "StairGang$TownReader", name := "readHouse", desc := "(LStairGang$Town;)V" } : Jvm.MethodName)) ∈ gw := lw_m3 76 rfl
set_option maxRecDepth 100000 in
theorem tb557 : (Jvm.Cond.code ({ cls := "StairGang$TownReader", name := "readHouse", desc := "(LStairGang$Town;)V" } : Jvm.MethodName) prog_11_method_7_code (5 : Nat) (Option.none : Option Jvm.ClassFile.FieldType)) ∈ gw := lw_m3 77 rfl
set_option maxRecDepth 100000 in
theorem tb558 : (Jvm.Cond.methodLink "StairGang$TownReader" (105 : Nat) ({ cls := "StairGang$TownReader", name := "takeFirst", desc := "(LStairGang$Town;I)V" } : Jvm.MethodName)) ∈ gw := lw_m3 78 rfl
set_option maxRecDepth 100000 in
theorem tb560 : (Jvm.Cond.instanceMethod ({ cls := "StairGang$TownReader", name := "takeFirst", desc := "(LStairGang$Town;I)V" } : Jvm.MethodName)) ∈ gw := lw_m3 80 rfl
set_option maxRecDepth 100000 in
theorem tb561 : (Jvm.Cond.code ({ cls := "StairGang$TownReader", name := "takeFirst", desc := "(LStairGang$Town;I)V" } : Jvm.MethodName) prog_11_method_3_code (3 : Nat) (Option.none : Option Jvm.ClassFile.FieldType)) ∈ gw := lw_m3 81 rfl
set_option maxRecDepth 100000 in
theorem tb562 : (Jvm.Cond.methodLink "StairGang$TownReader" (91 : Nat) ({ cls := "StairGang$Town", name := "isFull", desc := "(I)Z" } : Jvm.MethodName)) ∈ gw := lw_m3 82 rfl
set_option maxRecDepth 100000 in
theorem tb563 : (Jvm.Cond.instanceMethod ({ cls := "StairGang$Town", name := "isFull", desc := "(I)Z" } : Jvm.MethodName)) ∈ gw := lw_m3 83 rfl
set_option maxRecDepth 100000 in
theorem tb564 : (Jvm.Cond.selects "StairGang$Town" ({ cls := "StairGang$Town", name := "isFull", desc := "(I)Z" } : Jvm.MethodName) ({ cls := "StairGang$Town", name := "isFull", desc := "(I)Z" } : Jvm.MethodName)) ∈ gw := lw_m3 84 rfl
set_option maxRecDepth 100000 in
theorem tb565 : (Jvm.Cond.code ({ cls := "StairGang$Town", name := "isFull", desc := "(I)Z" } : Jvm.MethodName) prog_10_method_5_code (2 : Nat) (Option.some Jvm.ClassFile.FieldType.boolean)) ∈ gw := lw_m3 85 rfl
set_option maxRecDepth 100000 in
theorem tb566 : (Jvm.Cond.methodLink "StairGang$TownReader" (81 : Nat) ({ cls := "StairGang$Tokens", name := "fail", desc := "(I)V" } : Jvm.MethodName)) ∈ gw := lw_m3 86 rfl
set_option maxRecDepth 100000 in
theorem tb567 : (Jvm.Cond.instanceMethod ({ cls := "StairGang$Tokens", name := "fail", desc := "(I)V" } : Jvm.MethodName)) ∈ gw := lw_m3 87 rfl
set_option maxRecDepth 100000 in
theorem tb568 : (Jvm.Cond.selects "StairGang$Tokens" ({ cls := "StairGang$Tokens", name := "fail", desc := "(I)V" } : Jvm.MethodName) ({ cls := "StairGang$Tokens", name := "fail", desc := "(I)V" } : Jvm.MethodName)) ∈ gw := lw_m3 88 rfl
set_option maxRecDepth 100000 in
theorem tb569 : (Jvm.Cond.code ({ cls := "StairGang$Tokens", name := "fail", desc := "(I)V" } : Jvm.MethodName) prog_9_method_9_code (2 : Nat) (Option.none : Option Jvm.ClassFile.FieldType)) ∈ gw := lw_m3 89 rfl
set_option maxRecDepth 100000 in
theorem tb570 : (Jvm.Cond.methodLink "StairGang$TownReader" (95 : Nat) ({ cls := "StairGang$Tokens", name := "next", desc := "()V" } : Jvm.MethodName)) ∈ gw := lw_m3 90 rfl
set_option maxRecDepth 100000 in
theorem tb571 : (Jvm.Cond.methodLink "StairGang$TownReader" (109 : Nat) ({ cls := "StairGang$TownReader", name := "takeNewName", desc := "(LStairGang$Town;)J" } : Jvm.MethodName)) ∈ gw := lw_m3 91 rfl
set_option maxRecDepth 100000 in
theorem tb573 : (Jvm.Cond.instanceMethod ({ cls := "StairGang$TownReader", name := "takeNewName", desc := "(LStairGang$Town;)J" } : Jvm.MethodName)) ∈ gw := lw_m3 93 rfl
set_option maxRecDepth 100000 in
theorem tb574 : (Jvm.Cond.code ({ cls := "StairGang$TownReader", name := "takeNewName", desc := "(LStairGang$Town;)J" } : Jvm.MethodName) prog_11_method_5_code (4 : Nat) (Option.some Jvm.ClassFile.FieldType.long)) ∈ gw := lw_m3 94 rfl
set_option maxRecDepth 100000 in
theorem tb575 : (Jvm.Cond.methodLink "StairGang$TownReader" (98 : Nat) ({ cls := "StairGang$Tokens", name := "nameHere", desc := "()J" } : Jvm.MethodName)) ∈ gw := lw_m3 95 rfl
set_option maxRecDepth 100000 in
theorem tb576 : (Jvm.Cond.instanceMethod ({ cls := "StairGang$Tokens", name := "nameHere", desc := "()J" } : Jvm.MethodName)) ∈ gw := lw_m3 96 rfl
set_option maxRecDepth 100000 in
theorem tb577 : (Jvm.Cond.selects "StairGang$Tokens" ({ cls := "StairGang$Tokens", name := "nameHere", desc := "()J" } : Jvm.MethodName) ({ cls := "StairGang$Tokens", name := "nameHere", desc := "()J" } : Jvm.MethodName)) ∈ gw := lw_m3 97 rfl
set_option maxRecDepth 100000 in
theorem tb578 : (Jvm.Cond.code ({ cls := "StairGang$Tokens", name := "nameHere", desc := "()J" } : Jvm.MethodName) prog_9_method_21_code (1 : Nat) (Option.some Jvm.ClassFile.FieldType.long)) ∈ gw := lw_m3 98 rfl
set_option maxRecDepth 100000 in
theorem tb579 : (Jvm.Cond.methodLink "StairGang$Tokens" (99 : Nat) ({ cls := "StairGang$Tokens", name := "fail", desc := "(I)V" } : Jvm.MethodName)) ∈ gw := lw_m3 99 rfl
set_option maxRecDepth 100000 in
theorem tb580 : (Jvm.Cond.methodLink "StairGang$TownReader" (102 : Nat) ({ cls := "StairGang$Town", name := "isTold", desc := "(J)Z" } : Jvm.MethodName)) ∈ gw := lw_m3 100 rfl
set_option maxRecDepth 100000 in
theorem tb581 : (Jvm.Cond.instanceMethod ({ cls := "StairGang$Town", name := "isTold", desc := "(J)Z" } : Jvm.MethodName)) ∈ gw := lw_m3 101 rfl
set_option maxRecDepth 100000 in
theorem tb582 : (Jvm.Cond.selects "StairGang$Town" ({ cls := "StairGang$Town", name := "isTold", desc := "(J)Z" } : Jvm.MethodName) ({ cls := "StairGang$Town", name := "isTold", desc := "(J)Z" } : Jvm.MethodName)) ∈ gw := lw_m3 102 rfl
set_option maxRecDepth 100000 in
theorem tb583 : (Jvm.Cond.code ({ cls := "StairGang$Town", name := "isTold", desc := "(J)Z" } : Jvm.MethodName) prog_10_method_10_code (4 : Nat) (Option.some Jvm.ClassFile.FieldType.boolean)) ∈ gw := lw_m3 103 rfl
set_option maxRecDepth 100000 in
theorem tb584 : (Jvm.Cond.methodLink "StairGang$TownReader" (113 : Nat) ({ cls := "StairGang$Tokens", name := "takeWord", desc := "(I)V" } : Jvm.MethodName)) ∈ gw := lw_m3 104 rfl
set_option maxRecDepth 100000 in
theorem tb585 : (Jvm.Cond.instanceMethod ({ cls := "StairGang$Tokens", name := "takeWord", desc := "(I)V" } : Jvm.MethodName)) ∈ gw := lw_m3 105 rfl
set_option maxRecDepth 100000 in
theorem tb586 : (Jvm.Cond.selects "StairGang$Tokens" ({ cls := "StairGang$Tokens", name := "takeWord", desc := "(I)V" } : Jvm.MethodName) ({ cls := "StairGang$Tokens", name := "takeWord", desc := "(I)V" } : Jvm.MethodName)) ∈ gw := lw_m3 106 rfl
set_option maxRecDepth 100000 in
theorem tb587 : (Jvm.Cond.code ({ cls := "StairGang$Tokens", name := "takeWord", desc := "(I)V" } : Jvm.MethodName) prog_9_method_17_code (2 : Nat) (Option.none : Option Jvm.ClassFile.FieldType)) ∈ gw := lw_m3 107 rfl
set_option maxRecDepth 100000 in
theorem tb588 : (Jvm.Cond.methodLink "StairGang$Tokens" (95 : Nat) ({ cls := "StairGang$Tokens", name := "isWord", desc := "(I)Z" } : Jvm.MethodName)) ∈ gw := lw_m3 108 rfl
set_option maxRecDepth 100000 in
theorem tb589 : (Jvm.Cond.instanceMethod ({ cls := "StairGang$Tokens", name := "isWord", desc := "(I)Z" } : Jvm.MethodName)) ∈ gw := lw_m3 109 rfl
set_option maxRecDepth 100000 in
theorem tb590 : (Jvm.Cond.selects "StairGang$Tokens" ({ cls := "StairGang$Tokens", name := "isWord", desc := "(I)Z" } : Jvm.MethodName) ({ cls := "StairGang$Tokens", name := "isWord", desc := "(I)Z" } : Jvm.MethodName)) ∈ gw := lw_m3 110 rfl
set_option maxRecDepth 100000 in
theorem tb591 : (Jvm.Cond.code ({ cls := "StairGang$Tokens", name := "isWord", desc := "(I)Z" } : Jvm.MethodName) prog_9_method_14_code (2 : Nat) (Option.some Jvm.ClassFile.FieldType.boolean)) ∈ gw := lw_m3 111 rfl
set_option maxRecDepth 100000 in
theorem tb592 : (Jvm.Cond.methodLink "StairGang$Tokens" (92 : Nat) ({ cls := "StairGang$Tokens", name := "keyHere", desc := "()I" } : Jvm.MethodName)) ∈ gw := lw_m3 112 rfl
set_option maxRecDepth 100000 in
theorem tb593 : (Jvm.Cond.methodLink "StairGang$TownReader" (57 : Nat) ({ cls := "StairGang$Tokens", name := "takeNumber", desc := "(II)I" } : Jvm.MethodName)) ∈ gw := lw_m3 113 rfl
set_option maxRecDepth 100000 in
theorem tb594 : (Jvm.Cond.instanceMethod ({ cls := "StairGang$Tokens", name := "takeNumber", desc := "(II)I" } : Jvm.MethodName)) ∈ gw := lw_m3 114 rfl
set_option maxRecDepth 100000 in
theorem tb595 : (Jvm.Cond.selects "StairGang$Tokens" ({ cls := "StairGang$Tokens", name := "takeNumber", desc := "(II)I" } : Jvm.MethodName) ({ cls := "StairGang$Tokens", name := "takeNumber", desc := "(II)I" } : Jvm.MethodName)) ∈ gw := lw_m3 115 rfl
set_option maxRecDepth 100000 in
theorem tb596 : (Jvm.Cond.code ({ cls := "StairGang$Tokens", name := "takeNumber", desc := "(II)I" } : Jvm.MethodName) prog_9_method_20_code (4 : Nat) (Option.some Jvm.ClassFile.FieldType.int)) ∈ gw := lw_m3 116 rfl
set_option maxRecDepth 100000 in
theorem tb597 : (Jvm.Cond.methodLink "StairGang$Tokens" (110 : Nat) ({ cls := "StairGang$Tokens", name := "numberHere", desc := "()I" } : Jvm.MethodName)) ∈ gw := lw_m3 117 rfl
set_option maxRecDepth 100000 in
theorem tb598 : (Jvm.Cond.instanceMethod ({ cls := "StairGang$Tokens", name := "numberHere", desc := "()I" } : Jvm.MethodName)) ∈ gw := lw_m3 118 rfl
set_option maxRecDepth 100000 in
theorem tb599 : (Jvm.Cond.selects "StairGang$Tokens" ({ cls := "StairGang$Tokens", name := "numberHere", desc := "()I" } : Jvm.MethodName) ({ cls := "StairGang$Tokens", name := "numberHere", desc := "()I" } : Jvm.MethodName)) ∈ gw := lw_m3 119 rfl
set_option maxRecDepth 100000 in
theorem tb600 : (Jvm.Cond.code ({ cls := "StairGang$Tokens", name := "numberHere", desc := "()I" } : Jvm.MethodName) prog_9_method_19_code (1 : Nat) (Option.some Jvm.ClassFile.FieldType.int)) ∈ gw := lw_m3 120 rfl
set_option maxRecDepth 100000 in
theorem tb601 : (Jvm.Cond.methodLink "StairGang$Tokens" (106 : Nat) ({ cls := "StairGang$Tokens", name := "isNumber", desc := "()Z" } : Jvm.MethodName)) ∈ gw := lw_m3 121 rfl
set_option maxRecDepth 100000 in
theorem tb602 : (Jvm.Cond.instanceMethod ({ cls := "StairGang$Tokens", name := "isNumber", desc := "()Z" } : Jvm.MethodName)) ∈ gw := lw_m3 122 rfl
set_option maxRecDepth 100000 in
theorem tb603 : (Jvm.Cond.selects "StairGang$Tokens" ({ cls := "StairGang$Tokens", name := "isNumber", desc := "()Z" } : Jvm.MethodName) ({ cls := "StairGang$Tokens", name := "isNumber", desc := "()Z" } : Jvm.MethodName)) ∈ gw := lw_m3 123 rfl
set_option maxRecDepth 100000 in
theorem tb604 : (Jvm.Cond.code ({ cls := "StairGang$Tokens", name := "isNumber", desc := "()Z" } : Jvm.MethodName) prog_9_method_16_code (1 : Nat) (Option.some Jvm.ClassFile.FieldType.boolean)) ∈ gw := lw_m3 124 rfl
set_option maxRecDepth 100000 in
theorem tb605 : (Jvm.Cond.methodLink "StairGang$TownReader" (116 : Nat) ({ cls := "StairGang$TownReader", name := "lineEnds", desc := "()Z" } : Jvm.MethodName)) ∈ gw := lw_m3 125 rfl
set_option maxRecDepth 100000 in
theorem tb607 : (Jvm.Cond.instanceMethod ({ cls := "StairGang$TownReader", name := "lineEnds", desc := "()Z" } : Jvm.MethodName)) ∈ gw := lw_m3 127 rfl
set_option maxRecDepth 100000 in
theorem tb608 : (Jvm.Cond.code ({ cls := "StairGang$TownReader", name := "lineEnds", desc := "()Z" } : Jvm.MethodName) prog_11_method_6_code (1 : Nat) (Option.some Jvm.ClassFile.FieldType.boolean)) ∈ gw := lw_m3 128 rfl
set_option maxRecDepth 100000 in
theorem tb609 : (Jvm.Cond.methodLink "StairGang$TownReader" (61 : Nat) ({ cls := "StairGang$Tokens", name := "takeSign", desc := "(C)V" } : Jvm.MethodName)) ∈ gw := lw_m3 129 rfl
set_option maxRecDepth 100000 in
theorem tb610 : (Jvm.Cond.instanceMethod ({ cls := "StairGang$Tokens", name := "takeSign", desc := "(C)V" } : Jvm.MethodName)) ∈ gw := lw_m3 130 rfl
set_option maxRecDepth 100000 in
theorem tb611 : (Jvm.Cond.selects "StairGang$Tokens" ({ cls := "StairGang$Tokens", name := "takeSign", desc := "(C)V" } : Jvm.MethodName) ({ cls := "StairGang$Tokens", name := "takeSign", desc := "(C)V" } : Jvm.MethodName)) ∈ gw := lw_m3 131 rfl
set_option maxRecDepth 100000 in
theorem tb612 : (Jvm.Cond.code ({ cls := "StairGang$Tokens", name := "takeSign", desc := "(C)V" } : Jvm.MethodName) prog_9_method_18_code (2 : Nat) (Option.none : Option Jvm.ClassFile.FieldType)) ∈ gw := lw_m3 132 rfl
set_option maxRecDepth 100000 in
theorem tb613 : (Jvm.Cond.methodLink "StairGang$Tokens" (103 : Nat) ({ cls := "StairGang$Tokens", name := "isSign", desc := "(C)Z" } : Jvm.MethodName)) ∈ gw := lw_m3 133 rfl
set_option maxRecDepth 100000 in
theorem tb614 : (Jvm.Cond.instanceMethod ({ cls := "StairGang$Tokens", name := "isSign", desc := "(C)Z" } : Jvm.MethodName)) ∈ gw := lw_m3 134 rfl
set_option maxRecDepth 100000 in
theorem tb615 : (Jvm.Cond.selects "StairGang$Tokens" ({ cls := "StairGang$Tokens", name := "isSign", desc := "(C)Z" } : Jvm.MethodName) ({ cls := "StairGang$Tokens", name := "isSign", desc := "(C)Z" } : Jvm.MethodName)) ∈ gw := lw_m3 135 rfl
set_option maxRecDepth 100000 in
theorem tb616 : (Jvm.Cond.code ({ cls := "StairGang$Tokens", name := "isSign", desc := "(C)Z" } : Jvm.MethodName) prog_9_method_15_code (2 : Nat) (Option.some Jvm.ClassFile.FieldType.boolean)) ∈ gw := lw_m3 136 rfl
set_option maxRecDepth 100000 in
theorem tb617 : (Jvm.Cond.methodLink "StairGang$TownReader" (119 : Nat) ({ cls := "StairGang$Town", name := "addNamed", desc := "(IJ)I" } : Jvm.MethodName)) ∈ gw := lw_m3 137 rfl
set_option maxRecDepth 100000 in
theorem tb618 : (Jvm.Cond.instanceMethod ({ cls := "StairGang$Town", name := "addNamed", desc := "(IJ)I" } : Jvm.MethodName)) ∈ gw := lw_m3 138 rfl
set_option maxRecDepth 100000 in
theorem tb619 : (Jvm.Cond.selects "StairGang$Town" ({ cls := "StairGang$Town", name := "addNamed", desc := "(IJ)I" } : Jvm.MethodName) ({ cls := "StairGang$Town", name := "addNamed", desc := "(IJ)I" } : Jvm.MethodName)) ∈ gw := lw_m3 139 rfl
set_option maxRecDepth 100000 in
theorem tb620 : (Jvm.Cond.code ({ cls := "StairGang$Town", name := "addNamed", desc := "(IJ)I" } : Jvm.MethodName) prog_10_method_8_code (5 : Nat) (Option.some Jvm.ClassFile.FieldType.int)) ∈ gw := lw_m3 140 rfl
set_option maxRecDepth 100000 in
theorem tb621 : (Jvm.Cond.methodLink "StairGang$Town" (86 : Nat) ({ cls := "StairGang$Town", name := "addOne", desc := "(I)I" } : Jvm.MethodName)) ∈ gw := lw_m3 141 rfl
set_option maxRecDepth 100000 in
theorem tb622 : (Jvm.Cond.instanceMethod ({ cls := "StairGang$Town", name := "addOne", desc := "(I)I" } : Jvm.MethodName)) ∈ gw := lw_m3 142 rfl
set_option maxRecDepth 100000 in
theorem tb623 : (Jvm.Cond.selects "StairGang$Town" ({ cls := "StairGang$Town", name := "addOne", desc := "(I)I" } : Jvm.MethodName) ({ cls := "StairGang$Town", name := "addOne", desc := "(I)I" } : Jvm.MethodName)) ∈ gw := lw_m3 143 rfl
set_option maxRecDepth 100000 in
theorem tb624 : (Jvm.Cond.code ({ cls := "StairGang$Town", name := "addOne", desc := "(I)I" } : Jvm.MethodName) prog_10_method_7_code (3 : Nat) (Option.some Jvm.ClassFile.FieldType.int)) ∈ gw := lw_m3 144 rfl
set_option maxRecDepth 100000 in
theorem tb625 : (Jvm.Cond.methodLink "StairGang$TownReader" (123 : Nat) ({ cls := "StairGang$Town", name := "setFloors", desc := "(II)V" } : Jvm.MethodName)) ∈ gw := lw_m3 145 rfl
set_option maxRecDepth 100000 in
theorem tb626 : (Jvm.Cond.instanceMethod ({ cls := "StairGang$Town", name := "setFloors", desc := "(II)V" } : Jvm.MethodName)) ∈ gw := lw_m3 146 rfl
set_option maxRecDepth 100000 in
theorem tb627 : (Jvm.Cond.selects "StairGang$Town" ({ cls := "StairGang$Town", name := "setFloors", desc := "(II)V" } : Jvm.MethodName) ({ cls := "StairGang$Town", name := "setFloors", desc := "(II)V" } : Jvm.MethodName)) ∈ gw := lw_m3 147 rfl
set_option maxRecDepth 100000 in
theorem tb628 : (Jvm.Cond.code ({ cls := "StairGang$Town", name := "setFloors", desc := "(II)V" } : Jvm.MethodName) prog_10_method_11_code (3 : Nat) (Option.none : Option Jvm.ClassFile.FieldType)) ∈ gw := lw_m3 148 rfl
set_option maxRecDepth 100000 in
theorem tb629 : (Jvm.Cond.methodLink "StairGang$TownReader" (37 : Nat) ({ cls := "StairGang$TownReader", name := "readFlight", desc := "(LStairGang$Town;)V" } : Jvm.MethodName)) ∈ gw := lw_m3 149 rfl
set_option maxRecDepth 100000 in
theorem tb631 : (Jvm.Cond.instanceMethod ({ cls := "StairGang$TownReader", name := "readFlight", desc := "(LStairGang$Town;)V" } : Jvm.MethodName)) ∈ gw := lw_m3 151 rfl
set_option maxRecDepth 100000 in
theorem tb632 : (Jvm.Cond.code ({ cls := "StairGang$TownReader", name := "readFlight", desc := "(LStairGang$Town;)V" } : Jvm.MethodName) prog_11_method_8_code (6 : Nat) (Option.none : Option Jvm.ClassFile.FieldType)) ∈ gw := lw_m3 152 rfl
set_option maxRecDepth 100000 in
theorem tb633 : (Jvm.Cond.methodLink "StairGang$TownReader" (127 : Nat) ({ cls := "StairGang$Tokens", name := "takeTold", desc := "(LStairGang$Town;I)I" } : Jvm.MethodName)) ∈ gw := lw_m3 153 rfl
set_option maxRecDepth 100000 in
theorem tb634 : (Jvm.Cond.instanceMethod ({ cls := "StairGang$Tokens", name := "takeTold", desc := "(LStairGang$Town;I)I" } : Jvm.MethodName)) ∈ gw := lw_m3 154 rfl
set_option maxRecDepth 100000 in
theorem tb635 : (Jvm.Cond.selects "StairGang$Tokens" ({ cls := "StairGang$Tokens", name := "takeTold", desc := "(LStairGang$Town;I)I" } : Jvm.MethodName) ({ cls := "StairGang$Tokens", name := "takeTold", desc := "(LStairGang$Town;I)I" } : Jvm.MethodName)) ∈ gw := lw_m3 155 rfl
set_option maxRecDepth 100000 in
theorem tb636 : (Jvm.Cond.code ({ cls := "StairGang$Tokens", name := "takeTold", desc := "(LStairGang$Town;I)I" } : Jvm.MethodName) prog_9_method_22_code (4 : Nat) (Option.some Jvm.ClassFile.FieldType.int)) ∈ gw := lw_m3 156 rfl
set_option maxRecDepth 100000 in
theorem tb637 : (Jvm.Cond.methodLink "StairGang$Tokens" (113 : Nat) ({ cls := "StairGang$Tokens", name := "nameHere", desc := "()J" } : Jvm.MethodName)) ∈ gw := lw_m3 157 rfl
set_option maxRecDepth 100000 in
theorem tb638 : (Jvm.Cond.methodLink "StairGang$Tokens" (117 : Nat) ({ cls := "StairGang$Town", name := "find", desc := "(IJ)I" } : Jvm.MethodName)) ∈ gw := lw_m3 158 rfl
set_option maxRecDepth 100000 in
theorem tb639 : (Jvm.Cond.instanceMethod ({ cls := "StairGang$Town", name := "find", desc := "(IJ)I" } : Jvm.MethodName)) ∈ gw := lw_m3 159 rfl
set_option maxRecDepth 100000 in
theorem tb640 : (Jvm.Cond.selects "StairGang$Town" ({ cls := "StairGang$Town", name := "find", desc := "(IJ)I" } : Jvm.MethodName) ({ cls := "StairGang$Town", name := "find", desc := "(IJ)I" } : Jvm.MethodName)) ∈ gw := lw_m3 160 rfl
set_option maxRecDepth 100000 in
theorem tb641 : (Jvm.Cond.code ({ cls := "StairGang$Town", name := "find", desc := "(IJ)I" } : Jvm.MethodName) prog_10_method_9_code (5 : Nat) (Option.some Jvm.ClassFile.FieldType.int)) ∈ gw := lw_m3 161 rfl
set_option maxRecDepth 100000 in
theorem tb642 : (Jvm.Cond.methodLink "StairGang$TownReader" (131 : Nat) ({ cls := "StairGang$Tokens", name := "numberHere", desc := "()I" } : Jvm.MethodName)) ∈ gw := lw_m3 162 rfl
set_option maxRecDepth 100000 in
theorem tb643 : (Jvm.Cond.methodLink "StairGang$TownReader" (134 : Nat) ({ cls := "StairGang$Town", name := "flightFrom", desc := "(II)I" } : Jvm.MethodName)) ∈ gw := lw_m3 163 rfl
set_option maxRecDepth 100000 in
theorem tb644 : (Jvm.Cond.instanceMethod ({ cls := "StairGang$Town", name := "flightFrom", desc := "(II)I" } : Jvm.MethodName)) ∈ gw := lw_m3 164 rfl
set_option maxRecDepth 100000 in
theorem tb645 : (Jvm.Cond.selects "StairGang$Town" ({ cls := "StairGang$Town", name := "flightFrom", desc := "(II)I" } : Jvm.MethodName) ({ cls := "StairGang$Town", name := "flightFrom", desc := "(II)I" } : Jvm.MethodName)) ∈ gw := lw_m3 165 rfl
set_option maxRecDepth 100000 in
theorem tb646 : (Jvm.Cond.code ({ cls := "StairGang$Town", name := "flightFrom", desc := "(II)I" } : Jvm.MethodName) prog_10_method_14_code (4 : Nat) (Option.some Jvm.ClassFile.FieldType.int)) ∈ gw := lw_m3 166 rfl
set_option maxRecDepth 100000 in
theorem tb647 : (Jvm.Cond.methodLink "StairGang$TownReader" (137 : Nat) ({ cls := "StairGang$Town", name := "floorsOf", desc := "(I)I" } : Jvm.MethodName)) ∈ gw := lw_m3 167 rfl
set_option maxRecDepth 100000 in
theorem tb648 : (Jvm.Cond.instanceMethod ({ cls := "StairGang$Town", name := "floorsOf", desc := "(I)I" } : Jvm.MethodName)) ∈ gw := lw_m3 168 rfl
set_option maxRecDepth 100000 in
theorem tb649 : (Jvm.Cond.selects "StairGang$Town" ({ cls := "StairGang$Town", name := "floorsOf", desc := "(I)I" } : Jvm.MethodName) ({ cls := "StairGang$Town", name := "floorsOf", desc := "(I)I" } : Jvm.MethodName)) ∈ gw := lw_m3 169 rfl
set_option maxRecDepth 100000 in
theorem tb650 : (Jvm.Cond.code ({ cls := "StairGang$Town", name := "floorsOf", desc := "(I)I" } : Jvm.MethodName) prog_10_method_12_code (2 : Nat) (Option.some Jvm.ClassFile.FieldType.int)) ∈ gw := lw_m3 170 rfl
set_option maxRecDepth 100000 in
theorem tb651 : (Jvm.Cond.methodLink "StairGang$Town" (89 : Nat) ({ cls := "StairGang$Town", name := "has", desc := "(II)Z" } : Jvm.MethodName)) ∈ gw := lw_m3 171 rfl
set_option maxRecDepth 100000 in
theorem tb652 : (Jvm.Cond.instanceMethod ({ cls := "StairGang$Town", name := "has", desc := "(II)Z" } : Jvm.MethodName)) ∈ gw := lw_m3 172 rfl
set_option maxRecDepth 100000 in
theorem tb653 : (Jvm.Cond.selects "StairGang$Town" ({ cls := "StairGang$Town", name := "has", desc := "(II)Z" } : Jvm.MethodName) ({ cls := "StairGang$Town", name := "has", desc := "(II)Z" } : Jvm.MethodName)) ∈ gw := lw_m3 173 rfl
set_option maxRecDepth 100000 in
theorem tb654 : (Jvm.Cond.code ({ cls := "StairGang$Town", name := "has", desc := "(II)Z" } : Jvm.MethodName) prog_10_method_6_code (3 : Nat) (Option.some Jvm.ClassFile.FieldType.boolean)) ∈ gw := lw_m3 174 rfl
set_option maxRecDepth 100000 in
theorem tb655 : (Jvm.Cond.methodLink "StairGang$TownReader" (141 : Nat) ({ cls := "StairGang$Town", name := "addOne", desc := "(I)I" } : Jvm.MethodName)) ∈ gw := lw_m3 175 rfl
set_option maxRecDepth 100000 in
theorem tb656 : (Jvm.Cond.methodLink "StairGang$TownReader" (144 : Nat) ({ cls := "StairGang$Town", name := "setFlight", desc := "(IIIII)V" } : Jvm.MethodName)) ∈ gw := lw_m3 176 rfl
set_option maxRecDepth 100000 in
theorem tb657 : (Jvm.Cond.instanceMethod ({ cls := "StairGang$Town", name := "setFlight", desc := "(IIIII)V" } : Jvm.MethodName)) ∈ gw := lw_m3 177 rfl
set_option maxRecDepth 100000 in
theorem tb658 : (Jvm.Cond.selects "StairGang$Town" ({ cls := "StairGang$Town", name := "setFlight", desc := "(IIIII)V" } : Jvm.MethodName) ({ cls := "StairGang$Town", name := "setFlight", desc := "(IIIII)V" } : Jvm.MethodName)) ∈ gw := lw_m3 178 rfl
set_option maxRecDepth 100000 in
theorem tb659 : (Jvm.Cond.code ({ cls := "StairGang$Town", name := "setFlight", desc := "(IIIII)V" } : Jvm.MethodName) prog_10_method_15_code (6 : Nat) (Option.none : Option Jvm.ClassFile.FieldType)) ∈ gw := lw_m3 179 rfl
set_option maxRecDepth 100000 in
theorem tb660 : (Jvm.Cond.methodLink "StairGang$TownReader" (40 : Nat) ({ cls := "StairGang$TownReader", name := "readThing", desc := "(LStairGang$Town;)V" } : Jvm.MethodName)) ∈ gw := lw_m3 180 rfl
set_option maxRecDepth 100000 in
theorem tb662 : (Jvm.Cond.instanceMethod ({ cls := "StairGang$TownReader", name := "readThing", desc := "(LStairGang$Town;)V" } : Jvm.MethodName)) ∈ gw := lw_m3 182 rfl
set_option maxRecDepth 100000 in
theorem tb663 : (Jvm.Cond.code ({ cls := "StairGang$TownReader", name := "readThing", desc := "(LStairGang$Town;)V" } : Jvm.MethodName) prog_11_method_9_code (7 : Nat) (Option.none : Option Jvm.ClassFile.FieldType)) ∈ gw := lw_m3 183 rfl
set_option maxRecDepth 100000 in
theorem tb664 : (Jvm.Cond.methodLink "StairGang$TownReader" (148 : Nat) ({ cls := "StairGang$Tokens", name := "takePlace", desc := "(LStairGang$Town;)I" } : Jvm.MethodName)) ∈ gw := lw_m3 184 rfl
set_option maxRecDepth 100000 in
theorem tb665 : (Jvm.Cond.instanceMethod ({ cls := "StairGang$Tokens", name := "takePlace", desc := "(LStairGang$Town;)I" } : Jvm.MethodName)) ∈ gw := lw_m3 185 rfl
set_option maxRecDepth 100000 in
theorem tb666 : (Jvm.Cond.selects "StairGang$Tokens" ({ cls := "StairGang$Tokens", name := "takePlace", desc := "(LStairGang$Town;)I" } : Jvm.MethodName) ({ cls := "StairGang$Tokens", name := "takePlace", desc := "(LStairGang$Town;)I" } : Jvm.MethodName)) ∈ gw := lw_m3 186 rfl
set_option maxRecDepth 100000 in
theorem tb667 : (Jvm.Cond.code ({ cls := "StairGang$Tokens", name := "takePlace", desc := "(LStairGang$Town;)I" } : Jvm.MethodName) prog_9_method_23_code (4 : Nat) (Option.some Jvm.ClassFile.FieldType.int)) ∈ gw := lw_m3 187 rfl
set_option maxRecDepth 100000 in
theorem tb668 : (Jvm.Cond.methodLink "StairGang$Tokens" (123 : Nat) ({ cls := "StairGang$Tokens", name := "takeTold", desc := "(LStairGang$Town;I)I" } : Jvm.MethodName)) ∈ gw := lw_m3 188 rfl
set_option maxRecDepth 100000 in
theorem tb669 : (Jvm.Cond.methodLink "StairGang$Tokens" (127 : Nat) ({ cls := "StairGang$Town", name := "floorsOf", desc := "(I)I" } : Jvm.MethodName)) ∈ gw := lw_m3 189 rfl
set_option maxRecDepth 100000 in
theorem tb670 : (Jvm.Cond.methodLink "StairGang$Tokens" (130 : Nat) ({ cls := "StairGang$Tokens", name := "takeNumber", desc := "(II)I" } : Jvm.MethodName)) ∈ gw := lw_m3 190 rfl
set_option maxRecDepth 100000 in
theorem tb671 : (Jvm.Cond.methodLink "StairGang$TownReader" (43 : Nat) ({ cls := "StairGang$TownReader", name := "readPerson", desc := "(LStairGang$Town;)V" } : Jvm.MethodName)) ∈ gw := lw_m3 191 rfl
set_option maxRecDepth 100000 in
theorem tb673 : (Jvm.Cond.instanceMethod ({ cls := "StairGang$TownReader", name := "readPerson", desc := "(LStairGang$Town;)V" } : Jvm.MethodName)) ∈ gw := lw_m3 193 rfl
set_option maxRecDepth 100000 in
theorem tb674 : (Jvm.Cond.code ({ cls := "StairGang$TownReader", name := "readPerson", desc := "(LStairGang$Town;)V" } : Jvm.MethodName) prog_11_method_10_code (9 : Nat) (Option.none : Option Jvm.ClassFile.FieldType)) ∈ gw := lw_m3 194 rfl
set_option maxRecDepth 100000 in
theorem tb675 : (Jvm.Cond.methodLink "StairGang$TownReader" (46 : Nat) ({ cls := "StairGang$TownReader", name := "readHill", desc := "(LStairGang$Town;)V" } : Jvm.MethodName)) ∈ gw := lw_m3 195 rfl
set_option maxRecDepth 100000 in
theorem tb677 : (Jvm.Cond.instanceMethod ({ cls := "StairGang$TownReader", name := "readHill", desc := "(LStairGang$Town;)V" } : Jvm.MethodName)) ∈ gw := lw_m3 197 rfl
set_option maxRecDepth 100000 in
theorem tb678 : (Jvm.Cond.code ({ cls := "StairGang$TownReader", name := "readHill", desc := "(LStairGang$Town;)V" } : Jvm.MethodName) prog_11_method_11_code (7 : Nat) (Option.none : Option Jvm.ClassFile.FieldType)) ∈ gw := lw_m3 198 rfl
set_option maxRecDepth 100000 in
theorem tb679 : (Jvm.Cond.methodLink "StairGang$TownReader" (53 : Nat) ({ cls := "StairGang$TownReader", name := "takeOnce", desc := "(Z)V" } : Jvm.MethodName)) ∈ gw := lw_m3 199 rfl
set_option maxRecDepth 100000 in
theorem tb681 : (Jvm.Cond.instanceMethod ({ cls := "StairGang$TownReader", name := "takeOnce", desc := "(Z)V" } : Jvm.MethodName)) ∈ gw := lw_m3 201 rfl
set_option maxRecDepth 100000 in
theorem tb682 : (Jvm.Cond.code ({ cls := "StairGang$TownReader", name := "takeOnce", desc := "(Z)V" } : Jvm.MethodName) prog_11_method_4_code (2 : Nat) (Option.none : Option Jvm.ClassFile.FieldType)) ∈ gw := lw_m3 202 rfl
set_option maxRecDepth 100000 in
theorem tb683 : (Jvm.Cond.methodLink "StairGang$TownReader" (72 : Nat) ({ cls := "StairGang$Price", name := "isTold", desc := "()Z" } : Jvm.MethodName)) ∈ gw := lw_m3 203 rfl
set_option maxRecDepth 100000 in
theorem tb684 : (Jvm.Cond.methodLink "StairGang$TownReader" (77 : Nat) ({ cls := "StairGang$Price", name := "readLevel", desc := "(LStairGang$Tokens;II)V" } : Jvm.MethodName)) ∈ gw := lw_m3 204 rfl
set_option maxRecDepth 100000 in
theorem tb685 : (Jvm.Cond.instanceMethod ({ cls := "StairGang$Price", name := "readLevel", desc := "(LStairGang$Tokens;II)V" } : Jvm.MethodName)) ∈ gw := lw_m3 205 rfl
set_option maxRecDepth 100000 in
theorem tb686 : (Jvm.Cond.selects "StairGang$Price" ({ cls := "StairGang$Price", name := "readLevel", desc := "(LStairGang$Tokens;II)V" } : Jvm.MethodName) ({ cls := "StairGang$Price", name := "readLevel", desc := "(LStairGang$Tokens;II)V" } : Jvm.MethodName)) ∈ gw := lw_m3 206 rfl
set_option maxRecDepth 100000 in
theorem tb687 : (Jvm.Cond.code ({ cls := "StairGang$Price", name := "readLevel", desc := "(LStairGang$Tokens;II)V" } : Jvm.MethodName) prog_6_method_6_code (7 : Nat) (Option.none : Option Jvm.ClassFile.FieldType)) ∈ gw := lw_m3 207 rfl
set_option maxRecDepth 100000 in
theorem tb688 : (Jvm.Cond.methodLink "StairGang$Price" (26 : Nat) ({ cls := "StairGang$Price", name := "readPart", desc := "(LStairGang$Tokens;I)V" } : Jvm.MethodName)) ∈ gw := lw_m3 208 rfl
set_option maxRecDepth 100000 in
theorem tb690 : (Jvm.Cond.instanceMethod ({ cls := "StairGang$Price", name := "readPart", desc := "(LStairGang$Tokens;I)V" } : Jvm.MethodName)) ∈ gw := lw_m3 210 rfl
set_option maxRecDepth 100000 in
theorem tb691 : (Jvm.Cond.code ({ cls := "StairGang$Price", name := "readPart", desc := "(LStairGang$Tokens;I)V" } : Jvm.MethodName) prog_6_method_8_code (6 : Nat) (Option.none : Option Jvm.ClassFile.FieldType)) ∈ gw := lw_m3 211 rfl
set_option maxRecDepth 100000 in
theorem tb692 : (Jvm.Cond.methodLink "StairGang$Price" (51 : Nat) ({ cls := "StairGang$Tokens", name := "keyHere", desc := "()I" } : Jvm.MethodName)) ∈ gw := lw_m3 212 rfl
set_option maxRecDepth 100000 in
theorem tb693 : (Jvm.Cond.methodLink "StairGang$Price" (55 : Nat) ({ cls := "StairGang$Price", name := "factOf", desc := "(I)I" } : Jvm.MethodName)) ∈ gw := lw_m3 213 rfl
set_option maxRecDepth 100000 in
theorem tb694 : (Jvm.Cond.static ({ cls := "StairGang$Price", name := "factOf", desc := "(I)I" } : Jvm.MethodName)) ∈ gw := lw_m3 214 rfl
set_option maxRecDepth 100000 in
theorem tb695 : (Jvm.Cond.code ({ cls := "StairGang$Price", name := "factOf", desc := "(I)I" } : Jvm.MethodName) prog_6_method_9_code (1 : Nat) (Option.some Jvm.ClassFile.FieldType.int)) ∈ gw := lw_m3 215 rfl
set_option maxRecDepth 100000 in
theorem tb696 : (Jvm.Cond.methodLink "StairGang$Price" (43 : Nat) ({ cls := "StairGang$Tokens", name := "isWord", desc := "(I)Z" } : Jvm.MethodName)) ∈ gw := lw_m3 216 rfl
set_option maxRecDepth 100000 in
theorem tb697 : (Jvm.Cond.methodLink "StairGang$Price" (47 : Nat) ({ cls := "StairGang$Tokens", name := "isSign", desc := "(C)Z" } : Jvm.MethodName)) ∈ gw := lw_m3 217 rfl
set_option maxRecDepth 100000 in
theorem tb698 : (Jvm.Cond.methodLink "StairGang$Price" (59 : Nat) ({ cls := "StairGang$Tokens", name := "isNumber", desc := "()Z" } : Jvm.MethodName)) ∈ gw := lw_m3 218 rfl
set_option maxRecDepth 100000 in
theorem tb699 : (Jvm.Cond.methodLink "StairGang$Price" (63 : Nat) ({ cls := "StairGang$Tokens", name := "fail", desc := "(I)V" } : Jvm.MethodName)) ∈ gw := lw_m3 219 rfl
set_option maxRecDepth 100000 in
theorem tb700 : (Jvm.Cond.methodLink "StairGang$Price" (38 : Nat) ({ cls := "StairGang$Tokens", name := "next", desc := "()V" } : Jvm.MethodName)) ∈ gw := lw_m3 220 rfl
set_option maxRecDepth 100000 in
theorem tb701 : (Jvm.Cond.methodLink "StairGang$Price" (30 : Nat) ({ cls := "StairGang$Price", name := "readLevel", desc := "(LStairGang$Tokens;II)V" } : Jvm.MethodName)) ∈ gw := lw_m3 221 rfl
set_option maxRecDepth 100000 in
theorem tb702 : (Jvm.Cond.methodLink "StairGang$Price" (66 : Nat) ({ cls := "StairGang$Tokens", name := "takeSign", desc := "(C)V" } : Jvm.MethodName)) ∈ gw := lw_m3 222 rfl
set_option maxRecDepth 100000 in
theorem tb703 : (Jvm.Cond.methodLink "StairGang$Price" (70 : Nat) ({ cls := "StairGang$Tokens", name := "takeNumber", desc := "(II)I" } : Jvm.MethodName)) ∈ gw := lw_m3 223 rfl
set_option maxRecDepth 100000 in
theorem tb704 : (Jvm.Cond.methodLink "StairGang$Price" (34 : Nat) ({ cls := "StairGang$Price", name := "joinHere", desc := "(LStairGang$Tokens;I)I" } : Jvm.MethodName)) ∈ gw := lw_m3 224 rfl
set_option maxRecDepth 100000 in
theorem tb705 : (Jvm.Cond.static ({ cls := "StairGang$Price", name := "joinHere", desc := "(LStairGang$Tokens;I)I" } : Jvm.MethodName)) ∈ gw := lw_m3 225 rfl
set_option maxRecDepth 100000 in
theorem tb706 : (Jvm.Cond.code ({ cls := "StairGang$Price", name := "joinHere", desc := "(LStairGang$Tokens;I)I" } : Jvm.MethodName) prog_6_method_7_code (2 : Nat) (Option.some Jvm.ClassFile.FieldType.int)) ∈ gw := lw_m3 226 rfl
set_option maxRecDepth 100000 in
theorem tb707 : (Jvm.Cond.methodLink "StairGang$TownReader" (85 : Nat) ({ cls := "StairGang$Town", name := "close", desc := "()V" } : Jvm.MethodName)) ∈ gw := lw_m3 227 rfl
set_option maxRecDepth 100000 in
theorem tb708 : (Jvm.Cond.methodLink "StairGang" (107 : Nat) ({ cls := "StairGang$State", name := "begin", desc := "(LStairGang$Town;)V" } : Jvm.MethodName)) ∈ gw := lw_m3 228 rfl
set_option maxRecDepth 100000 in
theorem tb709 : (Jvm.Cond.instanceMethod ({ cls := "StairGang$State", name := "begin", desc := "(LStairGang$Town;)V" } : Jvm.MethodName)) ∈ gw := lw_m3 229 rfl
set_option maxRecDepth 100000 in
theorem tb710 : (Jvm.Cond.selects "StairGang$State" ({ cls := "StairGang$State", name := "begin", desc := "(LStairGang$Town;)V" } : Jvm.MethodName) ({ cls := "StairGang$State", name := "begin", desc := "(LStairGang$Town;)V" } : Jvm.MethodName)) ∈ gw := lw_m3 230 rfl
set_option maxRecDepth 100000 in
theorem tb711 : (Jvm.Cond.code ({ cls := "StairGang$State", name := "begin", desc := "(LStairGang$Town;)V" } : Jvm.MethodName) prog_8_method_2_code (3 : Nat) (Option.none : Option Jvm.ClassFile.FieldType)) ∈ gw := lw_m3 231 rfl
set_option maxRecDepth 100000 in
theorem tb712 : (Jvm.Cond.methodLink "StairGang$State" (21 : Nat) ({ cls := "StairGang$Town", name := "all", desc := "()I" } : Jvm.MethodName)) ∈ gw := lw_m3 232 rfl
set_option maxRecDepth 100000 in
theorem tb713 : (Jvm.Cond.instanceMethod ({ cls := "StairGang$Town", name := "all", desc := "()I" } : Jvm.MethodName)) ∈ gw := lw_m3 233 rfl
set_option maxRecDepth 100000 in
theorem tb714 : (Jvm.Cond.selects "StairGang$Town" ({ cls := "StairGang$Town", name := "all", desc := "()I" } : Jvm.MethodName) ({ cls := "StairGang$Town", name := "all", desc := "()I" } : Jvm.MethodName)) ∈ gw := lw_m3 234 rfl
set_option maxRecDepth 100000 in
theorem tb715 : (Jvm.Cond.code ({ cls := "StairGang$Town", name := "all", desc := "()I" } : Jvm.MethodName) prog_10_method_17_code (1 : Nat) (Option.some Jvm.ClassFile.FieldType.int)) ∈ gw := lw_m3 235 rfl
set_option maxRecDepth 100000 in
theorem tb716 : (Jvm.Cond.methodLink "StairGang" (111 : Nat) ({ cls := "StairGang$Said", name := "clear", desc := "()V" } : Jvm.MethodName)) ∈ gw := lw_m3 236 rfl
set_option maxRecDepth 100000 in
theorem tb717 : (Jvm.Cond.instanceMethod ({ cls := "StairGang$Said", name := "clear", desc := "()V" } : Jvm.MethodName)) ∈ gw := lw_m3 237 rfl
set_option maxRecDepth 100000 in
theorem tb718 : (Jvm.Cond.selects "StairGang$Said" ({ cls := "StairGang$Said", name := "clear", desc := "()V" } : Jvm.MethodName) ({ cls := "StairGang$Said", name := "clear", desc := "()V" } : Jvm.MethodName)) ∈ gw := lw_m3 238 rfl
set_option maxRecDepth 100000 in
theorem tb719 : (Jvm.Cond.code ({ cls := "StairGang$Said", name := "clear", desc := "()V" } : Jvm.MethodName) prog_7_method_2_code (1 : Nat) (Option.none : Option Jvm.ClassFile.FieldType)) ∈ gw := lw_m3 239 rfl
set_option maxRecDepth 100000 in
theorem tb720 : (Jvm.Cond.methodLink "StairGang" (114 : Nat) ({ cls := "StairGang$History", name := "clear", desc := "()V" } : Jvm.MethodName)) ∈ gw := lw_m4 0 rfl
set_option maxRecDepth 100000 in
theorem tb721 : (Jvm.Cond.instanceMethod ({ cls := "StairGang$History", name := "clear", desc := "()V" } : Jvm.MethodName)) ∈ gw := lw_m4 1 rfl
set_option maxRecDepth 100000 in
theorem tb722 : (Jvm.Cond.selects "StairGang$History" ({ cls := "StairGang$History", name := "clear", desc := "()V" } : Jvm.MethodName) ({ cls := "StairGang$History", name := "clear", desc := "()V" } : Jvm.MethodName)) ∈ gw := lw_m4 2 rfl
set_option maxRecDepth 100000 in
theorem tb723 : (Jvm.Cond.code ({ cls := "StairGang$History", name := "clear", desc := "()V" } : Jvm.MethodName) prog_3_method_2_code (1 : Nat) (Option.none : Option Jvm.ClassFile.FieldType)) ∈ gw := lw_m4 3 rfl
set_option maxRecDepth 100000 in
theorem tb725 : (Jvm.Cond.instanceMethod ({ cls := "StairGang", name := "nights", desc := "()I" } : Jvm.MethodName)) ∈ gw := lw_m4 5 rfl
set_option maxRecDepth 100000 in
theorem tb726 : (Jvm.Cond.selects "StairGang" ({ cls := "StairGang", name := "nights", desc := "()I" } : Jvm.MethodName) ({ cls := "StairGang", name := "nights", desc := "()I" } : Jvm.MethodName)) ∈ gw := lw_m4 6 rfl
set_option maxRecDepth 100000 in
theorem tb727 : (Jvm.Cond.code ({ cls := "StairGang", name := "nights", desc := "()I" } : Jvm.MethodName) prog_1_method_4_code (2 : Nat) (Option.some Jvm.ClassFile.FieldType.int)) ∈ gw := lw_m4 7 rfl
set_option maxRecDepth 100000 in
theorem tb728 : (Jvm.Cond.methodLink "StairGang" (118 : Nat) ({ cls := "StairGang$NightsReader", name := "read", desc := "(LStairGang$Town;)I" } : Jvm.MethodName)) ∈ gw := lw_m4 8 rfl
set_option maxRecDepth 100000 in
theorem tb729 : (Jvm.Cond.instanceMethod ({ cls := "StairGang$NightsReader", name := "read", desc := "(LStairGang$Town;)I" } : Jvm.MethodName)) ∈ gw := lw_m4 9 rfl
set_option maxRecDepth 100000 in
theorem tb730 : (Jvm.Cond.selects "StairGang$NightsReader" ({ cls := "StairGang$NightsReader", name := "read", desc := "(LStairGang$Town;)I" } : Jvm.MethodName) ({ cls := "StairGang$NightsReader", name := "read", desc := "(LStairGang$Town;)I" } : Jvm.MethodName)) ∈ gw := lw_m4 10 rfl
set_option maxRecDepth 100000 in
theorem tb731 : (Jvm.Cond.code ({ cls := "StairGang$NightsReader", name := "read", desc := "(LStairGang$Town;)I" } : Jvm.MethodName) prog_4_method_2_code (3 : Nat) (Option.some Jvm.ClassFile.FieldType.int)) ∈ gw := lw_m4 11 rfl
set_option maxRecDepth 100000 in
theorem tb732 : (Jvm.Cond.methodLink "StairGang$NightsReader" (23 : Nat) ({ cls := "StairGang$Tokens", name := "begin", desc := "()V" } : Jvm.MethodName)) ∈ gw := lw_m4 12 rfl
set_option maxRecDepth 100000 in
theorem tb733 : (Jvm.Cond.methodLink "StairGang$NightsReader" (28 : Nat) ({ cls := "StairGang$Tokens", name := "hasMore", desc := "()Z" } : Jvm.MethodName)) ∈ gw := lw_m4 13 rfl
set_option maxRecDepth 100000 in
theorem tb734 : (Jvm.Cond.methodLink "StairGang$NightsReader" (32 : Nat) ({ cls := "StairGang$NightsReader", name := "readLine", desc := "(LStairGang$Town;)V" } : Jvm.MethodName)) ∈ gw := lw_m4 14 rfl
set_option maxRecDepth 100000 in
theorem tb736 : (Jvm.Cond.instanceMethod ({ cls := "StairGang$NightsReader", name := "readLine", desc := "(LStairGang$Town;)V" } : Jvm.MethodName)) ∈ gw := lw_m4 16 rfl
set_option maxRecDepth 100000 in
theorem tb737 : (Jvm.Cond.code ({ cls := "StairGang$NightsReader", name := "readLine", desc := "(LStairGang$Town;)V" } : Jvm.MethodName) prog_4_method_3_code (4 : Nat) (Option.none : Option Jvm.ClassFile.FieldType)) ∈ gw := lw_m4 17 rfl
set_option maxRecDepth 100000 in
theorem tb738 : (Jvm.Cond.methodLink "StairGang$NightsReader" (39 : Nat) ({ cls := "StairGang$Tokens", name := "keyHere", desc := "()I" } : Jvm.MethodName)) ∈ gw := lw_m4 18 rfl
set_option maxRecDepth 100000 in
theorem tb739 : (Jvm.Cond.methodLink "StairGang$NightsReader" (43 : Nat) ({ cls := "StairGang$Tokens", name := "fail", desc := "(I)V" } : Jvm.MethodName)) ∈ gw := lw_m4 19 rfl
set_option maxRecDepth 100000 in
theorem tb740 : (Jvm.Cond.methodLink "StairGang$NightsReader" (47 : Nat) ({ cls := "StairGang$Tokens", name := "next", desc := "()V" } : Jvm.MethodName)) ∈ gw := lw_m4 20 rfl
set_option maxRecDepth 100000 in
theorem tb741 : (Jvm.Cond.methodLink "StairGang$NightsReader" (50 : Nat) ({ cls := "StairGang$NightsReader", name := "takeFlight", desc := "(LStairGang$Town;)I" } : Jvm.MethodName)) ∈ gw := lw_m4 21 rfl
set_option maxRecDepth 100000 in
theorem tb743 : (Jvm.Cond.instanceMethod ({ cls := "StairGang$NightsReader", name := "takeFlight", desc := "(LStairGang$Town;)I" } : Jvm.MethodName)) ∈ gw := lw_m4 23 rfl
set_option maxRecDepth 100000 in
theorem tb744 : (Jvm.Cond.code ({ cls := "StairGang$NightsReader", name := "takeFlight", desc := "(LStairGang$Town;)I" } : Jvm.MethodName) prog_4_method_4_code (4 : Nat) (Option.some Jvm.ClassFile.FieldType.int)) ∈ gw := lw_m4 24 rfl
set_option maxRecDepth 100000 in
theorem tb745 : (Jvm.Cond.methodLink "StairGang$NightsReader" (54 : Nat) ({ cls := "StairGang$Tokens", name := "takeTold", desc := "(LStairGang$Town;I)I" } : Jvm.MethodName)) ∈ gw := lw_m4 25 rfl
set_option maxRecDepth 100000 in
theorem tb746 : (Jvm.Cond.methodLink "StairGang$NightsReader" (65 : Nat) ({ cls := "StairGang$Tokens", name := "numberHere", desc := "()I" } : Jvm.MethodName)) ∈ gw := lw_m4 26 rfl
set_option maxRecDepth 100000 in
theorem tb747 : (Jvm.Cond.methodLink "StairGang$NightsReader" (68 : Nat) ({ cls := "StairGang$Town", name := "flightFrom", desc := "(II)I" } : Jvm.MethodName)) ∈ gw := lw_m4 27 rfl
set_option maxRecDepth 100000 in
theorem tb748 : (Jvm.Cond.methodLink "StairGang$NightsReader" (58 : Nat) ({ cls := "StairGang$Tokens", name := "takePlace", desc := "(LStairGang$Town;)I" } : Jvm.MethodName)) ∈ gw := lw_m4 28 rfl
set_option maxRecDepth 100000 in
theorem tb749 : (Jvm.Cond.methodLink "StairGang$NightsReader" (61 : Nat) ({ cls := "StairGang$Tokens", name := "takeSign", desc := "(C)V" } : Jvm.MethodName)) ∈ gw := lw_m4 29 rfl
set_option maxRecDepth 100000 in
theorem tb750 : (Jvm.Cond.methodLink "StairGang" (125 : Nat) ({ cls := "StairGang$Said", name := "tell", desc := "([II)V" } : Jvm.MethodName)) ∈ gw := lw_m4 30 rfl
set_option maxRecDepth 100000 in
theorem tb751 : (Jvm.Cond.instanceMethod ({ cls := "StairGang$Said", name := "tell", desc := "([II)V" } : Jvm.MethodName)) ∈ gw := lw_m4 31 rfl
set_option maxRecDepth 100000 in
theorem tb752 : (Jvm.Cond.selects "StairGang$Said" ({ cls := "StairGang$Said", name := "tell", desc := "([II)V" } : Jvm.MethodName) ({ cls := "StairGang$Said", name := "tell", desc := "([II)V" } : Jvm.MethodName)) ∈ gw := lw_m4 32 rfl
set_option maxRecDepth 100000 in
theorem tb753 : (Jvm.Cond.code ({ cls := "StairGang$Said", name := "tell", desc := "([II)V" } : Jvm.MethodName) prog_7_method_4_code (3 : Nat) (Option.none : Option Jvm.ClassFile.FieldType)) ∈ gw := lw_m4 33 rfl
set_option maxRecDepth 100000 in
theorem tb758 : (Jvm.Cond.instanceMethod ({ cls := "StairGang", name := "flight", desc := "(II)I" } : Jvm.MethodName)) ∈ gw := lw_m4 38 rfl
set_option maxRecDepth 100000 in
theorem tb759 : (Jvm.Cond.selects "StairGang" ({ cls := "StairGang", name := "flight", desc := "(II)I" } : Jvm.MethodName) ({ cls := "StairGang", name := "flight", desc := "(II)I" } : Jvm.MethodName)) ∈ gw := lw_m4 39 rfl
set_option maxRecDepth 100000 in
theorem tb760 : (Jvm.Cond.code ({ cls := "StairGang", name := "flight", desc := "(II)I" } : Jvm.MethodName) prog_1_method_5_code (3 : Nat) (Option.some Jvm.ClassFile.FieldType.int)) ∈ gw := lw_m4 40 rfl
set_option maxRecDepth 100000 in
theorem tb761 : (Jvm.Cond.methodLink "StairGang" (129 : Nat) ({ cls := "StairGang$Town", name := "has", desc := "(II)Z" } : Jvm.MethodName)) ∈ gw := lw_m4 41 rfl
set_option maxRecDepth 100000 in
theorem tb763 : (Jvm.Cond.instanceMethod ({ cls := "StairGang", name := "person", desc := "(II)I" } : Jvm.MethodName)) ∈ gw := lw_m4 43 rfl
set_option maxRecDepth 100000 in
theorem tb764 : (Jvm.Cond.selects "StairGang" ({ cls := "StairGang", name := "person", desc := "(II)I" } : Jvm.MethodName) ({ cls := "StairGang", name := "person", desc := "(II)I" } : Jvm.MethodName)) ∈ gw := lw_m4 44 rfl
set_option maxRecDepth 100000 in
theorem tb765 : (Jvm.Cond.code ({ cls := "StairGang", name := "person", desc := "(II)I" } : Jvm.MethodName) prog_1_method_6_code (3 : Nat) (Option.some Jvm.ClassFile.FieldType.int)) ∈ gw := lw_m4 45 rfl
set_option maxRecDepth 100000 in
theorem tb767 : (Jvm.Cond.instanceMethod ({ cls := "StairGang", name := "thing", desc := "(I)I" } : Jvm.MethodName)) ∈ gw := lw_m4 47 rfl
set_option maxRecDepth 100000 in
theorem tb768 : (Jvm.Cond.selects "StairGang" ({ cls := "StairGang", name := "thing", desc := "(I)I" } : Jvm.MethodName) ({ cls := "StairGang", name := "thing", desc := "(I)I" } : Jvm.MethodName)) ∈ gw := lw_m4 48 rfl
set_option maxRecDepth 100000 in
theorem tb769 : (Jvm.Cond.code ({ cls := "StairGang", name := "thing", desc := "(I)I" } : Jvm.MethodName) prog_1_method_7_code (2 : Nat) (Option.some Jvm.ClassFile.FieldType.int)) ∈ gw := lw_m4 49 rfl
set_option maxRecDepth 100000 in
theorem tb771 : (Jvm.Cond.instanceMethod ({ cls := "StairGang", name := "reach", desc := "(I)I" } : Jvm.MethodName)) ∈ gw := lw_m4 51 rfl
set_option maxRecDepth 100000 in
theorem tb772 : (Jvm.Cond.selects "StairGang" ({ cls := "StairGang", name := "reach", desc := "(I)I" } : Jvm.MethodName) ({ cls := "StairGang", name := "reach", desc := "(I)I" } : Jvm.MethodName)) ∈ gw := lw_m4 52 rfl
set_option maxRecDepth 100000 in
theorem tb773 : (Jvm.Cond.code ({ cls := "StairGang", name := "reach", desc := "(I)I" } : Jvm.MethodName) prog_1_method_8_code (5 : Nat) (Option.some Jvm.ClassFile.FieldType.int)) ∈ gw := lw_m4 53 rfl
set_option maxRecDepth 100000 in
theorem tb774 : (Jvm.Cond.methodLink "StairGang" (148 : Nat) ({ cls := "StairGang$State", name := "open", desc := "(LStairGang$Town;II)I" } : Jvm.MethodName)) ∈ gw := lw_m4 54 rfl
set_option maxRecDepth 100000 in
theorem tb775 : (Jvm.Cond.instanceMethod ({ cls := "StairGang$State", name := "open", desc := "(LStairGang$Town;II)I" } : Jvm.MethodName)) ∈ gw := lw_m4 55 rfl
set_option maxRecDepth 100000 in
theorem tb776 : (Jvm.Cond.selects "StairGang$State" ({ cls := "StairGang$State", name := "open", desc := "(LStairGang$Town;II)I" } : Jvm.MethodName) ({ cls := "StairGang$State", name := "open", desc := "(LStairGang$Town;II)I" } : Jvm.MethodName)) ∈ gw := lw_m4 56 rfl
set_option maxRecDepth 100000 in
theorem tb777 : (Jvm.Cond.code ({ cls := "StairGang$State", name := "open", desc := "(LStairGang$Town;II)I" } : Jvm.MethodName) prog_8_method_7_code (4 : Nat) (Option.some Jvm.ClassFile.FieldType.int)) ∈ gw := lw_m4 57 rfl
set_option maxRecDepth 100000 in
theorem tb778 : (Jvm.Cond.methodLink "StairGang$State" (70 : Nat) ({ cls := "StairGang$State", name := "climbs", desc := "(LStairGang$Town;II)I" } : Jvm.MethodName)) ∈ gw := lw_m4 58 rfl
set_option maxRecDepth 100000 in
theorem tb779 : (Jvm.Cond.instanceMethod ({ cls := "StairGang$State", name := "climbs", desc := "(LStairGang$Town;II)I" } : Jvm.MethodName)) ∈ gw := lw_m4 59 rfl
set_option maxRecDepth 100000 in
theorem tb780 : (Jvm.Cond.selects "StairGang$State" ({ cls := "StairGang$State", name := "climbs", desc := "(LStairGang$Town;II)I" } : Jvm.MethodName) ({ cls := "StairGang$State", name := "climbs", desc := "(LStairGang$Town;II)I" } : Jvm.MethodName)) ∈ gw := lw_m4 60 rfl
set_option maxRecDepth 100000 in
theorem tb781 : (Jvm.Cond.code ({ cls := "StairGang$State", name := "climbs", desc := "(LStairGang$Town;II)I" } : Jvm.MethodName) prog_8_method_5_code (7 : Nat) (Option.some Jvm.ClassFile.FieldType.int)) ∈ gw := lw_m4 61 rfl
set_option maxRecDepth 100000 in
theorem tb782 : (Jvm.Cond.methodLink "StairGang$State" (59 : Nat) ({ cls := "StairGang$Town", name := "lowerOf", desc := "(I)I" } : Jvm.MethodName)) ∈ gw := lw_m4 62 rfl
set_option maxRecDepth 100000 in
theorem tb783 : (Jvm.Cond.instanceMethod ({ cls := "StairGang$Town", name := "lowerOf", desc := "(I)I" } : Jvm.MethodName)) ∈ gw := lw_m4 63 rfl
set_option maxRecDepth 100000 in
theorem tb784 : (Jvm.Cond.selects "StairGang$Town" ({ cls := "StairGang$Town", name := "lowerOf", desc := "(I)I" } : Jvm.MethodName) ({ cls := "StairGang$Town", name := "lowerOf", desc := "(I)I" } : Jvm.MethodName)) ∈ gw := lw_m4 64 rfl
set_option maxRecDepth 100000 in
theorem tb785 : (Jvm.Cond.code ({ cls := "StairGang$Town", name := "lowerOf", desc := "(I)I" } : Jvm.MethodName) prog_10_method_16_code (2 : Nat) (Option.some Jvm.ClassFile.FieldType.int)) ∈ gw := lw_m4 65 rfl
set_option maxRecDepth 100000 in
theorem tb786 : (Jvm.Cond.methodLink "StairGang$State" (63 : Nat) ({ cls := "StairGang$State", name := "liftAt", desc := "(LStairGang$Town;II)I" } : Jvm.MethodName)) ∈ gw := lw_m4 66 rfl
set_option maxRecDepth 100000 in
theorem tb788 : (Jvm.Cond.instanceMethod ({ cls := "StairGang$State", name := "liftAt", desc := "(LStairGang$Town;II)I" } : Jvm.MethodName)) ∈ gw := lw_m4 68 rfl
set_option maxRecDepth 100000 in
theorem tb789 : (Jvm.Cond.code ({ cls := "StairGang$State", name := "liftAt", desc := "(LStairGang$Town;II)I" } : Jvm.MethodName) prog_8_method_6_code (6 : Nat) (Option.some Jvm.ClassFile.FieldType.int)) ∈ gw := lw_m4 69 rfl
set_option maxRecDepth 100000 in
theorem tb790 : (Jvm.Cond.methodLink "StairGang" (152 : Nat) ({ cls := "StairGang$Town", name := "way", desc := "(II)I" } : Jvm.MethodName)) ∈ gw := lw_m4 70 rfl
set_option maxRecDepth 100000 in
theorem tb791 : (Jvm.Cond.instanceMethod ({ cls := "StairGang$Town", name := "way", desc := "(II)I" } : Jvm.MethodName)) ∈ gw := lw_m4 71 rfl
set_option maxRecDepth 100000 in
theorem tb792 : (Jvm.Cond.selects "StairGang$Town" ({ cls := "StairGang$Town", name := "way", desc := "(II)I" } : Jvm.MethodName) ({ cls := "StairGang$Town", name := "way", desc := "(II)I" } : Jvm.MethodName)) ∈ gw := lw_m4 72 rfl
set_option maxRecDepth 100000 in
theorem tb793 : (Jvm.Cond.code ({ cls := "StairGang$Town", name := "way", desc := "(II)I" } : Jvm.MethodName) prog_10_method_18_code (5 : Nat) (Option.some Jvm.ClassFile.FieldType.int)) ∈ gw := lw_m4 73 rfl
set_option maxRecDepth 100000 in
theorem tb794 : (Jvm.Cond.methodLink "StairGang$Town" (96 : Nat) ({ cls := "StairGang$Town", name := "isPlace", desc := "(I)Z" } : Jvm.MethodName)) ∈ gw := lw_m4 74 rfl
set_option maxRecDepth 100000 in
theorem tb795 : (Jvm.Cond.instanceMethod ({ cls := "StairGang$Town", name := "isPlace", desc := "(I)Z" } : Jvm.MethodName)) ∈ gw := lw_m4 75 rfl
set_option maxRecDepth 100000 in
theorem tb796 : (Jvm.Cond.selects "StairGang$Town" ({ cls := "StairGang$Town", name := "isPlace", desc := "(I)Z" } : Jvm.MethodName) ({ cls := "StairGang$Town", name := "isPlace", desc := "(I)Z" } : Jvm.MethodName)) ∈ gw := lw_m4 76 rfl
set_option maxRecDepth 100000 in
theorem tb797 : (Jvm.Cond.code ({ cls := "StairGang$Town", name := "isPlace", desc := "(I)Z" } : Jvm.MethodName) prog_10_method_13_code (2 : Nat) (Option.some Jvm.ClassFile.FieldType.boolean)) ∈ gw := lw_m4 77 rfl
set_option maxRecDepth 100000 in
theorem tb798 : (Jvm.Cond.methodLink "StairGang$Town" (93 : Nat) ({ cls := "StairGang$Town", name := "floorsOf", desc := "(I)I" } : Jvm.MethodName)) ∈ gw := lw_m4 78 rfl
set_option maxRecDepth 100000 in
theorem tb801 : (Jvm.Cond.methodLink "StairGang$Town" (109 : Nat) ({ cls := "StairGang$Town", name := "stairs", desc := "(II)I" } : Jvm.MethodName)) ∈ gw := lw_m4 81 rfl
set_option maxRecDepth 100000 in
theorem tb803 : (Jvm.Cond.instanceMethod ({ cls := "StairGang$Town", name := "stairs", desc := "(II)I" } : Jvm.MethodName)) ∈ gw := lw_m4 83 rfl
set_option maxRecDepth 100000 in
theorem tb804 : (Jvm.Cond.code ({ cls := "StairGang$Town", name := "stairs", desc := "(II)I" } : Jvm.MethodName) prog_10_method_19_code (5 : Nat) (Option.some Jvm.ClassFile.FieldType.int)) ∈ gw := lw_m4 84 rfl
set_option maxRecDepth 100000 in
theorem tb806 : (Jvm.Cond.instanceMethod ({ cls := "StairGang", name := "cost", desc := "(II)I" } : Jvm.MethodName)) ∈ gw := lw_m4 86 rfl
set_option maxRecDepth 100000 in
theorem tb807 : (Jvm.Cond.selects "StairGang" ({ cls := "StairGang", name := "cost", desc := "(II)I" } : Jvm.MethodName) ({ cls := "StairGang", name := "cost", desc := "(II)I" } : Jvm.MethodName)) ∈ gw := lw_m4 87 rfl
set_option maxRecDepth 100000 in
theorem tb808 : (Jvm.Cond.code ({ cls := "StairGang", name := "cost", desc := "(II)I" } : Jvm.MethodName) prog_1_method_9_code (6 : Nat) (Option.some Jvm.ClassFile.FieldType.int)) ∈ gw := lw_m4 88 rfl
set_option maxRecDepth 100000 in
theorem tb809 : (Jvm.Cond.methodLink "StairGang" (159 : Nat) ({ cls := "StairGang$Town", name := "riseOf", desc := "(I)I" } : Jvm.MethodName)) ∈ gw := lw_m4 89 rfl
set_option maxRecDepth 100000 in
theorem tb810 : (Jvm.Cond.instanceMethod ({ cls := "StairGang$Town", name := "riseOf", desc := "(I)I" } : Jvm.MethodName)) ∈ gw := lw_m4 90 rfl
set_option maxRecDepth 100000 in
theorem tb811 : (Jvm.Cond.selects "StairGang$Town" ({ cls := "StairGang$Town", name := "riseOf", desc := "(I)I" } : Jvm.MethodName) ({ cls := "StairGang$Town", name := "riseOf", desc := "(I)I" } : Jvm.MethodName)) ∈ gw := lw_m4 91 rfl
set_option maxRecDepth 100000 in
theorem tb812 : (Jvm.Cond.code ({ cls := "StairGang$Town", name := "riseOf", desc := "(I)I" } : Jvm.MethodName) prog_10_method_20_code (4 : Nat) (Option.some Jvm.ClassFile.FieldType.int)) ∈ gw := lw_m4 92 rfl
set_option maxRecDepth 100000 in
theorem tb814 : (Jvm.Cond.instanceMethod ({ cls := "StairGang", name := "cut", desc := "()I" } : Jvm.MethodName)) ∈ gw := lw_m4 94 rfl
set_option maxRecDepth 100000 in
theorem tb815 : (Jvm.Cond.selects "StairGang" ({ cls := "StairGang", name := "cut", desc := "()I" } : Jvm.MethodName) ({ cls := "StairGang", name := "cut", desc := "()I" } : Jvm.MethodName)) ∈ gw := lw_m4 95 rfl
set_option maxRecDepth 100000 in
theorem tb816 : (Jvm.Cond.code ({ cls := "StairGang", name := "cut", desc := "()I" } : Jvm.MethodName) prog_1_method_10_code (1 : Nat) (Option.some Jvm.ClassFile.FieldType.int)) ∈ gw := lw_m4 96 rfl
set_option maxRecDepth 100000 in
theorem tb817 : (Jvm.Cond.methodLink "StairGang" (163 : Nat) ({ cls := "StairGang", name := "fillLacks", desc := "(LStairGang$State;)V" } : Jvm.MethodName)) ∈ gw := lw_m4 97 rfl
set_option maxRecDepth 100000 in
theorem tb819 : (Jvm.Cond.instanceMethod ({ cls := "StairGang", name := "fillLacks", desc := "(LStairGang$State;)V" } : Jvm.MethodName)) ∈ gw := lw_m4 99 rfl
set_option maxRecDepth 100000 in
theorem tb820 : (Jvm.Cond.code ({ cls := "StairGang", name := "fillLacks", desc := "(LStairGang$State;)V" } : Jvm.MethodName) prog_1_method_32_code (3 : Nat) (Option.none : Option Jvm.ClassFile.FieldType)) ∈ gw := lw_m4 100 rfl
set_option maxRecDepth 100000 in
theorem tb821 : (Jvm.Cond.methodLink "StairGang" (209 : Nat) ({ cls := "StairGang$State", name := "lack", desc := "(LStairGang$Town;II)I" } : Jvm.MethodName)) ∈ gw := lw_m4 101 rfl
set_option maxRecDepth 100000 in
theorem tb822 : (Jvm.Cond.instanceMethod ({ cls := "StairGang$State", name := "lack", desc := "(LStairGang$Town;II)I" } : Jvm.MethodName)) ∈ gw := lw_m4 102 rfl
set_option maxRecDepth 100000 in
theorem tb823 : (Jvm.Cond.selects "StairGang$State" ({ cls := "StairGang$State", name := "lack", desc := "(LStairGang$Town;II)I" } : Jvm.MethodName) ({ cls := "StairGang$State", name := "lack", desc := "(LStairGang$Town;II)I" } : Jvm.MethodName)) ∈ gw := lw_m4 103 rfl
set_option maxRecDepth 100000 in
theorem tb824 : (Jvm.Cond.code ({ cls := "StairGang$State", name := "lack", desc := "(LStairGang$Town;II)I" } : Jvm.MethodName) prog_8_method_8_code (4 : Nat) (Option.some Jvm.ClassFile.FieldType.int)) ∈ gw := lw_m4 104 rfl
set_option maxRecDepth 100000 in
theorem tb825 : (Jvm.Cond.methodLink "StairGang$State" (73 : Nat) ({ cls := "StairGang$Town", name := "way", desc := "(II)I" } : Jvm.MethodName)) ∈ gw := lw_m4 105 rfl
set_option maxRecDepth 100000 in
theorem tb826 : (Jvm.Cond.methodLink "StairGang" (167 : Nat) ({ cls := "StairGang", name := "cutBy", desc := "(I)I" } : Jvm.MethodName)) ∈ gw := lw_m4 106 rfl
set_option maxRecDepth 100000 in
theorem tb828 : (Jvm.Cond.instanceMethod ({ cls := "StairGang", name := "cutBy", desc := "(I)I" } : Jvm.MethodName)) ∈ gw := lw_m4 108 rfl
set_option maxRecDepth 100000 in
theorem tb829 : (Jvm.Cond.code ({ cls := "StairGang", name := "cutBy", desc := "(I)I" } : Jvm.MethodName) prog_1_method_33_code (4 : Nat) (Option.some Jvm.ClassFile.FieldType.int)) ∈ gw := lw_m4 109 rfl
set_option maxRecDepth 100000 in
theorem tb831 : (Jvm.Cond.instanceMethod ({ cls := "StairGang", name := "steal", desc := "(I)I" } : Jvm.MethodName)) ∈ gw := lw_m4 111 rfl
set_option maxRecDepth 100000 in
theorem tb832 : (Jvm.Cond.selects "StairGang" ({ cls := "StairGang", name := "steal", desc := "(I)I" } : Jvm.MethodName) ({ cls := "StairGang", name := "steal", desc := "(I)I" } : Jvm.MethodName)) ∈ gw := lw_m4 112 rfl
set_option maxRecDepth 100000 in
theorem tb833 : (Jvm.Cond.code ({ cls := "StairGang", name := "steal", desc := "(I)I" } : Jvm.MethodName) prog_1_method_11_code (3 : Nat) (Option.some Jvm.ClassFile.FieldType.int)) ∈ gw := lw_m4 113 rfl
set_option maxRecDepth 100000 in
theorem tb834 : (Jvm.Cond.methodLink "StairGang" (170 : Nat) ({ cls := "StairGang$State", name := "copy", desc := "(LStairGang$State;)V" } : Jvm.MethodName)) ∈ gw := lw_m4 114 rfl
set_option maxRecDepth 100000 in
theorem tb835 : (Jvm.Cond.instanceMethod ({ cls := "StairGang$State", name := "copy", desc := "(LStairGang$State;)V" } : Jvm.MethodName)) ∈ gw := lw_m4 115 rfl
set_option maxRecDepth 100000 in
theorem tb836 : (Jvm.Cond.selects "StairGang$State" ({ cls := "StairGang$State", name := "copy", desc := "(LStairGang$State;)V" } : Jvm.MethodName) ({ cls := "StairGang$State", name := "copy", desc := "(LStairGang$State;)V" } : Jvm.MethodName)) ∈ gw := lw_m4 116 rfl
set_option maxRecDepth 100000 in
theorem tb837 : (Jvm.Cond.code ({ cls := "StairGang$State", name := "copy", desc := "(LStairGang$State;)V" } : Jvm.MethodName) prog_8_method_3_code (2 : Nat) (Option.none : Option Jvm.ClassFile.FieldType)) ∈ gw := lw_m4 117 rfl
set_option maxRecDepth 100000 in
theorem tb839 : (Jvm.Cond.methodLink "StairGang" (173 : Nat) ({ cls := "StairGang$State", name := "steals", desc := "(LStairGang$Town;I)I" } : Jvm.MethodName)) ∈ gw := lw_m4 119 rfl
set_option maxRecDepth 100000 in
theorem tb840 : (Jvm.Cond.instanceMethod ({ cls := "StairGang$State", name := "steals", desc := "(LStairGang$Town;I)I" } : Jvm.MethodName)) ∈ gw := lw_m4 120 rfl
set_option maxRecDepth 100000 in
theorem tb841 : (Jvm.Cond.selects "StairGang$State" ({ cls := "StairGang$State", name := "steals", desc := "(LStairGang$Town;I)I" } : Jvm.MethodName) ({ cls := "StairGang$State", name := "steals", desc := "(LStairGang$Town;I)I" } : Jvm.MethodName)) ∈ gw := lw_m4 121 rfl
set_option maxRecDepth 100000 in
theorem tb842 : (Jvm.Cond.code ({ cls := "StairGang$State", name := "steals", desc := "(LStairGang$Town;I)I" } : Jvm.MethodName) prog_8_method_9_code (6 : Nat) (Option.some Jvm.ClassFile.FieldType.int)) ∈ gw := lw_m4 122 rfl
set_option maxRecDepth 100000 in
theorem tb843 : (Jvm.Cond.methodLink "StairGang$State" (77 : Nat) ({ cls := "StairGang$State", name := "isThere", desc := "(LStairGang$Town;I)Z" } : Jvm.MethodName)) ∈ gw := lw_m4 123 rfl
set_option maxRecDepth 100000 in
theorem tb844 : (Jvm.Cond.instanceMethod ({ cls := "StairGang$State", name := "isThere", desc := "(LStairGang$Town;I)Z" } : Jvm.MethodName)) ∈ gw := lw_m4 124 rfl
set_option maxRecDepth 100000 in
theorem tb845 : (Jvm.Cond.selects "StairGang$State" ({ cls := "StairGang$State", name := "isThere", desc := "(LStairGang$Town;I)Z" } : Jvm.MethodName) ({ cls := "StairGang$State", name := "isThere", desc := "(LStairGang$Town;I)Z" } : Jvm.MethodName)) ∈ gw := lw_m4 125 rfl
set_option maxRecDepth 100000 in
theorem tb846 : (Jvm.Cond.code ({ cls := "StairGang$State", name := "isThere", desc := "(LStairGang$Town;I)Z" } : Jvm.MethodName) prog_8_method_4_code (3 : Nat) (Option.some Jvm.ClassFile.FieldType.boolean)) ∈ gw := lw_m4 126 rfl
set_option maxRecDepth 100000 in
theorem tb847 : (Jvm.Cond.methodLink "StairGang$State" (52 : Nat) ({ cls := "StairGang$Town", name := "has", desc := "(II)Z" } : Jvm.MethodName)) ∈ gw := lw_m4 127 rfl
set_option maxRecDepth 100000 in
theorem tb848 : (Jvm.Cond.methodLink "StairGang$State" (81 : Nat) ({ cls := "StairGang$Town", name := "fromTop", desc := "(II)Z" } : Jvm.MethodName)) ∈ gw := lw_m4 128 rfl
set_option maxRecDepth 100000 in
theorem tb849 : (Jvm.Cond.instanceMethod ({ cls := "StairGang$Town", name := "fromTop", desc := "(II)Z" } : Jvm.MethodName)) ∈ gw := lw_m4 129 rfl
set_option maxRecDepth 100000 in
theorem tb850 : (Jvm.Cond.selects "StairGang$Town" ({ cls := "StairGang$Town", name := "fromTop", desc := "(II)Z" } : Jvm.MethodName) ({ cls := "StairGang$Town", name := "fromTop", desc := "(II)Z" } : Jvm.MethodName)) ∈ gw := lw_m4 130 rfl
set_option maxRecDepth 100000 in
theorem tb851 : (Jvm.Cond.code ({ cls := "StairGang$Town", name := "fromTop", desc := "(II)Z" } : Jvm.MethodName) prog_10_method_21_code (4 : Nat) (Option.some Jvm.ClassFile.FieldType.boolean)) ∈ gw := lw_m4 131 rfl
set_option maxRecDepth 100000 in
theorem tb852 : (Jvm.Cond.methodLink "StairGang$State" (84 : Nat) ({ cls := "java/lang/Integer", name := "bitCount", desc := "(I)I" } : Jvm.MethodName)) ∈ gw := lw_m4 132 rfl
set_option maxRecDepth 100000 in
theorem tb853 : (Jvm.Cond.static ({ cls := "java/lang/Integer", name := "bitCount", desc := "(I)I" } : Jvm.MethodName)) ∈ gw := lw_m4 133 rfl
set_option maxRecDepth 100000 in
theorem tb854 : (Jvm.Cond.code ({ cls := "java/lang/Integer", name := "bitCount", desc := "(I)I" } : Jvm.MethodName) prog_19_method_49_code (1 : Nat) (Option.some Jvm.ClassFile.FieldType.int)) ∈ gw := lw_m4 134 rfl
set_option maxRecDepth 100000 in
theorem tb855 : (Jvm.Cond.constant "java/lang/Integer" (265 : Nat) (1431655765 : Int32)) ∈ gw := lw_m4 135 rfl
set_option maxRecDepth 100000 in
theorem tb856 : (Jvm.Cond.constant "java/lang/Integer" (266 : Nat) (858993459 : Int32)) ∈ gw := lw_m4 136 rfl
set_option maxRecDepth 100000 in
theorem tb857 : (Jvm.Cond.constant "java/lang/Integer" (267 : Nat) (252645135 : Int32)) ∈ gw := lw_m4 137 rfl
set_option maxRecDepth 100000 in
theorem tb858 : (Jvm.Cond.methodLink "StairGang$State" (93 : Nat) ({ cls := "StairGang$Price", name := "valueOf", desc := "(III)I" } : Jvm.MethodName)) ∈ gw := lw_m4 138 rfl
set_option maxRecDepth 100000 in
theorem tb859 : (Jvm.Cond.instanceMethod ({ cls := "StairGang$Price", name := "valueOf", desc := "(III)I" } : Jvm.MethodName)) ∈ gw := lw_m4 139 rfl
set_option maxRecDepth 100000 in
theorem tb860 : (Jvm.Cond.selects "StairGang$Price" ({ cls := "StairGang$Price", name := "valueOf", desc := "(III)I" } : Jvm.MethodName) ({ cls := "StairGang$Price", name := "valueOf", desc := "(III)I" } : Jvm.MethodName)) ∈ gw := lw_m4 140 rfl
set_option maxRecDepth 100000 in
theorem tb861 : (Jvm.Cond.code ({ cls := "StairGang$Price", name := "valueOf", desc := "(III)I" } : Jvm.MethodName) prog_6_method_10_code (7 : Nat) (Option.some Jvm.ClassFile.FieldType.int)) ∈ gw := lw_m4 141 rfl
set_option maxRecDepth 100000 in
theorem tb862 : (Jvm.Cond.methodLink "StairGang$Price" (74 : Nat) ({ cls := "StairGang$Price", name := "joined", desc := "(III)I" } : Jvm.MethodName)) ∈ gw := lw_m4 142 rfl
set_option maxRecDepth 100000 in
theorem tb863 : (Jvm.Cond.static ({ cls := "StairGang$Price", name := "joined", desc := "(III)I" } : Jvm.MethodName)) ∈ gw := lw_m4 143 rfl
set_option maxRecDepth 100000 in
theorem tb864 : (Jvm.Cond.code ({ cls := "StairGang$Price", name := "joined", desc := "(III)I" } : Jvm.MethodName) prog_6_method_11_code (3 : Nat) (Option.some Jvm.ClassFile.FieldType.int)) ∈ gw := lw_m4 144 rfl
set_option maxRecDepth 100000 in
theorem tb867 : (Jvm.Cond.methodLink "StairGang" (177 : Nat) ({ cls := "StairGang$History", name := "keep", desc := "(LStairGang$State;)V" } : Jvm.MethodName)) ∈ gw := lw_m4 147 rfl
set_option maxRecDepth 100000 in
theorem tb868 : (Jvm.Cond.instanceMethod ({ cls := "StairGang$History", name := "keep", desc := "(LStairGang$State;)V" } : Jvm.MethodName)) ∈ gw := lw_m4 148 rfl
set_option maxRecDepth 100000 in
theorem tb869 : (Jvm.Cond.selects "StairGang$History" ({ cls := "StairGang$History", name := "keep", desc := "(LStairGang$State;)V" } : Jvm.MethodName) ({ cls := "StairGang$History", name := "keep", desc := "(LStairGang$State;)V" } : Jvm.MethodName)) ∈ gw := lw_m4 149 rfl
set_option maxRecDepth 100000 in
theorem tb870 : (Jvm.Cond.code ({ cls := "StairGang$History", name := "keep", desc := "(LStairGang$State;)V" } : Jvm.MethodName) prog_3_method_3_code (2 : Nat) (Option.none : Option Jvm.ClassFile.FieldType)) ∈ gw := lw_m4 150 rfl
set_option maxRecDepth 100000 in
theorem tb871 : (Jvm.Cond.methodLink "StairGang$History" (23 : Nat) ({ cls := "StairGang$State", name := "copy", desc := "(LStairGang$State;)V" } : Jvm.MethodName)) ∈ gw := lw_m4 151 rfl
set_option maxRecDepth 100000 in
theorem tb874 : (Jvm.Cond.instanceMethod ({ cls := "StairGang", name := "build", desc := "(I)I" } : Jvm.MethodName)) ∈ gw := lw_m4 154 rfl
set_option maxRecDepth 100000 in
theorem tb875 : (Jvm.Cond.selects "StairGang" ({ cls := "StairGang", name := "build", desc := "(I)I" } : Jvm.MethodName) ({ cls := "StairGang", name := "build", desc := "(I)I" } : Jvm.MethodName)) ∈ gw := lw_m4 155 rfl
set_option maxRecDepth 100000 in
theorem tb876 : (Jvm.Cond.code ({ cls := "StairGang", name := "build", desc := "(I)I" } : Jvm.MethodName) prog_1_method_12_code (3 : Nat) (Option.some Jvm.ClassFile.FieldType.int)) ∈ gw := lw_m4 156 rfl
set_option maxRecDepth 100000 in
theorem tb877 : (Jvm.Cond.methodLink "StairGang" (180 : Nat) ({ cls := "StairGang$State", name := "builds", desc := "(LStairGang$Town;I)I" } : Jvm.MethodName)) ∈ gw := lw_m4 157 rfl
set_option maxRecDepth 100000 in
theorem tb878 : (Jvm.Cond.instanceMethod ({ cls := "StairGang$State", name := "builds", desc := "(LStairGang$Town;I)I" } : Jvm.MethodName)) ∈ gw := lw_m4 158 rfl
set_option maxRecDepth 100000 in
theorem tb879 : (Jvm.Cond.selects "StairGang$State" ({ cls := "StairGang$State", name := "builds", desc := "(LStairGang$Town;I)I" } : Jvm.MethodName) ({ cls := "StairGang$State", name := "builds", desc := "(LStairGang$Town;I)I" } : Jvm.MethodName)) ∈ gw := lw_m4 159 rfl
set_option maxRecDepth 100000 in
theorem tb880 : (Jvm.Cond.code ({ cls := "StairGang$State", name := "builds", desc := "(LStairGang$Town;I)I" } : Jvm.MethodName) prog_8_method_10_code (3 : Nat) (Option.some Jvm.ClassFile.FieldType.int)) ∈ gw := lw_m4 160 rfl
set_option maxRecDepth 100000 in
theorem tb882 : (Jvm.Cond.instanceMethod ({ cls := "StairGang", name := "go", desc := "(II)Z" } : Jvm.MethodName)) ∈ gw := lw_m4 162 rfl
set_option maxRecDepth 100000 in
theorem tb883 : (Jvm.Cond.selects "StairGang" ({ cls := "StairGang", name := "go", desc := "(II)Z" } : Jvm.MethodName) ({ cls := "StairGang", name := "go", desc := "(II)Z" } : Jvm.MethodName)) ∈ gw := lw_m4 163 rfl
set_option maxRecDepth 100000 in
theorem tb884 : (Jvm.Cond.code ({ cls := "StairGang", name := "go", desc := "(II)Z" } : Jvm.MethodName) prog_1_method_13_code (4 : Nat) (Option.some Jvm.ClassFile.FieldType.boolean)) ∈ gw := lw_m4 164 rfl
set_option maxRecDepth 100000 in
theorem tb885 : (Jvm.Cond.methodLink "StairGang" (183 : Nat) ({ cls := "StairGang$State", name := "goes", desc := "(LStairGang$Town;II)Z" } : Jvm.MethodName)) ∈ gw := lw_m4 165 rfl
set_option maxRecDepth 100000 in
theorem tb886 : (Jvm.Cond.instanceMethod ({ cls := "StairGang$State", name := "goes", desc := "(LStairGang$Town;II)Z" } : Jvm.MethodName)) ∈ gw := lw_m4 166 rfl
set_option maxRecDepth 100000 in
theorem tb887 : (Jvm.Cond.selects "StairGang$State" ({ cls := "StairGang$State", name := "goes", desc := "(LStairGang$Town;II)Z" } : Jvm.MethodName) ({ cls := "StairGang$State", name := "goes", desc := "(LStairGang$Town;II)Z" } : Jvm.MethodName)) ∈ gw := lw_m4 167 rfl
set_option maxRecDepth 100000 in
theorem tb888 : (Jvm.Cond.code ({ cls := "StairGang$State", name := "goes", desc := "(LStairGang$Town;II)Z" } : Jvm.MethodName) prog_8_method_11_code (4 : Nat) (Option.some Jvm.ClassFile.FieldType.boolean)) ∈ gw := lw_m4 168 rfl
set_option maxRecDepth 100000 in
theorem tb889 : (Jvm.Cond.methodLink "StairGang$State" (107 : Nat) ({ cls := "StairGang$State", name := "open", desc := "(LStairGang$Town;II)I" } : Jvm.MethodName)) ∈ gw := lw_m4 169 rfl
set_option maxRecDepth 100000 in
theorem tb891 : (Jvm.Cond.instanceMethod ({ cls := "StairGang", name := "carry", desc := "(III)Z" } : Jvm.MethodName)) ∈ gw := lw_m4 171 rfl
set_option maxRecDepth 100000 in
theorem tb892 : (Jvm.Cond.selects "StairGang" ({ cls := "StairGang", name := "carry", desc := "(III)Z" } : Jvm.MethodName) ({ cls := "StairGang", name := "carry", desc := "(III)Z" } : Jvm.MethodName)) ∈ gw := lw_m4 172 rfl
set_option maxRecDepth 100000 in
theorem tb893 : (Jvm.Cond.code ({ cls := "StairGang", name := "carry", desc := "(III)Z" } : Jvm.MethodName) prog_1_method_14_code (5 : Nat) (Option.some Jvm.ClassFile.FieldType.boolean)) ∈ gw := lw_m4 173 rfl
set_option maxRecDepth 100000 in
theorem tb894 : (Jvm.Cond.methodLink "StairGang" (187 : Nat) ({ cls := "StairGang$State", name := "carries", desc := "(LStairGang$Town;III)Z" } : Jvm.MethodName)) ∈ gw := lw_m4 174 rfl
set_option maxRecDepth 100000 in
theorem tb895 : (Jvm.Cond.instanceMethod ({ cls := "StairGang$State", name := "carries", desc := "(LStairGang$Town;III)Z" } : Jvm.MethodName)) ∈ gw := lw_m4 175 rfl
set_option maxRecDepth 100000 in
theorem tb896 : (Jvm.Cond.selects "StairGang$State" ({ cls := "StairGang$State", name := "carries", desc := "(LStairGang$Town;III)Z" } : Jvm.MethodName) ({ cls := "StairGang$State", name := "carries", desc := "(LStairGang$Town;III)Z" } : Jvm.MethodName)) ∈ gw := lw_m4 176 rfl
set_option maxRecDepth 100000 in
theorem tb897 : (Jvm.Cond.code ({ cls := "StairGang$State", name := "carries", desc := "(LStairGang$Town;III)Z" } : Jvm.MethodName) prog_8_method_12_code (5 : Nat) (Option.some Jvm.ClassFile.FieldType.boolean)) ∈ gw := lw_m4 177 rfl
set_option maxRecDepth 100000 in
theorem tb899 : (Jvm.Cond.instanceMethod ({ cls := "StairGang", name := "night", desc := "()I" } : Jvm.MethodName)) ∈ gw := lw_m4 179 rfl
set_option maxRecDepth 100000 in
theorem tb900 : (Jvm.Cond.selects "StairGang" ({ cls := "StairGang", name := "night", desc := "()I" } : Jvm.MethodName) ({ cls := "StairGang", name := "night", desc := "()I" } : Jvm.MethodName)) ∈ gw := lw_m4 180 rfl
set_option maxRecDepth 100000 in
theorem tb901 : (Jvm.Cond.code ({ cls := "StairGang", name := "night", desc := "()I" } : Jvm.MethodName) prog_1_method_15_code (1 : Nat) (Option.some Jvm.ClassFile.FieldType.int)) ∈ gw := lw_m4 181 rfl
set_option maxRecDepth 100000 in
theorem tb903 : (Jvm.Cond.instanceMethod ({ cls := "StairGang", name := "undo", desc := "()Z" } : Jvm.MethodName)) ∈ gw := lw_m4 183 rfl
set_option maxRecDepth 100000 in
theorem tb904 : (Jvm.Cond.selects "StairGang" ({ cls := "StairGang", name := "undo", desc := "()Z" } : Jvm.MethodName) ({ cls := "StairGang", name := "undo", desc := "()Z" } : Jvm.MethodName)) ∈ gw := lw_m4 184 rfl
set_option maxRecDepth 100000 in
theorem tb905 : (Jvm.Cond.code ({ cls := "StairGang", name := "undo", desc := "()Z" } : Jvm.MethodName) prog_1_method_16_code (1 : Nat) (Option.some Jvm.ClassFile.FieldType.boolean)) ∈ gw := lw_m4 185 rfl
set_option maxRecDepth 100000 in
theorem tb906 : (Jvm.Cond.methodLink "StairGang" (194 : Nat) ({ cls := "StairGang$History", name := "takeBack", desc := "(LStairGang$State;)Z" } : Jvm.MethodName)) ∈ gw := lw_m4 186 rfl
set_option maxRecDepth 100000 in
theorem tb907 : (Jvm.Cond.instanceMethod ({ cls := "StairGang$History", name := "takeBack", desc := "(LStairGang$State;)Z" } : Jvm.MethodName)) ∈ gw := lw_m4 187 rfl
set_option maxRecDepth 100000 in
theorem tb908 : (Jvm.Cond.selects "StairGang$History" ({ cls := "StairGang$History", name := "takeBack", desc := "(LStairGang$State;)Z" } : Jvm.MethodName) ({ cls := "StairGang$History", name := "takeBack", desc := "(LStairGang$State;)Z" } : Jvm.MethodName)) ∈ gw := lw_m4 188 rfl
set_option maxRecDepth 100000 in
theorem tb909 : (Jvm.Cond.code ({ cls := "StairGang$History", name := "takeBack", desc := "(LStairGang$State;)Z" } : Jvm.MethodName) prog_3_method_4_code (2 : Nat) (Option.some Jvm.ClassFile.FieldType.boolean)) ∈ gw := lw_m4 189 rfl
set_option maxRecDepth 100000 in
theorem tb911 : (Jvm.Cond.instanceMethod ({ cls := "StairGang", name := "judged", desc := "(I)I" } : Jvm.MethodName)) ∈ gw := lw_m4 191 rfl
set_option maxRecDepth 100000 in
theorem tb912 : (Jvm.Cond.selects "StairGang" ({ cls := "StairGang", name := "judged", desc := "(I)I" } : Jvm.MethodName) ({ cls := "StairGang", name := "judged", desc := "(I)I" } : Jvm.MethodName)) ∈ gw := lw_m4 192 rfl
set_option maxRecDepth 100000 in
theorem tb913 : (Jvm.Cond.code ({ cls := "StairGang", name := "judged", desc := "(I)I" } : Jvm.MethodName) prog_1_method_17_code (5 : Nat) (Option.some Jvm.ClassFile.FieldType.int)) ∈ gw := lw_m4 193 rfl
set_option maxRecDepth 100000 in
theorem tb914 : (Jvm.Cond.methodLink "StairGang" (202 : Nat) ({ cls := "StairGang$State", name := "does", desc := "(LStairGang$Town;[II)Z" } : Jvm.MethodName)) ∈ gw := lw_m4 194 rfl
set_option maxRecDepth 100000 in
theorem tb915 : (Jvm.Cond.instanceMethod ({ cls := "StairGang$State", name := "does", desc := "(LStairGang$Town;[II)Z" } : Jvm.MethodName)) ∈ gw := lw_m4 195 rfl
set_option maxRecDepth 100000 in
theorem tb916 : (Jvm.Cond.selects "StairGang$State" ({ cls := "StairGang$State", name := "does", desc := "(LStairGang$Town;[II)Z" } : Jvm.MethodName) ({ cls := "StairGang$State", name := "does", desc := "(LStairGang$Town;[II)Z" } : Jvm.MethodName)) ∈ gw := lw_m4 196 rfl
set_option maxRecDepth 100000 in
theorem tb917 : (Jvm.Cond.code ({ cls := "StairGang$State", name := "does", desc := "(LStairGang$Town;[II)Z" } : Jvm.MethodName) prog_8_method_13_code (4 : Nat) (Option.some Jvm.ClassFile.FieldType.boolean)) ∈ gw := lw_m4 197 rfl
set_option maxRecDepth 100000 in
theorem tb918 : (Jvm.Cond.methodLink "StairGang$State" (112 : Nat) ({ cls := "StairGang$State", name := "steals", desc := "(LStairGang$Town;I)I" } : Jvm.MethodName)) ∈ gw := lw_m4 198 rfl
set_option maxRecDepth 100000 in
theorem tb919 : (Jvm.Cond.methodLink "StairGang$State" (116 : Nat) ({ cls := "StairGang$State", name := "builds", desc := "(LStairGang$Town;I)I" } : Jvm.MethodName)) ∈ gw := lw_m4 199 rfl
set_option maxRecDepth 100000 in
theorem tb920 : (Jvm.Cond.methodLink "StairGang$State" (119 : Nat) ({ cls := "StairGang$State", name := "goes", desc := "(LStairGang$Town;II)Z" } : Jvm.MethodName)) ∈ gw := lw_m4 200 rfl
set_option maxRecDepth 100000 in
theorem tb921 : (Jvm.Cond.methodLink "StairGang$State" (123 : Nat) ({ cls := "StairGang$State", name := "carries", desc := "(LStairGang$Town;III)Z" } : Jvm.MethodName)) ∈ gw := lw_m4 201 rfl
set_option maxRecDepth 100000 in
theorem tb923 : (Jvm.Cond.instanceMethod ({ cls := "StairGang", name := "alone", desc := "(I)I" } : Jvm.MethodName)) ∈ gw := lw_m4 203 rfl
set_option maxRecDepth 100000 in
theorem tb924 : (Jvm.Cond.selects "StairGang" ({ cls := "StairGang", name := "alone", desc := "(I)I" } : Jvm.MethodName) ({ cls := "StairGang", name := "alone", desc := "(I)I" } : Jvm.MethodName)) ∈ gw := lw_m4 204 rfl
set_option maxRecDepth 100000 in
theorem tb925 : (Jvm.Cond.code ({ cls := "StairGang", name := "alone", desc := "(I)I" } : Jvm.MethodName) prog_1_method_18_code (3 : Nat) (Option.some Jvm.ClassFile.FieldType.int)) ∈ gw := lw_m4 205 rfl
set_option maxRecDepth 100000 in
theorem tb927 : (Jvm.Cond.instanceMethod ({ cls := "StairGang", name := "plan", desc := "(I)I" } : Jvm.MethodName)) ∈ gw := lw_m4 207 rfl
set_option maxRecDepth 100000 in
theorem tb928 : (Jvm.Cond.selects "StairGang" ({ cls := "StairGang", name := "plan", desc := "(I)I" } : Jvm.MethodName) ({ cls := "StairGang", name := "plan", desc := "(I)I" } : Jvm.MethodName)) ∈ gw := lw_m4 208 rfl
set_option maxRecDepth 100000 in
theorem tb929 : (Jvm.Cond.code ({ cls := "StairGang", name := "plan", desc := "(I)I" } : Jvm.MethodName) prog_1_method_19_code (6 : Nat) (Option.some Jvm.ClassFile.FieldType.int)) ∈ gw := lw_m4 209 rfl
set_option maxRecDepth 100000 in
theorem tb930 : (Jvm.Cond.methodLink "StairGang" (212 : Nat) ({ cls := "StairGang$Town", name := "all", desc := "()I" } : Jvm.MethodName)) ∈ gw := lw_m4 210 rfl
set_option maxRecDepth 100000 in
theorem tb932 : (Jvm.Cond.instanceMethod ({ cls := "StairGang", name := "thefts", desc := "(III)I" } : Jvm.MethodName)) ∈ gw := lw_m4 212 rfl
set_option maxRecDepth 100000 in
theorem tb933 : (Jvm.Cond.selects "StairGang" ({ cls := "StairGang", name := "thefts", desc := "(III)I" } : Jvm.MethodName) ({ cls := "StairGang", name := "thefts", desc := "(III)I" } : Jvm.MethodName)) ∈ gw := lw_m4 213 rfl
set_option maxRecDepth 100000 in
theorem tb934 : (Jvm.Cond.code ({ cls := "StairGang", name := "thefts", desc := "(III)I" } : Jvm.MethodName) prog_1_method_20_code (9 : Nat) (Option.some Jvm.ClassFile.FieldType.int)) ∈ gw := lw_m4 214 rfl
set_option maxRecDepth 100000 in
theorem tb935 : (Jvm.Cond.methodLink "StairGang" (219 : Nat) ({ cls := "java/lang/Integer", name := "bitCount", desc := "(I)I" } : Jvm.MethodName)) ∈ gw := lw_m4 215 rfl
set_option maxRecDepth 100000 in
theorem tb936 : (Jvm.Cond.methodLink "StairGang" (224 : Nat) ({ cls := "StairGang$Town", name := "fromTop", desc := "(II)Z" } : Jvm.MethodName)) ∈ gw := lw_m4 216 rfl
set_option maxRecDepth 100000 in
theorem tb938 : (Jvm.Cond.instanceMethod ({ cls := "StairGang", name := "see", desc := "(IIZ)Z" } : Jvm.MethodName)) ∈ gw := lw_m4 218 rfl
set_option maxRecDepth 100000 in
theorem tb939 : (Jvm.Cond.selects "StairGang" ({ cls := "StairGang", name := "see", desc := "(IIZ)Z" } : Jvm.MethodName) ({ cls := "StairGang", name := "see", desc := "(IIZ)Z" } : Jvm.MethodName)) ∈ gw := lw_m4 219 rfl
set_option maxRecDepth 100000 in
theorem tb940 : (Jvm.Cond.code ({ cls := "StairGang", name := "see", desc := "(IIZ)Z" } : Jvm.MethodName) prog_1_method_21_code (5 : Nat) (Option.some Jvm.ClassFile.FieldType.boolean)) ∈ gw := lw_m4 220 rfl
set_option maxRecDepth 100000 in
theorem tb941 : (Jvm.Cond.methodLink "StairGang" (227 : Nat) ({ cls := "StairGang$Town", name := "isPlace", desc := "(I)Z" } : Jvm.MethodName)) ∈ gw := lw_m4 221 rfl
set_option maxRecDepth 100000 in
theorem tb942 : (Jvm.Cond.methodLink "StairGang" (231 : Nat) ({ cls := "StairGang$State", name := "climbs", desc := "(LStairGang$Town;II)I" } : Jvm.MethodName)) ∈ gw := lw_m4 222 rfl
set_option maxRecDepth 100000 in
theorem tb943 : (Jvm.Cond.methodLink "StairGang" (234 : Nat) ({ cls := "StairGang$Said", name := "addSeen", desc := "(IZ)Z" } : Jvm.MethodName)) ∈ gw := lw_m4 223 rfl
set_option maxRecDepth 100000 in
theorem tb944 : (Jvm.Cond.instanceMethod ({ cls := "StairGang$Said", name := "addSeen", desc := "(IZ)Z" } : Jvm.MethodName)) ∈ gw := lw_m4 224 rfl
set_option maxRecDepth 100000 in
theorem tb945 : (Jvm.Cond.selects "StairGang$Said" ({ cls := "StairGang$Said", name := "addSeen", desc := "(IZ)Z" } : Jvm.MethodName) ({ cls := "StairGang$Said", name := "addSeen", desc := "(IZ)Z" } : Jvm.MethodName)) ∈ gw := lw_m4 225 rfl
set_option maxRecDepth 100000 in
theorem tb946 : (Jvm.Cond.code ({ cls := "StairGang$Said", name := "addSeen", desc := "(IZ)Z" } : Jvm.MethodName) prog_7_method_5_code (3 : Nat) (Option.some Jvm.ClassFile.FieldType.boolean)) ∈ gw := lw_m4 226 rfl
set_option maxRecDepth 100000 in
theorem tb948 : (Jvm.Cond.instanceMethod ({ cls := "StairGang", name := "fits", desc := "(I)I" } : Jvm.MethodName)) ∈ gw := lw_m4 228 rfl
set_option maxRecDepth 100000 in
theorem tb949 : (Jvm.Cond.selects "StairGang" ({ cls := "StairGang", name := "fits", desc := "(I)I" } : Jvm.MethodName) ({ cls := "StairGang", name := "fits", desc := "(I)I" } : Jvm.MethodName)) ∈ gw := lw_m4 229 rfl
set_option maxRecDepth 100000 in
theorem tb950 : (Jvm.Cond.code ({ cls := "StairGang", name := "fits", desc := "(I)I" } : Jvm.MethodName) prog_1_method_22_code (7 : Nat) (Option.some Jvm.ClassFile.FieldType.int)) ∈ gw := lw_m4 230 rfl
set_option maxRecDepth 100000 in
theorem tb951 : (Jvm.Cond.methodLink "StairGang" (238 : Nat) ({ cls := "StairGang$Said", name := "isSo", desc := "(I)Z" } : Jvm.MethodName)) ∈ gw := lw_m4 231 rfl
set_option maxRecDepth 100000 in
theorem tb952 : (Jvm.Cond.instanceMethod ({ cls := "StairGang$Said", name := "isSo", desc := "(I)Z" } : Jvm.MethodName)) ∈ gw := lw_m4 232 rfl
set_option maxRecDepth 100000 in
theorem tb953 : (Jvm.Cond.selects "StairGang$Said" ({ cls := "StairGang$Said", name := "isSo", desc := "(I)Z" } : Jvm.MethodName) ({ cls := "StairGang$Said", name := "isSo", desc := "(I)Z" } : Jvm.MethodName)) ∈ gw := lw_m4 233 rfl
set_option maxRecDepth 100000 in
theorem tb954 : (Jvm.Cond.code ({ cls := "StairGang$Said", name := "isSo", desc := "(I)Z" } : Jvm.MethodName) prog_7_method_6_code (5 : Nat) (Option.some Jvm.ClassFile.FieldType.boolean)) ∈ gw := lw_m4 234 rfl
set_option maxRecDepth 100000 in
theorem tb956 : (Jvm.Cond.instanceMethod ({ cls := "StairGang", name := "orders", desc := "(I)I" } : Jvm.MethodName)) ∈ gw := lw_m4 236 rfl
set_option maxRecDepth 100000 in
theorem tb957 : (Jvm.Cond.selects "StairGang" ({ cls := "StairGang", name := "orders", desc := "(I)I" } : Jvm.MethodName) ({ cls := "StairGang", name := "orders", desc := "(I)I" } : Jvm.MethodName)) ∈ gw := lw_m4 237 rfl
set_option maxRecDepth 100000 in
theorem tb958 : (Jvm.Cond.code ({ cls := "StairGang", name := "orders", desc := "(I)I" } : Jvm.MethodName) prog_1_method_23_code (3 : Nat) (Option.some Jvm.ClassFile.FieldType.int)) ∈ gw := lw_m4 238 rfl
set_option maxRecDepth 100000 in
theorem tb959 : (Jvm.Cond.methodLink "StairGang" (241 : Nat) ({ cls := "StairGang$Orders", name := "choose", desc := "(LStairGang$Town;I)V" } : Jvm.MethodName)) ∈ gw := lw_m4 239 rfl
set_option maxRecDepth 100000 in
theorem tb960 : (Jvm.Cond.instanceMethod ({ cls := "StairGang$Orders", name := "choose", desc := "(LStairGang$Town;I)V" } : Jvm.MethodName)) ∈ gw := lw_m5 0 rfl
set_option maxRecDepth 100000 in
theorem tb961 : (Jvm.Cond.selects "StairGang$Orders" ({ cls := "StairGang$Orders", name := "choose", desc := "(LStairGang$Town;I)V" } : Jvm.MethodName) ({ cls := "StairGang$Orders", name := "choose", desc := "(LStairGang$Town;I)V" } : Jvm.MethodName)) ∈ gw := lw_m5 1 rfl
set_option maxRecDepth 100000 in
theorem tb962 : (Jvm.Cond.code ({ cls := "StairGang$Orders", name := "choose", desc := "(LStairGang$Town;I)V" } : Jvm.MethodName) prog_5_method_2_code (4 : Nat) (Option.none : Option Jvm.ClassFile.FieldType)) ∈ gw := lw_m5 2 rfl
set_option maxRecDepth 100000 in
theorem tb963 : (Jvm.Cond.methodLink "StairGang" (246 : Nat) ({ cls := "StairGang$Orders", name := "pack", desc := "(LStairGang$Town;)V" } : Jvm.MethodName)) ∈ gw := lw_m5 3 rfl
set_option maxRecDepth 100000 in
theorem tb964 : (Jvm.Cond.instanceMethod ({ cls := "StairGang$Orders", name := "pack", desc := "(LStairGang$Town;)V" } : Jvm.MethodName)) ∈ gw := lw_m5 4 rfl
set_option maxRecDepth 100000 in
theorem tb965 : (Jvm.Cond.selects "StairGang$Orders" ({ cls := "StairGang$Orders", name := "pack", desc := "(LStairGang$Town;)V" } : Jvm.MethodName) ({ cls := "StairGang$Orders", name := "pack", desc := "(LStairGang$Town;)V" } : Jvm.MethodName)) ∈ gw := lw_m5 5 rfl
set_option maxRecDepth 100000 in
theorem tb966 : (Jvm.Cond.code ({ cls := "StairGang$Orders", name := "pack", desc := "(LStairGang$Town;)V" } : Jvm.MethodName) prog_5_method_3_code (4 : Nat) (Option.none : Option Jvm.ClassFile.FieldType)) ∈ gw := lw_m5 6 rfl
set_option maxRecDepth 100000 in
theorem tb967 : (Jvm.Cond.methodLink "StairGang$Orders" (34 : Nat) ({ cls := "StairGang$Orders", name := "fillSums", desc := "(LStairGang$Town;)V" } : Jvm.MethodName)) ∈ gw := lw_m5 7 rfl
set_option maxRecDepth 100000 in
theorem tb969 : (Jvm.Cond.instanceMethod ({ cls := "StairGang$Orders", name := "fillSums", desc := "(LStairGang$Town;)V" } : Jvm.MethodName)) ∈ gw := lw_m5 9 rfl
set_option maxRecDepth 100000 in
theorem tb970 : (Jvm.Cond.code ({ cls := "StairGang$Orders", name := "fillSums", desc := "(LStairGang$Town;)V" } : Jvm.MethodName) prog_5_method_4_code (7 : Nat) (Option.none : Option Jvm.ClassFile.FieldType)) ∈ gw := lw_m5 10 rfl
set_option maxRecDepth 100000 in
theorem tb971 : (Jvm.Cond.constantLong "StairGang$Orders" (38 : Nat) (-4 : Int64)) ∈ gw := lw_m5 11 rfl
set_option maxRecDepth 100000 in
theorem tb972 : (Jvm.Cond.methodLink "StairGang$Orders" (40 : Nat) ({ cls := "StairGang$Orders", name := "bestWith", desc := "(LStairGang$Town;II)J" } : Jvm.MethodName)) ∈ gw := lw_m5 12 rfl
set_option maxRecDepth 100000 in
theorem tb974 : (Jvm.Cond.instanceMethod ({ cls := "StairGang$Orders", name := "bestWith", desc := "(LStairGang$Town;II)J" } : Jvm.MethodName)) ∈ gw := lw_m5 14 rfl
set_option maxRecDepth 100000 in
theorem tb975 : (Jvm.Cond.code ({ cls := "StairGang$Orders", name := "bestWith", desc := "(LStairGang$Town;II)J" } : Jvm.MethodName) prog_5_method_5_code (11 : Nat) (Option.some Jvm.ClassFile.FieldType.long)) ∈ gw := lw_m5 15 rfl
set_option maxRecDepth 100000 in
theorem tb976 : (Jvm.Cond.constantLong "StairGang$Orders" (51 : Nat) (67108864 : Int64)) ∈ gw := lw_m5 16 rfl
set_option maxRecDepth 100000 in
theorem tb977 : (Jvm.Cond.constantLong "StairGang$Orders" (53 : Nat) (131072 : Int64)) ∈ gw := lw_m5 17 rfl
set_option maxRecDepth 100000 in
theorem tb981 : (Jvm.Cond.methodLink "StairGang" (249 : Nat) ({ cls := "StairGang$Orders", name := "pay", desc := "()I" } : Jvm.MethodName)) ∈ gw := lw_m5 21 rfl
set_option maxRecDepth 100000 in
theorem tb982 : (Jvm.Cond.instanceMethod ({ cls := "StairGang$Orders", name := "pay", desc := "()I" } : Jvm.MethodName)) ∈ gw := lw_m5 22 rfl
set_option maxRecDepth 100000 in
theorem tb983 : (Jvm.Cond.selects "StairGang$Orders" ({ cls := "StairGang$Orders", name := "pay", desc := "()I" } : Jvm.MethodName) ({ cls := "StairGang$Orders", name := "pay", desc := "()I" } : Jvm.MethodName)) ∈ gw := lw_m5 23 rfl
set_option maxRecDepth 100000 in
theorem tb984 : (Jvm.Cond.code ({ cls := "StairGang$Orders", name := "pay", desc := "()I" } : Jvm.MethodName) prog_5_method_7_code (1 : Nat) (Option.some Jvm.ClassFile.FieldType.int)) ∈ gw := lw_m5 24 rfl
set_option maxRecDepth 100000 in
theorem tb985 : (Jvm.Cond.methodLink "StairGang$Orders" (61 : Nat) ({ cls := "StairGang$Orders", name := "whole", desc := "()J" } : Jvm.MethodName)) ∈ gw := lw_m5 25 rfl
set_option maxRecDepth 100000 in
theorem tb987 : (Jvm.Cond.instanceMethod ({ cls := "StairGang$Orders", name := "whole", desc := "()J" } : Jvm.MethodName)) ∈ gw := lw_m5 27 rfl
set_option maxRecDepth 100000 in
theorem tb988 : (Jvm.Cond.code ({ cls := "StairGang$Orders", name := "whole", desc := "()J" } : Jvm.MethodName) prog_5_method_6_code (1 : Nat) (Option.some Jvm.ClassFile.FieldType.long)) ∈ gw := lw_m5 28 rfl
set_option maxRecDepth 100000 in
theorem tb989 : (Jvm.Cond.methodLink "StairGang" (252 : Nat) ({ cls := "StairGang$Orders", name := "rise", desc := "()I" } : Jvm.MethodName)) ∈ gw := lw_m5 29 rfl
set_option maxRecDepth 100000 in
theorem tb990 : (Jvm.Cond.instanceMethod ({ cls := "StairGang$Orders", name := "rise", desc := "()I" } : Jvm.MethodName)) ∈ gw := lw_m5 30 rfl
set_option maxRecDepth 100000 in
theorem tb991 : (Jvm.Cond.selects "StairGang$Orders" ({ cls := "StairGang$Orders", name := "rise", desc := "()I" } : Jvm.MethodName) ({ cls := "StairGang$Orders", name := "rise", desc := "()I" } : Jvm.MethodName)) ∈ gw := lw_m5 31 rfl
set_option maxRecDepth 100000 in
theorem tb992 : (Jvm.Cond.code ({ cls := "StairGang$Orders", name := "rise", desc := "()I" } : Jvm.MethodName) prog_5_method_8_code (1 : Nat) (Option.some Jvm.ClassFile.FieldType.int)) ∈ gw := lw_m5 32 rfl
set_option maxRecDepth 100000 in
theorem tb993 : (Jvm.Cond.methodLink "StairGang$Orders" (65 : Nat) ({ cls := "StairGang$Orders", name := "pay", desc := "()I" } : Jvm.MethodName)) ∈ gw := lw_m5 33 rfl
set_option maxRecDepth 100000 in
theorem tb994 : (Jvm.Cond.methodLink "StairGang" (255 : Nat) ({ cls := "StairGang$Orders", name := "hillOf", desc := "(I)I" } : Jvm.MethodName)) ∈ gw := lw_m5 34 rfl
set_option maxRecDepth 100000 in
theorem tb995 : (Jvm.Cond.instanceMethod ({ cls := "StairGang$Orders", name := "hillOf", desc := "(I)I" } : Jvm.MethodName)) ∈ gw := lw_m5 35 rfl
set_option maxRecDepth 100000 in
theorem tb996 : (Jvm.Cond.selects "StairGang$Orders" ({ cls := "StairGang$Orders", name := "hillOf", desc := "(I)I" } : Jvm.MethodName) ({ cls := "StairGang$Orders", name := "hillOf", desc := "(I)I" } : Jvm.MethodName)) ∈ gw := lw_m5 36 rfl
set_option maxRecDepth 100000 in
theorem tb997 : (Jvm.Cond.code ({ cls := "StairGang$Orders", name := "hillOf", desc := "(I)I" } : Jvm.MethodName) prog_5_method_9_code (5 : Nat) (Option.some Jvm.ClassFile.FieldType.int)) ∈ gw := lw_m5 37 rfl
set_option maxRecDepth 100000 in
theorem tb998 : (Jvm.Cond.constantLong "StairGang$Orders" (69 : Nat) (5 : Int64)) ∈ gw := lw_m5 38 rfl
set_option maxRecDepth 100000 in
theorem tb1000 : (Jvm.Cond.instanceMethod ({ cls := "StairGang", name := "post", desc := "(II)I" } : Jvm.MethodName)) ∈ gw := lw_m5 40 rfl
set_option maxRecDepth 100000 in
theorem tb1001 : (Jvm.Cond.selects "StairGang" ({ cls := "StairGang", name := "post", desc := "(II)I" } : Jvm.MethodName) ({ cls := "StairGang", name := "post", desc := "(II)I" } : Jvm.MethodName)) ∈ gw := lw_m5 41 rfl
set_option maxRecDepth 100000 in
theorem tb1002 : (Jvm.Cond.code ({ cls := "StairGang", name := "post", desc := "(II)I" } : Jvm.MethodName) prog_1_method_24_code (7 : Nat) (Option.some Jvm.ClassFile.FieldType.int)) ∈ gw := lw_m5 42 rfl
set_option maxRecDepth 100000 in
theorem tb1003 : (Jvm.Cond.methodLink "StairGang" (258 : Nat) ({ cls := "StairGang", name := "afterRound", desc := "(I)I" } : Jvm.MethodName)) ∈ gw := lw_m5 43 rfl
set_option maxRecDepth 100000 in
theorem tb1005 : (Jvm.Cond.instanceMethod ({ cls := "StairGang", name := "afterRound", desc := "(I)I" } : Jvm.MethodName)) ∈ gw := lw_m5 45 rfl
set_option maxRecDepth 100000 in
theorem tb1006 : (Jvm.Cond.code ({ cls := "StairGang", name := "afterRound", desc := "(I)I" } : Jvm.MethodName) prog_1_method_34_code (6 : Nat) (Option.some Jvm.ClassFile.FieldType.int)) ∈ gw := lw_m5 46 rfl
set_option maxRecDepth 100000 in
theorem tb1007 : (Jvm.Cond.methodLink "StairGang" (308 : Nat) ({ cls := "StairGang", name := "floorsBetween", desc := "(II)I" } : Jvm.MethodName)) ∈ gw := lw_m5 47 rfl
set_option maxRecDepth 100000 in
theorem tb1008 : (Jvm.Cond.static ({ cls := "StairGang", name := "floorsBetween", desc := "(II)I" } : Jvm.MethodName)) ∈ gw := lw_m5 48 rfl
set_option maxRecDepth 100000 in
theorem tb1009 : (Jvm.Cond.code ({ cls := "StairGang", name := "floorsBetween", desc := "(II)I" } : Jvm.MethodName) prog_1_method_35_code (2 : Nat) (Option.some Jvm.ClassFile.FieldType.int)) ∈ gw := lw_m5 49 rfl
set_option maxRecDepth 100000 in
theorem tb1014 : (Jvm.Cond.instanceMethod ({ cls := "StairGang", name := "watch", desc := "()I" } : Jvm.MethodName)) ∈ gw := lw_m5 54 rfl
set_option maxRecDepth 100000 in
theorem tb1015 : (Jvm.Cond.selects "StairGang" ({ cls := "StairGang", name := "watch", desc := "()I" } : Jvm.MethodName) ({ cls := "StairGang", name := "watch", desc := "()I" } : Jvm.MethodName)) ∈ gw := lw_m5 55 rfl
set_option maxRecDepth 100000 in
theorem tb1016 : (Jvm.Cond.code ({ cls := "StairGang", name := "watch", desc := "()I" } : Jvm.MethodName) prog_1_method_25_code (4 : Nat) (Option.some Jvm.ClassFile.FieldType.int)) ∈ gw := lw_m5 56 rfl
set_option maxRecDepth 100000 in
theorem tb1017 : (Jvm.Cond.methodLink "StairGang" (264 : Nat) ({ cls := "StairGang", name := "allSeenByTwo", desc := "(I)Z" } : Jvm.MethodName)) ∈ gw := lw_m5 57 rfl
set_option maxRecDepth 100000 in
theorem tb1019 : (Jvm.Cond.instanceMethod ({ cls := "StairGang", name := "allSeenByTwo", desc := "(I)Z" } : Jvm.MethodName)) ∈ gw := lw_m5 59 rfl
set_option maxRecDepth 100000 in
theorem tb1020 : (Jvm.Cond.code ({ cls := "StairGang", name := "allSeenByTwo", desc := "(I)Z" } : Jvm.MethodName) prog_1_method_36_code (3 : Nat) (Option.some Jvm.ClassFile.FieldType.boolean)) ∈ gw := lw_m5 60 rfl
set_option maxRecDepth 100000 in
theorem tb1021 : (Jvm.Cond.methodLink "StairGang" (267 : Nat) ({ cls := "StairGang$State", name := "isThere", desc := "(LStairGang$Town;I)Z" } : Jvm.MethodName)) ∈ gw := lw_m5 61 rfl
set_option maxRecDepth 100000 in
theorem tb1022 : (Jvm.Cond.methodLink "StairGang" (316 : Nat) ({ cls := "StairGang", name := "seersOf", desc := "(I)I" } : Jvm.MethodName)) ∈ gw := lw_m5 62 rfl
set_option maxRecDepth 100000 in
theorem tb1024 : (Jvm.Cond.instanceMethod ({ cls := "StairGang", name := "seersOf", desc := "(I)I" } : Jvm.MethodName)) ∈ gw := lw_m5 64 rfl
set_option maxRecDepth 100000 in
theorem tb1025 : (Jvm.Cond.code ({ cls := "StairGang", name := "seersOf", desc := "(I)I" } : Jvm.MethodName) prog_1_method_37_code (7 : Nat) (Option.some Jvm.ClassFile.FieldType.int)) ∈ gw := lw_m5 65 rfl
set_option maxRecDepth 100000 in
theorem tb1026 : (Jvm.Cond.methodLink "StairGang" (319 : Nat) ({ cls := "StairGang$Town", name := "lowerOf", desc := "(I)I" } : Jvm.MethodName)) ∈ gw := lw_m5 66 rfl
set_option maxRecDepth 100000 in
theorem tb1028 : (Jvm.Cond.instanceMethod ({ cls := "StairGang", name := "live", desc := "(III)I" } : Jvm.MethodName)) ∈ gw := lw_m5 68 rfl
set_option maxRecDepth 100000 in
theorem tb1029 : (Jvm.Cond.selects "StairGang" ({ cls := "StairGang", name := "live", desc := "(III)I" } : Jvm.MethodName) ({ cls := "StairGang", name := "live", desc := "(III)I" } : Jvm.MethodName)) ∈ gw := lw_m5 69 rfl
set_option maxRecDepth 100000 in
theorem tb1030 : (Jvm.Cond.code ({ cls := "StairGang", name := "live", desc := "(III)I" } : Jvm.MethodName) prog_1_method_27_code (4 : Nat) (Option.some Jvm.ClassFile.FieldType.int)) ∈ gw := lw_m5 70 rfl
set_option maxRecDepth 100000 in
theorem tb1031 : (Jvm.Cond.methodLink "StairGang" (287 : Nat) ({ cls := "StairGang$Chances", name := "spread", desc := "(LStairGang$Town;II)V" } : Jvm.MethodName)) ∈ gw := lw_m5 71 rfl
set_option maxRecDepth 100000 in
theorem tb1032 : (Jvm.Cond.instanceMethod ({ cls := "StairGang$Chances", name := "spread", desc := "(LStairGang$Town;II)V" } : Jvm.MethodName)) ∈ gw := lw_m5 72 rfl
set_option maxRecDepth 100000 in
theorem tb1033 : (Jvm.Cond.selects "StairGang$Chances" ({ cls := "StairGang$Chances", name := "spread", desc := "(LStairGang$Town;II)V" } : Jvm.MethodName) ({ cls := "StairGang$Chances", name := "spread", desc := "(LStairGang$Town;II)V" } : Jvm.MethodName)) ∈ gw := lw_m5 73 rfl
set_option maxRecDepth 100000 in
theorem tb1034 : (Jvm.Cond.code ({ cls := "StairGang$Chances", name := "spread", desc := "(LStairGang$Town;II)V" } : Jvm.MethodName) prog_2_method_2_code (6 : Nat) (Option.none : Option Jvm.ClassFile.FieldType)) ∈ gw := lw_m5 74 rfl
set_option maxRecDepth 100000 in
theorem tb1035 : (Jvm.Cond.constant "StairGang$Chances" (19 : Nat) (1000000 : Int32)) ∈ gw := lw_m5 75 rfl
set_option maxRecDepth 100000 in
theorem tb1036 : (Jvm.Cond.methodLink "StairGang$Chances" (29 : Nat) ({ cls := "StairGang$Chances", name := "stays", desc := "(II)I" } : Jvm.MethodName)) ∈ gw := lw_m5 76 rfl
set_option maxRecDepth 100000 in
theorem tb1037 : (Jvm.Cond.static ({ cls := "StairGang$Chances", name := "stays", desc := "(II)I" } : Jvm.MethodName)) ∈ gw := lw_m5 77 rfl
set_option maxRecDepth 100000 in
theorem tb1038 : (Jvm.Cond.code ({ cls := "StairGang$Chances", name := "stays", desc := "(II)I" } : Jvm.MethodName) prog_2_method_3_code (4 : Nat) (Option.some Jvm.ClassFile.FieldType.int)) ∈ gw := lw_m5 78 rfl
set_option maxRecDepth 100000 in
theorem tb1039 : (Jvm.Cond.methodLink "StairGang$Chances" (33 : Nat) ({ cls := "StairGang$Chances", name := "split", desc := "(IJ)V" } : Jvm.MethodName)) ∈ gw := lw_m5 79 rfl
set_option maxRecDepth 100000 in
theorem tb1041 : (Jvm.Cond.instanceMethod ({ cls := "StairGang$Chances", name := "split", desc := "(IJ)V" } : Jvm.MethodName)) ∈ gw := lw_m5 81 rfl
set_option maxRecDepth 100000 in
theorem tb1042 : (Jvm.Cond.code ({ cls := "StairGang$Chances", name := "split", desc := "(IJ)V" } : Jvm.MethodName) prog_2_method_4_code (8 : Nat) (Option.none : Option Jvm.ClassFile.FieldType)) ∈ gw := lw_m5 82 rfl
set_option maxRecDepth 100000 in
theorem tb1043 : (Jvm.Cond.constantLong "StairGang$Chances" (41 : Nat) (1000000 : Int64)) ∈ gw := lw_m5 83 rfl
set_option maxRecDepth 100000 in
theorem tb1044 : (Jvm.Cond.methodLink "StairGang$Chances" (37 : Nat) ({ cls := "StairGang$Chances", name := "addLarger", desc := "(II)V" } : Jvm.MethodName)) ∈ gw := lw_m5 84 rfl
set_option maxRecDepth 100000 in
theorem tb1046 : (Jvm.Cond.instanceMethod ({ cls := "StairGang$Chances", name := "addLarger", desc := "(II)V" } : Jvm.MethodName)) ∈ gw := lw_m5 86 rfl
set_option maxRecDepth 100000 in
theorem tb1047 : (Jvm.Cond.code ({ cls := "StairGang$Chances", name := "addLarger", desc := "(II)V" } : Jvm.MethodName) prog_2_method_5_code (4 : Nat) (Option.none : Option Jvm.ClassFile.FieldType)) ∈ gw := lw_m5 87 rfl
set_option maxRecDepth 100000 in
theorem tb1048 : (Jvm.Cond.methodLink "StairGang" (291 : Nat) ({ cls := "StairGang$Chances", name := "ofAll", desc := "(I)I" } : Jvm.MethodName)) ∈ gw := lw_m5 88 rfl
set_option maxRecDepth 100000 in
theorem tb1049 : (Jvm.Cond.instanceMethod ({ cls := "StairGang$Chances", name := "ofAll", desc := "(I)I" } : Jvm.MethodName)) ∈ gw := lw_m5 89 rfl
set_option maxRecDepth 100000 in
theorem tb1050 : (Jvm.Cond.selects "StairGang$Chances" ({ cls := "StairGang$Chances", name := "ofAll", desc := "(I)I" } : Jvm.MethodName) ({ cls := "StairGang$Chances", name := "ofAll", desc := "(I)I" } : Jvm.MethodName)) ∈ gw := lw_m5 90 rfl
set_option maxRecDepth 100000 in
theorem tb1051 : (Jvm.Cond.code ({ cls := "StairGang$Chances", name := "ofAll", desc := "(I)I" } : Jvm.MethodName) prog_2_method_6_code (2 : Nat) (Option.some Jvm.ClassFile.FieldType.int)) ∈ gw := lw_m5 91 rfl
set_option maxRecDepth 100000 in
theorem tb1053 : (Jvm.Cond.instanceMethod ({ cls := "StairGang", name := "best", desc := "(II)I" } : Jvm.MethodName)) ∈ gw := lw_m5 93 rfl
set_option maxRecDepth 100000 in
theorem tb1054 : (Jvm.Cond.selects "StairGang" ({ cls := "StairGang", name := "best", desc := "(II)I" } : Jvm.MethodName) ({ cls := "StairGang", name := "best", desc := "(II)I" } : Jvm.MethodName)) ∈ gw := lw_m5 94 rfl
set_option maxRecDepth 100000 in
theorem tb1055 : (Jvm.Cond.code ({ cls := "StairGang", name := "best", desc := "(II)I" } : Jvm.MethodName) prog_1_method_28_code (8 : Nat) (Option.some Jvm.ClassFile.FieldType.int)) ∈ gw := lw_m5 95 rfl
set_option maxRecDepth 100000 in
theorem tb1057 : (Jvm.Cond.instanceMethod ({ cls := "StairGang", name := "years", desc := "(III)I" } : Jvm.MethodName)) ∈ gw := lw_m5 97 rfl
set_option maxRecDepth 100000 in
theorem tb1058 : (Jvm.Cond.selects "StairGang" ({ cls := "StairGang", name := "years", desc := "(III)I" } : Jvm.MethodName) ({ cls := "StairGang", name := "years", desc := "(III)I" } : Jvm.MethodName)) ∈ gw := lw_m5 98 rfl
set_option maxRecDepth 100000 in
theorem tb1059 : (Jvm.Cond.code ({ cls := "StairGang", name := "years", desc := "(III)I" } : Jvm.MethodName) prog_1_method_29_code (6 : Nat) (Option.some Jvm.ClassFile.FieldType.int)) ∈ gw := lw_m5 99 rfl
set_option maxRecDepth 100000 in
theorem tb1060 : (Jvm.Cond.methodLink "StairGang" (298 : Nat) ({ cls := "StairGang", name := "passDrawnNight", desc := "()V" } : Jvm.MethodName)) ∈ gw := lw_m5 100 rfl
set_option maxRecDepth 100000 in
theorem tb1062 : (Jvm.Cond.instanceMethod ({ cls := "StairGang", name := "passDrawnNight", desc := "()V" } : Jvm.MethodName)) ∈ gw := lw_m5 102 rfl
set_option maxRecDepth 100000 in
theorem tb1063 : (Jvm.Cond.code ({ cls := "StairGang", name := "passDrawnNight", desc := "()V" } : Jvm.MethodName) prog_1_method_41_code (2 : Nat) (Option.none : Option Jvm.ClassFile.FieldType)) ∈ gw := lw_m5 103 rfl
set_option maxRecDepth 100000 in
theorem tb1064 : (Jvm.Cond.methodLink "StairGang" (329 : Nat) ({ cls := "StairGang", name := "draw", desc := "(I)I" } : Jvm.MethodName)) ∈ gw := lw_m5 104 rfl
set_option maxRecDepth 100000 in
theorem tb1066 : (Jvm.Cond.instanceMethod ({ cls := "StairGang", name := "draw", desc := "(I)I" } : Jvm.MethodName)) ∈ gw := lw_m5 106 rfl
set_option maxRecDepth 100000 in
theorem tb1067 : (Jvm.Cond.code ({ cls := "StairGang", name := "draw", desc := "(I)I" } : Jvm.MethodName) prog_1_method_43_code (2 : Nat) (Option.some Jvm.ClassFile.FieldType.int)) ∈ gw := lw_m5 107 rfl
set_option maxRecDepth 100000 in
theorem tb1068 : (Jvm.Cond.constantLong "StairGang" (335 : Nat) (1103515245 : Int64)) ∈ gw := lw_m5 108 rfl
set_option maxRecDepth 100000 in
theorem tb1069 : (Jvm.Cond.constantLong "StairGang" (337 : Nat) (12345 : Int64)) ∈ gw := lw_m5 109 rfl
set_option maxRecDepth 100000 in
theorem tb1070 : (Jvm.Cond.constantLong "StairGang" (339 : Nat) (2147483647 : Int64)) ∈ gw := lw_m5 110 rfl
set_option maxRecDepth 100000 in
theorem tb1071 : (Jvm.Cond.constantLong "StairGang" (341 : Nat) (65536 : Int64)) ∈ gw := lw_m5 111 rfl
set_option maxRecDepth 100000 in
theorem tb1072 : (Jvm.Cond.methodLink "StairGang" (332 : Nat) ({ cls := "StairGang", name := "firstGone", desc := "(I)I" } : Jvm.MethodName)) ∈ gw := lw_m5 112 rfl
set_option maxRecDepth 100000 in
theorem tb1074 : (Jvm.Cond.instanceMethod ({ cls := "StairGang", name := "firstGone", desc := "(I)I" } : Jvm.MethodName)) ∈ gw := lw_m5 114 rfl
set_option maxRecDepth 100000 in
theorem tb1075 : (Jvm.Cond.code ({ cls := "StairGang", name := "firstGone", desc := "(I)I" } : Jvm.MethodName) prog_1_method_42_code (3 : Nat) (Option.some Jvm.ClassFile.FieldType.int)) ∈ gw := lw_m5 115 rfl
set_option maxRecDepth 100000 in
theorem tb1077 : (Jvm.Cond.instanceMethod ({ cls := "StairGang", name := "mark", desc := "(IZ)Z" } : Jvm.MethodName)) ∈ gw := lw_m5 117 rfl
set_option maxRecDepth 100000 in
theorem tb1078 : (Jvm.Cond.selects "StairGang" ({ cls := "StairGang", name := "mark", desc := "(IZ)Z" } : Jvm.MethodName) ({ cls := "StairGang", name := "mark", desc := "(IZ)Z" } : Jvm.MethodName)) ∈ gw := lw_m5 118 rfl
set_option maxRecDepth 100000 in
theorem tb1079 : (Jvm.Cond.code ({ cls := "StairGang", name := "mark", desc := "(IZ)Z" } : Jvm.MethodName) prog_1_method_30_code (3 : Nat) (Option.some Jvm.ClassFile.FieldType.boolean)) ∈ gw := lw_m5 119 rfl
set_option maxRecDepth 100000 in
theorem tb1080 : (Jvm.Cond.methodLink "StairGang" (301 : Nat) ({ cls := "StairGang$Said", name := "copy", desc := "(LStairGang$Said;)V" } : Jvm.MethodName)) ∈ gw := lw_m5 120 rfl
set_option maxRecDepth 100000 in
theorem tb1081 : (Jvm.Cond.instanceMethod ({ cls := "StairGang$Said", name := "copy", desc := "(LStairGang$Said;)V" } : Jvm.MethodName)) ∈ gw := lw_m5 121 rfl
set_option maxRecDepth 100000 in
theorem tb1082 : (Jvm.Cond.selects "StairGang$Said" ({ cls := "StairGang$Said", name := "copy", desc := "(LStairGang$Said;)V" } : Jvm.MethodName) ({ cls := "StairGang$Said", name := "copy", desc := "(LStairGang$Said;)V" } : Jvm.MethodName)) ∈ gw := lw_m5 122 rfl
set_option maxRecDepth 100000 in
theorem tb1083 : (Jvm.Cond.code ({ cls := "StairGang$Said", name := "copy", desc := "(LStairGang$Said;)V" } : Jvm.MethodName) prog_7_method_3_code (2 : Nat) (Option.none : Option Jvm.ClassFile.FieldType)) ∈ gw := lw_m5 123 rfl
set_option maxRecDepth 100000 in
theorem tb1084 : (Jvm.Cond.methodLink "StairGang$Said" (28 : Nat) ({ cls := "StairGang$Said", name := "tell", desc := "([II)V" } : Jvm.MethodName)) ∈ gw := lw_m5 124 rfl
set_option maxRecDepth 100000 in
theorem tb1086 : (Jvm.Cond.instanceMethod ({ cls := "StairGang", name := "count", desc := "(I)I" } : Jvm.MethodName)) ∈ gw := lw_m5 126 rfl
set_option maxRecDepth 100000 in
theorem tb1087 : (Jvm.Cond.selects "StairGang" ({ cls := "StairGang", name := "count", desc := "(I)I" } : Jvm.MethodName) ({ cls := "StairGang", name := "count", desc := "(I)I" } : Jvm.MethodName)) ∈ gw := lw_m5 127 rfl
set_option maxRecDepth 100000 in
theorem tb1088 : (Jvm.Cond.code ({ cls := "StairGang", name := "count", desc := "(I)I" } : Jvm.MethodName) prog_1_method_31_code (2 : Nat) (Option.some Jvm.ClassFile.FieldType.int)) ∈ gw := lw_m5 128 rfl
set_option maxRecDepth 100000 in
theorem tb1094 : (Jvm.Cond.instanceMethod ({ cls := "StairGang", name := "rests", desc := "(IIII)I" } : Jvm.MethodName)) ∈ gw := lw_m5 134 rfl
set_option maxRecDepth 100000 in
theorem tb1095 : (Jvm.Cond.selects "StairGang" ({ cls := "StairGang", name := "rests", desc := "(IIII)I" } : Jvm.MethodName) ({ cls := "StairGang", name := "rests", desc := "(IIII)I" } : Jvm.MethodName)) ∈ gw := lw_m5 135 rfl
set_option maxRecDepth 100000 in
theorem tb1096 : (Jvm.Cond.code ({ cls := "StairGang", name := "rests", desc := "(IIII)I" } : Jvm.MethodName) prog_1_method_26_code (6 : Nat) (Option.some Jvm.ClassFile.FieldType.int)) ∈ gw := lw_m5 136 rfl
set_option maxRecDepth 100000 in
theorem tb1162 : (Jvm.Cond.methodLink "StairGang" (278 : Nat) ({ cls := "StairGang$Town", name := "worth", desc := "(II)I" } : Jvm.MethodName)) ∈ gw := lw_m5 202 rfl
set_option maxRecDepth 100000 in
theorem tb1163 : (Jvm.Cond.instanceMethod ({ cls := "StairGang$Town", name := "worth", desc := "(II)I" } : Jvm.MethodName)) ∈ gw := lw_m5 203 rfl
set_option maxRecDepth 100000 in
theorem tb1164 : (Jvm.Cond.selects "StairGang$Town" ({ cls := "StairGang$Town", name := "worth", desc := "(II)I" } : Jvm.MethodName) ({ cls := "StairGang$Town", name := "worth", desc := "(II)I" } : Jvm.MethodName)) ∈ gw := lw_m5 204 rfl
set_option maxRecDepth 100000 in
theorem tb1165 : (Jvm.Cond.code ({ cls := "StairGang$Town", name := "worth", desc := "(II)I" } : Jvm.MethodName) prog_10_method_22_code (4 : Nat) (Option.some Jvm.ClassFile.FieldType.int)) ∈ gw := lw_m5 205 rfl
set_option maxRecDepth 100000 in
theorem tb1166 : (Jvm.Cond.methodLink "StairGang" (281 : Nat) ({ cls := "StairGang", name := "findRest", desc := "(III)I" } : Jvm.MethodName)) ∈ gw := lw_m5 206 rfl
set_option maxRecDepth 100000 in
theorem tb1167 : (Jvm.Cond.static ({ cls := "StairGang", name := "findRest", desc := "(III)I" } : Jvm.MethodName)) ∈ gw := lw_m5 207 rfl
set_option maxRecDepth 100000 in
theorem tb1168 : (Jvm.Cond.code ({ cls := "StairGang", name := "findRest", desc := "(III)I" } : Jvm.MethodName) prog_1_method_38_code (7 : Nat) (Option.some Jvm.ClassFile.FieldType.int)) ∈ gw := lw_m5 208 rfl
set_option maxRecDepth 100000 in
theorem tb1169 : (Jvm.Cond.methodLink "StairGang" (322 : Nat) ({ cls := "StairGang", name := "firstRests", desc := "(III)Z" } : Jvm.MethodName)) ∈ gw := lw_m5 209 rfl
set_option maxRecDepth 100000 in
theorem tb1170 : (Jvm.Cond.static ({ cls := "StairGang", name := "firstRests", desc := "(III)Z" } : Jvm.MethodName)) ∈ gw := lw_m5 210 rfl
set_option maxRecDepth 100000 in
theorem tb1171 : (Jvm.Cond.code ({ cls := "StairGang", name := "firstRests", desc := "(III)Z" } : Jvm.MethodName) prog_1_method_39_code (5 : Nat) (Option.some Jvm.ClassFile.FieldType.boolean)) ∈ gw := lw_m5 211 rfl
set_option maxRecDepth 100000 in
theorem tb1172 : (Jvm.Cond.methodLink "StairGang" (326 : Nat) ({ cls := "StairGang", name := "secondRests", desc := "(III)Z" } : Jvm.MethodName)) ∈ gw := lw_m5 212 rfl
set_option maxRecDepth 100000 in
theorem tb1173 : (Jvm.Cond.static ({ cls := "StairGang", name := "secondRests", desc := "(III)Z" } : Jvm.MethodName)) ∈ gw := lw_m5 213 rfl
set_option maxRecDepth 100000 in
theorem tb1174 : (Jvm.Cond.code ({ cls := "StairGang", name := "secondRests", desc := "(III)Z" } : Jvm.MethodName) prog_1_method_40_code (5 : Nat) (Option.some Jvm.ClassFile.FieldType.boolean)) ∈ gw := lw_m5 214 rfl
set_option maxRecDepth 100000 in
theorem tb1182 : (Jvm.Cond.fieldLink "StairGangModel" (180 : Nat) "StairGangModel" "thrown" "I") ∈ gw := lw_m5 222 rfl
set_option maxRecDepth 100000 in
theorem tb1183 : (Jvm.Cond.fieldLink "StairGangModel" (186 : Nat) "StairGangModel" "taped" "I") ∈ gw := lw_m5 223 rfl
set_option maxRecDepth 100000 in
theorem tb1184 : (Jvm.Cond.fieldLink "StairGangModel" (7 : Nat) "StairGangModel" "tape" "[I") ∈ gw := lw_m5 224 rfl
set_option maxRecDepth 100000 in
theorem tb1185 : (Jvm.Cond.fieldLink "StairGangModel" (189 : Nat) "StairGangModel" "size" "I") ∈ gw := lw_m5 225 rfl
set_option maxRecDepth 100000 in
theorem tb1186 : (Jvm.Cond.fieldLink "StairGangModel" (192 : Nat) "StairGangModel" "place" "I") ∈ gw := lw_m5 226 rfl
set_option maxRecDepth 100000 in
theorem tb1187 : (Jvm.Cond.fieldLink "StairGangModel" (195 : Nat) "StairGangModel" "begin" "I") ∈ gw := lw_m5 227 rfl
set_option maxRecDepth 100000 in
theorem tb1188 : (Jvm.Cond.fieldLink "StairGangModel" (205 : Nat) "StairGangModel" "token" "I") ∈ gw := lw_m5 228 rfl
set_option maxRecDepth 100000 in
theorem tb1189 : (Jvm.Cond.fieldLink "StairGangModel" (198 : Nat) "StairGangModel" "word" "J") ∈ gw := lw_m5 229 rfl
set_option maxRecDepth 100000 in
theorem tb1190 : (Jvm.Cond.fieldLink "StairGangModel" (202 : Nat) "StairGangModel" "told" "I") ∈ gw := lw_m5 230 rfl
set_option maxRecDepth 100000 in
theorem tb1191 : (Jvm.Cond.fieldLink "StairGangModel" (216 : Nat) "StairGangModel" "wrong" "I") ∈ gw := lw_m5 231 rfl
set_option maxRecDepth 100000 in
theorem tb1192 : (Jvm.Cond.fieldLink "StairGangModel" (13 : Nat) "StairGangModel" "town" "[I") ∈ gw := lw_m5 232 rfl
set_option maxRecDepth 100000 in
theorem tb1193 : (Jvm.Cond.fieldLink "StairGangModel" (16 : Nat) "StairGangModel" "houseName" "[J") ∈ gw := lw_m5 233 rfl
set_option maxRecDepth 100000 in
theorem tb1194 : (Jvm.Cond.fieldLink "StairGangModel" (20 : Nat) "StairGangModel" "thingName" "[J") ∈ gw := lw_m5 234 rfl
set_option maxRecDepth 100000 in
theorem tb1195 : (Jvm.Cond.fieldLink "StairGangModel" (23 : Nat) "StairGangModel" "personName" "[J") ∈ gw := lw_m5 235 rfl
set_option maxRecDepth 100000 in
theorem tb1196 : (Jvm.Cond.fieldLink "StairGangModel" (26 : Nat) "StairGangModel" "hillName" "[J") ∈ gw := lw_m5 236 rfl
set_option maxRecDepth 100000 in
theorem tb1197 : (Jvm.Cond.fieldLink "StairGangModel" (29 : Nat) "StairGangModel" "floors" "[I") ∈ gw := lw_m5 237 rfl
set_option maxRecDepth 100000 in
theorem tb1198 : (Jvm.Cond.fieldLink "StairGangModel" (32 : Nat) "StairGangModel" "flightHouse" "[I") ∈ gw := lw_m5 238 rfl
set_option maxRecDepth 100000 in
theorem tb1199 : (Jvm.Cond.fieldLink "StairGangModel" (35 : Nat) "StairGangModel" "flightFrom" "[I") ∈ gw := lw_m5 239 rfl
set_option maxRecDepth 100000 in
theorem tb1200 : (Jvm.Cond.fieldLink "StairGangModel" (38 : Nat) "StairGangModel" "rise" "[I") ∈ gw := lw_m6 0 rfl
set_option maxRecDepth 100000 in
theorem tb1201 : (Jvm.Cond.fieldLink "StairGangModel" (41 : Nat) "StairGangModel" "odds" "[I") ∈ gw := lw_m6 1 rfl
set_option maxRecDepth 100000 in
theorem tb1202 : (Jvm.Cond.fieldLink "StairGangModel" (44 : Nat) "StairGangModel" "lifts" "[I") ∈ gw := lw_m6 2 rfl
set_option maxRecDepth 100000 in
theorem tb1203 : (Jvm.Cond.fieldLink "StairGangModel" (47 : Nat) "StairGangModel" "thingAt" "[I") ∈ gw := lw_m6 3 rfl
set_option maxRecDepth 100000 in
theorem tb1204 : (Jvm.Cond.fieldLink "StairGangModel" (50 : Nat) "StairGangModel" "personAt" "[I") ∈ gw := lw_m6 4 rfl
set_option maxRecDepth 100000 in
theorem tb1205 : (Jvm.Cond.fieldLink "StairGangModel" (53 : Nat) "StairGangModel" "reach" "[I") ∈ gw := lw_m6 5 rfl
set_option maxRecDepth 100000 in
theorem tb1206 : (Jvm.Cond.fieldLink "StairGangModel" (56 : Nat) "StairGangModel" "throwsFar" "[I") ∈ gw := lw_m6 6 rfl
set_option maxRecDepth 100000 in
theorem tb1207 : (Jvm.Cond.fieldLink "StairGangModel" (59 : Nat) "StairGangModel" "wants" "[I") ∈ gw := lw_m6 7 rfl
set_option maxRecDepth 100000 in
theorem tb1208 : (Jvm.Cond.fieldLink "StairGangModel" (62 : Nat) "StairGangModel" "hillRise" "[I") ∈ gw := lw_m6 8 rfl
set_option maxRecDepth 100000 in
theorem tb1209 : (Jvm.Cond.fieldLink "StairGangModel" (65 : Nat) "StairGangModel" "hillPays" "[I") ∈ gw := lw_m6 9 rfl
set_option maxRecDepth 100000 in
theorem tb1210 : (Jvm.Cond.fieldLink "StairGangModel" (68 : Nat) "StairGangModel" "lineFrom" "[I") ∈ gw := lw_m6 10 rfl
set_option maxRecDepth 100000 in
theorem tb1211 : (Jvm.Cond.fieldLink "StairGangModel" (71 : Nat) "StairGangModel" "lineTo" "[I") ∈ gw := lw_m6 11 rfl
set_option maxRecDepth 100000 in
theorem tb1212 : (Jvm.Cond.fieldLink "StairGangModel" (74 : Nat) "StairGangModel" "codes" "[I") ∈ gw := lw_m6 12 rfl
set_option maxRecDepth 100000 in
theorem tb1213 : (Jvm.Cond.fieldLink "StairGangModel" (219 : Nat) "StairGangModel" "code" "I") ∈ gw := lw_m6 13 rfl
set_option maxRecDepth 100000 in
theorem tb1214 : (Jvm.Cond.fieldLink "StairGangModel" (343 : Nat) "StairGangModel" "toldLines" "I") ∈ gw := lw_m6 14 rfl
set_option maxRecDepth 100000 in
theorem tb1215 : (Jvm.Cond.fieldLink "StairGangModel" (77 : Nat) "StairGangModel" "opened" "[I") ∈ gw := lw_m6 15 rfl
set_option maxRecDepth 100000 in
theorem tb1216 : (Jvm.Cond.fieldLink "StairGangModel" (80 : Nat) "StairGangModel" "compared" "[Z") ∈ gw := lw_m6 16 rfl
set_option maxRecDepth 100000 in
theorem tb1217 : (Jvm.Cond.fieldLink "StairGangModel" (84 : Nat) "StairGangModel" "kept" "[I") ∈ gw := lw_m6 17 rfl
set_option maxRecDepth 100000 in
theorem tb1218 : (Jvm.Cond.fieldLink "StairGangModel" (87 : Nat) "StairGangModel" "keptBy" "[I") ∈ gw := lw_m6 18 rfl
set_option maxRecDepth 100000 in
theorem tb1219 : (Jvm.Cond.fieldLink "StairGangModel" (90 : Nat) "StairGangModel" "ahead" "[I") ∈ gw := lw_m6 19 rfl
set_option maxRecDepth 100000 in
theorem tb1220 : (Jvm.Cond.fieldLink "StairGangModel" (93 : Nat) "StairGangModel" "against" "[I") ∈ gw := lw_m6 20 rfl
set_option maxRecDepth 100000 in
theorem tb1221 : (Jvm.Cond.fieldLink "StairGangModel" (96 : Nat) "StairGangModel" "sum" "[I") ∈ gw := lw_m6 21 rfl
set_option maxRecDepth 100000 in
theorem tb1222 : (Jvm.Cond.fieldLink "StairGangModel" (99 : Nat) "StairGangModel" "sumBy" "[I") ∈ gw := lw_m6 22 rfl
set_option maxRecDepth 100000 in
theorem tb1223 : (Jvm.Cond.fieldLink "StairGangModel" (102 : Nat) "StairGangModel" "term" "[I") ∈ gw := lw_m6 23 rfl
set_option maxRecDepth 100000 in
theorem tb1224 : (Jvm.Cond.fieldLink "StairGangModel" (105 : Nat) "StairGangModel" "termBy" "[I") ∈ gw := lw_m6 24 rfl
set_option maxRecDepth 100000 in
theorem tb1225 : (Jvm.Cond.fieldLink "StairGangModel" (108 : Nat) "StairGangModel" "byNot" "[I") ∈ gw := lw_m6 25 rfl
set_option maxRecDepth 100000 in
theorem tb1226 : (Jvm.Cond.fieldLink "StairGangModel" (111 : Nat) "StairGangModel" "valueOf" "[I") ∈ gw := lw_m6 26 rfl
set_option maxRecDepth 100000 in
theorem tb1227 : (Jvm.Cond.fieldLink "StairGangModel" (317 : Nat) "StairGangModel" "given" "I") ∈ gw := lw_m6 27 rfl
set_option maxRecDepth 100000 in
theorem tb1228 : (Jvm.Cond.fieldLink "StairGangModel" (114 : Nat) "StairGangModel" "lines" "[I") ∈ gw := lw_m6 28 rfl
set_option maxRecDepth 100000 in
theorem tb1229 : (Jvm.Cond.fieldLink "StairGangModel" (117 : Nat) "StairGangModel" "lineWhat" "[I") ∈ gw := lw_m6 29 rfl
set_option maxRecDepth 100000 in
theorem tb1230 : (Jvm.Cond.fieldLink "StairGangModel" (120 : Nat) "StairGangModel" "lineA" "[I") ∈ gw := lw_m6 30 rfl
set_option maxRecDepth 100000 in
theorem tb1231 : (Jvm.Cond.fieldLink "StairGangModel" (123 : Nat) "StairGangModel" "lineB" "[I") ∈ gw := lw_m6 31 rfl
set_option maxRecDepth 100000 in
theorem tb1232 : (Jvm.Cond.fieldLink "StairGangModel" (126 : Nat) "StairGangModel" "lineC" "[I") ∈ gw := lw_m6 32 rfl
set_option maxRecDepth 100000 in
theorem tb1233 : (Jvm.Cond.fieldLink "StairGangModel" (129 : Nat) "StairGangModel" "seens" "[I") ∈ gw := lw_m6 33 rfl
set_option maxRecDepth 100000 in
theorem tb1234 : (Jvm.Cond.fieldLink "StairGangModel" (132 : Nat) "StairGangModel" "seenWho" "[I") ∈ gw := lw_m6 34 rfl
set_option maxRecDepth 100000 in
theorem tb1235 : (Jvm.Cond.fieldLink "StairGangModel" (135 : Nat) "StairGangModel" "seenAt" "[I") ∈ gw := lw_m6 35 rfl
set_option maxRecDepth 100000 in
theorem tb1236 : (Jvm.Cond.fieldLink "StairGangModel" (138 : Nat) "StairGangModel" "seenCame" "[Z") ∈ gw := lw_m6 36 rfl
set_option maxRecDepth 100000 in
theorem tb1237 : (Jvm.Cond.fieldLink "StairGangModel" (141 : Nat) "StairGangModel" "s" "[I") ∈ gw := lw_m6 37 rfl
set_option maxRecDepth 100000 in
theorem tb1238 : (Jvm.Cond.fieldLink "StairGangModel" (144 : Nat) "StairGangModel" "aside" "[I") ∈ gw := lw_m6 38 rfl
set_option maxRecDepth 100000 in
theorem tb1239 : (Jvm.Cond.fieldLink "StairGangModel" (147 : Nat) "StairGangModel" "marked" "[I") ∈ gw := lw_m6 39 rfl
set_option maxRecDepth 100000 in
theorem tb1240 : (Jvm.Cond.fieldLink "StairGangModel" (150 : Nat) "StairGangModel" "undone" "[I") ∈ gw := lw_m6 40 rfl
set_option maxRecDepth 100000 in
theorem tb1241 : (Jvm.Cond.fieldLink "StairGangModel" (153 : Nat) "StairGangModel" "isLaid" "[Z") ∈ gw := lw_m6 41 rfl
set_option maxRecDepth 100000 in
theorem tb1242 : (Jvm.Cond.fieldLink "StairGangModel" (416 : Nat) "StairGangModel" "done" "I") ∈ gw := lw_m6 42 rfl
set_option maxRecDepth 100000 in
theorem tb1243 : (Jvm.Cond.fieldLink "StairGangModel" (156 : Nat) "StairGangModel" "costs" "[I") ∈ gw := lw_m6 43 rfl
set_option maxRecDepth 100000 in
theorem tb1244 : (Jvm.Cond.fieldLink "StairGangModel" (159 : Nat) "StairGangModel" "canGive" "[Z") ∈ gw := lw_m6 44 rfl
set_option maxRecDepth 100000 in
theorem tb1245 : (Jvm.Cond.fieldLink "StairGangModel" (162 : Nat) "StairGangModel" "served" "[I") ∈ gw := lw_m6 45 rfl
set_option maxRecDepth 100000 in
theorem tb1246 : (Jvm.Cond.fieldLink "StairGangModel" (520 : Nat) "StairGangModel" "servedMany" "I") ∈ gw := lw_m6 46 rfl
set_option maxRecDepth 100000 in
theorem tb1247 : (Jvm.Cond.fieldLink "StairGangModel" (165 : Nat) "StairGangModel" "row" "[I") ∈ gw := lw_m6 47 rfl
set_option maxRecDepth 100000 in
theorem tb1248 : (Jvm.Cond.fieldLink "StairGangModel" (168 : Nat) "StairGangModel" "bestRow" "[I") ∈ gw := lw_m6 48 rfl
set_option maxRecDepth 100000 in
theorem tb1249 : (Jvm.Cond.fieldLink "StairGangModel" (171 : Nat) "StairGangModel" "lacks" "[I") ∈ gw := lw_m6 49 rfl
set_option maxRecDepth 100000 in
theorem tb1250 : (Jvm.Cond.fieldLink "StairGangModel" (531 : Nat) "StairGangModel" "isRow" "Z") ∈ gw := lw_m6 50 rfl
set_option maxRecDepth 100000 in
theorem tb1251 : (Jvm.Cond.fieldLink "StairGangModel" (541 : Nat) "StairGangModel" "bestPay" "I") ∈ gw := lw_m6 51 rfl
set_option maxRecDepth 100000 in
theorem tb1252 : (Jvm.Cond.fieldLink "StairGangModel" (544 : Nat) "StairGangModel" "bestGiven" "I") ∈ gw := lw_m6 52 rfl
set_option maxRecDepth 100000 in
theorem tb1253 : (Jvm.Cond.fieldLink "StairGangModel" (174 : Nat) "StairGangModel" "stays" "[I") ∈ gw := lw_m6 53 rfl
set_option maxRecDepth 100000 in
theorem tb1254 : (Jvm.Cond.fieldLink "StairGangModel" (177 : Nat) "StairGangModel" "oddsOf" "[I") ∈ gw := lw_m6 54 rfl
set_option maxRecDepth 100000 in
theorem tb1255 : (Jvm.Cond.fieldLink "StairGangModel" (586 : Nat) "StairGangModel" "g" "J") ∈ gw := lw_m6 55 rfl
set_option maxRecDepth 100000 in
theorem tb1407 : (Jvm.Cond.instanceMethod ({ cls := "StairGangModel", name := "feed", desc := "(JJJ)I" } : Jvm.MethodName)) ∈ gw := lw_m6 207 rfl
set_option maxRecDepth 100000 in
theorem tb1408 : (Jvm.Cond.selects "StairGangModel" ({ cls := "StairGangModel", name := "feed", desc := "(JJJ)I" } : Jvm.MethodName) ({ cls := "StairGangModel", name := "feed", desc := "(JJJ)I" } : Jvm.MethodName)) ∈ gw := lw_m6 208 rfl
set_option maxRecDepth 100000 in
theorem tb1409 : (Jvm.Cond.code ({ cls := "StairGangModel", name := "feed", desc := "(JJJ)I" } : Jvm.MethodName) prog_13_method_7_code (11 : Nat) (Option.some Jvm.ClassFile.FieldType.int)) ∈ gw := lw_m6 209 rfl
set_option maxRecDepth 100000 in
theorem tb1410 : (Jvm.Cond.constantLong "StairGangModel" (184 : Nat) (255 : Int64)) ∈ gw := lw_m6 210 rfl
set_option maxRecDepth 100000 in
theorem tb1412 : (Jvm.Cond.instanceMethod ({ cls := "StairGangModel", name := "town", desc := "()I" } : Jvm.MethodName)) ∈ gw := lw_m6 212 rfl
set_option maxRecDepth 100000 in
theorem tb1413 : (Jvm.Cond.selects "StairGangModel" ({ cls := "StairGangModel", name := "town", desc := "()I" } : Jvm.MethodName) ({ cls := "StairGangModel", name := "town", desc := "()I" } : Jvm.MethodName)) ∈ gw := lw_m6 213 rfl
set_option maxRecDepth 100000 in
theorem tb1414 : (Jvm.Cond.code ({ cls := "StairGangModel", name := "town", desc := "()I" } : Jvm.MethodName) prog_13_method_53_code (2 : Nat) (Option.some Jvm.ClassFile.FieldType.int)) ∈ gw := lw_m6 214 rfl
set_option maxRecDepth 100000 in
theorem tb1415 : (Jvm.Cond.methodLink "StairGangModel" (407 : Nat) ({ cls := "StairGangModel", name := "readsAll", desc := "()Z" } : Jvm.MethodName)) ∈ gw := lw_m6 215 rfl
set_option maxRecDepth 100000 in
theorem tb1417 : (Jvm.Cond.instanceMethod ({ cls := "StairGangModel", name := "readsAll", desc := "()Z" } : Jvm.MethodName)) ∈ gw := lw_m6 217 rfl
set_option maxRecDepth 100000 in
theorem tb1418 : (Jvm.Cond.code ({ cls := "StairGangModel", name := "readsAll", desc := "()Z" } : Jvm.MethodName) prog_13_method_42_code (2 : Nat) (Option.some Jvm.ClassFile.FieldType.boolean)) ∈ gw := lw_m6 218 rfl
set_option maxRecDepth 100000 in
theorem tb1419 : (Jvm.Cond.methodLink "StairGangModel" (369 : Nat) ({ cls := "StairGangModel", name := "starts", desc := "()V" } : Jvm.MethodName)) ∈ gw := lw_m6 219 rfl
set_option maxRecDepth 100000 in
theorem tb1421 : (Jvm.Cond.instanceMethod ({ cls := "StairGangModel", name := "starts", desc := "()V" } : Jvm.MethodName)) ∈ gw := lw_m6 221 rfl
set_option maxRecDepth 100000 in
theorem tb1422 : (Jvm.Cond.code ({ cls := "StairGangModel", name := "starts", desc := "()V" } : Jvm.MethodName) prog_13_method_41_code (1 : Nat) (Option.none : Option Jvm.ClassFile.FieldType)) ∈ gw := lw_m6 222 rfl
set_option maxRecDepth 100000 in
theorem tb1423 : (Jvm.Cond.methodLink "StairGangModel" (249 : Nat) ({ cls := "StairGangModel", name := "nextToken", desc := "()V" } : Jvm.MethodName)) ∈ gw := lw_m6 223 rfl
set_option maxRecDepth 100000 in
theorem tb1425 : (Jvm.Cond.instanceMethod ({ cls := "StairGangModel", name := "nextToken", desc := "()V" } : Jvm.MethodName)) ∈ gw := lw_m6 225 rfl
set_option maxRecDepth 100000 in
theorem tb1426 : (Jvm.Cond.code ({ cls := "StairGangModel", name := "nextToken", desc := "()V" } : Jvm.MethodName) prog_13_method_9_code (2 : Nat) (Option.none : Option Jvm.ClassFile.FieldType)) ∈ gw := lw_m6 226 rfl
set_option maxRecDepth 100000 in
theorem tb1427 : (Jvm.Cond.methodLink "StairGangModel" (208 : Nat) ({ cls := "StairGangModel", name := "signAt", desc := "(I)I" } : Jvm.MethodName)) ∈ gw := lw_m6 227 rfl
set_option maxRecDepth 100000 in
theorem tb1429 : (Jvm.Cond.instanceMethod ({ cls := "StairGangModel", name := "signAt", desc := "(I)I" } : Jvm.MethodName)) ∈ gw := lw_m6 229 rfl
set_option maxRecDepth 100000 in
theorem tb1430 : (Jvm.Cond.code ({ cls := "StairGangModel", name := "signAt", desc := "(I)I" } : Jvm.MethodName) prog_13_method_8_code (2 : Nat) (Option.some Jvm.ClassFile.FieldType.int)) ∈ gw := lw_m6 230 rfl
set_option maxRecDepth 100000 in
theorem tb1431 : (Jvm.Cond.constantLong "StairGangModel" (212 : Nat) (27 : Int64)) ∈ gw := lw_m6 231 rfl
set_option maxRecDepth 100000 in
theorem tb1432 : (Jvm.Cond.constantLong "StairGangModel" (214 : Nat) (96 : Int64)) ∈ gw := lw_m6 232 rfl
set_option maxRecDepth 100000 in
theorem tb1433 : (Jvm.Cond.constantLong "StairGangModel" (265 : Nat) (4562600 : Int64)) ∈ gw := lw_m6 233 rfl
set_option maxRecDepth 100000 in
theorem tb1434 : (Jvm.Cond.methodLink "StairGangModel" (234 : Nat) ({ cls := "StairGangModel", name := "isWord", desc := "(J)Z" } : Jvm.MethodName)) ∈ gw := lw_m6 234 rfl
set_option maxRecDepth 100000 in
theorem tb1436 : (Jvm.Cond.instanceMethod ({ cls := "StairGangModel", name := "isWord", desc := "(J)Z" } : Jvm.MethodName)) ∈ gw := lw_m6 236 rfl
set_option maxRecDepth 100000 in
theorem tb1437 : (Jvm.Cond.code ({ cls := "StairGangModel", name := "isWord", desc := "(J)Z" } : Jvm.MethodName) prog_13_method_10_code (3 : Nat) (Option.some Jvm.ClassFile.FieldType.boolean)) ∈ gw := lw_m6 237 rfl
set_option maxRecDepth 100000 in
theorem tb1438 : (Jvm.Cond.methodLink "StairGangModel" (372 : Nat) ({ cls := "StairGangModel", name := "readsHouse", desc := "()Z" } : Jvm.MethodName)) ∈ gw := lw_m6 238 rfl
set_option maxRecDepth 100000 in
theorem tb1440 : (Jvm.Cond.instanceMethod ({ cls := "StairGangModel", name := "readsHouse", desc := "()Z" } : Jvm.MethodName)) ∈ gw := lw_m7 0 rfl
set_option maxRecDepth 100000 in
theorem tb1441 : (Jvm.Cond.code ({ cls := "StairGangModel", name := "readsHouse", desc := "()Z" } : Jvm.MethodName) prog_13_method_34_code (4 : Nat) (Option.some Jvm.ClassFile.FieldType.boolean)) ∈ gw := lw_m7 1 rfl
set_option maxRecDepth 100000 in
theorem tb1442 : (Jvm.Cond.methodLink "StairGangModel" (242 : Nat) ({ cls := "StairGangModel", name := "fails", desc := "(I)Z" } : Jvm.MethodName)) ∈ gw := lw_m7 2 rfl
set_option maxRecDepth 100000 in
theorem tb1444 : (Jvm.Cond.instanceMethod ({ cls := "StairGangModel", name := "fails", desc := "(I)Z" } : Jvm.MethodName)) ∈ gw := lw_m7 4 rfl
set_option maxRecDepth 100000 in
theorem tb1445 : (Jvm.Cond.code ({ cls := "StairGangModel", name := "fails", desc := "(I)Z" } : Jvm.MethodName) prog_13_method_12_code (2 : Nat) (Option.some Jvm.ClassFile.FieldType.boolean)) ∈ gw := lw_m7 5 rfl
set_option maxRecDepth 100000 in
theorem tb1446 : (Jvm.Cond.methodLink "StairGangModel" (346 : Nat) ({ cls := "StairGangModel", name := "isNew", desc := "()Z" } : Jvm.MethodName)) ∈ gw := lw_m7 6 rfl
set_option maxRecDepth 100000 in
theorem tb1448 : (Jvm.Cond.instanceMethod ({ cls := "StairGangModel", name := "isNew", desc := "()Z" } : Jvm.MethodName)) ∈ gw := lw_m7 8 rfl
set_option maxRecDepth 100000 in
theorem tb1449 : (Jvm.Cond.code ({ cls := "StairGangModel", name := "isNew", desc := "()Z" } : Jvm.MethodName) prog_13_method_29_code (1 : Nat) (Option.some Jvm.ClassFile.FieldType.boolean)) ∈ gw := lw_m7 9 rfl
set_option maxRecDepth 100000 in
theorem tb1450 : (Jvm.Cond.methodLink "StairGangModel" (327 : Nat) ({ cls := "StairGangModel", name := "isKept", desc := "()Z" } : Jvm.MethodName)) ∈ gw := lw_m7 10 rfl
set_option maxRecDepth 100000 in
theorem tb1452 : (Jvm.Cond.instanceMethod ({ cls := "StairGangModel", name := "isKept", desc := "()Z" } : Jvm.MethodName)) ∈ gw := lw_m7 12 rfl
set_option maxRecDepth 100000 in
theorem tb1453 : (Jvm.Cond.code ({ cls := "StairGangModel", name := "isKept", desc := "()Z" } : Jvm.MethodName) prog_13_method_20_code (1 : Nat) (Option.some Jvm.ClassFile.FieldType.boolean)) ∈ gw := lw_m7 13 rfl
set_option maxRecDepth 100000 in
theorem tb1454 : (Jvm.Cond.constantLong "StairGangModel" (267 : Nat) (92777419 : Int64)) ∈ gw := lw_m7 14 rfl
set_option maxRecDepth 100000 in
theorem tb1455 : (Jvm.Cond.constantLong "StairGangModel" (269 : Nat) (92653220 : Int64)) ∈ gw := lw_m7 15 rfl
set_option maxRecDepth 100000 in
theorem tb1456 : (Jvm.Cond.constantLong "StairGangModel" (271 : Nat) (361373 : Int64)) ∈ gw := lw_m7 16 rfl
set_option maxRecDepth 100000 in
theorem tb1457 : (Jvm.Cond.constantLong "StairGangModel" (273 : Nat) (298288 : Int64)) ∈ gw := lw_m7 17 rfl
set_option maxRecDepth 100000 in
theorem tb1458 : (Jvm.Cond.constantLong "StairGangModel" (275 : Nat) (10793230 : Int64)) ∈ gw := lw_m7 18 rfl
set_option maxRecDepth 100000 in
theorem tb1459 : (Jvm.Cond.constantLong "StairGangModel" (277 : Nat) (6559372 : Int64)) ∈ gw := lw_m7 19 rfl
set_option maxRecDepth 100000 in
theorem tb1460 : (Jvm.Cond.constantLong "StairGangModel" (279 : Nat) (47 : Int64)) ∈ gw := lw_m7 20 rfl
set_option maxRecDepth 100000 in
theorem tb1461 : (Jvm.Cond.constantLong "StairGangModel" (281 : Nat) (232608281 : Int64)) ∈ gw := lw_m7 21 rfl
set_option maxRecDepth 100000 in
theorem tb1462 : (Jvm.Cond.constantLong "StairGangModel" (283 : Nat) (9665171 : Int64)) ∈ gw := lw_m7 22 rfl
set_option maxRecDepth 100000 in
theorem tb1463 : (Jvm.Cond.constantLong "StairGangModel" (285 : Nat) (291595537 : Int64)) ∈ gw := lw_m7 23 rfl
set_option maxRecDepth 100000 in
theorem tb1464 : (Jvm.Cond.constantLong "StairGangModel" (287 : Nat) (12253591 : Int64)) ∈ gw := lw_m7 24 rfl
set_option maxRecDepth 100000 in
theorem tb1465 : (Jvm.Cond.constantLong "StairGangModel" (289 : Nat) (164361 : Int64)) ∈ gw := lw_m7 25 rfl
set_option maxRecDepth 100000 in
theorem tb1466 : (Jvm.Cond.constantLong "StairGangModel" (291 : Nat) (316351 : Int64)) ∈ gw := lw_m7 26 rfl
set_option maxRecDepth 100000 in
theorem tb1467 : (Jvm.Cond.constantLong "StairGangModel" (293 : Nat) (161152 : Int64)) ∈ gw := lw_m7 27 rfl
set_option maxRecDepth 100000 in
theorem tb1468 : (Jvm.Cond.constantLong "StairGangModel" (295 : Nat) (453773 : Int64)) ∈ gw := lw_m7 28 rfl
set_option maxRecDepth 100000 in
theorem tb1469 : (Jvm.Cond.constantLong "StairGangModel" (297 : Nat) (8863997 : Int64)) ∈ gw := lw_m7 29 rfl
set_option maxRecDepth 100000 in
theorem tb1470 : (Jvm.Cond.constantLong "StairGangModel" (299 : Nat) (10494723 : Int64)) ∈ gw := lw_m7 30 rfl
set_option maxRecDepth 100000 in
theorem tb1471 : (Jvm.Cond.constantLong "StairGangModel" (301 : Nat) (1483114 : Int64)) ∈ gw := lw_m7 31 rfl
set_option maxRecDepth 100000 in
theorem tb1472 : (Jvm.Cond.constantLong "StairGangModel" (303 : Nat) (204 : Int64)) ∈ gw := lw_m7 32 rfl
set_option maxRecDepth 100000 in
theorem tb1473 : (Jvm.Cond.constantLong "StairGangModel" (305 : Nat) (1627639 : Int64)) ∈ gw := lw_m7 33 rfl
set_option maxRecDepth 100000 in
theorem tb1474 : (Jvm.Cond.constantLong "StairGangModel" (307 : Nat) (7622660 : Int64)) ∈ gw := lw_m7 34 rfl
set_option maxRecDepth 100000 in
theorem tb1475 : (Jvm.Cond.constantLong "StairGangModel" (232 : Nat) (10631 : Int64)) ∈ gw := lw_m7 35 rfl
set_option maxRecDepth 100000 in
theorem tb1476 : (Jvm.Cond.constantLong "StairGangModel" (252 : Nat) (1111 : Int64)) ∈ gw := lw_m7 36 rfl
set_option maxRecDepth 100000 in
theorem tb1477 : (Jvm.Cond.constantLong "StairGangModel" (254 : Nat) (423 : Int64)) ∈ gw := lw_m7 37 rfl
set_option maxRecDepth 100000 in
theorem tb1478 : (Jvm.Cond.methodLink "StairGangModel" (331 : Nat) ({ cls := "StairGangModel", name := "houseNamed", desc := "(I)I" } : Jvm.MethodName)) ∈ gw := lw_m7 38 rfl
set_option maxRecDepth 100000 in
theorem tb1480 : (Jvm.Cond.instanceMethod ({ cls := "StairGangModel", name := "houseNamed", desc := "(I)I" } : Jvm.MethodName)) ∈ gw := lw_m7 40 rfl
set_option maxRecDepth 100000 in
theorem tb1481 : (Jvm.Cond.code ({ cls := "StairGangModel", name := "houseNamed", desc := "(I)I" } : Jvm.MethodName) prog_13_method_22_code (2 : Nat) (Option.some Jvm.ClassFile.FieldType.int)) ∈ gw := lw_m7 41 rfl
set_option maxRecDepth 100000 in
theorem tb1482 : (Jvm.Cond.methodLink "StairGangModel" (309 : Nat) ({ cls := "StairGangModel", name := "named", desc := "([JIIJ)I" } : Jvm.MethodName)) ∈ gw := lw_m7 42 rfl
set_option maxRecDepth 100000 in
theorem tb1483 : (Jvm.Cond.static ({ cls := "StairGangModel", name := "named", desc := "([JIIJ)I" } : Jvm.MethodName)) ∈ gw := lw_m7 43 rfl
set_option maxRecDepth 100000 in
theorem tb1484 : (Jvm.Cond.code ({ cls := "StairGangModel", name := "named", desc := "([JIIJ)I" } : Jvm.MethodName) prog_13_method_21_code (6 : Nat) (Option.some Jvm.ClassFile.FieldType.int)) ∈ gw := lw_m7 44 rfl
set_option maxRecDepth 100000 in
theorem tb1485 : (Jvm.Cond.methodLink "StairGangModel" (334 : Nat) ({ cls := "StairGangModel", name := "thingNamed", desc := "(I)I" } : Jvm.MethodName)) ∈ gw := lw_m7 45 rfl
set_option maxRecDepth 100000 in
theorem tb1487 : (Jvm.Cond.instanceMethod ({ cls := "StairGangModel", name := "thingNamed", desc := "(I)I" } : Jvm.MethodName)) ∈ gw := lw_m7 47 rfl
set_option maxRecDepth 100000 in
theorem tb1488 : (Jvm.Cond.code ({ cls := "StairGangModel", name := "thingNamed", desc := "(I)I" } : Jvm.MethodName) prog_13_method_23_code (2 : Nat) (Option.some Jvm.ClassFile.FieldType.int)) ∈ gw := lw_m7 48 rfl
set_option maxRecDepth 100000 in
theorem tb1489 : (Jvm.Cond.methodLink "StairGangModel" (337 : Nat) ({ cls := "StairGangModel", name := "personNamed", desc := "(I)I" } : Jvm.MethodName)) ∈ gw := lw_m7 49 rfl
set_option maxRecDepth 100000 in
theorem tb1491 : (Jvm.Cond.instanceMethod ({ cls := "StairGangModel", name := "personNamed", desc := "(I)I" } : Jvm.MethodName)) ∈ gw := lw_m7 51 rfl
set_option maxRecDepth 100000 in
theorem tb1492 : (Jvm.Cond.code ({ cls := "StairGangModel", name := "personNamed", desc := "(I)I" } : Jvm.MethodName) prog_13_method_24_code (2 : Nat) (Option.some Jvm.ClassFile.FieldType.int)) ∈ gw := lw_m7 52 rfl
set_option maxRecDepth 100000 in
theorem tb1493 : (Jvm.Cond.methodLink "StairGangModel" (349 : Nat) ({ cls := "StairGangModel", name := "needsBoth", desc := "(JII)Z" } : Jvm.MethodName)) ∈ gw := lw_m7 53 rfl
set_option maxRecDepth 100000 in
theorem tb1495 : (Jvm.Cond.instanceMethod ({ cls := "StairGangModel", name := "needsBoth", desc := "(JII)Z" } : Jvm.MethodName)) ∈ gw := lw_m7 55 rfl
set_option maxRecDepth 100000 in
theorem tb1496 : (Jvm.Cond.code ({ cls := "StairGangModel", name := "needsBoth", desc := "(JII)Z" } : Jvm.MethodName) prog_13_method_27_code (5 : Nat) (Option.some Jvm.ClassFile.FieldType.boolean)) ∈ gw := lw_m7 56 rfl
set_option maxRecDepth 100000 in
theorem tb1497 : (Jvm.Cond.methodLink "StairGangModel" (320 : Nat) ({ cls := "StairGangModel", name := "needsWord", desc := "(J)Z" } : Jvm.MethodName)) ∈ gw := lw_m7 57 rfl
set_option maxRecDepth 100000 in
theorem tb1499 : (Jvm.Cond.instanceMethod ({ cls := "StairGangModel", name := "needsWord", desc := "(J)Z" } : Jvm.MethodName)) ∈ gw := lw_m7 59 rfl
set_option maxRecDepth 100000 in
theorem tb1500 : (Jvm.Cond.code ({ cls := "StairGangModel", name := "needsWord", desc := "(J)Z" } : Jvm.MethodName) prog_13_method_26_code (3 : Nat) (Option.some Jvm.ClassFile.FieldType.boolean)) ∈ gw := lw_m7 60 rfl
set_option maxRecDepth 100000 in
theorem tb1501 : (Jvm.Cond.methodLink "StairGangModel" (323 : Nat) ({ cls := "StairGangModel", name := "needsNumber", desc := "(II)Z" } : Jvm.MethodName)) ∈ gw := lw_m7 61 rfl
set_option maxRecDepth 100000 in
theorem tb1503 : (Jvm.Cond.instanceMethod ({ cls := "StairGangModel", name := "needsNumber", desc := "(II)Z" } : Jvm.MethodName)) ∈ gw := lw_m7 63 rfl
set_option maxRecDepth 100000 in
theorem tb1504 : (Jvm.Cond.code ({ cls := "StairGangModel", name := "needsNumber", desc := "(II)Z" } : Jvm.MethodName) prog_13_method_25_code (3 : Nat) (Option.some Jvm.ClassFile.FieldType.boolean)) ∈ gw := lw_m7 64 rfl
set_option maxRecDepth 100000 in
theorem tb1505 : (Jvm.Cond.methodLink "StairGangModel" (313 : Nat) ({ cls := "StairGangModel", name := "within", desc := "(III)Z" } : Jvm.MethodName)) ∈ gw := lw_m7 65 rfl
set_option maxRecDepth 100000 in
theorem tb1506 : (Jvm.Cond.static ({ cls := "StairGangModel", name := "within", desc := "(III)Z" } : Jvm.MethodName)) ∈ gw := lw_m7 66 rfl
set_option maxRecDepth 100000 in
theorem tb1507 : (Jvm.Cond.code ({ cls := "StairGangModel", name := "within", desc := "(III)Z" } : Jvm.MethodName) prog_13_method_3_code (3 : Nat) (Option.some Jvm.ClassFile.FieldType.boolean)) ∈ gw := lw_m7 67 rfl
set_option maxRecDepth 100000 in
theorem tb1508 : (Jvm.Cond.methodLink "StairGangModel" (353 : Nat) ({ cls := "StairGangModel", name := "closes", desc := "()Z" } : Jvm.MethodName)) ∈ gw := lw_m7 68 rfl
set_option maxRecDepth 100000 in
theorem tb1510 : (Jvm.Cond.instanceMethod ({ cls := "StairGangModel", name := "closes", desc := "()Z" } : Jvm.MethodName)) ∈ gw := lw_m7 70 rfl
set_option maxRecDepth 100000 in
theorem tb1511 : (Jvm.Cond.code ({ cls := "StairGangModel", name := "closes", desc := "()Z" } : Jvm.MethodName) prog_13_method_28_code (1 : Nat) (Option.some Jvm.ClassFile.FieldType.boolean)) ∈ gw := lw_m7 71 rfl
set_option maxRecDepth 100000 in
theorem tb1512 : (Jvm.Cond.methodLink "StairGangModel" (238 : Nat) ({ cls := "StairGangModel", name := "isSign", desc := "(I)Z" } : Jvm.MethodName)) ∈ gw := lw_m7 72 rfl
set_option maxRecDepth 100000 in
theorem tb1514 : (Jvm.Cond.instanceMethod ({ cls := "StairGangModel", name := "isSign", desc := "(I)Z" } : Jvm.MethodName)) ∈ gw := lw_m7 74 rfl
set_option maxRecDepth 100000 in
theorem tb1515 : (Jvm.Cond.code ({ cls := "StairGangModel", name := "isSign", desc := "(I)Z" } : Jvm.MethodName) prog_13_method_11_code (2 : Nat) (Option.some Jvm.ClassFile.FieldType.boolean)) ∈ gw := lw_m7 75 rfl
set_option maxRecDepth 100000 in
theorem tb1516 : (Jvm.Cond.methodLink "StairGangModel" (375 : Nat) ({ cls := "StairGangModel", name := "readsFlight", desc := "()Z" } : Jvm.MethodName)) ∈ gw := lw_m7 76 rfl
set_option maxRecDepth 100000 in
theorem tb1518 : (Jvm.Cond.instanceMethod ({ cls := "StairGangModel", name := "readsFlight", desc := "()Z" } : Jvm.MethodName)) ∈ gw := lw_m7 78 rfl
set_option maxRecDepth 100000 in
theorem tb1519 : (Jvm.Cond.code ({ cls := "StairGangModel", name := "readsFlight", desc := "()Z" } : Jvm.MethodName) prog_13_method_35_code (3 : Nat) (Option.some Jvm.ClassFile.FieldType.boolean)) ∈ gw := lw_m7 79 rfl
set_option maxRecDepth 100000 in
theorem tb1520 : (Jvm.Cond.methodLink "StairGangModel" (340 : Nat) ({ cls := "StairGangModel", name := "needsTold", desc := "(II)Z" } : Jvm.MethodName)) ∈ gw := lw_m7 80 rfl
set_option maxRecDepth 100000 in
theorem tb1522 : (Jvm.Cond.instanceMethod ({ cls := "StairGangModel", name := "needsTold", desc := "(II)Z" } : Jvm.MethodName)) ∈ gw := lw_m7 82 rfl
set_option maxRecDepth 100000 in
theorem tb1523 : (Jvm.Cond.code ({ cls := "StairGangModel", name := "needsTold", desc := "(II)Z" } : Jvm.MethodName) prog_13_method_30_code (3 : Nat) (Option.some Jvm.ClassFile.FieldType.boolean)) ∈ gw := lw_m7 83 rfl
set_option maxRecDepth 100000 in
theorem tb1524 : (Jvm.Cond.methodLink "StairGangModel" (356 : Nat) ({ cls := "StairGangModel", name := "flightOf", desc := "(III)I" } : Jvm.MethodName)) ∈ gw := lw_m7 84 rfl
set_option maxRecDepth 100000 in
theorem tb1526 : (Jvm.Cond.instanceMethod ({ cls := "StairGangModel", name := "flightOf", desc := "(III)I" } : Jvm.MethodName)) ∈ gw := lw_m7 86 rfl
set_option maxRecDepth 100000 in
theorem tb1527 : (Jvm.Cond.code ({ cls := "StairGangModel", name := "flightOf", desc := "(III)I" } : Jvm.MethodName) prog_13_method_33_code (5 : Nat) (Option.some Jvm.ClassFile.FieldType.int)) ∈ gw := lw_m7 87 rfl
set_option maxRecDepth 100000 in
theorem tb1528 : (Jvm.Cond.methodLink "StairGangModel" (378 : Nat) ({ cls := "StairGangModel", name := "readsThing", desc := "()Z" } : Jvm.MethodName)) ∈ gw := lw_m7 88 rfl
set_option maxRecDepth 100000 in
theorem tb1530 : (Jvm.Cond.instanceMethod ({ cls := "StairGangModel", name := "readsThing", desc := "()Z" } : Jvm.MethodName)) ∈ gw := lw_m7 90 rfl
set_option maxRecDepth 100000 in
theorem tb1531 : (Jvm.Cond.code ({ cls := "StairGangModel", name := "readsThing", desc := "()Z" } : Jvm.MethodName) prog_13_method_36_code (4 : Nat) (Option.some Jvm.ClassFile.FieldType.boolean)) ∈ gw := lw_m7 91 rfl
set_option maxRecDepth 100000 in
theorem tb1532 : (Jvm.Cond.methodLink "StairGangModel" (360 : Nat) ({ cls := "StairGangModel", name := "needsPlace", desc := "(I)Z" } : Jvm.MethodName)) ∈ gw := lw_m7 92 rfl
set_option maxRecDepth 100000 in
theorem tb1534 : (Jvm.Cond.instanceMethod ({ cls := "StairGangModel", name := "needsPlace", desc := "(I)Z" } : Jvm.MethodName)) ∈ gw := lw_m7 94 rfl
set_option maxRecDepth 100000 in
theorem tb1535 : (Jvm.Cond.code ({ cls := "StairGangModel", name := "needsPlace", desc := "(I)Z" } : Jvm.MethodName) prog_13_method_31_code (3 : Nat) (Option.some Jvm.ClassFile.FieldType.boolean)) ∈ gw := lw_m7 95 rfl
set_option maxRecDepth 100000 in
theorem tb1536 : (Jvm.Cond.methodLink "StairGangModel" (381 : Nat) ({ cls := "StairGangModel", name := "readsPerson", desc := "()Z" } : Jvm.MethodName)) ∈ gw := lw_m7 96 rfl
set_option maxRecDepth 100000 in
theorem tb1538 : (Jvm.Cond.instanceMethod ({ cls := "StairGangModel", name := "readsPerson", desc := "()Z" } : Jvm.MethodName)) ∈ gw := lw_m7 98 rfl
set_option maxRecDepth 100000 in
theorem tb1539 : (Jvm.Cond.code ({ cls := "StairGangModel", name := "readsPerson", desc := "()Z" } : Jvm.MethodName) prog_13_method_37_code (4 : Nat) (Option.some Jvm.ClassFile.FieldType.boolean)) ∈ gw := lw_m7 99 rfl
set_option maxRecDepth 100000 in
theorem tb1540 : (Jvm.Cond.methodLink "StairGangModel" (384 : Nat) ({ cls := "StairGangModel", name := "readsHill", desc := "()Z" } : Jvm.MethodName)) ∈ gw := lw_m7 100 rfl
set_option maxRecDepth 100000 in
theorem tb1542 : (Jvm.Cond.instanceMethod ({ cls := "StairGangModel", name := "readsHill", desc := "()Z" } : Jvm.MethodName)) ∈ gw := lw_m7 102 rfl
set_option maxRecDepth 100000 in
theorem tb1543 : (Jvm.Cond.code ({ cls := "StairGangModel", name := "readsHill", desc := "()Z" } : Jvm.MethodName) prog_13_method_38_code (4 : Nat) (Option.some Jvm.ClassFile.FieldType.boolean)) ∈ gw := lw_m7 103 rfl
set_option maxRecDepth 100000 in
theorem tb1544 : (Jvm.Cond.methodLink "StairGangModel" (387 : Nat) ({ cls := "StairGangModel", name := "readsOne", desc := "(II)Z" } : Jvm.MethodName)) ∈ gw := lw_m7 104 rfl
set_option maxRecDepth 100000 in
theorem tb1546 : (Jvm.Cond.instanceMethod ({ cls := "StairGangModel", name := "readsOne", desc := "(II)Z" } : Jvm.MethodName)) ∈ gw := lw_m7 106 rfl
set_option maxRecDepth 100000 in
theorem tb1547 : (Jvm.Cond.code ({ cls := "StairGangModel", name := "readsOne", desc := "(II)Z" } : Jvm.MethodName) prog_13_method_39_code (3 : Nat) (Option.some Jvm.ClassFile.FieldType.boolean)) ∈ gw := lw_m7 107 rfl
set_option maxRecDepth 100000 in
theorem tb1548 : (Jvm.Cond.methodLink "StairGangModel" (363 : Nat) ({ cls := "StairGangModel", name := "isTwice", desc := "(I)Z" } : Jvm.MethodName)) ∈ gw := lw_m7 108 rfl
set_option maxRecDepth 100000 in
theorem tb1550 : (Jvm.Cond.instanceMethod ({ cls := "StairGangModel", name := "isTwice", desc := "(I)Z" } : Jvm.MethodName)) ∈ gw := lw_m7 110 rfl
set_option maxRecDepth 100000 in
theorem tb1551 : (Jvm.Cond.code ({ cls := "StairGangModel", name := "isTwice", desc := "(I)Z" } : Jvm.MethodName) prog_13_method_32_code (2 : Nat) (Option.some Jvm.ClassFile.FieldType.boolean)) ∈ gw := lw_m7 111 rfl
set_option maxRecDepth 100000 in
theorem tb1552 : (Jvm.Cond.methodLink "StairGangModel" (390 : Nat) ({ cls := "StairGangModel", name := "readsPrice", desc := "()Z" } : Jvm.MethodName)) ∈ gw := lw_m7 112 rfl
set_option maxRecDepth 100000 in
theorem tb1554 : (Jvm.Cond.instanceMethod ({ cls := "StairGangModel", name := "readsPrice", desc := "()Z" } : Jvm.MethodName)) ∈ gw := lw_m7 114 rfl
set_option maxRecDepth 100000 in
theorem tb1555 : (Jvm.Cond.code ({ cls := "StairGangModel", name := "readsPrice", desc := "()Z" } : Jvm.MethodName) prog_13_method_40_code (1 : Nat) (Option.some Jvm.ClassFile.FieldType.boolean)) ∈ gw := lw_m7 115 rfl
set_option maxRecDepth 100000 in
theorem tb1556 : (Jvm.Cond.methodLink "StairGangModel" (366 : Nat) ({ cls := "StairGangModel", name := "reads", desc := "()Z" } : Jvm.MethodName)) ∈ gw := lw_m7 116 rfl
set_option maxRecDepth 100000 in
theorem tb1558 : (Jvm.Cond.instanceMethod ({ cls := "StairGangModel", name := "reads", desc := "()Z" } : Jvm.MethodName)) ∈ gw := lw_m7 118 rfl
set_option maxRecDepth 100000 in
theorem tb1559 : (Jvm.Cond.code ({ cls := "StairGangModel", name := "reads", desc := "()Z" } : Jvm.MethodName) prog_13_method_15_code (6 : Nat) (Option.some Jvm.ClassFile.FieldType.boolean)) ∈ gw := lw_m7 119 rfl
set_option maxRecDepth 100000 in
theorem tb1560 : (Jvm.Cond.methodLink "StairGangModel" (228 : Nat) ({ cls := "StairGangModel", name := "fact", desc := "()I" } : Jvm.MethodName)) ∈ gw := lw_m7 120 rfl
set_option maxRecDepth 100000 in
theorem tb1562 : (Jvm.Cond.instanceMethod ({ cls := "StairGangModel", name := "fact", desc := "()I" } : Jvm.MethodName)) ∈ gw := lw_m7 122 rfl
set_option maxRecDepth 100000 in
theorem tb1563 : (Jvm.Cond.code ({ cls := "StairGangModel", name := "fact", desc := "()I" } : Jvm.MethodName) prog_13_method_14_code (1 : Nat) (Option.some Jvm.ClassFile.FieldType.int)) ∈ gw := lw_m7 123 rfl
set_option maxRecDepth 100000 in
theorem tb1564 : (Jvm.Cond.constantLong "StairGangModel" (222 : Nat) (164222 : Int64)) ∈ gw := lw_m7 124 rfl
set_option maxRecDepth 100000 in
theorem tb1565 : (Jvm.Cond.constantLong "StairGangModel" (224 : Nat) (205811839 : Int64)) ∈ gw := lw_m7 125 rfl
set_option maxRecDepth 100000 in
theorem tb1566 : (Jvm.Cond.constantLong "StairGangModel" (226 : Nat) (149099 : Int64)) ∈ gw := lw_m7 126 rfl
set_option maxRecDepth 100000 in
theorem tb1567 : (Jvm.Cond.methodLink "StairGangModel" (245 : Nat) ({ cls := "StairGangModel", name := "puts", desc := "(I)V" } : Jvm.MethodName)) ∈ gw := lw_m7 127 rfl
set_option maxRecDepth 100000 in
theorem tb1569 : (Jvm.Cond.instanceMethod ({ cls := "StairGangModel", name := "puts", desc := "(I)V" } : Jvm.MethodName)) ∈ gw := lw_m7 129 rfl
set_option maxRecDepth 100000 in
theorem tb1570 : (Jvm.Cond.code ({ cls := "StairGangModel", name := "puts", desc := "(I)V" } : Jvm.MethodName) prog_13_method_13_code (2 : Nat) (Option.none : Option Jvm.ClassFile.FieldType)) ∈ gw := lw_m7 130 rfl
set_option maxRecDepth 100000 in
theorem tb1571 : (Jvm.Cond.methodLink "StairGangModel" (410 : Nat) ({ cls := "StairGangModel", name := "lays", desc := "()V" } : Jvm.MethodName)) ∈ gw := lw_m7 131 rfl
set_option maxRecDepth 100000 in
theorem tb1573 : (Jvm.Cond.instanceMethod ({ cls := "StairGangModel", name := "lays", desc := "()V" } : Jvm.MethodName)) ∈ gw := lw_m7 133 rfl
set_option maxRecDepth 100000 in
theorem tb1574 : (Jvm.Cond.code ({ cls := "StairGangModel", name := "lays", desc := "()V" } : Jvm.MethodName) prog_13_method_45_code (1 : Nat) (Option.none : Option Jvm.ClassFile.FieldType)) ∈ gw := lw_m7 134 rfl
set_option maxRecDepth 100000 in
theorem tb1575 : (Jvm.Cond.methodLink "StairGangModel" (393 : Nat) ({ cls := "StairGangModel", name := "moves", desc := "([II)V" } : Jvm.MethodName)) ∈ gw := lw_m7 135 rfl
set_option maxRecDepth 100000 in
theorem tb1576 : (Jvm.Cond.static ({ cls := "StairGangModel", name := "moves", desc := "([II)V" } : Jvm.MethodName)) ∈ gw := lw_m7 136 rfl
set_option maxRecDepth 100000 in
theorem tb1577 : (Jvm.Cond.code ({ cls := "StairGangModel", name := "moves", desc := "([II)V" } : Jvm.MethodName) prog_13_method_43_code (3 : Nat) (Option.none : Option Jvm.ClassFile.FieldType)) ∈ gw := lw_m7 137 rfl
set_option maxRecDepth 100000 in
theorem tb1578 : (Jvm.Cond.methodLink "StairGangModel" (397 : Nat) ({ cls := "StairGangModel", name := "movesNames", desc := "([JI)V" } : Jvm.MethodName)) ∈ gw := lw_m7 138 rfl
set_option maxRecDepth 100000 in
theorem tb1579 : (Jvm.Cond.static ({ cls := "StairGangModel", name := "movesNames", desc := "([JI)V" } : Jvm.MethodName)) ∈ gw := lw_m7 139 rfl
set_option maxRecDepth 100000 in
theorem tb1580 : (Jvm.Cond.code ({ cls := "StairGangModel", name := "movesNames", desc := "([JI)V" } : Jvm.MethodName) prog_13_method_44_code (3 : Nat) (Option.none : Option Jvm.ClassFile.FieldType)) ∈ gw := lw_m7 140 rfl
set_option maxRecDepth 100000 in
theorem tb1581 : (Jvm.Cond.methodLink "StairGangModel" (413 : Nat) ({ cls := "StairGangModel", name := "fresh", desc := "()V" } : Jvm.MethodName)) ∈ gw := lw_m7 141 rfl
set_option maxRecDepth 100000 in
theorem tb1583 : (Jvm.Cond.instanceMethod ({ cls := "StairGangModel", name := "fresh", desc := "()V" } : Jvm.MethodName)) ∈ gw := lw_m7 143 rfl
set_option maxRecDepth 100000 in
theorem tb1584 : (Jvm.Cond.code ({ cls := "StairGangModel", name := "fresh", desc := "()V" } : Jvm.MethodName) prog_13_method_52_code (2 : Nat) (Option.none : Option Jvm.ClassFile.FieldType)) ∈ gw := lw_m7 144 rfl
set_option maxRecDepth 100000 in
theorem tb1585 : (Jvm.Cond.methodLink "StairGangModel" (404 : Nat) ({ cls := "StairGangModel", name := "allFlights", desc := "()I" } : Jvm.MethodName)) ∈ gw := lw_m7 145 rfl
set_option maxRecDepth 100000 in
theorem tb1587 : (Jvm.Cond.instanceMethod ({ cls := "StairGangModel", name := "allFlights", desc := "()I" } : Jvm.MethodName)) ∈ gw := lw_m7 147 rfl
set_option maxRecDepth 100000 in
theorem tb1588 : (Jvm.Cond.code ({ cls := "StairGangModel", name := "allFlights", desc := "()I" } : Jvm.MethodName) prog_13_method_51_code (1 : Nat) (Option.some Jvm.ClassFile.FieldType.int)) ∈ gw := lw_m7 148 rfl
set_option maxRecDepth 100000 in
theorem tb1590 : (Jvm.Cond.instanceMethod ({ cls := "StairGangModel", name := "nights", desc := "()I" } : Jvm.MethodName)) ∈ gw := lw_m7 150 rfl
set_option maxRecDepth 100000 in
theorem tb1591 : (Jvm.Cond.selects "StairGangModel" ({ cls := "StairGangModel", name := "nights", desc := "()I" } : Jvm.MethodName) ({ cls := "StairGangModel", name := "nights", desc := "()I" } : Jvm.MethodName)) ∈ gw := lw_m7 151 rfl
set_option maxRecDepth 100000 in
theorem tb1592 : (Jvm.Cond.code ({ cls := "StairGangModel", name := "nights", desc := "()I" } : Jvm.MethodName) prog_13_method_54_code (1 : Nat) (Option.some Jvm.ClassFile.FieldType.int)) ∈ gw := lw_m7 152 rfl
set_option maxRecDepth 100000 in
theorem tb1593 : (Jvm.Cond.methodLink "StairGangModel" (419 : Nat) ({ cls := "StairGangModel", name := "readsLine", desc := "()Z" } : Jvm.MethodName)) ∈ gw := lw_m7 153 rfl
set_option maxRecDepth 100000 in
theorem tb1595 : (Jvm.Cond.instanceMethod ({ cls := "StairGangModel", name := "readsLine", desc := "()Z" } : Jvm.MethodName)) ∈ gw := lw_m7 155 rfl
set_option maxRecDepth 100000 in
theorem tb1596 : (Jvm.Cond.code ({ cls := "StairGangModel", name := "readsLine", desc := "()Z" } : Jvm.MethodName) prog_13_method_48_code (3 : Nat) (Option.some Jvm.ClassFile.FieldType.boolean)) ∈ gw := lw_m7 156 rfl
set_option maxRecDepth 100000 in
theorem tb1597 : (Jvm.Cond.methodLink "StairGangModel" (401 : Nat) ({ cls := "StairGangModel", name := "needsFlight", desc := "()Z" } : Jvm.MethodName)) ∈ gw := lw_m7 157 rfl
set_option maxRecDepth 100000 in
theorem tb1599 : (Jvm.Cond.instanceMethod ({ cls := "StairGangModel", name := "needsFlight", desc := "()Z" } : Jvm.MethodName)) ∈ gw := lw_m7 159 rfl
set_option maxRecDepth 100000 in
theorem tb1600 : (Jvm.Cond.code ({ cls := "StairGangModel", name := "needsFlight", desc := "()Z" } : Jvm.MethodName) prog_13_method_47_code (2 : Nat) (Option.some Jvm.ClassFile.FieldType.boolean)) ∈ gw := lw_m7 160 rfl
set_option maxRecDepth 100000 in
theorem tb1601 : (Jvm.Cond.methodLink "StairGangModel" (422 : Nat) ({ cls := "StairGangModel", name := "laysLines", desc := "(II)V" } : Jvm.MethodName)) ∈ gw := lw_m7 161 rfl
set_option maxRecDepth 100000 in
theorem tb1603 : (Jvm.Cond.instanceMethod ({ cls := "StairGangModel", name := "laysLines", desc := "(II)V" } : Jvm.MethodName)) ∈ gw := lw_m7 163 rfl
set_option maxRecDepth 100000 in
theorem tb1604 : (Jvm.Cond.code ({ cls := "StairGangModel", name := "laysLines", desc := "(II)V" } : Jvm.MethodName) prog_13_method_49_code (4 : Nat) (Option.none : Option Jvm.ClassFile.FieldType)) ∈ gw := lw_m7 164 rfl
set_option maxRecDepth 100000 in
theorem tb1606 : (Jvm.Cond.instanceMethod ({ cls := "StairGangModel", name := "flight", desc := "(II)I" } : Jvm.MethodName)) ∈ gw := lw_m7 166 rfl
set_option maxRecDepth 100000 in
theorem tb1607 : (Jvm.Cond.selects "StairGangModel" ({ cls := "StairGangModel", name := "flight", desc := "(II)I" } : Jvm.MethodName) ({ cls := "StairGangModel", name := "flight", desc := "(II)I" } : Jvm.MethodName)) ∈ gw := lw_m7 167 rfl
set_option maxRecDepth 100000 in
theorem tb1608 : (Jvm.Cond.code ({ cls := "StairGangModel", name := "flight", desc := "(II)I" } : Jvm.MethodName) prog_13_method_67_code (3 : Nat) (Option.some Jvm.ClassFile.FieldType.int)) ∈ gw := lw_m7 168 rfl
set_option maxRecDepth 100000 in
theorem tb1609 : (Jvm.Cond.methodLink "StairGangModel" (442 : Nat) ({ cls := "StairGangModel", name := "isFlight", desc := "(I)Z" } : Jvm.MethodName)) ∈ gw := lw_m7 169 rfl
set_option maxRecDepth 100000 in
theorem tb1611 : (Jvm.Cond.instanceMethod ({ cls := "StairGangModel", name := "isFlight", desc := "(I)Z" } : Jvm.MethodName)) ∈ gw := lw_m7 171 rfl
set_option maxRecDepth 100000 in
theorem tb1612 : (Jvm.Cond.code ({ cls := "StairGangModel", name := "isFlight", desc := "(I)Z" } : Jvm.MethodName) prog_13_method_55_code (2 : Nat) (Option.some Jvm.ClassFile.FieldType.boolean)) ∈ gw := lw_m7 172 rfl
set_option maxRecDepth 100000 in
theorem tb1614 : (Jvm.Cond.instanceMethod ({ cls := "StairGangModel", name := "person", desc := "(II)I" } : Jvm.MethodName)) ∈ gw := lw_m7 174 rfl
set_option maxRecDepth 100000 in
theorem tb1615 : (Jvm.Cond.selects "StairGangModel" ({ cls := "StairGangModel", name := "person", desc := "(II)I" } : Jvm.MethodName) ({ cls := "StairGangModel", name := "person", desc := "(II)I" } : Jvm.MethodName)) ∈ gw := lw_m7 175 rfl
set_option maxRecDepth 100000 in
theorem tb1616 : (Jvm.Cond.code ({ cls := "StairGangModel", name := "person", desc := "(II)I" } : Jvm.MethodName) prog_13_method_68_code (3 : Nat) (Option.some Jvm.ClassFile.FieldType.int)) ∈ gw := lw_m7 176 rfl
set_option maxRecDepth 100000 in
theorem tb1617 : (Jvm.Cond.methodLink "StairGangModel" (445 : Nat) ({ cls := "StairGangModel", name := "isPerson", desc := "(I)Z" } : Jvm.MethodName)) ∈ gw := lw_m7 177 rfl
set_option maxRecDepth 100000 in
theorem tb1619 : (Jvm.Cond.instanceMethod ({ cls := "StairGangModel", name := "isPerson", desc := "(I)Z" } : Jvm.MethodName)) ∈ gw := lw_m7 179 rfl
set_option maxRecDepth 100000 in
theorem tb1620 : (Jvm.Cond.code ({ cls := "StairGangModel", name := "isPerson", desc := "(I)Z" } : Jvm.MethodName) prog_13_method_56_code (2 : Nat) (Option.some Jvm.ClassFile.FieldType.boolean)) ∈ gw := lw_m7 180 rfl
set_option maxRecDepth 100000 in
theorem tb1622 : (Jvm.Cond.instanceMethod ({ cls := "StairGangModel", name := "thing", desc := "(I)I" } : Jvm.MethodName)) ∈ gw := lw_m7 182 rfl
set_option maxRecDepth 100000 in
theorem tb1623 : (Jvm.Cond.selects "StairGangModel" ({ cls := "StairGangModel", name := "thing", desc := "(I)I" } : Jvm.MethodName) ({ cls := "StairGangModel", name := "thing", desc := "(I)I" } : Jvm.MethodName)) ∈ gw := lw_m7 183 rfl
set_option maxRecDepth 100000 in
theorem tb1624 : (Jvm.Cond.code ({ cls := "StairGangModel", name := "thing", desc := "(I)I" } : Jvm.MethodName) prog_13_method_69_code (2 : Nat) (Option.some Jvm.ClassFile.FieldType.int)) ∈ gw := lw_m7 184 rfl
set_option maxRecDepth 100000 in
theorem tb1625 : (Jvm.Cond.methodLink "StairGangModel" (448 : Nat) ({ cls := "StairGangModel", name := "isThing", desc := "(I)Z" } : Jvm.MethodName)) ∈ gw := lw_m7 185 rfl
set_option maxRecDepth 100000 in
theorem tb1627 : (Jvm.Cond.instanceMethod ({ cls := "StairGangModel", name := "isThing", desc := "(I)Z" } : Jvm.MethodName)) ∈ gw := lw_m7 187 rfl
set_option maxRecDepth 100000 in
theorem tb1628 : (Jvm.Cond.code ({ cls := "StairGangModel", name := "isThing", desc := "(I)Z" } : Jvm.MethodName) prog_13_method_57_code (2 : Nat) (Option.some Jvm.ClassFile.FieldType.boolean)) ∈ gw := lw_m7 188 rfl
set_option maxRecDepth 100000 in
theorem tb1630 : (Jvm.Cond.instanceMethod ({ cls := "StairGangModel", name := "reach", desc := "(I)I" } : Jvm.MethodName)) ∈ gw := lw_m7 190 rfl
set_option maxRecDepth 100000 in
theorem tb1631 : (Jvm.Cond.selects "StairGangModel" ({ cls := "StairGangModel", name := "reach", desc := "(I)I" } : Jvm.MethodName) ({ cls := "StairGangModel", name := "reach", desc := "(I)I" } : Jvm.MethodName)) ∈ gw := lw_m7 191 rfl
set_option maxRecDepth 100000 in
theorem tb1632 : (Jvm.Cond.code ({ cls := "StairGangModel", name := "reach", desc := "(I)I" } : Jvm.MethodName) prog_13_method_70_code (2 : Nat) (Option.some Jvm.ClassFile.FieldType.int)) ∈ gw := lw_m7 192 rfl
set_option maxRecDepth 100000 in
theorem tb1633 : (Jvm.Cond.methodLink "StairGangModel" (451 : Nat) ({ cls := "StairGangModel", name := "reachOf", desc := "(I)I" } : Jvm.MethodName)) ∈ gw := lw_m7 193 rfl
set_option maxRecDepth 100000 in
theorem tb1635 : (Jvm.Cond.instanceMethod ({ cls := "StairGangModel", name := "reachOf", desc := "(I)I" } : Jvm.MethodName)) ∈ gw := lw_m7 195 rfl
set_option maxRecDepth 100000 in
theorem tb1636 : (Jvm.Cond.code ({ cls := "StairGangModel", name := "reachOf", desc := "(I)I" } : Jvm.MethodName) prog_13_method_64_code (2 : Nat) (Option.some Jvm.ClassFile.FieldType.int)) ∈ gw := lw_m7 196 rfl
set_option maxRecDepth 100000 in
theorem tb1637 : (Jvm.Cond.methodLink "StairGangModel" (432 : Nat) ({ cls := "StairGangModel", name := "climbs", desc := "(III)I" } : Jvm.MethodName)) ∈ gw := lw_m7 197 rfl
set_option maxRecDepth 100000 in
theorem tb1639 : (Jvm.Cond.instanceMethod ({ cls := "StairGangModel", name := "climbs", desc := "(III)I" } : Jvm.MethodName)) ∈ gw := lw_m7 199 rfl
set_option maxRecDepth 100000 in
theorem tb1640 : (Jvm.Cond.code ({ cls := "StairGangModel", name := "climbs", desc := "(III)I" } : Jvm.MethodName) prog_13_method_61_code (8 : Nat) (Option.some Jvm.ClassFile.FieldType.int)) ∈ gw := lw_m7 200 rfl
set_option maxRecDepth 100000 in
theorem tb1641 : (Jvm.Cond.methodLink "StairGangModel" (426 : Nat) ({ cls := "StairGangModel", name := "lowerOf", desc := "(I)I" } : Jvm.MethodName)) ∈ gw := lw_m7 201 rfl
set_option maxRecDepth 100000 in
theorem tb1643 : (Jvm.Cond.instanceMethod ({ cls := "StairGangModel", name := "lowerOf", desc := "(I)I" } : Jvm.MethodName)) ∈ gw := lw_m7 203 rfl
set_option maxRecDepth 100000 in
theorem tb1644 : (Jvm.Cond.code ({ cls := "StairGangModel", name := "lowerOf", desc := "(I)I" } : Jvm.MethodName) prog_13_method_60_code (2 : Nat) (Option.some Jvm.ClassFile.FieldType.int)) ∈ gw := lw_m7 204 rfl
set_option maxRecDepth 100000 in
theorem tb1645 : (Jvm.Cond.methodLink "StairGangModel" (435 : Nat) ({ cls := "StairGangModel", name := "spreads", desc := "(II)I" } : Jvm.MethodName)) ∈ gw := lw_m7 205 rfl
set_option maxRecDepth 100000 in
theorem tb1647 : (Jvm.Cond.instanceMethod ({ cls := "StairGangModel", name := "spreads", desc := "(II)I" } : Jvm.MethodName)) ∈ gw := lw_m7 207 rfl
set_option maxRecDepth 100000 in
theorem tb1648 : (Jvm.Cond.code ({ cls := "StairGangModel", name := "spreads", desc := "(II)I" } : Jvm.MethodName) prog_13_method_63_code (8 : Nat) (Option.some Jvm.ClassFile.FieldType.int)) ∈ gw := lw_m7 208 rfl
set_option maxRecDepth 100000 in
theorem tb1649 : (Jvm.Cond.methodLink "StairGangModel" (429 : Nat) ({ cls := "StairGangModel", name := "streets", desc := "()I" } : Jvm.MethodName)) ∈ gw := lw_m7 209 rfl
set_option maxRecDepth 100000 in
theorem tb1651 : (Jvm.Cond.instanceMethod ({ cls := "StairGangModel", name := "streets", desc := "()I" } : Jvm.MethodName)) ∈ gw := lw_m7 211 rfl
set_option maxRecDepth 100000 in
theorem tb1652 : (Jvm.Cond.code ({ cls := "StairGangModel", name := "streets", desc := "()I" } : Jvm.MethodName) prog_13_method_62_code (3 : Nat) (Option.some Jvm.ClassFile.FieldType.int)) ∈ gw := lw_m7 212 rfl
set_option maxRecDepth 100000 in
theorem tb1654 : (Jvm.Cond.instanceMethod ({ cls := "StairGangModel", name := "cost", desc := "(II)I" } : Jvm.MethodName)) ∈ gw := lw_m7 214 rfl
set_option maxRecDepth 100000 in
theorem tb1655 : (Jvm.Cond.selects "StairGangModel" ({ cls := "StairGangModel", name := "cost", desc := "(II)I" } : Jvm.MethodName) ({ cls := "StairGangModel", name := "cost", desc := "(II)I" } : Jvm.MethodName)) ∈ gw := lw_m7 215 rfl
set_option maxRecDepth 100000 in
theorem tb1656 : (Jvm.Cond.code ({ cls := "StairGangModel", name := "cost", desc := "(II)I" } : Jvm.MethodName) prog_13_method_72_code (8 : Nat) (Option.some Jvm.ClassFile.FieldType.int)) ∈ gw := lw_m7 216 rfl
set_option maxRecDepth 100000 in
theorem tb1657 : (Jvm.Cond.methodLink "StairGangModel" (454 : Nat) ({ cls := "StairGangModel", name := "isPlace", desc := "(I)Z" } : Jvm.MethodName)) ∈ gw := lw_m7 217 rfl
set_option maxRecDepth 100000 in
theorem tb1659 : (Jvm.Cond.instanceMethod ({ cls := "StairGangModel", name := "isPlace", desc := "(I)Z" } : Jvm.MethodName)) ∈ gw := lw_m7 219 rfl
set_option maxRecDepth 100000 in
theorem tb1660 : (Jvm.Cond.code ({ cls := "StairGangModel", name := "isPlace", desc := "(I)Z" } : Jvm.MethodName) prog_13_method_59_code (2 : Nat) (Option.some Jvm.ClassFile.FieldType.boolean)) ∈ gw := lw_m7 220 rfl
set_option maxRecDepth 100000 in
theorem tb1661 : (Jvm.Cond.constant "StairGangModel" (457 : Nat) (1000000 : Int32)) ∈ gw := lw_m7 221 rfl
set_option maxRecDepth 100000 in
theorem tb1662 : (Jvm.Cond.methodLink "StairGangModel" (458 : Nat) ({ cls := "StairGangModel", name := "lessens", desc := "(II)Z" } : Jvm.MethodName)) ∈ gw := lw_m7 222 rfl
set_option maxRecDepth 100000 in
theorem tb1664 : (Jvm.Cond.instanceMethod ({ cls := "StairGangModel", name := "lessens", desc := "(II)Z" } : Jvm.MethodName)) ∈ gw := lw_m7 224 rfl
set_option maxRecDepth 100000 in
theorem tb1665 : (Jvm.Cond.code ({ cls := "StairGangModel", name := "lessens", desc := "(II)Z" } : Jvm.MethodName) prog_13_method_71_code (3 : Nat) (Option.some Jvm.ClassFile.FieldType.boolean)) ∈ gw := lw_m7 225 rfl
set_option maxRecDepth 100000 in
theorem tb1667 : (Jvm.Cond.instanceMethod ({ cls := "StairGangModel", name := "cut", desc := "()I" } : Jvm.MethodName)) ∈ gw := lw_m7 227 rfl
set_option maxRecDepth 100000 in
theorem tb1668 : (Jvm.Cond.selects "StairGangModel" ({ cls := "StairGangModel", name := "cut", desc := "()I" } : Jvm.MethodName) ({ cls := "StairGangModel", name := "cut", desc := "()I" } : Jvm.MethodName)) ∈ gw := lw_m7 228 rfl
set_option maxRecDepth 100000 in
theorem tb1669 : (Jvm.Cond.code ({ cls := "StairGangModel", name := "cut", desc := "()I" } : Jvm.MethodName) prog_13_method_73_code (1 : Nat) (Option.some Jvm.ClassFile.FieldType.int)) ∈ gw := lw_m7 229 rfl
set_option maxRecDepth 100000 in
theorem tb1670 : (Jvm.Cond.methodLink "StairGangModel" (461 : Nat) ({ cls := "StairGangModel", name := "cutBy", desc := "(I)I" } : Jvm.MethodName)) ∈ gw := lw_m7 230 rfl
set_option maxRecDepth 100000 in
theorem tb1672 : (Jvm.Cond.instanceMethod ({ cls := "StairGangModel", name := "cutBy", desc := "(I)I" } : Jvm.MethodName)) ∈ gw := lw_m7 232 rfl
set_option maxRecDepth 100000 in
theorem tb1673 : (Jvm.Cond.code ({ cls := "StairGangModel", name := "cutBy", desc := "(I)I" } : Jvm.MethodName) prog_13_method_66_code (4 : Nat) (Option.some Jvm.ClassFile.FieldType.int)) ∈ gw := lw_m7 233 rfl
set_option maxRecDepth 100000 in
theorem tb1674 : (Jvm.Cond.methodLink "StairGangModel" (439 : Nat) ({ cls := "StairGangModel", name := "isCut", desc := "(III)Z" } : Jvm.MethodName)) ∈ gw := lw_m7 234 rfl
set_option maxRecDepth 100000 in
theorem tb1676 : (Jvm.Cond.instanceMethod ({ cls := "StairGangModel", name := "isCut", desc := "(III)Z" } : Jvm.MethodName)) ∈ gw := lw_m7 236 rfl
set_option maxRecDepth 100000 in
theorem tb1677 : (Jvm.Cond.code ({ cls := "StairGangModel", name := "isCut", desc := "(III)Z" } : Jvm.MethodName) prog_13_method_65_code (4 : Nat) (Option.some Jvm.ClassFile.FieldType.boolean)) ∈ gw := lw_m7 237 rfl
set_option maxRecDepth 100000 in
theorem tb1679 : (Jvm.Cond.instanceMethod ({ cls := "StairGangModel", name := "steal", desc := "(I)I" } : Jvm.MethodName)) ∈ gw := lw_m7 239 rfl
set_option maxRecDepth 100000 in
theorem tb1680 : (Jvm.Cond.selects "StairGangModel" ({ cls := "StairGangModel", name := "steal", desc := "(I)I" } : Jvm.MethodName) ({ cls := "StairGangModel", name := "steal", desc := "(I)I" } : Jvm.MethodName)) ∈ gw := lw_m8 0 rfl
set_option maxRecDepth 100000 in
theorem tb1681 : (Jvm.Cond.code ({ cls := "StairGangModel", name := "steal", desc := "(I)I" } : Jvm.MethodName) prog_13_method_79_code (2 : Nat) (Option.some Jvm.ClassFile.FieldType.int)) ∈ gw := lw_m8 1 rfl
set_option maxRecDepth 100000 in
theorem tb1682 : (Jvm.Cond.methodLink "StairGangModel" (483 : Nat) ({ cls := "StairGangModel", name := "canSteal", desc := "(I)Z" } : Jvm.MethodName)) ∈ gw := lw_m8 2 rfl
set_option maxRecDepth 100000 in
theorem tb1684 : (Jvm.Cond.instanceMethod ({ cls := "StairGangModel", name := "canSteal", desc := "(I)Z" } : Jvm.MethodName)) ∈ gw := lw_m8 4 rfl
set_option maxRecDepth 100000 in
theorem tb1685 : (Jvm.Cond.code ({ cls := "StairGangModel", name := "canSteal", desc := "(I)Z" } : Jvm.MethodName) prog_13_method_76_code (2 : Nat) (Option.some Jvm.ClassFile.FieldType.boolean)) ∈ gw := lw_m8 5 rfl
set_option maxRecDepth 100000 in
theorem tb1686 : (Jvm.Cond.methodLink "StairGangModel" (468 : Nat) ({ cls := "StairGangModel", name := "above", desc := "(I)I" } : Jvm.MethodName)) ∈ gw := lw_m8 6 rfl
set_option maxRecDepth 100000 in
theorem tb1688 : (Jvm.Cond.instanceMethod ({ cls := "StairGangModel", name := "above", desc := "(I)I" } : Jvm.MethodName)) ∈ gw := lw_m8 8 rfl
set_option maxRecDepth 100000 in
theorem tb1689 : (Jvm.Cond.code ({ cls := "StairGangModel", name := "above", desc := "(I)I" } : Jvm.MethodName) prog_13_method_75_code (4 : Nat) (Option.some Jvm.ClassFile.FieldType.int)) ∈ gw := lw_m8 9 rfl
set_option maxRecDepth 100000 in
theorem tb1690 : (Jvm.Cond.methodLink "StairGangModel" (486 : Nat) ({ cls := "StairGangModel", name := "keeps", desc := "()V" } : Jvm.MethodName)) ∈ gw := lw_m8 10 rfl
set_option maxRecDepth 100000 in
theorem tb1692 : (Jvm.Cond.instanceMethod ({ cls := "StairGangModel", name := "keeps", desc := "()V" } : Jvm.MethodName)) ∈ gw := lw_m8 12 rfl
set_option maxRecDepth 100000 in
theorem tb1693 : (Jvm.Cond.code ({ cls := "StairGangModel", name := "keeps", desc := "()V" } : Jvm.MethodName) prog_13_method_74_code (2 : Nat) (Option.none : Option Jvm.ClassFile.FieldType)) ∈ gw := lw_m8 13 rfl
set_option maxRecDepth 100000 in
theorem tb1694 : (Jvm.Cond.methodLink "StairGangModel" (464 : Nat) ({ cls := "StairGangModel", name := "copies", desc := "([II[II)V" } : Jvm.MethodName)) ∈ gw := lw_m8 14 rfl
set_option maxRecDepth 100000 in
theorem tb1695 : (Jvm.Cond.static ({ cls := "StairGangModel", name := "copies", desc := "([II[II)V" } : Jvm.MethodName)) ∈ gw := lw_m8 15 rfl
set_option maxRecDepth 100000 in
theorem tb1696 : (Jvm.Cond.code ({ cls := "StairGangModel", name := "copies", desc := "([II[II)V" } : Jvm.MethodName) prog_13_method_46_code (5 : Nat) (Option.none : Option Jvm.ClassFile.FieldType)) ∈ gw := lw_m8 16 rfl
set_option maxRecDepth 100000 in
theorem tb1697 : (Jvm.Cond.methodLink "StairGangModel" (489 : Nat) ({ cls := "StairGangModel", name := "steals", desc := "(I)I" } : Jvm.MethodName)) ∈ gw := lw_m8 17 rfl
set_option maxRecDepth 100000 in
theorem tb1699 : (Jvm.Cond.instanceMethod ({ cls := "StairGangModel", name := "steals", desc := "(I)I" } : Jvm.MethodName)) ∈ gw := lw_m8 19 rfl
set_option maxRecDepth 100000 in
theorem tb1700 : (Jvm.Cond.code ({ cls := "StairGangModel", name := "steals", desc := "(I)I" } : Jvm.MethodName) prog_13_method_78_code (3 : Nat) (Option.some Jvm.ClassFile.FieldType.int)) ∈ gw := lw_m8 20 rfl
set_option maxRecDepth 100000 in
theorem tb1701 : (Jvm.Cond.methodLink "StairGangModel" (480 : Nat) ({ cls := "StairGangModel", name := "priceOf", desc := "(I)I" } : Jvm.MethodName)) ∈ gw := lw_m8 21 rfl
set_option maxRecDepth 100000 in
theorem tb1703 : (Jvm.Cond.instanceMethod ({ cls := "StairGangModel", name := "priceOf", desc := "(I)I" } : Jvm.MethodName)) ∈ gw := lw_m8 23 rfl
set_option maxRecDepth 100000 in
theorem tb1704 : (Jvm.Cond.code ({ cls := "StairGangModel", name := "priceOf", desc := "(I)I" } : Jvm.MethodName) prog_13_method_77_code (3 : Nat) (Option.some Jvm.ClassFile.FieldType.int)) ∈ gw := lw_m8 24 rfl
set_option maxRecDepth 100000 in
theorem tb1705 : (Jvm.Cond.methodLink "StairGangModel" (471 : Nat) ({ cls := "StairGangModel", name := "bits", desc := "(I)I" } : Jvm.MethodName)) ∈ gw := lw_m8 25 rfl
set_option maxRecDepth 100000 in
theorem tb1706 : (Jvm.Cond.static ({ cls := "StairGangModel", name := "bits", desc := "(I)I" } : Jvm.MethodName)) ∈ gw := lw_m8 26 rfl
set_option maxRecDepth 100000 in
theorem tb1707 : (Jvm.Cond.code ({ cls := "StairGangModel", name := "bits", desc := "(I)I" } : Jvm.MethodName) prog_13_method_6_code (3 : Nat) (Option.some Jvm.ClassFile.FieldType.int)) ∈ gw := lw_m8 27 rfl
set_option maxRecDepth 100000 in
theorem tb1708 : (Jvm.Cond.methodLink "StairGangModel" (474 : Nat) ({ cls := "StairGangModel", name := "worked", desc := "(I)I" } : Jvm.MethodName)) ∈ gw := lw_m8 28 rfl
set_option maxRecDepth 100000 in
theorem tb1710 : (Jvm.Cond.instanceMethod ({ cls := "StairGangModel", name := "worked", desc := "(I)I" } : Jvm.MethodName)) ∈ gw := lw_m8 30 rfl
set_option maxRecDepth 100000 in
theorem tb1711 : (Jvm.Cond.code ({ cls := "StairGangModel", name := "worked", desc := "(I)I" } : Jvm.MethodName) prog_13_method_19_code (6 : Nat) (Option.some Jvm.ClassFile.FieldType.int)) ∈ gw := lw_m8 31 rfl
set_option maxRecDepth 100000 in
theorem tb1712 : (Jvm.Cond.methodLink "StairGangModel" (259 : Nat) ({ cls := "StairGangModel", name := "opens", desc := "(I)V" } : Jvm.MethodName)) ∈ gw := lw_m8 32 rfl
set_option maxRecDepth 100000 in
theorem tb1714 : (Jvm.Cond.instanceMethod ({ cls := "StairGangModel", name := "opens", desc := "(I)V" } : Jvm.MethodName)) ∈ gw := lw_m8 34 rfl
set_option maxRecDepth 100000 in
theorem tb1715 : (Jvm.Cond.code ({ cls := "StairGangModel", name := "opens", desc := "(I)V" } : Jvm.MethodName) prog_13_method_16_code (2 : Nat) (Option.none : Option Jvm.ClassFile.FieldType)) ∈ gw := lw_m8 35 rfl
set_option maxRecDepth 100000 in
theorem tb1716 : (Jvm.Cond.methodLink "StairGangModel" (256 : Nat) ({ cls := "StairGangModel", name := "sums", desc := "(I)V" } : Jvm.MethodName)) ∈ gw := lw_m8 36 rfl
set_option maxRecDepth 100000 in
theorem tb1718 : (Jvm.Cond.instanceMethod ({ cls := "StairGangModel", name := "sums", desc := "(I)V" } : Jvm.MethodName)) ∈ gw := lw_m8 38 rfl
set_option maxRecDepth 100000 in
theorem tb1719 : (Jvm.Cond.code ({ cls := "StairGangModel", name := "sums", desc := "(I)V" } : Jvm.MethodName) prog_13_method_17_code (2 : Nat) (Option.none : Option Jvm.ClassFile.FieldType)) ∈ gw := lw_m8 39 rfl
set_option maxRecDepth 100000 in
theorem tb1720 : (Jvm.Cond.methodLink "StairGangModel" (262 : Nat) ({ cls := "StairGangModel", name := "tests", desc := "(I)V" } : Jvm.MethodName)) ∈ gw := lw_m8 40 rfl
set_option maxRecDepth 100000 in
theorem tb1722 : (Jvm.Cond.instanceMethod ({ cls := "StairGangModel", name := "tests", desc := "(I)V" } : Jvm.MethodName)) ∈ gw := lw_m8 42 rfl
set_option maxRecDepth 100000 in
theorem tb1723 : (Jvm.Cond.code ({ cls := "StairGangModel", name := "tests", desc := "(I)V" } : Jvm.MethodName) prog_13_method_18_code (3 : Nat) (Option.none : Option Jvm.ClassFile.FieldType)) ∈ gw := lw_m8 43 rfl
set_option maxRecDepth 100000 in
theorem tb1724 : (Jvm.Cond.methodLink "StairGangModel" (477 : Nat) ({ cls := "StairGangModel", name := "between", desc := "(III)I" } : Jvm.MethodName)) ∈ gw := lw_m8 44 rfl
set_option maxRecDepth 100000 in
theorem tb1725 : (Jvm.Cond.static ({ cls := "StairGangModel", name := "between", desc := "(III)I" } : Jvm.MethodName)) ∈ gw := lw_m8 45 rfl
set_option maxRecDepth 100000 in
theorem tb1726 : (Jvm.Cond.code ({ cls := "StairGangModel", name := "between", desc := "(III)I" } : Jvm.MethodName) prog_13_method_4_code (3 : Nat) (Option.some Jvm.ClassFile.FieldType.int)) ∈ gw := lw_m8 46 rfl
set_option maxRecDepth 100000 in
theorem tb1728 : (Jvm.Cond.instanceMethod ({ cls := "StairGangModel", name := "build", desc := "(I)I" } : Jvm.MethodName)) ∈ gw := lw_m8 48 rfl
set_option maxRecDepth 100000 in
theorem tb1729 : (Jvm.Cond.selects "StairGangModel" ({ cls := "StairGangModel", name := "build", desc := "(I)I" } : Jvm.MethodName) ({ cls := "StairGangModel", name := "build", desc := "(I)I" } : Jvm.MethodName)) ∈ gw := lw_m8 49 rfl
set_option maxRecDepth 100000 in
theorem tb1730 : (Jvm.Cond.code ({ cls := "StairGangModel", name := "build", desc := "(I)I" } : Jvm.MethodName) prog_13_method_82_code (2 : Nat) (Option.some Jvm.ClassFile.FieldType.int)) ∈ gw := lw_m8 50 rfl
set_option maxRecDepth 100000 in
theorem tb1731 : (Jvm.Cond.methodLink "StairGangModel" (492 : Nat) ({ cls := "StairGangModel", name := "canBuild", desc := "(I)Z" } : Jvm.MethodName)) ∈ gw := lw_m8 51 rfl
set_option maxRecDepth 100000 in
theorem tb1733 : (Jvm.Cond.instanceMethod ({ cls := "StairGangModel", name := "canBuild", desc := "(I)Z" } : Jvm.MethodName)) ∈ gw := lw_m8 53 rfl
set_option maxRecDepth 100000 in
theorem tb1734 : (Jvm.Cond.code ({ cls := "StairGangModel", name := "canBuild", desc := "(I)Z" } : Jvm.MethodName) prog_13_method_80_code (2 : Nat) (Option.some Jvm.ClassFile.FieldType.boolean)) ∈ gw := lw_m8 54 rfl
set_option maxRecDepth 100000 in
theorem tb1735 : (Jvm.Cond.methodLink "StairGangModel" (495 : Nat) ({ cls := "StairGangModel", name := "builds", desc := "(I)V" } : Jvm.MethodName)) ∈ gw := lw_m8 55 rfl
set_option maxRecDepth 100000 in
theorem tb1737 : (Jvm.Cond.instanceMethod ({ cls := "StairGangModel", name := "builds", desc := "(I)V" } : Jvm.MethodName)) ∈ gw := lw_m8 57 rfl
set_option maxRecDepth 100000 in
theorem tb1738 : (Jvm.Cond.code ({ cls := "StairGangModel", name := "builds", desc := "(I)V" } : Jvm.MethodName) prog_13_method_81_code (2 : Nat) (Option.none : Option Jvm.ClassFile.FieldType)) ∈ gw := lw_m8 58 rfl
set_option maxRecDepth 100000 in
theorem tb1740 : (Jvm.Cond.instanceMethod ({ cls := "StairGangModel", name := "go", desc := "(II)Z" } : Jvm.MethodName)) ∈ gw := lw_m8 60 rfl
set_option maxRecDepth 100000 in
theorem tb1741 : (Jvm.Cond.selects "StairGangModel" ({ cls := "StairGangModel", name := "go", desc := "(II)Z" } : Jvm.MethodName) ({ cls := "StairGangModel", name := "go", desc := "(II)Z" } : Jvm.MethodName)) ∈ gw := lw_m8 61 rfl
set_option maxRecDepth 100000 in
theorem tb1742 : (Jvm.Cond.code ({ cls := "StairGangModel", name := "go", desc := "(II)Z" } : Jvm.MethodName) prog_13_method_84_code (3 : Nat) (Option.some Jvm.ClassFile.FieldType.boolean)) ∈ gw := lw_m8 62 rfl
set_option maxRecDepth 100000 in
theorem tb1743 : (Jvm.Cond.methodLink "StairGangModel" (498 : Nat) ({ cls := "StairGangModel", name := "canGo", desc := "(II)Z" } : Jvm.MethodName)) ∈ gw := lw_m8 63 rfl
set_option maxRecDepth 100000 in
theorem tb1745 : (Jvm.Cond.instanceMethod ({ cls := "StairGangModel", name := "canGo", desc := "(II)Z" } : Jvm.MethodName)) ∈ gw := lw_m8 65 rfl
set_option maxRecDepth 100000 in
theorem tb1746 : (Jvm.Cond.code ({ cls := "StairGangModel", name := "canGo", desc := "(II)Z" } : Jvm.MethodName) prog_13_method_83_code (3 : Nat) (Option.some Jvm.ClassFile.FieldType.boolean)) ∈ gw := lw_m8 66 rfl
set_option maxRecDepth 100000 in
theorem tb1748 : (Jvm.Cond.instanceMethod ({ cls := "StairGangModel", name := "carry", desc := "(III)Z" } : Jvm.MethodName)) ∈ gw := lw_m8 68 rfl
set_option maxRecDepth 100000 in
theorem tb1749 : (Jvm.Cond.selects "StairGangModel" ({ cls := "StairGangModel", name := "carry", desc := "(III)Z" } : Jvm.MethodName) ({ cls := "StairGangModel", name := "carry", desc := "(III)Z" } : Jvm.MethodName)) ∈ gw := lw_m8 69 rfl
set_option maxRecDepth 100000 in
theorem tb1750 : (Jvm.Cond.code ({ cls := "StairGangModel", name := "carry", desc := "(III)Z" } : Jvm.MethodName) prog_13_method_87_code (4 : Nat) (Option.some Jvm.ClassFile.FieldType.boolean)) ∈ gw := lw_m8 70 rfl
set_option maxRecDepth 100000 in
theorem tb1751 : (Jvm.Cond.methodLink "StairGangModel" (501 : Nat) ({ cls := "StairGangModel", name := "canCarry", desc := "(III)Z" } : Jvm.MethodName)) ∈ gw := lw_m8 71 rfl
set_option maxRecDepth 100000 in
theorem tb1753 : (Jvm.Cond.instanceMethod ({ cls := "StairGangModel", name := "canCarry", desc := "(III)Z" } : Jvm.MethodName)) ∈ gw := lw_m8 73 rfl
set_option maxRecDepth 100000 in
theorem tb1754 : (Jvm.Cond.code ({ cls := "StairGangModel", name := "canCarry", desc := "(III)Z" } : Jvm.MethodName) prog_13_method_85_code (4 : Nat) (Option.some Jvm.ClassFile.FieldType.boolean)) ∈ gw := lw_m8 74 rfl
set_option maxRecDepth 100000 in
theorem tb1755 : (Jvm.Cond.methodLink "StairGangModel" (504 : Nat) ({ cls := "StairGangModel", name := "carries", desc := "(III)V" } : Jvm.MethodName)) ∈ gw := lw_m8 75 rfl
set_option maxRecDepth 100000 in
theorem tb1757 : (Jvm.Cond.instanceMethod ({ cls := "StairGangModel", name := "carries", desc := "(III)V" } : Jvm.MethodName)) ∈ gw := lw_m8 77 rfl
set_option maxRecDepth 100000 in
theorem tb1758 : (Jvm.Cond.code ({ cls := "StairGangModel", name := "carries", desc := "(III)V" } : Jvm.MethodName) prog_13_method_86_code (4 : Nat) (Option.none : Option Jvm.ClassFile.FieldType)) ∈ gw := lw_m8 78 rfl
set_option maxRecDepth 100000 in
theorem tb1760 : (Jvm.Cond.instanceMethod ({ cls := "StairGangModel", name := "night", desc := "()I" } : Jvm.MethodName)) ∈ gw := lw_m8 80 rfl
set_option maxRecDepth 100000 in
theorem tb1761 : (Jvm.Cond.selects "StairGangModel" ({ cls := "StairGangModel", name := "night", desc := "()I" } : Jvm.MethodName) ({ cls := "StairGangModel", name := "night", desc := "()I" } : Jvm.MethodName)) ∈ gw := lw_m8 81 rfl
set_option maxRecDepth 100000 in
theorem tb1762 : (Jvm.Cond.code ({ cls := "StairGangModel", name := "night", desc := "()I" } : Jvm.MethodName) prog_13_method_88_code (1 : Nat) (Option.some Jvm.ClassFile.FieldType.int)) ∈ gw := lw_m8 82 rfl
set_option maxRecDepth 100000 in
theorem tb1764 : (Jvm.Cond.instanceMethod ({ cls := "StairGangModel", name := "undo", desc := "()Z" } : Jvm.MethodName)) ∈ gw := lw_m8 84 rfl
set_option maxRecDepth 100000 in
theorem tb1765 : (Jvm.Cond.selects "StairGangModel" ({ cls := "StairGangModel", name := "undo", desc := "()Z" } : Jvm.MethodName) ({ cls := "StairGangModel", name := "undo", desc := "()Z" } : Jvm.MethodName)) ∈ gw := lw_m8 85 rfl
set_option maxRecDepth 100000 in
theorem tb1766 : (Jvm.Cond.code ({ cls := "StairGangModel", name := "undo", desc := "()Z" } : Jvm.MethodName) prog_13_method_89_code (1 : Nat) (Option.some Jvm.ClassFile.FieldType.boolean)) ∈ gw := lw_m8 86 rfl
set_option maxRecDepth 100000 in
theorem tb1768 : (Jvm.Cond.instanceMethod ({ cls := "StairGangModel", name := "judged", desc := "(I)I" } : Jvm.MethodName)) ∈ gw := lw_m8 88 rfl
set_option maxRecDepth 100000 in
theorem tb1769 : (Jvm.Cond.selects "StairGangModel" ({ cls := "StairGangModel", name := "judged", desc := "(I)I" } : Jvm.MethodName) ({ cls := "StairGangModel", name := "judged", desc := "(I)I" } : Jvm.MethodName)) ∈ gw := lw_m8 89 rfl
set_option maxRecDepth 100000 in
theorem tb1770 : (Jvm.Cond.code ({ cls := "StairGangModel", name := "judged", desc := "(I)I" } : Jvm.MethodName) prog_13_method_91_code (6 : Nat) (Option.some Jvm.ClassFile.FieldType.int)) ∈ gw := lw_m8 90 rfl
set_option maxRecDepth 100000 in
theorem tb1771 : (Jvm.Cond.methodLink "StairGangModel" (508 : Nat) ({ cls := "StairGangModel", name := "goes", desc := "(I)Z" } : Jvm.MethodName)) ∈ gw := lw_m8 91 rfl
set_option maxRecDepth 100000 in
theorem tb1773 : (Jvm.Cond.instanceMethod ({ cls := "StairGangModel", name := "goes", desc := "(I)Z" } : Jvm.MethodName)) ∈ gw := lw_m8 93 rfl
set_option maxRecDepth 100000 in
theorem tb1774 : (Jvm.Cond.code ({ cls := "StairGangModel", name := "goes", desc := "(I)Z" } : Jvm.MethodName) prog_13_method_90_code (4 : Nat) (Option.some Jvm.ClassFile.FieldType.boolean)) ∈ gw := lw_m8 94 rfl
set_option maxRecDepth 100000 in
theorem tb1776 : (Jvm.Cond.instanceMethod ({ cls := "StairGangModel", name := "alone", desc := "(I)I" } : Jvm.MethodName)) ∈ gw := lw_m8 96 rfl
set_option maxRecDepth 100000 in
theorem tb1777 : (Jvm.Cond.selects "StairGangModel" ({ cls := "StairGangModel", name := "alone", desc := "(I)I" } : Jvm.MethodName) ({ cls := "StairGangModel", name := "alone", desc := "(I)I" } : Jvm.MethodName)) ∈ gw := lw_m8 97 rfl
set_option maxRecDepth 100000 in
theorem tb1778 : (Jvm.Cond.code ({ cls := "StairGangModel", name := "alone", desc := "(I)I" } : Jvm.MethodName) prog_13_method_92_code (4 : Nat) (Option.some Jvm.ClassFile.FieldType.int)) ∈ gw := lw_m8 98 rfl
set_option maxRecDepth 100000 in
theorem tb1780 : (Jvm.Cond.instanceMethod ({ cls := "StairGangModel", name := "plan", desc := "(I)I" } : Jvm.MethodName)) ∈ gw := lw_m8 100 rfl
set_option maxRecDepth 100000 in
theorem tb1781 : (Jvm.Cond.selects "StairGangModel" ({ cls := "StairGangModel", name := "plan", desc := "(I)I" } : Jvm.MethodName) ({ cls := "StairGangModel", name := "plan", desc := "(I)I" } : Jvm.MethodName)) ∈ gw := lw_m8 101 rfl
set_option maxRecDepth 100000 in
theorem tb1782 : (Jvm.Cond.code ({ cls := "StairGangModel", name := "plan", desc := "(I)I" } : Jvm.MethodName) prog_13_method_94_code (5 : Nat) (Option.some Jvm.ClassFile.FieldType.int)) ∈ gw := lw_m8 102 rfl
set_option maxRecDepth 100000 in
theorem tb1783 : (Jvm.Cond.methodLink "StairGangModel" (511 : Nat) ({ cls := "StairGangModel", name := "riseOf", desc := "(I)I" } : Jvm.MethodName)) ∈ gw := lw_m8 103 rfl
set_option maxRecDepth 100000 in
theorem tb1785 : (Jvm.Cond.instanceMethod ({ cls := "StairGangModel", name := "riseOf", desc := "(I)I" } : Jvm.MethodName)) ∈ gw := lw_m8 105 rfl
set_option maxRecDepth 100000 in
theorem tb1786 : (Jvm.Cond.code ({ cls := "StairGangModel", name := "riseOf", desc := "(I)I" } : Jvm.MethodName) prog_13_method_93_code (4 : Nat) (Option.some Jvm.ClassFile.FieldType.int)) ∈ gw := lw_m8 106 rfl
set_option maxRecDepth 100000 in
theorem tb1788 : (Jvm.Cond.instanceMethod ({ cls := "StairGangModel", name := "thefts", desc := "(III)I" } : Jvm.MethodName)) ∈ gw := lw_m8 108 rfl
set_option maxRecDepth 100000 in
theorem tb1789 : (Jvm.Cond.selects "StairGangModel" ({ cls := "StairGangModel", name := "thefts", desc := "(III)I" } : Jvm.MethodName) ({ cls := "StairGangModel", name := "thefts", desc := "(III)I" } : Jvm.MethodName)) ∈ gw := lw_m8 109 rfl
set_option maxRecDepth 100000 in
theorem tb1790 : (Jvm.Cond.code ({ cls := "StairGangModel", name := "thefts", desc := "(III)I" } : Jvm.MethodName) prog_13_method_96_code (7 : Nat) (Option.some Jvm.ClassFile.FieldType.int)) ∈ gw := lw_m8 110 rfl
set_option maxRecDepth 100000 in
theorem tb1791 : (Jvm.Cond.methodLink "StairGangModel" (514 : Nat) ({ cls := "StairGangModel", name := "isFromTop", desc := "(I)Z" } : Jvm.MethodName)) ∈ gw := lw_m8 111 rfl
set_option maxRecDepth 100000 in
theorem tb1793 : (Jvm.Cond.instanceMethod ({ cls := "StairGangModel", name := "isFromTop", desc := "(I)Z" } : Jvm.MethodName)) ∈ gw := lw_m8 113 rfl
set_option maxRecDepth 100000 in
theorem tb1794 : (Jvm.Cond.code ({ cls := "StairGangModel", name := "isFromTop", desc := "(I)Z" } : Jvm.MethodName) prog_13_method_95_code (3 : Nat) (Option.some Jvm.ClassFile.FieldType.boolean)) ∈ gw := lw_m8 114 rfl
set_option maxRecDepth 100000 in
theorem tb1796 : (Jvm.Cond.instanceMethod ({ cls := "StairGangModel", name := "see", desc := "(IIZ)Z" } : Jvm.MethodName)) ∈ gw := lw_m8 116 rfl
set_option maxRecDepth 100000 in
theorem tb1797 : (Jvm.Cond.selects "StairGangModel" ({ cls := "StairGangModel", name := "see", desc := "(IIZ)Z" } : Jvm.MethodName) ({ cls := "StairGangModel", name := "see", desc := "(IIZ)Z" } : Jvm.MethodName)) ∈ gw := lw_m8 117 rfl
set_option maxRecDepth 100000 in
theorem tb1798 : (Jvm.Cond.code ({ cls := "StairGangModel", name := "see", desc := "(IIZ)Z" } : Jvm.MethodName) prog_13_method_97_code (4 : Nat) (Option.some Jvm.ClassFile.FieldType.boolean)) ∈ gw := lw_m8 118 rfl
set_option maxRecDepth 100000 in
theorem tb1800 : (Jvm.Cond.instanceMethod ({ cls := "StairGangModel", name := "fits", desc := "(I)I" } : Jvm.MethodName)) ∈ gw := lw_m8 120 rfl
set_option maxRecDepth 100000 in
theorem tb1801 : (Jvm.Cond.selects "StairGangModel" ({ cls := "StairGangModel", name := "fits", desc := "(I)I" } : Jvm.MethodName) ({ cls := "StairGangModel", name := "fits", desc := "(I)I" } : Jvm.MethodName)) ∈ gw := lw_m8 121 rfl
set_option maxRecDepth 100000 in
theorem tb1802 : (Jvm.Cond.code ({ cls := "StairGangModel", name := "fits", desc := "(I)I" } : Jvm.MethodName) prog_13_method_99_code (7 : Nat) (Option.some Jvm.ClassFile.FieldType.int)) ∈ gw := lw_m8 122 rfl
set_option maxRecDepth 100000 in
theorem tb1803 : (Jvm.Cond.methodLink "StairGangModel" (517 : Nat) ({ cls := "StairGangModel", name := "isAsSeen", desc := "(I)Z" } : Jvm.MethodName)) ∈ gw := lw_m8 123 rfl
set_option maxRecDepth 100000 in
theorem tb1805 : (Jvm.Cond.instanceMethod ({ cls := "StairGangModel", name := "isAsSeen", desc := "(I)Z" } : Jvm.MethodName)) ∈ gw := lw_m8 125 rfl
set_option maxRecDepth 100000 in
theorem tb1806 : (Jvm.Cond.code ({ cls := "StairGangModel", name := "isAsSeen", desc := "(I)Z" } : Jvm.MethodName) prog_13_method_98_code (4 : Nat) (Option.some Jvm.ClassFile.FieldType.boolean)) ∈ gw := lw_m8 126 rfl
set_option maxRecDepth 100000 in
theorem tb1808 : (Jvm.Cond.instanceMethod ({ cls := "StairGangModel", name := "orders", desc := "(I)I" } : Jvm.MethodName)) ∈ gw := lw_m8 128 rfl
set_option maxRecDepth 100000 in
theorem tb1809 : (Jvm.Cond.selects "StairGangModel" ({ cls := "StairGangModel", name := "orders", desc := "(I)I" } : Jvm.MethodName) ({ cls := "StairGangModel", name := "orders", desc := "(I)I" } : Jvm.MethodName)) ∈ gw := lw_m8 129 rfl
set_option maxRecDepth 100000 in
theorem tb1810 : (Jvm.Cond.code ({ cls := "StairGangModel", name := "orders", desc := "(I)I" } : Jvm.MethodName) prog_13_method_106_code (5 : Nat) (Option.some Jvm.ClassFile.FieldType.int)) ∈ gw := lw_m8 130 rfl
set_option maxRecDepth 100000 in
theorem tb1811 : (Jvm.Cond.methodLink "StairGangModel" (550 : Nat) ({ cls := "StairGangModel", name := "laysServed", desc := "(I)V" } : Jvm.MethodName)) ∈ gw := lw_m8 131 rfl
set_option maxRecDepth 100000 in
theorem tb1813 : (Jvm.Cond.instanceMethod ({ cls := "StairGangModel", name := "laysServed", desc := "(I)V" } : Jvm.MethodName)) ∈ gw := lw_m8 133 rfl
set_option maxRecDepth 100000 in
theorem tb1814 : (Jvm.Cond.code ({ cls := "StairGangModel", name := "laysServed", desc := "(I)V" } : Jvm.MethodName) prog_13_method_100_code (4 : Nat) (Option.none : Option Jvm.ClassFile.FieldType)) ∈ gw := lw_m8 134 rfl
set_option maxRecDepth 100000 in
theorem tb1815 : (Jvm.Cond.methodLink "StairGangModel" (523 : Nat) ({ cls := "StairGangModel", name := "canServe", desc := "(II)Z" } : Jvm.MethodName)) ∈ gw := lw_m8 135 rfl
set_option maxRecDepth 100000 in
theorem tb1817 : (Jvm.Cond.instanceMethod ({ cls := "StairGangModel", name := "canServe", desc := "(II)Z" } : Jvm.MethodName)) ∈ gw := lw_m8 137 rfl
set_option maxRecDepth 100000 in
theorem tb1818 : (Jvm.Cond.code ({ cls := "StairGangModel", name := "canServe", desc := "(II)Z" } : Jvm.MethodName) prog_13_method_101_code (4 : Nat) (Option.some Jvm.ClassFile.FieldType.boolean)) ∈ gw := lw_m8 138 rfl
set_option maxRecDepth 100000 in
theorem tb1819 : (Jvm.Cond.methodLink "StairGangModel" (553 : Nat) ({ cls := "StairGangModel", name := "seeks", desc := "(II)V" } : Jvm.MethodName)) ∈ gw := lw_m8 139 rfl
set_option maxRecDepth 100000 in
theorem tb1821 : (Jvm.Cond.instanceMethod ({ cls := "StairGangModel", name := "seeks", desc := "(II)V" } : Jvm.MethodName)) ∈ gw := lw_m8 141 rfl
set_option maxRecDepth 100000 in
theorem tb1822 : (Jvm.Cond.code ({ cls := "StairGangModel", name := "seeks", desc := "(II)V" } : Jvm.MethodName) prog_13_method_105_code (6 : Nat) (Option.none : Option Jvm.ClassFile.FieldType)) ∈ gw := lw_m8 142 rfl
set_option maxRecDepth 100000 in
theorem tb1823 : (Jvm.Cond.methodLink "StairGangModel" (538 : Nat) ({ cls := "StairGangModel", name := "payOf", desc := "(I)I" } : Jvm.MethodName)) ∈ gw := lw_m8 143 rfl
set_option maxRecDepth 100000 in
theorem tb1825 : (Jvm.Cond.instanceMethod ({ cls := "StairGangModel", name := "payOf", desc := "(I)I" } : Jvm.MethodName)) ∈ gw := lw_m8 145 rfl
set_option maxRecDepth 100000 in
theorem tb1826 : (Jvm.Cond.code ({ cls := "StairGangModel", name := "payOf", desc := "(I)I" } : Jvm.MethodName) prog_13_method_104_code (4 : Nat) (Option.some Jvm.ClassFile.FieldType.int)) ∈ gw := lw_m8 146 rfl
set_option maxRecDepth 100000 in
theorem tb1827 : (Jvm.Cond.methodLink "StairGangModel" (535 : Nat) ({ cls := "StairGangModel", name := "fills", desc := "(III)V" } : Jvm.MethodName)) ∈ gw := lw_m8 147 rfl
set_option maxRecDepth 100000 in
theorem tb1829 : (Jvm.Cond.instanceMethod ({ cls := "StairGangModel", name := "fills", desc := "(III)V" } : Jvm.MethodName)) ∈ gw := lw_m8 149 rfl
set_option maxRecDepth 100000 in
theorem tb1830 : (Jvm.Cond.code ({ cls := "StairGangModel", name := "fills", desc := "(III)V" } : Jvm.MethodName) prog_13_method_102_code (7 : Nat) (Option.none : Option Jvm.ClassFile.FieldType)) ∈ gw := lw_m8 150 rfl
set_option maxRecDepth 100000 in
theorem tb1832 : (Jvm.Cond.methodLink "StairGangModel" (547 : Nat) ({ cls := "StairGangModel", name := "isFirst", desc := "()Z" } : Jvm.MethodName)) ∈ gw := lw_m8 152 rfl
set_option maxRecDepth 100000 in
theorem tb1834 : (Jvm.Cond.instanceMethod ({ cls := "StairGangModel", name := "isFirst", desc := "()Z" } : Jvm.MethodName)) ∈ gw := lw_m8 154 rfl
set_option maxRecDepth 100000 in
theorem tb1835 : (Jvm.Cond.code ({ cls := "StairGangModel", name := "isFirst", desc := "()Z" } : Jvm.MethodName) prog_13_method_103_code (2 : Nat) (Option.some Jvm.ClassFile.FieldType.boolean)) ∈ gw := lw_m8 155 rfl
set_option maxRecDepth 100000 in
theorem tb1837 : (Jvm.Cond.instanceMethod ({ cls := "StairGangModel", name := "post", desc := "(II)I" } : Jvm.MethodName)) ∈ gw := lw_m8 157 rfl
set_option maxRecDepth 100000 in
theorem tb1838 : (Jvm.Cond.selects "StairGangModel" ({ cls := "StairGangModel", name := "post", desc := "(II)I" } : Jvm.MethodName) ({ cls := "StairGangModel", name := "post", desc := "(II)I" } : Jvm.MethodName)) ∈ gw := lw_m8 158 rfl
set_option maxRecDepth 100000 in
theorem tb1839 : (Jvm.Cond.code ({ cls := "StairGangModel", name := "post", desc := "(II)I" } : Jvm.MethodName) prog_13_method_108_code (9 : Nat) (Option.some Jvm.ClassFile.FieldType.int)) ∈ gw := lw_m8 159 rfl
set_option maxRecDepth 100000 in
theorem tb1840 : (Jvm.Cond.methodLink "StairGangModel" (559 : Nat) ({ cls := "StairGangModel", name := "floorsAway", desc := "(II)I" } : Jvm.MethodName)) ∈ gw := lw_m8 160 rfl
set_option maxRecDepth 100000 in
theorem tb1841 : (Jvm.Cond.static ({ cls := "StairGangModel", name := "floorsAway", desc := "(II)I" } : Jvm.MethodName)) ∈ gw := lw_m8 161 rfl
set_option maxRecDepth 100000 in
theorem tb1842 : (Jvm.Cond.code ({ cls := "StairGangModel", name := "floorsAway", desc := "(II)I" } : Jvm.MethodName) prog_13_method_107_code (2 : Nat) (Option.some Jvm.ClassFile.FieldType.int)) ∈ gw := lw_m8 162 rfl
set_option maxRecDepth 100000 in
theorem tb1843 : (Jvm.Cond.methodLink "StairGangModel" (556 : Nat) ({ cls := "StairGangModel", name := "away", desc := "(II)I" } : Jvm.MethodName)) ∈ gw := lw_m8 163 rfl
set_option maxRecDepth 100000 in
theorem tb1844 : (Jvm.Cond.static ({ cls := "StairGangModel", name := "away", desc := "(II)I" } : Jvm.MethodName)) ∈ gw := lw_m8 164 rfl
set_option maxRecDepth 100000 in
theorem tb1845 : (Jvm.Cond.code ({ cls := "StairGangModel", name := "away", desc := "(II)I" } : Jvm.MethodName) prog_13_method_5_code (2 : Nat) (Option.some Jvm.ClassFile.FieldType.int)) ∈ gw := lw_m8 165 rfl
set_option maxRecDepth 100000 in
theorem tb1847 : (Jvm.Cond.instanceMethod ({ cls := "StairGangModel", name := "watch", desc := "()I" } : Jvm.MethodName)) ∈ gw := lw_m8 167 rfl
set_option maxRecDepth 100000 in
theorem tb1848 : (Jvm.Cond.selects "StairGangModel" ({ cls := "StairGangModel", name := "watch", desc := "()I" } : Jvm.MethodName) ({ cls := "StairGangModel", name := "watch", desc := "()I" } : Jvm.MethodName)) ∈ gw := lw_m8 168 rfl
set_option maxRecDepth 100000 in
theorem tb1849 : (Jvm.Cond.code ({ cls := "StairGangModel", name := "watch", desc := "()I" } : Jvm.MethodName) prog_13_method_111_code (3 : Nat) (Option.some Jvm.ClassFile.FieldType.int)) ∈ gw := lw_m8 169 rfl
set_option maxRecDepth 100000 in
theorem tb1850 : (Jvm.Cond.methodLink "StairGangModel" (565 : Nat) ({ cls := "StairGangModel", name := "isWatched", desc := "(I)Z" } : Jvm.MethodName)) ∈ gw := lw_m8 170 rfl
set_option maxRecDepth 100000 in
theorem tb1852 : (Jvm.Cond.instanceMethod ({ cls := "StairGangModel", name := "isWatched", desc := "(I)Z" } : Jvm.MethodName)) ∈ gw := lw_m8 172 rfl
set_option maxRecDepth 100000 in
theorem tb1853 : (Jvm.Cond.code ({ cls := "StairGangModel", name := "isWatched", desc := "(I)Z" } : Jvm.MethodName) prog_13_method_110_code (5 : Nat) (Option.some Jvm.ClassFile.FieldType.boolean)) ∈ gw := lw_m8 173 rfl
set_option maxRecDepth 100000 in
theorem tb1854 : (Jvm.Cond.methodLink "StairGangModel" (562 : Nat) ({ cls := "StairGangModel", name := "watches", desc := "(II)Z" } : Jvm.MethodName)) ∈ gw := lw_m8 174 rfl
set_option maxRecDepth 100000 in
theorem tb1856 : (Jvm.Cond.instanceMethod ({ cls := "StairGangModel", name := "watches", desc := "(II)Z" } : Jvm.MethodName)) ∈ gw := lw_m8 176 rfl
set_option maxRecDepth 100000 in
theorem tb1857 : (Jvm.Cond.code ({ cls := "StairGangModel", name := "watches", desc := "(II)Z" } : Jvm.MethodName) prog_13_method_109_code (4 : Nat) (Option.some Jvm.ClassFile.FieldType.boolean)) ∈ gw := lw_m8 177 rfl
set_option maxRecDepth 100000 in
theorem tb1859 : (Jvm.Cond.instanceMethod ({ cls := "StairGangModel", name := "rests", desc := "(IIII)I" } : Jvm.MethodName)) ∈ gw := lw_m8 179 rfl
set_option maxRecDepth 100000 in
theorem tb1860 : (Jvm.Cond.selects "StairGangModel" ({ cls := "StairGangModel", name := "rests", desc := "(IIII)I" } : Jvm.MethodName) ({ cls := "StairGangModel", name := "rests", desc := "(IIII)I" } : Jvm.MethodName)) ∈ gw := lw_m8 180 rfl
set_option maxRecDepth 100000 in
theorem tb1861 : (Jvm.Cond.code ({ cls := "StairGangModel", name := "rests", desc := "(IIII)I" } : Jvm.MethodName) prog_13_method_114_code (7 : Nat) (Option.some Jvm.ClassFile.FieldType.int)) ∈ gw := lw_m8 181 rfl
set_option maxRecDepth 100000 in
theorem tb1862 : (Jvm.Cond.methodLink "StairGangModel" (568 : Nat) ({ cls := "StairGangModel", name := "isHill", desc := "(I)Z" } : Jvm.MethodName)) ∈ gw := lw_m8 182 rfl
set_option maxRecDepth 100000 in
theorem tb1864 : (Jvm.Cond.instanceMethod ({ cls := "StairGangModel", name := "isHill", desc := "(I)Z" } : Jvm.MethodName)) ∈ gw := lw_m8 184 rfl
set_option maxRecDepth 100000 in
theorem tb1865 : (Jvm.Cond.code ({ cls := "StairGangModel", name := "isHill", desc := "(I)Z" } : Jvm.MethodName) prog_13_method_58_code (2 : Nat) (Option.some Jvm.ClassFile.FieldType.boolean)) ∈ gw := lw_m8 185 rfl
set_option maxRecDepth 100000 in
theorem tb1866 : (Jvm.Cond.methodLink "StairGangModel" (571 : Nat) ({ cls := "StairGangModel", name := "worthTo", desc := "(II)I" } : Jvm.MethodName)) ∈ gw := lw_m8 186 rfl
set_option maxRecDepth 100000 in
theorem tb1868 : (Jvm.Cond.instanceMethod ({ cls := "StairGangModel", name := "worthTo", desc := "(II)I" } : Jvm.MethodName)) ∈ gw := lw_m8 188 rfl
set_option maxRecDepth 100000 in
theorem tb1869 : (Jvm.Cond.code ({ cls := "StairGangModel", name := "worthTo", desc := "(II)I" } : Jvm.MethodName) prog_13_method_112_code (3 : Nat) (Option.some Jvm.ClassFile.FieldType.int)) ∈ gw := lw_m8 189 rfl
set_option maxRecDepth 100000 in
theorem tb1870 : (Jvm.Cond.methodLink "StairGangModel" (574 : Nat) ({ cls := "StairGangModel", name := "isRest", desc := "(IIII)Z" } : Jvm.MethodName)) ∈ gw := lw_m8 190 rfl
set_option maxRecDepth 100000 in
theorem tb1871 : (Jvm.Cond.static ({ cls := "StairGangModel", name := "isRest", desc := "(IIII)Z" } : Jvm.MethodName)) ∈ gw := lw_m8 191 rfl
set_option maxRecDepth 100000 in
theorem tb1872 : (Jvm.Cond.code ({ cls := "StairGangModel", name := "isRest", desc := "(IIII)Z" } : Jvm.MethodName) prog_13_method_113_code (7 : Nat) (Option.some Jvm.ClassFile.FieldType.boolean)) ∈ gw := lw_m8 192 rfl
set_option maxRecDepth 100000 in
theorem tb1874 : (Jvm.Cond.instanceMethod ({ cls := "StairGangModel", name := "live", desc := "(III)I" } : Jvm.MethodName)) ∈ gw := lw_m8 194 rfl
set_option maxRecDepth 100000 in
theorem tb1875 : (Jvm.Cond.selects "StairGangModel" ({ cls := "StairGangModel", name := "live", desc := "(III)I" } : Jvm.MethodName) ({ cls := "StairGangModel", name := "live", desc := "(III)I" } : Jvm.MethodName)) ∈ gw := lw_m8 195 rfl
set_option maxRecDepth 100000 in
theorem tb1876 : (Jvm.Cond.code ({ cls := "StairGangModel", name := "live", desc := "(III)I" } : Jvm.MethodName) prog_13_method_117_code (4 : Nat) (Option.some Jvm.ClassFile.FieldType.int)) ∈ gw := lw_m8 196 rfl
set_option maxRecDepth 100000 in
theorem tb1877 : (Jvm.Cond.methodLink "StairGangModel" (580 : Nat) ({ cls := "StairGangModel", name := "laysOdds", desc := "(I)V" } : Jvm.MethodName)) ∈ gw := lw_m8 197 rfl
set_option maxRecDepth 100000 in
theorem tb1879 : (Jvm.Cond.instanceMethod ({ cls := "StairGangModel", name := "laysOdds", desc := "(I)V" } : Jvm.MethodName)) ∈ gw := lw_m8 199 rfl
set_option maxRecDepth 100000 in
theorem tb1880 : (Jvm.Cond.code ({ cls := "StairGangModel", name := "laysOdds", desc := "(I)V" } : Jvm.MethodName) prog_13_method_115_code (6 : Nat) (Option.none : Option Jvm.ClassFile.FieldType)) ∈ gw := lw_m8 200 rfl
set_option maxRecDepth 100000 in
theorem tb1881 : (Jvm.Cond.constantLong "StairGangModel" (578 : Nat) (1000000 : Int64)) ∈ gw := lw_m8 201 rfl
set_option maxRecDepth 100000 in
theorem tb1882 : (Jvm.Cond.methodLink "StairGangModel" (583 : Nat) ({ cls := "StairGangModel", name := "liveOf", desc := "(II)I" } : Jvm.MethodName)) ∈ gw := lw_m8 202 rfl
set_option maxRecDepth 100000 in
theorem tb1884 : (Jvm.Cond.instanceMethod ({ cls := "StairGangModel", name := "liveOf", desc := "(II)I" } : Jvm.MethodName)) ∈ gw := lw_m8 204 rfl
set_option maxRecDepth 100000 in
theorem tb1885 : (Jvm.Cond.code ({ cls := "StairGangModel", name := "liveOf", desc := "(II)I" } : Jvm.MethodName) prog_13_method_116_code (5 : Nat) (Option.some Jvm.ClassFile.FieldType.int)) ∈ gw := lw_m8 205 rfl
set_option maxRecDepth 100000 in
theorem tb1887 : (Jvm.Cond.instanceMethod ({ cls := "StairGangModel", name := "best", desc := "(II)I" } : Jvm.MethodName)) ∈ gw := lw_m8 207 rfl
set_option maxRecDepth 100000 in
theorem tb1888 : (Jvm.Cond.selects "StairGangModel" ({ cls := "StairGangModel", name := "best", desc := "(II)I" } : Jvm.MethodName) ({ cls := "StairGangModel", name := "best", desc := "(II)I" } : Jvm.MethodName)) ∈ gw := lw_m8 208 rfl
set_option maxRecDepth 100000 in
theorem tb1889 : (Jvm.Cond.code ({ cls := "StairGangModel", name := "best", desc := "(II)I" } : Jvm.MethodName) prog_13_method_118_code (7 : Nat) (Option.some Jvm.ClassFile.FieldType.int)) ∈ gw := lw_m8 209 rfl
set_option maxRecDepth 100000 in
theorem tb1891 : (Jvm.Cond.instanceMethod ({ cls := "StairGangModel", name := "years", desc := "(III)I" } : Jvm.MethodName)) ∈ gw := lw_m8 211 rfl
set_option maxRecDepth 100000 in
theorem tb1892 : (Jvm.Cond.selects "StairGangModel" ({ cls := "StairGangModel", name := "years", desc := "(III)I" } : Jvm.MethodName) ({ cls := "StairGangModel", name := "years", desc := "(III)I" } : Jvm.MethodName)) ∈ gw := lw_m8 212 rfl
set_option maxRecDepth 100000 in
theorem tb1893 : (Jvm.Cond.code ({ cls := "StairGangModel", name := "years", desc := "(III)I" } : Jvm.MethodName) prog_13_method_121_code (6 : Nat) (Option.some Jvm.ClassFile.FieldType.int)) ∈ gw := lw_m8 213 rfl
set_option maxRecDepth 100000 in
theorem tb1894 : (Jvm.Cond.methodLink "StairGangModel" (600 : Nat) ({ cls := "StairGangModel", name := "livesNight", desc := "()V" } : Jvm.MethodName)) ∈ gw := lw_m8 214 rfl
set_option maxRecDepth 100000 in
theorem tb1896 : (Jvm.Cond.instanceMethod ({ cls := "StairGangModel", name := "livesNight", desc := "()V" } : Jvm.MethodName)) ∈ gw := lw_m8 216 rfl
set_option maxRecDepth 100000 in
theorem tb1897 : (Jvm.Cond.code ({ cls := "StairGangModel", name := "livesNight", desc := "()V" } : Jvm.MethodName) prog_13_method_120_code (3 : Nat) (Option.none : Option Jvm.ClassFile.FieldType)) ∈ gw := lw_m8 217 rfl
set_option maxRecDepth 100000 in
theorem tb1898 : (Jvm.Cond.methodLink "StairGangModel" (597 : Nat) ({ cls := "StairGangModel", name := "draws", desc := "(I)I" } : Jvm.MethodName)) ∈ gw := lw_m8 218 rfl
set_option maxRecDepth 100000 in
theorem tb1900 : (Jvm.Cond.instanceMethod ({ cls := "StairGangModel", name := "draws", desc := "(I)I" } : Jvm.MethodName)) ∈ gw := lw_m8 220 rfl
set_option maxRecDepth 100000 in
theorem tb1901 : (Jvm.Cond.code ({ cls := "StairGangModel", name := "draws", desc := "(I)I" } : Jvm.MethodName) prog_13_method_119_code (2 : Nat) (Option.some Jvm.ClassFile.FieldType.int)) ∈ gw := lw_m8 221 rfl
set_option maxRecDepth 100000 in
theorem tb1902 : (Jvm.Cond.constantLong "StairGangModel" (589 : Nat) (1103515245 : Int64)) ∈ gw := lw_m8 222 rfl
set_option maxRecDepth 100000 in
theorem tb1903 : (Jvm.Cond.constantLong "StairGangModel" (591 : Nat) (12345 : Int64)) ∈ gw := lw_m8 223 rfl
set_option maxRecDepth 100000 in
theorem tb1904 : (Jvm.Cond.constantLong "StairGangModel" (593 : Nat) (2147483648 : Int64)) ∈ gw := lw_m8 224 rfl
set_option maxRecDepth 100000 in
theorem tb1905 : (Jvm.Cond.constantLong "StairGangModel" (595 : Nat) (65536 : Int64)) ∈ gw := lw_m8 225 rfl
set_option maxRecDepth 100000 in
theorem tb1907 : (Jvm.Cond.instanceMethod ({ cls := "StairGangModel", name := "mark", desc := "(IZ)Z" } : Jvm.MethodName)) ∈ gw := lw_m8 227 rfl
set_option maxRecDepth 100000 in
theorem tb1908 : (Jvm.Cond.selects "StairGangModel" ({ cls := "StairGangModel", name := "mark", desc := "(IZ)Z" } : Jvm.MethodName) ({ cls := "StairGangModel", name := "mark", desc := "(IZ)Z" } : Jvm.MethodName)) ∈ gw := lw_m8 228 rfl
set_option maxRecDepth 100000 in
theorem tb1909 : (Jvm.Cond.code ({ cls := "StairGangModel", name := "mark", desc := "(IZ)Z" } : Jvm.MethodName) prog_13_method_122_code (5 : Nat) (Option.some Jvm.ClassFile.FieldType.boolean)) ∈ gw := lw_m8 229 rfl
set_option maxRecDepth 100000 in
theorem tb1910 : (Jvm.Cond.methodLink "StairGangModel" (603 : Nat) ({ cls := "StairGangModel", name := "laysSeen", desc := "(II)V" } : Jvm.MethodName)) ∈ gw := lw_m8 230 rfl
set_option maxRecDepth 100000 in
theorem tb1912 : (Jvm.Cond.instanceMethod ({ cls := "StairGangModel", name := "laysSeen", desc := "(II)V" } : Jvm.MethodName)) ∈ gw := lw_m8 232 rfl
set_option maxRecDepth 100000 in
theorem tb1913 : (Jvm.Cond.code ({ cls := "StairGangModel", name := "laysSeen", desc := "(II)V" } : Jvm.MethodName) prog_13_method_50_code (4 : Nat) (Option.none : Option Jvm.ClassFile.FieldType)) ∈ gw := lw_m8 233 rfl
set_option maxRecDepth 100000 in
theorem tb1915 : (Jvm.Cond.instanceMethod ({ cls := "StairGangModel", name := "count", desc := "(I)I" } : Jvm.MethodName)) ∈ gw := lw_m8 235 rfl
set_option maxRecDepth 100000 in
theorem tb1916 : (Jvm.Cond.selects "StairGangModel" ({ cls := "StairGangModel", name := "count", desc := "(I)I" } : Jvm.MethodName) ({ cls := "StairGangModel", name := "count", desc := "(I)I" } : Jvm.MethodName)) ∈ gw := lw_m8 236 rfl
set_option maxRecDepth 100000 in
theorem tb1917 : (Jvm.Cond.code ({ cls := "StairGangModel", name := "count", desc := "(I)I" } : Jvm.MethodName) prog_13_method_123_code (2 : Nat) (Option.some Jvm.ClassFile.FieldType.int)) ∈ gw := lw_m8 237 rfl
theorem tv0 : Cond.selects "StairGang$Tokens" ⟨"StairGang$Tokens", "learn", "(Ljava/lang/String;I)I"⟩ ⟨"StairGang$Tokens", "learn", "(Ljava/lang/String;I)I"⟩ ∈ gw := lw_v 0 (by decide +kernel)
theorem tv1 : Cond.selects "StairGang$Price" ⟨"StairGang$Price", "add", "(I)V"⟩ ⟨"StairGang$Price", "add", "(I)V"⟩ ∈ gw := lw_v 1 (by decide +kernel)
theorem tv2 : Cond.selects "StairGang$Town" ⟨"StairGang$Town", "findAbove", "(I)I"⟩ ⟨"StairGang$Town", "findAbove", "(I)I"⟩ ∈ gw := lw_v 2 (by decide +kernel)
theorem tv3 : Cond.selects "StairGang$Tokens" ⟨"StairGang$Tokens", "cutWord", "()V"⟩ ⟨"StairGang$Tokens", "cutWord", "()V"⟩ ∈ gw := lw_v 3 (by decide +kernel)
theorem tv4 : Cond.selects "StairGang$Tokens" ⟨"StairGang$Tokens", "cutNumber", "()V"⟩ ⟨"StairGang$Tokens", "cutNumber", "()V"⟩ ∈ gw := lw_v 4 (by decide +kernel)
theorem tv5 : Cond.selects "StairGang$TownReader" ⟨"StairGang$TownReader", "readHouse", "(LStairGang$Town;)V"⟩ ⟨"StairGang$TownReader", "readHouse", "(LStairGang$Town;)V"⟩ ∈ gw := lw_v 5 (by decide +kernel)
theorem tv6 : Cond.selects "StairGang$TownReader" ⟨"StairGang$TownReader", "takeFirst", "(LStairGang$Town;I)V"⟩ ⟨"StairGang$TownReader", "takeFirst", "(LStairGang$Town;I)V"⟩ ∈ gw := lw_v 6 (by decide +kernel)
theorem tv7 : Cond.selects "StairGang$TownReader" ⟨"StairGang$TownReader", "takeNewName", "(LStairGang$Town;)J"⟩ ⟨"StairGang$TownReader", "takeNewName", "(LStairGang$Town;)J"⟩ ∈ gw := lw_v 7 (by decide +kernel)
theorem tv8 : Cond.selects "StairGang$TownReader" ⟨"StairGang$TownReader", "lineEnds", "()Z"⟩ ⟨"StairGang$TownReader", "lineEnds", "()Z"⟩ ∈ gw := lw_v 8 (by decide +kernel)
theorem tv9 : Cond.selects "StairGang$TownReader" ⟨"StairGang$TownReader", "readFlight", "(LStairGang$Town;)V"⟩ ⟨"StairGang$TownReader", "readFlight", "(LStairGang$Town;)V"⟩ ∈ gw := lw_v 9 (by decide +kernel)
theorem tv10 : Cond.selects "StairGang$TownReader" ⟨"StairGang$TownReader", "readThing", "(LStairGang$Town;)V"⟩ ⟨"StairGang$TownReader", "readThing", "(LStairGang$Town;)V"⟩ ∈ gw := lw_v 10 (by decide +kernel)
theorem tv11 : Cond.selects "StairGang$TownReader" ⟨"StairGang$TownReader", "readPerson", "(LStairGang$Town;)V"⟩ ⟨"StairGang$TownReader", "readPerson", "(LStairGang$Town;)V"⟩ ∈ gw := lw_v 11 (by decide +kernel)
theorem tv12 : Cond.selects "StairGang$TownReader" ⟨"StairGang$TownReader", "readHill", "(LStairGang$Town;)V"⟩ ⟨"StairGang$TownReader", "readHill", "(LStairGang$Town;)V"⟩ ∈ gw := lw_v 12 (by decide +kernel)
theorem tv13 : Cond.selects "StairGang$TownReader" ⟨"StairGang$TownReader", "takeOnce", "(Z)V"⟩ ⟨"StairGang$TownReader", "takeOnce", "(Z)V"⟩ ∈ gw := lw_v 13 (by decide +kernel)
theorem tv14 : Cond.selects "StairGang$Price" ⟨"StairGang$Price", "readPart", "(LStairGang$Tokens;I)V"⟩ ⟨"StairGang$Price", "readPart", "(LStairGang$Tokens;I)V"⟩ ∈ gw := lw_v 14 (by decide +kernel)
theorem tv15 : Cond.selects "StairGang$NightsReader" ⟨"StairGang$NightsReader", "readLine", "(LStairGang$Town;)V"⟩ ⟨"StairGang$NightsReader", "readLine", "(LStairGang$Town;)V"⟩ ∈ gw := lw_v 15 (by decide +kernel)
theorem tv16 : Cond.selects "StairGang$NightsReader" ⟨"StairGang$NightsReader", "takeFlight", "(LStairGang$Town;)I"⟩ ⟨"StairGang$NightsReader", "takeFlight", "(LStairGang$Town;)I"⟩ ∈ gw := lw_v 16 (by decide +kernel)
theorem tv17 : Cond.selects "StairGang$State" ⟨"StairGang$State", "liftAt", "(LStairGang$Town;II)I"⟩ ⟨"StairGang$State", "liftAt", "(LStairGang$Town;II)I"⟩ ∈ gw := lw_v 17 (by decide +kernel)
theorem tv18 : Cond.selects "StairGang$Town" ⟨"StairGang$Town", "stairs", "(II)I"⟩ ⟨"StairGang$Town", "stairs", "(II)I"⟩ ∈ gw := lw_v 18 (by decide +kernel)
theorem tv19 : Cond.selects "StairGang" ⟨"StairGang", "fillLacks", "(LStairGang$State;)V"⟩ ⟨"StairGang", "fillLacks", "(LStairGang$State;)V"⟩ ∈ gw := lw_v 19 (by decide +kernel)
theorem tv20 : Cond.selects "StairGang" ⟨"StairGang", "cutBy", "(I)I"⟩ ⟨"StairGang", "cutBy", "(I)I"⟩ ∈ gw := lw_v 20 (by decide +kernel)
theorem tv21 : Cond.selects "StairGang$Orders" ⟨"StairGang$Orders", "fillSums", "(LStairGang$Town;)V"⟩ ⟨"StairGang$Orders", "fillSums", "(LStairGang$Town;)V"⟩ ∈ gw := lw_v 21 (by decide +kernel)
theorem tv22 : Cond.selects "StairGang$Orders" ⟨"StairGang$Orders", "bestWith", "(LStairGang$Town;II)J"⟩ ⟨"StairGang$Orders", "bestWith", "(LStairGang$Town;II)J"⟩ ∈ gw := lw_v 22 (by decide +kernel)
theorem tv23 : Cond.selects "StairGang$Orders" ⟨"StairGang$Orders", "whole", "()J"⟩ ⟨"StairGang$Orders", "whole", "()J"⟩ ∈ gw := lw_v 23 (by decide +kernel)
theorem tv24 : Cond.selects "StairGang" ⟨"StairGang", "afterRound", "(I)I"⟩ ⟨"StairGang", "afterRound", "(I)I"⟩ ∈ gw := lw_v 24 (by decide +kernel)
theorem tv25 : Cond.selects "StairGang" ⟨"StairGang", "allSeenByTwo", "(I)Z"⟩ ⟨"StairGang", "allSeenByTwo", "(I)Z"⟩ ∈ gw := lw_v 25 (by decide +kernel)
theorem tv26 : Cond.selects "StairGang" ⟨"StairGang", "seersOf", "(I)I"⟩ ⟨"StairGang", "seersOf", "(I)I"⟩ ∈ gw := lw_v 26 (by decide +kernel)
theorem tv27 : Cond.selects "StairGang$Chances" ⟨"StairGang$Chances", "split", "(IJ)V"⟩ ⟨"StairGang$Chances", "split", "(IJ)V"⟩ ∈ gw := lw_v 27 (by decide +kernel)
theorem tv28 : Cond.selects "StairGang$Chances" ⟨"StairGang$Chances", "addLarger", "(II)V"⟩ ⟨"StairGang$Chances", "addLarger", "(II)V"⟩ ∈ gw := lw_v 28 (by decide +kernel)
theorem tv29 : Cond.selects "StairGang" ⟨"StairGang", "passDrawnNight", "()V"⟩ ⟨"StairGang", "passDrawnNight", "()V"⟩ ∈ gw := lw_v 29 (by decide +kernel)
theorem tv30 : Cond.selects "StairGang" ⟨"StairGang", "draw", "(I)I"⟩ ⟨"StairGang", "draw", "(I)I"⟩ ∈ gw := lw_v 30 (by decide +kernel)
theorem tv31 : Cond.selects "StairGang" ⟨"StairGang", "firstGone", "(I)I"⟩ ⟨"StairGang", "firstGone", "(I)I"⟩ ∈ gw := lw_v 31 (by decide +kernel)
theorem tv33 : Cond.selects "StairGangModel" ⟨"StairGangModel", "readsAll", "()Z"⟩ ⟨"StairGangModel", "readsAll", "()Z"⟩ ∈ gw := lw_v 33 (by decide +kernel)
theorem tv34 : Cond.selects "StairGangModel" ⟨"StairGangModel", "starts", "()V"⟩ ⟨"StairGangModel", "starts", "()V"⟩ ∈ gw := lw_v 34 (by decide +kernel)
theorem tv35 : Cond.selects "StairGangModel" ⟨"StairGangModel", "nextToken", "()V"⟩ ⟨"StairGangModel", "nextToken", "()V"⟩ ∈ gw := lw_v 35 (by decide +kernel)
theorem tv36 : Cond.selects "StairGangModel" ⟨"StairGangModel", "signAt", "(I)I"⟩ ⟨"StairGangModel", "signAt", "(I)I"⟩ ∈ gw := lw_v 36 (by decide +kernel)
theorem tv37 : Cond.selects "StairGangModel" ⟨"StairGangModel", "isWord", "(J)Z"⟩ ⟨"StairGangModel", "isWord", "(J)Z"⟩ ∈ gw := lw_v 37 (by decide +kernel)
theorem tv38 : Cond.selects "StairGangModel" ⟨"StairGangModel", "readsHouse", "()Z"⟩ ⟨"StairGangModel", "readsHouse", "()Z"⟩ ∈ gw := lw_v 38 (by decide +kernel)
theorem tv39 : Cond.selects "StairGangModel" ⟨"StairGangModel", "fails", "(I)Z"⟩ ⟨"StairGangModel", "fails", "(I)Z"⟩ ∈ gw := lw_v 39 (by decide +kernel)
theorem tv40 : Cond.selects "StairGangModel" ⟨"StairGangModel", "isNew", "()Z"⟩ ⟨"StairGangModel", "isNew", "()Z"⟩ ∈ gw := lw_v 40 (by decide +kernel)
theorem tv41 : Cond.selects "StairGangModel" ⟨"StairGangModel", "isKept", "()Z"⟩ ⟨"StairGangModel", "isKept", "()Z"⟩ ∈ gw := lw_v 41 (by decide +kernel)
theorem tv42 : Cond.selects "StairGangModel" ⟨"StairGangModel", "houseNamed", "(I)I"⟩ ⟨"StairGangModel", "houseNamed", "(I)I"⟩ ∈ gw := lw_v 42 (by decide +kernel)
theorem tv43 : Cond.selects "StairGangModel" ⟨"StairGangModel", "thingNamed", "(I)I"⟩ ⟨"StairGangModel", "thingNamed", "(I)I"⟩ ∈ gw := lw_v 43 (by decide +kernel)
theorem tv44 : Cond.selects "StairGangModel" ⟨"StairGangModel", "personNamed", "(I)I"⟩ ⟨"StairGangModel", "personNamed", "(I)I"⟩ ∈ gw := lw_v 44 (by decide +kernel)
theorem tv45 : Cond.selects "StairGangModel" ⟨"StairGangModel", "needsBoth", "(JII)Z"⟩ ⟨"StairGangModel", "needsBoth", "(JII)Z"⟩ ∈ gw := lw_v 45 (by decide +kernel)
theorem tv46 : Cond.selects "StairGangModel" ⟨"StairGangModel", "needsWord", "(J)Z"⟩ ⟨"StairGangModel", "needsWord", "(J)Z"⟩ ∈ gw := lw_v 46 (by decide +kernel)
theorem tv47 : Cond.selects "StairGangModel" ⟨"StairGangModel", "needsNumber", "(II)Z"⟩ ⟨"StairGangModel", "needsNumber", "(II)Z"⟩ ∈ gw := lw_v 47 (by decide +kernel)
theorem tv48 : Cond.selects "StairGangModel" ⟨"StairGangModel", "closes", "()Z"⟩ ⟨"StairGangModel", "closes", "()Z"⟩ ∈ gw := lw_v 48 (by decide +kernel)
theorem tv49 : Cond.selects "StairGangModel" ⟨"StairGangModel", "isSign", "(I)Z"⟩ ⟨"StairGangModel", "isSign", "(I)Z"⟩ ∈ gw := lw_v 49 (by decide +kernel)
theorem tv50 : Cond.selects "StairGangModel" ⟨"StairGangModel", "readsFlight", "()Z"⟩ ⟨"StairGangModel", "readsFlight", "()Z"⟩ ∈ gw := lw_v 50 (by decide +kernel)
theorem tv51 : Cond.selects "StairGangModel" ⟨"StairGangModel", "needsTold", "(II)Z"⟩ ⟨"StairGangModel", "needsTold", "(II)Z"⟩ ∈ gw := lw_v 51 (by decide +kernel)
theorem tv52 : Cond.selects "StairGangModel" ⟨"StairGangModel", "flightOf", "(III)I"⟩ ⟨"StairGangModel", "flightOf", "(III)I"⟩ ∈ gw := lw_v 52 (by decide +kernel)
theorem tv53 : Cond.selects "StairGangModel" ⟨"StairGangModel", "readsThing", "()Z"⟩ ⟨"StairGangModel", "readsThing", "()Z"⟩ ∈ gw := lw_v 53 (by decide +kernel)
theorem tv54 : Cond.selects "StairGangModel" ⟨"StairGangModel", "needsPlace", "(I)Z"⟩ ⟨"StairGangModel", "needsPlace", "(I)Z"⟩ ∈ gw := lw_v 54 (by decide +kernel)
theorem tv55 : Cond.selects "StairGangModel" ⟨"StairGangModel", "readsPerson", "()Z"⟩ ⟨"StairGangModel", "readsPerson", "()Z"⟩ ∈ gw := lw_v 55 (by decide +kernel)
theorem tv56 : Cond.selects "StairGangModel" ⟨"StairGangModel", "readsHill", "()Z"⟩ ⟨"StairGangModel", "readsHill", "()Z"⟩ ∈ gw := lw_v 56 (by decide +kernel)
theorem tv57 : Cond.selects "StairGangModel" ⟨"StairGangModel", "readsOne", "(II)Z"⟩ ⟨"StairGangModel", "readsOne", "(II)Z"⟩ ∈ gw := lw_v 57 (by decide +kernel)
theorem tv58 : Cond.selects "StairGangModel" ⟨"StairGangModel", "isTwice", "(I)Z"⟩ ⟨"StairGangModel", "isTwice", "(I)Z"⟩ ∈ gw := lw_v 58 (by decide +kernel)
theorem tv59 : Cond.selects "StairGangModel" ⟨"StairGangModel", "readsPrice", "()Z"⟩ ⟨"StairGangModel", "readsPrice", "()Z"⟩ ∈ gw := lw_v 59 (by decide +kernel)
theorem tv60 : Cond.selects "StairGangModel" ⟨"StairGangModel", "reads", "()Z"⟩ ⟨"StairGangModel", "reads", "()Z"⟩ ∈ gw := lw_v 60 (by decide +kernel)
theorem tv61 : Cond.selects "StairGangModel" ⟨"StairGangModel", "fact", "()I"⟩ ⟨"StairGangModel", "fact", "()I"⟩ ∈ gw := lw_v 61 (by decide +kernel)
theorem tv62 : Cond.selects "StairGangModel" ⟨"StairGangModel", "puts", "(I)V"⟩ ⟨"StairGangModel", "puts", "(I)V"⟩ ∈ gw := lw_v 62 (by decide +kernel)
theorem tv63 : Cond.selects "StairGangModel" ⟨"StairGangModel", "lays", "()V"⟩ ⟨"StairGangModel", "lays", "()V"⟩ ∈ gw := lw_v 63 (by decide +kernel)
theorem tv64 : Cond.selects "StairGangModel" ⟨"StairGangModel", "fresh", "()V"⟩ ⟨"StairGangModel", "fresh", "()V"⟩ ∈ gw := lw_v 64 (by decide +kernel)
theorem tv65 : Cond.selects "StairGangModel" ⟨"StairGangModel", "allFlights", "()I"⟩ ⟨"StairGangModel", "allFlights", "()I"⟩ ∈ gw := lw_v 65 (by decide +kernel)
theorem tv66 : Cond.selects "StairGangModel" ⟨"StairGangModel", "readsLine", "()Z"⟩ ⟨"StairGangModel", "readsLine", "()Z"⟩ ∈ gw := lw_v 66 (by decide +kernel)
theorem tv67 : Cond.selects "StairGangModel" ⟨"StairGangModel", "needsFlight", "()Z"⟩ ⟨"StairGangModel", "needsFlight", "()Z"⟩ ∈ gw := lw_v 67 (by decide +kernel)
theorem tv68 : Cond.selects "StairGangModel" ⟨"StairGangModel", "laysLines", "(II)V"⟩ ⟨"StairGangModel", "laysLines", "(II)V"⟩ ∈ gw := lw_v 68 (by decide +kernel)
theorem tv69 : Cond.selects "StairGangModel" ⟨"StairGangModel", "isFlight", "(I)Z"⟩ ⟨"StairGangModel", "isFlight", "(I)Z"⟩ ∈ gw := lw_v 69 (by decide +kernel)
theorem tv70 : Cond.selects "StairGangModel" ⟨"StairGangModel", "isPerson", "(I)Z"⟩ ⟨"StairGangModel", "isPerson", "(I)Z"⟩ ∈ gw := lw_v 70 (by decide +kernel)
theorem tv71 : Cond.selects "StairGangModel" ⟨"StairGangModel", "isThing", "(I)Z"⟩ ⟨"StairGangModel", "isThing", "(I)Z"⟩ ∈ gw := lw_v 71 (by decide +kernel)
theorem tv72 : Cond.selects "StairGangModel" ⟨"StairGangModel", "reachOf", "(I)I"⟩ ⟨"StairGangModel", "reachOf", "(I)I"⟩ ∈ gw := lw_v 72 (by decide +kernel)
theorem tv73 : Cond.selects "StairGangModel" ⟨"StairGangModel", "climbs", "(III)I"⟩ ⟨"StairGangModel", "climbs", "(III)I"⟩ ∈ gw := lw_v 73 (by decide +kernel)
theorem tv74 : Cond.selects "StairGangModel" ⟨"StairGangModel", "lowerOf", "(I)I"⟩ ⟨"StairGangModel", "lowerOf", "(I)I"⟩ ∈ gw := lw_v 74 (by decide +kernel)
theorem tv75 : Cond.selects "StairGangModel" ⟨"StairGangModel", "spreads", "(II)I"⟩ ⟨"StairGangModel", "spreads", "(II)I"⟩ ∈ gw := lw_v 75 (by decide +kernel)
theorem tv76 : Cond.selects "StairGangModel" ⟨"StairGangModel", "streets", "()I"⟩ ⟨"StairGangModel", "streets", "()I"⟩ ∈ gw := lw_v 76 (by decide +kernel)
theorem tv77 : Cond.selects "StairGangModel" ⟨"StairGangModel", "isPlace", "(I)Z"⟩ ⟨"StairGangModel", "isPlace", "(I)Z"⟩ ∈ gw := lw_v 77 (by decide +kernel)
theorem tv78 : Cond.selects "StairGangModel" ⟨"StairGangModel", "lessens", "(II)Z"⟩ ⟨"StairGangModel", "lessens", "(II)Z"⟩ ∈ gw := lw_v 78 (by decide +kernel)
theorem tv79 : Cond.selects "StairGangModel" ⟨"StairGangModel", "cutBy", "(I)I"⟩ ⟨"StairGangModel", "cutBy", "(I)I"⟩ ∈ gw := lw_v 79 (by decide +kernel)
theorem tv80 : Cond.selects "StairGangModel" ⟨"StairGangModel", "isCut", "(III)Z"⟩ ⟨"StairGangModel", "isCut", "(III)Z"⟩ ∈ gw := lw_v 80 (by decide +kernel)
theorem tv81 : Cond.selects "StairGangModel" ⟨"StairGangModel", "canSteal", "(I)Z"⟩ ⟨"StairGangModel", "canSteal", "(I)Z"⟩ ∈ gw := lw_v 81 (by decide +kernel)
theorem tv82 : Cond.selects "StairGangModel" ⟨"StairGangModel", "above", "(I)I"⟩ ⟨"StairGangModel", "above", "(I)I"⟩ ∈ gw := lw_v 82 (by decide +kernel)
theorem tv83 : Cond.selects "StairGangModel" ⟨"StairGangModel", "keeps", "()V"⟩ ⟨"StairGangModel", "keeps", "()V"⟩ ∈ gw := lw_v 83 (by decide +kernel)
theorem tv84 : Cond.selects "StairGangModel" ⟨"StairGangModel", "steals", "(I)I"⟩ ⟨"StairGangModel", "steals", "(I)I"⟩ ∈ gw := lw_v 84 (by decide +kernel)
theorem tv85 : Cond.selects "StairGangModel" ⟨"StairGangModel", "priceOf", "(I)I"⟩ ⟨"StairGangModel", "priceOf", "(I)I"⟩ ∈ gw := lw_v 85 (by decide +kernel)
theorem tv86 : Cond.selects "StairGangModel" ⟨"StairGangModel", "worked", "(I)I"⟩ ⟨"StairGangModel", "worked", "(I)I"⟩ ∈ gw := lw_v 86 (by decide +kernel)
theorem tv87 : Cond.selects "StairGangModel" ⟨"StairGangModel", "opens", "(I)V"⟩ ⟨"StairGangModel", "opens", "(I)V"⟩ ∈ gw := lw_v 87 (by decide +kernel)
theorem tv88 : Cond.selects "StairGangModel" ⟨"StairGangModel", "sums", "(I)V"⟩ ⟨"StairGangModel", "sums", "(I)V"⟩ ∈ gw := lw_v 88 (by decide +kernel)
theorem tv89 : Cond.selects "StairGangModel" ⟨"StairGangModel", "tests", "(I)V"⟩ ⟨"StairGangModel", "tests", "(I)V"⟩ ∈ gw := lw_v 89 (by decide +kernel)
theorem tv90 : Cond.selects "StairGangModel" ⟨"StairGangModel", "canBuild", "(I)Z"⟩ ⟨"StairGangModel", "canBuild", "(I)Z"⟩ ∈ gw := lw_v 90 (by decide +kernel)
theorem tv91 : Cond.selects "StairGangModel" ⟨"StairGangModel", "builds", "(I)V"⟩ ⟨"StairGangModel", "builds", "(I)V"⟩ ∈ gw := lw_v 91 (by decide +kernel)
theorem tv92 : Cond.selects "StairGangModel" ⟨"StairGangModel", "canGo", "(II)Z"⟩ ⟨"StairGangModel", "canGo", "(II)Z"⟩ ∈ gw := lw_v 92 (by decide +kernel)
theorem tv93 : Cond.selects "StairGangModel" ⟨"StairGangModel", "canCarry", "(III)Z"⟩ ⟨"StairGangModel", "canCarry", "(III)Z"⟩ ∈ gw := lw_v 93 (by decide +kernel)
theorem tv94 : Cond.selects "StairGangModel" ⟨"StairGangModel", "carries", "(III)V"⟩ ⟨"StairGangModel", "carries", "(III)V"⟩ ∈ gw := lw_v 94 (by decide +kernel)
theorem tv95 : Cond.selects "StairGangModel" ⟨"StairGangModel", "goes", "(I)Z"⟩ ⟨"StairGangModel", "goes", "(I)Z"⟩ ∈ gw := lw_v 95 (by decide +kernel)
theorem tv96 : Cond.selects "StairGangModel" ⟨"StairGangModel", "riseOf", "(I)I"⟩ ⟨"StairGangModel", "riseOf", "(I)I"⟩ ∈ gw := lw_v 96 (by decide +kernel)
theorem tv97 : Cond.selects "StairGangModel" ⟨"StairGangModel", "isFromTop", "(I)Z"⟩ ⟨"StairGangModel", "isFromTop", "(I)Z"⟩ ∈ gw := lw_v 97 (by decide +kernel)
theorem tv98 : Cond.selects "StairGangModel" ⟨"StairGangModel", "isAsSeen", "(I)Z"⟩ ⟨"StairGangModel", "isAsSeen", "(I)Z"⟩ ∈ gw := lw_v 98 (by decide +kernel)
theorem tv99 : Cond.selects "StairGangModel" ⟨"StairGangModel", "laysServed", "(I)V"⟩ ⟨"StairGangModel", "laysServed", "(I)V"⟩ ∈ gw := lw_v 99 (by decide +kernel)
theorem tv100 : Cond.selects "StairGangModel" ⟨"StairGangModel", "canServe", "(II)Z"⟩ ⟨"StairGangModel", "canServe", "(II)Z"⟩ ∈ gw := lw_v 100 (by decide +kernel)
theorem tv101 : Cond.selects "StairGangModel" ⟨"StairGangModel", "seeks", "(II)V"⟩ ⟨"StairGangModel", "seeks", "(II)V"⟩ ∈ gw := lw_v 101 (by decide +kernel)
theorem tv102 : Cond.selects "StairGangModel" ⟨"StairGangModel", "payOf", "(I)I"⟩ ⟨"StairGangModel", "payOf", "(I)I"⟩ ∈ gw := lw_v 102 (by decide +kernel)
theorem tv103 : Cond.selects "StairGangModel" ⟨"StairGangModel", "fills", "(III)V"⟩ ⟨"StairGangModel", "fills", "(III)V"⟩ ∈ gw := lw_v 103 (by decide +kernel)
theorem tv104 : Cond.selects "StairGangModel" ⟨"StairGangModel", "isFirst", "()Z"⟩ ⟨"StairGangModel", "isFirst", "()Z"⟩ ∈ gw := lw_v 104 (by decide +kernel)
theorem tv105 : Cond.selects "StairGangModel" ⟨"StairGangModel", "isWatched", "(I)Z"⟩ ⟨"StairGangModel", "isWatched", "(I)Z"⟩ ∈ gw := lw_v 105 (by decide +kernel)
theorem tv106 : Cond.selects "StairGangModel" ⟨"StairGangModel", "watches", "(II)Z"⟩ ⟨"StairGangModel", "watches", "(II)Z"⟩ ∈ gw := lw_v 106 (by decide +kernel)
theorem tv107 : Cond.selects "StairGangModel" ⟨"StairGangModel", "isHill", "(I)Z"⟩ ⟨"StairGangModel", "isHill", "(I)Z"⟩ ∈ gw := lw_v 107 (by decide +kernel)
theorem tv108 : Cond.selects "StairGangModel" ⟨"StairGangModel", "worthTo", "(II)I"⟩ ⟨"StairGangModel", "worthTo", "(II)I"⟩ ∈ gw := lw_v 108 (by decide +kernel)
theorem tv109 : Cond.selects "StairGangModel" ⟨"StairGangModel", "laysOdds", "(I)V"⟩ ⟨"StairGangModel", "laysOdds", "(I)V"⟩ ∈ gw := lw_v 109 (by decide +kernel)
theorem tv110 : Cond.selects "StairGangModel" ⟨"StairGangModel", "liveOf", "(II)I"⟩ ⟨"StairGangModel", "liveOf", "(II)I"⟩ ∈ gw := lw_v 110 (by decide +kernel)
theorem tv111 : Cond.selects "StairGangModel" ⟨"StairGangModel", "livesNight", "()V"⟩ ⟨"StairGangModel", "livesNight", "()V"⟩ ∈ gw := lw_v 111 (by decide +kernel)
theorem tv112 : Cond.selects "StairGangModel" ⟨"StairGangModel", "draws", "(I)I"⟩ ⟨"StairGangModel", "draws", "(I)I"⟩ ∈ gw := lw_v 112 (by decide +kernel)
theorem tv113 : Cond.selects "StairGangModel" ⟨"StairGangModel", "laysSeen", "(II)V"⟩ ⟨"StairGangModel", "laysSeen", "(II)V"⟩ ∈ gw := lw_v 113 (by decide +kernel)
def lfX0 : List (Nat × Nat × Nat × FieldType × Bool) := [(11, 0, 0, (.array .int), true), (15, 0, 1, .int, false), (20, 8, 0, (.array .int), true), (25, 8, 1, (.array (.array .int)), true)]
theorem lfX0_ok : ∀ e ∈ lfX0, pm_fOK RX0 e := (List.forall_mem_cons.mpr ⟨⟨RX0, TX0, 2, tyX0, rfl, inX0, by decide, tb393, tyX0_ok, nmX0, rfl, rfl⟩, (List.forall_mem_cons.mpr ⟨⟨RX0, TX0, 2, tyX0, rfl, inX0, by decide, tb394, tyX0_ok, nmX0, rfl, rfl⟩, (List.forall_mem_cons.mpr ⟨⟨RX8, TX8, 12, tyX8, rfl, inX8, by decide, tb229, tyX8_ok, nmX8, rfl, rfl⟩, (List.forall_mem_cons.mpr ⟨⟨RX8, TX8, 12, tyX8, rfl, inX8, by decide, tb233, tyX8_ok, nmX8, rfl, rfl⟩, (List.forall_mem_nil _)⟩)⟩)⟩)⟩)
def lcX0 : List (Nat × Value) := [(19, .int (1000000)), (41, .long (1000000))]
theorem lcX0_ok : ∀ e ∈ lcX0, pm_cOK RX0 e := (List.forall_mem_cons.mpr ⟨tb1035, (List.forall_mem_cons.mpr ⟨tb1043, (List.forall_mem_nil _)⟩)⟩)
def lsX0 : List Nat := []
theorem lsX0_ok : ∀ i ∈ lsX0, Cond.fieldLink RX0 i "StairGang" "MOST" "[I" ∈ gw ∨ (RX0, i) ∈ nsF := (List.forall_mem_nil _)
def lmX0 : List (Nat × Nat × Nat) := [(29, 4, 2), (33, 2, 2), (37, 0, 2)]
def lkX0 : Lk := (pm_lk lfX0, pm_lk lcX0, fun i => lsX0.contains i, pm_lk lmX0)
theorem lkX0_ok : pm_ok RX0 lkX0 := pm_okL lfX0_ok lcX0_ok lsX0_ok
def lfX1 : List (Nat × Nat × Nat × FieldType × Bool) := [(11, 1, 2, (.array (.object "StairGang$State")), true), (16, 1, 0, .int, false), (20, 1, 1, .int, false)]
theorem lfX1_ok : ∀ e ∈ lfX1, pm_fOK RX1 e := (List.forall_mem_cons.mpr ⟨⟨RX1, TX1, 3, tyX1, rfl, inX1, by decide, tb354, tyX1_ok, nmX1, rfl, rfl⟩, (List.forall_mem_cons.mpr ⟨⟨RX1, TX1, 3, tyX1, rfl, inX1, by decide, tb351, tyX1_ok, nmX1, rfl, rfl⟩, (List.forall_mem_cons.mpr ⟨⟨RX1, TX1, 3, tyX1, rfl, inX1, by decide, tb353, tyX1_ok, nmX1, rfl, rfl⟩, (List.forall_mem_nil _)⟩)⟩)⟩)
def lcX1 : List (Nat × Value) := []
theorem lcX1_ok : ∀ e ∈ lcX1, pm_cOK RX1 e := (List.forall_mem_nil _)
def lsX1 : List Nat := []
theorem lsX1_ok : ∀ i ∈ lsX1, Cond.fieldLink RX1 i "StairGang" "MOST" "[I" ∈ gw ∨ (RX1, i) ∈ nsF := (List.forall_mem_nil _)
def lmX1 : List (Nat × Nat × Nat) := [(23, 772, 1)]
def lkX1 : Lk := (pm_lk lfX1, pm_lk lcX1, fun i => lsX1.contains i, pm_lk lmX1)
theorem lkX1_ok : pm_ok RX1 lkX1 := pm_okL lfX1_ok lcX1_ok lsX1_ok
def lfX2 : List (Nat × Nat × Nat × FieldType × Bool) := [(11, 2, 0, (.array .int), true), (15, 2, 2, (.object "StairGang$Tokens"), true), (19, 2, 1, .int, false), (36, 7, 1, .int, false)]
theorem lfX2_ok : ∀ e ∈ lfX2, pm_fOK RX2 e := (List.forall_mem_cons.mpr ⟨⟨RX2, TX2, 3, tyX2, rfl, inX2, by decide, tb154, tyX2_ok, nmX2, rfl, rfl⟩, (List.forall_mem_cons.mpr ⟨⟨RX2, TX2, 3, tyX2, rfl, inX2, by decide, tb158, tyX2_ok, nmX2, rfl, rfl⟩, (List.forall_mem_cons.mpr ⟨⟨RX2, TX2, 3, tyX2, rfl, inX2, by decide, tb156, tyX2_ok, nmX2, rfl, rfl⟩, (List.forall_mem_cons.mpr ⟨⟨RX7, TX7, 10, tyX7, rfl, inX7, by decide, tb103, tyX7_ok, nmX7, rfl, rfl⟩, (List.forall_mem_nil _)⟩)⟩)⟩)⟩)
def lcX2 : List (Nat × Value) := []
theorem lcX2_ok : ∀ e ∈ lcX2, pm_cOK RX2 e := (List.forall_mem_nil _)
def lsX2 : List Nat := []
theorem lsX2_ok : ∀ i ∈ lsX2, Cond.fieldLink RX2 i "StairGang" "MOST" "[I" ∈ gw ∨ (RX2, i) ∈ nsF := (List.forall_mem_nil _)
def lmX2 : List (Nat × Nat × Nat) := [(23, 896, 0), (28, 901, 0), (32, 257, 1), (39, 907, 0), (43, 899, 1), (47, 910, 0), (50, 258, 1), (54, 915, 2), (58, 913, 1), (61, 914, 1), (65, 911, 0), (68, 1031, 2)]
def lkX2 : Lk := (pm_lk lfX2, pm_lk lcX2, fun i => lsX2.contains i, pm_lk lmX2)
theorem lkX2_ok : pm_ok RX2 lkX2 := pm_okL lfX2_ok lcX2_ok lsX2_ok
def lfX3 : List (Nat × Nat × Nat × FieldType × Bool) := [(11, 3, 1, (.array .int), true), (15, 3, 2, (.array .int), true), (18, 3, 3, (.array .int), true), (21, 3, 4, (.array .long), true), (25, 3, 0, .int, false), (29, 8, 0, (.array .int), true), (44, 8, 1, (.array (.array .int)), true), (48, 8, 4, (.array (.array .int)), true)]
theorem lfX3_ok : ∀ e ∈ lfX3, pm_fOK RX3 e := (List.forall_mem_cons.mpr ⟨⟨RX3, TX3, 5, tyX3, rfl, inX3, by decide, tb372, tyX3_ok, nmX3, rfl, rfl⟩, (List.forall_mem_cons.mpr ⟨⟨RX3, TX3, 5, tyX3, rfl, inX3, by decide, tb373, tyX3_ok, nmX3, rfl, rfl⟩, (List.forall_mem_cons.mpr ⟨⟨RX3, TX3, 5, tyX3, rfl, inX3, by decide, tb374, tyX3_ok, nmX3, rfl, rfl⟩, (List.forall_mem_cons.mpr ⟨⟨RX3, TX3, 5, tyX3, rfl, inX3, by decide, tb375, tyX3_ok, nmX3, rfl, rfl⟩, (List.forall_mem_cons.mpr ⟨⟨RX3, TX3, 5, tyX3, rfl, inX3, by decide, tb370, tyX3_ok, nmX3, rfl, rfl⟩, (List.forall_mem_cons.mpr ⟨⟨RX8, TX8, 12, tyX8, rfl, inX8, by decide, tb228, tyX8_ok, nmX8, rfl, rfl⟩, (List.forall_mem_cons.mpr ⟨⟨RX8, TX8, 12, tyX8, rfl, inX8, by decide, tb234, tyX8_ok, nmX8, rfl, rfl⟩, (List.forall_mem_cons.mpr ⟨⟨RX8, TX8, 12, tyX8, rfl, inX8, by decide, tb245, tyX8_ok, nmX8, rfl, rfl⟩, (List.forall_mem_nil _)⟩)⟩)⟩)⟩)⟩)⟩)⟩)⟩)
def lcX3 : List (Nat × Value) := [(38, .long (-4)), (51, .long (67108864)), (53, .long (131072)), (69, .long (5))]
theorem lcX3_ok : ∀ e ∈ lcX3, pm_cOK RX3 e := (List.forall_mem_cons.mpr ⟨tb971, (List.forall_mem_cons.mpr ⟨tb976, (List.forall_mem_cons.mpr ⟨tb977, (List.forall_mem_cons.mpr ⟨tb998, (List.forall_mem_nil _)⟩)⟩)⟩)⟩)
def lsX3 : List Nat := []
theorem lsX3_ok : ∀ i ∈ lsX3, Cond.fieldLink RX3 i "StairGang" "MOST" "[I" ∈ gw ∨ (RX3, i) ∈ nsF := (List.forall_mem_nil _)
def lmX3 : List (Nat × Nat × Nat) := [(34, 386, 1), (40, 384, 3), (61, 391, 0), (65, 389, 0)]
def lkX3 : Lk := (pm_lk lfX3, pm_lk lcX3, fun i => lsX3.contains i, pm_lk lmX3)
theorem lkX3_ok : pm_ok RX3 lkX3 := pm_okL lfX3_ok lcX3_ok lsX3_ok
def lfX4 : List (Nat × Nat × Nat × FieldType × Bool) := [(9, 4, 0, (.array .int), true), (15, 4, 2, (.array .int), true), (18, 4, 1, .int, false)]
theorem lfX4_ok : ∀ e ∈ lfX4, pm_fOK RX4 e := (List.forall_mem_cons.mpr ⟨⟨RX4, TX4, 3, tyX4, rfl, inX4, by decide, tb183, tyX4_ok, nmX4, rfl, rfl⟩, (List.forall_mem_cons.mpr ⟨⟨RX4, TX4, 3, tyX4, rfl, inX4, by decide, tb185, tyX4_ok, nmX4, rfl, rfl⟩, (List.forall_mem_cons.mpr ⟨⟨RX4, TX4, 3, tyX4, rfl, inX4, by decide, tb184, tyX4_ok, nmX4, rfl, rfl⟩, (List.forall_mem_nil _)⟩)⟩)⟩)
def lcX4 : List (Nat × Value) := []
theorem lcX4_ok : ∀ e ∈ lcX4, pm_cOK RX4 e := (List.forall_mem_nil _)
def lsX4 : List Nat := []
theorem lsX4_ok : ∀ i ∈ lsX4, Cond.fieldLink RX4 i "StairGang" "MOST" "[I" ∈ gw ∨ (RX4, i) ∈ nsF := (List.forall_mem_nil _)
def lmX4 : List (Nat × Nat × Nat) := [(22, 512, 1), (26, 520, 2), (30, 519, 3), (34, 517, 2), (38, 910, 0), (43, 906, 1), (47, 905, 1), (51, 907, 0), (55, 515, 1), (59, 904, 0), (63, 899, 1), (66, 914, 1), (70, 912, 2), (74, 518, 3)]
def lkX4 : Lk := (pm_lk lfX4, pm_lk lcX4, fun i => lsX4.contains i, pm_lk lmX4)
theorem lkX4_ok : pm_ok RX4 lkX4 := pm_okL lfX4_ok lcX4_ok lsX4_ok
def lfX5 : List (Nat × Nat × Nat × FieldType × Bool) := [(9, 5, 0, (.array .int), true), (15, 5, 3, (.array .int), true), (18, 5, 1, .int, false), (22, 5, 2, .int, false), (25, 5, 4, .int, false)]
theorem lfX5_ok : ∀ e ∈ lfX5, pm_fOK RX5 e := (List.forall_mem_cons.mpr ⟨⟨RX5, TX5, 5, tyX5, rfl, inX5, by decide, tb323, tyX5_ok, nmX5, rfl, rfl⟩, (List.forall_mem_cons.mpr ⟨⟨RX5, TX5, 5, tyX5, rfl, inX5, by decide, tb329, tyX5_ok, nmX5, rfl, rfl⟩, (List.forall_mem_cons.mpr ⟨⟨RX5, TX5, 5, tyX5, rfl, inX5, by decide, tb325, tyX5_ok, nmX5, rfl, rfl⟩, (List.forall_mem_cons.mpr ⟨⟨RX5, TX5, 5, tyX5, rfl, inX5, by decide, tb327, tyX5_ok, nmX5, rfl, rfl⟩, (List.forall_mem_cons.mpr ⟨⟨RX5, TX5, 5, tyX5, rfl, inX5, by decide, tb330, tyX5_ok, nmX5, rfl, rfl⟩, (List.forall_mem_nil _)⟩)⟩)⟩)⟩)⟩)
def lcX5 : List (Nat × Value) := []
theorem lcX5_ok : ∀ e ∈ lcX5, pm_cOK RX5 e := (List.forall_mem_nil _)
def lsX5 : List Nat := []
theorem lsX5_ok : ∀ i ∈ lsX5, Cond.fieldLink RX5 i "StairGang" "MOST" "[I" ∈ gw ∨ (RX5, i) ∈ nsF := (List.forall_mem_nil _)
def lmX5 : List (Nat × Nat × Nat) := [(28, 644, 2)]
def lkX5 : Lk := (pm_lk lfX5, pm_lk lcX5, fun i => lsX5.contains i, pm_lk lmX5)
theorem lkX5_ok : pm_ok RX5 lkX5 := pm_okL lfX5_ok lcX5_ok lsX5_ok
def lfX6 : List (Nat × Nat × Nat × FieldType × Bool) := [(13, 6, 1, (.array .int), true), (18, 6, 2, (.array .int), true), (27, 6, 0, .int, false), (31, 8, 3, (.array (.array .int)), true), (34, 8, 2, (.array (.array .int)), true), (36, 8, 5, .int, false), (39, 6, 3, .int, false), (40, 6, 4, .int, false), (43, 6, 5, .int, false), (56, 8, 0, (.array .int), true), (67, 8, 1, (.array (.array .int)), true), (89, 8, 7, (.object "StairGang$Price"), true)]
theorem lfX6_ok : ∀ e ∈ lfX6, pm_fOK RX6 e := (List.forall_mem_cons.mpr ⟨⟨RX6, TX6, 6, tyX6, rfl, inX6, by decide, tb294, tyX6_ok, nmX6, rfl, rfl⟩, (List.forall_mem_cons.mpr ⟨⟨RX6, TX6, 6, tyX6, rfl, inX6, by decide, tb296, tyX6_ok, nmX6, rfl, rfl⟩, (List.forall_mem_cons.mpr ⟨⟨RX6, TX6, 6, tyX6, rfl, inX6, by decide, tb292, tyX6_ok, nmX6, rfl, rfl⟩, (List.forall_mem_cons.mpr ⟨⟨RX8, TX8, 12, tyX8, rfl, inX8, by decide, tb241, tyX8_ok, nmX8, rfl, rfl⟩, (List.forall_mem_cons.mpr ⟨⟨RX8, TX8, 12, tyX8, rfl, inX8, by decide, tb238, tyX8_ok, nmX8, rfl, rfl⟩, (List.forall_mem_cons.mpr ⟨⟨RX8, TX8, 12, tyX8, rfl, inX8, by decide, tb248, tyX8_ok, nmX8, rfl, rfl⟩, (List.forall_mem_cons.mpr ⟨⟨RX6, TX6, 6, tyX6, rfl, inX6, by decide, tb298, tyX6_ok, nmX6, rfl, rfl⟩, (List.forall_mem_cons.mpr ⟨⟨RX6, TX6, 6, tyX6, rfl, inX6, by decide, tb300, tyX6_ok, nmX6, rfl, rfl⟩, (List.forall_mem_cons.mpr ⟨⟨RX6, TX6, 6, tyX6, rfl, inX6, by decide, tb302, tyX6_ok, nmX6, rfl, rfl⟩, (List.forall_mem_cons.mpr ⟨⟨RX8, TX8, 12, tyX8, rfl, inX8, by decide, tb230, tyX8_ok, nmX8, rfl, rfl⟩, (List.forall_mem_cons.mpr ⟨⟨RX8, TX8, 12, tyX8, rfl, inX8, by decide, tb235, tyX8_ok, nmX8, rfl, rfl⟩, (List.forall_mem_cons.mpr ⟨⟨RX8, TX8, 12, tyX8, rfl, inX8, by decide, tb255, tyX8_ok, nmX8, rfl, rfl⟩, (List.forall_mem_nil _)⟩)⟩)⟩)⟩)⟩)⟩)⟩)⟩)⟩)⟩)⟩)⟩)
def lcX6 : List (Nat × Value) := []
theorem lcX6_ok : ∀ e ∈ lcX6, pm_cOK RX6 e := (List.forall_mem_nil _)
def lsX6 : List Nat := []
theorem lsX6_ok : ∀ i ∈ lsX6, Cond.fieldLink RX6 i "StairGang" "MOST" "[I" ∈ gw ∨ (RX6, i) ∈ nsF := (List.forall_mem_nil _)
def lmX6 : List (Nat × Nat × Nat) := [(21, 1026, 0), (52, 1034, 2), (59, 1038, 1), (63, 777, 3), (70, 771, 3), (73, 1043, 2), (77, 775, 2), (81, 1033, 2), (84, 1536, 1), (93, 521, 3), (107, 778, 3), (112, 779, 2), (116, 769, 2), (119, 774, 3), (123, 770, 4)]
def lkX6 : Lk := (pm_lk lfX6, pm_lk lcX6, fun i => lsX6.contains i, pm_lk lmX6)
theorem lkX6_ok : pm_ok RX6 lkX6 := pm_okL lfX6_ok lcX6_ok lsX6_ok
def lfX7 : List (Nat × Nat × Nat × FieldType × Bool) := [(9, 7, 2, (.array .char), true), (15, 7, 3, (.array .long), true), (49, 7, 0, .int, false), (52, 7, 1, .int, false), (55, 7, 6, .int, false), (61, 7, 4, .int, false), (64, 7, 5, .int, false), (82, 7, 7, .long, false), (86, 7, 8, .int, false), (89, 7, 9, .int, false)]
theorem lfX7_ok : ∀ e ∈ lfX7, pm_fOK RX7 e := (List.forall_mem_cons.mpr ⟨⟨RX7, TX7, 10, tyX7, rfl, inX7, by decide, tb106, tyX7_ok, nmX7, rfl, rfl⟩, (List.forall_mem_cons.mpr ⟨⟨RX7, TX7, 10, tyX7, rfl, inX7, by decide, tb107, tyX7_ok, nmX7, rfl, rfl⟩, (List.forall_mem_cons.mpr ⟨⟨RX7, TX7, 10, tyX7, rfl, inX7, by decide, tb102, tyX7_ok, nmX7, rfl, rfl⟩, (List.forall_mem_cons.mpr ⟨⟨RX7, TX7, 10, tyX7, rfl, inX7, by decide, tb105, tyX7_ok, nmX7, rfl, rfl⟩, (List.forall_mem_cons.mpr ⟨⟨RX7, TX7, 10, tyX7, rfl, inX7, by decide, tb110, tyX7_ok, nmX7, rfl, rfl⟩, (List.forall_mem_cons.mpr ⟨⟨RX7, TX7, 10, tyX7, rfl, inX7, by decide, tb108, tyX7_ok, nmX7, rfl, rfl⟩, (List.forall_mem_cons.mpr ⟨⟨RX7, TX7, 10, tyX7, rfl, inX7, by decide, tb109, tyX7_ok, nmX7, rfl, rfl⟩, (List.forall_mem_cons.mpr ⟨⟨RX7, TX7, 10, tyX7, rfl, inX7, by decide, tb111, tyX7_ok, nmX7, rfl, rfl⟩, (List.forall_mem_cons.mpr ⟨⟨RX7, TX7, 10, tyX7, rfl, inX7, by decide, tb112, tyX7_ok, nmX7, rfl, rfl⟩, (List.forall_mem_cons.mpr ⟨⟨RX7, TX7, 10, tyX7, rfl, inX7, by decide, tb113, tyX7_ok, nmX7, rfl, rfl⟩, (List.forall_mem_nil _)⟩)⟩)⟩)⟩)⟩)⟩)⟩)⟩)⟩)⟩)
def lcX7 : List (Nat × Value) := [(47, .long (255)), (76, .ref 1004)]
theorem lcX7_ok : ∀ e ∈ lcX7, pm_cOK RX7 e := (List.forall_mem_cons.mpr ⟨tb457, (List.forall_mem_cons.mpr ⟨⟨3, by decide, rfl, rfl, rfl⟩, (List.forall_mem_nil _)⟩)⟩)
def lsX7 : List Nat := []
theorem lsX7_ok : ∀ i ∈ lsX7, Cond.fieldLink RX7 i "StairGang" "MOST" "[I" ∈ gw ∨ (RX7, i) ∈ nsF := (List.forall_mem_nil _)
def lmX7 : List (Nat × Nat × Nat) := [(39, 903, 1), (43, 917, 2), (58, 910, 0), (67, 898, 0), (70, 902, 1), (73, 897, 0), (92, 907, 0), (95, 906, 1), (99, 899, 1), (103, 905, 1), (106, 904, 0), (110, 911, 0), (113, 909, 0), (117, 1029, 2), (123, 915, 2), (127, 1032, 1), (130, 912, 2)]
def lkX7 : Lk := (pm_lk lfX7, pm_lk lcX7, fun i => lsX7.contains i, pm_lk lmX7)
theorem lkX7_ok : pm_ok RX7 lkX7 := pm_okL lfX7_ok lcX7_ok lsX7_ok
def lfX8 : List (Nat × Nat × Nat × FieldType × Bool) := [(13, 8, 0, (.array .int), true), (20, 8, 1, (.array (.array .int)), true), (29, 8, 4, (.array (.array .int)), true), (35, 8, 7, (.object "StairGang$Price"), true), (39, 8, 8, (.array .long), true), (43, 8, 9, (.array .int), true), (46, 8, 10, (.array .int), true), (49, 8, 11, (.array .int), true), (67, 8, 5, .int, false), (71, 8, 6, .int, false)]
theorem lfX8_ok : ∀ e ∈ lfX8, pm_fOK RX8 e := (List.forall_mem_cons.mpr ⟨⟨RX8, TX8, 12, tyX8, rfl, inX8, by decide, tb227, tyX8_ok, nmX8, rfl, rfl⟩, (List.forall_mem_cons.mpr ⟨⟨RX8, TX8, 12, tyX8, rfl, inX8, by decide, tb232, tyX8_ok, nmX8, rfl, rfl⟩, (List.forall_mem_cons.mpr ⟨⟨RX8, TX8, 12, tyX8, rfl, inX8, by decide, tb244, tyX8_ok, nmX8, rfl, rfl⟩, (List.forall_mem_cons.mpr ⟨⟨RX8, TX8, 12, tyX8, rfl, inX8, by decide, tb253, tyX8_ok, nmX8, rfl, rfl⟩, (List.forall_mem_cons.mpr ⟨⟨RX8, TX8, 12, tyX8, rfl, inX8, by decide, tb256, tyX8_ok, nmX8, rfl, rfl⟩, (List.forall_mem_cons.mpr ⟨⟨RX8, TX8, 12, tyX8, rfl, inX8, by decide, tb257, tyX8_ok, nmX8, rfl, rfl⟩, (List.forall_mem_cons.mpr ⟨⟨RX8, TX8, 12, tyX8, rfl, inX8, by decide, tb258, tyX8_ok, nmX8, rfl, rfl⟩, (List.forall_mem_cons.mpr ⟨⟨RX8, TX8, 12, tyX8, rfl, inX8, by decide, tb259, tyX8_ok, nmX8, rfl, rfl⟩, (List.forall_mem_cons.mpr ⟨⟨RX8, TX8, 12, tyX8, rfl, inX8, by decide, tb247, tyX8_ok, nmX8, rfl, rfl⟩, (List.forall_mem_cons.mpr ⟨⟨RX8, TX8, 12, tyX8, rfl, inX8, by decide, tb250, tyX8_ok, nmX8, rfl, rfl⟩, (List.forall_mem_nil _)⟩)⟩)⟩)⟩)⟩)⟩)⟩)⟩)⟩)⟩)
def lcX8 : List (Nat × Value) := []
theorem lcX8_ok : ∀ e ∈ lcX8, pm_cOK RX8 e := (List.forall_mem_nil _)
def lsX8 : List Nat := [9]
theorem lsX8_ok : ∀ i ∈ lsX8, Cond.fieldLink RX8 i "StairGang" "MOST" "[I" ∈ gw ∨ (RX8, i) ∈ nsF := (List.forall_mem_cons.mpr ⟨(Or.inr (by decide)), (List.forall_mem_nil _)⟩)
def lmX8 : List (Nat × Nat × Nat) := [(58, 1664, 2), (64, 1665, 2), (74, 514, 0), (75, 516, 0), (79, 513, 0), (82, 1030, 1), (86, 1025, 1), (89, 1034, 2), (93, 1032, 1), (96, 1036, 1), (109, 1042, 2)]
def lkX8 : Lk := (pm_lk lfX8, pm_lk lcX8, fun i => lsX8.contains i, pm_lk lmX8)
theorem lkX8_ok : pm_ok RX8 lkX8 := pm_okL lfX8_ok lcX8_ok lsX8_ok
def lfX9 : List (Nat × Nat × Nat × FieldType × Bool) := [(9, 9, 0, (.object "StairGang$Tokens"), true), (49, 8, 5, .int, false), (65, 8, 6, .int, false), (68, 8, 7, (.object "StairGang$Price"), true), (88, 7, 1, .int, false), (152, 8, 2, (.array (.array .int)), true), (156, 8, 3, (.array (.array .int)), true), (159, 8, 4, (.array (.array .int)), true)]
theorem lfX9_ok : ∀ e ∈ lfX9, pm_fOK RX9 e := (List.forall_mem_cons.mpr ⟨⟨RX9, TX9, 1, tyX9, rfl, inX9, by decide, tb144, tyX9_ok, nmX9, rfl, rfl⟩, (List.forall_mem_cons.mpr ⟨⟨RX8, TX8, 12, tyX8, rfl, inX8, by decide, tb249, tyX8_ok, nmX8, rfl, rfl⟩, (List.forall_mem_cons.mpr ⟨⟨RX8, TX8, 12, tyX8, rfl, inX8, by decide, tb251, tyX8_ok, nmX8, rfl, rfl⟩, (List.forall_mem_cons.mpr ⟨⟨RX8, TX8, 12, tyX8, rfl, inX8, by decide, tb254, tyX8_ok, nmX8, rfl, rfl⟩, (List.forall_mem_cons.mpr ⟨⟨RX7, TX7, 10, tyX7, rfl, inX7, by decide, tb104, tyX7_ok, nmX7, rfl, rfl⟩, (List.forall_mem_cons.mpr ⟨⟨RX8, TX8, 12, tyX8, rfl, inX8, by decide, tb239, tyX8_ok, nmX8, rfl, rfl⟩, (List.forall_mem_cons.mpr ⟨⟨RX8, TX8, 12, tyX8, rfl, inX8, by decide, tb243, tyX8_ok, nmX8, rfl, rfl⟩, (List.forall_mem_cons.mpr ⟨⟨RX8, TX8, 12, tyX8, rfl, inX8, by decide, tb246, tyX8_ok, nmX8, rfl, rfl⟩, (List.forall_mem_nil _)⟩)⟩)⟩)⟩)⟩)⟩)⟩)⟩)
def lcX9 : List (Nat × Value) := []
theorem lcX9_ok : ∀ e ∈ lcX9, pm_cOK RX9 e := (List.forall_mem_nil _)
def lsX9 : List Nat := []
theorem lsX9_ok : ∀ i ∈ lsX9, Cond.fieldLink RX9 i "StairGang" "MOST" "[I" ∈ gw ∨ (RX9, i) ∈ nsF := (List.forall_mem_nil _)
def lmX9 : List (Nat × Nat × Nat) := [(15, 1027, 0), (20, 896, 0), (25, 901, 0), (29, 907, 0), (33, 1156, 1), (37, 1154, 1), (40, 1158, 1), (43, 1157, 1), (46, 1155, 1), (53, 1161, 1), (57, 912, 2), (61, 914, 1), (72, 516, 0), (77, 519, 3), (81, 899, 1), (85, 1028, 0), (91, 1035, 1), (95, 910, 0), (98, 909, 0), (102, 1037, 1), (105, 1159, 2), (109, 1160, 1), (113, 916, 1), (116, 1152, 0), (119, 1024, 2), (123, 1041, 2), (127, 915, 2), (131, 911, 0), (134, 1031, 2), (137, 1032, 1), (141, 1025, 1), (144, 1040, 5), (148, 913, 1)]
def lkX9 : Lk := (pm_lk lfX9, pm_lk lcX9, fun i => lsX9.contains i, pm_lk lmX9)
theorem lkX9_ok : pm_ok RX9 lkX9 := pm_okL lfX9_ok lcX9_ok lsX9_ok
def lfX10 : List (Nat × Nat × Nat × FieldType × Bool) := [(10, 10, 0, (.object "StairGang$Tokens"), true), (21, 10, 1, (.object "StairGang$TownReader"), true), (28, 10, 2, (.object "StairGang$NightsReader"), true), (35, 10, 3, (.object "StairGang$Town"), false), (39, 10, 4, (.object "StairGang$Town"), false), (45, 10, 5, (.object "StairGang$State"), true), (49, 10, 6, (.object "StairGang$State"), true), (55, 10, 7, (.object "StairGang$Said"), true), (62, 10, 8, (.object "StairGang$History"), true), (66, 10, 9, (.array (.object "StairGang$State")), true), (70, 10, 10, (.array (.object "StairGang$Said")), true), (78, 10, 12, (.array .int), true), (84, 10, 13, (.object "StairGang$Orders"), true), (91, 10, 14, (.object "StairGang$Chances"), true), (99, 7, 0, .int, false), (115, 10, 11, .int, false), (119, 2, 0, (.array .int), true), (122, 2, 1, .int, false), (133, 6, 0, .int, false), (136, 8, 1, (.array (.array .int)), true), (140, 6, 1, (.array .int), true), (143, 8, 3, (.array (.array .int)), true), (145, 6, 2, (.array .int), true), (156, 8, 6, .int, false), (191, 6, 4, .int, false), (198, 5, 1, .int, false), (201, 5, 0, (.array .int), true), (206, 6, 5, .int, false), (216, 6, 3, .int, false), (245, 3, 0, .int, false), (261, 8, 0, (.array .int), true), (294, 10, 15, .long, false), (304, 5, 2, .int, false), (307, 1, 0, .int, false)]
theorem lfX10_ok : ∀ e ∈ lfX10, pm_fOK RX10 e := (List.forall_mem_cons.mpr ⟨⟨RX10, TX10, 16, tyX10, rfl, inX10, by decide, tb400, tyX10_ok, nmX10, rfl, rfl⟩, (List.forall_mem_cons.mpr ⟨⟨RX10, TX10, 16, tyX10, rfl, inX10, by decide, tb401, tyX10_ok, nmX10, rfl, rfl⟩, (List.forall_mem_cons.mpr ⟨⟨RX10, TX10, 16, tyX10, rfl, inX10, by decide, tb402, tyX10_ok, nmX10, rfl, rfl⟩, (List.forall_mem_cons.mpr ⟨⟨RX10, TX10, 16, tyX10, rfl, inX10, by decide, tb403, tyX10_ok, nmX10, rfl, rfl⟩, (List.forall_mem_cons.mpr ⟨⟨RX10, TX10, 16, tyX10, rfl, inX10, by decide, tb404, tyX10_ok, nmX10, rfl, rfl⟩, (List.forall_mem_cons.mpr ⟨⟨RX10, TX10, 16, tyX10, rfl, inX10, by decide, tb405, tyX10_ok, nmX10, rfl, rfl⟩, (List.forall_mem_cons.mpr ⟨⟨RX10, TX10, 16, tyX10, rfl, inX10, by decide, tb406, tyX10_ok, nmX10, rfl, rfl⟩, (List.forall_mem_cons.mpr ⟨⟨RX10, TX10, 16, tyX10, rfl, inX10, by decide, tb407, tyX10_ok, nmX10, rfl, rfl⟩, (List.forall_mem_cons.mpr ⟨⟨RX10, TX10, 16, tyX10, rfl, inX10, by decide, tb408, tyX10_ok, nmX10, rfl, rfl⟩, (List.forall_mem_cons.mpr ⟨⟨RX10, TX10, 16, tyX10, rfl, inX10, by decide, tb409, tyX10_ok, nmX10, rfl, rfl⟩, (List.forall_mem_cons.mpr ⟨⟨RX10, TX10, 16, tyX10, rfl, inX10, by decide, tb410, tyX10_ok, nmX10, rfl, rfl⟩, (List.forall_mem_cons.mpr ⟨⟨RX10, TX10, 16, tyX10, rfl, inX10, by decide, tb412, tyX10_ok, nmX10, rfl, rfl⟩, (List.forall_mem_cons.mpr ⟨⟨RX10, TX10, 16, tyX10, rfl, inX10, by decide, tb413, tyX10_ok, nmX10, rfl, rfl⟩, (List.forall_mem_cons.mpr ⟨⟨RX10, TX10, 16, tyX10, rfl, inX10, by decide, tb414, tyX10_ok, nmX10, rfl, rfl⟩, (List.forall_mem_cons.mpr ⟨⟨RX7, TX7, 10, tyX7, rfl, inX7, by decide, tb101, tyX7_ok, nmX7, rfl, rfl⟩, (List.forall_mem_cons.mpr ⟨⟨RX10, TX10, 16, tyX10, rfl, inX10, by decide, tb411, tyX10_ok, nmX10, rfl, rfl⟩, (List.forall_mem_cons.mpr ⟨⟨RX2, TX2, 3, tyX2, rfl, inX2, by decide, tb155, tyX2_ok, nmX2, rfl, rfl⟩, (List.forall_mem_cons.mpr ⟨⟨RX2, TX2, 3, tyX2, rfl, inX2, by decide, tb157, tyX2_ok, nmX2, rfl, rfl⟩, (List.forall_mem_cons.mpr ⟨⟨RX6, TX6, 6, tyX6, rfl, inX6, by decide, tb293, tyX6_ok, nmX6, rfl, rfl⟩, (List.forall_mem_cons.mpr ⟨⟨RX8, TX8, 12, tyX8, rfl, inX8, by decide, tb236, tyX8_ok, nmX8, rfl, rfl⟩, (List.forall_mem_cons.mpr ⟨⟨RX6, TX6, 6, tyX6, rfl, inX6, by decide, tb295, tyX6_ok, nmX6, rfl, rfl⟩, (List.forall_mem_cons.mpr ⟨⟨RX8, TX8, 12, tyX8, rfl, inX8, by decide, tb242, tyX8_ok, nmX8, rfl, rfl⟩, (List.forall_mem_cons.mpr ⟨⟨RX6, TX6, 6, tyX6, rfl, inX6, by decide, tb297, tyX6_ok, nmX6, rfl, rfl⟩, (List.forall_mem_cons.mpr ⟨⟨RX8, TX8, 12, tyX8, rfl, inX8, by decide, tb252, tyX8_ok, nmX8, rfl, rfl⟩, (List.forall_mem_cons.mpr ⟨⟨RX6, TX6, 6, tyX6, rfl, inX6, by decide, tb301, tyX6_ok, nmX6, rfl, rfl⟩, (List.forall_mem_cons.mpr ⟨⟨RX5, TX5, 5, tyX5, rfl, inX5, by decide, tb326, tyX5_ok, nmX5, rfl, rfl⟩, (List.forall_mem_cons.mpr ⟨⟨RX5, TX5, 5, tyX5, rfl, inX5, by decide, tb324, tyX5_ok, nmX5, rfl, rfl⟩, (List.forall_mem_cons.mpr ⟨⟨RX6, TX6, 6, tyX6, rfl, inX6, by decide, tb303, tyX6_ok, nmX6, rfl, rfl⟩, (List.forall_mem_cons.mpr ⟨⟨RX6, TX6, 6, tyX6, rfl, inX6, by decide, tb299, tyX6_ok, nmX6, rfl, rfl⟩, (List.forall_mem_cons.mpr ⟨⟨RX3, TX3, 5, tyX3, rfl, inX3, by decide, tb371, tyX3_ok, nmX3, rfl, rfl⟩, (List.forall_mem_cons.mpr ⟨⟨RX8, TX8, 12, tyX8, rfl, inX8, by decide, tb231, tyX8_ok, nmX8, rfl, rfl⟩, (List.forall_mem_cons.mpr ⟨⟨RX10, TX10, 16, tyX10, rfl, inX10, by decide, tb415, tyX10_ok, nmX10, rfl, rfl⟩, (List.forall_mem_cons.mpr ⟨⟨RX5, TX5, 5, tyX5, rfl, inX5, by decide, tb328, tyX5_ok, nmX5, rfl, rfl⟩, (List.forall_mem_cons.mpr ⟨⟨RX1, TX1, 3, tyX1, rfl, inX1, by decide, tb352, tyX1_ok, nmX1, rfl, rfl⟩, (List.forall_mem_nil _)⟩)⟩)⟩)⟩)⟩)⟩)⟩)⟩)⟩)⟩)⟩)⟩)⟩)⟩)⟩)⟩)⟩)⟩)⟩)⟩)⟩)⟩)⟩)⟩)⟩)⟩)⟩)⟩)⟩)⟩)⟩)⟩)⟩)⟩)
def lcX10 : List (Nat × Value) := [(273, .ref 1005), (285, .ref 1006), (335, .long (1103515245)), (337, .long (12345)), (339, .long (2147483647)), (341, .long (65536))]
theorem lcX10_ok : ∀ e ∈ lcX10, pm_cOK RX10 e := (List.forall_mem_cons.mpr ⟨⟨4, by decide, rfl, rfl, rfl⟩, (List.forall_mem_cons.mpr ⟨⟨5, by decide, rfl, rfl, rfl⟩, (List.forall_mem_cons.mpr ⟨tb1068, (List.forall_mem_cons.mpr ⟨tb1069, (List.forall_mem_cons.mpr ⟨tb1070, (List.forall_mem_cons.mpr ⟨tb1071, (List.forall_mem_nil _)⟩)⟩)⟩)⟩)⟩)⟩)
def lsX10 : List Nat := [74]
theorem lsX10_ok : ∀ i ∈ lsX10, Cond.fieldLink RX10 i "StairGang" "MOST" "[I" ∈ gw ∨ (RX10, i) ∈ nsF := (List.forall_mem_cons.mpr ⟨(Or.inl tb363), (List.forall_mem_nil _)⟩)
def lmX10 : List (Nat × Nat × Nat) := [(95, 900, 1), (103, 1153, 1), (107, 768, 1), (111, 641, 0), (114, 128, 0), (118, 256, 1), (125, 644, 2), (129, 1034, 2), (148, 778, 3), (152, 1043, 2), (159, 1039, 1), (163, 1292, 1), (167, 1289, 1), (170, 772, 1), (173, 779, 2), (177, 129, 1), (180, 769, 2), (183, 774, 3), (187, 770, 4), (194, 130, 1), (202, 773, 3), (209, 776, 3), (212, 1026, 0), (219, 1536, 1), (224, 1033, 2), (227, 1036, 1), (231, 771, 3), (234, 640, 2), (238, 643, 1), (241, 385, 2), (246, 388, 1), (249, 389, 0), (252, 390, 0), (255, 387, 1), (258, 1280, 1), (264, 1281, 1), (267, 775, 2), (278, 1044, 2), (281, 1293, 3), (287, 3, 3), (291, 1, 1), (298, 1306, 0), (301, 642, 1), (308, 1298, 2), (316, 1314, 1), (319, 1038, 1), (322, 1295, 3), (326, 1312, 3), (329, 1290, 1), (332, 1294, 1)]
def lkX10 : Lk := (pm_lk lfX10, pm_lk lcX10, fun i => lsX10.contains i, pm_lk lmX10)
theorem lkX10_ok : pm_ok RX10 lkX10 := pm_okL lfX10_ok lcX10_ok lsX10_ok
def lfX11 : List (Nat × Nat × Nat × FieldType × Bool) := [(7, 11, 2, (.array .int), true), (13, 11, 10, (.array .int), true), (16, 11, 11, (.array .long), true), (20, 11, 12, (.array .long), true), (23, 11, 13, (.array .long), true), (26, 11, 14, (.array .long), true), (29, 11, 15, (.array .int), true), (32, 11, 16, (.array .int), true), (35, 11, 17, (.array .int), true), (38, 11, 18, (.array .int), true), (41, 11, 19, (.array .int), true), (44, 11, 20, (.array .int), true), (47, 11, 21, (.array .int), true), (50, 11, 22, (.array .int), true), (53, 11, 23, (.array .int), true), (56, 11, 24, (.array .int), true), (59, 11, 25, (.array .int), true), (62, 11, 26, (.array .int), true), (65, 11, 27, (.array .int), true), (68, 11, 28, (.array .int), true), (71, 11, 29, (.array .int), true), (74, 11, 30, (.array .int), true), (77, 11, 33, (.array .int), true), (80, 11, 34, (.array .boolean), true), (84, 11, 35, (.array .int), true), (87, 11, 36, (.array .int), true), (90, 11, 37, (.array .int), true), (93, 11, 38, (.array .int), true), (96, 11, 39, (.array .int), true), (99, 11, 40, (.array .int), true), (102, 11, 41, (.array .int), true), (105, 11, 42, (.array .int), true), (108, 11, 43, (.array .int), true), (111, 11, 44, (.array .int), true), (114, 11, 46, (.array .int), true), (117, 11, 47, (.array .int), true), (120, 11, 48, (.array .int), true), (123, 11, 49, (.array .int), true), (126, 11, 50, (.array .int), true), (129, 11, 51, (.array .int), true), (132, 11, 52, (.array .int), true), (135, 11, 53, (.array .int), true), (138, 11, 54, (.array .boolean), true), (141, 11, 55, (.array .int), true), (144, 11, 56, (.array .int), true), (147, 11, 57, (.array .int), true), (150, 11, 58, (.array .int), true), (153, 11, 59, (.array .boolean), true), (156, 11, 61, (.array .int), true), (159, 11, 62, (.array .boolean), true), (162, 11, 63, (.array .int), true), (165, 11, 65, (.array .int), true), (168, 11, 66, (.array .int), true), (171, 11, 67, (.array .int), true), (174, 11, 71, (.array .int), true), (177, 11, 72, (.array .int), true), (180, 11, 0, .int, false), (186, 11, 1, .int, false), (189, 11, 3, .int, false), (192, 11, 4, .int, false), (195, 11, 5, .int, false), (198, 11, 7, .long, false), (202, 11, 8, .int, false), (205, 11, 6, .int, false), (216, 11, 9, .int, false), (219, 11, 31, .int, false), (317, 11, 45, .int, false), (343, 11, 32, .int, false), (416, 11, 60, .int, false), (520, 11, 64, .int, false), (531, 11, 68, .boolean, false), (541, 11, 69, .int, false), (544, 11, 70, .int, false), (586, 11, 73, .long, false)]
theorem lfX11_ok : ∀ e ∈ lfX11, pm_fOK RX11 e := (List.forall_mem_cons.mpr ⟨⟨RX11, TX11, 74, tyX11, rfl, inX11, by decide, tb1184, tyX11_ok, nmX11, rfl, rfl⟩, (List.forall_mem_cons.mpr ⟨⟨RX11, TX11, 74, tyX11, rfl, inX11, by decide, tb1192, tyX11_ok, nmX11, rfl, rfl⟩, (List.forall_mem_cons.mpr ⟨⟨RX11, TX11, 74, tyX11, rfl, inX11, by decide, tb1193, tyX11_ok, nmX11, rfl, rfl⟩, (List.forall_mem_cons.mpr ⟨⟨RX11, TX11, 74, tyX11, rfl, inX11, by decide, tb1194, tyX11_ok, nmX11, rfl, rfl⟩, (List.forall_mem_cons.mpr ⟨⟨RX11, TX11, 74, tyX11, rfl, inX11, by decide, tb1195, tyX11_ok, nmX11, rfl, rfl⟩, (List.forall_mem_cons.mpr ⟨⟨RX11, TX11, 74, tyX11, rfl, inX11, by decide, tb1196, tyX11_ok, nmX11, rfl, rfl⟩, (List.forall_mem_cons.mpr ⟨⟨RX11, TX11, 74, tyX11, rfl, inX11, by decide, tb1197, tyX11_ok, nmX11, rfl, rfl⟩, (List.forall_mem_cons.mpr ⟨⟨RX11, TX11, 74, tyX11, rfl, inX11, by decide, tb1198, tyX11_ok, nmX11, rfl, rfl⟩, (List.forall_mem_cons.mpr ⟨⟨RX11, TX11, 74, tyX11, rfl, inX11, by decide, tb1199, tyX11_ok, nmX11, rfl, rfl⟩, (List.forall_mem_cons.mpr ⟨⟨RX11, TX11, 74, tyX11, rfl, inX11, by decide, tb1200, tyX11_ok, nmX11, rfl, rfl⟩, (List.forall_mem_cons.mpr ⟨⟨RX11, TX11, 74, tyX11, rfl, inX11, by decide, tb1201, tyX11_ok, nmX11, rfl, rfl⟩, (List.forall_mem_cons.mpr ⟨⟨RX11, TX11, 74, tyX11, rfl, inX11, by decide, tb1202, tyX11_ok, nmX11, rfl, rfl⟩, (List.forall_mem_cons.mpr ⟨⟨RX11, TX11, 74, tyX11, rfl, inX11, by decide, tb1203, tyX11_ok, nmX11, rfl, rfl⟩, (List.forall_mem_cons.mpr ⟨⟨RX11, TX11, 74, tyX11, rfl, inX11, by decide, tb1204, tyX11_ok, nmX11, rfl, rfl⟩, (List.forall_mem_cons.mpr ⟨⟨RX11, TX11, 74, tyX11, rfl, inX11, by decide, tb1205, tyX11_ok, nmX11, rfl, rfl⟩, (List.forall_mem_cons.mpr ⟨⟨RX11, TX11, 74, tyX11, rfl, inX11, by decide, tb1206, tyX11_ok, nmX11, rfl, rfl⟩, (List.forall_mem_cons.mpr ⟨⟨RX11, TX11, 74, tyX11, rfl, inX11, by decide, tb1207, tyX11_ok, nmX11, rfl, rfl⟩, (List.forall_mem_cons.mpr ⟨⟨RX11, TX11, 74, tyX11, rfl, inX11, by decide, tb1208, tyX11_ok, nmX11, rfl, rfl⟩, (List.forall_mem_cons.mpr ⟨⟨RX11, TX11, 74, tyX11, rfl, inX11, by decide, tb1209, tyX11_ok, nmX11, rfl, rfl⟩, (List.forall_mem_cons.mpr ⟨⟨RX11, TX11, 74, tyX11, rfl, inX11, by decide, tb1210, tyX11_ok, nmX11, rfl, rfl⟩, (List.forall_mem_cons.mpr ⟨⟨RX11, TX11, 74, tyX11, rfl, inX11, by decide, tb1211, tyX11_ok, nmX11, rfl, rfl⟩, (List.forall_mem_cons.mpr ⟨⟨RX11, TX11, 74, tyX11, rfl, inX11, by decide, tb1212, tyX11_ok, nmX11, rfl, rfl⟩, (List.forall_mem_cons.mpr ⟨⟨RX11, TX11, 74, tyX11, rfl, inX11, by decide, tb1215, tyX11_ok, nmX11, rfl, rfl⟩, (List.forall_mem_cons.mpr ⟨⟨RX11, TX11, 74, tyX11, rfl, inX11, by decide, tb1216, tyX11_ok, nmX11, rfl, rfl⟩, (List.forall_mem_cons.mpr ⟨⟨RX11, TX11, 74, tyX11, rfl, inX11, by decide, tb1217, tyX11_ok, nmX11, rfl, rfl⟩, (List.forall_mem_cons.mpr ⟨⟨RX11, TX11, 74, tyX11, rfl, inX11, by decide, tb1218, tyX11_ok, nmX11, rfl, rfl⟩, (List.forall_mem_cons.mpr ⟨⟨RX11, TX11, 74, tyX11, rfl, inX11, by decide, tb1219, tyX11_ok, nmX11, rfl, rfl⟩, (List.forall_mem_cons.mpr ⟨⟨RX11, TX11, 74, tyX11, rfl, inX11, by decide, tb1220, tyX11_ok, nmX11, rfl, rfl⟩, (List.forall_mem_cons.mpr ⟨⟨RX11, TX11, 74, tyX11, rfl, inX11, by decide, tb1221, tyX11_ok, nmX11, rfl, rfl⟩, (List.forall_mem_cons.mpr ⟨⟨RX11, TX11, 74, tyX11, rfl, inX11, by decide, tb1222, tyX11_ok, nmX11, rfl, rfl⟩, (List.forall_mem_cons.mpr ⟨⟨RX11, TX11, 74, tyX11, rfl, inX11, by decide, tb1223, tyX11_ok, nmX11, rfl, rfl⟩, (List.forall_mem_cons.mpr ⟨⟨RX11, TX11, 74, tyX11, rfl, inX11, by decide, tb1224, tyX11_ok, nmX11, rfl, rfl⟩, (List.forall_mem_cons.mpr ⟨⟨RX11, TX11, 74, tyX11, rfl, inX11, by decide, tb1225, tyX11_ok, nmX11, rfl, rfl⟩, (List.forall_mem_cons.mpr ⟨⟨RX11, TX11, 74, tyX11, rfl, inX11, by decide, tb1226, tyX11_ok, nmX11, rfl, rfl⟩, (List.forall_mem_cons.mpr ⟨⟨RX11, TX11, 74, tyX11, rfl, inX11, by decide, tb1228, tyX11_ok, nmX11, rfl, rfl⟩, (List.forall_mem_cons.mpr ⟨⟨RX11, TX11, 74, tyX11, rfl, inX11, by decide, tb1229, tyX11_ok, nmX11, rfl, rfl⟩, (List.forall_mem_cons.mpr ⟨⟨RX11, TX11, 74, tyX11, rfl, inX11, by decide, tb1230, tyX11_ok, nmX11, rfl, rfl⟩, (List.forall_mem_cons.mpr ⟨⟨RX11, TX11, 74, tyX11, rfl, inX11, by decide, tb1231, tyX11_ok, nmX11, rfl, rfl⟩, (List.forall_mem_cons.mpr ⟨⟨RX11, TX11, 74, tyX11, rfl, inX11, by decide, tb1232, tyX11_ok, nmX11, rfl, rfl⟩, (List.forall_mem_cons.mpr ⟨⟨RX11, TX11, 74, tyX11, rfl, inX11, by decide, tb1233, tyX11_ok, nmX11, rfl, rfl⟩, (List.forall_mem_cons.mpr ⟨⟨RX11, TX11, 74, tyX11, rfl, inX11, by decide, tb1234, tyX11_ok, nmX11, rfl, rfl⟩, (List.forall_mem_cons.mpr ⟨⟨RX11, TX11, 74, tyX11, rfl, inX11, by decide, tb1235, tyX11_ok, nmX11, rfl, rfl⟩, (List.forall_mem_cons.mpr ⟨⟨RX11, TX11, 74, tyX11, rfl, inX11, by decide, tb1236, tyX11_ok, nmX11, rfl, rfl⟩, (List.forall_mem_cons.mpr ⟨⟨RX11, TX11, 74, tyX11, rfl, inX11, by decide, tb1237, tyX11_ok, nmX11, rfl, rfl⟩, (List.forall_mem_cons.mpr ⟨⟨RX11, TX11, 74, tyX11, rfl, inX11, by decide, tb1238, tyX11_ok, nmX11, rfl, rfl⟩, (List.forall_mem_cons.mpr ⟨⟨RX11, TX11, 74, tyX11, rfl, inX11, by decide, tb1239, tyX11_ok, nmX11, rfl, rfl⟩, (List.forall_mem_cons.mpr ⟨⟨RX11, TX11, 74, tyX11, rfl, inX11, by decide, tb1240, tyX11_ok, nmX11, rfl, rfl⟩, (List.forall_mem_cons.mpr ⟨⟨RX11, TX11, 74, tyX11, rfl, inX11, by decide, tb1241, tyX11_ok, nmX11, rfl, rfl⟩, (List.forall_mem_cons.mpr ⟨⟨RX11, TX11, 74, tyX11, rfl, inX11, by decide, tb1243, tyX11_ok, nmX11, rfl, rfl⟩, (List.forall_mem_cons.mpr ⟨⟨RX11, TX11, 74, tyX11, rfl, inX11, by decide, tb1244, tyX11_ok, nmX11, rfl, rfl⟩, (List.forall_mem_cons.mpr ⟨⟨RX11, TX11, 74, tyX11, rfl, inX11, by decide, tb1245, tyX11_ok, nmX11, rfl, rfl⟩, (List.forall_mem_cons.mpr ⟨⟨RX11, TX11, 74, tyX11, rfl, inX11, by decide, tb1247, tyX11_ok, nmX11, rfl, rfl⟩, (List.forall_mem_cons.mpr ⟨⟨RX11, TX11, 74, tyX11, rfl, inX11, by decide, tb1248, tyX11_ok, nmX11, rfl, rfl⟩, (List.forall_mem_cons.mpr ⟨⟨RX11, TX11, 74, tyX11, rfl, inX11, by decide, tb1249, tyX11_ok, nmX11, rfl, rfl⟩, (List.forall_mem_cons.mpr ⟨⟨RX11, TX11, 74, tyX11, rfl, inX11, by decide, tb1253, tyX11_ok, nmX11, rfl, rfl⟩, (List.forall_mem_cons.mpr ⟨⟨RX11, TX11, 74, tyX11, rfl, inX11, by decide, tb1254, tyX11_ok, nmX11, rfl, rfl⟩, (List.forall_mem_cons.mpr ⟨⟨RX11, TX11, 74, tyX11, rfl, inX11, by decide, tb1182, tyX11_ok, nmX11, rfl, rfl⟩, (List.forall_mem_cons.mpr ⟨⟨RX11, TX11, 74, tyX11, rfl, inX11, by decide, tb1183, tyX11_ok, nmX11, rfl, rfl⟩, (List.forall_mem_cons.mpr ⟨⟨RX11, TX11, 74, tyX11, rfl, inX11, by decide, tb1185, tyX11_ok, nmX11, rfl, rfl⟩, (List.forall_mem_cons.mpr ⟨⟨RX11, TX11, 74, tyX11, rfl, inX11, by decide, tb1186, tyX11_ok, nmX11, rfl, rfl⟩, (List.forall_mem_cons.mpr ⟨⟨RX11, TX11, 74, tyX11, rfl, inX11, by decide, tb1187, tyX11_ok, nmX11, rfl, rfl⟩, (List.forall_mem_cons.mpr ⟨⟨RX11, TX11, 74, tyX11, rfl, inX11, by decide, tb1189, tyX11_ok, nmX11, rfl, rfl⟩, (List.forall_mem_cons.mpr ⟨⟨RX11, TX11, 74, tyX11, rfl, inX11, by decide, tb1190, tyX11_ok, nmX11, rfl, rfl⟩, (List.forall_mem_cons.mpr ⟨⟨RX11, TX11, 74, tyX11, rfl, inX11, by decide, tb1188, tyX11_ok, nmX11, rfl, rfl⟩, (List.forall_mem_cons.mpr ⟨⟨RX11, TX11, 74, tyX11, rfl, inX11, by decide, tb1191, tyX11_ok, nmX11, rfl, rfl⟩, (List.forall_mem_cons.mpr ⟨⟨RX11, TX11, 74, tyX11, rfl, inX11, by decide, tb1213, tyX11_ok, nmX11, rfl, rfl⟩, (List.forall_mem_cons.mpr ⟨⟨RX11, TX11, 74, tyX11, rfl, inX11, by decide, tb1227, tyX11_ok, nmX11, rfl, rfl⟩, (List.forall_mem_cons.mpr ⟨⟨RX11, TX11, 74, tyX11, rfl, inX11, by decide, tb1214, tyX11_ok, nmX11, rfl, rfl⟩, (List.forall_mem_cons.mpr ⟨⟨RX11, TX11, 74, tyX11, rfl, inX11, by decide, tb1242, tyX11_ok, nmX11, rfl, rfl⟩, (List.forall_mem_cons.mpr ⟨⟨RX11, TX11, 74, tyX11, rfl, inX11, by decide, tb1246, tyX11_ok, nmX11, rfl, rfl⟩, (List.forall_mem_cons.mpr ⟨⟨RX11, TX11, 74, tyX11, rfl, inX11, by decide, tb1250, tyX11_ok, nmX11, rfl, rfl⟩, (List.forall_mem_cons.mpr ⟨⟨RX11, TX11, 74, tyX11, rfl, inX11, by decide, tb1251, tyX11_ok, nmX11, rfl, rfl⟩, (List.forall_mem_cons.mpr ⟨⟨RX11, TX11, 74, tyX11, rfl, inX11, by decide, tb1252, tyX11_ok, nmX11, rfl, rfl⟩, (List.forall_mem_cons.mpr ⟨⟨RX11, TX11, 74, tyX11, rfl, inX11, by decide, tb1255, tyX11_ok, nmX11, rfl, rfl⟩, (List.forall_mem_nil _)⟩)⟩)⟩)⟩)⟩)⟩)⟩)⟩)⟩)⟩)⟩)⟩)⟩)⟩)⟩)⟩)⟩)⟩)⟩)⟩)⟩)⟩)⟩)⟩)⟩)⟩)⟩)⟩)⟩)⟩)⟩)⟩)⟩)⟩)⟩)⟩)⟩)⟩)⟩)⟩)⟩)⟩)⟩)⟩)⟩)⟩)⟩)⟩)⟩)⟩)⟩)⟩)⟩)⟩)⟩)⟩)⟩)⟩)⟩)⟩)⟩)⟩)⟩)⟩)⟩)⟩)⟩)⟩)⟩)⟩)⟩)⟩)⟩)⟩)
def lcX11 : List (Nat × Value) := [(184, .long (255)), (212, .long (27)), (214, .long (96)), (222, .long (164222)), (224, .long (205811839)), (226, .long (149099)), (232, .long (10631)), (252, .long (1111)), (254, .long (423)), (265, .long (4562600)), (267, .long (92777419)), (269, .long (92653220)), (271, .long (361373)), (273, .long (298288)), (275, .long (10793230)), (277, .long (6559372)), (279, .long (47)), (281, .long (232608281)), (283, .long (9665171)), (285, .long (291595537)), (287, .long (12253591)), (289, .long (164361)), (291, .long (316351)), (293, .long (161152)), (295, .long (453773)), (297, .long (8863997)), (299, .long (10494723)), (301, .long (1483114)), (303, .long (204)), (305, .long (1627639)), (307, .long (7622660)), (457, .int (1000000)), (578, .long (1000000)), (589, .long (1103515245)), (591, .long (12345)), (593, .long (2147483648)), (595, .long (65536))]
theorem lcX11_ok : ∀ e ∈ lcX11, pm_cOK RX11 e := (List.forall_mem_cons.mpr ⟨tb1410, (List.forall_mem_cons.mpr ⟨tb1431, (List.forall_mem_cons.mpr ⟨tb1432, (List.forall_mem_cons.mpr ⟨tb1564, (List.forall_mem_cons.mpr ⟨tb1565, (List.forall_mem_cons.mpr ⟨tb1566, (List.forall_mem_cons.mpr ⟨tb1475, (List.forall_mem_cons.mpr ⟨tb1476, (List.forall_mem_cons.mpr ⟨tb1477, (List.forall_mem_cons.mpr ⟨tb1433, (List.forall_mem_cons.mpr ⟨tb1454, (List.forall_mem_cons.mpr ⟨tb1455, (List.forall_mem_cons.mpr ⟨tb1456, (List.forall_mem_cons.mpr ⟨tb1457, (List.forall_mem_cons.mpr ⟨tb1458, (List.forall_mem_cons.mpr ⟨tb1459, (List.forall_mem_cons.mpr ⟨tb1460, (List.forall_mem_cons.mpr ⟨tb1461, (List.forall_mem_cons.mpr ⟨tb1462, (List.forall_mem_cons.mpr ⟨tb1463, (List.forall_mem_cons.mpr ⟨tb1464, (List.forall_mem_cons.mpr ⟨tb1465, (List.forall_mem_cons.mpr ⟨tb1466, (List.forall_mem_cons.mpr ⟨tb1467, (List.forall_mem_cons.mpr ⟨tb1468, (List.forall_mem_cons.mpr ⟨tb1469, (List.forall_mem_cons.mpr ⟨tb1470, (List.forall_mem_cons.mpr ⟨tb1471, (List.forall_mem_cons.mpr ⟨tb1472, (List.forall_mem_cons.mpr ⟨tb1473, (List.forall_mem_cons.mpr ⟨tb1474, (List.forall_mem_cons.mpr ⟨tb1661, (List.forall_mem_cons.mpr ⟨tb1881, (List.forall_mem_cons.mpr ⟨tb1902, (List.forall_mem_cons.mpr ⟨tb1903, (List.forall_mem_cons.mpr ⟨tb1904, (List.forall_mem_cons.mpr ⟨tb1905, (List.forall_mem_nil _)⟩)⟩)⟩)⟩)⟩)⟩)⟩)⟩)⟩)⟩)⟩)⟩)⟩)⟩)⟩)⟩)⟩)⟩)⟩)⟩)⟩)⟩)⟩)⟩)⟩)⟩)⟩)⟩)⟩)⟩)⟩)⟩)⟩)⟩)⟩)⟩)⟩)
def lsX11 : List Nat := []
theorem lsX11_ok : ∀ i ∈ lsX11, Cond.fieldLink RX11 i "StairGang" "MOST" "[I" ∈ gw ∨ (RX11, i) ∈ nsF := (List.forall_mem_nil _)
def lmX11 : List (Nat × Nat × Nat) := [(208, 1510, 1), (228, 1432, 0), (234, 1459, 1), (238, 1455, 1), (242, 1433, 1), (245, 1493, 1), (249, 1482, 0), (256, 1516, 1), (259, 1485, 1), (262, 1517, 1), (309, 1475, 4), (313, 1525, 3), (320, 1481, 1), (323, 1478, 2), (327, 1450, 0), (331, 1443, 1), (334, 1520, 1), (337, 1489, 1), (340, 1480, 2), (346, 1451, 0), (349, 1476, 3), (353, 1425, 0), (356, 1438, 3), (360, 1479, 1), (363, 1457, 1), (366, 1496, 0), (369, 1512, 0), (372, 1500, 0), (375, 1498, 0), (378, 1505, 0), (381, 1503, 0), (384, 1499, 0), (387, 1502, 2), (390, 1504, 0), (393, 1473, 2), (397, 1474, 2), (401, 1477, 0), (404, 1409, 0), (407, 1497, 0), (410, 1462, 0), (413, 1440, 0), (419, 1501, 0), (422, 1463, 2), (426, 1471, 1), (429, 1515, 0), (432, 1424, 3), (435, 1511, 2), (439, 1445, 3), (442, 1447, 1), (445, 1452, 1), (448, 1456, 1), (451, 1495, 1), (454, 1453, 1), (458, 1467, 2), (461, 1430, 1), (464, 1426, 4), (468, 1408, 1), (471, 1414, 1), (474, 1526, 1), (477, 1413, 3), (480, 1492, 1), (483, 1421, 1), (486, 1461, 0), (489, 1514, 1), (492, 1417, 1), (495, 1416, 1), (498, 1419, 2), (501, 1418, 3), (504, 1422, 3), (508, 1442, 1), (511, 1507, 1), (514, 1448, 1), (517, 1444, 1), (523, 1420, 2), (535, 1435, 3), (538, 1487, 1), (547, 1446, 0), (550, 1466, 1), (553, 1509, 2), (556, 1411, 2), (559, 1439, 2), (562, 1524, 2), (565, 1458, 1), (568, 1449, 1), (571, 1527, 2), (574, 1454, 4), (580, 1464, 1), (583, 1469, 2), (597, 1431, 1), (600, 1470, 0), (603, 1465, 2)]
def lkX11 : Lk := (pm_lk lfX11, pm_lk lcX11, fun i => lsX11.contains i, pm_lk lmX11)
theorem lkX11_ok : pm_ok RX11 lkX11 := pm_okL lfX11_ok lcX11_ok lsX11_ok
def lfJ6 : List (Nat × Nat × Nat × FieldType × Bool) := []
theorem lfJ6_ok : ∀ e ∈ lfJ6, pm_fOK RJ6 e := (List.forall_mem_nil _)
def lcJ6 : List (Nat × Value) := [(265, .int (1431655765)), (266, .int (858993459)), (267, .int (252645135))]
theorem lcJ6_ok : ∀ e ∈ lcJ6, pm_cOK RJ6 e := (List.forall_mem_cons.mpr ⟨tb855, (List.forall_mem_cons.mpr ⟨tb856, (List.forall_mem_cons.mpr ⟨tb857, (List.forall_mem_nil _)⟩)⟩)⟩)
def lsJ6 : List Nat := []
theorem lsJ6_ok : ∀ i ∈ lsJ6, Cond.fieldLink RJ6 i "StairGang" "MOST" "[I" ∈ gw ∨ (RJ6, i) ∈ nsF := (List.forall_mem_nil _)
def lmJ6 : List (Nat × Nat × Nat) := []
def lkJ6 : Lk := (pm_lk lfJ6, pm_lk lcJ6, fun i => lsJ6.contains i, pm_lk lmJ6)
theorem lkJ6_ok : pm_ok RJ6 lkJ6 := pm_okL lfJ6_ok lcJ6_ok lsJ6_ok
def lfJ7 : List (Nat × Nat × Nat × FieldType × Bool) := []
theorem lfJ7_ok : ∀ e ∈ lfJ7, pm_fOK RJ7 e := (List.forall_mem_nil _)
def lcJ7 : List (Nat × Value) := []
theorem lcJ7_ok : ∀ e ∈ lcJ7, pm_cOK RJ7 e := (List.forall_mem_nil _)
def lsJ7 : List Nat := []
theorem lsJ7_ok : ∀ i ∈ lsJ7, Cond.fieldLink RJ7 i "StairGang" "MOST" "[I" ∈ gw ∨ (RJ7, i) ∈ nsF := (List.forall_mem_nil _)
def lmJ7 : List (Nat × Nat × Nat) := []
def lkJ7 : Lk := (pm_lk lfJ7, pm_lk lcJ7, fun i => lsJ7.contains i, pm_lk lmJ7)
theorem lkJ7_ok : pm_ok RJ7 lkJ7 := pm_okL lfJ7_ok lcJ7_ok lsJ7_ok
def mtX0 : List Me := [
  (yX0_addLarger, cX0_addLarger, 4, none, lkX0, false),
  (yX0_ofAll, cX0_ofAll, 2, some .int, lkX0, false),
  (yX0_split, cX0_split, 8, none, lkX0, false),
  (yX0_spread, cX0_spread, 6, none, lkX0, false),
  (yX0_stays, cX0_stays, 4, some .int, lkX0, true)]
def mtX1 : List Me := [
  (yX1_clear, cX1_clear, 1, none, lkX1, false),
  (yX1_keep, cX1_keep, 2, none, lkX1, false),
  (yX1_takeBack, cX1_takeBack, 2, some .boolean, lkX1, false)]
def mtX2 : List Me := [
  (yX2_read, cX2_read, 3, some .int, lkX2, false),
  (yX2_readLine, cX2_readLine, 4, none, lkX2, false),
  (yX2_takeFlight, cX2_takeFlight, 4, some .int, lkX2, false)]
def mtX3 : List Me := [
  (yX3_bestWith, cX3_bestWith, 11, some .long, lkX3, false),
  (yX3_choose, cX3_choose, 4, none, lkX3, false),
  (yX3_fillSums, cX3_fillSums, 7, none, lkX3, false),
  (yX3_hillOf, cX3_hillOf, 5, some .int, lkX3, false),
  (yX3_pack, cX3_pack, 4, none, lkX3, false),
  (yX3_pay, cX3_pay, 1, some .int, lkX3, false),
  (yX3_rise, cX3_rise, 1, some .int, lkX3, false),
  (yX3_whole, cX3_whole, 1, some .long, lkX3, false)]
def mtX4 : List Me := [
  (yX4_add, cX4_add, 2, none, lkX4, false),
  (yX4_beHigh, cX4_beHigh, 1, none, lkX4, false),
  (yX4_clear, cX4_clear, 1, none, lkX4, false),
  (yX4_factOf, cX4_factOf, 1, some .int, lkX4, true),
  (yX4_isTold, cX4_isTold, 1, some .boolean, lkX4, false),
  (yX4_joinHere, cX4_joinHere, 2, some .int, lkX4, true),
  (yX4_joined, cX4_joined, 3, some .int, lkX4, true),
  (yX4_readLevel, cX4_readLevel, 7, none, lkX4, false),
  (yX4_readPart, cX4_readPart, 6, none, lkX4, false),
  (yX4_valueOf, cX4_valueOf, 7, some .int, lkX4, false)]
def mtX5 : List Me := [
  (yX5_addSeen, cX5_addSeen, 3, some .boolean, lkX5, false),
  (yX5_clear, cX5_clear, 1, none, lkX5, false),
  (yX5_copy, cX5_copy, 2, none, lkX5, false),
  (yX5_isSo, cX5_isSo, 5, some .boolean, lkX5, false),
  (yX5_tell, cX5_tell, 3, none, lkX5, false)]
def mtX6 : List Me := [
  (yX6_begin, cX6_begin, 3, none, lkX6, false),
  (yX6_builds, cX6_builds, 3, some .int, lkX6, false),
  (yX6_carries, cX6_carries, 5, some .boolean, lkX6, false),
  (yX6_climbs, cX6_climbs, 7, some .int, lkX6, false),
  (yX6_copy, cX6_copy, 2, none, lkX6, false),
  (yX6_does, cX6_does, 4, some .boolean, lkX6, false),
  (yX6_goes, cX6_goes, 4, some .boolean, lkX6, false),
  (yX6_isThere, cX6_isThere, 3, some .boolean, lkX6, false),
  (yX6_lack, cX6_lack, 4, some .int, lkX6, false),
  (yX6_liftAt, cX6_liftAt, 6, some .int, lkX6, false),
  (yX6_open, cX6_open, 4, some .int, lkX6, false),
  (yX6_steals, cX6_steals, 6, some .int, lkX6, false)]
def mtX7 : List Me := [
  (yX7_begin, cX7_begin, 1, none, lkX7, false),
  (yX7_cutNumber, cX7_cutNumber, 1, none, lkX7, false),
  (yX7_cutWord, cX7_cutWord, 2, none, lkX7, false),
  (yX7_fail, cX7_fail, 2, none, lkX7, false),
  (yX7_feedEight, cX7_feedEight, 6, none, lkX7, false),
  (yX7_hasMore, cX7_hasMore, 1, some .boolean, lkX7, false),
  (yX7_isDigit, cX7_isDigit, 1, some .boolean, lkX7, true),
  (yX7_isLetter, cX7_isLetter, 1, some .boolean, lkX7, true),
  (yX7_isNumber, cX7_isNumber, 1, some .boolean, lkX7, false),
  (yX7_isSign, cX7_isSign, 2, some .boolean, lkX7, false),
  (yX7_isWord, cX7_isWord, 2, some .boolean, lkX7, false),
  (yX7_keyHere, cX7_keyHere, 1, some .int, lkX7, false),
  (yX7_learn, cX7_learn, 6, some .int, lkX7, false),
  (yX7_nameHere, cX7_nameHere, 1, some .long, lkX7, false),
  (yX7_next, cX7_next, 1, none, lkX7, false),
  (yX7_numberHere, cX7_numberHere, 1, some .int, lkX7, false),
  (yX7_takeNumber, cX7_takeNumber, 4, some .int, lkX7, false),
  (yX7_takePlace, cX7_takePlace, 4, some .int, lkX7, false),
  (yX7_takeSign, cX7_takeSign, 2, none, lkX7, false),
  (yX7_takeTold, cX7_takeTold, 4, some .int, lkX7, false),
  (yX7_takeWord, cX7_takeWord, 2, none, lkX7, false),
  (yX7_withLetter, cX7_withLetter, 3, some .long, lkX7, true)]
def mtX8 : List Me := [
  (yX8_addNamed, cX8_addNamed, 5, some .int, lkX8, false),
  (yX8_addOne, cX8_addOne, 3, some .int, lkX8, false),
  (yX8_all, cX8_all, 1, some .int, lkX8, false),
  (yX8_clear, cX8_clear, 1, none, lkX8, false),
  (yX8_close, cX8_close, 2, none, lkX8, false),
  (yX8_find, cX8_find, 5, some .int, lkX8, false),
  (yX8_findAbove, cX8_findAbove, 5, some .int, lkX8, false),
  (yX8_flightFrom, cX8_flightFrom, 4, some .int, lkX8, false),
  (yX8_floorsOf, cX8_floorsOf, 2, some .int, lkX8, false),
  (yX8_fromTop, cX8_fromTop, 4, some .boolean, lkX8, false),
  (yX8_has, cX8_has, 3, some .boolean, lkX8, false),
  (yX8_isFull, cX8_isFull, 2, some .boolean, lkX8, false),
  (yX8_isPlace, cX8_isPlace, 2, some .boolean, lkX8, false),
  (yX8_isTold, cX8_isTold, 4, some .boolean, lkX8, false),
  (yX8_lowerOf, cX8_lowerOf, 2, some .int, lkX8, false),
  (yX8_riseOf, cX8_riseOf, 4, some .int, lkX8, false),
  (yX8_setFlight, cX8_setFlight, 6, none, lkX8, false),
  (yX8_setFloors, cX8_setFloors, 3, none, lkX8, false),
  (yX8_stairs, cX8_stairs, 5, some .int, lkX8, false),
  (yX8_way, cX8_way, 5, some .int, lkX8, false),
  (yX8_worth, cX8_worth, 4, some .int, lkX8, false)]
def mtX9 : List Me := [
  (yX9_lineEnds, cX9_lineEnds, 1, some .boolean, lkX9, false),
  (yX9_read, cX9_read, 3, some .int, lkX9, false),
  (yX9_readFlight, cX9_readFlight, 6, none, lkX9, false),
  (yX9_readHill, cX9_readHill, 7, none, lkX9, false),
  (yX9_readHouse, cX9_readHouse, 5, none, lkX9, false),
  (yX9_readPerson, cX9_readPerson, 9, none, lkX9, false),
  (yX9_readThing, cX9_readThing, 7, none, lkX9, false),
  (yX9_takeFirst, cX9_takeFirst, 3, none, lkX9, false),
  (yX9_takeNewName, cX9_takeNewName, 4, some .long, lkX9, false),
  (yX9_takeOnce, cX9_takeOnce, 2, none, lkX9, false)]
def mtX10 : List Me := [
  (yX10_afterRound, cX10_afterRound, 6, some .int, lkX10, false),
  (yX10_allSeenByTwo, cX10_allSeenByTwo, 3, some .boolean, lkX10, false),
  (yX10_alone, cX10_alone, 3, some .int, lkX10, false),
  (yX10_best, cX10_best, 8, some .int, lkX10, false),
  (yX10_build, cX10_build, 3, some .int, lkX10, false),
  (yX10_carry, cX10_carry, 5, some .boolean, lkX10, false),
  (yX10_cost, cX10_cost, 6, some .int, lkX10, false),
  (yX10_count, cX10_count, 2, some .int, lkX10, false),
  (yX10_cut, cX10_cut, 1, some .int, lkX10, false),
  (yX10_cutBy, cX10_cutBy, 4, some .int, lkX10, false),
  (yX10_draw, cX10_draw, 2, some .int, lkX10, false),
  (yX10_feed, cX10_feed, 7, some .int, lkX10, false),
  (yX10_fillLacks, cX10_fillLacks, 3, none, lkX10, false),
  (yX10_findRest, cX10_findRest, 7, some .int, lkX10, true),
  (yX10_firstGone, cX10_firstGone, 3, some .int, lkX10, false),
  (yX10_firstRests, cX10_firstRests, 5, some .boolean, lkX10, true),
  (yX10_fits, cX10_fits, 7, some .int, lkX10, false),
  (yX10_flight, cX10_flight, 3, some .int, lkX10, false),
  (yX10_floorsBetween, cX10_floorsBetween, 2, some .int, lkX10, true),
  (yX10_go, cX10_go, 4, some .boolean, lkX10, false),
  (yX10_judged, cX10_judged, 5, some .int, lkX10, false),
  (yX10_live, cX10_live, 4, some .int, lkX10, false),
  (yX10_mark, cX10_mark, 3, some .boolean, lkX10, false),
  (yX10_night, cX10_night, 1, some .int, lkX10, false),
  (yX10_nights, cX10_nights, 2, some .int, lkX10, false),
  (yX10_orders, cX10_orders, 3, some .int, lkX10, false),
  (yX10_passDrawnNight, cX10_passDrawnNight, 2, none, lkX10, false),
  (yX10_person, cX10_person, 3, some .int, lkX10, false),
  (yX10_plan, cX10_plan, 6, some .int, lkX10, false),
  (yX10_post, cX10_post, 7, some .int, lkX10, false),
  (yX10_reach, cX10_reach, 5, some .int, lkX10, false),
  (yX10_rests, cX10_rests, 6, some .int, lkX10, false),
  (yX10_secondRests, cX10_secondRests, 5, some .boolean, lkX10, true),
  (yX10_see, cX10_see, 5, some .boolean, lkX10, false),
  (yX10_seersOf, cX10_seersOf, 7, some .int, lkX10, false),
  (yX10_steal, cX10_steal, 3, some .int, lkX10, false),
  (yX10_thefts, cX10_thefts, 9, some .int, lkX10, false),
  (yX10_thing, cX10_thing, 2, some .int, lkX10, false),
  (yX10_town, cX10_town, 3, some .int, lkX10, false),
  (yX10_undo, cX10_undo, 1, some .boolean, lkX10, false),
  (yX10_watch, cX10_watch, 4, some .int, lkX10, false),
  (yX10_years, cX10_years, 6, some .int, lkX10, false)]
def mtX11 : List Me := [
  (yX11_above, cX11_above, 4, some .int, lkX11, false),
  (yX11_allFlights, cX11_allFlights, 1, some .int, lkX11, false),
  (yX11_alone, cX11_alone, 4, some .int, lkX11, false),
  (yX11_away, cX11_away, 2, some .int, lkX11, true),
  (yX11_best, cX11_best, 7, some .int, lkX11, false),
  (yX11_between, cX11_between, 3, some .int, lkX11, true),
  (yX11_bits, cX11_bits, 3, some .int, lkX11, true),
  (yX11_build, cX11_build, 2, some .int, lkX11, false),
  (yX11_builds, cX11_builds, 2, none, lkX11, false),
  (yX11_canBuild, cX11_canBuild, 2, some .boolean, lkX11, false),
  (yX11_canCarry, cX11_canCarry, 4, some .boolean, lkX11, false),
  (yX11_canGo, cX11_canGo, 3, some .boolean, lkX11, false),
  (yX11_canServe, cX11_canServe, 4, some .boolean, lkX11, false),
  (yX11_canSteal, cX11_canSteal, 2, some .boolean, lkX11, false),
  (yX11_carries, cX11_carries, 4, none, lkX11, false),
  (yX11_carry, cX11_carry, 4, some .boolean, lkX11, false),
  (yX11_climbs, cX11_climbs, 8, some .int, lkX11, false),
  (yX11_closes, cX11_closes, 1, some .boolean, lkX11, false),
  (yX11_copies, cX11_copies, 5, none, lkX11, true),
  (yX11_cost, cX11_cost, 8, some .int, lkX11, false),
  (yX11_count, cX11_count, 2, some .int, lkX11, false),
  (yX11_cut, cX11_cut, 1, some .int, lkX11, false),
  (yX11_cutBy, cX11_cutBy, 4, some .int, lkX11, false),
  (yX11_draws, cX11_draws, 2, some .int, lkX11, false),
  (yX11_fact, cX11_fact, 1, some .int, lkX11, false),
  (yX11_fails, cX11_fails, 2, some .boolean, lkX11, false),
  (yX11_feed, cX11_feed, 11, some .int, lkX11, false),
  (yX11_fills, cX11_fills, 7, none, lkX11, false),
  (yX11_fits, cX11_fits, 7, some .int, lkX11, false),
  (yX11_flight, cX11_flight, 3, some .int, lkX11, false),
  (yX11_flightOf, cX11_flightOf, 5, some .int, lkX11, false),
  (yX11_floorsAway, cX11_floorsAway, 2, some .int, lkX11, true),
  (yX11_fresh, cX11_fresh, 2, none, lkX11, false),
  (yX11_go, cX11_go, 3, some .boolean, lkX11, false),
  (yX11_goes, cX11_goes, 4, some .boolean, lkX11, false),
  (yX11_houseNamed, cX11_houseNamed, 2, some .int, lkX11, false),
  (yX11_isAsSeen, cX11_isAsSeen, 4, some .boolean, lkX11, false),
  (yX11_isCut, cX11_isCut, 4, some .boolean, lkX11, false),
  (yX11_isFirst, cX11_isFirst, 2, some .boolean, lkX11, false),
  (yX11_isFlight, cX11_isFlight, 2, some .boolean, lkX11, false),
  (yX11_isFromTop, cX11_isFromTop, 3, some .boolean, lkX11, false),
  (yX11_isHill, cX11_isHill, 2, some .boolean, lkX11, false),
  (yX11_isKept, cX11_isKept, 1, some .boolean, lkX11, false),
  (yX11_isNew, cX11_isNew, 1, some .boolean, lkX11, false),
  (yX11_isPerson, cX11_isPerson, 2, some .boolean, lkX11, false),
  (yX11_isPlace, cX11_isPlace, 2, some .boolean, lkX11, false),
  (yX11_isRest, cX11_isRest, 7, some .boolean, lkX11, true),
  (yX11_isSign, cX11_isSign, 2, some .boolean, lkX11, false),
  (yX11_isThing, cX11_isThing, 2, some .boolean, lkX11, false),
  (yX11_isTwice, cX11_isTwice, 2, some .boolean, lkX11, false),
  (yX11_isWatched, cX11_isWatched, 5, some .boolean, lkX11, false),
  (yX11_isWord, cX11_isWord, 3, some .boolean, lkX11, false),
  (yX11_judged, cX11_judged, 6, some .int, lkX11, false),
  (yX11_keeps, cX11_keeps, 2, none, lkX11, false),
  (yX11_lays, cX11_lays, 1, none, lkX11, false),
  (yX11_laysLines, cX11_laysLines, 4, none, lkX11, false),
  (yX11_laysOdds, cX11_laysOdds, 6, none, lkX11, false),
  (yX11_laysSeen, cX11_laysSeen, 4, none, lkX11, false),
  (yX11_laysServed, cX11_laysServed, 4, none, lkX11, false),
  (yX11_lessens, cX11_lessens, 3, some .boolean, lkX11, false),
  (yX11_live, cX11_live, 4, some .int, lkX11, false),
  (yX11_liveOf, cX11_liveOf, 5, some .int, lkX11, false),
  (yX11_livesNight, cX11_livesNight, 3, none, lkX11, false),
  (yX11_lowerOf, cX11_lowerOf, 2, some .int, lkX11, false),
  (yX11_mark, cX11_mark, 5, some .boolean, lkX11, false),
  (yX11_moves, cX11_moves, 3, none, lkX11, true),
  (yX11_movesNames, cX11_movesNames, 3, none, lkX11, true),
  (yX11_named, cX11_named, 6, some .int, lkX11, true),
  (yX11_needsBoth, cX11_needsBoth, 5, some .boolean, lkX11, false),
  (yX11_needsFlight, cX11_needsFlight, 2, some .boolean, lkX11, false),
  (yX11_needsNumber, cX11_needsNumber, 3, some .boolean, lkX11, false),
  (yX11_needsPlace, cX11_needsPlace, 3, some .boolean, lkX11, false),
  (yX11_needsTold, cX11_needsTold, 3, some .boolean, lkX11, false),
  (yX11_needsWord, cX11_needsWord, 3, some .boolean, lkX11, false),
  (yX11_nextToken, cX11_nextToken, 2, none, lkX11, false),
  (yX11_night, cX11_night, 1, some .int, lkX11, false),
  (yX11_nights, cX11_nights, 1, some .int, lkX11, false),
  (yX11_opens, cX11_opens, 2, none, lkX11, false),
  (yX11_orders, cX11_orders, 5, some .int, lkX11, false),
  (yX11_payOf, cX11_payOf, 4, some .int, lkX11, false),
  (yX11_person, cX11_person, 3, some .int, lkX11, false),
  (yX11_personNamed, cX11_personNamed, 2, some .int, lkX11, false),
  (yX11_plan, cX11_plan, 5, some .int, lkX11, false),
  (yX11_post, cX11_post, 9, some .int, lkX11, false),
  (yX11_priceOf, cX11_priceOf, 3, some .int, lkX11, false),
  (yX11_puts, cX11_puts, 2, none, lkX11, false),
  (yX11_reach, cX11_reach, 2, some .int, lkX11, false),
  (yX11_reachOf, cX11_reachOf, 2, some .int, lkX11, false),
  (yX11_reads, cX11_reads, 6, some .boolean, lkX11, false),
  (yX11_readsAll, cX11_readsAll, 2, some .boolean, lkX11, false),
  (yX11_readsFlight, cX11_readsFlight, 3, some .boolean, lkX11, false),
  (yX11_readsHill, cX11_readsHill, 4, some .boolean, lkX11, false),
  (yX11_readsHouse, cX11_readsHouse, 4, some .boolean, lkX11, false),
  (yX11_readsLine, cX11_readsLine, 3, some .boolean, lkX11, false),
  (yX11_readsOne, cX11_readsOne, 3, some .boolean, lkX11, false),
  (yX11_readsPerson, cX11_readsPerson, 4, some .boolean, lkX11, false),
  (yX11_readsPrice, cX11_readsPrice, 1, some .boolean, lkX11, false),
  (yX11_readsThing, cX11_readsThing, 4, some .boolean, lkX11, false),
  (yX11_rests, cX11_rests, 7, some .int, lkX11, false),
  (yX11_riseOf, cX11_riseOf, 4, some .int, lkX11, false),
  (yX11_see, cX11_see, 4, some .boolean, lkX11, false),
  (yX11_seeks, cX11_seeks, 6, none, lkX11, false),
  (yX11_signAt, cX11_signAt, 2, some .int, lkX11, false),
  (yX11_spreads, cX11_spreads, 8, some .int, lkX11, false),
  (yX11_starts, cX11_starts, 1, none, lkX11, false),
  (yX11_steal, cX11_steal, 2, some .int, lkX11, false),
  (yX11_steals, cX11_steals, 3, some .int, lkX11, false),
  (yX11_streets, cX11_streets, 3, some .int, lkX11, false),
  (yX11_sums, cX11_sums, 2, none, lkX11, false),
  (yX11_tests, cX11_tests, 3, none, lkX11, false),
  (yX11_thefts, cX11_thefts, 7, some .int, lkX11, false),
  (yX11_thing, cX11_thing, 2, some .int, lkX11, false),
  (yX11_thingNamed, cX11_thingNamed, 2, some .int, lkX11, false),
  (yX11_town, cX11_town, 2, some .int, lkX11, false),
  (yX11_undo, cX11_undo, 1, some .boolean, lkX11, false),
  (yX11_watch, cX11_watch, 3, some .int, lkX11, false),
  (yX11_watches, cX11_watches, 4, some .boolean, lkX11, false),
  (yX11_within, cX11_within, 3, some .boolean, lkX11, true),
  (yX11_worked, cX11_worked, 6, some .int, lkX11, false),
  (yX11_worthTo, cX11_worthTo, 3, some .int, lkX11, false),
  (yX11_years, cX11_years, 6, some .int, lkX11, false)]
def mtJ6 : List Me := [
  (yJ6_bitCount_0f7a4, cJ6_bitCount_0f7a4, 1, some .int, lkJ6, true)]
def mtJ7 : List Me := [
  (yJ7_fill_53178, cJ7_fill_53178, 4, none, lkJ7, true),
  (yJ7_fill_d0a16, cJ7_fill_d0a16, 5, none, lkJ7, true)]
def mtA (c : Nat) : List Me := match c with
  | 0 => mtX0
  | 1 => mtX1
  | 2 => mtX2
  | 3 => mtX3
  | 4 => mtX4
  | 5 => mtX5
  | 6 => mtX6
  | 7 => mtX7
  | 8 => mtX8
  | 9 => mtX9
  | 10 => mtX10
  | 11 => mtX11
  | 12 => mtJ6
  | 13 => mtJ7
  | _ => []
def mtb (k : Nat) : Option Me := (mtA (k / 128))[k % 128]?
theorem lmX0_ok : ∀ e ∈ lmX0, pm_lOK mtb RX0 e := (List.forall_mem_cons.mpr ⟨⟨yX0_stays, rfl, tb1036, by decide +kernel⟩, (List.forall_mem_cons.mpr ⟨⟨yX0_split, rfl, tb1039, by decide +kernel⟩, (List.forall_mem_cons.mpr ⟨⟨yX0_addLarger, rfl, tb1044, by decide +kernel⟩, (List.forall_mem_nil _)⟩)⟩)⟩)
theorem lmX1_ok : ∀ e ∈ lmX1, pm_lOK mtb RX1 e := (List.forall_mem_cons.mpr ⟨⟨yX6_copy, rfl, tb871, by decide +kernel⟩, (List.forall_mem_nil _)⟩)
theorem lmX2_ok : ∀ e ∈ lmX2, pm_lOK mtb RX2 e := (List.forall_mem_cons.mpr ⟨⟨yX7_begin, rfl, tb732, by decide +kernel⟩, (List.forall_mem_cons.mpr ⟨⟨yX7_hasMore, rfl, tb733, by decide +kernel⟩, (List.forall_mem_cons.mpr ⟨⟨yX2_readLine, rfl, tb734, by decide +kernel⟩, (List.forall_mem_cons.mpr ⟨⟨yX7_keyHere, rfl, tb738, by decide +kernel⟩, (List.forall_mem_cons.mpr ⟨⟨yX7_fail, rfl, tb739, by decide +kernel⟩, (List.forall_mem_cons.mpr ⟨⟨yX7_next, rfl, tb740, by decide +kernel⟩, (List.forall_mem_cons.mpr ⟨⟨yX2_takeFlight, rfl, tb741, by decide +kernel⟩, (List.forall_mem_cons.mpr ⟨⟨yX7_takeTold, rfl, tb745, by decide +kernel⟩, (List.forall_mem_cons.mpr ⟨⟨yX7_takePlace, rfl, tb748, by decide +kernel⟩, (List.forall_mem_cons.mpr ⟨⟨yX7_takeSign, rfl, tb749, by decide +kernel⟩, (List.forall_mem_cons.mpr ⟨⟨yX7_numberHere, rfl, tb746, by decide +kernel⟩, (List.forall_mem_cons.mpr ⟨⟨yX8_flightFrom, rfl, tb747, by decide +kernel⟩, (List.forall_mem_nil _)⟩)⟩)⟩)⟩)⟩)⟩)⟩)⟩)⟩)⟩)⟩)⟩)
theorem lmX3_ok : ∀ e ∈ lmX3, pm_lOK mtb RX3 e := (List.forall_mem_cons.mpr ⟨⟨yX3_fillSums, rfl, tb967, by decide +kernel⟩, (List.forall_mem_cons.mpr ⟨⟨yX3_bestWith, rfl, tb972, by decide +kernel⟩, (List.forall_mem_cons.mpr ⟨⟨yX3_whole, rfl, tb985, by decide +kernel⟩, (List.forall_mem_cons.mpr ⟨⟨yX3_pay, rfl, tb993, by decide +kernel⟩, (List.forall_mem_nil _)⟩)⟩)⟩)⟩)
theorem lmX4_ok : ∀ e ∈ lmX4, pm_lOK mtb RX4 e := (List.forall_mem_cons.mpr ⟨⟨yX4_add, rfl, tb219, by decide +kernel⟩, (List.forall_mem_cons.mpr ⟨⟨yX4_readPart, rfl, tb688, by decide +kernel⟩, (List.forall_mem_cons.mpr ⟨⟨yX4_readLevel, rfl, tb701, by decide +kernel⟩, (List.forall_mem_cons.mpr ⟨⟨yX4_joinHere, rfl, tb704, by decide +kernel⟩, (List.forall_mem_cons.mpr ⟨⟨yX7_next, rfl, tb700, by decide +kernel⟩, (List.forall_mem_cons.mpr ⟨⟨yX7_isWord, rfl, tb696, by decide +kernel⟩, (List.forall_mem_cons.mpr ⟨⟨yX7_isSign, rfl, tb697, by decide +kernel⟩, (List.forall_mem_cons.mpr ⟨⟨yX7_keyHere, rfl, tb692, by decide +kernel⟩, (List.forall_mem_cons.mpr ⟨⟨yX4_factOf, rfl, tb693, by decide +kernel⟩, (List.forall_mem_cons.mpr ⟨⟨yX7_isNumber, rfl, tb698, by decide +kernel⟩, (List.forall_mem_cons.mpr ⟨⟨yX7_fail, rfl, tb699, by decide +kernel⟩, (List.forall_mem_cons.mpr ⟨⟨yX7_takeSign, rfl, tb702, by decide +kernel⟩, (List.forall_mem_cons.mpr ⟨⟨yX7_takeNumber, rfl, tb703, by decide +kernel⟩, (List.forall_mem_cons.mpr ⟨⟨yX4_joined, rfl, tb862, by decide +kernel⟩, (List.forall_mem_nil _)⟩)⟩)⟩)⟩)⟩)⟩)⟩)⟩)⟩)⟩)⟩)⟩)⟩)⟩)
theorem lmX5_ok : ∀ e ∈ lmX5, pm_lOK mtb RX5 e := (List.forall_mem_cons.mpr ⟨⟨yX5_tell, rfl, tb1084, by decide +kernel⟩, (List.forall_mem_nil _)⟩)
theorem lmX6_ok : ∀ e ∈ lmX6, pm_lOK mtb RX6 e := (List.forall_mem_cons.mpr ⟨⟨yX8_all, rfl, tb712, by decide +kernel⟩, (List.forall_mem_cons.mpr ⟨⟨yX8_has, rfl, tb847, by decide +kernel⟩, (List.forall_mem_cons.mpr ⟨⟨yX8_lowerOf, rfl, tb782, by decide +kernel⟩, (List.forall_mem_cons.mpr ⟨⟨yX6_liftAt, rfl, tb786, by decide +kernel⟩, (List.forall_mem_cons.mpr ⟨⟨yX6_climbs, rfl, tb778, by decide +kernel⟩, (List.forall_mem_cons.mpr ⟨⟨yX8_way, rfl, tb825, by decide +kernel⟩, (List.forall_mem_cons.mpr ⟨⟨yX6_isThere, rfl, tb843, by decide +kernel⟩, (List.forall_mem_cons.mpr ⟨⟨yX8_fromTop, rfl, tb848, by decide +kernel⟩, (List.forall_mem_cons.mpr ⟨⟨yJ6_bitCount_0f7a4, rfl, tb852, by decide +kernel⟩, (List.forall_mem_cons.mpr ⟨⟨yX4_valueOf, rfl, tb858, by decide +kernel⟩, (List.forall_mem_cons.mpr ⟨⟨yX6_open, rfl, tb889, by decide +kernel⟩, (List.forall_mem_cons.mpr ⟨⟨yX6_steals, rfl, tb918, by decide +kernel⟩, (List.forall_mem_cons.mpr ⟨⟨yX6_builds, rfl, tb919, by decide +kernel⟩, (List.forall_mem_cons.mpr ⟨⟨yX6_goes, rfl, tb920, by decide +kernel⟩, (List.forall_mem_cons.mpr ⟨⟨yX6_carries, rfl, tb921, by decide +kernel⟩, (List.forall_mem_nil _)⟩)⟩)⟩)⟩)⟩)⟩)⟩)⟩)⟩)⟩)⟩)⟩)⟩)⟩)⟩)
theorem lmX7_ok : ∀ e ∈ lmX7, pm_lOK mtb RX7 e := (List.forall_mem_cons.mpr ⟨⟨yX7_isLetter, rfl, tb93, by decide +kernel⟩, (List.forall_mem_cons.mpr ⟨⟨yX7_withLetter, rfl, tb96, by decide +kernel⟩, (List.forall_mem_cons.mpr ⟨⟨yX7_next, rfl, tb471, by decide +kernel⟩, (List.forall_mem_cons.mpr ⟨⟨yX7_cutWord, rfl, tb475, by decide +kernel⟩, (List.forall_mem_cons.mpr ⟨⟨yX7_isDigit, rfl, tb479, by decide +kernel⟩, (List.forall_mem_cons.mpr ⟨⟨yX7_cutNumber, rfl, tb482, by decide +kernel⟩, (List.forall_mem_cons.mpr ⟨⟨yX7_keyHere, rfl, tb592, by decide +kernel⟩, (List.forall_mem_cons.mpr ⟨⟨yX7_isWord, rfl, tb588, by decide +kernel⟩, (List.forall_mem_cons.mpr ⟨⟨yX7_fail, rfl, tb579, by decide +kernel⟩, (List.forall_mem_cons.mpr ⟨⟨yX7_isSign, rfl, tb613, by decide +kernel⟩, (List.forall_mem_cons.mpr ⟨⟨yX7_isNumber, rfl, tb601, by decide +kernel⟩, (List.forall_mem_cons.mpr ⟨⟨yX7_numberHere, rfl, tb597, by decide +kernel⟩, (List.forall_mem_cons.mpr ⟨⟨yX7_nameHere, rfl, tb637, by decide +kernel⟩, (List.forall_mem_cons.mpr ⟨⟨yX8_find, rfl, tb638, by decide +kernel⟩, (List.forall_mem_cons.mpr ⟨⟨yX7_takeTold, rfl, tb668, by decide +kernel⟩, (List.forall_mem_cons.mpr ⟨⟨yX8_floorsOf, rfl, tb669, by decide +kernel⟩, (List.forall_mem_cons.mpr ⟨⟨yX7_takeNumber, rfl, tb670, by decide +kernel⟩, (List.forall_mem_nil _)⟩)⟩)⟩)⟩)⟩)⟩)⟩)⟩)⟩)⟩)⟩)⟩)⟩)⟩)⟩)⟩)⟩)
theorem lmX8_ok : ∀ e ∈ lmX8, pm_lOK mtb RX8 e := (List.forall_mem_cons.mpr ⟨⟨yJ7_fill_53178, rfl, tb197, by decide +kernel⟩, (List.forall_mem_cons.mpr ⟨⟨yJ7_fill_d0a16, rfl, tb200, by decide +kernel⟩, (List.forall_mem_cons.mpr ⟨⟨yX4_clear, rfl, tb203, by decide +kernel⟩, (List.forall_mem_cons.mpr ⟨⟨yX4_isTold, rfl, tb211, by decide +kernel⟩, (List.forall_mem_cons.mpr ⟨⟨yX4_beHigh, rfl, tb215, by decide +kernel⟩, (List.forall_mem_cons.mpr ⟨⟨yX8_findAbove, rfl, tb223, by decide +kernel⟩, (List.forall_mem_cons.mpr ⟨⟨yX8_addOne, rfl, tb621, by decide +kernel⟩, (List.forall_mem_cons.mpr ⟨⟨yX8_has, rfl, tb651, by decide +kernel⟩, (List.forall_mem_cons.mpr ⟨⟨yX8_floorsOf, rfl, tb798, by decide +kernel⟩, (List.forall_mem_cons.mpr ⟨⟨yX8_isPlace, rfl, tb794, by decide +kernel⟩, (List.forall_mem_cons.mpr ⟨⟨yX8_stairs, rfl, tb801, by decide +kernel⟩, (List.forall_mem_nil _)⟩)⟩)⟩)⟩)⟩)⟩)⟩)⟩)⟩)⟩)⟩)
theorem lmX9_ok : ∀ e ∈ lmX9, pm_lOK mtb RX9 e := (List.forall_mem_cons.mpr ⟨⟨yX8_clear, rfl, tb466, by decide +kernel⟩, (List.forall_mem_cons.mpr ⟨⟨yX7_begin, rfl, tb467, by decide +kernel⟩, (List.forall_mem_cons.mpr ⟨⟨yX7_hasMore, rfl, tb546, by decide +kernel⟩, (List.forall_mem_cons.mpr ⟨⟨yX7_keyHere, rfl, tb550, by decide +kernel⟩, (List.forall_mem_cons.mpr ⟨⟨yX9_readHouse, rfl, tb554, by decide +kernel⟩, (List.forall_mem_cons.mpr ⟨⟨yX9_readFlight, rfl, tb629, by decide +kernel⟩, (List.forall_mem_cons.mpr ⟨⟨yX9_readThing, rfl, tb660, by decide +kernel⟩, (List.forall_mem_cons.mpr ⟨⟨yX9_readPerson, rfl, tb671, by decide +kernel⟩, (List.forall_mem_cons.mpr ⟨⟨yX9_readHill, rfl, tb675, by decide +kernel⟩, (List.forall_mem_cons.mpr ⟨⟨yX9_takeOnce, rfl, tb679, by decide +kernel⟩, (List.forall_mem_cons.mpr ⟨⟨yX7_takeNumber, rfl, tb593, by decide +kernel⟩, (List.forall_mem_cons.mpr ⟨⟨yX7_takeSign, rfl, tb609, by decide +kernel⟩, (List.forall_mem_cons.mpr ⟨⟨yX4_isTold, rfl, tb683, by decide +kernel⟩, (List.forall_mem_cons.mpr ⟨⟨yX4_readLevel, rfl, tb684, by decide +kernel⟩, (List.forall_mem_cons.mpr ⟨⟨yX7_fail, rfl, tb566, by decide +kernel⟩, (List.forall_mem_cons.mpr ⟨⟨yX8_close, rfl, tb707, by decide +kernel⟩, (List.forall_mem_cons.mpr ⟨⟨yX8_isFull, rfl, tb562, by decide +kernel⟩, (List.forall_mem_cons.mpr ⟨⟨yX7_next, rfl, tb570, by decide +kernel⟩, (List.forall_mem_cons.mpr ⟨⟨yX7_nameHere, rfl, tb575, by decide +kernel⟩, (List.forall_mem_cons.mpr ⟨⟨yX8_isTold, rfl, tb580, by decide +kernel⟩, (List.forall_mem_cons.mpr ⟨⟨yX9_takeFirst, rfl, tb558, by decide +kernel⟩, (List.forall_mem_cons.mpr ⟨⟨yX9_takeNewName, rfl, tb571, by decide +kernel⟩, (List.forall_mem_cons.mpr ⟨⟨yX7_takeWord, rfl, tb584, by decide +kernel⟩, (List.forall_mem_cons.mpr ⟨⟨yX9_lineEnds, rfl, tb605, by decide +kernel⟩, (List.forall_mem_cons.mpr ⟨⟨yX8_addNamed, rfl, tb617, by decide +kernel⟩, (List.forall_mem_cons.mpr ⟨⟨yX8_setFloors, rfl, tb625, by decide +kernel⟩, (List.forall_mem_cons.mpr ⟨⟨yX7_takeTold, rfl, tb633, by decide +kernel⟩, (List.forall_mem_cons.mpr ⟨⟨yX7_numberHere, rfl, tb642, by decide +kernel⟩, (List.forall_mem_cons.mpr ⟨⟨yX8_flightFrom, rfl, tb643, by decide +kernel⟩, (List.forall_mem_cons.mpr ⟨⟨yX8_floorsOf, rfl, tb647, by decide +kernel⟩, (List.forall_mem_cons.mpr ⟨⟨yX8_addOne, rfl, tb655, by decide +kernel⟩, (List.forall_mem_cons.mpr ⟨⟨yX8_setFlight, rfl, tb656, by decide +kernel⟩, (List.forall_mem_cons.mpr ⟨⟨yX7_takePlace, rfl, tb664, by decide +kernel⟩, (List.forall_mem_nil _)⟩)⟩)⟩)⟩)⟩)⟩)⟩)⟩)⟩)⟩)⟩)⟩)⟩)⟩)⟩)⟩)⟩)⟩)⟩)⟩)⟩)⟩)⟩)⟩)⟩)⟩)⟩)⟩)⟩)⟩)⟩)⟩)⟩)
theorem lmX10_ok : ∀ e ∈ lmX10, pm_lOK mtb RX10 e := (List.forall_mem_cons.mpr ⟨⟨yX7_feedEight, rfl, tb453, by decide +kernel⟩, (List.forall_mem_cons.mpr ⟨⟨yX9_read, rfl, tb462, by decide +kernel⟩, (List.forall_mem_cons.mpr ⟨⟨yX6_begin, rfl, tb708, by decide +kernel⟩, (List.forall_mem_cons.mpr ⟨⟨yX5_clear, rfl, tb716, by decide +kernel⟩, (List.forall_mem_cons.mpr ⟨⟨yX1_clear, rfl, tb720, by decide +kernel⟩, (List.forall_mem_cons.mpr ⟨⟨yX2_read, rfl, tb728, by decide +kernel⟩, (List.forall_mem_cons.mpr ⟨⟨yX5_tell, rfl, tb750, by decide +kernel⟩, (List.forall_mem_cons.mpr ⟨⟨yX8_has, rfl, tb761, by decide +kernel⟩, (List.forall_mem_cons.mpr ⟨⟨yX6_open, rfl, tb774, by decide +kernel⟩, (List.forall_mem_cons.mpr ⟨⟨yX8_way, rfl, tb790, by decide +kernel⟩, (List.forall_mem_cons.mpr ⟨⟨yX8_riseOf, rfl, tb809, by decide +kernel⟩, (List.forall_mem_cons.mpr ⟨⟨yX10_fillLacks, rfl, tb817, by decide +kernel⟩, (List.forall_mem_cons.mpr ⟨⟨yX10_cutBy, rfl, tb826, by decide +kernel⟩, (List.forall_mem_cons.mpr ⟨⟨yX6_copy, rfl, tb834, by decide +kernel⟩, (List.forall_mem_cons.mpr ⟨⟨yX6_steals, rfl, tb839, by decide +kernel⟩, (List.forall_mem_cons.mpr ⟨⟨yX1_keep, rfl, tb867, by decide +kernel⟩, (List.forall_mem_cons.mpr ⟨⟨yX6_builds, rfl, tb877, by decide +kernel⟩, (List.forall_mem_cons.mpr ⟨⟨yX6_goes, rfl, tb885, by decide +kernel⟩, (List.forall_mem_cons.mpr ⟨⟨yX6_carries, rfl, tb894, by decide +kernel⟩, (List.forall_mem_cons.mpr ⟨⟨yX1_takeBack, rfl, tb906, by decide +kernel⟩, (List.forall_mem_cons.mpr ⟨⟨yX6_does, rfl, tb914, by decide +kernel⟩, (List.forall_mem_cons.mpr ⟨⟨yX6_lack, rfl, tb821, by decide +kernel⟩, (List.forall_mem_cons.mpr ⟨⟨yX8_all, rfl, tb930, by decide +kernel⟩, (List.forall_mem_cons.mpr ⟨⟨yJ6_bitCount_0f7a4, rfl, tb935, by decide +kernel⟩, (List.forall_mem_cons.mpr ⟨⟨yX8_fromTop, rfl, tb936, by decide +kernel⟩, (List.forall_mem_cons.mpr ⟨⟨yX8_isPlace, rfl, tb941, by decide +kernel⟩, (List.forall_mem_cons.mpr ⟨⟨yX6_climbs, rfl, tb942, by decide +kernel⟩, (List.forall_mem_cons.mpr ⟨⟨yX5_addSeen, rfl, tb943, by decide +kernel⟩, (List.forall_mem_cons.mpr ⟨⟨yX5_isSo, rfl, tb951, by decide +kernel⟩, (List.forall_mem_cons.mpr ⟨⟨yX3_choose, rfl, tb959, by decide +kernel⟩, (List.forall_mem_cons.mpr ⟨⟨yX3_pack, rfl, tb963, by decide +kernel⟩, (List.forall_mem_cons.mpr ⟨⟨yX3_pay, rfl, tb981, by decide +kernel⟩, (List.forall_mem_cons.mpr ⟨⟨yX3_rise, rfl, tb989, by decide +kernel⟩, (List.forall_mem_cons.mpr ⟨⟨yX3_hillOf, rfl, tb994, by decide +kernel⟩, (List.forall_mem_cons.mpr ⟨⟨yX10_afterRound, rfl, tb1003, by decide +kernel⟩, (List.forall_mem_cons.mpr ⟨⟨yX10_allSeenByTwo, rfl, tb1017, by decide +kernel⟩, (List.forall_mem_cons.mpr ⟨⟨yX6_isThere, rfl, tb1021, by decide +kernel⟩, (List.forall_mem_cons.mpr ⟨⟨yX8_worth, rfl, tb1162, by decide +kernel⟩, (List.forall_mem_cons.mpr ⟨⟨yX10_findRest, rfl, tb1166, by decide +kernel⟩, (List.forall_mem_cons.mpr ⟨⟨yX0_spread, rfl, tb1031, by decide +kernel⟩, (List.forall_mem_cons.mpr ⟨⟨yX0_ofAll, rfl, tb1048, by decide +kernel⟩, (List.forall_mem_cons.mpr ⟨⟨yX10_passDrawnNight, rfl, tb1060, by decide +kernel⟩, (List.forall_mem_cons.mpr ⟨⟨yX5_copy, rfl, tb1080, by decide +kernel⟩, (List.forall_mem_cons.mpr ⟨⟨yX10_floorsBetween, rfl, tb1007, by decide +kernel⟩, (List.forall_mem_cons.mpr ⟨⟨yX10_seersOf, rfl, tb1022, by decide +kernel⟩, (List.forall_mem_cons.mpr ⟨⟨yX8_lowerOf, rfl, tb1026, by decide +kernel⟩, (List.forall_mem_cons.mpr ⟨⟨yX10_firstRests, rfl, tb1169, by decide +kernel⟩, (List.forall_mem_cons.mpr ⟨⟨yX10_secondRests, rfl, tb1172, by decide +kernel⟩, (List.forall_mem_cons.mpr ⟨⟨yX10_draw, rfl, tb1064, by decide +kernel⟩, (List.forall_mem_cons.mpr ⟨⟨yX10_firstGone, rfl, tb1072, by decide +kernel⟩, (List.forall_mem_nil _)⟩)⟩)⟩)⟩)⟩)⟩)⟩)⟩)⟩)⟩)⟩)⟩)⟩)⟩)⟩)⟩)⟩)⟩)⟩)⟩)⟩)⟩)⟩)⟩)⟩)⟩)⟩)⟩)⟩)⟩)⟩)⟩)⟩)⟩)⟩)⟩)⟩)⟩)⟩)⟩)⟩)⟩)⟩)⟩)⟩)⟩)⟩)⟩)⟩)⟩)
theorem lmX11_ok : ∀ e ∈ lmX11, pm_lOK mtb RX11 e := (List.forall_mem_cons.mpr ⟨⟨yX11_signAt, rfl, tb1427, by decide +kernel⟩, (List.forall_mem_cons.mpr ⟨⟨yX11_fact, rfl, tb1560, by decide +kernel⟩, (List.forall_mem_cons.mpr ⟨⟨yX11_isWord, rfl, tb1434, by decide +kernel⟩, (List.forall_mem_cons.mpr ⟨⟨yX11_isSign, rfl, tb1512, by decide +kernel⟩, (List.forall_mem_cons.mpr ⟨⟨yX11_fails, rfl, tb1442, by decide +kernel⟩, (List.forall_mem_cons.mpr ⟨⟨yX11_puts, rfl, tb1567, by decide +kernel⟩, (List.forall_mem_cons.mpr ⟨⟨yX11_nextToken, rfl, tb1423, by decide +kernel⟩, (List.forall_mem_cons.mpr ⟨⟨yX11_sums, rfl, tb1716, by decide +kernel⟩, (List.forall_mem_cons.mpr ⟨⟨yX11_opens, rfl, tb1712, by decide +kernel⟩, (List.forall_mem_cons.mpr ⟨⟨yX11_tests, rfl, tb1720, by decide +kernel⟩, (List.forall_mem_cons.mpr ⟨⟨yX11_named, rfl, tb1482, by decide +kernel⟩, (List.forall_mem_cons.mpr ⟨⟨yX11_within, rfl, tb1505, by decide +kernel⟩, (List.forall_mem_cons.mpr ⟨⟨yX11_needsWord, rfl, tb1497, by decide +kernel⟩, (List.forall_mem_cons.mpr ⟨⟨yX11_needsNumber, rfl, tb1501, by decide +kernel⟩, (List.forall_mem_cons.mpr ⟨⟨yX11_isKept, rfl, tb1450, by decide +kernel⟩, (List.forall_mem_cons.mpr ⟨⟨yX11_houseNamed, rfl, tb1478, by decide +kernel⟩, (List.forall_mem_cons.mpr ⟨⟨yX11_thingNamed, rfl, tb1485, by decide +kernel⟩, (List.forall_mem_cons.mpr ⟨⟨yX11_personNamed, rfl, tb1489, by decide +kernel⟩, (List.forall_mem_cons.mpr ⟨⟨yX11_needsTold, rfl, tb1520, by decide +kernel⟩, (List.forall_mem_cons.mpr ⟨⟨yX11_isNew, rfl, tb1446, by decide +kernel⟩, (List.forall_mem_cons.mpr ⟨⟨yX11_needsBoth, rfl, tb1493, by decide +kernel⟩, (List.forall_mem_cons.mpr ⟨⟨yX11_closes, rfl, tb1508, by decide +kernel⟩, (List.forall_mem_cons.mpr ⟨⟨yX11_flightOf, rfl, tb1524, by decide +kernel⟩, (List.forall_mem_cons.mpr ⟨⟨yX11_needsPlace, rfl, tb1532, by decide +kernel⟩, (List.forall_mem_cons.mpr ⟨⟨yX11_isTwice, rfl, tb1548, by decide +kernel⟩, (List.forall_mem_cons.mpr ⟨⟨yX11_reads, rfl, tb1556, by decide +kernel⟩, (List.forall_mem_cons.mpr ⟨⟨yX11_starts, rfl, tb1419, by decide +kernel⟩, (List.forall_mem_cons.mpr ⟨⟨yX11_readsHouse, rfl, tb1438, by decide +kernel⟩, (List.forall_mem_cons.mpr ⟨⟨yX11_readsFlight, rfl, tb1516, by decide +kernel⟩, (List.forall_mem_cons.mpr ⟨⟨yX11_readsThing, rfl, tb1528, by decide +kernel⟩, (List.forall_mem_cons.mpr ⟨⟨yX11_readsPerson, rfl, tb1536, by decide +kernel⟩, (List.forall_mem_cons.mpr ⟨⟨yX11_readsHill, rfl, tb1540, by decide +kernel⟩, (List.forall_mem_cons.mpr ⟨⟨yX11_readsOne, rfl, tb1544, by decide +kernel⟩, (List.forall_mem_cons.mpr ⟨⟨yX11_readsPrice, rfl, tb1552, by decide +kernel⟩, (List.forall_mem_cons.mpr ⟨⟨yX11_moves, rfl, tb1575, by decide +kernel⟩, (List.forall_mem_cons.mpr ⟨⟨yX11_movesNames, rfl, tb1578, by decide +kernel⟩, (List.forall_mem_cons.mpr ⟨⟨yX11_needsFlight, rfl, tb1597, by decide +kernel⟩, (List.forall_mem_cons.mpr ⟨⟨yX11_allFlights, rfl, tb1585, by decide +kernel⟩, (List.forall_mem_cons.mpr ⟨⟨yX11_readsAll, rfl, tb1415, by decide +kernel⟩, (List.forall_mem_cons.mpr ⟨⟨yX11_lays, rfl, tb1571, by decide +kernel⟩, (List.forall_mem_cons.mpr ⟨⟨yX11_fresh, rfl, tb1581, by decide +kernel⟩, (List.forall_mem_cons.mpr ⟨⟨yX11_readsLine, rfl, tb1593, by decide +kernel⟩, (List.forall_mem_cons.mpr ⟨⟨yX11_laysLines, rfl, tb1601, by decide +kernel⟩, (List.forall_mem_cons.mpr ⟨⟨yX11_lowerOf, rfl, tb1641, by decide +kernel⟩, (List.forall_mem_cons.mpr ⟨⟨yX11_streets, rfl, tb1649, by decide +kernel⟩, (List.forall_mem_cons.mpr ⟨⟨yX11_climbs, rfl, tb1637, by decide +kernel⟩, (List.forall_mem_cons.mpr ⟨⟨yX11_spreads, rfl, tb1645, by decide +kernel⟩, (List.forall_mem_cons.mpr ⟨⟨yX11_isCut, rfl, tb1674, by decide +kernel⟩, (List.forall_mem_cons.mpr ⟨⟨yX11_isFlight, rfl, tb1609, by decide +kernel⟩, (List.forall_mem_cons.mpr ⟨⟨yX11_isPerson, rfl, tb1617, by decide +kernel⟩, (List.forall_mem_cons.mpr ⟨⟨yX11_isThing, rfl, tb1625, by decide +kernel⟩, (List.forall_mem_cons.mpr ⟨⟨yX11_reachOf, rfl, tb1633, by decide +kernel⟩, (List.forall_mem_cons.mpr ⟨⟨yX11_isPlace, rfl, tb1657, by decide +kernel⟩, (List.forall_mem_cons.mpr ⟨⟨yX11_lessens, rfl, tb1662, by decide +kernel⟩, (List.forall_mem_cons.mpr ⟨⟨yX11_cutBy, rfl, tb1670, by decide +kernel⟩, (List.forall_mem_cons.mpr ⟨⟨yX11_copies, rfl, tb1694, by decide +kernel⟩, (List.forall_mem_cons.mpr ⟨⟨yX11_above, rfl, tb1686, by decide +kernel⟩, (List.forall_mem_cons.mpr ⟨⟨yX11_bits, rfl, tb1705, by decide +kernel⟩, (List.forall_mem_cons.mpr ⟨⟨yX11_worked, rfl, tb1708, by decide +kernel⟩, (List.forall_mem_cons.mpr ⟨⟨yX11_between, rfl, tb1724, by decide +kernel⟩, (List.forall_mem_cons.mpr ⟨⟨yX11_priceOf, rfl, tb1701, by decide +kernel⟩, (List.forall_mem_cons.mpr ⟨⟨yX11_canSteal, rfl, tb1682, by decide +kernel⟩, (List.forall_mem_cons.mpr ⟨⟨yX11_keeps, rfl, tb1690, by decide +kernel⟩, (List.forall_mem_cons.mpr ⟨⟨yX11_steals, rfl, tb1697, by decide +kernel⟩, (List.forall_mem_cons.mpr ⟨⟨yX11_canBuild, rfl, tb1731, by decide +kernel⟩, (List.forall_mem_cons.mpr ⟨⟨yX11_builds, rfl, tb1735, by decide +kernel⟩, (List.forall_mem_cons.mpr ⟨⟨yX11_canGo, rfl, tb1743, by decide +kernel⟩, (List.forall_mem_cons.mpr ⟨⟨yX11_canCarry, rfl, tb1751, by decide +kernel⟩, (List.forall_mem_cons.mpr ⟨⟨yX11_carries, rfl, tb1755, by decide +kernel⟩, (List.forall_mem_cons.mpr ⟨⟨yX11_goes, rfl, tb1771, by decide +kernel⟩, (List.forall_mem_cons.mpr ⟨⟨yX11_riseOf, rfl, tb1783, by decide +kernel⟩, (List.forall_mem_cons.mpr ⟨⟨yX11_isFromTop, rfl, tb1791, by decide +kernel⟩, (List.forall_mem_cons.mpr ⟨⟨yX11_isAsSeen, rfl, tb1803, by decide +kernel⟩, (List.forall_mem_cons.mpr ⟨⟨yX11_canServe, rfl, tb1815, by decide +kernel⟩, (List.forall_mem_cons.mpr ⟨⟨yX11_fills, rfl, tb1827, by decide +kernel⟩, (List.forall_mem_cons.mpr ⟨⟨yX11_payOf, rfl, tb1823, by decide +kernel⟩, (List.forall_mem_cons.mpr ⟨⟨yX11_isFirst, rfl, tb1832, by decide +kernel⟩, (List.forall_mem_cons.mpr ⟨⟨yX11_laysServed, rfl, tb1811, by decide +kernel⟩, (List.forall_mem_cons.mpr ⟨⟨yX11_seeks, rfl, tb1819, by decide +kernel⟩, (List.forall_mem_cons.mpr ⟨⟨yX11_away, rfl, tb1843, by decide +kernel⟩, (List.forall_mem_cons.mpr ⟨⟨yX11_floorsAway, rfl, tb1840, by decide +kernel⟩, (List.forall_mem_cons.mpr ⟨⟨yX11_watches, rfl, tb1854, by decide +kernel⟩, (List.forall_mem_cons.mpr ⟨⟨yX11_isWatched, rfl, tb1850, by decide +kernel⟩, (List.forall_mem_cons.mpr ⟨⟨yX11_isHill, rfl, tb1862, by decide +kernel⟩, (List.forall_mem_cons.mpr ⟨⟨yX11_worthTo, rfl, tb1866, by decide +kernel⟩, (List.forall_mem_cons.mpr ⟨⟨yX11_isRest, rfl, tb1870, by decide +kernel⟩, (List.forall_mem_cons.mpr ⟨⟨yX11_laysOdds, rfl, tb1877, by decide +kernel⟩, (List.forall_mem_cons.mpr ⟨⟨yX11_liveOf, rfl, tb1882, by decide +kernel⟩, (List.forall_mem_cons.mpr ⟨⟨yX11_draws, rfl, tb1898, by decide +kernel⟩, (List.forall_mem_cons.mpr ⟨⟨yX11_livesNight, rfl, tb1894, by decide +kernel⟩, (List.forall_mem_cons.mpr ⟨⟨yX11_laysSeen, rfl, tb1910, by decide +kernel⟩, (List.forall_mem_nil _)⟩)⟩)⟩)⟩)⟩)⟩)⟩)⟩)⟩)⟩)⟩)⟩)⟩)⟩)⟩)⟩)⟩)⟩)⟩)⟩)⟩)⟩)⟩)⟩)⟩)⟩)⟩)⟩)⟩)⟩)⟩)⟩)⟩)⟩)⟩)⟩)⟩)⟩)⟩)⟩)⟩)⟩)⟩)⟩)⟩)⟩)⟩)⟩)⟩)⟩)⟩)⟩)⟩)⟩)⟩)⟩)⟩)⟩)⟩)⟩)⟩)⟩)⟩)⟩)⟩)⟩)⟩)⟩)⟩)⟩)⟩)⟩)⟩)⟩)⟩)⟩)⟩)⟩)⟩)⟩)⟩)⟩)⟩)⟩)⟩)⟩)⟩)⟩)⟩)⟩)⟩)
theorem lmJ6_ok : ∀ e ∈ lmJ6, pm_lOK mtb RJ6 e := (List.forall_mem_nil _)
theorem lmJ7_ok : ∀ e ∈ lmJ7, pm_lOK mtb RJ7 e := (List.forall_mem_nil _)
theorem mtX0_ok : ∀ e ∈ mtX0, pm_eOK RX0 lkX0 e := (List.forall_mem_cons.mpr ⟨⟨rfl, tb1047, by decide, Or.inr ⟨rfl, tb1046, tv28⟩, rfl⟩, (List.forall_mem_cons.mpr ⟨⟨rfl, tb1051, by decide, Or.inr ⟨rfl, tb1049, tb1050⟩, rfl⟩, (List.forall_mem_cons.mpr ⟨⟨rfl, tb1042, by decide, Or.inr ⟨rfl, tb1041, tv27⟩, rfl⟩, (List.forall_mem_cons.mpr ⟨⟨rfl, tb1034, by decide, Or.inr ⟨rfl, tb1032, tb1033⟩, rfl⟩, (List.forall_mem_cons.mpr ⟨⟨rfl, tb1038, by decide, Or.inl ⟨rfl, tb1037⟩, rfl⟩, (List.forall_mem_nil _)⟩)⟩)⟩)⟩)⟩)
theorem mtX0_in : Cond.initialized RX0 ∈ gw := tb16
theorem mtX1_ok : ∀ e ∈ mtX1, pm_eOK RX1 lkX1 e := (List.forall_mem_cons.mpr ⟨⟨rfl, tb723, by decide, Or.inr ⟨rfl, tb721, tb722⟩, rfl⟩, (List.forall_mem_cons.mpr ⟨⟨rfl, tb870, by decide, Or.inr ⟨rfl, tb868, tb869⟩, rfl⟩, (List.forall_mem_cons.mpr ⟨⟨rfl, tb909, by decide, Or.inr ⟨rfl, tb907, tb908⟩, rfl⟩, (List.forall_mem_nil _)⟩)⟩)⟩)
theorem mtX1_in : Cond.initialized RX1 ∈ gw := tb14
theorem mtX2_ok : ∀ e ∈ mtX2, pm_eOK RX2 lkX2 e := (List.forall_mem_cons.mpr ⟨⟨rfl, tb731, by decide, Or.inr ⟨rfl, tb729, tb730⟩, rfl⟩, (List.forall_mem_cons.mpr ⟨⟨rfl, tb737, by decide, Or.inr ⟨rfl, tb736, tv15⟩, rfl⟩, (List.forall_mem_cons.mpr ⟨⟨rfl, tb744, by decide, Or.inr ⟨rfl, tb743, tv16⟩, rfl⟩, (List.forall_mem_nil _)⟩)⟩)⟩)
theorem mtX2_in : Cond.initialized RX2 ∈ gw := tb8
theorem mtX3_ok : ∀ e ∈ mtX3, pm_eOK RX3 lkX3 e := (List.forall_mem_cons.mpr ⟨⟨rfl, tb975, by decide, Or.inr ⟨rfl, tb974, tv22⟩, rfl⟩, (List.forall_mem_cons.mpr ⟨⟨rfl, tb962, by decide, Or.inr ⟨rfl, tb960, tb961⟩, rfl⟩, (List.forall_mem_cons.mpr ⟨⟨rfl, tb970, by decide, Or.inr ⟨rfl, tb969, tv21⟩, rfl⟩, (List.forall_mem_cons.mpr ⟨⟨rfl, tb997, by decide, Or.inr ⟨rfl, tb995, tb996⟩, rfl⟩, (List.forall_mem_cons.mpr ⟨⟨rfl, tb966, by decide, Or.inr ⟨rfl, tb964, tb965⟩, rfl⟩, (List.forall_mem_cons.mpr ⟨⟨rfl, tb984, by decide, Or.inr ⟨rfl, tb982, tb983⟩, rfl⟩, (List.forall_mem_cons.mpr ⟨⟨rfl, tb992, by decide, Or.inr ⟨rfl, tb990, tb991⟩, rfl⟩, (List.forall_mem_cons.mpr ⟨⟨rfl, tb988, by decide, Or.inr ⟨rfl, tb987, tv23⟩, rfl⟩, (List.forall_mem_nil _)⟩)⟩)⟩)⟩)⟩)⟩)⟩)⟩)
theorem mtX3_in : Cond.initialized RX3 ∈ gw := tb15
theorem mtX4_ok : ∀ e ∈ mtX4, pm_eOK RX4 lkX4 e := (List.forall_mem_cons.mpr ⟨⟨rfl, tb222, by decide, Or.inr ⟨rfl, tb221, tv1⟩, rfl⟩, (List.forall_mem_cons.mpr ⟨⟨rfl, tb218, by decide, Or.inr ⟨rfl, tb216, tb217⟩, rfl⟩, (List.forall_mem_cons.mpr ⟨⟨rfl, tb206, by decide, Or.inr ⟨rfl, tb204, tb205⟩, rfl⟩, (List.forall_mem_cons.mpr ⟨⟨rfl, tb695, by decide, Or.inl ⟨rfl, tb694⟩, rfl⟩, (List.forall_mem_cons.mpr ⟨⟨rfl, tb214, by decide, Or.inr ⟨rfl, tb212, tb213⟩, rfl⟩, (List.forall_mem_cons.mpr ⟨⟨rfl, tb706, by decide, Or.inl ⟨rfl, tb705⟩, rfl⟩, (List.forall_mem_cons.mpr ⟨⟨rfl, tb864, by decide, Or.inl ⟨rfl, tb863⟩, rfl⟩, (List.forall_mem_cons.mpr ⟨⟨rfl, tb687, by decide, Or.inr ⟨rfl, tb685, tb686⟩, rfl⟩, (List.forall_mem_cons.mpr ⟨⟨rfl, tb691, by decide, Or.inr ⟨rfl, tb690, tv14⟩, rfl⟩, (List.forall_mem_cons.mpr ⟨⟨rfl, tb861, by decide, Or.inr ⟨rfl, tb859, tb860⟩, rfl⟩, (List.forall_mem_nil _)⟩)⟩)⟩)⟩)⟩)⟩)⟩)⟩)⟩)⟩)
theorem mtX4_in : Cond.initialized RX4 ∈ gw := tb10
theorem mtX5_ok : ∀ e ∈ mtX5, pm_eOK RX5 lkX5 e := (List.forall_mem_cons.mpr ⟨⟨rfl, tb946, by decide, Or.inr ⟨rfl, tb944, tb945⟩, rfl⟩, (List.forall_mem_cons.mpr ⟨⟨rfl, tb719, by decide, Or.inr ⟨rfl, tb717, tb718⟩, rfl⟩, (List.forall_mem_cons.mpr ⟨⟨rfl, tb1083, by decide, Or.inr ⟨rfl, tb1081, tb1082⟩, rfl⟩, (List.forall_mem_cons.mpr ⟨⟨rfl, tb954, by decide, Or.inr ⟨rfl, tb952, tb953⟩, rfl⟩, (List.forall_mem_cons.mpr ⟨⟨rfl, tb753, by decide, Or.inr ⟨rfl, tb751, tb752⟩, rfl⟩, (List.forall_mem_nil _)⟩)⟩)⟩)⟩)⟩)
theorem mtX5_in : Cond.initialized RX5 ∈ gw := tb13
theorem mtX6_ok : ∀ e ∈ mtX6, pm_eOK RX6 lkX6 e := (List.forall_mem_cons.mpr ⟨⟨rfl, tb711, by decide, Or.inr ⟨rfl, tb709, tb710⟩, rfl⟩, (List.forall_mem_cons.mpr ⟨⟨rfl, tb880, by decide, Or.inr ⟨rfl, tb878, tb879⟩, rfl⟩, (List.forall_mem_cons.mpr ⟨⟨rfl, tb897, by decide, Or.inr ⟨rfl, tb895, tb896⟩, rfl⟩, (List.forall_mem_cons.mpr ⟨⟨rfl, tb781, by decide, Or.inr ⟨rfl, tb779, tb780⟩, rfl⟩, (List.forall_mem_cons.mpr ⟨⟨rfl, tb837, by decide, Or.inr ⟨rfl, tb835, tb836⟩, rfl⟩, (List.forall_mem_cons.mpr ⟨⟨rfl, tb917, by decide, Or.inr ⟨rfl, tb915, tb916⟩, rfl⟩, (List.forall_mem_cons.mpr ⟨⟨rfl, tb888, by decide, Or.inr ⟨rfl, tb886, tb887⟩, rfl⟩, (List.forall_mem_cons.mpr ⟨⟨rfl, tb846, by decide, Or.inr ⟨rfl, tb844, tb845⟩, rfl⟩, (List.forall_mem_cons.mpr ⟨⟨rfl, tb824, by decide, Or.inr ⟨rfl, tb822, tb823⟩, rfl⟩, (List.forall_mem_cons.mpr ⟨⟨rfl, tb789, by decide, Or.inr ⟨rfl, tb788, tv17⟩, rfl⟩, (List.forall_mem_cons.mpr ⟨⟨rfl, tb777, by decide, Or.inr ⟨rfl, tb775, tb776⟩, rfl⟩, (List.forall_mem_cons.mpr ⟨⟨rfl, tb842, by decide, Or.inr ⟨rfl, tb840, tb841⟩, rfl⟩, (List.forall_mem_nil _)⟩)⟩)⟩)⟩)⟩)⟩)⟩)⟩)⟩)⟩)⟩)⟩)
theorem mtX6_in : Cond.initialized RX6 ∈ gw := tb12
theorem mtX7_ok : ∀ e ∈ mtX7, pm_eOK RX7 lkX7 e := (List.forall_mem_cons.mpr ⟨⟨rfl, tb470, by decide, Or.inr ⟨rfl, tb468, tb469⟩, rfl⟩, (List.forall_mem_cons.mpr ⟨⟨rfl, tb485, by decide, Or.inr ⟨rfl, tb484, tv4⟩, rfl⟩, (List.forall_mem_cons.mpr ⟨⟨rfl, tb478, by decide, Or.inr ⟨rfl, tb477, tv3⟩, rfl⟩, (List.forall_mem_cons.mpr ⟨⟨rfl, tb569, by decide, Or.inr ⟨rfl, tb567, tb568⟩, rfl⟩, (List.forall_mem_cons.mpr ⟨⟨rfl, tb456, by decide, Or.inr ⟨rfl, tb454, tb455⟩, rfl⟩, (List.forall_mem_cons.mpr ⟨⟨rfl, tb549, by decide, Or.inr ⟨rfl, tb547, tb548⟩, rfl⟩, (List.forall_mem_cons.mpr ⟨⟨rfl, tb481, by decide, Or.inl ⟨rfl, tb480⟩, rfl⟩, (List.forall_mem_cons.mpr ⟨⟨rfl, tb95, by decide, Or.inl ⟨rfl, tb94⟩, rfl⟩, (List.forall_mem_cons.mpr ⟨⟨rfl, tb604, by decide, Or.inr ⟨rfl, tb602, tb603⟩, rfl⟩, (List.forall_mem_cons.mpr ⟨⟨rfl, tb616, by decide, Or.inr ⟨rfl, tb614, tb615⟩, rfl⟩, (List.forall_mem_cons.mpr ⟨⟨rfl, tb591, by decide, Or.inr ⟨rfl, tb589, tb590⟩, rfl⟩, (List.forall_mem_cons.mpr ⟨⟨rfl, tb553, by decide, Or.inr ⟨rfl, tb551, tb552⟩, rfl⟩, (List.forall_mem_cons.mpr ⟨⟨rfl, tb44, by decide, Or.inr ⟨rfl, tb43, tv0⟩, rfl⟩, (List.forall_mem_cons.mpr ⟨⟨rfl, tb578, by decide, Or.inr ⟨rfl, tb576, tb577⟩, rfl⟩, (List.forall_mem_cons.mpr ⟨⟨rfl, tb474, by decide, Or.inr ⟨rfl, tb472, tb473⟩, rfl⟩, (List.forall_mem_cons.mpr ⟨⟨rfl, tb600, by decide, Or.inr ⟨rfl, tb598, tb599⟩, rfl⟩, (List.forall_mem_cons.mpr ⟨⟨rfl, tb596, by decide, Or.inr ⟨rfl, tb594, tb595⟩, rfl⟩, (List.forall_mem_cons.mpr ⟨⟨rfl, tb667, by decide, Or.inr ⟨rfl, tb665, tb666⟩, rfl⟩, (List.forall_mem_cons.mpr ⟨⟨rfl, tb612, by decide, Or.inr ⟨rfl, tb610, tb611⟩, rfl⟩, (List.forall_mem_cons.mpr ⟨⟨rfl, tb636, by decide, Or.inr ⟨rfl, tb634, tb635⟩, rfl⟩, (List.forall_mem_cons.mpr ⟨⟨rfl, tb587, by decide, Or.inr ⟨rfl, tb585, tb586⟩, rfl⟩, (List.forall_mem_cons.mpr ⟨⟨rfl, tb98, by decide, Or.inl ⟨rfl, tb97⟩, rfl⟩, (List.forall_mem_nil _)⟩)⟩)⟩)⟩)⟩)⟩)⟩)⟩)⟩)⟩)⟩)⟩)⟩)⟩)⟩)⟩)⟩)⟩)⟩)⟩)⟩)⟩)
theorem mtX7_in : Cond.initialized RX7 ∈ gw := tb2
theorem mtX8_ok : ∀ e ∈ mtX8, pm_eOK RX8 lkX8 e := (List.forall_mem_cons.mpr ⟨⟨rfl, tb620, by decide, Or.inr ⟨rfl, tb618, tb619⟩, rfl⟩, (List.forall_mem_cons.mpr ⟨⟨rfl, tb624, by decide, Or.inr ⟨rfl, tb622, tb623⟩, rfl⟩, (List.forall_mem_cons.mpr ⟨⟨rfl, tb715, by decide, Or.inr ⟨rfl, tb713, tb714⟩, rfl⟩, (List.forall_mem_cons.mpr ⟨⟨rfl, tb196, by decide, Or.inr ⟨rfl, tb194, tb195⟩, rfl⟩, (List.forall_mem_cons.mpr ⟨⟨rfl, tb210, by decide, Or.inr ⟨rfl, tb208, tb209⟩, rfl⟩, (List.forall_mem_cons.mpr ⟨⟨rfl, tb641, by decide, Or.inr ⟨rfl, tb639, tb640⟩, rfl⟩, (List.forall_mem_cons.mpr ⟨⟨rfl, tb226, by decide, Or.inr ⟨rfl, tb225, tv2⟩, rfl⟩, (List.forall_mem_cons.mpr ⟨⟨rfl, tb646, by decide, Or.inr ⟨rfl, tb644, tb645⟩, rfl⟩, (List.forall_mem_cons.mpr ⟨⟨rfl, tb650, by decide, Or.inr ⟨rfl, tb648, tb649⟩, rfl⟩, (List.forall_mem_cons.mpr ⟨⟨rfl, tb851, by decide, Or.inr ⟨rfl, tb849, tb850⟩, rfl⟩, (List.forall_mem_cons.mpr ⟨⟨rfl, tb654, by decide, Or.inr ⟨rfl, tb652, tb653⟩, rfl⟩, (List.forall_mem_cons.mpr ⟨⟨rfl, tb565, by decide, Or.inr ⟨rfl, tb563, tb564⟩, rfl⟩, (List.forall_mem_cons.mpr ⟨⟨rfl, tb797, by decide, Or.inr ⟨rfl, tb795, tb796⟩, rfl⟩, (List.forall_mem_cons.mpr ⟨⟨rfl, tb583, by decide, Or.inr ⟨rfl, tb581, tb582⟩, rfl⟩, (List.forall_mem_cons.mpr ⟨⟨rfl, tb785, by decide, Or.inr ⟨rfl, tb783, tb784⟩, rfl⟩, (List.forall_mem_cons.mpr ⟨⟨rfl, tb812, by decide, Or.inr ⟨rfl, tb810, tb811⟩, rfl⟩, (List.forall_mem_cons.mpr ⟨⟨rfl, tb659, by decide, Or.inr ⟨rfl, tb657, tb658⟩, rfl⟩, (List.forall_mem_cons.mpr ⟨⟨rfl, tb628, by decide, Or.inr ⟨rfl, tb626, tb627⟩, rfl⟩, (List.forall_mem_cons.mpr ⟨⟨rfl, tb804, by decide, Or.inr ⟨rfl, tb803, tv18⟩, rfl⟩, (List.forall_mem_cons.mpr ⟨⟨rfl, tb793, by decide, Or.inr ⟨rfl, tb791, tb792⟩, rfl⟩, (List.forall_mem_cons.mpr ⟨⟨rfl, tb1165, by decide, Or.inr ⟨rfl, tb1163, tb1164⟩, rfl⟩, (List.forall_mem_nil _)⟩)⟩)⟩)⟩)⟩)⟩)⟩)⟩)⟩)⟩)⟩)⟩)⟩)⟩)⟩)⟩)⟩)⟩)⟩)⟩)⟩)
theorem mtX8_in : Cond.initialized RX8 ∈ gw := tb9
theorem mtX9_ok : ∀ e ∈ mtX9, pm_eOK RX9 lkX9 e := (List.forall_mem_cons.mpr ⟨⟨rfl, tb608, by decide, Or.inr ⟨rfl, tb607, tv8⟩, rfl⟩, (List.forall_mem_cons.mpr ⟨⟨rfl, tb465, by decide, Or.inr ⟨rfl, tb463, tb464⟩, rfl⟩, (List.forall_mem_cons.mpr ⟨⟨rfl, tb632, by decide, Or.inr ⟨rfl, tb631, tv9⟩, rfl⟩, (List.forall_mem_cons.mpr ⟨⟨rfl, tb678, by decide, Or.inr ⟨rfl, tb677, tv12⟩, rfl⟩, (List.forall_mem_cons.mpr ⟨⟨rfl, tb557, by decide, Or.inr ⟨rfl, tb556, tv5⟩, rfl⟩, (List.forall_mem_cons.mpr ⟨⟨rfl, tb674, by decide, Or.inr ⟨rfl, tb673, tv11⟩, rfl⟩, (List.forall_mem_cons.mpr ⟨⟨rfl, tb663, by decide, Or.inr ⟨rfl, tb662, tv10⟩, rfl⟩, (List.forall_mem_cons.mpr ⟨⟨rfl, tb561, by decide, Or.inr ⟨rfl, tb560, tv6⟩, rfl⟩, (List.forall_mem_cons.mpr ⟨⟨rfl, tb574, by decide, Or.inr ⟨rfl, tb573, tv7⟩, rfl⟩, (List.forall_mem_cons.mpr ⟨⟨rfl, tb682, by decide, Or.inr ⟨rfl, tb681, tv13⟩, rfl⟩, (List.forall_mem_nil _)⟩)⟩)⟩)⟩)⟩)⟩)⟩)⟩)⟩)⟩)
theorem mtX9_in : Cond.initialized RX9 ∈ gw := tb7
theorem mtX10_ok : ∀ e ∈ mtX10, pm_eOK RX10 lkX10 e := (List.forall_mem_cons.mpr ⟨⟨rfl, tb1006, by decide, Or.inr ⟨rfl, tb1005, tv24⟩, rfl⟩, (List.forall_mem_cons.mpr ⟨⟨rfl, tb1020, by decide, Or.inr ⟨rfl, tb1019, tv25⟩, rfl⟩, (List.forall_mem_cons.mpr ⟨⟨rfl, tb925, by decide, Or.inr ⟨rfl, tb923, tb924⟩, rfl⟩, (List.forall_mem_cons.mpr ⟨⟨rfl, tb1055, by decide, Or.inr ⟨rfl, tb1053, tb1054⟩, rfl⟩, (List.forall_mem_cons.mpr ⟨⟨rfl, tb876, by decide, Or.inr ⟨rfl, tb874, tb875⟩, rfl⟩, (List.forall_mem_cons.mpr ⟨⟨rfl, tb893, by decide, Or.inr ⟨rfl, tb891, tb892⟩, rfl⟩, (List.forall_mem_cons.mpr ⟨⟨rfl, tb808, by decide, Or.inr ⟨rfl, tb806, tb807⟩, rfl⟩, (List.forall_mem_cons.mpr ⟨⟨rfl, tb1088, by decide, Or.inr ⟨rfl, tb1086, tb1087⟩, rfl⟩, (List.forall_mem_cons.mpr ⟨⟨rfl, tb816, by decide, Or.inr ⟨rfl, tb814, tb815⟩, rfl⟩, (List.forall_mem_cons.mpr ⟨⟨rfl, tb829, by decide, Or.inr ⟨rfl, tb828, tv20⟩, rfl⟩, (List.forall_mem_cons.mpr ⟨⟨rfl, tb1067, by decide, Or.inr ⟨rfl, tb1066, tv30⟩, rfl⟩, (List.forall_mem_cons.mpr ⟨⟨rfl, tb452, by decide, Or.inr ⟨rfl, tb450, tb451⟩, rfl⟩, (List.forall_mem_cons.mpr ⟨⟨rfl, tb820, by decide, Or.inr ⟨rfl, tb819, tv19⟩, rfl⟩, (List.forall_mem_cons.mpr ⟨⟨rfl, tb1168, by decide, Or.inl ⟨rfl, tb1167⟩, rfl⟩, (List.forall_mem_cons.mpr ⟨⟨rfl, tb1075, by decide, Or.inr ⟨rfl, tb1074, tv31⟩, rfl⟩, (List.forall_mem_cons.mpr ⟨⟨rfl, tb1171, by decide, Or.inl ⟨rfl, tb1170⟩, rfl⟩, (List.forall_mem_cons.mpr ⟨⟨rfl, tb950, by decide, Or.inr ⟨rfl, tb948, tb949⟩, rfl⟩, (List.forall_mem_cons.mpr ⟨⟨rfl, tb760, by decide, Or.inr ⟨rfl, tb758, tb759⟩, rfl⟩, (List.forall_mem_cons.mpr ⟨⟨rfl, tb1009, by decide, Or.inl ⟨rfl, tb1008⟩, rfl⟩, (List.forall_mem_cons.mpr ⟨⟨rfl, tb884, by decide, Or.inr ⟨rfl, tb882, tb883⟩, rfl⟩, (List.forall_mem_cons.mpr ⟨⟨rfl, tb913, by decide, Or.inr ⟨rfl, tb911, tb912⟩, rfl⟩, (List.forall_mem_cons.mpr ⟨⟨rfl, tb1030, by decide, Or.inr ⟨rfl, tb1028, tb1029⟩, rfl⟩, (List.forall_mem_cons.mpr ⟨⟨rfl, tb1079, by decide, Or.inr ⟨rfl, tb1077, tb1078⟩, rfl⟩, (List.forall_mem_cons.mpr ⟨⟨rfl, tb901, by decide, Or.inr ⟨rfl, tb899, tb900⟩, rfl⟩, (List.forall_mem_cons.mpr ⟨⟨rfl, tb727, by decide, Or.inr ⟨rfl, tb725, tb726⟩, rfl⟩, (List.forall_mem_cons.mpr ⟨⟨rfl, tb958, by decide, Or.inr ⟨rfl, tb956, tb957⟩, rfl⟩, (List.forall_mem_cons.mpr ⟨⟨rfl, tb1063, by decide, Or.inr ⟨rfl, tb1062, tv29⟩, rfl⟩, (List.forall_mem_cons.mpr ⟨⟨rfl, tb765, by decide, Or.inr ⟨rfl, tb763, tb764⟩, rfl⟩, (List.forall_mem_cons.mpr ⟨⟨rfl, tb929, by decide, Or.inr ⟨rfl, tb927, tb928⟩, rfl⟩, (List.forall_mem_cons.mpr ⟨⟨rfl, tb1002, by decide, Or.inr ⟨rfl, tb1000, tb1001⟩, rfl⟩, (List.forall_mem_cons.mpr ⟨⟨rfl, tb773, by decide, Or.inr ⟨rfl, tb771, tb772⟩, rfl⟩, (List.forall_mem_cons.mpr ⟨⟨rfl, tb1096, by decide, Or.inr ⟨rfl, tb1094, tb1095⟩, rfl⟩, (List.forall_mem_cons.mpr ⟨⟨rfl, tb1174, by decide, Or.inl ⟨rfl, tb1173⟩, rfl⟩, (List.forall_mem_cons.mpr ⟨⟨rfl, tb940, by decide, Or.inr ⟨rfl, tb938, tb939⟩, rfl⟩, (List.forall_mem_cons.mpr ⟨⟨rfl, tb1025, by decide, Or.inr ⟨rfl, tb1024, tv26⟩, rfl⟩, (List.forall_mem_cons.mpr ⟨⟨rfl, tb833, by decide, Or.inr ⟨rfl, tb831, tb832⟩, rfl⟩, (List.forall_mem_cons.mpr ⟨⟨rfl, tb934, by decide, Or.inr ⟨rfl, tb932, tb933⟩, rfl⟩, (List.forall_mem_cons.mpr ⟨⟨rfl, tb769, by decide, Or.inr ⟨rfl, tb767, tb768⟩, rfl⟩, (List.forall_mem_cons.mpr ⟨⟨rfl, tb461, by decide, Or.inr ⟨rfl, tb459, tb460⟩, rfl⟩, (List.forall_mem_cons.mpr ⟨⟨rfl, tb905, by decide, Or.inr ⟨rfl, tb903, tb904⟩, rfl⟩, (List.forall_mem_cons.mpr ⟨⟨rfl, tb1016, by decide, Or.inr ⟨rfl, tb1014, tb1015⟩, rfl⟩, (List.forall_mem_cons.mpr ⟨⟨rfl, tb1059, by decide, Or.inr ⟨rfl, tb1057, tb1058⟩, rfl⟩, (List.forall_mem_nil _)⟩)⟩)⟩)⟩)⟩)⟩)⟩)⟩)⟩)⟩)⟩)⟩)⟩)⟩)⟩)⟩)⟩)⟩)⟩)⟩)⟩)⟩)⟩)⟩)⟩)⟩)⟩)⟩)⟩)⟩)⟩)⟩)⟩)⟩)⟩)⟩)⟩)⟩)⟩)⟩)⟩)⟩)
theorem mtX10_in : Cond.initialized RX10 ∈ gw := tb1
theorem mtX11_ok : ∀ e ∈ mtX11, pm_eOK RX11 lkX11 e := (List.forall_mem_cons.mpr ⟨⟨rfl, tb1689, by decide, Or.inr ⟨rfl, tb1688, tv82⟩, rfl⟩, (List.forall_mem_cons.mpr ⟨⟨rfl, tb1588, by decide, Or.inr ⟨rfl, tb1587, tv65⟩, rfl⟩, (List.forall_mem_cons.mpr ⟨⟨rfl, tb1778, by decide, Or.inr ⟨rfl, tb1776, tb1777⟩, rfl⟩, (List.forall_mem_cons.mpr ⟨⟨rfl, tb1845, by decide, Or.inl ⟨rfl, tb1844⟩, rfl⟩, (List.forall_mem_cons.mpr ⟨⟨rfl, tb1889, by decide, Or.inr ⟨rfl, tb1887, tb1888⟩, rfl⟩, (List.forall_mem_cons.mpr ⟨⟨rfl, tb1726, by decide, Or.inl ⟨rfl, tb1725⟩, rfl⟩, (List.forall_mem_cons.mpr ⟨⟨rfl, tb1707, by decide, Or.inl ⟨rfl, tb1706⟩, rfl⟩, (List.forall_mem_cons.mpr ⟨⟨rfl, tb1730, by decide, Or.inr ⟨rfl, tb1728, tb1729⟩, rfl⟩, (List.forall_mem_cons.mpr ⟨⟨rfl, tb1738, by decide, Or.inr ⟨rfl, tb1737, tv91⟩, rfl⟩, (List.forall_mem_cons.mpr ⟨⟨rfl, tb1734, by decide, Or.inr ⟨rfl, tb1733, tv90⟩, rfl⟩, (List.forall_mem_cons.mpr ⟨⟨rfl, tb1754, by decide, Or.inr ⟨rfl, tb1753, tv93⟩, rfl⟩, (List.forall_mem_cons.mpr ⟨⟨rfl, tb1746, by decide, Or.inr ⟨rfl, tb1745, tv92⟩, rfl⟩, (List.forall_mem_cons.mpr ⟨⟨rfl, tb1818, by decide, Or.inr ⟨rfl, tb1817, tv100⟩, rfl⟩, (List.forall_mem_cons.mpr ⟨⟨rfl, tb1685, by decide, Or.inr ⟨rfl, tb1684, tv81⟩, rfl⟩, (List.forall_mem_cons.mpr ⟨⟨rfl, tb1758, by decide, Or.inr ⟨rfl, tb1757, tv94⟩, rfl⟩, (List.forall_mem_cons.mpr ⟨⟨rfl, tb1750, by decide, Or.inr ⟨rfl, tb1748, tb1749⟩, rfl⟩, (List.forall_mem_cons.mpr ⟨⟨rfl, tb1640, by decide, Or.inr ⟨rfl, tb1639, tv73⟩, rfl⟩, (List.forall_mem_cons.mpr ⟨⟨rfl, tb1511, by decide, Or.inr ⟨rfl, tb1510, tv48⟩, rfl⟩, (List.forall_mem_cons.mpr ⟨⟨rfl, tb1696, by decide, Or.inl ⟨rfl, tb1695⟩, rfl⟩, (List.forall_mem_cons.mpr ⟨⟨rfl, tb1656, by decide, Or.inr ⟨rfl, tb1654, tb1655⟩, rfl⟩, (List.forall_mem_cons.mpr ⟨⟨rfl, tb1917, by decide, Or.inr ⟨rfl, tb1915, tb1916⟩, rfl⟩, (List.forall_mem_cons.mpr ⟨⟨rfl, tb1669, by decide, Or.inr ⟨rfl, tb1667, tb1668⟩, rfl⟩, (List.forall_mem_cons.mpr ⟨⟨rfl, tb1673, by decide, Or.inr ⟨rfl, tb1672, tv79⟩, rfl⟩, (List.forall_mem_cons.mpr ⟨⟨rfl, tb1901, by decide, Or.inr ⟨rfl, tb1900, tv112⟩, rfl⟩, (List.forall_mem_cons.mpr ⟨⟨rfl, tb1563, by decide, Or.inr ⟨rfl, tb1562, tv61⟩, rfl⟩, (List.forall_mem_cons.mpr ⟨⟨rfl, tb1445, by decide, Or.inr ⟨rfl, tb1444, tv39⟩, rfl⟩, (List.forall_mem_cons.mpr ⟨⟨rfl, tb1409, by decide, Or.inr ⟨rfl, tb1407, tb1408⟩, rfl⟩, (List.forall_mem_cons.mpr ⟨⟨rfl, tb1830, by decide, Or.inr ⟨rfl, tb1829, tv103⟩, rfl⟩, (List.forall_mem_cons.mpr ⟨⟨rfl, tb1802, by decide, Or.inr ⟨rfl, tb1800, tb1801⟩, rfl⟩, (List.forall_mem_cons.mpr ⟨⟨rfl, tb1608, by decide, Or.inr ⟨rfl, tb1606, tb1607⟩, rfl⟩, (List.forall_mem_cons.mpr ⟨⟨rfl, tb1527, by decide, Or.inr ⟨rfl, tb1526, tv52⟩, rfl⟩, (List.forall_mem_cons.mpr ⟨⟨rfl, tb1842, by decide, Or.inl ⟨rfl, tb1841⟩, rfl⟩, (List.forall_mem_cons.mpr ⟨⟨rfl, tb1584, by decide, Or.inr ⟨rfl, tb1583, tv64⟩, rfl⟩, (List.forall_mem_cons.mpr ⟨⟨rfl, tb1742, by decide, Or.inr ⟨rfl, tb1740, tb1741⟩, rfl⟩, (List.forall_mem_cons.mpr ⟨⟨rfl, tb1774, by decide, Or.inr ⟨rfl, tb1773, tv95⟩, rfl⟩, (List.forall_mem_cons.mpr ⟨⟨rfl, tb1481, by decide, Or.inr ⟨rfl, tb1480, tv42⟩, rfl⟩, (List.forall_mem_cons.mpr ⟨⟨rfl, tb1806, by decide, Or.inr ⟨rfl, tb1805, tv98⟩, rfl⟩, (List.forall_mem_cons.mpr ⟨⟨rfl, tb1677, by decide, Or.inr ⟨rfl, tb1676, tv80⟩, rfl⟩, (List.forall_mem_cons.mpr ⟨⟨rfl, tb1835, by decide, Or.inr ⟨rfl, tb1834, tv104⟩, rfl⟩, (List.forall_mem_cons.mpr ⟨⟨rfl, tb1612, by decide, Or.inr ⟨rfl, tb1611, tv69⟩, rfl⟩, (List.forall_mem_cons.mpr ⟨⟨rfl, tb1794, by decide, Or.inr ⟨rfl, tb1793, tv97⟩, rfl⟩, (List.forall_mem_cons.mpr ⟨⟨rfl, tb1865, by decide, Or.inr ⟨rfl, tb1864, tv107⟩, rfl⟩, (List.forall_mem_cons.mpr ⟨⟨rfl, tb1453, by decide, Or.inr ⟨rfl, tb1452, tv41⟩, rfl⟩, (List.forall_mem_cons.mpr ⟨⟨rfl, tb1449, by decide, Or.inr ⟨rfl, tb1448, tv40⟩, rfl⟩, (List.forall_mem_cons.mpr ⟨⟨rfl, tb1620, by decide, Or.inr ⟨rfl, tb1619, tv70⟩, rfl⟩, (List.forall_mem_cons.mpr ⟨⟨rfl, tb1660, by decide, Or.inr ⟨rfl, tb1659, tv77⟩, rfl⟩, (List.forall_mem_cons.mpr ⟨⟨rfl, tb1872, by decide, Or.inl ⟨rfl, tb1871⟩, rfl⟩, (List.forall_mem_cons.mpr ⟨⟨rfl, tb1515, by decide, Or.inr ⟨rfl, tb1514, tv49⟩, rfl⟩, (List.forall_mem_cons.mpr ⟨⟨rfl, tb1628, by decide, Or.inr ⟨rfl, tb1627, tv71⟩, rfl⟩, (List.forall_mem_cons.mpr ⟨⟨rfl, tb1551, by decide, Or.inr ⟨rfl, tb1550, tv58⟩, rfl⟩, (List.forall_mem_cons.mpr ⟨⟨rfl, tb1853, by decide, Or.inr ⟨rfl, tb1852, tv105⟩, rfl⟩, (List.forall_mem_cons.mpr ⟨⟨rfl, tb1437, by decide, Or.inr ⟨rfl, tb1436, tv37⟩, rfl⟩, (List.forall_mem_cons.mpr ⟨⟨rfl, tb1770, by decide, Or.inr ⟨rfl, tb1768, tb1769⟩, rfl⟩, (List.forall_mem_cons.mpr ⟨⟨rfl, tb1693, by decide, Or.inr ⟨rfl, tb1692, tv83⟩, rfl⟩, (List.forall_mem_cons.mpr ⟨⟨rfl, tb1574, by decide, Or.inr ⟨rfl, tb1573, tv63⟩, rfl⟩, (List.forall_mem_cons.mpr ⟨⟨rfl, tb1604, by decide, Or.inr ⟨rfl, tb1603, tv68⟩, rfl⟩, (List.forall_mem_cons.mpr ⟨⟨rfl, tb1880, by decide, Or.inr ⟨rfl, tb1879, tv109⟩, rfl⟩, (List.forall_mem_cons.mpr ⟨⟨rfl, tb1913, by decide, Or.inr ⟨rfl, tb1912, tv113⟩, rfl⟩, (List.forall_mem_cons.mpr ⟨⟨rfl, tb1814, by decide, Or.inr ⟨rfl, tb1813, tv99⟩, rfl⟩, (List.forall_mem_cons.mpr ⟨⟨rfl, tb1665, by decide, Or.inr ⟨rfl, tb1664, tv78⟩, rfl⟩, (List.forall_mem_cons.mpr ⟨⟨rfl, tb1876, by decide, Or.inr ⟨rfl, tb1874, tb1875⟩, rfl⟩, (List.forall_mem_cons.mpr ⟨⟨rfl, tb1885, by decide, Or.inr ⟨rfl, tb1884, tv110⟩, rfl⟩, (List.forall_mem_cons.mpr ⟨⟨rfl, tb1897, by decide, Or.inr ⟨rfl, tb1896, tv111⟩, rfl⟩, (List.forall_mem_cons.mpr ⟨⟨rfl, tb1644, by decide, Or.inr ⟨rfl, tb1643, tv74⟩, rfl⟩, (List.forall_mem_cons.mpr ⟨⟨rfl, tb1909, by decide, Or.inr ⟨rfl, tb1907, tb1908⟩, rfl⟩, (List.forall_mem_cons.mpr ⟨⟨rfl, tb1577, by decide, Or.inl ⟨rfl, tb1576⟩, rfl⟩, (List.forall_mem_cons.mpr ⟨⟨rfl, tb1580, by decide, Or.inl ⟨rfl, tb1579⟩, rfl⟩, (List.forall_mem_cons.mpr ⟨⟨rfl, tb1484, by decide, Or.inl ⟨rfl, tb1483⟩, rfl⟩, (List.forall_mem_cons.mpr ⟨⟨rfl, tb1496, by decide, Or.inr ⟨rfl, tb1495, tv45⟩, rfl⟩, (List.forall_mem_cons.mpr ⟨⟨rfl, tb1600, by decide, Or.inr ⟨rfl, tb1599, tv67⟩, rfl⟩, (List.forall_mem_cons.mpr ⟨⟨rfl, tb1504, by decide, Or.inr ⟨rfl, tb1503, tv47⟩, rfl⟩, (List.forall_mem_cons.mpr ⟨⟨rfl, tb1535, by decide, Or.inr ⟨rfl, tb1534, tv54⟩, rfl⟩, (List.forall_mem_cons.mpr ⟨⟨rfl, tb1523, by decide, Or.inr ⟨rfl, tb1522, tv51⟩, rfl⟩, (List.forall_mem_cons.mpr ⟨⟨rfl, tb1500, by decide, Or.inr ⟨rfl, tb1499, tv46⟩, rfl⟩, (List.forall_mem_cons.mpr ⟨⟨rfl, tb1426, by decide, Or.inr ⟨rfl, tb1425, tv35⟩, rfl⟩, (List.forall_mem_cons.mpr ⟨⟨rfl, tb1762, by decide, Or.inr ⟨rfl, tb1760, tb1761⟩, rfl⟩, (List.forall_mem_cons.mpr ⟨⟨rfl, tb1592, by decide, Or.inr ⟨rfl, tb1590, tb1591⟩, rfl⟩, (List.forall_mem_cons.mpr ⟨⟨rfl, tb1715, by decide, Or.inr ⟨rfl, tb1714, tv87⟩, rfl⟩, (List.forall_mem_cons.mpr ⟨⟨rfl, tb1810, by decide, Or.inr ⟨rfl, tb1808, tb1809⟩, rfl⟩, (List.forall_mem_cons.mpr ⟨⟨rfl, tb1826, by decide, Or.inr ⟨rfl, tb1825, tv102⟩, rfl⟩, (List.forall_mem_cons.mpr ⟨⟨rfl, tb1616, by decide, Or.inr ⟨rfl, tb1614, tb1615⟩, rfl⟩, (List.forall_mem_cons.mpr ⟨⟨rfl, tb1492, by decide, Or.inr ⟨rfl, tb1491, tv44⟩, rfl⟩, (List.forall_mem_cons.mpr ⟨⟨rfl, tb1782, by decide, Or.inr ⟨rfl, tb1780, tb1781⟩, rfl⟩, (List.forall_mem_cons.mpr ⟨⟨rfl, tb1839, by decide, Or.inr ⟨rfl, tb1837, tb1838⟩, rfl⟩, (List.forall_mem_cons.mpr ⟨⟨rfl, tb1704, by decide, Or.inr ⟨rfl, tb1703, tv85⟩, rfl⟩, (List.forall_mem_cons.mpr ⟨⟨rfl, tb1570, by decide, Or.inr ⟨rfl, tb1569, tv62⟩, rfl⟩, (List.forall_mem_cons.mpr ⟨⟨rfl, tb1632, by decide, Or.inr ⟨rfl, tb1630, tb1631⟩, rfl⟩, (List.forall_mem_cons.mpr ⟨⟨rfl, tb1636, by decide, Or.inr ⟨rfl, tb1635, tv72⟩, rfl⟩, (List.forall_mem_cons.mpr ⟨⟨rfl, tb1559, by decide, Or.inr ⟨rfl, tb1558, tv60⟩, rfl⟩, (List.forall_mem_cons.mpr ⟨⟨rfl, tb1418, by decide, Or.inr ⟨rfl, tb1417, tv33⟩, rfl⟩, (List.forall_mem_cons.mpr ⟨⟨rfl, tb1519, by decide, Or.inr ⟨rfl, tb1518, tv50⟩, rfl⟩, (List.forall_mem_cons.mpr ⟨⟨rfl, tb1543, by decide, Or.inr ⟨rfl, tb1542, tv56⟩, rfl⟩, (List.forall_mem_cons.mpr ⟨⟨rfl, tb1441, by decide, Or.inr ⟨rfl, tb1440, tv38⟩, rfl⟩, (List.forall_mem_cons.mpr ⟨⟨rfl, tb1596, by decide, Or.inr ⟨rfl, tb1595, tv66⟩, rfl⟩, (List.forall_mem_cons.mpr ⟨⟨rfl, tb1547, by decide, Or.inr ⟨rfl, tb1546, tv57⟩, rfl⟩, (List.forall_mem_cons.mpr ⟨⟨rfl, tb1539, by decide, Or.inr ⟨rfl, tb1538, tv55⟩, rfl⟩, (List.forall_mem_cons.mpr ⟨⟨rfl, tb1555, by decide, Or.inr ⟨rfl, tb1554, tv59⟩, rfl⟩, (List.forall_mem_cons.mpr ⟨⟨rfl, tb1531, by decide, Or.inr ⟨rfl, tb1530, tv53⟩, rfl⟩, (List.forall_mem_cons.mpr ⟨⟨rfl, tb1861, by decide, Or.inr ⟨rfl, tb1859, tb1860⟩, rfl⟩, (List.forall_mem_cons.mpr ⟨⟨rfl, tb1786, by decide, Or.inr ⟨rfl, tb1785, tv96⟩, rfl⟩, (List.forall_mem_cons.mpr ⟨⟨rfl, tb1798, by decide, Or.inr ⟨rfl, tb1796, tb1797⟩, rfl⟩, (List.forall_mem_cons.mpr ⟨⟨rfl, tb1822, by decide, Or.inr ⟨rfl, tb1821, tv101⟩, rfl⟩, (List.forall_mem_cons.mpr ⟨⟨rfl, tb1430, by decide, Or.inr ⟨rfl, tb1429, tv36⟩, rfl⟩, (List.forall_mem_cons.mpr ⟨⟨rfl, tb1648, by decide, Or.inr ⟨rfl, tb1647, tv75⟩, rfl⟩, (List.forall_mem_cons.mpr ⟨⟨rfl, tb1422, by decide, Or.inr ⟨rfl, tb1421, tv34⟩, rfl⟩, (List.forall_mem_cons.mpr ⟨⟨rfl, tb1681, by decide, Or.inr ⟨rfl, tb1679, tb1680⟩, rfl⟩, (List.forall_mem_cons.mpr ⟨⟨rfl, tb1700, by decide, Or.inr ⟨rfl, tb1699, tv84⟩, rfl⟩, (List.forall_mem_cons.mpr ⟨⟨rfl, tb1652, by decide, Or.inr ⟨rfl, tb1651, tv76⟩, rfl⟩, (List.forall_mem_cons.mpr ⟨⟨rfl, tb1719, by decide, Or.inr ⟨rfl, tb1718, tv88⟩, rfl⟩, (List.forall_mem_cons.mpr ⟨⟨rfl, tb1723, by decide, Or.inr ⟨rfl, tb1722, tv89⟩, rfl⟩, (List.forall_mem_cons.mpr ⟨⟨rfl, tb1790, by decide, Or.inr ⟨rfl, tb1788, tb1789⟩, rfl⟩, (List.forall_mem_cons.mpr ⟨⟨rfl, tb1624, by decide, Or.inr ⟨rfl, tb1622, tb1623⟩, rfl⟩, (List.forall_mem_cons.mpr ⟨⟨rfl, tb1488, by decide, Or.inr ⟨rfl, tb1487, tv43⟩, rfl⟩, (List.forall_mem_cons.mpr ⟨⟨rfl, tb1414, by decide, Or.inr ⟨rfl, tb1412, tb1413⟩, rfl⟩, (List.forall_mem_cons.mpr ⟨⟨rfl, tb1766, by decide, Or.inr ⟨rfl, tb1764, tb1765⟩, rfl⟩, (List.forall_mem_cons.mpr ⟨⟨rfl, tb1849, by decide, Or.inr ⟨rfl, tb1847, tb1848⟩, rfl⟩, (List.forall_mem_cons.mpr ⟨⟨rfl, tb1857, by decide, Or.inr ⟨rfl, tb1856, tv106⟩, rfl⟩, (List.forall_mem_cons.mpr ⟨⟨rfl, tb1507, by decide, Or.inl ⟨rfl, tb1506⟩, rfl⟩, (List.forall_mem_cons.mpr ⟨⟨rfl, tb1711, by decide, Or.inr ⟨rfl, tb1710, tv86⟩, rfl⟩, (List.forall_mem_cons.mpr ⟨⟨rfl, tb1869, by decide, Or.inr ⟨rfl, tb1868, tv108⟩, rfl⟩, (List.forall_mem_cons.mpr ⟨⟨rfl, tb1893, by decide, Or.inr ⟨rfl, tb1891, tb1892⟩, rfl⟩, (List.forall_mem_nil _)⟩)⟩)⟩)⟩)⟩)⟩)⟩)⟩)⟩)⟩)⟩)⟩)⟩)⟩)⟩)⟩)⟩)⟩)⟩)⟩)⟩)⟩)⟩)⟩)⟩)⟩)⟩)⟩)⟩)⟩)⟩)⟩)⟩)⟩)⟩)⟩)⟩)⟩)⟩)⟩)⟩)⟩)⟩)⟩)⟩)⟩)⟩)⟩)⟩)⟩)⟩)⟩)⟩)⟩)⟩)⟩)⟩)⟩)⟩)⟩)⟩)⟩)⟩)⟩)⟩)⟩)⟩)⟩)⟩)⟩)⟩)⟩)⟩)⟩)⟩)⟩)⟩)⟩)⟩)⟩)⟩)⟩)⟩)⟩)⟩)⟩)⟩)⟩)⟩)⟩)⟩)⟩)⟩)⟩)⟩)⟩)⟩)⟩)⟩)⟩)⟩)⟩)⟩)⟩)⟩)⟩)⟩)⟩)⟩)⟩)⟩)⟩)⟩)⟩)⟩)⟩)⟩)⟩)⟩)⟩)⟩)
theorem mtX11_in : Cond.initialized RX11 ∈ gw := tb17
theorem mtJ6_ok : ∀ e ∈ mtJ6, pm_eOK RJ6 lkJ6 e := (List.forall_mem_cons.mpr ⟨⟨rfl, tb854, by decide, Or.inl ⟨rfl, tb853⟩, rfl⟩, (List.forall_mem_nil _)⟩)
theorem mtJ6_in : Cond.initialized RJ6 ∈ gw := tb21
theorem mtJ7_ok : ∀ e ∈ mtJ7, pm_eOK RJ7 lkJ7 e := (List.forall_mem_cons.mpr ⟨⟨rfl, tb199, by decide, Or.inl ⟨rfl, tb198⟩, rfl⟩, (List.forall_mem_cons.mpr ⟨⟨rfl, tb202, by decide, Or.inl ⟨rfl, tb201⟩, rfl⟩, (List.forall_mem_nil _)⟩)⟩)
theorem mtJ7_in : Cond.initialized RJ7 ∈ gw := tb11
theorem mtA_ok : ∀ (c : Nat) (e : Me), e ∈ mtA c → pm_mOK mtb e := fun c e h => by
  unfold mtA at h
  split at h
  · exact pm_mOK.of lkX0_ok lmX0_ok mtX0_in (by decide) ⟨by decide, by decide⟩ (mtX0_ok e h)
  · exact pm_mOK.of lkX1_ok lmX1_ok mtX1_in (by decide) ⟨by decide, by decide⟩ (mtX1_ok e h)
  · exact pm_mOK.of lkX2_ok lmX2_ok mtX2_in (by decide) ⟨by decide, by decide⟩ (mtX2_ok e h)
  · exact pm_mOK.of lkX3_ok lmX3_ok mtX3_in (by decide) ⟨by decide, by decide⟩ (mtX3_ok e h)
  · exact pm_mOK.of lkX4_ok lmX4_ok mtX4_in (by decide) ⟨by decide, by decide⟩ (mtX4_ok e h)
  · exact pm_mOK.of lkX5_ok lmX5_ok mtX5_in (by decide) ⟨by decide, by decide⟩ (mtX5_ok e h)
  · exact pm_mOK.of lkX6_ok lmX6_ok mtX6_in (by decide) ⟨by decide, by decide⟩ (mtX6_ok e h)
  · exact pm_mOK.of lkX7_ok lmX7_ok mtX7_in (by decide) ⟨by decide, by decide⟩ (mtX7_ok e h)
  · exact pm_mOK.of lkX8_ok lmX8_ok mtX8_in (by decide) ⟨by decide, by decide⟩ (mtX8_ok e h)
  · exact pm_mOK.of lkX9_ok lmX9_ok mtX9_in (by decide) ⟨by decide, by decide⟩ (mtX9_ok e h)
  · exact pm_mOK.of lkX10_ok lmX10_ok mtX10_in (by decide) ⟨by decide, by decide⟩ (mtX10_ok e h)
  · exact pm_mOK.of lkX11_ok lmX11_ok mtX11_in (by decide) ⟨by decide, by decide⟩ (mtX11_ok e h)
  · exact pm_mOK.of lkJ6_ok lmJ6_ok mtJ6_in (by decide) ⟨by decide, by decide⟩ (mtJ6_ok e h)
  · exact pm_mOK.of lkJ7_ok lmJ7_ok mtJ7_in (by decide) ⟨by decide, by decide⟩ (mtJ7_ok e h)
  · cases h
theorem mtb_ok : pm_okM mtb := fun k me h => mtA_ok _ me (List.mem_of_getElem? h)
