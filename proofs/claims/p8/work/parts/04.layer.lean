/-! my own layer over the kit: one word list for all methods, one list of array kinds, one ambient (statics, texts) -/
abbrev aTys (aC : Nat → ClassId) : List (ClassId × FieldType) := [(aC 0, .int), (aC 1, .long), (aC 2, .char), (aC 3, .boolean), (aC 4, .object "StairGang$State"), (aC 5, .object "StairGang$Said"), (aC 6, .array .int)]
/-- the words of the tables that stay true as the machine warms -/
def gw : List Cond := lw_tbl.filter goodWord
def uw (y : MethodName) (cc : ByteArray) (n : Nat) (ret : Option FieldType) : List Cond := .code y cc n ret :: gw
theorem lw_good : gw.all goodWord = true := List.all_eq_true.mpr (fun _ h => (List.mem_filter.mp h).2)
theorem lw_m (i : Nat) {w : Cond} (h : tables_1[i]? = some w) (hg : goodWord w = true := by rfl) : w ∈ gw := List.mem_filter.mpr ⟨List.mem_append_right _ (List.mem_of_getElem? h), hg⟩
theorem lw_m1 (i : Nat) {w : Cond} (h : tables_1_1[i]? = some w) (hg : goodWord w = true := by rfl) : w ∈ gw := List.mem_filter.mpr ⟨List.mem_append_right _ (lw_t1 (List.mem_of_getElem? h)), hg⟩
theorem lw_m2 (i : Nat) {w : Cond} (h : tables_1_2[i]? = some w) (hg : goodWord w = true := by rfl) : w ∈ gw := List.mem_filter.mpr ⟨List.mem_append_right _ (lw_t2 (List.mem_of_getElem? h)), hg⟩
theorem lw_m3 (i : Nat) {w : Cond} (h : tables_1_3[i]? = some w) (hg : goodWord w = true := by rfl) : w ∈ gw := List.mem_filter.mpr ⟨List.mem_append_right _ (lw_t3 (List.mem_of_getElem? h)), hg⟩
theorem lw_m4 (i : Nat) {w : Cond} (h : tables_1_4[i]? = some w) (hg : goodWord w = true := by rfl) : w ∈ gw := List.mem_filter.mpr ⟨List.mem_append_right _ (lw_t4 (List.mem_of_getElem? h)), hg⟩
theorem lw_m5 (i : Nat) {w : Cond} (h : tables_1_5[i]? = some w) (hg : goodWord w = true := by rfl) : w ∈ gw := List.mem_filter.mpr ⟨List.mem_append_right _ (lw_t5 (List.mem_of_getElem? h)), hg⟩
theorem lw_m6 (i : Nat) {w : Cond} (h : tables_1_6[i]? = some w) (hg : goodWord w = true := by rfl) : w ∈ gw := List.mem_filter.mpr ⟨List.mem_append_right _ (lw_t6 (List.mem_of_getElem? h)), hg⟩
theorem lw_m7 (i : Nat) {w : Cond} (h : tables_1_7[i]? = some w) (hg : goodWord w = true := by rfl) : w ∈ gw := List.mem_filter.mpr ⟨List.mem_append_right _ (lw_t7 (List.mem_of_getElem? h)), hg⟩
theorem lw_m8 (i : Nat) {w : Cond} (h : tables_1_8[i]? = some w) (hg : goodWord w = true := by rfl) : w ∈ gw := List.mem_filter.mpr ⟨List.mem_append_right _ (lw_t8 (List.mem_of_getElem? h)), hg⟩
theorem lw_m9 (i : Nat) {w : Cond} (h : tables_1_9[i]? = some w) (hg : goodWord w = true := by rfl) : w ∈ gw := List.mem_filter.mpr ⟨List.mem_append_right _ (lw_t9 (List.mem_of_getElem? h)), hg⟩
theorem lw_v (i : Nat) {w : Cond} (h : (k2_sels lw_privs)[i]? = some w) (hg : goodWord w = true := by rfl) : w ∈ gw := List.mem_filter.mpr ⟨List.mem_append_left _ (List.mem_of_getElem? h), hg⟩
theorem uw_good {y : MethodName} {cc : ByteArray} {n : Nat} {ret : Option FieldType} (h : Cond.code y cc n ret ∈ gw) : GoodIn gw (uw y cc n ret) := fun w hw => by
  have hm : w ∈ gw := by
    rcases List.mem_cons.mp hw with e | h2
    · rw [e]; exact h
    · exact h2
  exact ⟨hm, good_of_word (List.all_eq_true.mp lw_good w hm)⟩
def moF : Nat → Int32 := fun j => match j with
  | 0 => 5
  | 1 => 10
  | 2 => 4
  | 3 => 5
  | _ => 4
def stO : Nat → String := fun i => if i < 4 then RX7 else RX10
def stI : Nat → Nat := fun i => match i with
  | 0 => 19
  | 1 => 25
  | 2 => 27
  | 3 => 76
  | 4 => 273
  | _ => 285
def stT : Nat → String := fun i => match i with
  | 0 => "house floors flight rise odds thing lifts at person reach throws wants hill pays heap walk price "
  | 1 => "steal build go carry night not and or "
  | 2 => "high nights gone "
  | 3 => "()<=+-*;"
  | 4 => "no such HILLS, or no such flight"
  | _ => "no such bids"
def stL : List Nat := [97, 38, 17, 8, 32, 12]
def stB : List (List Int32) := [[104, 111, 117, 115, 101, 32, 102, 108, 111, 111, 114, 115, 32, 102, 108, 105, 103, 104, 116, 32, 114, 105, 115, 101, 32, 111, 100, 100, 115, 32, 116, 104, 105, 110, 103, 32, 108, 105, 102, 116, 115, 32, 97, 116, 32, 112, 101, 114, 115, 111, 110, 32, 114, 101, 97, 99, 104, 32, 116, 104, 114, 111, 119, 115, 32, 119, 97, 110, 116, 115, 32, 104, 105, 108, 108, 32, 112, 97, 121, 115, 32, 104, 101, 97, 112, 32, 119, 97, 108, 107, 32, 112, 114, 105, 99, 101, 32], [115, 116, 101, 97, 108, 32, 98, 117, 105, 108, 100, 32, 103, 111, 32, 99, 97, 114, 114, 121, 32, 110, 105, 103, 104, 116, 32, 110, 111, 116, 32, 97, 110, 100, 32, 111, 114, 32], [104, 105, 103, 104, 32, 110, 105, 103, 104, 116, 115, 32, 103, 111, 110, 101, 32], [40, 41, 60, 61, 43, 45, 42, 59], [110, 111, 32, 115, 117, 99, 104, 32, 72, 73, 76, 76, 83, 44, 32, 111, 114, 32, 110, 111, 32, 115, 117, 99, 104, 32, 102, 108, 105, 103, 104, 116], [110, 111, 32, 115, 117, 99, 104, 32, 98, 105, 100, 115]]
def nsM : List (String × Nat × MethodName) := [(RX8, 34, yX4_init), (RX10, 44, yX6_init), (RX10, 54, yX5_init), (RX1, 15, yX6_init), (RX10, 83, yX3_init), (RX10, 90, yX0_init)]
def nsF : List (String × Nat) := [(RX8, 9), (RX6, 9)]
theorem va_AOA.spec {t : FieldType} {s : State} (h : va_AOA t s) : ∃ comp c k, s.vm.findClass (FieldType.array t).toString = some comp ∧ (s.vm.classes.findIdx? fun (x : Class) => match x.kind with | .array component _ => component == comp | _ => false) = some c ∧ s.vm.classes[c]? = some k ∧ k.kind = .array comp (.array t) ∧ s.vm.findClass ("[" ++ (FieldType.array t).toString) = some c := by
  unfold va_AOA Cond.before at h
  simp only [Cond.holds, Cond.value, beq_iff_eq] at h
  cases hc : s.vm.findClass (FieldType.array t).toString with
  | none => simp [hc] at h
  | some comp =>
    simp only [hc, Option.bind_some, Option.bind_eq_some_iff, Option.map_eq_some_iff] at h
    obtain ⟨c, hi, k, hk, hb⟩ := h
    obtain ⟨hlt, hp, -⟩ := Array.findIdx?_eq_some_iff_getElem.mp hi
    have hkk : s.vm.classes[c] = k := (Array.getElem?_eq_some_iff.mp hk).2
    rw [hkk] at hp
    cases hkind : k.kind with
    | array component ty =>
      rw [hkind] at hb hp
      simp at hb hp
      exact ⟨comp, c, k, rfl, hi, hk, by rw [hkind, hp, hb.1], hb.2⟩
    | _ => rw [hkind] at hb; simp at hb
theorem va_AOA.moved {ty : FieldType} {u U : State} (hvm : u.vm.Alike U.vm) (h : va_AOA ty u) : va_AOA ty U := by
  obtain ⟨comp, c, k, h1, h2, h3, h4, h5⟩ := va_AOA.spec h
  obtain ⟨k', hk', he⟩ := hvm.2.2 _ _ h3
  have hi : (U.vm.classes.findIdx? fun (x : Class) => match x.kind with | .array component _ => component == comp | _ => false) = some c := by
    have e1 := va_idx_bare U.vm comp
    have e2 := va_idx_bare u.vm comp
    first | rw [hvm.bare_eq] at e2 | rw [← hvm.bare_eq] at e2
    exact (e1.symm.trans e2).trans h2
  have hkind : k'.kind = .array comp (.array ty) := by rw [he]; exact h4
  have f1 : U.vm.findClass (FieldType.array ty).toString = some comp := by rw [hvm.findClass]; exact h1
  have f2 : U.vm.findClass ("[" ++ (FieldType.array ty).toString) = some c := by rw [hvm.findClass]; exact h5
  unfold va_AOA Cond.before Cond.holds
  simp only [Cond.value]
  rw [f1, Option.bind_some]
  refine (congrArg (fun o : Option Nat => (o.bind (fun c => (U.vm.classes[c]?).map fun (k : Class) => match k.kind with | .array _ ty' => decide (ty' = FieldType.array ty) && decide (U.vm.findClass ("[" ++ (FieldType.array ty).toString) = some c) | _ => false) == some true)) hi).trans ?_
  simp [hk', hkind, f2]
/-- what stays as the machine warms: nest links, array classes over our own, where the texts lie -/
def Am2 (aM : Nat → Nat) (U : State) : Prop := (∀ q ∈ nsM, va_Nw (.methodLinkNest q.1 q.2.1 q.2.2 "StairGang") U) ∧ (∀ q ∈ nsF, va_Nw (.fieldLinkNest q.1 q.2 "StairGang" "MOST" "[I" "StairGang") U) ∧ va_AO "StairGang$State" U ∧ va_AO "StairGang$Said" U ∧ va_AOA .int U ∧ ∀ i, i < 6 → vk_R (stO i) (stI i) (stT i) (aM (1 + i)) U
theorem Am2.warm {aM : Nat → Nat} {s U : State} (hW : s.WarmedH U.vm) (h : Am2 aM s) : Am2 aM U := ⟨fun q hq => (h.1 q hq).warmM hW, fun q hq => (h.2.1 q hq).warmF hW, h.2.2.1.moved hW.alike, h.2.2.2.1.moved hW.alike, h.2.2.2.2.1.moved hW.alike, fun i hi => (h.2.2.2.2.2 i hi).warm hW⟩
theorem Am2.same {aM : Nat → Nat} {u U : State} (hv : U.vm = u.vm) (h : Am2 aM u) : Am2 aM U := ⟨fun q hq => va_Nw.same rfl hv.symm (h.1 q hq), fun q hq => va_Nw.same rfl hv.symm (h.2.1 q hq), va_AO.moved (hv ▸ Vm.Alike.refl _) h.2.2.1, va_AO.moved (hv ▸ Vm.Alike.refl _) h.2.2.2.1, va_AOA.moved (hv ▸ Vm.Alike.refl _) h.2.2.2.2.1, fun i hi => vk_R.same hv (h.2.2.2.2.2 i hi)⟩
def Amb (aM : Nat → Nat) (A : Nat → Prop) (U : State) (H : Heap) : Prop :=
  va_Z "StairGang" "MOST" "[I" (.ref (aM 0)) A U H ∧ va_T .int (aM 0) 5 (fun j => .int (moF j)) A U H ∧ va_Z "java/lang/String" "COMPACT_STRINGS" "Z" (.int 1) A U H ∧ vk_S 6 stL stB (fun i => aM (1 + i)) (fun i => aM (7 + i)) A U H ∧ va_Zq "jdk/internal/util/Preconditions" "SIOOBE_FORMATTER" "Ljava/util/function/BiFunction;" A U H
theorem Amb.moved {aM : Nat → Nat} {A : Nat → Prop} {u U : State} {H : Heap} (hv : u.vm.Alike U.vm) (h : Amb aM A u H) : Amb aM A U H := ⟨h.1.moved hv, h.2.1.moved hv, h.2.2.1.moved hv, h.2.2.2.1.moved hv, h.2.2.2.2.moved hv⟩
theorem Amb.kept {aM : Nat → Nat} {A : Nat → Prop} {U : State} {H H1 : Heap} (h : Amb aM A U H) (hq : ∀ a : Nat, a < H.size → ¬ A a → H1[a]? = H[a]?) : Amb aM A U H1 := ⟨h.1.kept hq, h.2.1.kept hq, h.2.2.1.kept hq, h.2.2.2.1.kept hq, h.2.2.2.2.kept hq⟩
theorem Amb.narrow {aM : Nat → Nat} {A B : Nat → Prop} {U : State} {H : Heap} (h : Amb aM A U H) (hAB : ∀ q, B q → A q) : Amb aM B U H := ⟨h.1.narrow hAB, h.2.1.narrow hAB, h.2.2.1.narrow hAB, h.2.2.2.1.narrow hAB, h.2.2.2.2.narrow hAB⟩
def rmL (k mc ms : Nat) : Room := { frames := k, cells := mc, slots := ms, locals := 60 * k }
def Pr (g : va_G) (aC : Nat → ClassId) (aM : Nat → Nat) (ws : va_W) (sz : Nat) (U : State) : Prop := U.heap.size = sz ∧ va_P g vwCl ws U.heap ∧ va_K g vwCl (aTys aC) U ∧ va_D (fun _ => True) ws ∧ Amb aM (va_A ws sz) U U.heap ∧ Am2 aM U
theorem Pr.blind {g : va_G} {aC : Nat → ClassId} {aM : Nat → Nat} {ws : va_W} {sz : Nat} {av : List Value} : FrameBlind (va_Pc av (Pr g aC aM ws sz)) := fun a U g' mk q => by
  obtain ⟨q0, q1, qP, qK, qD, qA, qB⟩ := q
  exact ⟨q0, q1, qP, va_K.moved (u := U) (U := U.calling g' mk a) (Vm.Alike.refl U.vm) qK, qD, Amb.moved (u := U) (U := U.calling g' mk a) (Vm.Alike.refl U.vm) qA, Am2.same (u := U) (U := U.calling g' mk a) rfl qB⟩
/-- a contract: the callee's cells ws, its arguments av, how it ends QQ (of the cells that it may write), cells and slots that it makes -/
def Ct (l : Launch) (g : va_G) (aC : Nat → ClassId) (aM : Nat → Nat) (y : MethodName) (cc : ByteArray) (n : Nat) (ret : Option FieldType) (lv : Nat) (av : List Value) (ws : va_W) (QQ : (Nat → Prop) → Array Value → State → Outcome → State → Prop) (mc ms : Nat) : Prop :=
  ∀ sz : Nat, Met l y (uw y cc n ret) (rmL lv mc ms) (va_Pc av (Pr g aC aM ws sz)) (QQ (va_A ws sz)) mc ms (va_A ws sz)
abbrev QI (g : va_G) {S : Type} (post : Int32 → S → Prop) (w1 : S → va_W) (A : Nat → Prop) : Array Value → State → Outcome → State → Prop := va_Qi post (fun u t => va_P g vwCl (w1 u) t.heap ∧ va_D A (w1 u)) A
abbrev QL (g : va_G) {S : Type} (post : Int64 → S → Prop) (w1 : S → va_W) (A : Nat → Prop) : Array Value → State → Outcome → State → Prop := va_Ql post (fun u t => va_P g vwCl (w1 u) t.heap ∧ va_D A (w1 u)) A
abbrev QV (g : va_G) {S : Type} (post : S → Prop) (w1 : S → va_W) (A : Nat → Prop) : Array Value → State → Outcome → State → Prop := va_Qv post (fun u t => va_P g vwCl (w1 u) t.heap ∧ va_D A (w1 u)) A
set_option maxHeartbeats 1000000 in
theorem Ct.mk {l : Launch} {g : va_G} {aC : Nat → ClassId} {aM : Nat → Nat} {y : MethodName} {cc : ByteArray} {n : Nat} {ret : Option FieldType} {lv : Nat} {av : List Value} {ws : va_W} {QQ : (Nat → Prop) → Array Value → State → Outcome → State → Prop} {mc ms : Nat} (hy : plainName y.cls = true) (hn : (lg_sl av).length ≤ n)
    (body : ∀ (p : Program) (e : Env) (s : State) (m : MethodId) (below : List Frame) (meth : Method) (c : Code) (A : Nat → Prop) (ls : Array Slot), p.tables.exec = Jvm.exec → c.code = cc → c.maxLocals = n → s.vm.findClass y.cls = some m.cls → (∀ w ∈ gw, w.before av.toArray s = true) → meth.sig.returnType = ret → meth.locks = false → meth.name = y.name →
      va_K g vwCl (aTys aC) s → (∀ q, s.heap.size ≤ q → A q) → Amb aM A s s.heap → Am2 aM s → va_P g vwCl ws s.heap → va_D A ws → va_S A s.heap s.heap [] → lv_has ls n (lv_args 0 av) →
      W p l e (rmL lv mc ms) s m av.toArray below meth c s.heap [] 0 0 (MQ below (QQ A) av.toArray s mc ms A) (F0 m 0 ls [])) : Ct l g aC aM y cc n ret lv av ws QQ mc ms := by
  intro sz
  refine Met.ofW (cc := cc) (maxL := n) (ret := ret) hy rfl ?_
  intro p e s m args below meth c s₁ B hml hv
  obtain ⟨rfl, hsz, hP, hK, hD0, hM, hM2⟩ := hv
  have hts := atoms_spec (ws := uw y cc n ret) B.pre
  subst hsz
  have hl := lv_entry av (n := n) hn
  rw [lg_entry_eq]
  exact body p e s m below meth c (va_A ws s.heap.size) _ B.exec B.bytes hml (findClass_of_methodNamed B.named) (fun w h => hts w (List.mem_cons_of_mem _ h)) B.returns B.notSynchronized (name_of_methodNamed B.named B.method).1 hK (fun q h => Or.inr h) hM hM2 hP hD0.self va_S.rf hl
section Lay
variable {p : Program} {l : Launch} {e : Env} {R : Room} {s : State} {m : MethodId} {args : Array Value} {below : List Frame} {meth : Method} {c : Code} {H : Heap} {locs : List Loc} {cells slots : Nat} {Q : State → Prop}
variable {cc : ByteArray} {pc : Nat} {ls : Array Slot} {rest st0 : List Value} {g : va_G} {aC : Nat → ClassId} {aM : Nat → Nat} {A : Nat → Prop}
theorem relit {x v : Int32} (h : x = v) (k : W p l e R s m args below meth c H locs cells slots Q (F0 m pc ls (.int v :: rest))) : W p l e R s m args below meth c H locs cells slots Q (F0 m pc ls (.int x :: rest)) := h ▸ k
theorem relitL {x v : Int64} (h : x = v) (k : W p l e R s m args below meth c H locs cells slots Q (F0 m pc ls (.long v :: rest))) : W p l e R s m args below meth c H locs cells slots Q (F0 m pc ls (.long x :: rest)) := h ▸ k
theorem relitV {x v : Value} (h : x = v) (k : W p l e R s m args below meth c H locs cells slots Q (F0 m pc ls (v :: rest))) : W p l e R s m args below meth c H locs cells slots Q (F0 m pc ls (x :: rest)) := h ▸ k
/-- ends -/
theorem rI {S : Type} {post : Int32 → S → Prop} {w1 : S → va_W} {mc ms : Nat} {ty : FieldType} {r : Int32} (u : S) (hx : p.tables.exec = Jvm.exec) (hb : c.code = cc) (hr : meth.sig.returnType = some ty) (hlk : meth.locks = false) (hn : narrow ty (.int r) = .int r) (hS : va_S A s.heap H locs) (hw : post r u) (hP : va_P g vwCl (w1 u) H) (hD : va_D A (w1 u)) (hc : cells ≤ mc) (hs : slots ≤ ms) (hdg : decode cc pc = .ok (.ireturn, 1)) :
    W p l e R s m args below meth c H locs cells slots (MQ below (QI g post w1 A) args s mc ms A) (F0 m pc ls [.int r]) :=
  W.widen (k := mc) (n := ms) hc hs (W.zret hx hb hr hn (fun t ht _ => ⟨⟨r, u, rfl, hw, by rw [ht]; exact hP, hD⟩, hS.F ht⟩) hS.2.2 hdg hlk)
theorem rL {S : Type} {post : Int64 → S → Prop} {w1 : S → va_W} {mc ms : Nat} {r : Int64} (u : S) (hx : p.tables.exec = Jvm.exec) (hb : c.code = cc) (hr : meth.sig.returnType = some .long) (hlk : meth.locks = false) (hS : va_S A s.heap H locs) (hw : post r u) (hP : va_P g vwCl (w1 u) H) (hD : va_D A (w1 u)) (hc : cells ≤ mc) (hs : slots ≤ ms) (hdg : decode cc pc = .ok (.lreturn, 1)) :
    W p l e R s m args below meth c H locs cells slots (MQ below (QL g post w1 A) args s mc ms A) (F0 m pc ls [.long r]) :=
  W.widen (k := mc) (n := ms) hc hs (W.lret hx hb hr (fun t ht _ => ⟨⟨r, u, rfl, hw, by rw [ht]; exact hP, hD⟩, hS.F ht⟩) hS.2.2 hdg hlk)
theorem rV {S : Type} {post : S → Prop} {w1 : S → va_W} {mc ms : Nat} (u : S) (hx : p.tables.exec = Jvm.exec) (hb : c.code = cc) (hr : meth.sig.returnType = none) (hlk : meth.locks = false) (hS : va_S A s.heap H locs) (hw : post u) (hP : va_P g vwCl (w1 u) H) (hD : va_D A (w1 u)) (hc : cells ≤ mc) (hs : slots ≤ ms) (hdg : decode cc pc = .ok (.return_, 1)) :
    W p l e R s m args below meth c H locs cells slots (MQ below (QV g post w1 A) args s mc ms A) (F0 m pc ls []) :=
  W.widen (k := mc) (n := ms) hc hs (W.vret hx hb hr (fun t ht _ => ⟨⟨u, rfl, hw, by rw [ht]; exact hP, hD⟩, hS.F ht⟩) hS.2.2 hdg hlk)
/-- what a caller knows of itself -/
def Fx (p : Program) (s : State) (m : MethodId) (args : Array Value) (c : Code) (cc : ByteArray) (nL : Nat) (own : String) (g : va_G) (aC : Nat → ClassId) (aM : Nat → Nat) (A : Nat → Prop) : Prop :=
  p.tables.exec = Jvm.exec ∧ c.code = cc ∧ c.maxLocals = nL ∧ s.vm.findClass own = some m.cls ∧ (∀ w ∈ gw, w.before args s = true) ∧ va_K g vwCl (aTys aC) s ∧ (∀ q, s.heap.size ≤ q → A q) ∧ Amb aM A s s.heap ∧ Am2 aM s
theorem pre_of {nL : Nat} {own : String} {ws wc : va_W} {av : List Value} (F : Fx p s m args c cc nL own g aC aM A) (hP : va_P g vwCl ws H) (hD : va_D A ws) (hS : va_S A s.heap H locs) (isC : List Nat) (hn : va_nd isC = true) (hC : isC.map (fun i => ws[i]?) = wc.map some) :
    ∀ U : State, U.heap = H → s.WarmedH U.vm → va_Pc av (Pr g aC aM wc H.size) av.toArray U := fun U hU hW => by
  have hF := va_free (wc := wc) hD hS F.2.2.2.2.2.2.1 isC hC
  have hsub : isC.filterMap (fun i => ws[i]?) = wc := by
    have h1 : isC.filterMap (fun i => ws[i]?) = (isC.map (fun i => ws[i]?)).filterMap id := by rw [List.filterMap_map]; rfl
    rw [h1, hC, List.filterMap_map]
    simp
  refine ⟨rfl, by rw [hU], by rw [hU]; exact hP.sub isC hsub, va_K.moved hW.alike F.2.2.2.2.2.1, (hD.sub isC hn hC).weaken (fun _ _ _ _ => trivial), ?_, F.2.2.2.2.2.2.2.2.warm hW⟩
  rw [hU]
  exact Amb.moved hW.alike (((F.2.2.2.2.2.2.2.1).kept (fun a h1 h2 => hS.2.1 a h1 h2)).narrow hF)
theorem runV {nL n maxL lv mc ms index b : Nat} {own : String} {y : MethodName} {bytes : ByteArray} {ret : Option FieldType} {As : List Value} {ws wc : va_W} {QQ : (Nat → Prop) → Array Value → State → Outcome → State → Prop} (F : Fx p s m args c cc nL own g aC aM A) (hP : va_P g vwCl ws H) (hD : va_D A ws) (hS : va_S A s.heap H locs)
    (ct : Ct l g aC aM y bytes maxL ret lv (.ref b :: As) wc QQ mc ms) (isC : List Nat) (hn : va_nd isC = true) (hC : isC.map (fun i => ws[i]?) = wc.map some) (q0 ci : Nat) {r : vw_C} {fs : List Value} (hc : vwCl[ci]? = some r) (he : ws[q0]? = some (b, .inr (ci, fs))) (hrc : r.1 = y.cls)
    (k1 : Cond.code y bytes maxL ret ∈ gw) (k2 : Cond.methodLink own index y ∈ gw) (k3 : Cond.instanceMethod y ∈ gw) (k4 : Cond.selects y.cls y y ∈ gw) (k5 : Cond.initialized y.cls ∈ gw)
    (hd : y.cls ≠ "java/lang/invoke/MethodHandle" ∧ y.cls ≠ "java/lang/invoke/VarHandle" ∧ (parseMethodDescriptor y.desc).map (fun d => d.parameters.length) = some n) (hR : lv + 1 ≤ R.frames ∧ 8 + (maxL + 11) + 60 * lv ≤ R.locals) (hA : As.length = n) (hsz : ls.size = nL) (hst : st0 = As.reverse ++ .ref b :: rest) (hW : (rest.map fun v => v.category).sum ≤ 8) (hdg : decode cc pc = .ok (.invokevirtual index, 3)) (hf : cells + mc ≤ R.cells ∧ slots + ms ≤ R.slots) :
    va_Run p l e R s m args below meth c H locs cells slots mc ms (F0 m pc ls st0) rest (QQ (va_A wc H.size) (Value.ref b :: As).toArray) (va_A wc H.size) := by
  obtain ⟨hx, hb, hml, hown, hts, hK, hAA, hM, hM2⟩ := id F
  have hG : GoodIn gw (wsV own index y.cls y (uw y bytes maxL ret)) := fun w hw => by
    rcases List.mem_append.mp hw with h | h
    · have hm : w ∈ gw := by
        simp only [List.mem_cons, List.not_mem_nil, or_false] at h
        rcases h with h | h | h | h <;> rw [h] <;> assumption
      exact ⟨hm, good_of_word (List.all_eq_true.mp lw_good w hm)⟩
    · exact uw_good k1 w h
  refine va_runV (As := As) (C := y.cls) (Ts := gw) (own := own) (ws := uw y bytes maxL ret) (rm := rmL lv mc ms) (n := n) ⟨hx, hb, hml, hown, hts⟩ (ct H.size) (cwV n hts hG rfl rfl rfl ⟨rfl, hd⟩ hR) ⟨Pr.blind, ?_, pre_of F hP hD hS isC hn hC⟩ rfl hA hsz hst (lv_room hW) hdg hf
  rw [← hrc]
  exact va_recv hK hP hc he
theorem runVs {nL n maxL lv mc ms index b : Nat} {own : String} {y : MethodName} {bytes : ByteArray} {ret : Option FieldType} {As : List Value} {ws wc : va_W} {QQ : (Nat → Prop) → Array Value → State → Outcome → State → Prop} (F : Fx p s m args c cc nL own g aC aM A) (hP : va_P g vwCl ws H) (hD : va_D A ws) (hS : va_S A s.heap H locs)
    (ct : Ct l g aC aM y bytes maxL ret lv (.ref b :: As) wc QQ mc ms) (isC : List Nat) (hn : va_nd isC = true) (hC : isC.map (fun i => ws[i]?) = wc.map some) (ks : Nat) (hks : ks < 6) (hb0 : b = aM (1 + ks)) (hrc : "java/lang/String" = y.cls)
    (k1 : Cond.code y bytes maxL ret ∈ gw) (k2 : Cond.methodLink own index y ∈ gw) (k3 : Cond.instanceMethod y ∈ gw) (k4 : Cond.selects y.cls y y ∈ gw) (k5 : Cond.initialized y.cls ∈ gw)
    (hd : y.cls ≠ "java/lang/invoke/MethodHandle" ∧ y.cls ≠ "java/lang/invoke/VarHandle" ∧ (parseMethodDescriptor y.desc).map (fun d => d.parameters.length) = some n) (hR : lv + 1 ≤ R.frames ∧ 8 + (maxL + 11) + 60 * lv ≤ R.locals) (hA : As.length = n) (hsz : ls.size = nL) (hst : st0 = As.reverse ++ .ref b :: rest) (hW : (rest.map fun v => v.category).sum ≤ 8) (hdg : decode cc pc = .ok (.invokevirtual index, 3)) (hf : cells + mc ≤ R.cells ∧ slots + ms ≤ R.slots) :
    va_Run p l e R s m args below meth c H locs cells slots mc ms (F0 m pc ls st0) rest (QQ (va_A wc H.size) (Value.ref b :: As).toArray) (va_A wc H.size) := by
  obtain ⟨hx, hb, hml, hown, hts, hK, hAA, hM, hM2⟩ := id F
  have hG : GoodIn gw (wsV own index y.cls y (uw y bytes maxL ret)) := fun w hw => by
    rcases List.mem_append.mp hw with h | h
    · have hm : w ∈ gw := by
        simp only [List.mem_cons, List.not_mem_nil, or_false] at h
        rcases h with h | h | h | h <;> rw [h] <;> assumption
      exact ⟨hm, good_of_word (List.all_eq_true.mp lw_good w hm)⟩
    · exact uw_good k1 w h
  refine va_runV (As := As) (C := y.cls) (Ts := gw) (own := own) (ws := uw y bytes maxL ret) (rm := rmL lv mc ms) (n := n) ⟨hx, hb, hml, hown, hts⟩ (ct H.size) (cwV n hts hG rfl rfl rfl ⟨rfl, hd⟩ hR) ⟨Pr.blind, ?_, pre_of F hP hD hS isC hn hC⟩ rfl hA hsz hst (lv_room hW) hdg hf
  rw [← hrc]
  rw [hb0]
  exact vk_recv (i := ks) hM.2.2.2.1 hks hS
theorem runI {nL n maxL lv mc ms index b : Nat} {own : String} {y : MethodName} {bytes : ByteArray} {As : List Value} {ws wc : va_W} {QQ : (Nat → Prop) → Array Value → State → Outcome → State → Prop} (F : Fx p s m args c cc nL own g aC aM A) (hP : va_P g vwCl ws H) (hD : va_D A ws) (hS : va_S A s.heap H locs)
    (ct : Ct l g aC aM y bytes maxL none lv (.ref b :: As) wc QQ mc ms) (isC : List Nat) (hn : va_nd isC = true) (hC : isC.map (fun i => ws[i]?) = wc.map some)
    (k1 : Cond.code y bytes maxL none ∈ gw) (k2 : Cond.methodLink own index y ∈ gw) (k3 : Cond.instanceMethod y ∈ gw) (k5 : Cond.initialized y.cls ∈ gw) (hy : y.name = "<init>")
    (hd : y.cls ≠ "java/lang/invoke/MethodHandle" ∧ y.cls ≠ "java/lang/invoke/VarHandle" ∧ (parseMethodDescriptor y.desc).map (fun d => d.parameters.length) = some n) (hR : lv + 1 ≤ R.frames ∧ 8 + (maxL + 11) + 60 * lv ≤ R.locals) (hA : As.length = n) (hsz : ls.size = nL) (hst : st0 = As.reverse ++ .ref b :: rest) (hW : (rest.map fun v => v.category).sum ≤ 8) (hdg : decode cc pc = .ok (.invokespecial index, 3)) (hf : cells + mc ≤ R.cells ∧ slots + ms ≤ R.slots) :
    va_Run p l e R s m args below meth c H locs cells slots mc ms (F0 m pc ls st0) rest (QQ (va_A wc H.size) (Value.ref b :: As).toArray) (va_A wc H.size) := by
  obtain ⟨hx, hb, hml, hown, hts, hK, hAA, hM, hM2⟩ := id F
  exact va_runI (As := As) (Ts := gw) (own := own) (ws := uw y bytes maxL none) (rm := rmL lv mc ms) (n := n) ⟨hx, hb, hml, hown, hts⟩ (ct H.size) (cwI n hts (uw_good k1) rfl rfl rfl (hts _ k5) (hts _ k2) (hts _ k3) hy hd hR) ⟨Pr.blind, pre_of F hP hD hS isC hn hC⟩ rfl hA hsz hst (lv_room hW) hdg hf
theorem runIN {nL n maxL lv mc ms index b : Nat} {own host : String} {y : MethodName} {bytes : ByteArray} {As : List Value} {ws wc : va_W} {QQ : (Nat → Prop) → Array Value → State → Outcome → State → Prop} (F : Fx p s m args c cc nL own g aC aM A) (hP : va_P g vwCl ws H) (hD : va_D A ws) (hS : va_S A s.heap H locs)
    (ct : Ct l g aC aM y bytes maxL none lv (.ref b :: As) wc QQ mc ms) (isC : List Nat) (hn : va_nd isC = true) (hC : isC.map (fun i => ws[i]?) = wc.map some)
    (k1 : Cond.code y bytes maxL none ∈ gw) (k2 : va_Nw (.methodLinkNest own index y host) s) (k3 : Cond.instanceMethod y ∈ gw) (k5 : Cond.initialized y.cls ∈ gw) (hy : y.name = "<init>")
    (hd : y.cls ≠ "java/lang/invoke/MethodHandle" ∧ y.cls ≠ "java/lang/invoke/VarHandle" ∧ (parseMethodDescriptor y.desc).map (fun d => d.parameters.length) = some n) (hR : lv + 1 ≤ R.frames ∧ 8 + (maxL + 11) + 60 * lv ≤ R.locals) (hA : As.length = n) (hsz : ls.size = nL) (hst : st0 = As.reverse ++ .ref b :: rest) (hW : (rest.map fun v => v.category).sum ≤ 8) (hdg : decode cc pc = .ok (.invokespecial index, 3)) (hf : cells + mc ≤ R.cells ∧ slots + ms ≤ R.slots) :
    va_Run p l e R s m args below meth c H locs cells slots mc ms (F0 m pc ls st0) rest (QQ (va_A wc H.size) (Value.ref b :: As).toArray) (va_A wc H.size) := by
  obtain ⟨hx, hb, hml, hown, hts, hK, hAA, hM, hM2⟩ := id F
  exact va_runIN (As := As) (Ts := gw) (own := own) (ws := uw y bytes maxL none) (rm := rmL lv mc ms) (n := n) ⟨hx, hb, hml, hown, hts⟩ (ct H.size) ⟨va_cnB n hts (uw_good k1) rfl rfl rfl k2 (hts _ k5) hd hR, hy, hts _ k3⟩ ⟨Pr.blind, pre_of F hP hD hS isC hn hC⟩ rfl hA hsz hst (lv_room hW) hdg hf
theorem runS {nL n maxL lv mc ms index : Nat} {own : String} {y : MethodName} {bytes : ByteArray} {ret : Option FieldType} {As : List Value} {ws wc : va_W} {QQ : (Nat → Prop) → Array Value → State → Outcome → State → Prop} (F : Fx p s m args c cc nL own g aC aM A) (hP : va_P g vwCl ws H) (hD : va_D A ws) (hS : va_S A s.heap H locs)
    (ct : Ct l g aC aM y bytes maxL ret lv As wc QQ mc ms) (isC : List Nat) (hn : va_nd isC = true) (hC : isC.map (fun i => ws[i]?) = wc.map some)
    (k1 : Cond.code y bytes maxL ret ∈ gw) (k2 : Cond.methodLink own index y ∈ gw) (k3 : Cond.static y ∈ gw) (k5 : Cond.initialized y.cls ∈ gw)
    (hd : y.cls ≠ "java/lang/invoke/MethodHandle" ∧ y.cls ≠ "java/lang/invoke/VarHandle" ∧ (parseMethodDescriptor y.desc).map (fun d => d.parameters.length) = some n) (hR : lv + 1 ≤ R.frames ∧ 8 + (maxL + 11) + 60 * lv ≤ R.locals) (hA : As.length = n) (hsz : ls.size = nL) (hst : st0 = As.reverse ++ rest) (hW : (rest.map fun v => v.category).sum ≤ 8) (hdg : decode cc pc = .ok (.invokestatic index, 3)) (hf : cells + mc ≤ R.cells ∧ slots + ms ≤ R.slots) :
    va_Run p l e R s m args below meth c H locs cells slots mc ms (F0 m pc ls st0) rest (QQ (va_A wc H.size) As.toArray) (va_A wc H.size) := by
  obtain ⟨hx, hb, hml, hown, hts, hK, hAA, hM, hM2⟩ := id F
  have hG : GoodIn gw (va_wsS own index y (uw y bytes maxL ret)) := fun w hw => by
    rcases List.mem_append.mp hw with h | h
    · have hm : w ∈ gw := by
        simp only [List.mem_cons, List.not_mem_nil, or_false] at h
        rcases h with h | h | h <;> rw [h] <;> assumption
      exact ⟨hm, good_of_word (List.all_eq_true.mp lw_good w hm)⟩
    · exact uw_good k1 w h
  exact va_runS (As := As) (Ts := gw) (own := own) (ws := uw y bytes maxL ret) (rm := rmL lv mc ms) (n := n) ⟨hx, hb, hml, hown, hts⟩ (ct H.size) (va_cwS n hts hG rfl rfl rfl hd hR) ⟨Pr.blind, pre_of F hP hD hS isC hn hC⟩ rfl hA hsz hst (lv_room hW) hdg hf
/-- behind a call: the callee's cells as it left them, the rest unchanged -/
theorem goI {S : Type} {post : Int32 → S → Prop} {w1 : S → va_W} {ws wc wr : va_W} {mc ms : Nat} {a : Array Value} (hr : va_Run p l e R s m args below meth c H locs cells slots mc ms (F0 m pc ls st0) rest (QI g post w1 (va_A wc H.size) a) (va_A wc H.size)) (hP : va_P g vwCl ws H) (hD : va_D A ws) (hS : va_S A s.heap H locs) (hA : ∀ q, s.heap.size ≤ q → A q)
    (isC isR : List Nat) (hC : isC.map (fun i => ws[i]?) = wc.map some) (hR : isR.map (fun i => ws[i]?) = wr.map some) (hn : va_nd isR = true) (hdis : ∀ i ∈ isR, i ∉ isC)
    (kk : ∀ (r : Int32) (u : S) (H1 : Heap) (locs1 : List Loc), post r u → va_P g vwCl (wr ++ w1 u) H1 → va_D A (wr ++ w1 u) → va_S A s.heap H1 locs1 → W p l e R s m args below meth c H1 locs1 (cells + mc) (slots + ms) Q (F0 m (pc + 3) ls (.int r :: rest))) : W p l e R s m args below meth c H locs cells slots Q (F0 m pc ls st0) := by
  have hF := va_free (wc := wc) hD hS hA isC hC
  refine va_calli hr hS (fun q _ h => hF q h) hF (fun r u t H1 locs1 ht hvm hw hB hz1 hk1 hS1 => ?_)
  obtain ⟨hP1, hD1⟩ := hB
  rw [ht] at hP1
  obtain ⟨hP2, hD2⟩ := va_join (wr := wr) (w1 := w1 u) hP hD isC isR hC hR hn hdis hk1 hF hP1 hD1
  exact kk r u H1 locs1 hw hP2 hD2 hS1
theorem goL {S : Type} {post : Int64 → S → Prop} {w1 : S → va_W} {ws wc wr : va_W} {mc ms : Nat} {a : Array Value} (hr : va_Run p l e R s m args below meth c H locs cells slots mc ms (F0 m pc ls st0) rest (QL g post w1 (va_A wc H.size) a) (va_A wc H.size)) (hP : va_P g vwCl ws H) (hD : va_D A ws) (hS : va_S A s.heap H locs) (hA : ∀ q, s.heap.size ≤ q → A q)
    (isC isR : List Nat) (hC : isC.map (fun i => ws[i]?) = wc.map some) (hR : isR.map (fun i => ws[i]?) = wr.map some) (hn : va_nd isR = true) (hdis : ∀ i ∈ isR, i ∉ isC)
    (kk : ∀ (r : Int64) (u : S) (H1 : Heap) (locs1 : List Loc), post r u → va_P g vwCl (wr ++ w1 u) H1 → va_D A (wr ++ w1 u) → va_S A s.heap H1 locs1 → W p l e R s m args below meth c H1 locs1 (cells + mc) (slots + ms) Q (F0 m (pc + 3) ls (.long r :: rest))) : W p l e R s m args below meth c H locs cells slots Q (F0 m pc ls st0) := by
  have hF := va_free (wc := wc) hD hS hA isC hC
  refine va_calll hr hS (fun q _ h => hF q h) hF (fun r u t H1 locs1 ht hvm hw hB hz1 hk1 hS1 => ?_)
  obtain ⟨hP1, hD1⟩ := hB
  rw [ht] at hP1
  obtain ⟨hP2, hD2⟩ := va_join (wr := wr) (w1 := w1 u) hP hD isC isR hC hR hn hdis hk1 hF hP1 hD1
  exact kk r u H1 locs1 hw hP2 hD2 hS1
theorem goV {S : Type} {post : S → Prop} {w1 : S → va_W} {ws wc wr : va_W} {mc ms : Nat} {a : Array Value} (hr : va_Run p l e R s m args below meth c H locs cells slots mc ms (F0 m pc ls st0) rest (QV g post w1 (va_A wc H.size) a) (va_A wc H.size)) (hP : va_P g vwCl ws H) (hD : va_D A ws) (hS : va_S A s.heap H locs) (hA : ∀ q, s.heap.size ≤ q → A q)
    (isC isR : List Nat) (hC : isC.map (fun i => ws[i]?) = wc.map some) (hR : isR.map (fun i => ws[i]?) = wr.map some) (hn : va_nd isR = true) (hdis : ∀ i ∈ isR, i ∉ isC)
    (kk : ∀ (u : S) (H1 : Heap) (locs1 : List Loc), post u → va_P g vwCl (wr ++ w1 u) H1 → va_D A (wr ++ w1 u) → va_S A s.heap H1 locs1 → W p l e R s m args below meth c H1 locs1 (cells + mc) (slots + ms) Q (F0 m (pc + 3) ls rest)) : W p l e R s m args below meth c H locs cells slots Q (F0 m pc ls st0) := by
  have hF := va_free (wc := wc) hD hS hA isC hC
  refine va_callv hr hS (fun q _ h => hF q h) hF (fun u t H1 locs1 ht hvm hw hB hz1 hk1 hS1 => ?_)
  obtain ⟨hP1, hD1⟩ := hB
  rw [ht] at hP1
  obtain ⟨hP2, hD2⟩ := va_join (wr := wr) (w1 := w1 u) hP hD isC isR hC hR hn hdis hk1 hF hP1 hD1
  exact kk u H1 locs1 hw hP2 hD2 hS1
end Lay
