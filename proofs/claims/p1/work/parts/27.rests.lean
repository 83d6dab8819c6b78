/-! a throw of a class whose constructor links its super's at another place of the pool than 7: the kit's vx_throwSW, over the library's ownAtomsX; the first theorem goes as the library's ctorThrowS does -/
section Xt
variable {p : Program} {l : Launch} {e : Env} {R : Room} {s : State} {m₀ : MethodId} {args : Array Value} {below : List Frame} {meth : Method} {c : Code} {W0 : State} {locs : List Loc} {cells slots : Nat}
set_option maxHeartbeats 2000000 in
theorem xt_ctor (X : Stand p l e R s m₀ args below meth c W0 locs cells slots) (hexec : p.tables.exec = Jvm.exec) (htr : e.platform.stackTraces = false) {own cls : String} {names : List String} {ic ix : Nat} {rx : ByteArray}
    (r0 : decode rx 0 = .ok (.aload_n 0, 1)) (r1 : decode rx 1 = .ok (.aload_n 1, 1)) (r2 : decode rx 2 = .ok (.invokespecial ix, 3)) (r5 : decode rx 5 = .ok (.return_, 1))
    (hown : s.vm.findClass own = some m₀.cls) (hcls : Bundle.fit cls = true) (hnames : ∀ n ∈ names, Bundle.fit n = true)
    (h : ∀ a ∈ Bundle.ownAtomsX own ic cls ix rx names, a.before args s = true)
    (hlocs : ∀ x ∈ locs, ∀ cell, s.heap[x.base]? = some cell → cell.vm.isStatics = false)
    {a : Addr} {cX : ClassId} {kX : Class} (hfoundX : s.vm.findClass cls = some cX) (hkX : s.vm.classes[cX]? = some kX) (hcell : W0.heap[a]? = some (freshCell cX kX)) (hnew : s.heap.size ≤ a)
    {msg : Value} (hmsg : msg.isRef = true)
    {g : JFrame} (hg : g.method = m₀) (hsize : g.locals.size = c.maxLocals) (hlocked : g.locked = none) (hentered : g.entered = []) {rest : List Value} (hstack : g.stack = msg :: .ref a :: .ref a :: rest)
    (hd6 : decode c.code g.pc = .ok (.invokespecial ic, 3)) (hd9 : decode c.code (g.pc + 3) = .ok (.athrow, 1)) (hout : ∀ x ∈ c.exceptionTable.toList, covers x (g.pc + 3) = false)
    (hRframes : names.length + 3 < R.frames) (hRlocals : 2 * g.monitorRoom + ((Value.ref a :: rest).map fun v => v.category).sum + (13 * (names.length + 1) + 42) ≤ R.locals) (hlocks : meth.locks = false) :
    ∃ U : State, Steps p.tables e below (W0.setTop g) U ∧ U.status = .running ∧ Ended U below (.threw a) ∧ s.WarmedH U.vm ∧ s.sameButNew ({ U with vm := s.vm } : State) locs cells slots ∧
      ∃ ce, U.heap[a]? = some ce ∧ ce.vm = .none ∧ s.vm.findClass cls = some ce.cls := by
  have howns : e.platform.frameOwnsMonitors = true := by rw [X.admits.platform]
  have hfin : e.platform.finalization = false := by rw [X.admits.platform]
  have hpl : e.platform.magicAccessors = ({} : Platform).magicAccessors := by rw [X.admits.platform]
  have a' : ∀ x, x ∈ Bundle.ownAtomsX own ic cls ix rx names → x.holds args s none s [] = true := fun x hx => h x hx
  obtain ⟨T, Z0, L, -, Y⟩ := ThrowableC.of_atoms (args := args) howns hfin hpl (fun x hx => h x (by simp [Bundle.ownAtomsX, hx]))
  obtain ⟨Z, M, LZ, LM, hnZ⟩ := Init0T.ofS_atoms (args := args) hpl L Y (fun x hx => h x (by simp [Bundle.ownAtomsX, hx]))
  obtain ⟨P1, Ps, hlen, L1, hL, hP1m, hlink1, hlink⟩ := Bundle.chainSX (args := args) hpl hnZ r0 r1 r2 r5 names cls hcls hnames (fun x hx => h x (by simp [Bundle.ownAtomsX, hx]))
  have hfound : s.vm.findClass cls = some P1.m.cls := findClass_of_methodNamed hP1m
  cases Option.some.inj (hfoundX.symm.trans hfound)
  obtain ⟨c1, kX', hc1, hk, hord, -, -, -⟩ := Cond.instantiable_spec (a' (.instantiable cls 6) (by simp [Bundle.ownAtomsX]))
  cases Option.some.inj (hc1.symm.trans hfound)
  cases Option.some.inj (hkX.symm.trans hk)
  have hsel0 : selectMethod e.platform s.vm P1.m.cls T.fill0 = .method T.fill0 := by
    obtain ⟨c2, r2, m2, q1, q2, q3, q4, -⟩ := Cond.selects_spec (a' (.selects cls Bundle.tFill0 Bundle.tFill0) (by simp [Bundle.ownAtomsX]))
    cases Option.some.inj (q1.symm.trans hfound)
    cases Option.some.inj (q2.symm.trans (State.methodFound?_of_named Y.fill0 (by decide)))
    cases Option.some.inj (q3.symm.trans Y.fill0)
    rw [Launch.admits_selectMethod X.admits]; exact q4
  have hselF : selectMethod e.platform s.vm P1.m.cls T.fill = .method T.fill := by
    obtain ⟨c2, r2, m2, q1, q2, q3, q4, -⟩ := Cond.selects_spec (a' (.selects cls Bundle.tFill Bundle.tFill) (by simp [Bundle.ownAtomsX]))
    cases Option.some.inj (q1.symm.trans hfound)
    cases Option.some.inj (q2.symm.trans (State.methodFound?_of_named Y.fill (by decide)))
    cases Option.some.inj (q3.symm.trans Y.fill)
    rw [Launch.admits_selectMethod X.admits]; exact q4
  obtain ⟨cellS0, hcS0, hiss⟩ := Y.statics
  obtain ⟨u0, hu0⟩ := Cond.staticRefV Y.unassigned L.unassignedStatic L.statics hcS0 hiss (a' (.isRef (.static Bundle.tN "UNASSIGNED_STACK" Bundle.steD)) (by simp [Bundle.ownAtomsX]))
  obtain ⟨sen, hsen⟩ := Cond.staticRefV Y.sentinel L.sentinelStatic L.statics hcS0 hiss (a' (.isRef (.static Bundle.tN "SUPPRESSED_SENTINEL" Bundle.listD)) (by simp [Bundle.ownAtomsX]))
  obtain ⟨ci198, i198, fB, hk198, hg198, ha198, hsB, -, hnB, htB, hffB⟩ := Cond.ownField (t := .object "java/lang/Object") Y.found L.cls (by decide +kernel) (a' (.fieldLink Bundle.tN 198 Bundle.tN "backtrace" "Ljava/lang/Object;") (by simp [Bundle.ownAtomsX])) (a' (.lays Bundle.tN Bundle.tN "backtrace" "Ljava/lang/Object;") (by simp [Bundle.ownAtomsX])) e.platform hpl
  obtain ⟨cellS, hcS', heS, -, hkeep⟩ := X.same.2.2.2.2.2 T.aS cellS0 hcS0
  have hcellS : W0.heap[T.aS]? = some cellS := hcS'
  have hout' : ∀ i, (⟨T.aS, i⟩ : Loc) ∉ locs := fun i hmem => by
    have := hlocs _ hmem cellS0 hcS0
    rw [hiss] at this; cases this
  have hknownS : cellS.vm ≠ .unknown := by
    rw [heS]; intro hu
    rw [show cellS0.vm = .unknown from hu] at hiss
    cases hiss
  have hneS : T.aS ≠ a := Nat.ne_of_lt (Nat.lt_of_lt_of_le (Array.getElem?_eq_some_iff.mp hcS0).1 hnew)
  obtain ⟨iM, hffM⟩ := Y.msg
  obtain ⟨tyC, dC, hdC, hdnC⟩ := Cond.laysAt hfound hk Y.cause (a' (.lays cls Bundle.tN "cause" "Ljava/lang/Throwable;") (by simp [Bundle.ownAtomsX]))
  obtain ⟨tyS, dS, hdS, hdnS⟩ := Cond.laysAt hfound hk Y.stack (a' (.lays cls Bundle.tN "stackTrace" Bundle.steD) (by simp [Bundle.ownAtomsX]))
  obtain ⟨tyP, dP, hdP, hdnP⟩ := Cond.laysAt hfound hk Y.supp (a' (.lays cls Bundle.tN "suppressedExceptions" Bundle.listD) (by simp [Bundle.ownAtomsX]))
  obtain ⟨tyM, dM, hdM, hdnM⟩ := Cond.laysAt hfound hk hffM (a' (.lays cls Bundle.tN "detailMessage" "Ljava/lang/String;") (by simp [Bundle.ownAtomsX]))
  obtain ⟨tyB, dB, hdB, hdnB⟩ := Cond.laysAt hfound hk hffB (a' (.lays cls Bundle.tN "backtrace" "Ljava/lang/Object;") (by simp [Bundle.ownAtomsX]))
  have bC := Cond.laysApart hdB hdC hdnB hdnC (by rw [hnB, Y.causeName]; decide)
  have bS := Cond.laysApart hdB hdS hdnB hdnS (by rw [hnB, Y.stackName]; decide)
  have bP := Cond.laysApart hdB hdP hdnB hdnP (by rw [hnB, Y.suppName]; decide)
  have hskip : SkipFacts T e.platform s (fun u => u) u0 ((preparedCellV T.toThrowableT (freshCell P1.m.cls kX) a u0 sen).withEntry W0.cur) :=
    ⟨{ ci198 := ci198, i198 := i198, fBack := fB }, ⟨hk198, hg198, ha198, hsB⟩, by
      have := fresh_default (c := P1.m.cls) tyB
      rw [htB] at this
      simpa [preparedCellV, Cell.setSlot, Cell.withEntry, Array.getElem?_setIfInBounds, bC, bS, bP, bC.symm, bS.symm, bP.symm, defaultValue] using this, fun _ _ => rfl⟩
  obtain ⟨tm, methC, cdC, kC, vm₁, hnC, -, -, -, -, -, -, -, hW₁, st1⟩ := Steps.initColdS (tb := p.tables) (e := e) (below := below) (s := s) (U := W0) X.here hexec X.warmed hpl hown (t := Bundle.initS cls) rfl rfl (Bundle.fit_spec hcls).2
    (a' (.methodLink own ic (Bundle.initS cls)) (by simp [Bundle.ownAtomsX])) (h (.instanceMethod (Bundle.initS cls)) (by cases names <;> simp [Bundle.ownAtomsX, Bundle.chainSAtomsX, Bundle.passSAtoms])) (bytes := rx) (maxL := 2) (h (.code (Bundle.initS cls) rx 2 none) (by cases names <;> simp [Bundle.ownAtomsX, Bundle.chainSAtomsX, Bundle.passSAtoms]))
    (f := g) hg (a := a) (msg := msg) (rest := .ref a :: rest) hstack hd6
  cases Option.some.inj (hnC.symm.trans hP1m)
  have X₁ := X.noted hW₁
  obtain ⟨vm₂, X₂, st2⟩ := X₁.ctorMessageOffV hexec (g := { g with stack := .ref a :: rest }) hg hsize T L Z LZ M LM (P1 :: Ps)
    (fun P hP => by rcases List.mem_cons.mp hP with rfl | hP; exact L1; exact hL P hP) ⟨hlink1, hlink⟩ (u0 := u0) (sen := sen) (self := a) hmsg (cell := freshCell P1.m.cls kX) (cellS := cellS)
    hcell (fun _ => by simp) (by simp) rfl rfl hsel0 hselF hcellS hneS hknownS (by rw [hkeep _ (hout' _)]; exact hu0) (by rw [hkeep _ (hout' _)]; exact hsen)
    (Takes.of_laid hk hord tyC (by rw [Y.causeType]; rfl)) (Takes.of_laid hk hord tyS (by rw [Y.stackType]; exact fits_refV_array _ u0)) (Takes.of_laid hk hord tyP (by rw [Y.suppType]; exact fits_refV_object _ sen))
    (Takes.of_laid hk hord tyM (by rw [Y.msgType]; exact fits_refV_object _ ⟨msg, hmsg⟩)) Y.objLocals hskip htr [] hd6
    (by simp only [List.length_cons, hlen]; omega) (by simp only [List.length_cons, hlen]; exact hRlocals)
  obtain ⟨hwalk, hrun, hended, hWU, hsame⟩ := X₂.athrowLeaves hexec (g := { g with stack := .ref a :: rest, pc := g.pc + 3 }) hg hlocked hentered hout (a := a) (rest := rest) rfl hd9
  have hlt : a < ((W0.setVm vm₁).setVm vm₂).heap.size := (Array.getElem?_eq_some_iff.mp hcell).1
  have hU := heapAt_setCell_self (s := (W0.setVm vm₁).setVm vm₂) (plainBareV T.toThrowableT (freshCell P1.m.cls kX) a u0 sen msg) hlt
  refine ⟨_, st1 _ (fun acts => ?_), hrun, hended, hWU, hsame.weaken (fun y hy hlt' => ?_) (Nat.le_refl _) (Nat.le_refl _), _, hU, rfl, hfound⟩
  · rw [doInvoke_state]
    exact st2 _ hwalk
  · rcases List.mem_append.mp hy with h1 | h1
    · exact h1
    · exfalso
      have hb : y.base = a := by
        simp only [List.mem_cons, List.not_mem_nil, or_false] at h1
        rcases h1 with rfl | rfl | rfl | rfl | rfl <;> rfl
      rw [hb] at hlt'
      exact Nat.not_lt.mpr hnew hlt'
end Xt
section Xq
variable {p : Program} {l : Launch} {e : Env} {R : Room} {s : State} {m : MethodId} {args : Array Value} {below : List Frame} {meth : Method} {c : Code} {H : Heap} {locs : List Loc} {cells slots : Nat} {Q : State → Prop}
variable {mc ms : Nat} {free : Addr → Prop} {a : Array Value} {ls : Array Slot} {st0 rest : List Value}
variable {Qc : Array Value → State → Outcome → State → Prop} {XC : String → State → State → Prop}
def xt_at (own : String) (ic : Nat) (X : String) (ix : Nat) (rx : ByteArray) (names : List String) : List Cond := (Bundle.ownAtomsX own ic X ix rx names).filter vx_no
set_option maxHeartbeats 2000000 in
theorem xt_throw {cc : ByteArray} {pc : Nat} (hexec : p.tables.exec = Jvm.exec) (hb : c.code = cc) (hl : l.stackTraces = false) {own cls text : String} {names : List String} {ik is ic ix mc ms sa : Nat} {rx : ByteArray} {A : Nat → Prop}
    (r0 : decode rx 0 = .ok (.aload_n 0, 1)) (r1 : decode rx 1 = .ok (.aload_n 1, 1)) (r2 : decode rx 2 = .ok (.invokespecial ix, 3)) (r5 : decode rx 5 = .ok (.return_, 1))
    (hown : s.vm.findClass own = some m.cls) (hcls : Bundle.fit cls = true) (hnames : ∀ n ∈ names, Bundle.fit n = true)
    (hk : (Cond.classLink own ik cls).before args s = true) (hini : (Cond.initialized cls).before args s = true) (hstr : vk_R own is text sa s) (hat : ∀ w ∈ xt_at own ic cls ix rx names, w.before args s = true)
    (hgood : ∀ w ∈ Cond.classLink own ik cls :: Cond.initialized cls :: xt_at own ic cls ix rx names, vx_ot w = true)
    (hU : vx_Zq Bundle.tN "UNASSIGNED_STACK" Bundle.steD A s s.heap) (hN : vx_Zq Bundle.tN "SUPPRESSED_SENTINEL" Bundle.listD A s s.heap) (hS : va_S A s.heap H locs) (hsize : ls.size = c.maxLocals)
    (d0 : decode cc pc = .ok (.new ik, 3)) (d3 : decode cc (pc + 3) = .ok (.dup, 1)) (d4 : decode cc (pc + 4) = .ok (.ldc_w is, 3)) (d7 : decode cc (pc + 7) = .ok (.invokespecial ic, 3)) (d10 : decode cc (pc + 10) = .ok (.athrow, 1))
    (hout : ∀ x ∈ c.exceptionTable.toList, covers x (pc + 10) = false)
    (hRframes : names.length + 3 < R.frames) (hRlocals : (rest.map fun v => v.category).sum + (13 * (names.length + 1) + 43) ≤ R.locals) (hRcells : cells + 1 ≤ R.cells) (hRslots : slots + 6 ≤ R.slots) (hlocks : meth.locks = false)
    (hx : ∀ t : State, s.vm.Alike t.vm → H.size ≤ t.heap.size → (∀ q : Nat, q < H.size → t.heap[q]? = H[q]?) → XC cls s t)
    (hf : ∀ z ∈ locs, free z.base) (hc : cells + 1 ≤ mc) (hs : slots + 6 ≤ ms) :
    W p l e R s m args below meth c H locs cells slots (vx_MQ below Qc XC args s mc ms free) (F0 m pc ls rest) := by
  intro T hT X
  have htr : e.platform.stackTraces = false := (show e.platform.stackTraces = l.stackTraces by rw [X.admits.platform]).trans hl
  have Y := vx_rebase X (R' := { frames := R.frames, locals := R.locals, cells := 1, slots := 6 }) (Nat.le_refl _) (Nat.le_refl _) hRcells hRslots
  obtain ⟨s', hA⟩ : ∃ z, z = (T.setVm s.vm).setFrames (.invoking m args :: below) := ⟨_, rfl⟩
  rw [← hA] at Y
  have hvm : s'.vm = s.vm := by rw [hA]; rfl
  have hhp : s'.heap = H := by rw [hA]; exact hT
  have hW0 : s.WarmedH s'.vm := by rw [hvm]; exact State.WarmedH.refl s
  have hat' : ∀ w ∈ xt_at own ic cls ix rx names, w.before args s' = true := fun w hw => vx_ot_at hW0 hvm.symm (hgood w (List.mem_cons_of_mem _ (List.mem_cons_of_mem _ hw))) (hat w hw)
  have hk' : (Cond.classLink own ik cls).before args s' = true := vx_ot_at hW0 hvm.symm (hgood _ List.mem_cons_self) hk
  have hini' : (Cond.initialized cls).before args s' = true := vx_ot_at hW0 hvm.symm (hgood _ (List.mem_cons_of_mem _ List.mem_cons_self)) hini
  have hU' : vx_Zq Bundle.tN "UNASSIGNED_STACK" Bundle.steD A s' s'.heap := by rw [hhp]; exact vx_Zq.moved hW0.alike (hU.kept hS.2.1)
  have hN' : vx_Zq Bundle.tN "SUPPRESSED_SENTINEL" Bundle.listD A s' s'.heap := by rw [hhp]; exact vx_Zq.moved hW0.alike (hN.kept hS.2.1)
  have h : ∀ w ∈ Bundle.ownAtomsX own ic cls ix rx names, w.before args s' = true := vx_own hat' (vx_isRefq hU'.1) (vx_isRefq hN'.1) hU'.2.word hN'.2.word
  have hown' : s'.vm.findClass own = some m.cls := by rw [hvm]; exact hown
  have hins : (Cond.instantiable cls 6).before args s' = true := h _ (by simp [Bundle.ownAtomsX])
  obtain ⟨vm₁, cX, kX, hfX, hkX, -, -, X₁, st1⟩ := Y.newCold hexec (own := own) (C := cls) (index := ik) (n := 6) hown' hk' hins hini'
    (g := F0 m pc ls rest) rfl (by rw [hb]; exact d0) (Nat.le_refl _) (Nat.le_refl _)
  generalize hT1 : (T.setVm vm₁).pushCell { cls := cX, slots := kX.instanceTypes.map defaultValue, vm := .none } = T1 at X₁ st1
  have hcat : (Value.ref T.heap.size).category = 1 := rfl
  have hcellA : T1.heap[T.heap.size]? = some (freshCell cX kX) := by rw [← hT1]; exact State.heap_pushCell_size _ _
  have d3' : decode c.code (pc + 3) = .ok (.dup, 1) := by rw [hb]; exact d3
  have d4' : decode c.code (pc + 4) = .ok (.ldc_w is, 3) := by rw [hb]; exact d4
  have hstr' : vk_R own is text sa s' := vk_R.warm hW0 hstr
  obtain ⟨U, hsteps, hrun, hend, hW, hsame, ce, hce, hcv0, hcl0⟩ := xt_ctor X₁ hexec htr r0 r1 r2 r5 (own := own) (cls := cls) (names := names) (ic := ic) hown' hcls hnames h (fun x hx => nomatch hx) hfX hkX hcellA (by rw [hhp, hT]; exact Nat.le_refl _) (msg := .ref sa) rfl
    (g := { method := m, pc := pc + 7, locals := ls, stack := .ref sa :: .ref T.heap.size :: .ref T.heap.size :: rest, locked := none }) rfl hsize rfl rfl (rest := rest) rfl
    (by rw [hb]; exact d7) (by rw [hb]; exact d10) hout hRframes (by simp only [List.map_cons, List.sum_cons, hcat]; omega) hlocks
  obtain ⟨f1, f2⟩ := vx_frame hsame
  rw [hhp] at f1 f2
  have hWs : s.WarmedH U.vm := State.WarmedH.trans hW0 hW
  have hcl : s.vm.findClass cls = some ce.cls := by
    have h9 := hcl0
    rw [hvm] at h9
    exact h9
  have hall : s.sameButNew ({ U with vm := s.vm } : State) locs mc ms := by
    subst hA
    obtain ⟨e1, e2⟩ := hsame
    rw [State.setFrames_setFrames] at e1
    have h2 : (T.setVm s.vm).sameButNew ({ U with vm := s.vm } : State) [] (0 + 1) (0 + 6) := ⟨e1, e2⟩
    have h3 := X.same.trans h2
    rw [List.append_nil] at h3
    exact h3.mono hc hs
  refine ⟨U, ?_, .threw T.heap.size, hrun, hend, Or.inr ⟨T.heap.size, rfl, cls, ce, locs, hx U hWs.alike f1 (fun q hq => f2 q hq (fun z hz => nomatch hz)), hce, hcv0, hcl, hWs, hall, hf⟩⟩
  refine st1 _ ?_
  show Steps p.tables e below (T1.setTop { method := m, pc := pc + 3, locals := ls, stack := .ref T.heap.size :: rest, locked := none }) _
  jvm_step X₁.here [X₁.here.top, hexec, d3', Value.category]
  exact X₁.ldcStringW hexec (own := own) (text := text) (index := is) (a := sa) hown' hstr'.1 hstr'.2
    (g := { method := m, pc := pc + 4, locals := ls, stack := .ref T.heap.size :: .ref T.heap.size :: rest, locked := none }) rfl d4' _ hsteps
end Xq
def NSE : String := "java/util/NoSuchElementException"
def sup2 : List String := ["java/lang/RuntimeException", "java/lang/Exception"]
def rxN : ByteArray := prog_30_method_4_code
def atR : List Cond := xt_at RX10 275 NSE 13 rxN sup2
def BB : List Cond := atR.filter (fun w => !goodWord w)
theorem atR_tb : ∀ w ∈ atR.filter goodWord, w ∈ tables_1 := by decide +kernel
theorem atR_in : ∀ w ∈ atR.filter goodWord, w ∈ gw := fun w hw => List.mem_filter.mpr ⟨List.mem_append_right _ (atR_tb w hw), (List.mem_filter.mp hw).2⟩
theorem BB_tb : ∀ w ∈ BB, w ∈ tables_1 := by decide +kernel
theorem BB_on : ∀ w ∈ BB, w.onTables = true := by decide +kernel
def bbk : Cond → Bool
  | .declares _ => true
  | .castable _ _ => true
  | _ => false
theorem BB_kind : BB.all bbk = true := by decide +kernel
def AmB (U : State) : Prop := ∀ w ∈ BB, va_Nw w U
theorem AmB.warm {s U : State} (hW : s.WarmedH U.vm) (h : AmB s) : AmB U := by
  intro w hw
  have hk := List.all_eq_true.mp BB_kind w hw
  cases w <;> first | exact va_Nw.warmD hW (h _ hw) | exact va_Nw.warmC hW (h _ hw) | (simp [bbk] at hk)
theorem AmB.same {u U : State} (hv : U.vm = u.vm) (h : AmB u) : AmB U := fun w hw => va_Nw.same (BB_on w hw) hv.symm (h w hw)
def AmX (A : Nat → Prop) (U : State) (H : Heap) : Prop := vx_Zq Bundle.tN "UNASSIGNED_STACK" Bundle.steD A U H ∧ vx_Zq Bundle.tN "SUPPRESSED_SENTINEL" Bundle.listD A U H
def PrX (g : va_G) (aC : Nat → ClassId) (aM : Nat → Nat) (ws : va_W) (sz : Nat) (U : State) : Prop := Pr g aC aM ws sz U ∧ AmX (va_A ws sz) U U.heap ∧ AmB U
theorem PrX.blind {g : va_G} {aC : Nat → ClassId} {aM : Nat → Nat} {ws : va_W} {sz : Nat} {av : List Value} : FrameBlind (va_Pc av (PrX g aC aM ws sz)) := fun a U g' mk q => by
  obtain ⟨q0, qp, qx, qb⟩ := q
  have h1 := Pr.blind (g := g) (aC := aC) (aM := aM) (ws := ws) (sz := sz) (av := av) a U g' mk ⟨q0, qp⟩
  exact ⟨h1.1, h1.2, ⟨vx_Zq.moved (u := U) (U := U.calling g' mk a) (Vm.Alike.refl U.vm) qx.1, vx_Zq.moved (u := U) (U := U.calling g' mk a) (Vm.Alike.refl U.vm) qx.2⟩, AmB.same (u := U) (U := U.calling g' mk a) rfl qb⟩
section Rx
variable {p : Program} {l : Launch} {e : Env} {R : Room} {s : State} {m : MethodId} {args : Array Value} {below : List Frame} {meth : Method} {c : Code} {H : Heap} {locs : List Loc} {cells slots : Nat} {Q : State → Prop}
variable {cc : ByteArray} {pc : Nat} {ls : Array Slot} {rest st0 : List Value} {g : va_G} {aC : Nat → ClassId} {aM : Nat → Nat} {A : Nat → Prop}
theorem preX_of {nL : Nat} {own : String} {ws wc : va_W} {av : List Value} (F : Fx p s m args c cc nL own g aC aM A) (hX : AmX A s s.heap) (hB : AmB s) (hP : va_P g vwCl ws H) (hD : va_D A ws) (hS : va_S A s.heap H locs) (isC : List Nat) (hn : va_nd isC = true) (hC : isC.map (fun i => ws[i]?) = wc.map some) :
    ∀ U : State, U.heap = H → s.WarmedH U.vm → va_Pc av (PrX g aC aM wc H.size) av.toArray U := fun U hU hW => by
  have h1 := pre_of (av := av) F hP hD hS isC hn hC U hU hW
  have hF := va_free (wc := wc) hD hS F.2.2.2.2.2.2.1 isC hC
  refine ⟨h1.1, h1.2, ?_, hB.warm hW⟩
  rw [hU]
  exact ⟨vx_Zq.moved hW.alike ((hX.1.kept (fun a h1 h2 => hS.2.1 a h1 h2)).narrow hF), vx_Zq.moved hW.alike ((hX.2.kept (fun a h1 h2 => hS.2.1 a h1 h2)).narrow hF)⟩
theorem goX {S : Type} {post : Int32 → S → Prop} {w1 : S → va_W} {ws wc wr : va_W} {mc ms : Nat} {a : Array Value} (hr : vx_Run p l e R s m args below meth c H locs cells slots mc ms (F0 m pc ls st0) rest (QI g post w1 (va_A wc H.size) a) (vx_X (fun _ : Unit => False) (fun _ _ _ => True) (va_A wc H.size)) (va_A wc H.size)) (hP : va_P g vwCl ws H) (hD : va_D A ws) (hS : va_S A s.heap H locs) (hA : ∀ q, s.heap.size ≤ q → A q)
    (isC isR : List Nat) (hC : isC.map (fun i => ws[i]?) = wc.map some) (hR : isR.map (fun i => ws[i]?) = wr.map some) (hn : va_nd isR = true) (hdis : ∀ i ∈ isR, i ∉ isC)
    (kk : ∀ (r : Int32) (u : S) (H1 : Heap) (locs1 : List Loc), post r u → va_P g vwCl (wr ++ w1 u) H1 → va_D A (wr ++ w1 u) → va_S A s.heap H1 locs1 → W p l e R s m args below meth c H1 locs1 (cells + mc) (slots + ms) Q (F0 m (pc + 3) ls (.int r :: rest))) : W p l e R s m args below meth c H locs cells slots Q (F0 m pc ls st0) := by
  have hF := va_free (wc := wc) hD hS hA isC hC
  refine vx_calli hr hS (fun q _ h => hF q h) hF (fun q _ h => hF q h) (fun E ce q9 u t H1 locs1 ht hvm hp hB hz1 hk1 hS1 hce hcv hcl => absurd hp id) (fun r u t H1 locs1 ht hvm hw hB hz1 hk1 hS1 => ?_)
  obtain ⟨hP1, hD1⟩ := hB
  rw [ht] at hP1
  obtain ⟨hP2, hD2⟩ := va_join (wr := wr) (w1 := w1 u) hP hD isC isR hC hR hn hdis hk1 hF hP1 hD1
  exact kk r u H1 locs1 hw hP2 hD2 hS1
end Rx
/-- a class's rests on a fresh object throws -/
def CtX (l : Launch) (g : va_G) (aC : Nat → ClassId) (aM : Nat → Nat) (y : MethodName) (cc : ByteArray) (n : Nat) (lv : Nat) (av : List Value) (ws : va_W) (mc ms : Nat) : Prop :=
  ∀ sz : Nat, vx_Met l y (uw y cc n (some .int)) (rmL lv mc ms) (va_Pc av (PrX g aC aM ws sz)) (QI g (fun (_ : Int32) (_ : Unit) => False) (fun _ => []) (va_A ws sz)) (vx_X (fun _ : Unit => True) (fun E _ _ => E = NSE) (va_A ws sz)) mc ms (va_A ws sz)

theorem tb25 : (Jvm.Cond.initialized "java/util/NoSuchElementException") ∈ gw := lw_m 25 (by decide +kernel)
theorem tb1097 : (Jvm.Cond.classLink "StairGang" (271 : Nat) "java/util/NoSuchElementException") ∈ gw := lw_m 1097 (by decide +kernel)
theorem dX10_rests_0 : decode cX10_rests 0 = .ok (.aload_n 0, 1) := by decide +kernel
theorem dX10_rests_1 : decode cX10_rests 1 = .ok (.getfield 35, 3) := by decide +kernel
theorem dX10_rests_4 : decode cX10_rests 4 = .ok (.iconst 4, 1) := by decide +kernel
theorem dX10_rests_5 : decode cX10_rests 5 = .ok (.iload_n 1, 1) := by decide +kernel
theorem dX10_rests_6 : decode cX10_rests 6 = .ok (.invokevirtual 129, 3) := by decide +kernel
theorem dX10_rests_9 : decode cX10_rests 9 = .ok (.ifCond .eq 35, 3) := by decide +kernel
theorem dX10_rests_44 : decode cX10_rests 44 = .ok (.new 271, 3) := by decide +kernel
theorem dX10_rests_47 : decode cX10_rests 47 = .ok (.dup, 1) := by decide +kernel
theorem dX10_rests_48 : decode cX10_rests 48 = .ok (.ldc_w 273, 3) := by decide +kernel
theorem dX10_rests_51 : decode cX10_rests 51 = .ok (.invokespecial 275, 3) := by decide +kernel
theorem dX10_rests_54 : decode cX10_rests 54 = .ok (.athrow, 1) := by decide +kernel
set_option maxHeartbeats 4000000 in
set_option maxRecDepth 100000 in
theorem x_rests (l : Launch) (hst : l.stackTraces = false) (g : va_G) (aC : Nat → ClassId) (aM : Nat → Nat) (h1 h5 h18 : Nat) (x2 x3 x4 x6 x7 x8 x9 x10 x11 x12 x13 x14 x15 x16 x17 x19 x20 x21 x22 x23 x24 x25 x26 x27 x28 x29 : Value) (n_1 n_2 n_3 n_4 : Int32) : CtX l g aC aM yX10_rests cX10_rests 6 8 [.ref h1, .int n_1, .int n_2, .int n_3, .int n_4] [(h1, .inr (10, [x2, x3, x4, .ref h5, x6, x7, x8, x9, x10, x11, x12, x13, x14, x15, x16, x17])), (h5, .inr (8, [.ref h18, x19, x20, x21, x22, x23, x24, x25, x26, x27, x28, x29])), (h18, .inl (aC 0, 5, .inl (fun _ => 0)))] 1 6 := by
  intro sz
  refine vx_ofW (cc := cX10_rests) (maxL := 6) (ret := some .int) (by decide) rfl ?_
  intro p e s m args below meth c s₁ B hml htab hv
  obtain ⟨rfl, ⟨hsz, hP, hK, hD0, hM, hM2⟩, hAX, hAB⟩ := hv
  have hts0 := atoms_spec (ws := uw yX10_rests cX10_rests 6 (some .int)) B.pre
  have hts : ∀ w ∈ gw, w.before _ s = true := fun w h => hts0 w (List.mem_cons_of_mem _ h)
  subst hsz
  have hl := lv_entry [.ref h1, .int n_1, .int n_2, .int n_3, .int n_4] (n := 6) (Nat.le_of_ble_eq_true rfl)
  rw [lg_entry_eq]
  generalize (lg_sl [.ref h1, .int n_1, .int n_2, .int n_3, .int n_4] ++ List.replicate (6 - (lg_sl [.ref h1, .int n_1, .int n_2, .int n_3, .int n_4]).length) Slot.unset).toArray = ls at hl ⊢
  have hx := B.exec
  have hb := B.bytes
  have hlk := B.notSynchronized
  have hown : s.vm.findClass RX10 = some m.cls := findClass_of_methodNamed B.named
  have hD := hD0.self (sz := s.heap.size)
  have hA : ∀ q, s.heap.size ≤ q → va_A [(h1, .inr (10, [x2, x3, x4, .ref h5, x6, x7, x8, x9, x10, x11, x12, x13, x14, x15, x16, x17])), (h5, .inr (8, [.ref h18, x19, x20, x21, x22, x23, x24, x25, x26, x27, x28, x29])), (h18, .inl (aC 0, 5, .inl (fun _ => 0)))] s.heap.size q := fun q h => Or.inr h
  generalize va_A [(h1, .inr (10, [x2, x3, x4, .ref h5, x6, x7, x8, x9, x10, x11, x12, x13, x14, x15, x16, x17])), (h5, .inr (8, [.ref h18, x19, x20, x21, x22, x23, x24, x25, x26, x27, x28, x29])), (h18, .inl (aC 0, 5, .inl (fun _ => 0)))] s.heap.size = A at hD hA hM hAX ⊢
  have hS : va_S A s.heap s.heap [] := va_S.rf
  have F : Fx p s m _ c cX10_rests 6 RX10 g aC aM A := ⟨hx, hb, hml, hown, hts, hK, hA, hM, hM2⟩
  have hl : lv_has ls 6 [(0, .ref h1), (1, .int n_1), (2, .int n_2), (3, .int n_3), (4, .int n_4)] := hl
  refine lv_aload_n hx hb dX10_rests_0 rfl (lv_at hl 0 rfl) ?_
  refine xget F hP 0 rfl rfl inX10 3 (by decide) tb403 rfl dX10_rests_1 ?_
  refine lv_iconst (v := 4) hx hb dX10_rests_4 (by decide) ?_
  refine lv_iload_n hx hb dX10_rests_5 rfl (lv_at hl 1 rfl) ?_
  refine goI (wr := [(h1, .inr (10, [x2, x3, x4, .ref h5, x6, x7, x8, x9, x10, x11, x12, x13, x14, x15, x16, x17]))]) (runV (n := 2) (As := [.int 4, .int n_1]) (rest := []) F hP hD hS (k_has4 l g aC aM h5 h18 x19 x20 x21 x22 x23 x24 x25 x26 x27 x28 x29 n_1) [1, 2] (by decide) rfl 1 8 rfl rfl rfl tb654 tb761 tb652 tb653 tb9 ⟨by decide, by decide, by decide +kernel⟩ ⟨Nat.le_of_ble_eq_true rfl, Nat.le_of_ble_eq_true rfl⟩ rfl hl.1 rfl (Nat.le_of_ble_eq_true rfl) dX10_rests_6 ⟨Nat.le_of_ble_eq_true rfl, Nat.le_of_ble_eq_true rfl⟩) hP hD hS hA [1, 2] [0] rfl rfl (by decide) (by decide) (fun r_2 w3 H locs hw hP hD hS => ?_)
  have hP : va_P g vwCl [(h1, .inr (10, [x2, x3, x4, .ref h5, x6, x7, x8, x9, x10, x11, x12, x13, x14, x15, x16, x17])), (h5, .inr (8, [.ref h18, x19, x20, x21, x22, x23, x24, x25, x26, x27, x28, x29])), (h18, .inl (aC 0, 5, .inl (fun _ => 0)))] H := hP
  have hD : va_D A [(h1, .inr (10, [x2, x3, x4, .ref h5, x6, x7, x8, x9, x10, x11, x12, x13, x14, x15, x16, x17])), (h5, .inr (8, [.ref h18, x19, x20, x21, x22, x23, x24, x25, x26, x27, x28, x29])), (h18, .inl (aC 0, 5, .inl (fun _ => 0)))] := hD
  try dsimp only at hw
  subst hw
  refine lv_if_eq (tgt := 44) hx hb dX10_rests_9 (by decide) (fun _ => ?_) (fun c_ => absurd (by decide +kernel) c_)
  have hat : ∀ w ∈ xt_at RX10 275 NSE 13 rxN sup2, w.before _ s = true := vx_hat (L := atR) (B := BB) (fun w h => hts w (atR_in w h)) (fun _ h => h) (fun w h => (hAB w h).use (BB_on w h))
  exact xt_throw (mc := 1) (ms := 6) (cls := NSE) (names := sup2) (rx := rxN) hx hb hst (by decide +kernel) (by decide +kernel) (by decide +kernel) (by decide +kernel) hown (by decide +kernel) (by decide +kernel) (hts _ tb1097) (hts _ tb25) (hM2.2.2.2.2.2 4 (by decide)) hat (by decide +kernel) hAX.1 hAX.2 hS (hl.1.trans hml.symm) dX10_rests_44 dX10_rests_47 dX10_rests_48 dX10_rests_51 dX10_rests_54 (fun x h => (htab x h).elim) (by decide) (by decide) (Nat.le_of_ble_eq_true rfl) (Nat.le_of_ble_eq_true rfl) hlk (fun t _ h1 h2 => ⟨(), trivial, rfl, Nat.le_trans hS.1 h1, fun q hq hA9 => (h2 q (Nat.lt_of_lt_of_le hq hS.1)).trans (hS.2.1 q hq hA9)⟩) hS.2.2 (Nat.le_of_ble_eq_true rfl) (Nat.le_of_ble_eq_true rfl)

theorem tb1092 : (Jvm.Cond.classLink "StairGangLaw" (13 : Nat) "java/util/NoSuchElementException") ∈ gw := lw_m 1092 (by decide +kernel)
theorem tb1093 : (Jvm.Cond.methodLink "StairGangLaw" (7 : Nat) ({ cls := "StairGang", name := "rests", desc := "(IIII)I" } : Jvm.MethodName)) ∈ gw := lw_m 1093 (by decide +kernel)
theorem tb1094 : (Jvm.Cond.instanceMethod ({ cls := "StairGang", name := "rests", desc := "(IIII)I" } : Jvm.MethodName)) ∈ gw := lw_m 1094 (by decide +kernel)
theorem tb1095 : (Jvm.Cond.selects "StairGang" ({ cls := "StairGang", name := "rests", desc := "(IIII)I" } : Jvm.MethodName) ({ cls := "StairGang", name := "rests", desc := "(IIII)I" } : Jvm.MethodName)) ∈ gw := lw_m 1095 (by decide +kernel)
theorem tb1096 : (Jvm.Cond.code ({ cls := "StairGang", name := "rests", desc := "(IIII)I" } : Jvm.MethodName) prog_1_method_26_code (6 : Nat) (Option.some Jvm.ClassFile.FieldType.int)) ∈ gw := lw_m 1096 (by decide +kernel)
theorem dL_rests_0 : decode cL_rests 0 = .ok (.aload 5, 2) := by decide +kernel
theorem dL_rests_2 : decode cL_rests 2 = .ok (.iconst 0, 1) := by decide +kernel
theorem dL_rests_3 : decode cL_rests 3 = .ok (.aload_n 0, 1) := by decide +kernel
theorem dL_rests_4 : decode cL_rests 4 = .ok (.iload_n 1, 1) := by decide +kernel
theorem dL_rests_5 : decode cL_rests 5 = .ok (.iload_n 2, 1) := by decide +kernel
theorem dL_rests_6 : decode cL_rests 6 = .ok (.iload_n 3, 1) := by decide +kernel
theorem dL_rests_7 : decode cL_rests 7 = .ok (.iload 4, 2) := by decide +kernel
theorem dL_rests_9 : decode cL_rests 9 = .ok (.invokevirtual 7, 3) := by decide +kernel
theorem dL_rests_17 : decode cL_rests 17 = .ok (.astore 6, 2) := by decide +kernel
theorem dL_rests_19 : decode cL_rests 19 = .ok (.iconst 1, 1) := by decide +kernel
theorem dL_rests_20 : decode cL_rests 20 = .ok (.ireturn, 1) := by decide +kernel
def hhR : List (Nat × Nat × Nat × Nat) := [(0, 14, 17, 13)]
def uwR : List Cond := Cond.codeWith yL_rests cL_rests 7 (some .int) hhR :: gw
/-- the law's own rests: what is thrown is caught; it answers 1 -/
def CtR (l : Launch) (g : va_G) (aC : Nat → ClassId) (aM : Nat → Nat) (lv : Nat) (av : List Value) (ws : va_W) (mc ms : Nat) : Prop :=
  ∀ sz : Nat, vx_Met l yL_rests uwR (rmL lv mc ms) (va_Pc av (PrX g aC aM ws sz)) (QI g (fun (r : Int32) (_ : Unit) => r = 1) (fun _ => []) (va_A ws sz)) (vx_X (fun _ : Unit => False) (fun _ _ _ => True) (va_A ws sz)) mc ms (va_A ws sz)
set_option maxHeartbeats 4000000 in
set_option maxRecDepth 100000 in
theorem l_rests (l : Launch) (hst : l.stackTraces = false) (g : va_G) (aC : Nat → ClassId) (aM : Nat → Nat) (h1 h5 h18 : Nat) (x2 x3 x4 x6 x7 x8 x9 x10 x11 x12 x13 x14 x15 x16 x17 x19 x20 x21 x22 x23 x24 x25 x26 x27 x28 x29 : Value) (n_1 n_2 n_3 n_4 : Int32) (ho : Nat) : CtR l g aC aM 9 [.ref h1, .int n_1, .int n_2, .int n_3, .int n_4, .ref ho] [(h1, .inr (10, [x2, x3, x4, .ref h5, x6, x7, x8, x9, x10, x11, x12, x13, x14, x15, x16, x17])), (h5, .inr (8, [.ref h18, x19, x20, x21, x22, x23, x24, x25, x26, x27, x28, x29])), (h18, .inl (aC 0, 5, .inl (fun _ => 0)))] 1 6 := by
  intro sz
  refine vx_ofWH (cc := cL_rests) (maxL := 7) (ret := some .int) (hh := hhR) (by decide) rfl ?_
  intro p e s m args below meth c s₁ B hml hv
  obtain ⟨rfl, ⟨hsz, hP, hK, hD0, hM, hM2⟩, hAX, hAB⟩ := hv
  have hts0 := atoms_spec (ws := uwR) B.pre
  have hts : ∀ w ∈ gw, w.before _ s = true := fun w h => hts0 w (List.mem_cons_of_mem _ h)
  have htab := vx_table (x := yL_rests) B (hts0 _ List.mem_cons_self)
  subst hsz
  have hl := lv_entry [.ref h1, .int n_1, .int n_2, .int n_3, .int n_4, .ref ho] (n := 7) (Nat.le_of_ble_eq_true rfl)
  rw [lg_entry_eq]
  generalize (lg_sl [.ref h1, .int n_1, .int n_2, .int n_3, .int n_4, .ref ho] ++ List.replicate (7 - (lg_sl [.ref h1, .int n_1, .int n_2, .int n_3, .int n_4, .ref ho]).length) Slot.unset).toArray = ls at hl ⊢
  have hx := B.exec
  have hb := B.bytes
  have hr := B.returns
  have hlk := B.notSynchronized
  have hown : s.vm.findClass RL = some m.cls := findClass_of_methodNamed B.named
  have hD := hD0.self (sz := s.heap.size)
  have hA : ∀ q, s.heap.size ≤ q → va_A [(h1, .inr (10, [x2, x3, x4, .ref h5, x6, x7, x8, x9, x10, x11, x12, x13, x14, x15, x16, x17])), (h5, .inr (8, [.ref h18, x19, x20, x21, x22, x23, x24, x25, x26, x27, x28, x29])), (h18, .inl (aC 0, 5, .inl (fun _ => 0)))] s.heap.size q := fun q h => Or.inr h
  generalize hAe : va_A [(h1, .inr (10, [x2, x3, x4, .ref h5, x6, x7, x8, x9, x10, x11, x12, x13, x14, x15, x16, x17])), (h5, .inr (8, [.ref h18, x19, x20, x21, x22, x23, x24, x25, x26, x27, x28, x29])), (h18, .inl (aC 0, 5, .inl (fun _ => 0)))] s.heap.size = A at hD hA hM hAX ⊢
  have hS : va_S A s.heap s.heap [] := va_S.rf
  have F : Fx p s m _ c cL_rests 7 RL g aC aM A := ⟨hx, hb, hml, hown, hts, hK, hA, hM, hM2⟩
  have hl : lv_has ls 7 [(0, .ref h1), (1, .int n_1), (2, .int n_2), (3, .int n_3), (4, .int n_4), (5, .ref ho)] := hl
  refine lv_aload hx hb dL_rests_0 (lv_at hl 5 rfl) ?_
  refine lv_iconst (v := 0) hx hb dL_rests_2 (by decide) ?_
  refine lv_aload_n hx hb dL_rests_3 rfl (lv_at hl 0 rfl) ?_
  refine lv_iload_n hx hb dL_rests_4 rfl (lv_at hl 1 rfl) ?_
  refine lv_iload_n hx hb dL_rests_5 rfl (lv_at hl 2 rfl) ?_
  refine lv_iload_n hx hb dL_rests_6 rfl (lv_at hl 3 rfl) ?_
  refine lv_iload hx hb dL_rests_7 (lv_at hl 4 rfl) ?_
  have hG : GoodIn gw (wsV RL 7 RX10 yX10_rests (uw yX10_rests cX10_rests 6 (some .int))) := fun w hw => by
    rcases List.mem_append.mp hw with h | h
    · have hm : w ∈ gw := by
        simp only [List.mem_cons, List.not_mem_nil, or_false] at h
        rcases h with h | h | h | h
        · rw [h]; exact tb1093
        · rw [h]; exact tb1094
        · rw [h]; exact tb1095
        · rw [h]; exact tb1
      exact ⟨hm, good_of_word (List.all_eq_true.mp lw_good w hm)⟩
    · exact uw_good tb1096 w h
  have hF := va_free (wc := [(h1, .inr (10, [x2, x3, x4, .ref h5, x6, x7, x8, x9, x10, x11, x12, x13, x14, x15, x16, x17])), (h5, .inr (8, [.ref h18, x19, x20, x21, x22, x23, x24, x25, x26, x27, x28, x29])), (h18, .inl (aC 0, 5, .inl (fun _ => 0)))]) hD hS hA [0, 1, 2] rfl
  have hrun := vx_runV (e := e) (below := below) (meth := meth) (R := (headSpec uwR (rmL 9 1 6)).room) (cells := 0) (slots := 0) (locs := []) (g := F0 m 9 ls [.int n_4, .int n_3, .int n_2, .int n_1, .ref h1, .int 0, .ref ho]) (As := [.int n_1, .int n_2, .int n_3, .int n_4]) (rest := [.int 0, .ref ho]) (C := RX10) (Ts := gw) (own := RL) (n := 4) ⟨hx, hb, hml, hown, hts⟩ (x_rests l hst g aC aM h1 h5 h18 x2 x3 x4 x6 x7 x8 x9 x10 x11 x12 x13 x14 x15 x16 x17 x19 x20 x21 x22 x23 x24 x25 x26 x27 x28 x29 n_1 n_2 n_3 n_4 s.heap.size) (cwV 4 hts hG rfl rfl rfl (by decide +kernel) ⟨Nat.le_of_ble_eq_true rfl, Nat.le_of_ble_eq_true rfl⟩) ⟨PrX.blind, va_recv hK hP (ci := 10) (q0 := 0) rfl rfl, preX_of F hAX hAB hP hD hS [0, 1, 2] (by decide) rfl⟩ rfl rfl hl.1 rfl (lv_room (Nat.le_of_ble_eq_true rfl)) dL_rests_9 ⟨Nat.le_of_ble_eq_true rfl, Nat.le_of_ble_eq_true rfl⟩
  refine vx_calli hrun hS (fun q _ h => hF q h) hF (fun q _ h => hF q h) (fun E ce q9 u t H1 locs1 ht hvm hp hB hz1 hk1 hS1 hce hcv hcl => ?_) (fun r u t H1 locs1 ht hvm hw hB hz1 hk1 hS1 => absurd hw id)
  have hE : E = NSE := hB
  subst hE
  refine vx_catch (name := NSE) hown [] ⟨0, 14, 17, 13⟩ [] htab (fun z h => absurd h List.not_mem_nil) (by decide) (by decide) (hts _ tb1092) ((hAB (.castable NSE NSE) (by decide +kernel)).use rfl) hce hcv hcl ?_
  refine lv_astore (lv' := [(6, .ref q9), (0, .ref h1), (1, .int n_1), (2, .int n_2), (3, .int n_3), (4, .int n_4), (5, .ref ho)]) hx hb dL_rests_17 hl (by decide) rfl (fun ls hl => ?_)
  refine lv_iconst (v := 1) hx hb dL_rests_19 (by decide) ?_
  refine vx_ret ?_
  exact rI () hx hb hr hlk rfl hS1 rfl (fun k q h => by simp at h) ⟨fun i j p q h => by simp at h, fun k q h => by simp at h⟩ (Nat.le_of_ble_eq_true rfl) (Nat.le_of_ble_eq_true rfl) dL_rests_20

theorem dX11_isHill_0 : decode cX11_isHill 0 = .ok (.iload_n 1, 1) := by decide +kernel
theorem dX11_isHill_1 : decode cX11_isHill 1 = .ok (.ifCond .lt 17, 3) := by decide +kernel
theorem dX11_isHill_4 : decode cX11_isHill 4 = .ok (.iload_n 1, 1) := by decide +kernel
theorem dX11_isHill_5 : decode cX11_isHill 5 = .ok (.aload_n 0, 1) := by decide +kernel
theorem dX11_isHill_6 : decode cX11_isHill 6 = .ok (.getfield 13, 3) := by decide +kernel
theorem dX11_isHill_9 : decode cX11_isHill 9 = .ok (.iconst 4, 1) := by decide +kernel
theorem dX11_isHill_10 : decode cX11_isHill 10 = .ok (.iaload, 1) := by decide +kernel
theorem dX11_isHill_11 : decode cX11_isHill 11 = .ok (.if_icmp .ge 7, 3) := by decide +kernel
theorem dX11_isHill_18 : decode cX11_isHill 18 = .ok (.iconst 0, 1) := by decide +kernel
theorem dX11_isHill_19 : decode cX11_isHill 19 = .ok (.ireturn, 1) := by decide +kernel
theorem dX11_rests_0 : decode cX11_rests 0 = .ok (.aload_n 0, 1) := by decide +kernel
theorem dX11_rests_1 : decode cX11_rests 1 = .ok (.aload_n 0, 1) := by decide +kernel
theorem dX11_rests_2 : decode cX11_rests 2 = .ok (.iload_n 1, 1) := by decide +kernel
theorem dX11_rests_3 : decode cX11_rests 3 = .ok (.invokevirtual 568, 3) := by decide +kernel
set_option maxHeartbeats 4000000 in
set_option maxRecDepth 100000 in
theorem a_X11_isHill_1 (l : Launch) (g : va_G) (aC : Nat → ClassId) (aM : Nat → Nat) (h1 h13 : Nat) (x3 x4 x5 x6 x7 x8 x9 x10 x11 x12 x14 x15 x16 x17 x18 x19 x20 x21 x22 x23 x24 x25 x26 x27 x28 x29 x30 x31 x32 x33 x34 x35 x36 x37 x38 x39 x40 x41 x42 x43 x44 x45 x46 x47 x48 x49 x50 x51 x52 x53 x54 x55 x56 x57 x58 x59 x60 x61 x62 x63 x64 x65 x66 x67 x68 x69 x70 x71 x72 x73 x74 x75 x76 : Value) (n2 : Int32) : Ct l g aC aM yX11_isHill cX11_isHill 2 (some .boolean) 1 [.ref h1, .int n2] [(h1, .inr (11, [x3, x4, x5, x6, x7, x8, x9, x10, x11, x12, .ref h13, x14, x15, x16, x17, x18, x19, x20, x21, x22, x23, x24, x25, x26, x27, x28, x29, x30, x31, x32, x33, x34, x35, x36, x37, x38, x39, x40, x41, x42, x43, x44, x45, x46, x47, x48, x49, x50, x51, x52, x53, x54, x55, x56, x57, x58, x59, x60, x61, x62, x63, x64, x65, x66, x67, x68, x69, x70, x71, x72, x73, x74, x75, x76])), (h13, .inl (aC 0, 14, .inl (fun _ => 0)))] (QI g (fun (r : Int32) (_ : Unit) => r = 0) (fun (_ : Unit) => [(h1, .inr (11, [x3, x4, x5, x6, x7, x8, x9, x10, x11, x12, .ref h13, x14, x15, x16, x17, x18, x19, x20, x21, x22, x23, x24, x25, x26, x27, x28, x29, x30, x31, x32, x33, x34, x35, x36, x37, x38, x39, x40, x41, x42, x43, x44, x45, x46, x47, x48, x49, x50, x51, x52, x53, x54, x55, x56, x57, x58, x59, x60, x61, x62, x63, x64, x65, x66, x67, x68, x69, x70, x71, x72, x73, x74, x75, x76])), (h13, .inl (aC 0, 14, .inl (fun _ => 0)))])) 0 0 := by
  refine Ct.mk (by decide) (Nat.le_of_ble_eq_true rfl) ?_
  intro p e s m below meth c A ls hx hb hml hown hts hr hlk hnm hK hA hM hM2 hP hD hS hl
  have hown : s.vm.findClass RX11 = some m.cls := hown
  have F : Fx p s m _ c cX11_isHill 2 RX11 g aC aM A := ⟨hx, hb, hml, hown, hts, hK, hA, hM, hM2⟩
  have hl : lv_has ls 2 [(0, .ref h1), (1, .int n2)] := hl
  refine lv_iload_n hx hb dX11_isHill_0 rfl (lv_at hl 1 rfl) ?_
  refine lv_if_lt (tgt := 18) hx hb dX11_isHill_1 (by decide) (fun c1 => ?_) (fun c1 => ?_)
  · refine lv_iconst (v := 0) hx hb dX11_isHill_18 (by decide) ?_
    have hP9 := hP.sub (ws' := [(h1, .inr (11, [x3, x4, x5, x6, x7, x8, x9, x10, x11, x12, .ref h13, x14, x15, x16, x17, x18, x19, x20, x21, x22, x23, x24, x25, x26, x27, x28, x29, x30, x31, x32, x33, x34, x35, x36, x37, x38, x39, x40, x41, x42, x43, x44, x45, x46, x47, x48, x49, x50, x51, x52, x53, x54, x55, x56, x57, x58, x59, x60, x61, x62, x63, x64, x65, x66, x67, x68, x69, x70, x71, x72, x73, x74, x75, x76])), (h13, .inl (aC 0, 14, .inl (fun _ => 0)))]) [0, 1] rfl
    have hD9 := hD.sub (ws' := [(h1, .inr (11, [x3, x4, x5, x6, x7, x8, x9, x10, x11, x12, .ref h13, x14, x15, x16, x17, x18, x19, x20, x21, x22, x23, x24, x25, x26, x27, x28, x29, x30, x31, x32, x33, x34, x35, x36, x37, x38, x39, x40, x41, x42, x43, x44, x45, x46, x47, x48, x49, x50, x51, x52, x53, x54, x55, x56, x57, x58, x59, x60, x61, x62, x63, x64, x65, x66, x67, x68, x69, x70, x71, x72, x73, x74, x75, x76])), (h13, .inl (aC 0, 14, .inl (fun _ => 0)))]) [0, 1] (by decide) rfl
    exact rI () hx hb hr hlk rfl hS rfl hP9 hD9 (Nat.le_of_ble_eq_true rfl) (Nat.le_of_ble_eq_true rfl) dX11_isHill_19
  · refine lv_iload_n hx hb dX11_isHill_4 rfl (lv_at hl 1 rfl) ?_
    refine lv_aload_n hx hb dX11_isHill_5 rfl (lv_at hl 0 rfl) ?_
    refine xget F hP 0 rfl rfl inX11 10 (by decide) tb1192 rfl dX11_isHill_6 ?_
    refine lv_iconst (v := 4) hx hb dX11_isHill_9 (by decide) ?_
    refine xilo (v := 0) F hP 1 rfl 4 (by decide +kernel) (by decide +kernel) (by decide) (by decide +kernel) dX11_isHill_10 ?_
    refine lv_icmp_ge (tgt := 18) hx hb dX11_isHill_11 (by decide) (fun c2 => ?_) (fun c2 => ?_)
    · refine lv_iconst (v := 0) hx hb dX11_isHill_18 (by decide) ?_
      have hP9 := hP.sub (ws' := [(h1, .inr (11, [x3, x4, x5, x6, x7, x8, x9, x10, x11, x12, .ref h13, x14, x15, x16, x17, x18, x19, x20, x21, x22, x23, x24, x25, x26, x27, x28, x29, x30, x31, x32, x33, x34, x35, x36, x37, x38, x39, x40, x41, x42, x43, x44, x45, x46, x47, x48, x49, x50, x51, x52, x53, x54, x55, x56, x57, x58, x59, x60, x61, x62, x63, x64, x65, x66, x67, x68, x69, x70, x71, x72, x73, x74, x75, x76])), (h13, .inl (aC 0, 14, .inl (fun _ => 0)))]) [0, 1] rfl
      have hD9 := hD.sub (ws' := [(h1, .inr (11, [x3, x4, x5, x6, x7, x8, x9, x10, x11, x12, .ref h13, x14, x15, x16, x17, x18, x19, x20, x21, x22, x23, x24, x25, x26, x27, x28, x29, x30, x31, x32, x33, x34, x35, x36, x37, x38, x39, x40, x41, x42, x43, x44, x45, x46, x47, x48, x49, x50, x51, x52, x53, x54, x55, x56, x57, x58, x59, x60, x61, x62, x63, x64, x65, x66, x67, x68, x69, x70, x71, x72, x73, x74, x75, x76])), (h13, .inl (aC 0, 14, .inl (fun _ => 0)))]) [0, 1] (by decide) rfl
      exact rI () hx hb hr hlk rfl hS rfl hP9 hD9 (Nat.le_of_ble_eq_true rfl) (Nat.le_of_ble_eq_true rfl) dX11_isHill_19
    · exfalso
      simp only [Int32.lt_iff_toInt_lt, Int32.le_iff_toInt_le, ← Int32.toInt_inj, show (0 : Int32).toInt = 0 by decide] at c1 c2; omega

theorem tb1866 : (Jvm.Cond.methodLink "StairGangModel" (568 : Nat) ({ cls := "StairGangModel", name := "isHill", desc := "(I)Z" } : Jvm.MethodName)) ∈ gw := lw_m 1866 (by decide +kernel)
theorem tb1868 : (Jvm.Cond.instanceMethod ({ cls := "StairGangModel", name := "isHill", desc := "(I)Z" } : Jvm.MethodName)) ∈ gw := lw_m 1868 (by decide +kernel)
theorem tb1869 : (Jvm.Cond.code ({ cls := "StairGangModel", name := "isHill", desc := "(I)Z" } : Jvm.MethodName) prog_13_method_58_code (2 : Nat) (Option.some Jvm.ClassFile.FieldType.boolean)) ∈ gw := lw_m 1869 (by decide +kernel)
theorem tv107 : Cond.selects "StairGangModel" ⟨"StairGangModel", "isHill", "(I)Z"⟩ ⟨"StairGangModel", "isHill", "(I)Z"⟩ ∈ gw := lw_v 107 (by decide +kernel)
theorem dX11_rests_6 : decode cX11_rests 6 = .ok (.ifCond .eq 48, 3) := by decide +kernel
theorem dX11_rests_54 : decode cX11_rests 54 = .ok (.iconst 1, 1) := by decide +kernel
theorem dX11_rests_55 : decode cX11_rests 55 = .ok (.putfield 180, 3) := by decide +kernel
theorem dX11_rests_58 : decode cX11_rests 58 = .ok (.aload_n 0, 1) := by decide +kernel
theorem dX11_rests_59 : decode cX11_rests 59 = .ok (.getfield 180, 3) := by decide +kernel
theorem dX11_rests_62 : decode cX11_rests 62 = .ok (.iconst 1, 1) := by decide +kernel
theorem dX11_rests_63 : decode cX11_rests 63 = .ok (.if_icmp .ne 5, 3) := by decide +kernel
theorem dX11_rests_66 : decode cX11_rests 66 = .ok (.iconst 0, 1) := by decide +kernel
theorem dX11_rests_67 : decode cX11_rests 67 = .ok (.ireturn, 1) := by decide +kernel
set_option maxHeartbeats 4000000 in
set_option maxRecDepth 100000 in
theorem m_rests (l : Launch) (g : va_G) (aC : Nat → ClassId) (aM : Nat → Nat) (h1 h11 : Nat) (x2 x3 x4 x5 x6 x7 x8 x9 x10 x12 x13 x14 x15 x16 x17 x18 x19 x20 x21 x22 x23 x24 x25 x26 x27 x28 x29 x30 x31 x32 x33 x34 x35 x36 x37 x38 x39 x40 x41 x42 x43 x44 x45 x46 x47 x48 x49 x50 x51 x52 x53 x54 x55 x56 x57 x58 x59 x60 x61 x62 x63 x64 x65 x66 x67 x68 x69 x70 x71 x72 x73 x74 : Value) (n_1 n_2 n_3 n_4 : Int32) : Ct l g aC aM yX11_rests cX11_rests 7 (some .int) 2 [.ref h1, .int n_1, .int n_2, .int n_3, .int n_4] [(h1, .inr (11, [.int 0, x2, x3, x4, x5, x6, x7, x8, x9, x10, .ref h11, x12, x13, x14, x15, x16, x17, x18, x19, x20, x21, x22, x23, x24, x25, x26, x27, x28, x29, x30, x31, x32, x33, x34, x35, x36, x37, x38, x39, x40, x41, x42, x43, x44, x45, x46, x47, x48, x49, x50, x51, x52, x53, x54, x55, x56, x57, x58, x59, x60, x61, x62, x63, x64, x65, x66, x67, x68, x69, x70, x71, x72, x73, x74])), (h11, .inl (aC 0, 14, .inl (fun _ => 0)))] (QI g (fun (r : Int32) (_ : Unit) => r = 0) (fun (_ : Unit) => [(h1, .inr (11, [.int 1, x2, x3, x4, x5, x6, x7, x8, x9, x10, .ref h11, x12, x13, x14, x15, x16, x17, x18, x19, x20, x21, x22, x23, x24, x25, x26, x27, x28, x29, x30, x31, x32, x33, x34, x35, x36, x37, x38, x39, x40, x41, x42, x43, x44, x45, x46, x47, x48, x49, x50, x51, x52, x53, x54, x55, x56, x57, x58, x59, x60, x61, x62, x63, x64, x65, x66, x67, x68, x69, x70, x71, x72, x73, x74]))])) 0 0 := by
  refine Ct.mk (by decide) (Nat.le_of_ble_eq_true rfl) ?_
  intro p e s m below meth c A ls hx hb hml hown hts hr hlk hnm hK hA hM hM2 hP hD hS hl
  have hown : s.vm.findClass RX11 = some m.cls := hown
  have F : Fx p s m _ c cX11_rests 7 RX11 g aC aM A := ⟨hx, hb, hml, hown, hts, hK, hA, hM, hM2⟩
  have hl : lv_has ls 7 [(0, .ref h1), (1, .int n_1), (2, .int n_2), (3, .int n_3), (4, .int n_4)] := hl
  refine lv_aload_n hx hb dX11_rests_0 rfl (lv_at hl 0 rfl) ?_
  refine lv_aload_n hx hb dX11_rests_1 rfl (lv_at hl 0 rfl) ?_
  refine lv_iload_n hx hb dX11_rests_2 rfl (lv_at hl 1 rfl) ?_
  refine goI (wr := []) (runV (n := 1) (As := [.int n_1]) (rest := [.ref h1]) F hP hD hS (a_X11_isHill_1 l g aC aM h1 h11 (.int 0) x2 x3 x4 x5 x6 x7 x8 x9 x10 x12 x13 x14 x15 x16 x17 x18 x19 x20 x21 x22 x23 x24 x25 x26 x27 x28 x29 x30 x31 x32 x33 x34 x35 x36 x37 x38 x39 x40 x41 x42 x43 x44 x45 x46 x47 x48 x49 x50 x51 x52 x53 x54 x55 x56 x57 x58 x59 x60 x61 x62 x63 x64 x65 x66 x67 x68 x69 x70 x71 x72 x73 x74 n_1) [0, 1] (by decide) rfl 0 11 rfl rfl rfl tb1869 tb1866 tb1868 tv107 tb17 ⟨by decide, by decide, by decide +kernel⟩ ⟨Nat.le_of_ble_eq_true rfl, Nat.le_of_ble_eq_true rfl⟩ rfl hl.1 rfl (Nat.le_of_ble_eq_true rfl) dX11_rests_3 ⟨Nat.le_of_ble_eq_true rfl, Nat.le_of_ble_eq_true rfl⟩) hP hD hS hA [0, 1] [] rfl rfl (by decide) (by decide) (fun r_2 w3 H locs hw hP hD hS => ?_)
  have hP : va_P g vwCl [(h1, .inr (11, [.int 0, x2, x3, x4, x5, x6, x7, x8, x9, x10, .ref h11, x12, x13, x14, x15, x16, x17, x18, x19, x20, x21, x22, x23, x24, x25, x26, x27, x28, x29, x30, x31, x32, x33, x34, x35, x36, x37, x38, x39, x40, x41, x42, x43, x44, x45, x46, x47, x48, x49, x50, x51, x52, x53, x54, x55, x56, x57, x58, x59, x60, x61, x62, x63, x64, x65, x66, x67, x68, x69, x70, x71, x72, x73, x74])), (h11, .inl (aC 0, 14, .inl (fun _ => 0)))] H := hP
  have hD : va_D A [(h1, .inr (11, [.int 0, x2, x3, x4, x5, x6, x7, x8, x9, x10, .ref h11, x12, x13, x14, x15, x16, x17, x18, x19, x20, x21, x22, x23, x24, x25, x26, x27, x28, x29, x30, x31, x32, x33, x34, x35, x36, x37, x38, x39, x40, x41, x42, x43, x44, x45, x46, x47, x48, x49, x50, x51, x52, x53, x54, x55, x56, x57, x58, x59, x60, x61, x62, x63, x64, x65, x66, x67, x68, x69, x70, x71, x72, x73, x74])), (h11, .inl (aC 0, 14, .inl (fun _ => 0)))] := hD
  try dsimp only at hw
  subst hw
  refine lv_if_eq (tgt := 54) hx hb dX11_rests_6 (by decide) (fun _ => ?_) (fun c_ => absurd (by decide +kernel) c_)
  refine lv_iconst (v := 1) hx hb dX11_rests_54 (by decide) ?_
  refine xput F hP hD hS 0 rfl rfl inX11 tyX11_ok nmX11 0 (by decide) tb1182 rfl rfl rfl (Nat.le_of_ble_eq_true rfl) dX11_rests_55 (fun H locs hP hD hS => ?_)
  have hP : va_P g vwCl [(h1, .inr (11, [.int 1, x2, x3, x4, x5, x6, x7, x8, x9, x10, .ref h11, x12, x13, x14, x15, x16, x17, x18, x19, x20, x21, x22, x23, x24, x25, x26, x27, x28, x29, x30, x31, x32, x33, x34, x35, x36, x37, x38, x39, x40, x41, x42, x43, x44, x45, x46, x47, x48, x49, x50, x51, x52, x53, x54, x55, x56, x57, x58, x59, x60, x61, x62, x63, x64, x65, x66, x67, x68, x69, x70, x71, x72, x73, x74])), (h11, .inl (aC 0, 14, .inl (fun _ => 0)))] H := hP
  have hD : va_D A [(h1, .inr (11, [.int 1, x2, x3, x4, x5, x6, x7, x8, x9, x10, .ref h11, x12, x13, x14, x15, x16, x17, x18, x19, x20, x21, x22, x23, x24, x25, x26, x27, x28, x29, x30, x31, x32, x33, x34, x35, x36, x37, x38, x39, x40, x41, x42, x43, x44, x45, x46, x47, x48, x49, x50, x51, x52, x53, x54, x55, x56, x57, x58, x59, x60, x61, x62, x63, x64, x65, x66, x67, x68, x69, x70, x71, x72, x73, x74])), (h11, .inl (aC 0, 14, .inl (fun _ => 0)))] := hD
  refine lv_aload_n hx hb dX11_rests_58 rfl (lv_at hl 0 rfl) ?_
  refine xget F hP 0 rfl rfl inX11 0 (by decide) tb1182 rfl dX11_rests_59 ?_
  refine lv_iconst (v := 1) hx hb dX11_rests_62 (by decide) ?_
  refine lv_icmp_ne (tgt := 68) hx hb dX11_rests_63 (by decide) (fun c_ => absurd (by decide +kernel) c_) (fun _ => ?_)
  refine lv_iconst (v := 0) hx hb dX11_rests_66 (by decide) ?_
  have hP9 := hP.sub (ws' := [(h1, .inr (11, [.int 1, x2, x3, x4, x5, x6, x7, x8, x9, x10, .ref h11, x12, x13, x14, x15, x16, x17, x18, x19, x20, x21, x22, x23, x24, x25, x26, x27, x28, x29, x30, x31, x32, x33, x34, x35, x36, x37, x38, x39, x40, x41, x42, x43, x44, x45, x46, x47, x48, x49, x50, x51, x52, x53, x54, x55, x56, x57, x58, x59, x60, x61, x62, x63, x64, x65, x66, x67, x68, x69, x70, x71, x72, x73, x74]))]) [0] rfl
  have hD9 := hD.sub (ws' := [(h1, .inr (11, [.int 1, x2, x3, x4, x5, x6, x7, x8, x9, x10, .ref h11, x12, x13, x14, x15, x16, x17, x18, x19, x20, x21, x22, x23, x24, x25, x26, x27, x28, x29, x30, x31, x32, x33, x34, x35, x36, x37, x38, x39, x40, x41, x42, x43, x44, x45, x46, x47, x48, x49, x50, x51, x52, x53, x54, x55, x56, x57, x58, x59, x60, x61, x62, x63, x64, x65, x66, x67, x68, x69, x70, x71, x72, x73, x74]))]) [0] (by decide) rfl
  exact rI () hx hb hr hlk rfl hS rfl hP9 hD9 (Nat.le_of_ble_eq_true rfl) (Nat.le_of_ble_eq_true rfl) dX11_rests_67

theorem dX11_thrown_0 : decode cX11_thrown 0 = .ok (.aload_n 0, 1) := by decide +kernel
theorem dX11_thrown_1 : decode cX11_thrown 1 = .ok (.getfield 180, 3) := by decide +kernel
theorem dX11_thrown_4 : decode cX11_thrown 4 = .ok (.ireturn, 1) := by decide +kernel
set_option maxHeartbeats 4000000 in
set_option maxRecDepth 100000 in
theorem m_thrown (l : Launch) (g : va_G) (aC : Nat → ClassId) (aM : Nat → Nat) (h0 : Nat) (x1 x2 x3 x4 x5 x6 x7 x8 x9 x10 x11 x12 x13 x14 x15 x16 x17 x18 x19 x20 x21 x22 x23 x24 x25 x26 x27 x28 x29 x30 x31 x32 x33 x34 x35 x36 x37 x38 x39 x40 x41 x42 x43 x44 x45 x46 x47 x48 x49 x50 x51 x52 x53 x54 x55 x56 x57 x58 x59 x60 x61 x62 x63 x64 x65 x66 x67 x68 x69 x70 x71 x72 x73 : Value) : Ct l g aC aM yX11_thrown cX11_thrown 1 (some .int) 1 [.ref h0] [(h0, .inr (11, [.int 1, x1, x2, x3, x4, x5, x6, x7, x8, x9, x10, x11, x12, x13, x14, x15, x16, x17, x18, x19, x20, x21, x22, x23, x24, x25, x26, x27, x28, x29, x30, x31, x32, x33, x34, x35, x36, x37, x38, x39, x40, x41, x42, x43, x44, x45, x46, x47, x48, x49, x50, x51, x52, x53, x54, x55, x56, x57, x58, x59, x60, x61, x62, x63, x64, x65, x66, x67, x68, x69, x70, x71, x72, x73]))] (QI g (fun (r : Int32) (_ : Unit) => r = 1) (fun (_ : Unit) => [])) 0 0 := by
  refine Ct.mk (by decide) (Nat.le_of_ble_eq_true rfl) ?_
  intro p e s m below meth c A ls hx hb hml hown hts hr hlk hnm hK hA hM hM2 hP hD hS hl
  have hown : s.vm.findClass RX11 = some m.cls := hown
  have F : Fx p s m _ c cX11_thrown 1 RX11 g aC aM A := ⟨hx, hb, hml, hown, hts, hK, hA, hM, hM2⟩
  have hl : lv_has ls 1 [(0, .ref h0)] := hl
  refine lv_aload_n hx hb dX11_thrown_0 rfl (lv_at hl 0 rfl) ?_
  refine xget F hP 0 rfl rfl inX11 0 (by decide) tb1182 rfl dX11_thrown_1 ?_
  have hP9 := hP.sub (ws' := []) [] rfl
  have hD9 := hD.sub (ws' := []) [] (by decide) rfl
  exact rI () hx hb hr hlk rfl hS rfl hP9 hD9 (Nat.le_of_ble_eq_true rfl) (Nat.le_of_ble_eq_true rfl) dX11_thrown_4
