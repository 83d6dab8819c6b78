/-! THE CLAIM OUT OF ONE WALK OF THE LAW'S BODY -/
def R_law : String := "StairGangLaw"
def lw_P (b : Addr) (xs : List Int32) (args : Array Value) (s : State) : Prop := args = #[.ref b] ∧ s.IntsAt b xs ∧ xs.length ≤ 3584 ∧ (Jvm.Cond.and given_1 narrow_1).before args s = true
def lw_Q (_ : Array Value) (s : State) (o : Outcome) (t : State) : Prop := o = .returned (some (.int 1)) ∧ Framed s o t [] 601024 7293034
def lw_Z (below : List Frame) (a : Array Value) (s : State) : State → Prop := fun t => ∃ o, t.status = .running ∧ Ended t below o ∧ lw_Q a s o t
/-- the law's own end, with 1 on the stack, nothing written that was there before, its room as the claim has it -/
theorem lw_ret {p : Program} {l : Launch} {e : Env} {s : State} {m : MethodId} {below : List Frame} {meth : Method} {c : Code} {b : Nat} (hx : p.tables.exec = Jvm.exec) (hb : c.code = code) (hr : meth.sig.returnType = ret) (hlocks : meth.locks = false) {pc : Nat} {H : Heap} {ls : Array Slot} (hdg : decode code pc = .ok (.ireturn, 1)) : W p l e room_1 s m #[Value.ref b] below meth c H [] 601024 7293034 (lw_Z below #[Value.ref b] s) (F0 m pc ls [.int 1]) := by
  intro T hT X
  obtain ⟨fs, hret, hrun, hended, hW, hframe⟩ := X.leave (v := some (.int 1)) (hlocks := hlocks) (fun h => by rw [hr] at h; cases h)
  have hmeth' : T.vm.method? m = some meth := X.method'
  refine ⟨T.setFrames fs, ?_, .returned (some (.int 1)), hrun, hended, rfl, ⟨_, rfl⟩, hW, hframe⟩
  jvm_step X.here [X.here.top, hx, hb, hdg, hmeth', hr, ret, narrow_b1]
  (try refine ⟨rfl, ?_⟩); (try refine ⟨rfl, ?_⟩)
  first | (intro acts; rw [hret _ acts rfl rfl rfl]) | rw [hret _ _ rfl rfl rfl]
  exact Steps.refl _
/-- what holds at the law's entry -/
def lw_At (p : Program) (s : State) (m : MethodId) (meth : Method) (c : Code) (b L : Nat) (xs : Nat → Int32) : Prop :=
  p.tables.exec = Jvm.exec ∧ c.code = code ∧ meth.sig.returnType = ret ∧ c.maxLocals = 7 ∧ s.vm.findClass R_law = some m.cls ∧ (∀ w ∈ lw_tbl, w.before #[Value.ref b] s = true) ∧ va_X b L xs s s.heap ∧ b < s.heap.size ∧ meth.locks = false ∧ (Jvm.Cond.and given_1 narrow_1).before #[Value.ref b] s = true
theorem law_add {i c : Int32} {k j : Nat} (hi : i.toInt = (k : Int)) (hc : c.toInt = (j : Int)) (hk : k ≤ 3584) (hj : j < 8) : (i + c).toInt = ((k + j : Nat) : Int) := by
  rw [Int32.toInt_add, hi, hc]
  exact (bm32 (by omega) (by omega)).trans (by omega)
theorem law_nc {i : Int32} {k : Nat} (hi : i.toInt = (k : Int)) : ¬ i < 0 ∧ i.toNatClampNeg = k := by
  refine ⟨?_, ?_⟩
  · rw [Int32.lt_iff_toInt_lt, hi]
    show ¬ ((k : Int) < 0)
    omega
  · rw [← Int32.toNat_toInt, hi]
    exact Int.toNat_natCast k
theorem law_in {i c : Int32} {k L : Nat} (j : Nat) (hi : i.toInt = (k : Int)) (hk7 : k + 7 ≤ L) (hL : L ≤ 3584) (hc : c.toInt = (j : Int)) (hj : j < 7) : vp_in (i + c) L := by
  have h := law_nc (law_add hi hc (by omega) (by omega))
  exact vpin (j := k + j) h.1 h.2 (by omega)
theorem law_in0 {i : Int32} {k L : Nat} (hi : i.toInt = (k : Int)) (hk7 : k + 7 ≤ L) : vp_in i L := vpin (j := k) (law_nc hi).1 (law_nc hi).2 (by omega)
theorem law_cmp {i : Int32} {k L : Nat} (hi : i.toInt = (k : Int)) (hL : L ≤ 3584) : Int32.ofNat L - 7 < i ↔ L < k + 7 := by
  have e : (Int32.ofNat L - 7).toInt = (L : Int) - 7 := by
    rw [Int32.toInt_sub, Int32.toInt_ofNat_of_lt (by omega)]
    exact bm32 (by show -2147483648 ≤ (L : Int) - 7; omega) (by show (L : Int) - 7 ≤ 2147483647; omega)
  rw [Int32.lt_iff_toInt_lt, e, hi]
  omega
theorem obj_x {h : Ph} (hi : hI HTw RGw 229 h) : ∃ fs, h 0 = .inr (10, fs) := by
  obtain ⟨fs, e, -⟩ : ∃ fs, h 0 = .inr (10, fs) ∧ fs.length = 16 := (hi.1 0 (by decide)).2.1
  exact ⟨fs, e⟩
theorem obj_m {h : Ph} (hi : hI HTw RGw 229 h) : ∃ fs, h 172 = .inr (11, fs) := by
  obtain ⟨fs, e, -⟩ : ∃ fs, h 172 = .inr (11, fs) ∧ fs.length = 74 := (hi.1 172 (by decide)).2.1
  exact ⟨fs, e⟩
section La
variable {p : Program} {l : Launch} {e : Env} {s : State} {m : MethodId} {args : Array Value} {below : List Frame} {meth : Method} {c : Code} {H : Heap} {locs : List Loc} {cells slots : Nat} {Q : State → Prop}
variable {g : va_G} {aC : Nat → ClassId} {aM ad : Nat → Nat} {A : Nat → Prop} {oa : Nat} {fo : Nat → Int64} {h : Ph} {ls : Array Slot} {pc : Nat} {st0 rest : List Value}
theorem law_noQ {R : Room} {f : JFrame} {mc ms : Nat} {Qa : State → Outcome → State → Prop} {fr : Addr → Prop} (hq : ∀ (u v : State) {o : Outcome}, Qa u o v → False) (hr : va_Run p l e R s m args below meth c H locs cells slots mc ms f rest Qa fr) : W p l e R s m args below meth c H locs cells slots Q f := by
  intro T hT X
  obtain ⟨v, st0, t, T1, L1, z1, z2, z3, z4, z5, z6, z7⟩ := hr T hT X
  exact False.elim (hq st0 t z6)
theorem law_bool {x : Int32} (hx : p.tables.exec = Jvm.exec) (hb : c.code = code) (d1 : decode code pc = .ok (.ifCond .eq 7, 3)) (d2 : decode code (pc + 3) = .ok (.iconst 1, 1)) (d3 : decode code (pc + 3 + 1) = .ok (.goto 4, 3)) (d4 : decode code (pc + 7) = .ok (.iconst 0, 1)) (k : ∀ z : Int32, z = (if x = 0 then 0 else 1) → W p l e room_1 s m args below meth c H locs cells slots Q (F0 m (pc + 8) ls (.int z :: rest))) : W p l e room_1 s m args below meth c H locs cells slots Q (F0 m pc ls (.int x :: rest)) := by
  refine lv_if_eq (tgt := pc + 7) hx hb d1 (by omega) (fun c9 => ?_) (fun c9 => ?_)
  · exact lv_iconst (v := 0) hx hb d4 (by decide) (k 0 (by rw [if_pos c9]))
  · exact lv_iconst (v := 1) hx hb d2 (by decide) (lv_goto (tgt := pc + 8) hx hb d3 (by omega) (k 1 (by rw [if_neg c9])))
theorem b01 {x z : Int32} (h : z = (if x = 0 then 0 else 1)) : z = 0 ∨ z = 1 := by
  by_cases c9 : x = 0
  · rw [if_pos c9] at h; exact Or.inl h
  · rw [if_neg c9] at h; exact Or.inr h
theorem law_call {k d idx b0 ci : Nat} (np : Nat) {me' : Me} {As : List Value} {v : Value} {h' : Ph} {q : vw_C} (F : Fx p s m args c code 7 RL g aC aM A) (had : pm_ad aM ad) (hcs : cells + 1 ≤ 601024 ∧ slots + 6 ≤ 7293034) (hP : va_P g vwCl (wO aC ad oa fo h) H) (hD : va_D A (wO aC ad oa fo h)) (hS : va_S A s.heap H locs) (hsz : ls.size = 7)
    (hme : mtb k = some me') (hex : pm_Ex mtb (xsT 229) 229 d k (.ref b0 :: As) h (some v) h') (hd40 : d ≤ 40) (hAs : As.map (pm_v ad) = As) (hb0 : b0 < 229) (hh : ∃ fs, h b0 = .inr (ci, fs)) (hq : vwCl[ci]? = some q) (hqc : q.1 = me'.1.cls) (hst : me'.2.2.2.2.2 = false) (hlk : Cond.methodLink RL idx me'.1 ∈ gw) (hnp : (parseMethodDescriptor me'.1.desc).map (fun d => d.parameters.length) = some np) (hlen : As.length = np)
    (hrest : (rest.map fun v => v.category).sum ≤ 8) (hdg : decode code pc = .ok (.invokevirtual idx, 3)) (hc1 : v.category = 1) (hst0 : st0 = As.reverse ++ .ref (ad b0) :: rest)
    (kk : ∀ (x : Int32) (H1 : Heap) (locs1 : List Loc), v = .int x → va_P g vwCl (wO aC ad oa fo h') H1 → va_D A (wO aC ad oa fo h') → va_S A s.heap H1 locs1 → W p l e room_1 s m args below meth c H1 locs1 cells slots Q (F0 m (pc + 3) ls (.int x :: rest))) : W p l e room_1 s m args below meth c H locs cells slots Q (F0 m pc ls st0) := by
  obtain ⟨o1, o2, o3, o4, o5, o6, o7, o8⟩ := mtb_ok k me' hme
  have ct := pm_Ex_ok (l := l) (g := g) (aC := aC) mtb_ok (xsT_ok had) had d k me' _ h _ h' hme hex
  rw [List.map_cons, hAs] at ct
  have ct : Ct l g aC aM me'.1 me'.2.1 me'.2.2.1 me'.2.2.2.1 d (.ref (ad b0) :: As) (pm_w aC ad 229 h) (pm_Qx g aC ad 229 (some v) h') 0 0 := ct
  obtain ⟨fs, hfs⟩ := hh
  have hat : (wO aC ad oa fo h)[b0 + 1]? = some (ad b0, .inr (ci, fs.map (pm_v ad))) := by
    show (pm_w aC ad 229 h)[b0]? = _
    rw [pm_at hb0, hfs]
    rfl
  rcases o7 with ⟨o7, -⟩ | ⟨-, o7, o9⟩
  · rw [hst] at o7; cases o7
  have hrun := runV (l := l) (e := e) (below := below) (meth := meth) (R := room_1) (cells := cells) (slots := slots) (n := np) (b := ad b0) (As := As) F hP hD hS ct rg1 rg1_nd rg1_C (b0 + 1) ci hq hat hqc o3 hlk o7 o9 o4 ⟨o6.1, o6.2, hnp⟩ ⟨by show d + 1 ≤ 2048; omega, by show 8 + (me'.2.2.1 + 11) + 60 * d ≤ 84000; omega⟩ hlen hsz hst0 hrest hdg ⟨by show cells + 0 ≤ 601024; omega, by show slots + 0 ≤ 7293034; omega⟩
  cases v with
  | int x =>
    refine goI (a := (Value.ref (ad b0) :: As).toArray) (post := fun (y : Int32) (_ : Unit) => y = x) (w1 := fun _ => pm_w aC ad 229 h') (wr := [oC aC oa fo]) hrun hP hD hS F.2.2.2.2.2.2.1 rg1 [0] rg1_C rg1_R rfl rg1_dis (fun r u H1 locs1 hw hP1 hD1 hS1 => ?_)
    have hw : r = x := hw
    subst hw
    exact kk r H1 locs1 rfl hP1 hD1 hS1
  | long x => cases hc1
  | float x => exact law_noQ (fun _ _ _ h => h) hrun
  | double x => cases hc1
  | null => exact law_noQ (fun _ _ _ h => h) hrun
  | ref x => exact law_noQ (fun _ _ _ h => h) hrun
  | retAddr x => exact law_noQ (fun _ _ _ h => h) hrun
end La
