/-! the pure machine: ends, calls, runs; a run gives a contract over the whole world -/
abbrev Me : Type := MethodName × ByteArray × Nat × Option FieldType × Lk × Bool
def pm_res (ret : Option FieldType) (cc : ByteArray) (cf : Cf) : Option (Option Value × Ph) := match decode cc cf.1, cf.2.2.1, ret with
  | .ok (.ireturn, len), [.int r], some ty => if len = 1 ∧ narrow ty (.int r) = .int r then some (some (.int r), cf.2.2.2) else none
  | .ok (.lreturn, len), [.long r], some ty => if len = 1 ∧ ty = .long then some (some (.long r), cf.2.2.2) else none
  | .ok (.return_, len), [], none => if len = 1 then some (none, cf.2.2.2) else none
  | _, _, _ => none
def pm_Qx (g : va_G) (aC ad : Nat → Nat) (n : Nat) (r : Option Value) (h' : Ph) (A : Nat → Prop) : Array Value → State → Outcome → State → Prop := match r with
  | none => QV g (fun (_ : Unit) => True) (fun _ => pm_w aC ad n h') A
  | some (.int x) => QI g (fun (y : Int32) (_ : Unit) => y = x) (fun _ => pm_w aC ad n h') A
  | some (.long x) => QL g (fun (y : Int64) (_ : Unit) => y = x) (fun _ => pm_w aC ad n h') A
  | _ => fun _ _ _ _ => False
def pm_It (S : Cf → Cf → Prop) : Nat → Cf → Cf → Prop
  | 0, a, b => a = b
  | N + 1, a, b => ∃ c, S a c ∧ pm_It S N c b
def pm_Call (MT : Nat → Option Me) (ex : Nat → List Value → Ph → Option Value → Ph → Prop) (me : Me) (n : Nat) (a b : Cf) : Prop :=
  ∃ (idx k np : Nat) (me' : Me) (av st : List Value) (r : Option Value) (h' : Ph), me.2.2.2.2.1.2.2.2 idx = some (k, np) ∧ MT k = some me' ∧ a.2.2.1 = av.reverse ++ st ∧ (st.map fun v => v.category).sum ≤ 8 ∧ ex k av a.2.2.2 r h' ∧ b = (a.1 + 3, a.2.1, r.toList ++ st, h') ∧
    ((me'.2.2.2.2.2 = true ∧ decode me.2.1 a.1 = .ok (.invokestatic idx, 3) ∧ av.length = np) ∨ (me'.2.2.2.2.2 = false ∧ decode me.2.1 a.1 = .ok (.invokevirtual idx, 3) ∧ ∃ (b0 ci : Nat) (As fs : List Value) (q : vw_C), av = .ref b0 :: As ∧ As.length = np ∧ b0 < n ∧ a.2.2.2 b0 = .inr (ci, fs) ∧ vwCl[ci]? = some q ∧ q.1 = me'.1.cls))
def pm_Stp (MT : Nat → Option Me) (xs : Nat → Me → Cf → Cf → Prop) (d : Nat) (ex : Nat → List Value → Ph → Option Value → Ph → Prop) (me : Me) (n : Nat) (a b : Cf) : Prop :=
  pm_sem me.2.2.2.2.1 n me.2.2.1 me.2.1 a = some b ∨ xs d me a b ∨ pm_Call MT ex me n a b
def pm_Ex (MT : Nat → Option Me) (xs : Nat → Me → Cf → Cf → Prop) (n : Nat) : Nat → Nat → List Value → Ph → Option Value → Ph → Prop
  | 0 => fun _ _ _ _ _ => False
  | d + 1 => fun k av h r h' => ∃ me : Me, MT k = some me ∧ (lg_sl av).length ≤ me.2.2.1 ∧ ∃ (N : Nat) (cf : Cf), pm_It (pm_Stp MT xs d (pm_Ex MT xs n d) me n) N (0, lv_args 0 av, [], h) cf ∧ pm_res me.2.2.2.1 me.2.1 cf = some (r, h')
def pm_okM (MT : Nat → Option Me) : Prop := ∀ (k : Nat) (me : Me), MT k = some me → pm_ok me.1.cls me.2.2.2.2.1 ∧ plainName me.1.cls = true ∧ Cond.code me.1 me.2.1 me.2.2.1 me.2.2.2.1 ∈ gw ∧ Cond.initialized me.1.cls ∈ gw ∧ me.2.2.1 ≤ 41 ∧ (me.1.cls ≠ "java/lang/invoke/MethodHandle" ∧ me.1.cls ≠ "java/lang/invoke/VarHandle") ∧ ((me.2.2.2.2.2 = true ∧ Cond.static me.1 ∈ gw) ∨ (me.2.2.2.2.2 = false ∧ Cond.instanceMethod me.1 ∈ gw ∧ Cond.selects me.1.cls me.1 me.1 ∈ gw)) ∧
  ∀ (idx k' np : Nat) (me' : Me), me.2.2.2.2.1.2.2.2 idx = some (k', np) → MT k' = some me' → Cond.methodLink me.1.cls idx me'.1 ∈ gw ∧ (parseMethodDescriptor me'.1.desc).map (fun d => d.parameters.length) = some np
/-- further steps (calls of JDK members over texts, arraycopy): sound wherever they stand -/
def pm_okX (xs : Nat → Me → Cf → Cf → Prop) (MT : Nat → Option Me) (n : Nat) (aC aM ad : Nat → Nat) : Prop := ∀ (d k : Nat) (me : Me) (p : Program) (l : Launch) (e : Env) (s : State) (m : MethodId) (args : Array Value) (below : List Frame) (meth : Method) (c : Code) (Q : State → Prop) (g : va_G) (A : Nat → Prop) (a b : Cf), MT k = some me → Fx p s m args c me.2.1 me.2.2.1 me.1.cls g aC aM A → xs d me a b → pm_W p l e (rmL (d + 1) 0 0) s m args below meth c Q g aC A ad n me.2.2.1 b → pm_W p l e (rmL (d + 1) 0 0) s m args below meth c Q g aC A ad n me.2.2.1 a
theorem pm_range_nd (n : Nat) : va_nd (List.range n) = true := by
  have key : ∀ l : List Nat, l.Nodup → va_nd l = true := by
    intro l
    induction l with
    | nil => intro _; rfl
    | cons a t ih =>
      intro h
      obtain ⟨h1, h2⟩ := List.nodup_cons.mp h
      simp only [va_nd, ih h2, Bool.and_true, decide_eq_true_eq]
      exact h1
  exact key _ List.nodup_range
theorem pm_all {aC ad : Nat → Nat} {n : Nat} {h : Ph} : (List.range n).map (fun i => (pm_w aC ad n h)[i]?) = (pm_w aC ad n h).map some := by
  unfold pm_w
  rw [List.map_map]
  apply List.map_congr_left
  intro i hi
  have hi : i < n := List.mem_range.mp hi
  simp [hi]
theorem pm_args {ad : Nat → Nat} : ∀ (av : List Value) (i : Nat), lv_args i (av.map (pm_v ad)) = pm_l ad (lv_args i av)
  | [], _ => rfl
  | v :: vs, i => by
    simp only [List.map_cons, lv_args, pm_cat]
    rw [pm_args vs]
    rfl
theorem pm_sl {ad : Nat → Nat} : ∀ (av : List Value), (lg_sl (av.map (pm_v ad))).length = (lg_sl av).length
  | [] => rfl
  | v :: vs => by
    have ih := pm_sl (ad := ad) vs
    unfold lg_sl at ih ⊢
    simp only [List.map_cons, List.flatMap_cons, List.length_append, pm_cat, ih]
    split <;> rfl
section Pw4
variable {p : Program} {l : Launch} {e : Env} {s : State} {m : MethodId} {args : Array Value} {below : List Frame} {meth : Method} {c : Code}
variable {cc : ByteArray} {g : va_G} {aC : Nat → ClassId} {aM : Nat → Nat} {A : Nat → Prop} {ad : Nat → Nat} {n nL : Nat} {own : String} {cf cf' : Cf} {L : Lk}
theorem pm_end_ok {R : Room} {ret : Option FieldType} {r : Option Value} {h' : Ph} (F : Fx p s m args c cc nL own g aC aM A) (hr : meth.sig.returnType = ret) (hlk : meth.locks = false) (h : pm_res ret cc cf = some (r, h')) : pm_W p l e R s m args below meth c (MQ below (pm_Qx g aC ad n r h' A) args s 0 0 A) g aC A ad n nL cf := by
  unfold pm_res at h
  split at h
  · rename_i len x ty hd hst
    split at h
    · rename_i hc
      obtain ⟨rfl, hn⟩ := hc
      cases h
      intro H locs ls hP hD hS hl
      rw [hst]
      exact rI (post := fun (y : Int32) (_ : Unit) => y = x) (w1 := fun _ => pm_w aC ad n cf.2.2.2) () F.1 F.2.1 hr hlk hn hS rfl hP hD (Nat.le_refl 0) (Nat.le_refl 0) hd
    · cases h
  · rename_i len x ty hd hst
    split at h
    · rename_i hc
      obtain ⟨rfl, rfl⟩ := hc
      cases h
      intro H locs ls hP hD hS hl
      rw [hst]
      exact rL (post := fun (y : Int64) (_ : Unit) => y = x) (w1 := fun _ => pm_w aC ad n cf.2.2.2) () F.1 F.2.1 hr hlk hS rfl hP hD (Nat.le_refl 0) (Nat.le_refl 0) hd
    · cases h
  · rename_i len hd hst
    split at h
    · rename_i hc
      subst hc
      cases h
      intro H locs ls hP hD hS hl
      rw [hst]
      exact rV (post := fun (_ : Unit) => True) (w1 := fun _ => pm_w aC ad n cf.2.2.2) () F.1 F.2.1 hr hlk hS trivial hP hD (Nat.le_refl 0) (Nat.le_refl 0) hd
    · cases h
  · cases h
theorem pm_noQ {R : Room} {Q : State → Prop} {H : Heap} {locs : List Loc} {f : JFrame} {rest : List Value} {Qa : State → Outcome → State → Prop} {fr : Addr → Prop} (hq : ∀ (u v : State) {o : Outcome}, Qa u o v → False) (hr : va_Run p l e R s m args below meth c H locs 0 0 0 0 f rest Qa fr) : W p l e R s m args below meth c H locs 0 0 Q f := by
  intro T hT X
  obtain ⟨v, st0, t, T1, L1, z1, z2, z3, z4, z5, z6, z7⟩ := hr T hT X
  exact False.elim (hq st0 t z6)
/-- behind a call -/
theorem pm_go {R : Room} {Q : State → Prop} {H : Heap} {locs : List Loc} {ls : Array Slot} {st0 : List Value} {pc : Nat} {lo : List (Nat × Value)} {st : List Value} {h h' : Ph} {r : Option Value} {a : Array Value} (F : Fx p s m args c cc nL own g aC aM A) (hP : va_P g vwCl (pm_w aC ad n h) H) (hD : va_D A (pm_w aC ad n h)) (hS : va_S A s.heap H locs) (hl : lv_has ls nL (pm_l ad lo))
    (hr : va_Run p l e R s m args below meth c H locs 0 0 0 0 (F0 m pc ls st0) (st.map (pm_v ad)) (pm_Qx g aC ad n r h' (va_A (pm_w aC ad n h) H.size) a) (va_A (pm_w aC ad n h) H.size))
    (k : pm_W p l e R s m args below meth c Q g aC A ad n nL (pc + 3, lo, r.toList ++ st, h')) : W p l e R s m args below meth c H locs 0 0 Q (F0 m pc ls st0) := by
  have hC := pm_all (aC := aC) (ad := ad) (n := n) (h := h)
  cases r with
  | none =>
    refine goV (a := a) (post := fun (_ : Unit) => True) (w1 := fun _ => pm_w aC ad n h') (wr := []) hr hP hD hS F.2.2.2.2.2.2.1 (List.range n) [] hC rfl rfl (fun i hi => by cases hi) (fun u H1 locs1 hw hP1 hD1 hS1 => ?_)
    exact k H1 locs1 ls hP1 hD1 hS1 hl
  | some v =>
    cases v with
    | int x =>
      refine goI (a := a) (post := fun (y : Int32) (_ : Unit) => y = x) (w1 := fun _ => pm_w aC ad n h') (wr := []) hr hP hD hS F.2.2.2.2.2.2.1 (List.range n) [] hC rfl rfl (fun i hi => by cases hi) (fun r u H1 locs1 hw hP1 hD1 hS1 => ?_)
      have hw : r = x := hw
      subst hw
      exact k H1 locs1 ls hP1 hD1 hS1 hl
    | long x =>
      refine goL (a := a) (post := fun (y : Int64) (_ : Unit) => y = x) (w1 := fun _ => pm_w aC ad n h') (wr := []) hr hP hD hS F.2.2.2.2.2.2.1 (List.range n) [] hC rfl rfl (fun i hi => by cases hi) (fun r u H1 locs1 hw hP1 hD1 hS1 => ?_)
      have hw : r = x := hw
      subst hw
      exact k H1 locs1 ls hP1 hD1 hS1 hl
    | float x => exact pm_noQ (fun _ _ _ h => h) hr
    | double x => exact pm_noQ (fun _ _ _ h => h) hr
    | null => exact pm_noQ (fun _ _ _ h => h) hr
    | ref x => exact pm_noQ (fun _ _ _ h => h) hr
    | retAddr x => exact pm_noQ (fun _ _ _ h => h) hr
theorem pm_call_ok {d : Nat} {Q : State → Prop} {MT : Nat → Option Me} {ex : Nat → List Value → Ph → Option Value → Ph → Prop} {me : Me} {k : Nat} (hMT : pm_okM MT) (hme : MT k = some me) (F : Fx p s m args c me.2.1 me.2.2.1 me.1.cls g aC aM A)
    (hex : ∀ (k' : Nat) (me' : Me) (av : List Value) (h : Ph) (r : Option Value) (h' : Ph), MT k' = some me' → ex k' av h r h' → Ct l g aC aM me'.1 me'.2.1 me'.2.2.1 me'.2.2.2.1 d (av.map (pm_v ad)) (pm_w aC ad n h) (pm_Qx g aC ad n r h') 0 0)
    (hc : pm_Call MT ex me n cf cf') (kk : pm_W p l e (rmL (d + 1) 0 0) s m args below meth c Q g aC A ad n me.2.2.1 cf') : pm_W p l e (rmL (d + 1) 0 0) s m args below meth c Q g aC A ad n me.2.2.1 cf := by
  obtain ⟨idx, k', np, me', av, st, r, h', e1, e2, e3, e4, e5, rfl, e6⟩ := hc
  obtain ⟨o1, o2, o3, o4, o5, o6, o7, o8⟩ := hMT k' me' e2
  obtain ⟨-, -, -, -, -, -, -, w8⟩ := hMT k me hme
  obtain ⟨x1, x2⟩ := w8 idx k' np me' e1 e2
  have ct := hex k' me' av _ r h' e2 e5
  intro H locs ls hP hD hS hl
  have hC := pm_all (aC := aC) (ad := ad) (n := n) (h := cf.2.2.2)
  have hW : ((st.map (pm_v ad)).map fun v => v.category).sum ≤ 8 := by
    rw [List.map_map]
    have : (fun v => v.category) ∘ pm_v ad = fun v : Value => v.category := funext fun v => pm_cat ad v
    rw [this]
    exact e4
  have hR : d + 1 ≤ (rmL (d + 1) 0 0).frames ∧ 8 + (me'.2.2.1 + 11) + 60 * d ≤ (rmL (d + 1) 0 0).locals := ⟨Nat.le_refl _, by show _ ≤ 60 * (d + 1); omega⟩
  rcases e6 with ⟨s1, s2, s3⟩ | ⟨s1, s2, b0, ci, As, fs, q, rfl, s3, s4, s5, s6, s7⟩
  · rcases o7 with ⟨-, o7⟩ | ⟨o7, -⟩
    · refine pm_go F hP hD hS hl (runS (n := np) F hP hD hS ct (List.range n) (pm_range_nd n) hC o3 x1 o7 o4 ⟨o6.1, o6.2, x2⟩ hR (by rw [List.length_map]; exact s3) hl.1 (by rw [e3, List.map_append, List.map_reverse]) hW s2 ⟨Nat.le_refl _, Nat.le_refl _⟩) kk
    · rw [s1] at o7; cases o7
  · rcases o7 with ⟨o7, -⟩ | ⟨-, o7, o9⟩
    · rw [s1] at o7; cases o7
    · have hat := pm_at (aC := aC) (ad := ad) (h := cf.2.2.2) s4
      rw [s5] at hat
      refine pm_go F hP hD hS hl (runV (n := np) (b := ad b0) (As := As.map (pm_v ad)) F hP hD hS ct (List.range n) (pm_range_nd n) hC b0 ci s6 hat s7 o3 x1 o7 o9 o4 ⟨o6.1, o6.2, x2⟩ hR (by rw [List.length_map]; exact s3) hl.1 (by rw [e3, List.reverse_cons, List.append_assoc, List.map_append, List.map_reverse]; rfl) hW s2 ⟨Nat.le_refl _, Nat.le_refl _⟩) kk
theorem pm_It_ok {S : Cf → Cf → Prop} {P : Cf → Prop} (hS : ∀ a b, S a b → P b → P a) : ∀ (N : Nat) (a b : Cf), pm_It S N a b → P b → P a
  | 0, a, b, h, hb => by
    have h : a = b := h
    subst h
    exact hb
  | N + 1, a, b, h, hb => by
    obtain ⟨c, h1, h2⟩ := h
    exact hS a c h1 (pm_It_ok hS N c b h2 hb)
end Pw4
theorem pm_Ex_ok {l : Launch} {g : va_G} {aC : Nat → ClassId} {aM ad : Nat → Nat} {n : Nat} {MT : Nat → Option Me} {xs : Nat → Me → Cf → Cf → Prop} (hMT : pm_okM MT) (hX : pm_okX xs MT n aC aM ad) (had : pm_ad aM ad) : ∀ (d k : Nat) (me : Me) (av : List Value) (h : Ph) (r : Option Value) (h' : Ph), MT k = some me → pm_Ex MT xs n d k av h r h' → Ct l g aC aM me.1 me.2.1 me.2.2.1 me.2.2.2.1 d (av.map (pm_v ad)) (pm_w aC ad n h) (pm_Qx g aC ad n r h') 0 0
  | 0, _, _, _, _, _, _, _, hx => False.elim hx
  | d + 1, k, me, av, h, r, h', hme, hx => by
    obtain ⟨me1, hme1, hsl, N, cf, hit, hres⟩ := hx
    have hm0 : me1 = me := Option.some.inj (hme1.symm.trans hme)
    subst hm0
    obtain ⟨o1, o2, o3, o4, o5, o6, o7, o8⟩ := hMT k me1 hme
    refine Ct.mk o2 (by rw [pm_sl]; exact hsl) ?_
    intro p e s m below meth c A ls hx hb hml hown hts hr hlk hnm hK hA hM hM2 hP hD hS hl
    have F : Fx p s m (av.map (pm_v ad)).toArray c me1.2.1 me1.2.2.1 me1.1.cls g aC aM A := ⟨hx, hb, hml, hown, hts, hK, hA, hM, hM2⟩
    have hend := pm_end_ok (l := l) (e := e) (below := below) (R := rmL (d + 1) 0 0) (ad := ad) (n := n) F hr hlk hres
    have hrun := pm_It_ok (P := pm_W p l e (rmL (d + 1) 0 0) s m (av.map (pm_v ad)).toArray below meth c (MQ below (pm_Qx g aC ad n r h' A) (av.map (pm_v ad)).toArray s 0 0 A) g aC A ad n me1.2.2.1) (fun a b hab kb => by
      rcases hab with hab | hab | hab
      · exact pm_sem_ok F o1 had hab kb
      · exact hX d k me1 p l e s m _ below meth c _ g A a b hme F hab kb
      · exact pm_call_ok hMT hme F (fun k' me' av' h1 r1 h1' hk' hx' => pm_Ex_ok hMT hX had d k' me' av' h1 r1 h1' hk' hx') hab kb) N _ cf hit hend
    exact hrun s.heap [] ls hP hD hS (by rw [pm_args] at hl; exact hl)
