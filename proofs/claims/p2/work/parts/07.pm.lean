/-! the pure machine: values with numbers of cells for addresses; a world of n cells; one instruction as a function -/
abbrev Pc : Type := (Nat × vp_A) ⊕ (Nat × List Value)
abbrev Ph : Type := Nat → Pc
abbrev Cf : Type := Nat × List (Nat × Value) × List Value × Ph
def pm_v (ad : Nat → Nat) (v : Value) : Value := match v with
  | .ref k => .ref (ad k)
  | .int x => .int x
  | .long x => .long x
  | .float x => .float x
  | .double x => .double x
  | .null => .null
  | .retAddr x => .retAddr x
def pm_e (aC ad : Nat → Nat) (x : Pc) : va_E := match x with
  | .inl (t, k, .inl f) => .inl (aC t, k, .inl f)
  | .inl (t, k, .inr (.inl f)) => .inl (aC t, k, .inr (.inl f))
  | .inl (t, k, .inr (.inr (.inl f))) => .inl (aC t, k, .inr (.inr (.inl f)))
  | .inl (t, k, .inr (.inr (.inr (.inl f)))) => .inl (aC t, k, .inr (.inr (.inr (.inl f))))
  | .inl (t, k, .inr (.inr (.inr (.inr f)))) => .inl (aC t, k, .inr (.inr (.inr (.inr (fun j => (f j).map ad)))))
  | .inr (ci, fs) => .inr (ci, fs.map (pm_v ad))
def pm_w (aC ad : Nat → Nat) (n : Nat) (h : Ph) : va_W := (List.range n).map (fun k => (ad k, pm_e aC ad (h k)))
def pm_l (ad : Nat → Nat) (lo : List (Nat × Value)) : List (Nat × Value) := lo.map (fun q => (q.1, pm_v ad q.2))
def pm_u (h : Ph) (k : Nat) (x : Pc) : Ph := fun j => if j = k then x else h j
theorem pm_at {aC ad : Nat → Nat} {n k : Nat} {h : Ph} (hk : k < n) : (pm_w aC ad n h)[k]? = some (ad k, pm_e aC ad (h k)) := by
  simp [pm_w, hk]
theorem pm_set {aC ad : Nat → Nat} {n k : Nat} {h : Ph} {x : Pc} : (pm_w aC ad n h).set k (ad k, pm_e aC ad x) = pm_w aC ad n (pm_u h k x) := by
  apply List.ext_getElem?
  intro j
  by_cases hj : j < n
  · rw [pm_at hj, List.getElem?_set]
    by_cases e : k = j
    · subst e
      simp [pm_w, hj, pm_u]
    · rw [if_neg e, pm_at hj]
      have e2 : ¬ j = k := fun q => e q.symm
      simp [pm_u, e2]
  · have h1 : (pm_w aC ad n (pm_u h k x)).length = n := by simp [pm_w]
    have h2 : ((pm_w aC ad n h).set k (ad k, pm_e aC ad x)).length = n := by simp [pm_w]
    rw [List.getElem?_eq_none (by omega), List.getElem?_eq_none (by omega)]
theorem pm_cat (ad : Nat → Nat) (v : Value) : (pm_v ad v).category = v.category := by cases v <;> rfl
/-- locals: reading, storing a value of one slot, of two -/
def pm_g (lo : List (Nat × Value)) (i : Nat) : Option Value := (lo.find? (fun q => q.1 == i)).map (fun q => q.2)
def pm_s1 (lo : List (Nat × Value)) (i : Nat) (v : Value) : List (Nat × Value) := (i, v) :: lo.filter (fun q => !(q.1 == i) && !(q.1 + 1 == i && q.2.category == 2))
def pm_s2 (lo : List (Nat × Value)) (i : Nat) (v : Value) : List (Nat × Value) := (i, v) :: lo.filter (fun q => !(q.1 == i) && (!(q.1 == i + 1) && !(q.1 + 1 == i && q.2.category == 2)))
theorem pm_g_mem {lo : List (Nat × Value)} {i : Nat} {v : Value} (h : pm_g lo i = some v) : (i, v) ∈ lo := by
  unfold pm_g at h
  obtain ⟨q, hq, rfl⟩ := Option.map_eq_some_iff.mp h
  have h1 := List.find?_some hq
  have h2 := List.mem_of_find?_eq_some hq
  have h3 : q.1 = i := by simpa using h1
  rw [← h3]
  exact h2
theorem pm_l_s1 {ad : Nat → Nat} {lo : List (Nat × Value)} {i : Nat} {v : Value} : (i, pm_v ad v) :: (pm_l ad lo).filter (fun q => !(q.1 == i) && !(q.1 + 1 == i && q.2.category == 2)) = pm_l ad (pm_s1 lo i v) := by
  unfold pm_l pm_s1
  rw [List.map_cons, List.filter_map]
  congr 2
  apply List.filter_congr
  intro q _
  simp [Function.comp, pm_cat]
theorem pm_l_s2 {ad : Nat → Nat} {lo : List (Nat × Value)} {i : Nat} {v : Value} : (i, pm_v ad v) :: (pm_l ad lo).filter (fun q => !(q.1 == i) && (!(q.1 == i + 1) && !(q.1 + 1 == i && q.2.category == 2))) = pm_l ad (pm_s2 lo i v) := by
  unfold pm_l pm_s2
  rw [List.map_cons, List.filter_map]
  congr 2
  apply List.filter_congr
  intro q _
  simp [Function.comp, pm_cat]
theorem pm_has {ls : Array Slot} {nL : Nat} {ad : Nat → Nat} {lo : List (Nat × Value)} {i : Nat} {v : Value} (h : lv_has ls nL (pm_l ad lo)) (hv : pm_g lo i = some v) : ls[i]? = some (.val (pm_v ad v)) :=
  h.2.2 (i, pm_v ad v) (List.mem_map.mpr ⟨(i, v), pm_g_mem hv, rfl⟩)
theorem pm_hasK {ad : Nat → Nat} {lo : List (Nat × Value)} {i : Nat} {v : Value} (hv : pm_g lo i = some v) : ∃ k : Nat, (pm_l ad lo)[k]? = some (i, pm_v ad v) :=
  List.mem_iff_getElem?.mp (List.mem_map.mpr ⟨(i, v), pm_g_mem hv, rfl⟩)
/-- the walk at a configuration -/
def pm_W (p : Program) (l : Launch) (e : Env) (R : Room) (s : State) (m : MethodId) (args : Array Value) (below : List Frame) (meth : Method) (c : Code) (Q : State → Prop) (g : va_G) (aC : Nat → ClassId) (A : Nat → Prop) (ad : Nat → Nat) (n nL : Nat) (cf : Cf) : Prop :=
  ∀ (H : Heap) (locs : List Loc) (ls : Array Slot), va_P g vwCl (pm_w aC ad n cf.2.2.2) H → va_D A (pm_w aC ad n cf.2.2.2) → va_S A s.heap H locs → lv_has ls nL (pm_l ad cf.2.1) → W p l e R s m args below meth c H locs 0 0 Q (F0 m cf.1 ls (cf.2.2.1.map (pm_v ad)))
/-- shapes of instructions -/
def pi_k (v : Value) (len : Nat) (cf : Cf) : Option Cf := some (cf.1 + len, cf.2.1, v :: cf.2.2.1, cf.2.2.2)
def pi_ld (kd : Value → Bool) (i len : Nat) (cf : Cf) : Option Cf := (pm_g cf.2.1 i).bind (fun v => if kd v then some (cf.1 + len, cf.2.1, v :: cf.2.2.1, cf.2.2.2) else none)
def pi_ii (f : Int32 → Int32 → Option Int32) (cf : Cf) : Option Cf := match cf.2.2.1 with
  | .int y :: .int x :: st => (f x y).map (fun v => (cf.1 + 1, cf.2.1, .int v :: st, cf.2.2.2))
  | _ => none
def pi_ll (f : Int64 → Int64 → Option Int64) (cf : Cf) : Option Cf := match cf.2.2.1 with
  | .long y :: .long x :: st => (f x y).map (fun v => (cf.1 + 1, cf.2.1, .long v :: st, cf.2.2.2))
  | _ => none
def pi_li (f : Int64 → Int32 → Int64) (cf : Cf) : Option Cf := match cf.2.2.1 with
  | .int y :: .long x :: st => some (cf.1 + 1, cf.2.1, .long (f x y) :: st, cf.2.2.2)
  | _ => none
def pi_i (f : Int32 → Value) (cf : Cf) : Option Cf := match cf.2.2.1 with
  | .int x :: st => some (cf.1 + 1, cf.2.1, f x :: st, cf.2.2.2)
  | _ => none
def pi_l (f : Int64 → Value) (cf : Cf) : Option Cf := match cf.2.2.1 with
  | .long x :: st => some (cf.1 + 1, cf.2.1, f x :: st, cf.2.2.2)
  | _ => none
theorem pi_ii_inv {f : Int32 → Int32 → Option Int32} {cf cf' : Cf} (h : pi_ii f cf = some cf') : ∃ (x y v : Int32) (st : List Value), cf.2.2.1 = .int y :: .int x :: st ∧ f x y = some v ∧ cf' = (cf.1 + 1, cf.2.1, .int v :: st, cf.2.2.2) := by
  unfold pi_ii at h
  split at h
  · rename_i y x st he
    obtain ⟨v, hv, rfl⟩ := Option.map_eq_some_iff.mp h
    exact ⟨x, y, v, st, he, hv, rfl⟩
  · cases h
theorem pi_ll_inv {f : Int64 → Int64 → Option Int64} {cf cf' : Cf} (h : pi_ll f cf = some cf') : ∃ (x y v : Int64) (st : List Value), cf.2.2.1 = .long y :: .long x :: st ∧ f x y = some v ∧ cf' = (cf.1 + 1, cf.2.1, .long v :: st, cf.2.2.2) := by
  unfold pi_ll at h
  split at h
  · rename_i y x st he
    obtain ⟨v, hv, rfl⟩ := Option.map_eq_some_iff.mp h
    exact ⟨x, y, v, st, he, hv, rfl⟩
  · cases h
theorem pi_i_inv {f : Int32 → Value} {cf cf' : Cf} (h : pi_i f cf = some cf') : ∃ (x : Int32) (st : List Value), cf.2.2.1 = .int x :: st ∧ cf' = (cf.1 + 1, cf.2.1, f x :: st, cf.2.2.2) := by
  unfold pi_i at h
  split at h
  · rename_i x st he
    exact ⟨x, st, he, (Option.some.inj h).symm⟩
  · cases h
theorem pi_l_inv {f : Int64 → Value} {cf cf' : Cf} (h : pi_l f cf = some cf') : ∃ (x : Int64) (st : List Value), cf.2.2.1 = .long x :: st ∧ cf' = (cf.1 + 1, cf.2.1, f x :: st, cf.2.2.2) := by
  unfold pi_l at h
  split at h
  · rename_i x st he
    exact ⟨x, st, he, (Option.some.inj h).symm⟩
  · cases h
theorem pi_ld_inv {kd : Value → Bool} {i len : Nat} {cf cf' : Cf} (h : pi_ld kd i len cf = some cf') : ∃ v : Value, pm_g cf.2.1 i = some v ∧ kd v = true ∧ cf' = (cf.1 + len, cf.2.1, v :: cf.2.2.1, cf.2.2.2) := by
  unfold pi_ld at h
  obtain ⟨v, hv, h2⟩ := Option.bind_eq_some_iff.mp h
  split at h2
  · rename_i hk
    exact ⟨v, hv, hk, (Option.some.inj h2).symm⟩
  · cases h2
section Pw
variable {p : Program} {l : Launch} {e : Env} {R : Room} {s : State} {m : MethodId} {args : Array Value} {below : List Frame} {meth : Method} {c : Code} {Q : State → Prop}
variable {cc : ByteArray} {g : va_G} {aC : Nat → ClassId} {aM : Nat → Nat} {A : Nat → Prop} {ad : Nat → Nat} {n nL : Nat} {own : String} {cf cf' : Cf}
theorem pw_ii (f : Int32 → Int32 → Option Int32) (h : pi_ii f cf = some cf') (k : pm_W p l e R s m args below meth c Q g aC A ad n nL cf') (row : ∀ (H : Heap) (locs : List Loc) (ls : Array Slot) (rest : List Value) (x y v : Int32), f x y = some v → W p l e R s m args below meth c H locs 0 0 Q (F0 m (cf.1 + 1) ls (.int v :: rest)) → W p l e R s m args below meth c H locs 0 0 Q (F0 m cf.1 ls (.int y :: .int x :: rest))) : pm_W p l e R s m args below meth c Q g aC A ad n nL cf := by
  obtain ⟨x, y, v, st, e1, e2, rfl⟩ := pi_ii_inv h
  intro H locs ls hP hD hS hl
  rw [e1]
  exact row H locs ls _ x y v e2 (k H locs ls hP hD hS hl)
theorem pw_ll (f : Int64 → Int64 → Option Int64) (h : pi_ll f cf = some cf') (k : pm_W p l e R s m args below meth c Q g aC A ad n nL cf') (row : ∀ (H : Heap) (locs : List Loc) (ls : Array Slot) (rest : List Value) (x y v : Int64), f x y = some v → W p l e R s m args below meth c H locs 0 0 Q (F0 m (cf.1 + 1) ls (.long v :: rest)) → W p l e R s m args below meth c H locs 0 0 Q (F0 m cf.1 ls (.long y :: .long x :: rest))) : pm_W p l e R s m args below meth c Q g aC A ad n nL cf := by
  obtain ⟨x, y, v, st, e1, e2, rfl⟩ := pi_ll_inv h
  intro H locs ls hP hD hS hl
  rw [e1]
  exact row H locs ls _ x y v e2 (k H locs ls hP hD hS hl)
end Pw
