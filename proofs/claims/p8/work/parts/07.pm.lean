/-! the pure machine: values with numbers of cells for addresses; a world of n cells; one instruction as a function -/
abbrev Pc : Type := (Nat × vp_A) ⊕ (Nat × List Value)
abbrev Ph : Type := Nat → Pc
abbrev Cf : Type := Nat × List (Nat × Value) × List Value × Ph
def pm_v (ad : Nat → Nat) (v : Value) : Value := match v with
  | .ref k => .ref (ad k)
  | .int x => .int x
  | .long x => .long x
  | .float x => .float x
  | .double x => .double x
  | .null => .null
  | .retAddr x => .retAddr x
def pm_e (aC ad : Nat → Nat) (x : Pc) : va_E := match x with
  | .inl (t, k, .inl f) => .inl (aC t, k, .inl f)
  | .inl (t, k, .inr (.inl f)) => .inl (aC t, k, .inr (.inl f))
  | .inl (t, k, .inr (.inr (.inl f))) => .inl (aC t, k, .inr (.inr (.inl f)))
  | .inl (t, k, .inr (.inr (.inr (.inl f)))) => .inl (aC t, k, .inr (.inr (.inr (.inl f))))
  | .inl (t, k, .inr (.inr (.inr (.inr f)))) => .inl (aC t, k, .inr (.inr (.inr (.inr (fun j => (f j).map ad)))))
  | .inr (ci, fs) => .inr (ci, fs.map (pm_v ad))
def pm_w (aC ad : Nat → Nat) (n : Nat) (h : Ph) : va_W := (List.range n).map (fun k => (ad k, pm_e aC ad (h k)))
def pm_l (ad : Nat → Nat) (lo : List (Nat × Value)) : List (Nat × Value) := lo.map (fun q => (q.1, pm_v ad q.2))
def pm_u (h : Ph) (k : Nat) (x : Pc) : Ph := fun j => if j = k then x else h j
theorem pm_at {aC ad : Nat → Nat} {n k : Nat} {h : Ph} (hk : k < n) : (pm_w aC ad n h)[k]? = some (ad k, pm_e aC ad (h k)) := by
  simp [pm_w, hk]
theorem pm_set {aC ad : Nat → Nat} {n k : Nat} {h : Ph} {x : Pc} : (pm_w aC ad n h).set k (ad k, pm_e aC ad x) = pm_w aC ad n (pm_u h k x) := by
  apply List.ext_getElem?
  intro j
  by_cases hj : j < n
  · rw [pm_at hj, List.getElem?_set]
    by_cases e : k = j
    · subst e
      simp [pm_w, hj, pm_u]
    · rw [if_neg e, pm_at hj]
      have e2 : ¬ j = k := fun q => e q.symm
      simp [pm_u, e2]
  · have h1 : (pm_w aC ad n (pm_u h k x)).length = n := by simp [pm_w]
    have h2 : ((pm_w aC ad n h).set k (ad k, pm_e aC ad x)).length = n := by simp [pm_w]
    rw [List.getElem?_eq_none (by omega), List.getElem?_eq_none (by omega)]
theorem pm_cat (ad : Nat → Nat) (v : Value) : (pm_v ad v).category = v.category := by cases v <;> rfl
/-- locals: reading, storing a value of one slot, of two -/
def pm_g (lo : List (Nat × Value)) (i : Nat) : Option Value := (lo.find? (fun q => q.1 == i)).map (fun q => q.2)
def pm_s1 (lo : List (Nat × Value)) (i : Nat) (v : Value) : List (Nat × Value) := (i, v) :: lo.filter (fun q => !(q.1 == i) && !(q.1 + 1 == i && q.2.category == 2))
def pm_s2 (lo : List (Nat × Value)) (i : Nat) (v : Value) : List (Nat × Value) := (i, v) :: lo.filter (fun q => !(q.1 == i) && (!(q.1 == i + 1) && !(q.1 + 1 == i && q.2.category == 2)))
theorem pm_g_mem {lo : List (Nat × Value)} {i : Nat} {v : Value} (h : pm_g lo i = some v) : (i, v) ∈ lo := by
  unfold pm_g at h
  obtain ⟨q, hq, rfl⟩ := Option.map_eq_some_iff.mp h
  have h1 := List.find?_some hq
  have h2 := List.mem_of_find?_eq_some hq
  have h3 : q.1 = i := by simpa using h1
  rw [← h3]
  exact h2
theorem pm_l_s1 {ad : Nat → Nat} {lo : List (Nat × Value)} {i : Nat} {v : Value} : (i, pm_v ad v) :: (pm_l ad lo).filter (fun q => !(q.1 == i) && !(q.1 + 1 == i && q.2.category == 2)) = pm_l ad (pm_s1 lo i v) := by
  unfold pm_l pm_s1
  rw [List.map_cons, List.filter_map]
  congr 2
  apply List.filter_congr
  intro q _
  simp [Function.comp, pm_cat]
theorem pm_l_s2 {ad : Nat → Nat} {lo : List (Nat × Value)} {i : Nat} {v : Value} : (i, pm_v ad v) :: (pm_l ad lo).filter (fun q => !(q.1 == i) && (!(q.1 == i + 1) && !(q.1 + 1 == i && q.2.category == 2))) = pm_l ad (pm_s2 lo i v) := by
  unfold pm_l pm_s2
  rw [List.map_cons, List.filter_map]
  congr 2
  apply List.filter_congr
  intro q _
  simp [Function.comp, pm_cat]
theorem pm_has {ls : Array Slot} {nL : Nat} {ad : Nat → Nat} {lo : List (Nat × Value)} {i : Nat} {v : Value} (h : lv_has ls nL (pm_l ad lo)) (hv : pm_g lo i = some v) : ls[i]? = some (.val (pm_v ad v)) :=
  h.2.2 (i, pm_v ad v) (List.mem_map.mpr ⟨(i, v), pm_g_mem hv, rfl⟩)
theorem pm_hasK {ad : Nat → Nat} {lo : List (Nat × Value)} {i : Nat} {v : Value} (hv : pm_g lo i = some v) : ∃ k : Nat, (pm_l ad lo)[k]? = some (i, pm_v ad v) :=
  List.mem_iff_getElem?.mp (List.mem_map.mpr ⟨(i, v), pm_g_mem hv, rfl⟩)
/-- the walk at a configuration -/
def pm_W (p : Program) (l : Launch) (e : Env) (R : Room) (s : State) (m : MethodId) (args : Array Value) (below : List Frame) (meth : Method) (c : Code) (Q : State → Prop) (g : va_G) (aC : Nat → ClassId) (A : Nat → Prop) (ad : Nat → Nat) (n nL : Nat) (cf : Cf) : Prop :=
  ∀ (H : Heap) (locs : List Loc) (ls : Array Slot), va_P g vwCl (pm_w aC ad n cf.2.2.2) H → va_D A (pm_w aC ad n cf.2.2.2) → va_S A s.heap H locs → lv_has ls nL (pm_l ad cf.2.1) → W p l e R s m args below meth c H locs 0 0 Q (F0 m cf.1 ls (cf.2.2.1.map (pm_v ad)))
/-- shapes of instructions -/
def pi_k (v : Value) (len : Nat) (cf : Cf) : Option Cf := some (cf.1 + len, cf.2.1, v :: cf.2.2.1, cf.2.2.2)
def pi_ld (kd : Value → Bool) (i len : Nat) (cf : Cf) : Option Cf := (pm_g cf.2.1 i).bind (fun v => if kd v then some (cf.1 + len, cf.2.1, v :: cf.2.2.1, cf.2.2.2) else none)
def pi_ii (f : Int32 → Int32 → Option Int32) (cf : Cf) : Option Cf := match cf.2.2.1 with
  | .int y :: .int x :: st => (f x y).map (fun v => (cf.1 + 1, cf.2.1, .int v :: st, cf.2.2.2))
  | _ => none
def pi_ll (f : Int64 → Int64 → Option Int64) (cf : Cf) : Option Cf := match cf.2.2.1 with
  | .long y :: .long x :: st => (f x y).map (fun v => (cf.1 + 1, cf.2.1, .long v :: st, cf.2.2.2))
  | _ => none
def pi_li (f : Int64 → Int32 → Int64) (cf : Cf) : Option Cf := match cf.2.2.1 with
  | .int y :: .long x :: st => some (cf.1 + 1, cf.2.1, .long (f x y) :: st, cf.2.2.2)
  | _ => none
def pi_i (f : Int32 → Value) (cf : Cf) : Option Cf := match cf.2.2.1 with
  | .int x :: st => some (cf.1 + 1, cf.2.1, f x :: st, cf.2.2.2)
  | _ => none
def pi_l (f : Int64 → Value) (cf : Cf) : Option Cf := match cf.2.2.1 with
  | .long x :: st => some (cf.1 + 1, cf.2.1, f x :: st, cf.2.2.2)
  | _ => none
theorem pi_ii_inv {f : Int32 → Int32 → Option Int32} {cf cf' : Cf} (h : pi_ii f cf = some cf') : ∃ (x y v : Int32) (st : List Value), cf.2.2.1 = .int y :: .int x :: st ∧ f x y = some v ∧ cf' = (cf.1 + 1, cf.2.1, .int v :: st, cf.2.2.2) := by
  unfold pi_ii at h
  split at h
  · rename_i y x st he
    obtain ⟨v, hv, rfl⟩ := Option.map_eq_some_iff.mp h
    exact ⟨x, y, v, st, he, hv, rfl⟩
  · cases h
theorem pi_ll_inv {f : Int64 → Int64 → Option Int64} {cf cf' : Cf} (h : pi_ll f cf = some cf') : ∃ (x y v : Int64) (st : List Value), cf.2.2.1 = .long y :: .long x :: st ∧ f x y = some v ∧ cf' = (cf.1 + 1, cf.2.1, .long v :: st, cf.2.2.2) := by
  unfold pi_ll at h
  split at h
  · rename_i y x st he
    obtain ⟨v, hv, rfl⟩ := Option.map_eq_some_iff.mp h
    exact ⟨x, y, v, st, he, hv, rfl⟩
  · cases h
theorem pi_i_inv {f : Int32 → Value} {cf cf' : Cf} (h : pi_i f cf = some cf') : ∃ (x : Int32) (st : List Value), cf.2.2.1 = .int x :: st ∧ cf' = (cf.1 + 1, cf.2.1, f x :: st, cf.2.2.2) := by
  unfold pi_i at h
  split at h
  · rename_i x st he
    exact ⟨x, st, he, (Option.some.inj h).symm⟩
  · cases h
theorem pi_l_inv {f : Int64 → Value} {cf cf' : Cf} (h : pi_l f cf = some cf') : ∃ (x : Int64) (st : List Value), cf.2.2.1 = .long x :: st ∧ cf' = (cf.1 + 1, cf.2.1, f x :: st, cf.2.2.2) := by
  unfold pi_l at h
  split at h
  · rename_i x st he
    exact ⟨x, st, he, (Option.some.inj h).symm⟩
  · cases h
theorem pi_ld_inv {kd : Value → Bool} {i len : Nat} {cf cf' : Cf} (h : pi_ld kd i len cf = some cf') : ∃ v : Value, pm_g cf.2.1 i = some v ∧ kd v = true ∧ cf' = (cf.1 + len, cf.2.1, v :: cf.2.2.1, cf.2.2.2) := by
  unfold pi_ld at h
  obtain ⟨v, hv, h2⟩ := Option.bind_eq_some_iff.mp h
  split at h2
  · rename_i hk
    exact ⟨v, hv, hk, (Option.some.inj h2).symm⟩
  · cases h2
def pi_gd (len k : Nat) (o : Option Cf) : Option Cf := if len = k then o else none
theorem pi_gd_inv {len k : Nat} {o : Option Cf} {cf' : Cf} (h : pi_gd len k o = some cf') : len = k ∧ o = some cf' := by
  unfold pi_gd at h
  split at h
  · rename_i e
    exact ⟨e, h⟩
  · cases h
theorem pi_li_inv {f : Int64 → Int32 → Int64} {cf cf' : Cf} (h : pi_li f cf = some cf') : ∃ (x : Int64) (y : Int32) (st : List Value), cf.2.2.1 = .int y :: .long x :: st ∧ cf' = (cf.1 + 1, cf.2.1, .long (f x y) :: st, cf.2.2.2) := by
  unfold pi_li at h
  split at h
  · rename_i y x st he
    exact ⟨x, y, st, he, (Option.some.inj h).symm⟩
  · cases h
def pi_lc (cf : Cf) : Option Cf := match cf.2.2.1 with
  | .long y :: .long x :: st => some (cf.1 + 1, cf.2.1, .int (lg_cmp x y) :: st, cf.2.2.2)
  | _ => none
theorem pi_lc_inv {cf cf' : Cf} (h : pi_lc cf = some cf') : ∃ (x y : Int64) (st : List Value), cf.2.2.1 = .long y :: .long x :: st ∧ cf' = (cf.1 + 1, cf.2.1, .int (lg_cmp x y) :: st, cf.2.2.2) := by
  unfold pi_lc at h
  split at h
  · rename_i y x st he
    exact ⟨x, y, st, he, (Option.some.inj h).symm⟩
  · cases h
def pi_dup (cf : Cf) : Option Cf := match cf.2.2.1 with
  | a :: st => if a.category = 1 then some (cf.1 + 1, cf.2.1, a :: a :: st, cf.2.2.2) else none
  | _ => none
theorem pi_dup_inv {cf cf' : Cf} (h : pi_dup cf = some cf') : ∃ (a : Value) (st : List Value), cf.2.2.1 = a :: st ∧ a.category = 1 ∧ cf' = (cf.1 + 1, cf.2.1, a :: a :: st, cf.2.2.2) := by
  unfold pi_dup at h
  split at h
  · rename_i a st he
    split at h
    · rename_i hc
      exact ⟨a, st, he, hc, (Option.some.inj h).symm⟩
    · cases h
  · cases h
def pi_pop (cf : Cf) : Option Cf := match cf.2.2.1 with
  | a :: st => if a.category = 1 then some (cf.1 + 1, cf.2.1, st, cf.2.2.2) else none
  | _ => none
theorem pi_pop_inv {cf cf' : Cf} (h : pi_pop cf = some cf') : ∃ (a : Value) (st : List Value), cf.2.2.1 = a :: st ∧ a.category = 1 ∧ cf' = (cf.1 + 1, cf.2.1, st, cf.2.2.2) := by
  unfold pi_pop at h
  split at h
  · rename_i a st he
    split at h
    · rename_i hc
      exact ⟨a, st, he, hc, (Option.some.inj h).symm⟩
    · cases h
  · cases h
/-- dup2 of two values of one slot -/
def pi_dup2 (cf : Cf) : Option Cf := match cf.2.2.1 with
  | a :: b :: st => if a.category = 1 ∧ b.category = 1 then some (cf.1 + 1, cf.2.1, a :: b :: a :: b :: st, cf.2.2.2) else none
  | _ => none
theorem pi_dup2_inv {cf cf' : Cf} (h : pi_dup2 cf = some cf') : ∃ (a b : Value) (st : List Value), cf.2.2.1 = a :: b :: st ∧ (a.category = 1 ∧ b.category = 1) ∧ cf' = (cf.1 + 1, cf.2.1, a :: b :: a :: b :: st, cf.2.2.2) := by
  unfold pi_dup2 at h
  split at h
  · rename_i a b st he
    split at h
    · rename_i hc
      exact ⟨a, b, st, he, hc, (Option.some.inj h).symm⟩
    · cases h
  · cases h
def pm_t (pc : Nat) (off : Int) : Option Nat := if 0 ≤ (pc : Int) + off then some ((pc : Int) + off).toNat else none
theorem pm_t_inv {pc : Nat} {off : Int} {t : Nat} (h : pm_t pc off = some t) : (pc : Int) + off = (t : Int) := by
  unfold pm_t at h
  split at h
  · cases h
    omega
  · cases h
def pm_c (q : Jvm.ClassFile.Cond) (x y : Int32) : Bool := match q with
  | .eq => decide (x = y)
  | .ne => !decide (x = y)
  | .lt => decide (x < y)
  | .ge => decide (y ≤ x)
  | .gt => decide (y < x)
  | .le => decide (x ≤ y)
def pi_br (b : Bool) (off : Int) (st : List Value) (cf : Cf) : Option Cf := (pm_t cf.1 off).map (fun t => (if b = true then t else cf.1 + 3, cf.2.1, st, cf.2.2.2))
def pi_if (q : Jvm.ClassFile.Cond) (off : Int) (cf : Cf) : Option Cf := match cf.2.2.1 with
  | .int x :: st => pi_br (pm_c q x 0) off st cf
  | _ => none
def pi_icmp (q : Jvm.ClassFile.Cond) (off : Int) (cf : Cf) : Option Cf := match cf.2.2.1 with
  | .int y :: .int x :: st => pi_br (pm_c q x y) off st cf
  | _ => none
def pi_goto (off : Int) (cf : Cf) : Option Cf := (pm_t cf.1 off).map (fun t => (t, cf.2.1, cf.2.2.1, cf.2.2.2))
def pi_tsw (d lo hi : Int) (offs : Array Int) (cf : Cf) : Option Cf := match cf.2.2.1 with
  | .int x :: st => (if x.toInt < lo ∨ hi < x.toInt then pm_t cf.1 d else (offs[(x.toInt - lo).toNat]?).bind (pm_t cf.1)).map (fun t => (t, cf.2.1, st, cf.2.2.2))
  | _ => none
theorem pi_br_inv {b : Bool} {off : Int} {st : List Value} {cf cf' : Cf} (h : pi_br b off st cf = some cf') : ∃ t : Nat, (cf.1 : Int) + off = (t : Int) ∧ cf' = (if b = true then t else cf.1 + 3, cf.2.1, st, cf.2.2.2) := by
  obtain ⟨t, ht, rfl⟩ := Option.map_eq_some_iff.mp h
  exact ⟨t, pm_t_inv ht, rfl⟩
def pm_isI (v : Value) : Bool := match v with
  | .int _ => true
  | _ => false
def pm_isL (v : Value) : Bool := match v with
  | .long _ => true
  | _ => false
def pm_isR (v : Value) : Bool := match v with
  | .ref _ => true
  | _ => false
/-- stores into locals -/
def pi_st1 (kd : Value → Bool) (i len nL : Nat) (cf : Cf) : Option Cf := match cf.2.2.1 with
  | v :: st => if kd v = true ∧ i < nL then some (cf.1 + len, pm_s1 cf.2.1 i v, st, cf.2.2.2) else none
  | _ => none
def pi_st2 (i len nL : Nat) (cf : Cf) : Option Cf := match cf.2.2.1 with
  | v :: st => if pm_isL v = true ∧ i + 1 < nL then some (cf.1 + len, pm_s2 cf.2.1 i v, st, cf.2.2.2) else none
  | _ => none
theorem pi_st1_inv {kd : Value → Bool} {i len nL : Nat} {cf cf' : Cf} (h : pi_st1 kd i len nL cf = some cf') : ∃ (v : Value) (st : List Value), cf.2.2.1 = v :: st ∧ (kd v = true ∧ i < nL) ∧ cf' = (cf.1 + len, pm_s1 cf.2.1 i v, st, cf.2.2.2) := by
  unfold pi_st1 at h
  split at h
  · rename_i v st he
    split at h
    · rename_i hc
      exact ⟨v, st, he, hc, (Option.some.inj h).symm⟩
    · cases h
  · cases h
theorem pi_st2_inv {i len nL : Nat} {cf cf' : Cf} (h : pi_st2 i len nL cf = some cf') : ∃ (v : Value) (st : List Value), cf.2.2.1 = v :: st ∧ (pm_isL v = true ∧ i + 1 < nL) ∧ cf' = (cf.1 + len, pm_s2 cf.2.1 i v, st, cf.2.2.2) := by
  unfold pi_st2 at h
  split at h
  · rename_i v st he
    split at h
    · rename_i hc
      exact ⟨v, st, he, hc, (Option.some.inj h).symm⟩
    · cases h
  · cases h
def pi_inc (i : Nat) (k : Int) (nL : Nat) (cf : Cf) : Option Cf := match pm_g cf.2.1 i with
  | some (.int x) => if i < nL then some (cf.1 + 3, pm_s1 cf.2.1 i (.int (x + Int32.ofInt k)), cf.2.2.1, cf.2.2.2) else none
  | _ => none
theorem pi_inc_inv {i nL : Nat} {k : Int} {cf cf' : Cf} (h : pi_inc i k nL cf = some cf') : ∃ x : Int32, pm_g cf.2.1 i = some (.int x) ∧ i < nL ∧ cf' = (cf.1 + 3, pm_s1 cf.2.1 i (.int (x + Int32.ofInt k)), cf.2.2.1, cf.2.2.2) := by
  unfold pi_inc at h
  split at h
  · rename_i x he
    split at h
    · rename_i hc
      exact ⟨x, he, hc, (Option.some.inj h).symm⟩
    · cases h
  · cases h
section Pw
variable {p : Program} {l : Launch} {e : Env} {R : Room} {s : State} {m : MethodId} {args : Array Value} {below : List Frame} {meth : Method} {c : Code} {Q : State → Prop}
variable {cc : ByteArray} {g : va_G} {aC : Nat → ClassId} {aM : Nat → Nat} {A : Nat → Prop} {ad : Nat → Nat} {n nL : Nat} {own : String} {cf cf' : Cf}
theorem pw_ii (f : Int32 → Int32 → Option Int32) (h : pi_ii f cf = some cf') (k : pm_W p l e R s m args below meth c Q g aC A ad n nL cf') (row : ∀ (H : Heap) (locs : List Loc) (ls : Array Slot) (rest : List Value) (x y v : Int32), f x y = some v → W p l e R s m args below meth c H locs 0 0 Q (F0 m (cf.1 + 1) ls (.int v :: rest)) → W p l e R s m args below meth c H locs 0 0 Q (F0 m cf.1 ls (.int y :: .int x :: rest))) : pm_W p l e R s m args below meth c Q g aC A ad n nL cf := by
  obtain ⟨x, y, v, st, e1, e2, rfl⟩ := pi_ii_inv h
  intro H locs ls hP hD hS hl
  rw [e1]
  exact row H locs ls _ x y v e2 (k H locs ls hP hD hS hl)
theorem pw_ll (f : Int64 → Int64 → Option Int64) (h : pi_ll f cf = some cf') (k : pm_W p l e R s m args below meth c Q g aC A ad n nL cf') (row : ∀ (H : Heap) (locs : List Loc) (ls : Array Slot) (rest : List Value) (x y v : Int64), f x y = some v → W p l e R s m args below meth c H locs 0 0 Q (F0 m (cf.1 + 1) ls (.long v :: rest)) → W p l e R s m args below meth c H locs 0 0 Q (F0 m cf.1 ls (.long y :: .long x :: rest))) : pm_W p l e R s m args below meth c Q g aC A ad n nL cf := by
  obtain ⟨x, y, v, st, e1, e2, rfl⟩ := pi_ll_inv h
  intro H locs ls hP hD hS hl
  rw [e1]
  exact row H locs ls _ x y v e2 (k H locs ls hP hD hS hl)
theorem ps_iadd {len : Nat} (F : Fx p s m args c cc nL own g aC aM A) (hd : decode cc cf.1 = .ok (.iadd, len)) (h : pi_gd len 1 (pi_ii (fun x y => some (x + y)) cf) = some cf') (k : pm_W p l e R s m args below meth c Q g aC A ad n nL cf') : pm_W p l e R s m args below meth c Q g aC A ad n nL cf := by
  obtain ⟨rfl, h⟩ := pi_gd_inv h
  exact pw_ii _ h k (fun H locs ls rest x y v e2 kk => by cases e2; exact lv_iadd F.1 F.2.1 hd kk)
theorem ps_isub {len : Nat} (F : Fx p s m args c cc nL own g aC aM A) (hd : decode cc cf.1 = .ok (.isub, len)) (h : pi_gd len 1 (pi_ii (fun x y => some (x - y)) cf) = some cf') (k : pm_W p l e R s m args below meth c Q g aC A ad n nL cf') : pm_W p l e R s m args below meth c Q g aC A ad n nL cf := by
  obtain ⟨rfl, h⟩ := pi_gd_inv h
  exact pw_ii _ h k (fun H locs ls rest x y v e2 kk => by cases e2; exact lv_isub F.1 F.2.1 hd kk)
theorem ps_imul {len : Nat} (F : Fx p s m args c cc nL own g aC aM A) (hd : decode cc cf.1 = .ok (.imul, len)) (h : pi_gd len 1 (pi_ii (fun x y => some (x * y)) cf) = some cf') (k : pm_W p l e R s m args below meth c Q g aC A ad n nL cf') : pm_W p l e R s m args below meth c Q g aC A ad n nL cf := by
  obtain ⟨rfl, h⟩ := pi_gd_inv h
  exact pw_ii _ h k (fun H locs ls rest x y v e2 kk => by cases e2; exact lv_imul F.1 F.2.1 hd kk)
theorem ps_iand {len : Nat} (F : Fx p s m args c cc nL own g aC aM A) (hd : decode cc cf.1 = .ok (.iand, len)) (h : pi_gd len 1 (pi_ii (fun x y => some (x &&& y)) cf) = some cf') (k : pm_W p l e R s m args below meth c Q g aC A ad n nL cf') : pm_W p l e R s m args below meth c Q g aC A ad n nL cf := by
  obtain ⟨rfl, h⟩ := pi_gd_inv h
  exact pw_ii _ h k (fun H locs ls rest x y v e2 kk => by cases e2; exact lv_iand F.1 F.2.1 hd kk)
theorem ps_ior {len : Nat} (F : Fx p s m args c cc nL own g aC aM A) (hd : decode cc cf.1 = .ok (.ior, len)) (h : pi_gd len 1 (pi_ii (fun x y => some (x ||| y)) cf) = some cf') (k : pm_W p l e R s m args below meth c Q g aC A ad n nL cf') : pm_W p l e R s m args below meth c Q g aC A ad n nL cf := by
  obtain ⟨rfl, h⟩ := pi_gd_inv h
  exact pw_ii _ h k (fun H locs ls rest x y v e2 kk => by cases e2; exact lv_ior F.1 F.2.1 hd kk)
theorem ps_ixor {len : Nat} (F : Fx p s m args c cc nL own g aC aM A) (hd : decode cc cf.1 = .ok (.ixor, len)) (h : pi_gd len 1 (pi_ii (fun x y => some (x ^^^ y)) cf) = some cf') (k : pm_W p l e R s m args below meth c Q g aC A ad n nL cf') : pm_W p l e R s m args below meth c Q g aC A ad n nL cf := by
  obtain ⟨rfl, h⟩ := pi_gd_inv h
  exact pw_ii _ h k (fun H locs ls rest x y v e2 kk => by cases e2; exact lv_ixor F.1 F.2.1 hd kk)
theorem ps_ishl {len : Nat} (F : Fx p s m args c cc nL own g aC aM A) (hd : decode cc cf.1 = .ok (.ishl, len)) (h : pi_gd len 1 (pi_ii (fun x y => some (x <<< (y &&& 31))) cf) = some cf') (k : pm_W p l e R s m args below meth c Q g aC A ad n nL cf') : pm_W p l e R s m args below meth c Q g aC A ad n nL cf := by
  obtain ⟨rfl, h⟩ := pi_gd_inv h
  exact pw_ii _ h k (fun H locs ls rest x y v e2 kk => by cases e2; exact lv_ishl F.1 F.2.1 hd kk)
theorem ps_ishr {len : Nat} (F : Fx p s m args c cc nL own g aC aM A) (hd : decode cc cf.1 = .ok (.ishr, len)) (h : pi_gd len 1 (pi_ii (fun x y => some (x >>> (y &&& 31))) cf) = some cf') (k : pm_W p l e R s m args below meth c Q g aC A ad n nL cf') : pm_W p l e R s m args below meth c Q g aC A ad n nL cf := by
  obtain ⟨rfl, h⟩ := pi_gd_inv h
  exact pw_ii _ h k (fun H locs ls rest x y v e2 kk => by cases e2; exact lv_ishr F.1 F.2.1 hd kk)
theorem ps_ladd {len : Nat} (F : Fx p s m args c cc nL own g aC aM A) (hd : decode cc cf.1 = .ok (.ladd, len)) (h : pi_gd len 1 (pi_ll (fun x y => some (x + y)) cf) = some cf') (k : pm_W p l e R s m args below meth c Q g aC A ad n nL cf') : pm_W p l e R s m args below meth c Q g aC A ad n nL cf := by
  obtain ⟨rfl, h⟩ := pi_gd_inv h
  exact pw_ll _ h k (fun H locs ls rest x y v e2 kk => by cases e2; exact lv_ladd F.1 F.2.1 hd kk)
theorem ps_lsub {len : Nat} (F : Fx p s m args c cc nL own g aC aM A) (hd : decode cc cf.1 = .ok (.lsub, len)) (h : pi_gd len 1 (pi_ll (fun x y => some (x - y)) cf) = some cf') (k : pm_W p l e R s m args below meth c Q g aC A ad n nL cf') : pm_W p l e R s m args below meth c Q g aC A ad n nL cf := by
  obtain ⟨rfl, h⟩ := pi_gd_inv h
  exact pw_ll _ h k (fun H locs ls rest x y v e2 kk => by cases e2; exact lv_lsub F.1 F.2.1 hd kk)
theorem ps_lmul {len : Nat} (F : Fx p s m args c cc nL own g aC aM A) (hd : decode cc cf.1 = .ok (.lmul, len)) (h : pi_gd len 1 (pi_ll (fun x y => some (x * y)) cf) = some cf') (k : pm_W p l e R s m args below meth c Q g aC A ad n nL cf') : pm_W p l e R s m args below meth c Q g aC A ad n nL cf := by
  obtain ⟨rfl, h⟩ := pi_gd_inv h
  exact pw_ll _ h k (fun H locs ls rest x y v e2 kk => by cases e2; exact lv_lmul F.1 F.2.1 hd kk)
theorem ps_land {len : Nat} (F : Fx p s m args c cc nL own g aC aM A) (hd : decode cc cf.1 = .ok (.land, len)) (h : pi_gd len 1 (pi_ll (fun x y => some (x &&& y)) cf) = some cf') (k : pm_W p l e R s m args below meth c Q g aC A ad n nL cf') : pm_W p l e R s m args below meth c Q g aC A ad n nL cf := by
  obtain ⟨rfl, h⟩ := pi_gd_inv h
  exact pw_ll _ h k (fun H locs ls rest x y v e2 kk => by cases e2; exact lv_land F.1 F.2.1 hd kk)
theorem ps_lor {len : Nat} (F : Fx p s m args c cc nL own g aC aM A) (hd : decode cc cf.1 = .ok (.lor, len)) (h : pi_gd len 1 (pi_ll (fun x y => some (x ||| y)) cf) = some cf') (k : pm_W p l e R s m args below meth c Q g aC A ad n nL cf') : pm_W p l e R s m args below meth c Q g aC A ad n nL cf := by
  obtain ⟨rfl, h⟩ := pi_gd_inv h
  exact pw_ll _ h k (fun H locs ls rest x y v e2 kk => by cases e2; exact lv_lor F.1 F.2.1 hd kk)
theorem ps_lxor {len : Nat} (F : Fx p s m args c cc nL own g aC aM A) (hd : decode cc cf.1 = .ok (.lxor, len)) (h : pi_gd len 1 (pi_ll (fun x y => some (x ^^^ y)) cf) = some cf') (k : pm_W p l e R s m args below meth c Q g aC A ad n nL cf') : pm_W p l e R s m args below meth c Q g aC A ad n nL cf := by
  obtain ⟨rfl, h⟩ := pi_gd_inv h
  exact pw_ll _ h k (fun H locs ls rest x y v e2 kk => by cases e2; exact lv_lxor F.1 F.2.1 hd kk)
theorem ps_iushr {len : Nat} (F : Fx p s m args c cc nL own g aC aM A) (hd : decode cc cf.1 = .ok (.iushr, len)) (h : pi_gd len 1 (pi_ii (fun x y => some ((x.toUInt32 >>> (y.toUInt32 &&& Int32.toUInt32 31)).toInt32)) cf) = some cf') (k : pm_W p l e R s m args below meth c Q g aC A ad n nL cf') : pm_W p l e R s m args below meth c Q g aC A ad n nL cf := by
  obtain ⟨rfl, h⟩ := pi_gd_inv h
  exact pw_ii _ h k (fun H locs ls rest x y v e2 kk => by cases e2; exact lv_iushr F.1 F.2.1 hd rfl kk)
theorem ps_idiv {len : Nat} (F : Fx p s m args c cc nL own g aC aM A) (hd : decode cc cf.1 = .ok (.idiv, len)) (h : pi_gd len 1 (pi_ii (fun x y => if y = 0 then none else some (x / y)) cf) = some cf') (k : pm_W p l e R s m args below meth c Q g aC A ad n nL cf') : pm_W p l e R s m args below meth c Q g aC A ad n nL cf := by
  obtain ⟨rfl, h⟩ := pi_gd_inv h
  refine pw_ii _ h k (fun H locs ls rest x y v e2 kk => ?_)
  split at e2
  · cases e2
  · rename_i hz
    cases e2
    exact lv_idiv F.1 F.2.1 hd hz kk
theorem ps_irem {len : Nat} (F : Fx p s m args c cc nL own g aC aM A) (hd : decode cc cf.1 = .ok (.irem, len)) (h : pi_gd len 1 (pi_ii (fun x y => if y = 0 then none else some (x - x / y * y)) cf) = some cf') (k : pm_W p l e R s m args below meth c Q g aC A ad n nL cf') : pm_W p l e R s m args below meth c Q g aC A ad n nL cf := by
  obtain ⟨rfl, h⟩ := pi_gd_inv h
  refine pw_ii _ h k (fun H locs ls rest x y v e2 kk => ?_)
  split at e2
  · cases e2
  · rename_i hz
    cases e2
    exact lv_irem F.1 F.2.1 hd hz kk
theorem ps_ldiv {len : Nat} (F : Fx p s m args c cc nL own g aC aM A) (hd : decode cc cf.1 = .ok (.ldiv, len)) (h : pi_gd len 1 (pi_ll (fun x y => if y = 0 then none else some (x / y)) cf) = some cf') (k : pm_W p l e R s m args below meth c Q g aC A ad n nL cf') : pm_W p l e R s m args below meth c Q g aC A ad n nL cf := by
  obtain ⟨rfl, h⟩ := pi_gd_inv h
  refine pw_ll _ h k (fun H locs ls rest x y v e2 kk => ?_)
  split at e2
  · cases e2
  · rename_i hz
    cases e2
    exact lv_ldiv F.1 F.2.1 hd hz kk
theorem ps_lrem {len : Nat} (F : Fx p s m args c cc nL own g aC aM A) (hd : decode cc cf.1 = .ok (.lrem, len)) (h : pi_gd len 1 (pi_ll (fun x y => if y = 0 then none else some (x - x / y * y)) cf) = some cf') (k : pm_W p l e R s m args below meth c Q g aC A ad n nL cf') : pm_W p l e R s m args below meth c Q g aC A ad n nL cf := by
  obtain ⟨rfl, h⟩ := pi_gd_inv h
  refine pw_ll _ h k (fun H locs ls rest x y v e2 kk => ?_)
  split at e2
  · cases e2
  · rename_i hz
    cases e2
    exact lv_lrem F.1 F.2.1 hd hz kk
theorem ps_lshl {len : Nat} (F : Fx p s m args c cc nL own g aC aM A) (hd : decode cc cf.1 = .ok (.lshl, len)) (h : pi_gd len 1 (pi_li (fun x y => x <<< (y.toInt64 &&& 63)) cf) = some cf') (k : pm_W p l e R s m args below meth c Q g aC A ad n nL cf') : pm_W p l e R s m args below meth c Q g aC A ad n nL cf := by
  obtain ⟨rfl, h⟩ := pi_gd_inv h
  obtain ⟨x, y, st, e1, rfl⟩ := pi_li_inv h
  intro H locs ls hP hD hS hl
  rw [e1]
  exact lv_lshl F.1 F.2.1 hd rfl (k H locs ls hP hD hS hl)
theorem ps_lshr {len : Nat} (F : Fx p s m args c cc nL own g aC aM A) (hd : decode cc cf.1 = .ok (.lshr, len)) (h : pi_gd len 1 (pi_li (fun x y => x >>> (y.toInt64 &&& 63)) cf) = some cf') (k : pm_W p l e R s m args below meth c Q g aC A ad n nL cf') : pm_W p l e R s m args below meth c Q g aC A ad n nL cf := by
  obtain ⟨rfl, h⟩ := pi_gd_inv h
  obtain ⟨x, y, st, e1, rfl⟩ := pi_li_inv h
  intro H locs ls hP hD hS hl
  rw [e1]
  exact lv_lshr F.1 F.2.1 hd rfl (k H locs ls hP hD hS hl)
theorem ps_lushr {len : Nat} (F : Fx p s m args c cc nL own g aC aM A) (hd : decode cc cf.1 = .ok (.lushr, len)) (h : pi_gd len 1 (pi_li (fun x y => (x.toUInt64 >>> (y.toInt64.toUInt64 &&& Int64.toUInt64 63)).toInt64) cf) = some cf') (k : pm_W p l e R s m args below meth c Q g aC A ad n nL cf') : pm_W p l e R s m args below meth c Q g aC A ad n nL cf := by
  obtain ⟨rfl, h⟩ := pi_gd_inv h
  obtain ⟨x, y, st, e1, rfl⟩ := pi_li_inv h
  intro H locs ls hP hD hS hl
  rw [e1]
  exact lv_lushr F.1 F.2.1 hd rfl (k H locs ls hP hD hS hl)
theorem ps_ineg {len : Nat} (F : Fx p s m args c cc nL own g aC aM A) (hd : decode cc cf.1 = .ok (.ineg, len)) (h : pi_gd len 1 (pi_i (fun x => .int (-x)) cf) = some cf') (k : pm_W p l e R s m args below meth c Q g aC A ad n nL cf') : pm_W p l e R s m args below meth c Q g aC A ad n nL cf := by
  obtain ⟨rfl, h⟩ := pi_gd_inv h
  obtain ⟨x, st, e1, rfl⟩ := pi_i_inv h
  intro H locs ls hP hD hS hl
  rw [e1]
  exact lv_ineg F.1 F.2.1 hd (k H locs ls hP hD hS hl)
theorem ps_i2l {len : Nat} (F : Fx p s m args c cc nL own g aC aM A) (hd : decode cc cf.1 = .ok (.i2l, len)) (h : pi_gd len 1 (pi_i (fun x => .long x.toInt64) cf) = some cf') (k : pm_W p l e R s m args below meth c Q g aC A ad n nL cf') : pm_W p l e R s m args below meth c Q g aC A ad n nL cf := by
  obtain ⟨rfl, h⟩ := pi_gd_inv h
  obtain ⟨x, st, e1, rfl⟩ := pi_i_inv h
  intro H locs ls hP hD hS hl
  rw [e1]
  exact lv_i2l F.1 F.2.1 hd rfl (k H locs ls hP hD hS hl)
theorem ps_i2b {len : Nat} (F : Fx p s m args c cc nL own g aC aM A) (hd : decode cc cf.1 = .ok (.i2b, len)) (h : pi_gd len 1 (pi_i (fun x => .int x.toInt8.toInt32) cf) = some cf') (k : pm_W p l e R s m args below meth c Q g aC A ad n nL cf') : pm_W p l e R s m args below meth c Q g aC A ad n nL cf := by
  obtain ⟨rfl, h⟩ := pi_gd_inv h
  obtain ⟨x, st, e1, rfl⟩ := pi_i_inv h
  intro H locs ls hP hD hS hl
  rw [e1]
  exact lv_i2b F.1 F.2.1 hd rfl (k H locs ls hP hD hS hl)
theorem ps_i2c {len : Nat} (F : Fx p s m args c cc nL own g aC aM A) (hd : decode cc cf.1 = .ok (.i2c, len)) (h : pi_gd len 1 (pi_i (fun x => .int (x.toUInt32 % 65536).toInt32) cf) = some cf') (k : pm_W p l e R s m args below meth c Q g aC A ad n nL cf') : pm_W p l e R s m args below meth c Q g aC A ad n nL cf := by
  obtain ⟨rfl, h⟩ := pi_gd_inv h
  obtain ⟨x, st, e1, rfl⟩ := pi_i_inv h
  intro H locs ls hP hD hS hl
  rw [e1]
  exact lv_i2c F.1 F.2.1 hd rfl (k H locs ls hP hD hS hl)
theorem ps_l2i {len : Nat} (F : Fx p s m args c cc nL own g aC aM A) (hd : decode cc cf.1 = .ok (.l2i, len)) (h : pi_gd len 1 (pi_l (fun x => .int x.toInt32) cf) = some cf') (k : pm_W p l e R s m args below meth c Q g aC A ad n nL cf') : pm_W p l e R s m args below meth c Q g aC A ad n nL cf := by
  obtain ⟨rfl, h⟩ := pi_gd_inv h
  obtain ⟨x, st, e1, rfl⟩ := pi_l_inv h
  intro H locs ls hP hD hS hl
  rw [e1]
  exact lv_l2i F.1 F.2.1 hd rfl (k H locs ls hP hD hS hl)
theorem ps_lcmp {len : Nat} (F : Fx p s m args c cc nL own g aC aM A) (hd : decode cc cf.1 = .ok (.lcmp, len)) (h : pi_gd len 1 (pi_lc cf) = some cf') (k : pm_W p l e R s m args below meth c Q g aC A ad n nL cf') : pm_W p l e R s m args below meth c Q g aC A ad n nL cf := by
  obtain ⟨rfl, h⟩ := pi_gd_inv h
  obtain ⟨x, y, st, e1, rfl⟩ := pi_lc_inv h
  intro H locs ls hP hD hS hl
  rw [e1]
  exact W.lcmp F.1 F.2.1 hd (k H locs ls hP hD hS hl)
theorem ps_dup {len : Nat} (F : Fx p s m args c cc nL own g aC aM A) (hd : decode cc cf.1 = .ok (.dup, len)) (h : pi_gd len 1 (pi_dup cf) = some cf') (k : pm_W p l e R s m args below meth c Q g aC A ad n nL cf') : pm_W p l e R s m args below meth c Q g aC A ad n nL cf := by
  obtain ⟨rfl, h⟩ := pi_gd_inv h
  obtain ⟨a, st, e1, e2, rfl⟩ := pi_dup_inv h
  intro H locs ls hP hD hS hl
  rw [e1]
  exact lv_dup F.1 F.2.1 hd (by rw [pm_cat]; exact e2) (k H locs ls hP hD hS hl)
theorem ps_pop {len : Nat} (F : Fx p s m args c cc nL own g aC aM A) (hd : decode cc cf.1 = .ok (.pop, len)) (h : pi_gd len 1 (pi_pop cf) = some cf') (k : pm_W p l e R s m args below meth c Q g aC A ad n nL cf') : pm_W p l e R s m args below meth c Q g aC A ad n nL cf := by
  obtain ⟨rfl, h⟩ := pi_gd_inv h
  obtain ⟨a, st, e1, e2, rfl⟩ := pi_pop_inv h
  intro H locs ls hP hD hS hl
  rw [e1]
  exact lv_pop F.1 F.2.1 hd (by rw [pm_cat]; exact e2) (k H locs ls hP hD hS hl)
theorem ps_dup2 {len : Nat} (F : Fx p s m args c cc nL own g aC aM A) (hd : decode cc cf.1 = .ok (.dup2, len)) (h : pi_gd len 1 (pi_dup2 cf) = some cf') (k : pm_W p l e R s m args below meth c Q g aC A ad n nL cf') : pm_W p l e R s m args below meth c Q g aC A ad n nL cf := by
  obtain ⟨rfl, h⟩ := pi_gd_inv h
  obtain ⟨a, b, st, e1, e2, rfl⟩ := pi_dup2_inv h
  intro H locs ls hP hD hS hl
  rw [e1]
  exact lv_dup2_11 F.1 F.2.1 hd (by rw [pm_cat]; exact e2.1) (by rw [pm_cat]; exact e2.2) (k H locs ls hP hD hS hl)
theorem ps_goto {len : Nat} {off : Int} (F : Fx p s m args c cc nL own g aC aM A) (hd : decode cc cf.1 = .ok (.goto off, len)) (h : pi_gd len 3 (pi_goto off cf) = some cf') (k : pm_W p l e R s m args below meth c Q g aC A ad n nL cf') : pm_W p l e R s m args below meth c Q g aC A ad n nL cf := by
  obtain ⟨rfl, h⟩ := pi_gd_inv h
  obtain ⟨t, ht, rfl⟩ := Option.map_eq_some_iff.mp h
  intro H locs ls hP hD hS hl
  exact lv_goto F.1 F.2.1 hd (pm_t_inv ht) (k H locs ls hP hD hS hl)
theorem ps_if {len : Nat} {q : Jvm.ClassFile.Cond} {off : Int} (F : Fx p s m args c cc nL own g aC aM A) (hd : decode cc cf.1 = .ok (.ifCond q off, len)) (h : pi_gd len 3 (pi_if q off cf) = some cf') (k : pm_W p l e R s m args below meth c Q g aC A ad n nL cf') : pm_W p l e R s m args below meth c Q g aC A ad n nL cf := by
  obtain ⟨rfl, h⟩ := pi_gd_inv h
  unfold pi_if at h
  split at h
  · rename_i x st he
    intro H locs ls hP hD hS hl
    rw [he]
    obtain ⟨t, ht, rfl⟩ := pi_br_inv h
    have kk := k H locs ls hP hD hS hl
    dsimp only at kk
    cases q
    · exact lv_if_eq F.1 F.2.1 hd ht (fun hc => by rw [if_pos (by simpa [pm_c] using hc)] at kk; exact kk) (fun hc => by rw [if_neg (by simpa [pm_c] using hc)] at kk; exact kk)
    · exact lv_if_ne F.1 F.2.1 hd ht (fun hc => by rw [if_pos (by simpa [pm_c] using hc)] at kk; exact kk) (fun hc => by rw [if_neg (by simpa [pm_c] using hc)] at kk; exact kk)
    · exact lv_if_lt F.1 F.2.1 hd ht (fun hc => by rw [if_pos (by simpa [pm_c] using hc)] at kk; exact kk) (fun hc => by rw [if_neg (by simpa [pm_c] using hc)] at kk; exact kk)
    · exact lv_if_ge F.1 F.2.1 hd ht (fun hc => by rw [if_pos (by simpa [pm_c] using hc)] at kk; exact kk) (fun hc => by rw [if_neg (by simpa [pm_c] using hc)] at kk; exact kk)
    · exact lv_if_gt F.1 F.2.1 hd ht (fun hc => by rw [if_pos (by simpa [pm_c] using hc)] at kk; exact kk) (fun hc => by rw [if_neg (by simpa [pm_c] using hc)] at kk; exact kk)
    · exact lv_if_le F.1 F.2.1 hd ht (fun hc => by rw [if_pos (by simpa [pm_c] using hc)] at kk; exact kk) (fun hc => by rw [if_neg (by simpa [pm_c] using hc)] at kk; exact kk)
  · cases h
theorem ps_icmp {len : Nat} {q : Jvm.ClassFile.Cond} {off : Int} (F : Fx p s m args c cc nL own g aC aM A) (hd : decode cc cf.1 = .ok (.if_icmp q off, len)) (h : pi_gd len 3 (pi_icmp q off cf) = some cf') (k : pm_W p l e R s m args below meth c Q g aC A ad n nL cf') : pm_W p l e R s m args below meth c Q g aC A ad n nL cf := by
  obtain ⟨rfl, h⟩ := pi_gd_inv h
  unfold pi_icmp at h
  split at h
  · rename_i y x st he
    intro H locs ls hP hD hS hl
    rw [he]
    obtain ⟨t, ht, rfl⟩ := pi_br_inv h
    have kk := k H locs ls hP hD hS hl
    dsimp only at kk
    cases q
    · exact lv_icmp_eq F.1 F.2.1 hd ht (fun hc => by rw [if_pos (by simpa [pm_c] using hc)] at kk; exact kk) (fun hc => by rw [if_neg (by simpa [pm_c] using hc)] at kk; exact kk)
    · exact lv_icmp_ne F.1 F.2.1 hd ht (fun hc => by rw [if_pos (by simpa [pm_c] using hc)] at kk; exact kk) (fun hc => by rw [if_neg (by simpa [pm_c] using hc)] at kk; exact kk)
    · exact lv_icmp_lt F.1 F.2.1 hd ht (fun hc => by rw [if_pos (by simpa [pm_c] using hc)] at kk; exact kk) (fun hc => by rw [if_neg (by simpa [pm_c] using hc)] at kk; exact kk)
    · exact lv_icmp_ge F.1 F.2.1 hd ht (fun hc => by rw [if_pos (by simpa [pm_c] using hc)] at kk; exact kk) (fun hc => by rw [if_neg (by simpa [pm_c] using hc)] at kk; exact kk)
    · exact lv_icmp_gt F.1 F.2.1 hd ht (fun hc => by rw [if_pos (by simpa [pm_c] using hc)] at kk; exact kk) (fun hc => by rw [if_neg (by simpa [pm_c] using hc)] at kk; exact kk)
    · exact lv_icmp_le F.1 F.2.1 hd ht (fun hc => by rw [if_pos (by simpa [pm_c] using hc)] at kk; exact kk) (fun hc => by rw [if_neg (by simpa [pm_c] using hc)] at kk; exact kk)
  · cases h
theorem ps_tsw {len : Nat} {d lo hi : Int} {offs : Array Int} (F : Fx p s m args c cc nL own g aC aM A) (hd : decode cc cf.1 = .ok (.tableswitch d lo hi offs, len)) (h : pi_tsw d lo hi offs cf = some cf') (k : pm_W p l e R s m args below meth c Q g aC A ad n nL cf') : pm_W p l e R s m args below meth c Q g aC A ad n nL cf := by
  unfold pi_tsw at h
  split at h
  · rename_i x st he
    obtain ⟨t, ht, rfl⟩ := Option.map_eq_some_iff.mp h
    intro H locs ls hP hD hS hl
    have kk := k H locs ls hP hD hS hl
    rw [he]
    by_cases hc : x.toInt < lo ∨ hi < x.toInt
    · rw [if_pos hc] at ht
      exact lv_tableOut F.1 F.2.1 hd hc (pm_t_inv ht) kk
    · rw [if_neg hc] at ht
      obtain ⟨off, ho, ht⟩ := Option.bind_eq_some_iff.mp ht
      exact lv_tableIn F.1 F.2.1 hd (fun q => hc (Or.inl q)) (fun q => hc (Or.inr q)) ho (pm_t_inv ht) kk
  · cases h
theorem ps_iconst {len : Nat} {z : Int} (F : Fx p s m args c cc nL own g aC aM A) (hd : decode cc cf.1 = .ok (.iconst z, len)) (h : pi_gd len 1 (pi_k (.int (Int32.ofInt z)) 1 cf) = some cf') (k : pm_W p l e R s m args below meth c Q g aC A ad n nL cf') : pm_W p l e R s m args below meth c Q g aC A ad n nL cf := by
  obtain ⟨rfl, h⟩ := pi_gd_inv h
  cases h
  intro H locs ls hP hD hS hl
  exact lv_iconst F.1 F.2.1 hd rfl (k H locs ls hP hD hS hl)
theorem ps_bipush {len : Nat} {z : Int} (F : Fx p s m args c cc nL own g aC aM A) (hd : decode cc cf.1 = .ok (.bipush z, len)) (h : pi_gd len 2 (pi_k (.int (Int8.ofInt z).toInt32) 2 cf) = some cf') (k : pm_W p l e R s m args below meth c Q g aC A ad n nL cf') : pm_W p l e R s m args below meth c Q g aC A ad n nL cf := by
  obtain ⟨rfl, h⟩ := pi_gd_inv h
  cases h
  intro H locs ls hP hD hS hl
  exact lv_bipush F.1 F.2.1 hd rfl (k H locs ls hP hD hS hl)
theorem ps_sipush {len : Nat} {z : Int} (F : Fx p s m args c cc nL own g aC aM A) (hd : decode cc cf.1 = .ok (.sipush z, len)) (h : pi_gd len 3 (pi_k (.int (Int16.ofInt z).toInt32) 3 cf) = some cf') (k : pm_W p l e R s m args below meth c Q g aC A ad n nL cf') : pm_W p l e R s m args below meth c Q g aC A ad n nL cf := by
  obtain ⟨rfl, h⟩ := pi_gd_inv h
  cases h
  intro H locs ls hP hD hS hl
  exact lv_sipush F.1 F.2.1 hd rfl (k H locs ls hP hD hS hl)
theorem ps_lconst {len : Nat} {z : Fin 2} (F : Fx p s m args c cc nL own g aC aM A) (hd : decode cc cf.1 = .ok (.lconst z, len)) (h : pi_gd len 1 (pi_k (.long (Int64.ofNat (z : Nat))) 1 cf) = some cf') (k : pm_W p l e R s m args below meth c Q g aC A ad n nL cf') : pm_W p l e R s m args below meth c Q g aC A ad n nL cf := by
  obtain ⟨rfl, h⟩ := pi_gd_inv h
  cases h
  intro H locs ls hP hD hS hl
  exact lv_lconst F.1 F.2.1 hd rfl (k H locs ls hP hD hS hl)
theorem ps_iload_n {len : Nat} {z : Fin 4} (F : Fx p s m args c cc nL own g aC aM A) (hd : decode cc cf.1 = .ok (.iload_n z, len)) (h : pi_gd len 1 (pi_ld pm_isI (z : Nat) 1 cf) = some cf') (k : pm_W p l e R s m args below meth c Q g aC A ad n nL cf') : pm_W p l e R s m args below meth c Q g aC A ad n nL cf := by
  obtain ⟨rfl, h⟩ := pi_gd_inv h
  obtain ⟨v, e1, e2, rfl⟩ := pi_ld_inv h
  intro H locs ls hP hD hS hl
  have kk := k H locs ls hP hD hS hl
  have hv := pm_has hl e1
  cases v <;> first | exact lv_iload_n F.1 F.2.1 hd rfl hv kk | exact absurd e2 (by decide) | cases e2
theorem ps_istore_n {len : Nat} {z : Fin 4} (F : Fx p s m args c cc nL own g aC aM A) (hd : decode cc cf.1 = .ok (.istore_n z, len)) (h : pi_gd len 1 (pi_st1 pm_isI (z : Nat) 1 nL cf) = some cf') (k : pm_W p l e R s m args below meth c Q g aC A ad n nL cf') : pm_W p l e R s m args below meth c Q g aC A ad n nL cf := by
  obtain ⟨rfl, h⟩ := pi_gd_inv h
  obtain ⟨v, st, e1, e2, rfl⟩ := pi_st1_inv h
  intro H locs ls hP hD hS hl
  rw [e1]
  cases v with
  | int x => exact lv_istore_n F.1 F.2.1 hd rfl hl e2.2 (pm_l_s1 (v := .int x)) (fun ls' hl' => k H locs ls' hP hD hS hl')
  | _ => exact absurd (show false = true from e2.1) (by decide)
theorem ps_iload {len : Nat} {z : Nat} (F : Fx p s m args c cc nL own g aC aM A) (hd : decode cc cf.1 = .ok (.iload z, len)) (h : pi_gd len 2 (pi_ld pm_isI z 2 cf) = some cf') (k : pm_W p l e R s m args below meth c Q g aC A ad n nL cf') : pm_W p l e R s m args below meth c Q g aC A ad n nL cf := by
  obtain ⟨rfl, h⟩ := pi_gd_inv h
  obtain ⟨v, e1, e2, rfl⟩ := pi_ld_inv h
  intro H locs ls hP hD hS hl
  have kk := k H locs ls hP hD hS hl
  have hv := pm_has hl e1
  cases v <;> first | exact lv_iload F.1 F.2.1 hd hv kk | exact absurd e2 (by decide) | cases e2
theorem ps_istore {len : Nat} {z : Nat} (F : Fx p s m args c cc nL own g aC aM A) (hd : decode cc cf.1 = .ok (.istore z, len)) (h : pi_gd len 2 (pi_st1 pm_isI z 2 nL cf) = some cf') (k : pm_W p l e R s m args below meth c Q g aC A ad n nL cf') : pm_W p l e R s m args below meth c Q g aC A ad n nL cf := by
  obtain ⟨rfl, h⟩ := pi_gd_inv h
  obtain ⟨v, st, e1, e2, rfl⟩ := pi_st1_inv h
  intro H locs ls hP hD hS hl
  rw [e1]
  cases v with
  | int x => exact lv_istore F.1 F.2.1 hd hl e2.2 (pm_l_s1 (v := .int x)) (fun ls' hl' => k H locs ls' hP hD hS hl')
  | _ => exact absurd (show false = true from e2.1) (by decide)
theorem ps_lload_n {len : Nat} {z : Fin 4} (F : Fx p s m args c cc nL own g aC aM A) (hd : decode cc cf.1 = .ok (.lload_n z, len)) (h : pi_gd len 1 (pi_ld pm_isL (z : Nat) 1 cf) = some cf') (k : pm_W p l e R s m args below meth c Q g aC A ad n nL cf') : pm_W p l e R s m args below meth c Q g aC A ad n nL cf := by
  obtain ⟨rfl, h⟩ := pi_gd_inv h
  obtain ⟨v, e1, e2, rfl⟩ := pi_ld_inv h
  intro H locs ls hP hD hS hl
  have kk := k H locs ls hP hD hS hl
  have hv := pm_has hl e1
  cases v <;> first | exact lv_lload_n F.1 F.2.1 hd rfl hv kk | exact absurd e2 (by decide) | cases e2
theorem ps_lstore_n {len : Nat} {z : Fin 4} (F : Fx p s m args c cc nL own g aC aM A) (hd : decode cc cf.1 = .ok (.lstore_n z, len)) (h : pi_gd len 1 (pi_st2 (z : Nat) 1 nL cf) = some cf') (k : pm_W p l e R s m args below meth c Q g aC A ad n nL cf') : pm_W p l e R s m args below meth c Q g aC A ad n nL cf := by
  obtain ⟨rfl, h⟩ := pi_gd_inv h
  obtain ⟨v, st, e1, e2, rfl⟩ := pi_st2_inv h
  intro H locs ls hP hD hS hl
  rw [e1]
  cases v with
  | long x => exact lv_lstore_n F.1 F.2.1 hd rfl hl e2.2 (pm_l_s2 (v := .long x)) (fun ls' hl' => k H locs ls' hP hD hS hl')
  | _ => exact absurd (show false = true from e2.1) (by decide)
theorem ps_lload {len : Nat} {z : Nat} (F : Fx p s m args c cc nL own g aC aM A) (hd : decode cc cf.1 = .ok (.lload z, len)) (h : pi_gd len 2 (pi_ld pm_isL z 2 cf) = some cf') (k : pm_W p l e R s m args below meth c Q g aC A ad n nL cf') : pm_W p l e R s m args below meth c Q g aC A ad n nL cf := by
  obtain ⟨rfl, h⟩ := pi_gd_inv h
  obtain ⟨v, e1, e2, rfl⟩ := pi_ld_inv h
  intro H locs ls hP hD hS hl
  have kk := k H locs ls hP hD hS hl
  have hv := pm_has hl e1
  cases v <;> first | exact lv_lload F.1 F.2.1 hd hv kk | exact absurd e2 (by decide) | cases e2
theorem ps_lstore {len : Nat} {z : Nat} (F : Fx p s m args c cc nL own g aC aM A) (hd : decode cc cf.1 = .ok (.lstore z, len)) (h : pi_gd len 2 (pi_st2 z 2 nL cf) = some cf') (k : pm_W p l e R s m args below meth c Q g aC A ad n nL cf') : pm_W p l e R s m args below meth c Q g aC A ad n nL cf := by
  obtain ⟨rfl, h⟩ := pi_gd_inv h
  obtain ⟨v, st, e1, e2, rfl⟩ := pi_st2_inv h
  intro H locs ls hP hD hS hl
  rw [e1]
  cases v with
  | long x => exact lv_lstore F.1 F.2.1 hd hl e2.2 (pm_l_s2 (v := .long x)) (fun ls' hl' => k H locs ls' hP hD hS hl')
  | _ => exact absurd (show false = true from e2.1) (by decide)
theorem ps_aload_n {len : Nat} {z : Fin 4} (F : Fx p s m args c cc nL own g aC aM A) (hd : decode cc cf.1 = .ok (.aload_n z, len)) (h : pi_gd len 1 (pi_ld pm_isR (z : Nat) 1 cf) = some cf') (k : pm_W p l e R s m args below meth c Q g aC A ad n nL cf') : pm_W p l e R s m args below meth c Q g aC A ad n nL cf := by
  obtain ⟨rfl, h⟩ := pi_gd_inv h
  obtain ⟨v, e1, e2, rfl⟩ := pi_ld_inv h
  intro H locs ls hP hD hS hl
  have kk := k H locs ls hP hD hS hl
  have hv := pm_has hl e1
  cases v <;> first | exact lv_aload_n F.1 F.2.1 hd rfl hv kk | exact absurd e2 (by decide) | cases e2
theorem ps_astore_n {len : Nat} {z : Fin 4} (F : Fx p s m args c cc nL own g aC aM A) (hd : decode cc cf.1 = .ok (.astore_n z, len)) (h : pi_gd len 1 (pi_st1 pm_isR (z : Nat) 1 nL cf) = some cf') (k : pm_W p l e R s m args below meth c Q g aC A ad n nL cf') : pm_W p l e R s m args below meth c Q g aC A ad n nL cf := by
  obtain ⟨rfl, h⟩ := pi_gd_inv h
  obtain ⟨v, st, e1, e2, rfl⟩ := pi_st1_inv h
  intro H locs ls hP hD hS hl
  rw [e1]
  cases v with
  | ref x => exact lv_astore_n F.1 F.2.1 hd rfl hl e2.2 (pm_l_s1 (v := .ref x)) (fun ls' hl' => k H locs ls' hP hD hS hl')
  | _ => exact absurd (show false = true from e2.1) (by decide)
theorem ps_aload {len : Nat} {z : Nat} (F : Fx p s m args c cc nL own g aC aM A) (hd : decode cc cf.1 = .ok (.aload z, len)) (h : pi_gd len 2 (pi_ld pm_isR z 2 cf) = some cf') (k : pm_W p l e R s m args below meth c Q g aC A ad n nL cf') : pm_W p l e R s m args below meth c Q g aC A ad n nL cf := by
  obtain ⟨rfl, h⟩ := pi_gd_inv h
  obtain ⟨v, e1, e2, rfl⟩ := pi_ld_inv h
  intro H locs ls hP hD hS hl
  have kk := k H locs ls hP hD hS hl
  have hv := pm_has hl e1
  cases v <;> first | exact lv_aload F.1 F.2.1 hd hv kk | exact absurd e2 (by decide) | cases e2
theorem ps_astore {len : Nat} {z : Nat} (F : Fx p s m args c cc nL own g aC aM A) (hd : decode cc cf.1 = .ok (.astore z, len)) (h : pi_gd len 2 (pi_st1 pm_isR z 2 nL cf) = some cf') (k : pm_W p l e R s m args below meth c Q g aC A ad n nL cf') : pm_W p l e R s m args below meth c Q g aC A ad n nL cf := by
  obtain ⟨rfl, h⟩ := pi_gd_inv h
  obtain ⟨v, st, e1, e2, rfl⟩ := pi_st1_inv h
  intro H locs ls hP hD hS hl
  rw [e1]
  cases v with
  | ref x => exact lv_astore F.1 F.2.1 hd hl e2.2 (pm_l_s1 (v := .ref x)) (fun ls' hl' => k H locs ls' hP hD hS hl')
  | _ => exact absurd (show false = true from e2.1) (by decide)
theorem ps_iinc {len : Nat} {i : Nat} {z : Int} (F : Fx p s m args c cc nL own g aC aM A) (hd : decode cc cf.1 = .ok (.iinc i z, len)) (h : pi_gd len 3 (pi_inc i z nL cf) = some cf') (k : pm_W p l e R s m args below meth c Q g aC A ad n nL cf') : pm_W p l e R s m args below meth c Q g aC A ad n nL cf := by
  obtain ⟨rfl, h⟩ := pi_gd_inv h
  obtain ⟨x, e1, e2, rfl⟩ := pi_inc_inv h
  intro H locs ls hP hD hS hl
  obtain ⟨q, hq⟩ := pm_hasK (ad := ad) e1
  exact lv_iinc F.1 F.2.1 hd hl hq rfl e2 (pm_l_s1 (v := .int (x + Int32.ofInt z))) (fun ls' hl' => k H locs ls' hP hD hS hl')
end Pw
