/-! steps of java/lang/Math: of a method me, at a configuration -/
def px_max (me : Me) (a b : Cf) : Prop := ∃ (idx : Nat) (x y : Int32) (st : List Value), decode me.2.1 a.1 = .ok (.invokestatic idx, 3) ∧ Cond.methodLink me.1.cls idx Lib.Math.max.name ∈ gw ∧ a.2.2.1 = .int y :: .int x :: st ∧ (st.map fun v => v.category).sum ≤ 8 ∧ b = (a.1 + 3, a.2.1, .int (if x < y then y else x) :: st, a.2.2.2)
def px_min (me : Me) (a b : Cf) : Prop := ∃ (idx : Nat) (x y : Int32) (st : List Value), decode me.2.1 a.1 = .ok (.invokestatic idx, 3) ∧ Cond.methodLink me.1.cls idx Lib.Math.min.name ∈ gw ∧ a.2.2.1 = .int y :: .int x :: st ∧ (st.map fun v => v.category).sum ≤ 8 ∧ b = (a.1 + 3, a.2.1, .int (if y < x then y else x) :: st, a.2.2.2)
def px_abs (me : Me) (a b : Cf) : Prop := ∃ (idx : Nat) (x : Int32) (st : List Value), decode me.2.1 a.1 = .ok (.invokestatic idx, 3) ∧ Cond.methodLink me.1.cls idx Lib.Math.abs.name ∈ gw ∧ a.2.2.1 = .int x :: st ∧ (st.map fun v => v.category).sum ≤ 8 ∧ b = (a.1 + 3, a.2.1, .int (if 0 ≤ x then x else 0 - x) :: st, a.2.2.2)
def px_maxL (me : Me) (a b : Cf) : Prop := ∃ (idx : Nat) (x y : Int64) (st : List Value), decode me.2.1 a.1 = .ok (.invokestatic idx, 3) ∧ Cond.methodLink me.1.cls idx Lib.MathLoose.max_long.x ∈ gw ∧ a.2.2.1 = .long y :: .long x :: st ∧ (st.map fun v => v.category).sum ≤ 8 ∧ b = (a.1 + 3, a.2.1, .long (if y < x then x else y) :: st, a.2.2.2)
section Px
variable {p : Program} {l : Launch} {e : Env} {s : State} {m : MethodId} {args : Array Value} {below : List Frame} {meth : Method} {c : Code} {Q : State → Prop} {g : va_G} {aC : Nat → ClassId} {aM : Nat → Nat} {A : Nat → Prop} {ad : Nat → Nat} {n d : Nat} {me : Me} {a b : Cf}
theorem px_sum {st : List Value} (h : (st.map fun v => v.category).sum ≤ 8) : ((st.map (pm_v ad)).map fun v => v.category).sum ≤ 8 := by
  rw [List.map_map]
  have : (fun v => v.category) ∘ pm_v ad = fun v : Value => v.category := funext fun v => pm_cat ad v
  rw [this]
  exact h
theorem px_max_ok (F : Fx p s m args c me.2.1 me.2.2.1 me.1.cls g aC aM A) (k1 : Cond.static Lib.Math.max.name ∈ gw) (k2 : Cond.initialized "java/lang/Math" ∈ gw) (k3 : Cond.code Lib.Math.max.name Lib.Math.max.code 2 (some .int) ∈ gw) (h : px_max me a b) (k : pm_W p l e (rmL (d + 1) 0 0) s m args below meth c Q g aC A ad n me.2.2.1 b) : pm_W p l e (rmL (d + 1) 0 0) s m args below meth c Q g aC A ad n me.2.2.1 a := by
  obtain ⟨idx, x, y, st, hd, hl1, he, hw, rfl⟩ := h
  intro H locs ls hP hD hS hl
  rw [he]
  have hs := px_sum (ad := ad) hw
  exact va_mmax F.1 F.2.1 (F.2.2.1.trans hl.1.symm) F.2.2.2.1 (F.2.2.2.2.1 _ hl1) (F.2.2.2.2.1 _ k1) (F.2.2.2.2.1 _ k2) (F.2.2.2.2.1 _ k3) (by show 1 ≤ d + 1; omega) (by show _ ≤ 60 * (d + 1); omega) (Nat.le_refl 0) (Nat.le_refl 0) hd (k H locs ls hP hD hS hl)
theorem px_min_ok (F : Fx p s m args c me.2.1 me.2.2.1 me.1.cls g aC aM A) (k1 : Cond.static Lib.Math.min.name ∈ gw) (k2 : Cond.initialized "java/lang/Math" ∈ gw) (k3 : Cond.code Lib.Math.min.name Lib.Math.min.code 2 (some .int) ∈ gw) (h : px_min me a b) (k : pm_W p l e (rmL (d + 1) 0 0) s m args below meth c Q g aC A ad n me.2.2.1 b) : pm_W p l e (rmL (d + 1) 0 0) s m args below meth c Q g aC A ad n me.2.2.1 a := by
  obtain ⟨idx, x, y, st, hd, hl1, he, hw, rfl⟩ := h
  intro H locs ls hP hD hS hl
  rw [he]
  have hs := px_sum (ad := ad) hw
  exact va_mmin F.1 F.2.1 (F.2.2.1.trans hl.1.symm) F.2.2.2.1 (F.2.2.2.2.1 _ hl1) (F.2.2.2.2.1 _ k1) (F.2.2.2.2.1 _ k2) (F.2.2.2.2.1 _ k3) (by show 1 ≤ d + 1; omega) (by show _ ≤ 60 * (d + 1); omega) (Nat.le_refl 0) (Nat.le_refl 0) hd (k H locs ls hP hD hS hl)
theorem px_abs_ok (F : Fx p s m args c me.2.1 me.2.2.1 me.1.cls g aC aM A) (k1 : Cond.static Lib.Math.abs.name ∈ gw) (k2 : Cond.initialized "java/lang/Math" ∈ gw) (k3 : Cond.code Lib.Math.abs.name Lib.Math.abs.code 1 (some .int) ∈ gw) (h : px_abs me a b) (k : pm_W p l e (rmL (d + 1) 0 0) s m args below meth c Q g aC A ad n me.2.2.1 b) : pm_W p l e (rmL (d + 1) 0 0) s m args below meth c Q g aC A ad n me.2.2.1 a := by
  obtain ⟨idx, x, st, hd, hl1, he, hw, rfl⟩ := h
  intro H locs ls hP hD hS hl
  rw [he]
  have hs := px_sum (ad := ad) hw
  exact va_mabs F.1 F.2.1 (F.2.2.1.trans hl.1.symm) F.2.2.2.1 (F.2.2.2.2.1 _ hl1) (F.2.2.2.2.1 _ k1) (F.2.2.2.2.1 _ k2) (F.2.2.2.2.1 _ k3) (by show 1 ≤ d + 1; omega) (by show _ ≤ 60 * (d + 1); omega) (Nat.le_refl 0) (Nat.le_refl 0) hd (k H locs ls hP hD hS hl)
theorem px_maxL_ok (F : Fx p s m args c me.2.1 me.2.2.1 me.1.cls g aC aM A) (k1 : Cond.static Lib.MathLoose.max_long.x ∈ gw) (k2 : Cond.initialized "java/lang/Math" ∈ gw) (k3 : Cond.code Lib.MathLoose.max_long.x Lib.MathLoose.max_long.code 4 (some .long) ∈ gw) (h : px_maxL me a b) (k : pm_W p l e (rmL (d + 1) 0 0) s m args below meth c Q g aC A ad n me.2.2.1 b) : pm_W p l e (rmL (d + 1) 0 0) s m args below meth c Q g aC A ad n me.2.2.1 a := by
  obtain ⟨idx, x, y, st, hd, hl1, he, hw, rfl⟩ := h
  intro H locs ls hP hD hS hl
  rw [he]
  have hs := px_sum (ad := ad) hw
  exact va_mmax_long F.1 F.2.1 (F.2.2.1.trans hl.1.symm) F.2.2.2.1 (F.2.2.2.2.1 _ hl1) (F.2.2.2.2.1 _ k1) (F.2.2.2.2.1 _ k2) (F.2.2.2.2.1 _ k3) (by show 1 ≤ d + 1; omega) (by show _ ≤ 60 * (d + 1); omega) (Nat.le_refl 0) (Nat.le_refl 0) hd (k H locs ls hP hD hS hl)
end Px
