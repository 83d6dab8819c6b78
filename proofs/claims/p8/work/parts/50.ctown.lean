/-! what a town tells: the class -/
theorem zt8_0 {t : Nat} (ht : t = 7 ∨ t = 43) : zrho t 0 = t + 1 := by rcases ht with rfl | rfl <;> rfl
theorem zt8_1 {t : Nat} (ht : t = 7 ∨ t = 43) : zrho t 1 = t + 12 := by rcases ht with rfl | rfl <;> rfl
theorem zt8_2 {t : Nat} (ht : t = 7 ∨ t = 43) : zrho t 2 = t + 17 := by rcases ht with rfl | rfl <;> rfl
theorem zt8_3 {t : Nat} (ht : t = 7 ∨ t = 43) : zrho t 3 = t + 23 := by rcases ht with rfl | rfl <;> rfl
theorem zt8_4 {t : Nat} (ht : t = 7 ∨ t = 43) : zrho t 4 = t + 28 := by rcases ht with rfl | rfl <;> rfl
theorem zt8_7 {t : Nat} (ht : t = 7 ∨ t = 43) : zrho t 7 = t + 29 := by rcases ht with rfl | rfl <;> rfl
theorem zt8_8 {t : Nat} (ht : t = 7 ∨ t = 43) : zrho t 8 = t + 32 := by rcases ht with rfl | rfl <;> rfl
theorem zt8_9 {t : Nat} (ht : t = 7 ∨ t = 43) : zrho t 9 = t + 33 := by rcases ht with rfl | rfl <;> rfl
theorem zt8_10 {t : Nat} (ht : t = 7 ∨ t = 43) : zrho t 10 = t + 34 := by rcases ht with rfl | rfl <;> rfl
theorem zt8_11 {t : Nat} (ht : t = 7 ∨ t = 43) : zrho t 11 = t + 35 := by rcases ht with rfl | rfl <;> rfl
theorem zt8_len {t : Nat} (ht : t = 7 ∨ t = 43) : zq_len (t + 32) = 25 := by rcases ht with rfl | rfl <;> rfl
def nmV (D : ZD) (q : Nat) : Int := match (dN D (q / 5))[q % 5]? with
  | some w => enc 32 w
  | none => 0
def rbk (k : Nat) : Nat := if k = 1 then 2 else if k = 2 then 13 else if k = 3 then 18 else 24
def wdt (k : Nat) : Nat := if k = 1 then 4 else if k = 3 then 4 else 2
def wD (D : ZD) : Prop := (∀ k, k < 5 → cnt D k ≤ most k) ∧ (∀ k, ∀ w ∈ dN D k, okW w ∧ w ≠ []) ∧ dN D 1 = [] ∧ (dC D 0).length = cnt D 0 ∧ (∀ k j, 1 ≤ k → k < 5 → j < wdt k → (dC D (10 * k + j)).length = cnt D k) ∧ (∀ v ∈ dC D 0, 1 ≤ v ∧ v ≤ 5) ∧ (∀ v ∈ dC D 10, 0 ≤ v ∧ v < cnt D 0) ∧ (∀ v ∈ dC D 11, 0 ≤ v ∧ v ≤ 4)
def cDn (s : Zs) (t : Nat) (D : ZD) : Prop := (∀ k, k < 5 → s (t + 1) k = (cnt D k : Int)) ∧ (∀ q, q < 25 → s (t + 32) q = nmV D q) ∧ (∀ i v, (dC D 0)[i]? = some v → s (t + 33) i = v) ∧ (∀ k j i v, 1 ≤ k → k < 5 → j < wdt k → (dC D (10 * k + j))[i]? = some v → s (t + rbk k + i) j = v) ∧ (∀ q, q < 30 → s (t + 34) q = fxI D ((q / 6 : Nat) : Int) ((q % 6 : Nat) : Int))
def cDh (s : Zs) (t : Nat) (D : ZD) : Prop := s t 5 = dHeap D ∧ s t 6 = dWalk D ∧ 0 ≤ s (t + 29) 1 ∧ (s (t + 29) 1 = 0 ↔ dPr D = 0)
/-- the two tables that never change -/
def zM (s : Zs) : Prop := ∀ j, s 1000 j = (moF j).toInt
/-- how it stands while a town is read -/
def cP (s : Zs) (t : Nat) (T : Nat → Int) (n : Nat) (x : PS) (D : ZD) : Prop := pst s T n x ∧ cDn s t D ∧ wD D ∧ (x.1 = 0 → cDh s t D) ∧ zM s
def frT (t : Nat) (s s' : Zs) : Prop := ∀ c j, ¬ (c = 1 ∧ (j = 1 ∨ 4 ≤ j)) → ¬ (t ≤ c ∧ c ≤ t + 35) → s' c j = s c j
theorem frT_rf (t : Nat) (s : Zs) : frT t s s := fun _ _ _ _ => rfl
theorem frT_tr {t : Nat} {s s' s'' : Zs} (h1 : frT t s s') (h2 : frT t s' s'') : frT t s s'' := fun c j h h' => (h2 c j h h').trans (h1 c j h h')
theorem frT_F {t : Nat} {s s' : Zs} (h : frF s s') : frT t s s' := fun c j h1 _ => h c j h1
theorem frT_u {t : Nat} {s s' : Zs} {c j : Nat} {v : Int} (h : frT t s s') (hc : t ≤ c ∧ c ≤ t + 35) : frT t s (zu s' c j v) := fun c' j' h1 h2 => by
  rw [zu_n (fun e => h2 (by rw [e.1]; exact hc))]
  exact h c' j' h1 h2
theorem frT_S {t : Nat} (ht : t = 7 ∨ t = 43) {s s' : Zs} {T : Nat → Int} {n : Nat} (h : frT t s s') (g : tkS s T n) : tkS s' T n := by
  obtain ⟨h1, h2, h3, h4⟩ := g
  exact ⟨by rw [h 1 0 (by omega) (by omega)]; exact h1, h2, fun i hi => by rw [h 2 i (by omega) (by omega)]; exact h3 i hi, fun i hi => by rw [h 3 i (by omega) (by omega)]; exact h4 i hi⟩
theorem cDn_F {t : Nat} (ht : t = 7 ∨ t = 43) {s s' : Zs} {D : ZD} (f : frF s s') (h : cDn s t D) : cDn s' t D := by
  obtain ⟨h1, h2, h3, h4, h5⟩ := h
  refine ⟨fun k hk => by rw [f _ _ (by omega)]; exact h1 k hk, fun q hq => by rw [f _ _ (by omega)]; exact h2 q hq, fun i v hv => by rw [f _ _ (by omega)]; exact h3 i v hv, fun k j i v k1 k2 k3 hv => ?_, fun q hq => by rw [f _ _ (by omega)]; exact h5 q hq⟩
  rw [f _ _ (by omega)]
  exact h4 k j i v k1 k2 k3 hv
theorem cDh_F {t : Nat} (ht : t = 7 ∨ t = 43) {s s' : Zs} {D : ZD} (f : frF s s') (h : cDh s t D) : cDh s' t D := by
  unfold cDh at *
  rw [f t 5 (by omega), f t 6 (by omega), f (t + 29) 1 (by omega)]
  exact h
theorem zM_F {s s' : Zs} (f : frF s s') (h : zM s) : zM s' := fun j => by rw [f _ _ (by omega)]; exact h j
/-- a token taken leaves what is told -/
theorem cP_F {t : Nat} (ht : t = 7 ∨ t = 43) {s s' : Zs} {T : Nat → Int} {n : Nat} {x y : PS} {D : ZD} (h : cP s t T n x D) (f : frF s s') (p : pst s' T n y) (hy : y.1 = 0 → x.1 = 0) : cP s' t T n y D :=
  ⟨p, cDn_F ht f h.2.1, h.2.2.1, fun q => cDh_F ht f (h.2.2.2.1 (hy q)), zM_F f h.2.2.2.2⟩
theorem b_X8_has_0 {n : Nat} {Q : Zr → Prop} {t : Nat} (x1 x2 : Int) (s : Zs) (ht : t = 7 ∨ t = 43)
    (h0 : ∀ (g1 : x2 < 0), Q ([(0, 0)], s))
    (h1 : ∀ (g1 : 0 ≤ x2), ∀ (g2 : s (t + 1) x1.toNat ≤ x2), Q ([(0, 0)], s))
    (h2 : ∀ (g1 : 0 ≤ x2), ∀ (g2 : x2 < s (t + 1) x1.toNat), Q ([(1, 0)], s)) : zT (zE 1034) (Pt PX8_has) n (0, [((t : Nat) : Int), x1, x2], [], s) Q := by
  refine tL x2 0 rfl rfl rfl ?_
  refine tI2 rfl (fun g1 _ l1 => zT_le ?_ (Nat.le_of_lt l1)) (fun g1 _ l1 => zT_le ?_ (Nat.le_of_lt l1))
  · refine tK rfl ?_
    exact tR rfl (h0 g1)
  · refine tL x2 0 rfl rfl rfl ?_
    refine tL ((t : Nat) : Int) 0 rfl rfl rfl ?_
    refine tFR (c := t) (t + 1) rfl rfl rfl rfl (zt8_0 ht) ?_
    refine tL x1 0 rfl rfl rfl ?_
    refine tAv (t + 1) x1.toNat (s (t + 1) x1.toNat) 0 rfl rfl rfl (by decide) rfl rfl ?_
    refine tJ3 rfl (fun g2 _ l2 => zT_le ?_ (Nat.le_of_lt l2)) (fun g2 _ l2 => zT_le ?_ (Nat.le_of_lt l2))
    · refine tK rfl ?_
      exact tR rfl (h1 g1 g2)
    · refine tK rfl ?_
      refine tG rfl ?_
      exact tR rfl (h2 g1 g2)

theorem c_X8_has {n : Nat} {Q : Zr → Prop} {a0 a1 a2 : Int} {s : Zs} (h : zT (zE 1034) (Pt PX8_has) n (0, [a0, a1, a2], [], s) Q) : zC n 1034 [(a0, 0), (a1, 0), (a2, 0)] s Q := h

theorem b_X8_isFull_0 {n : Nat} {Q : Zr → Prop} {t : Nat} (x1 : Int) (s : Zs) (ht : t = 7 ∨ t = 43)
    (h0 : ∀ (g1 : s (t + 1) x1.toNat < s 1000 x1.toNat), Q ([(0, 0)], s))
    (h1 : ∀ (g1 : s 1000 x1.toNat ≤ s (t + 1) x1.toNat), Q ([(1, 0)], s)) : zT (zE 1035) (Pt PX8_isFull) n (0, [((t : Nat) : Int), x1], [], s) Q := by
  refine tL ((t : Nat) : Int) 0 rfl rfl rfl ?_
  refine tFR (c := t) (t + 1) rfl rfl rfl rfl (zt8_0 ht) ?_
  refine tL x1 0 rfl rfl rfl ?_
  refine tAv (t + 1) x1.toNat (s (t + 1) x1.toNat) 0 rfl rfl rfl (by decide) rfl rfl ?_
  refine tKR rfl ?_
  refine tL x1 0 rfl rfl rfl ?_
  refine tAv 1000 x1.toNat (s 1000 x1.toNat) 0 rfl rfl rfl (by decide) rfl rfl ?_
  refine tJ2 rfl (fun g1 _ l1 => zT_le ?_ (Nat.le_of_lt l1)) (fun g1 _ l1 => zT_le ?_ (Nat.le_of_lt l1))
  · refine tK rfl ?_
    exact tR rfl (h0 g1)
  · refine tK rfl ?_
    refine tG rfl ?_
    exact tR rfl (h1 g1)

theorem c_X8_isFull {n : Nat} {Q : Zr → Prop} {a0 a1 : Int} {s : Zs} (h : zT (zE 1035) (Pt PX8_isFull) n (0, [a0, a1], [], s) Q) : zC n 1035 [(a0, 0), (a1, 0)] s Q := h

theorem b_X8_addOne_0 {n : Nat} {Q : Zr → Prop} {t : Nat} (x1 x2 : Int) (s : Zs) (ht : t = 7 ∨ t = 43)
    (h0 : Q ([(s (t + 1) x1.toNat, 0)], zu s (t + 1) x1.toNat (w32 ((s (t + 1) x1.toNat) + 1)))) : zT (zE 1025) (Pt PX8_addOne) n (0, [((t : Nat) : Int), x1, x2], [], s) Q := by
  refine tL ((t : Nat) : Int) 0 rfl rfl rfl ?_
  refine tFR (c := t) (t + 1) rfl rfl rfl rfl (zt8_0 ht) ?_
  refine tL x1 0 rfl rfl rfl ?_
  refine tAv (t + 1) x1.toNat (s (t + 1) x1.toNat) 0 rfl rfl rfl (by decide) rfl rfl ?_
  refine tS [((t : Nat) : Int), x1, s (t + 1) x1.toNat] rfl rfl ?_
  refine tL ((t : Nat) : Int) 0 rfl rfl rfl ?_
  refine tFR (c := t) (t + 1) rfl rfl rfl rfl (zt8_0 ht) ?_
  refine tL x1 0 rfl rfl rfl ?_
  refine tD2 rfl ?_
  refine tAv (t + 1) x1.toNat (s (t + 1) x1.toNat) 0 rfl rfl rfl (by decide) rfl rfl ?_
  refine tK rfl ?_
  refine tB (v := w32 ((s (t + 1) x1.toNat) + 1)) rfl rfl ?_
  refine tAS (t + 1) x1.toNat rfl rfl rfl (by decide) ?_
  refine tL (s (t + 1) x1.toNat) 0 rfl rfl rfl ?_
  exact tR rfl (h0)

theorem c_X8_addOne {n : Nat} {Q : Zr → Prop} {a0 a1 : Int} {s : Zs} (h : zT (zE 1025) (Pt PX8_addOne) n (0, [a0, a1, 0], [], s) Q) : zC n 1025 [(a0, 0), (a1, 0)] s Q := h

theorem b_X8_setFloors_0 {n : Nat} {Q : Zr → Prop} {t : Nat} (x1 x2 : Int) (s : Zs) (ht : t = 7 ∨ t = 43)
    (h0 : Q ([], zu s (t + 33) x1.toNat x2)) : zT (zE 1041) (Pt PX8_setFloors) n (0, [((t : Nat) : Int), x1, x2], [], s) Q := by
  refine tL ((t : Nat) : Int) 0 rfl rfl rfl ?_
  refine tFR (c := t) (t + 33) rfl rfl rfl rfl (zt8_9 ht) ?_
  refine tL x1 0 rfl rfl rfl ?_
  refine tL x2 0 rfl rfl rfl ?_
  refine tAS (t + 33) x1.toNat rfl rfl rfl (by decide) ?_
  exact tR rfl (h0)

theorem c_X8_setFloors {n : Nat} {Q : Zr → Prop} {a0 a1 a2 : Int} {s : Zs} (h : zT (zE 1041) (Pt PX8_setFloors) n (0, [a0, a1, a2], [], s) Q) : zC n 1041 [(a0, 0), (a1, 0), (a2, 0)] s Q := h

theorem b_X8_flightFrom_0 {n : Nat} {Q : Zr → Prop} {t : Nat} (x1 x2 x3 : Int) (s : Zs) (ht : t = 7 ∨ t = 43)
    (h0 : ∀ (g1 : x1 < 0), Q ([((-1), 0)], s))
    (h1 : ∀ (g1 : 0 ≤ x1), ∀ (g2 : x2 < 0), Q ([((-1), 0)], s))
    (h2 : ∀ (g1 : 0 ≤ x1), ∀ (g2 : 0 ≤ x2), ∀ (g3 : 6 ≤ x2), Q ([((-1), 0)], s))
    (h3 : ∀ (g1 : 0 ≤ x1), ∀ (g2 : 0 ≤ x2), ∀ (g3 : x2 < 6), ∀ (g4 : 30 ≤ w32 ((w32 (x1 * 6)) + x2)), Q ([((-1), 0)], s))
    (h4 : ∀ (g1 : 0 ≤ x1), ∀ (g2 : 0 ≤ x2), ∀ (g3 : x2 < 6), ∀ (g4 : w32 ((w32 (x1 * 6)) + x2) < 30), Q ([(s (t + 34) ((w32 ((w32 (x1 * 6)) + x2)).toNat), 0)], s)) : zT (zE 1031) (Pt PX8_flightFrom) n (0, [((t : Nat) : Int), x1, x2, x3], [], s) Q := by
  refine tL x1 0 rfl rfl rfl ?_
  refine tK rfl ?_
  refine tM (v := w32 (x1 * 6)) rfl rfl ?_
  refine tL x2 0 rfl rfl rfl ?_
  refine tB (v := w32 ((w32 (x1 * 6)) + x2)) rfl rfl ?_
  refine tS [((t : Nat) : Int), x1, x2, w32 ((w32 (x1 * 6)) + x2)] rfl rfl ?_
  refine tL x1 0 rfl rfl rfl ?_
  refine tI2 rfl (fun g1 _ l1 => zT_le ?_ (Nat.le_of_lt l1)) (fun g1 _ l1 => zT_le ?_ (Nat.le_of_lt l1))
  · refine tK rfl ?_
    exact tR rfl (h0 g1)
  · refine tL x2 0 rfl rfl rfl ?_
    refine tI2 rfl (fun g2 _ l2 => zT_le ?_ (Nat.le_of_lt l2)) (fun g2 _ l2 => zT_le ?_ (Nat.le_of_lt l2))
    · refine tK rfl ?_
      exact tR rfl (h1 g1 g2)
    · refine tL x2 0 rfl rfl rfl ?_
      refine tK rfl ?_
      refine tJ3 rfl (fun g3 _ l3 => zT_le ?_ (Nat.le_of_lt l3)) (fun g3 _ l3 => zT_le ?_ (Nat.le_of_lt l3))
      · refine tK rfl ?_
        exact tR rfl (h2 g1 g2 g3)
      · refine tL (w32 ((w32 (x1 * 6)) + x2)) 0 rfl rfl rfl ?_
        refine tK rfl ?_
        refine tJ3 rfl (fun g4 _ l4 => zT_le ?_ (Nat.le_of_lt l4)) (fun g4 _ l4 => zT_le ?_ (Nat.le_of_lt l4))
        · refine tK rfl ?_
          exact tR rfl (h3 g1 g2 g3 g4)
        · refine tL ((t : Nat) : Int) 0 rfl rfl rfl ?_
          refine tFR (c := t) (t + 34) rfl rfl rfl rfl (zt8_10 ht) ?_
          refine tL (w32 ((w32 (x1 * 6)) + x2)) 0 rfl rfl rfl ?_
          refine tAv (t + 34) ((w32 ((w32 (x1 * 6)) + x2)).toNat) (s (t + 34) ((w32 ((w32 (x1 * 6)) + x2)).toNat)) 0 rfl rfl rfl (by decide) rfl rfl ?_
          refine tG rfl ?_
          exact tR rfl (h4 g1 g2 g3 g4)

theorem c_X8_flightFrom {n : Nat} {Q : Zr → Prop} {a0 a1 a2 : Int} {s : Zs} (h : zT (zE 1031) (Pt PX8_flightFrom) n (0, [a0, a1, a2, 0], [], s) Q) : zC n 1031 [(a0, 0), (a1, 0), (a2, 0)] s Q := h

theorem b_X8_floorsOf_0 {n : Nat} {Q : Zr → Prop} {t : Nat} (x1 : Int) (s : Zs) (ht : t = 7 ∨ t = 43)
    (h0 : ∀ (g2 : x1 < 0), Q ([((-1), 0)], s))
    (h1 : ∀ (g3 : 0 ≤ x1), ∀ (g4 : s (t + 1) 0 ≤ x1), Q ([((-1), 0)], s))
    (h2 : ∀ (g5 : 0 ≤ x1), ∀ (g6 : x1 < s (t + 1) 0), Q ([(s (t + 33) x1.toNat, 0)], s)) : zT (zE 1032) (Pt PX8_floorsOf) n (0, [((t : Nat) : Int), x1], [], s) Q := by
  refine tL ((t : Nat) : Int) 0 rfl rfl rfl ?_
  refine tK rfl ?_
  refine tL x1 0 rfl rfl rfl ?_
  refine tCall [(((t : Nat) : Int), 0), (0, 0), (x1, 0)] [] rfl rfl rfl (fun m1 l1 => c_X8_has (b_X8_has_0 0 x1 s ht ?_ ?_ ?_))
  · intro g2
    show zT (zE 1032) (Pt PX8_floorsOf) m1 (6, [((t : Nat) : Int), x1], [(0, 0)], s) Q
    refine tI0 rfl (fun g _ l => zT_le ?_ (Nat.le_of_lt l)) (fun g _ l => (absurd g (by decide)))
    refine tK rfl ?_
    exact tR rfl (h0 g2)
  · intro g3 g4
    show zT (zE 1032) (Pt PX8_floorsOf) m1 (6, [((t : Nat) : Int), x1], [(0, 0)], s) Q
    refine tI0 rfl (fun g _ l => zT_le ?_ (Nat.le_of_lt l)) (fun g _ l => (absurd g (by decide)))
    refine tK rfl ?_
    exact tR rfl (h1 g3 g4)
  · intro g5 g6
    show zT (zE 1032) (Pt PX8_floorsOf) m1 (6, [((t : Nat) : Int), x1], [(1, 0)], s) Q
    refine tI0 rfl (fun g _ l => (absurd g (by decide))) (fun g _ l => zT_le ?_ (Nat.le_of_lt l))
    refine tL ((t : Nat) : Int) 0 rfl rfl rfl ?_
    refine tFR (c := t) (t + 33) rfl rfl rfl rfl (zt8_9 ht) ?_
    refine tL x1 0 rfl rfl rfl ?_
    refine tAv (t + 33) x1.toNat (s (t + 33) x1.toNat) 0 rfl rfl rfl (by decide) rfl rfl ?_
    refine tG rfl ?_
    exact tR rfl (h2 g5 g6)

theorem c_X8_floorsOf {n : Nat} {Q : Zr → Prop} {a0 a1 : Int} {s : Zs} (h : zT (zE 1032) (Pt PX8_floorsOf) n (0, [a0, a1], [], s) Q) : zC n 1032 [(a0, 0), (a1, 0)] s Q := h

theorem b_X8_find_0 {n : Nat} {Q : Zr → Prop} {t : Nat} (x1 x2 x3 x4 : Int) (s : Zs) (ht : t = 7 ∨ t = 43)
    (h0 : zT (zE 1029) (Pt PX8_find) n (3, [((t : Nat) : Int), x1, x2, x3, 0], [], s) Q) : zT (zE 1029) (Pt PX8_find) n (0, [((t : Nat) : Int), x1, x2, x3, x4], [], s) Q := by
  refine tK rfl ?_
  refine tS [((t : Nat) : Int), x1, x2, x3, 0] rfl rfl ?_
  exact zT_le (h0) (Nat.le_refl n)

theorem b_X8_find_3 {n : Nat} {Q : Zr → Prop} {t : Nat} (x1 x2 x3 x4 : Int) (s : Zs) (ht : t = 7 ∨ t = 43)
    (h0 : ∀ (g1 : s (t + 1) x1.toNat ≤ x4), Q ([((-1), 0)], s))
    (h1 : ∀ (g1 : x4 < s (t + 1) x1.toNat), ∀ (g2 : zcmpL (s (t + 32) ((w32 ((w32 (x1 * 5)) + x4)).toNat)) x2 ≠ 0), ∀ m, m < n → zT (zE 1029) (Pt PX8_find) m (3, [((t : Nat) : Int), x1, x2, x3, w32 (x4 + 1)], [], s) Q)
    (h2 : ∀ (g1 : x4 < s (t + 1) x1.toNat), ∀ (g2 : zcmpL (s (t + 32) ((w32 ((w32 (x1 * 5)) + x4)).toNat)) x2 = 0), Q ([(x4, 0)], s)) : zT (zE 1029) (Pt PX8_find) n (3, [((t : Nat) : Int), x1, x2, x3, x4], [], s) Q := by
  refine tL x4 0 rfl rfl rfl ?_
  refine tL ((t : Nat) : Int) 0 rfl rfl rfl ?_
  refine tFR (c := t) (t + 1) rfl rfl rfl rfl (zt8_0 ht) ?_
  refine tL x1 0 rfl rfl rfl ?_
  refine tAv (t + 1) x1.toNat (s (t + 1) x1.toNat) 0 rfl rfl rfl (by decide) rfl rfl ?_
  refine tJ3 rfl (fun g1 _ l1 => zT_le ?_ (Nat.le_of_lt l1)) (fun g1 _ l1 => zT_le ?_ (Nat.le_of_lt l1))
  · refine tK rfl ?_
    exact tR rfl (h0 g1)
  · refine tL ((t : Nat) : Int) 0 rfl rfl rfl ?_
    refine tFR (c := t) (t + 32) rfl rfl rfl rfl (zt8_8 ht) ?_
    refine tL x1 0 rfl rfl rfl ?_
    refine tK rfl ?_
    refine tM (v := w32 (x1 * 5)) rfl rfl ?_
    refine tL x4 0 rfl rfl rfl ?_
    refine tB (v := w32 ((w32 (x1 * 5)) + x4)) rfl rfl ?_
    refine tAv (t + 32) ((w32 ((w32 (x1 * 5)) + x4)).toNat) (s (t + 32) ((w32 ((w32 (x1 * 5)) + x4)).toNat)) 1 rfl rfl rfl (by decide) rfl rfl ?_
    refine tL x2 1 rfl rfl rfl ?_
    refine tC rfl ?_
    refine tI1 rfl (fun g2 _ l2 => zT_le ?_ (Nat.le_of_lt l2)) (fun g2 _ l2 => zT_le ?_ (Nat.le_of_lt l2))
    · refine tInc [((t : Nat) : Int), x1, x2, x3, w32 (x4 + 1)] rfl rfl ?_
      exact tGb rfl (fun m2 l2 => h1 g1 g2 m2 (Nat.lt_of_lt_of_le l2 (Nat.le_refl n)))
    · refine tL x4 0 rfl rfl rfl ?_
      exact tR rfl (h2 g1 g2)

theorem c_X8_find {n : Nat} {Q : Zr → Prop} {a0 a1 a2 : Int} {s : Zs} (h : zT (zE 1029) (Pt PX8_find) n (0, [a0, a1, a2, 0, 0], [], s) Q) : zC n 1029 [(a0, 0), (a1, 0), (a2, 1)] s Q := h

theorem b_X8_isTold_0 {n : Nat} {Q : Zr → Prop} {t : Nat} (x1 x2 x3 : Int) (s : Zs) (ht : t = 7 ∨ t = 43)
    (h0 : zT (zE 1037) (Pt PX8_isTold) n (2, [((t : Nat) : Int), x1, x2, 0], [], s) Q) : zT (zE 1037) (Pt PX8_isTold) n (0, [((t : Nat) : Int), x1, x2, x3], [], s) Q := by
  refine tK rfl ?_
  refine tS [((t : Nat) : Int), x1, x2, 0] rfl rfl ?_
  exact zT_le (h0) (Nat.le_refl n)

theorem b_X8_isTold_2 {n : Nat} {Q : Zr → Prop} {t : Nat} (x1 x2 x3 : Int) (s : Zs) (ht : t = 7 ∨ t = 43)
    (h0 : ∀ (g1 : zq_len (t + 32) ≤ x3), Q ([(0, 0)], s))
    (h1 : ∀ (g1 : x3 < zq_len (t + 32)), ∀ (g2 : zcmpL (s (t + 32) x3.toNat) x1 ≠ 0), ∀ m, m < n → zT (zE 1037) (Pt PX8_isTold) m (2, [((t : Nat) : Int), x1, x2, w32 (x3 + 1)], [], s) Q)
    (h2 : ∀ (g1 : x3 < zq_len (t + 32)), ∀ (g2 : zcmpL (s (t + 32) x3.toNat) x1 = 0), Q ([(1, 0)], s)) : zT (zE 1037) (Pt PX8_isTold) n (2, [((t : Nat) : Int), x1, x2, x3], [], s) Q := by
  refine tL x3 0 rfl rfl rfl ?_
  refine tL ((t : Nat) : Int) 0 rfl rfl rfl ?_
  refine tFR (c := t) (t + 32) rfl rfl rfl rfl (zt8_8 ht) ?_
  refine tN (zq_len (t + 32)) rfl rfl ?_
  refine tJ3 rfl (fun g1 _ l1 => zT_le ?_ (Nat.le_of_lt l1)) (fun g1 _ l1 => zT_le ?_ (Nat.le_of_lt l1))
  · refine tK rfl ?_
    exact tR rfl (h0 g1)
  · refine tL ((t : Nat) : Int) 0 rfl rfl rfl ?_
    refine tFR (c := t) (t + 32) rfl rfl rfl rfl (zt8_8 ht) ?_
    refine tL x3 0 rfl rfl rfl ?_
    refine tAv (t + 32) x3.toNat (s (t + 32) x3.toNat) 1 rfl rfl rfl (by decide) rfl rfl ?_
    refine tL x1 1 rfl rfl rfl ?_
    refine tC rfl ?_
    refine tI1 rfl (fun g2 _ l2 => zT_le ?_ (Nat.le_of_lt l2)) (fun g2 _ l2 => zT_le ?_ (Nat.le_of_lt l2))
    · refine tInc [((t : Nat) : Int), x1, x2, w32 (x3 + 1)] rfl rfl ?_
      exact tGb rfl (fun m2 l2 => h1 g1 g2 m2 (Nat.lt_of_lt_of_le l2 (Nat.le_refl n)))
    · refine tK rfl ?_
      exact tR rfl (h2 g1 g2)

theorem c_X8_isTold {n : Nat} {Q : Zr → Prop} {a0 a1 : Int} {s : Zs} (h : zT (zE 1037) (Pt PX8_isTold) n (0, [a0, a1, 0, 0], [], s) Q) : zC n 1037 [(a0, 0), (a1, 1)] s Q := h

theorem b_X8_addNamed_0 {n : Nat} {Q : Zr → Prop} {t : Nat} (x1 x2 x3 x4 : Int) (s : Zs) (ht : t = 7 ∨ t = 43)
    (h0 : Q ([(s (t + 1) x1.toNat, 0)], zu (zu s (t + 1) x1.toNat (w32 ((s (t + 1) x1.toNat) + 1))) (t + 32) ((w32 ((w32 (x1 * 5)) + (s (t + 1) x1.toNat))).toNat) x2)) : zT (zE 1024) (Pt PX8_addNamed) n (0, [((t : Nat) : Int), x1, x2, x3, x4], [], s) Q := by
  refine tL ((t : Nat) : Int) 0 rfl rfl rfl ?_
  refine tL x1 0 rfl rfl rfl ?_
  refine tCall [(((t : Nat) : Int), 0), (x1, 0)] [] rfl rfl rfl (fun m1 l1 => c_X8_addOne (b_X8_addOne_0 x1 0 s ht ?_))
  · show zT (zE 1024) (Pt PX8_addNamed) m1 (5, [((t : Nat) : Int), x1, x2, x3, x4], [(s (t + 1) x1.toNat, 0)], zu s (t + 1) x1.toNat (w32 ((s (t + 1) x1.toNat) + 1))) Q
    refine tS [((t : Nat) : Int), x1, x2, x3, s (t + 1) x1.toNat] rfl rfl ?_
    refine tL ((t : Nat) : Int) 0 rfl rfl rfl ?_
    refine tFR (c := t) (t + 32) rfl rfl rfl rfl (zt8_8 ht) ?_
    refine tL x1 0 rfl rfl rfl ?_
    refine tK rfl ?_
    refine tM (v := w32 (x1 * 5)) rfl rfl ?_
    refine tL (s (t + 1) x1.toNat) 0 rfl rfl rfl ?_
    refine tB (v := w32 ((w32 (x1 * 5)) + (s (t + 1) x1.toNat))) rfl rfl ?_
    refine tL x2 1 rfl rfl rfl ?_
    refine tAS (t + 32) ((w32 ((w32 (x1 * 5)) + (s (t + 1) x1.toNat))).toNat) rfl rfl rfl (by decide) ?_
    refine tL (s (t + 1) x1.toNat) 0 rfl rfl rfl ?_
    exact tR rfl (h0)

theorem c_X8_addNamed {n : Nat} {Q : Zr → Prop} {a0 a1 a2 : Int} {s : Zs} (h : zT (zE 1024) (Pt PX8_addNamed) n (0, [a0, a1, a2, 0, 0], [], s) Q) : zC n 1024 [(a0, 0), (a1, 0), (a2, 1)] s Q := h

theorem b_X8_setFlight_0 {n : Nat} {Q : Zr → Prop} {t : Nat} (x1 x2 x3 x4 x5 : Int) (s : Zs) (ht : t = 7 ∨ t = 43)
    (h0 : Q ([], zu (zu (zu (zu (zu s (zrho (t + 12) x1.toNat) 0 x2) (zrho (t + 12) x1.toNat) 1 x3) (zrho (t + 12) x1.toNat) 2 x4) (zrho (t + 12) x1.toNat) 3 x5) (t + 34) ((w32 ((w32 (x2 * 6)) + x3)).toNat) x1)) : zT (zE 1040) (Pt PX8_setFlight) n (0, [((t : Nat) : Int), x1, x2, x3, x4, x5], [], s) Q := by
  refine tL ((t : Nat) : Int) 0 rfl rfl rfl ?_
  refine tFR (c := t) (t + 12) rfl rfl rfl rfl (zt8_1 ht) ?_
  refine tL x1 0 rfl rfl rfl ?_
  refine tAR (zrho (t + 12) x1.toNat) rfl rfl ?_
  refine tK rfl ?_
  refine tL x2 0 rfl rfl rfl ?_
  refine tAS (zrho (t + 12) x1.toNat) 0 rfl rfl rfl (by decide) ?_
  refine tL ((t : Nat) : Int) 0 rfl rfl rfl ?_
  refine tFR (c := t) (t + 12) rfl rfl rfl rfl (zt8_1 ht) ?_
  refine tL x1 0 rfl rfl rfl ?_
  refine tAR (zrho (t + 12) x1.toNat) rfl rfl ?_
  refine tK rfl ?_
  refine tL x3 0 rfl rfl rfl ?_
  refine tAS (zrho (t + 12) x1.toNat) 1 rfl rfl rfl (by decide) ?_
  refine tL ((t : Nat) : Int) 0 rfl rfl rfl ?_
  refine tFR (c := t) (t + 12) rfl rfl rfl rfl (zt8_1 ht) ?_
  refine tL x1 0 rfl rfl rfl ?_
  refine tAR (zrho (t + 12) x1.toNat) rfl rfl ?_
  refine tK rfl ?_
  refine tL x4 0 rfl rfl rfl ?_
  refine tAS (zrho (t + 12) x1.toNat) 2 rfl rfl rfl (by decide) ?_
  refine tL ((t : Nat) : Int) 0 rfl rfl rfl ?_
  refine tFR (c := t) (t + 12) rfl rfl rfl rfl (zt8_1 ht) ?_
  refine tL x1 0 rfl rfl rfl ?_
  refine tAR (zrho (t + 12) x1.toNat) rfl rfl ?_
  refine tK rfl ?_
  refine tL x5 0 rfl rfl rfl ?_
  refine tAS (zrho (t + 12) x1.toNat) 3 rfl rfl rfl (by decide) ?_
  refine tL ((t : Nat) : Int) 0 rfl rfl rfl ?_
  refine tFR (c := t) (t + 34) rfl rfl rfl rfl (zt8_10 ht) ?_
  refine tL x2 0 rfl rfl rfl ?_
  refine tK rfl ?_
  refine tM (v := w32 (x2 * 6)) rfl rfl ?_
  refine tL x3 0 rfl rfl rfl ?_
  refine tB (v := w32 ((w32 (x2 * 6)) + x3)) rfl rfl ?_
  refine tL x1 0 rfl rfl rfl ?_
  refine tAS (t + 34) ((w32 ((w32 (x2 * 6)) + x3)).toNat) rfl rfl rfl (by decide) ?_
  exact tR rfl (h0)

theorem c_X8_setFlight {n : Nat} {Q : Zr → Prop} {a0 a1 a2 a3 a4 a5 : Int} {s : Zs} (h : zT (zE 1040) (Pt PX8_setFlight) n (0, [a0, a1, a2, a3, a4, a5], [], s) Q) : zC n 1040 [(a0, 0), (a1, 0), (a2, 0), (a3, 0), (a4, 0), (a5, 0)] s Q := h

/-! searching names -/
theorem find_loop {t k : Nat} (ht : t = 7 ∨ t = 43) (hk : k < 5) {w : Int} {s : Zs} {c : Nat} (hc : s (t + 1) k = (c : Int)) (hc10 : c ≤ 10) (N : Nat) : ∀ i : Nat, i ≤ c → zT (zE 1029) (Pt PX8_find) N (3, [((t : Nat) : Int), (k : Int), w, 0, (i : Int)], [], s) (fun r => r = ([(fnx (fun i => decide (s (t + 32) (5 * k + i) = w)) (c - i) i, 0)], s)) := by
  induction N using Nat.strongRecOn with
  | ind N ih =>
    intro i hi
    have hx : (w32 (w32 ((k : Int) * 5) + (i : Int))).toNat = 5 * k + i := by
      rw [w32_id (z := (k : Int) * 5) (by omega) (by omega), w32_id (by omega) (by omega)]
      omega
    refine b_X8_find_3 (k : Int) w 0 (i : Int) s ht (fun g1 => ?_) (fun g1 g2 m hm => ?_) (fun g1 g2 => ?_)
    · rw [Int.toNat_natCast, hc] at g1
      rw [show c - i = 0 from by omega]
      rfl
    · rw [Int.toNat_natCast, hc] at g1
      rw [hx] at g2
      rw [show w32 ((i : Int) + 1) = ((i + 1 : Nat) : Int) from by rw [w32_id (by omega) (by omega)]; omega]
      refine zT_q (ih m hm (i + 1) (by omega)) (fun r hr => ?_)
      rw [hr, show c - i = (c - (i + 1)) + 1 from by omega]
      unfold fnx
      rw [if_neg (by simp only [decide_eq_true_eq]; exact fun e => g2 (zcmpL_eq.mpr e))]
      cases c - (i + 1) <;> rfl
    · rw [Int.toNat_natCast, hc] at g1
      rw [hx] at g2
      rw [show c - i = (c - (i + 1)) + 1 from by omega]
      unfold fnx
      rw [if_pos (by simp only [decide_eq_true_eq]; exact zcmpL_eq.mp g2)]
theorem fnx_no {f : Nat → Bool} : ∀ (m k : Nat), (∀ i, k ≤ i → i < k + m → f i = false) → fnx f m k = -1
  | 0, _, _ => rfl
  | m + 1, k, h => by
    unfold fnx
    rw [h k (by omega) (by omega), if_neg (by decide)]
    exact fnx_no m (k + 1) (fun i h1 h2 => h i (by omega) (by omega))
theorem nmV_at {D : ZD} {k i : Nat} {w : List Int} (hi : i < 5) (h : (dN D k)[i]? = some w) : nmV D (5 * k + i) = enc 32 w := by
  unfold nmV
  rw [show (5 * k + i) / 5 = k from by omega, show (5 * k + i) % 5 = i from by omega, h]
theorem cnt_N {D : ZD} {k : Nat} (hk : k ≠ 1) : cnt D k = (dN D k).length := if_neg hk
theorem most5 {k : Nat} (hk : k ≠ 1) : most k ≤ 5 := by unfold most; split <;> (try split) <;> (try split) <;> (try split) <;> omega
theorem find_ok {N t k : Nat} (ht : t = 7 ∨ t = 43) (hk : k < 5) (hk1 : k ≠ 1) {s : Zs} {D : ZD} (h : cDn s t D) (hw : wD D) {W : List Int} (hW : okW W) : zC N 1029 [(((t : Nat) : Int), 0), ((k : Int), 0), (enc 32 W, 1)] s (fun r => r = ([(ixW W (dN D k), 0)], s)) := by
  have hc := h.1 k hk
  have hm := hw.1 k hk
  have h5 := most5 hk1
  refine c_X8_find (b_X8_find_0 (k : Int) (enc 32 W) 0 0 s ht (zT_q (find_loop ht hk hc (by omega) N 0 (Nat.zero_le _)) (fun r hr => ?_)))
  rw [hr, Nat.sub_zero, cnt_N hk1, fnx_ixW (w := W) (dN D k) 0 (fun i v hv => ?_)]
  · by_cases e : ixW W (dN D k) = -1
    · rw [if_pos e, e]
    · rw [if_neg e]
      rw [show ixW W (dN D k) + ((0 : Nat) : Int) = ixW W (dN D k) from by omega]
  · rw [Nat.zero_add]
    have hi : i < 5 := by
      have := (List.getElem?_eq_some_iff.mp hv).1
      rw [cnt_N hk1] at hm
      omega
    simp only [decide_eq_true_eq]
    rw [h.2.1 (5 * k + i) (by omega), nmV_at hi hv]
    exact ⟨fun e => enc_inj (Or.inr rfl) _ _ (hw.2.1 k v (List.mem_of_getElem? hv)).1 hW e, fun e => by rw [e]⟩
theorem find_0 {N t k : Nat} (ht : t = 7 ∨ t = 43) (hk : k < 5) (hk1 : k ≠ 1) {s : Zs} {D : ZD} (h : cDn s t D) (hw : wD D) : zC N 1029 [(((t : Nat) : Int), 0), ((k : Int), 0), (0, 1)] s (fun r => r = ([(-1, 0)], s)) := by
  have hc := h.1 k hk
  have hm := hw.1 k hk
  have h5 := most5 hk1
  refine c_X8_find (b_X8_find_0 (k : Int) 0 0 0 s ht (zT_q (find_loop ht hk hc (by omega) N 0 (Nat.zero_le _)) (fun r hr => ?_)))
  rw [hr, fnx_no _ _ (fun i h1 h2 => ?_)]
  rw [cnt_N hk1] at h2 hm
  have hi : i < (dN D k).length := by omega
  have hv := List.getElem?_eq_getElem hi
  have hmem := hw.2.1 k _ (List.getElem_mem hi)
  rw [h.2.1 (5 * k + i) (by omega), nmV_at (by omega) hv]
  have := (enc_pos (B := 32) (by omega) _ hmem.1).2 hmem.2
  exact decide_eq_false (by omega)
theorem told_loop {t : Nat} (ht : t = 7 ∨ t = 43) {w : Int} {s : Zs} (N : Nat) : ∀ (i : Nat), i ≤ 25 → (∀ q, q < i → s (t + 32) q ≠ w) → zT (zE 1037) (Pt PX8_isTold) N (2, [((t : Nat) : Int), w, 0, (i : Int)], [], s) (fun r => (r = ([(1, 0)], s) ∧ ∃ q, q < 25 ∧ s (t + 32) q = w) ∨ (r = ([(0, 0)], s) ∧ ∀ q, q < 25 → s (t + 32) q ≠ w)) := by
  induction N using Nat.strongRecOn with
  | ind N ih =>
    intro i hi hn
    refine b_X8_isTold_2 w 0 (i : Int) s ht (fun g1 => ?_) (fun g1 g2 m hm => ?_) (fun g1 g2 => ?_)
    · rw [zt8_len ht] at g1
      exact Or.inr ⟨rfl, fun q hq => hn q (by omega)⟩
    · rw [zt8_len ht] at g1
      rw [Int.toNat_natCast] at g2
      rw [show w32 ((i : Int) + 1) = ((i + 1 : Nat) : Int) from by rw [w32_id (by omega) (by omega)]; omega]
      refine ih m hm (i + 1) (by omega) (fun q hq => ?_)
      by_cases e : q = i
      · rw [e]; exact fun e2 => g2 (zcmpL_eq.mpr e2)
      · exact hn q (by omega)
    · rw [zt8_len ht] at g1
      rw [Int.toNat_natCast] at g2
      exact Or.inl ⟨rfl, i, by omega, zcmpL_eq.mp g2⟩
theorem told_iff {D : ZD} (hw : wD D) {W : List Int} (hW : okW W) (hne : W ≠ []) : told D W = true ↔ ∃ q, q < 25 ∧ nmV D q = enc 32 W := by
  have key : ∀ k, k < 5 → k ≠ 1 → ((dN D k).contains W = true ↔ ∃ i, i < 5 ∧ nmV D (5 * k + i) = enc 32 W) := fun k hk hk1 => by
    have hm := hw.1 k hk
    have h5 := most5 hk1
    rw [cnt_N hk1] at hm
    rw [List.contains_iff_mem]
    constructor
    · intro hmem
      obtain ⟨i, hi⟩ := List.mem_iff_getElem?.mp hmem
      have := (List.getElem?_eq_some_iff.mp hi).1
      exact ⟨i, by omega, nmV_at (by omega) hi⟩
    · rintro ⟨i, hi, e⟩
      unfold nmV at e
      rw [show (5 * k + i) / 5 = k from by omega, show (5 * k + i) % 5 = i from by omega] at e
      split at e
      · rename_i w hv
        have hmem := List.mem_of_getElem? hv
        rw [← enc_inj (Or.inr rfl) _ _ (hw.2.1 k w hmem).1 hW e]
        exact hmem
      · have := (enc_pos (B := 32) (by omega) _ hW).2 hne
        omega
  unfold told
  simp only [Bool.or_eq_true]
  rw [key 0 (by omega) (by omega), key 2 (by omega) (by omega), key 3 (by omega) (by omega), key 4 (by omega) (by omega)]
  constructor
  · rintro (⟨i, hi, e⟩ | ⟨i, hi, e⟩ | ⟨i, hi, e⟩ | ⟨i, hi, e⟩)
    · exact ⟨_, by omega, e⟩
    · exact ⟨_, by omega, e⟩
    · exact ⟨_, by omega, e⟩
    · exact ⟨_, by omega, e⟩
  · rintro ⟨q, hq, e⟩
    have hq5 : q = 5 * (q / 5) + q % 5 := by omega
    rw [hq5] at e
    have : q / 5 = 0 ∨ q / 5 = 1 ∨ q / 5 = 2 ∨ q / 5 = 3 ∨ q / 5 = 4 := by omega
    rcases this with e0 | e0 | e0 | e0 | e0
    · rw [e0] at e; exact Or.inl ⟨_, by omega, e⟩
    · exfalso
      rw [e0] at e
      unfold nmV at e
      rw [show (5 * 1 + q % 5) / 5 = 1 from by omega, hw.2.2.1] at e
      have := (enc_pos (B := 32) (by omega) _ hW).2 hne
      have e : (0 : Int) = enc 32 W := by simpa using e
      omega
    · rw [e0] at e; exact Or.inr (Or.inl ⟨_, by omega, e⟩)
    · rw [e0] at e; exact Or.inr (Or.inr (Or.inl ⟨_, by omega, e⟩))
    · rw [e0] at e; exact Or.inr (Or.inr (Or.inr ⟨_, by omega, e⟩))
theorem isTold_ok {N t : Nat} (ht : t = 7 ∨ t = 43) {s : Zs} {D : ZD} (h : cDn s t D) (hw : wD D) {W : List Int} (hW : okW W) (hne : W ≠ []) : zC N 1037 [(((t : Nat) : Int), 0), (enc 32 W, 1)] s (fun r => r = ([(if told D W = true then 1 else 0, 0)], s)) := by
  refine c_X8_isTold (b_X8_isTold_0 (enc 32 W) 0 0 s ht (zT_q (told_loop ht N 0 (by omega) (fun q hq => by omega)) (fun r hr => ?_)))
  have e : ∀ q, q < 25 → (s (t + 32) q = enc 32 W ↔ nmV D q = enc 32 W) := fun q hq => by rw [h.2.1 q hq]
  rcases hr with ⟨rfl, q, hq, hv⟩ | ⟨rfl, hn⟩
  · rw [if_pos ((told_iff hw hW hne).mpr ⟨q, hq, (e q hq).mp hv⟩)]
  · rw [if_neg (fun c => by obtain ⟨q, hq, hv⟩ := (told_iff hw hW hne).mp c; exact hn q hq ((e q hq).mpr hv))]
theorem isTold_0 {N t : Nat} (ht : t = 7 ∨ t = 43) {w : Int} {s : Zs} : zC N 1037 [(((t : Nat) : Int), 0), (w, 1)] s (fun r => ∃ v, r = ([(v, 0)], s)) := by
  refine c_X8_isTold (b_X8_isTold_0 w 0 0 s ht (zT_q (told_loop ht N 0 (by omega) (fun q hq => by omega)) (fun r hr => ?_)))
  rcases hr with ⟨rfl, -⟩ | ⟨rfl, -⟩
  · exact ⟨_, rfl⟩
  · exact ⟨_, rfl⟩

