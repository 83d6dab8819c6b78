/-! rests -/
def PX10_restz : List (List (Option Op0)) := [[(some (3, 0, 2, 0, 1, [])), (some (17, 10, 3, 0, 4, [])), none, none, (some (0, 0, 0, 4, 5, [])), (some (3, 1, 0, 0, 6, [])), (some (23, 1034, 2, 1, 9, [129])), none, none, (some (13, 44, 0, 0, 12, [])), none, none, (some (3, 0, 2, 0, 13, [])), (some (17, 10, 3, 0, 16, [])), none, none], [(some (0, 0, 0, 4, 17, [])), (some (3, 2, 0, 0, 18, [])), (some (23, 1034, 2, 1, 21, [129])), none, none, (some (13, 44, 0, 0, 24, [])), none, none, (some (3, 1, 0, 0, 25, [])), (some (3, 2, 0, 0, 26, [])), (some (14, 44, 0, 0, 29, [])), none, none, (some (3, 0, 2, 0, 30, [])), (some (17, 10, 5, 0, 33, [])), none], [none, (some (3, 0, 2, 0, 34, [])), (some (17, 10, 3, 0, 37, [])), none, none, (some (3, 3, 0, 0, 38, [])), (some (23, 775, 2, 1, 41, [267])), none, none, (some (13, 55, 1, 0, 44, [])), none, none, (some (22, 0, 2, 0, 0, [])), none, none, none], [none, none, none, none, none, none, none, (some (3, 0, 2, 0, 56, [])), (some (17, 10, 3, 0, 59, [])), none, none, (some (3, 1, 0, 0, 60, [])), (some (3, 3, 0, 0, 61, [])), (some (23, 1044, 2, 1, 64, [278])), none, none], [(some (3, 0, 2, 0, 65, [])), (some (17, 10, 3, 0, 68, [])), none, none, (some (3, 2, 0, 0, 69, [])), (some (3, 3, 0, 0, 70, [])), (some (23, 1044, 2, 1, 73, [278])), none, none, (some (3, 4, 0, 0, 75, [])), none, (some (23, 1293, 3, 0, 78, [281])), none, none, (some (4, 5, 0, 0, 80, [])), none], [(some (3, 5, 0, 0, 82, [])), none, (some (0, 0, 0, (-1), 83, [])), (some (14, 97, 1, 0, 86, [])), none, none, (some (22, 0, 2, 0, 0, [])), none, none, none, none, none, none, none, none, none], [none, (some (3, 5, 0, 0, 99, [])), none, (some (22, 0, 0, 0, 0, []))]]
theorem restz_all : ((List.range (16 * PX10_rests.length)).all fun pc => match Pt PX10_rests pc with
  | none => true
  | some o => (Pt PX10_restz pc == some o)) = true := by decide +kernel
theorem restz_ok {pc : Nat} {o : Op0} (h : Pt PX10_rests pc = some o) : Pt PX10_restz pc = some o := by
  have := List.all_eq_true.mp restz_all pc (List.mem_range.mpr (Pt_lt h))
  rw [h] at this
  exact eq_of_beq this
theorem restz_cl : ((List.range (16 * PX10_rests.length)).all fun pc => match Pt PX10_rests pc with
  | none => true
  | some o => o.1 != 23 || zok o.2.1) = true := by decide +kernel
theorem rests_cl {pc : Nat} {o : Op0} (h : Pt PX10_rests pc = some o) (h23 : o.1 = 23) : zok o.2.1 = true := by
  have := List.all_eq_true.mp restz_cl pc (List.mem_range.mpr (Pt_lt h))
  rw [h] at this
  simp only [Bool.or_eq_true, bne_iff_ne] at this
  rcases this with h2 | h2
  · exact absurd h23 h2
  · exact h2
theorem b_X10_firstRests_0 {n : Nat} {Q : Zr → Prop} (x0 x1 x2 x3 x4 : Int) (s : Zs) 
    (h0 : ∀ (g1 : x1 < x2), zT (zE 1295) (Pt PX10_firstRests) n (16, [x0, x1, x2, 0, 0], [], s) Q)
    (h1 : ∀ (g1 : x2 ≤ x1), zT (zE 1295) (Pt PX10_firstRests) n (16, [x0, x1, x2, w32 (x0 - x1), 0], [], s) Q) : zT (zE 1295) (Pt PX10_firstRests) n (0, [x0, x1, x2, x3, x4], [], s) Q := by
  refine tL x1 0 rfl rfl rfl ?_
  refine tL x2 0 rfl rfl rfl ?_
  refine tJ2 rfl (fun g1 _ l1 => zT_le ?_ (Nat.le_of_lt l1)) (fun g1 _ l1 => zT_le ?_ (Nat.le_of_lt l1))
  · refine tK rfl ?_
    refine tS [x0, x1, x2, 0, x4] rfl rfl ?_
    refine tK rfl ?_
    refine tS [x0, x1, x2, 0, 0] rfl rfl ?_
    exact zT_le (h0 g1) (Nat.le_refl n)
  · refine tL x0 0 rfl rfl rfl ?_
    refine tL x1 0 rfl rfl rfl ?_
    refine tB (v := w32 (x0 - x1)) rfl rfl ?_
    refine tG rfl ?_
    refine tS [x0, x1, x2, w32 (x0 - x1), x4] rfl rfl ?_
    refine tK rfl ?_
    refine tS [x0, x1, x2, w32 (x0 - x1), 0] rfl rfl ?_
    exact zT_le (h1 g1) (Nat.le_refl n)

theorem b_X10_firstRests_16 {n : Nat} {Q : Zr → Prop} (x0 x1 x2 x3 x4 : Int) (s : Zs) 
    (h0 : ∀ (g1 : 10 ≤ x4), Q ([(1, 0)], s))
    (h1 : ∀ (g1 : x4 < 10), ∀ (g2 : x4 < x2), ∀ (g3 : 0 ≤ x3), ∀ m, m < n → zT (zE 1295) (Pt PX10_firstRests) m (16, [x0, x1, x2, x3, w32 (x4 + 1)], [], s) Q)
    (h2 : ∀ (g1 : x4 < 10), ∀ (g2 : x4 < x2), ∀ (g3 : x3 < 0), Q ([(0, 0)], s))
    (h3 : ∀ (g1 : x4 < 10), ∀ (g2 : x2 ≤ x4), ∀ (g4 : w32 (x0 - x4) ≤ x3), ∀ m, m < n → zT (zE 1295) (Pt PX10_firstRests) m (16, [x0, x1, x2, x3, w32 (x4 + 1)], [], s) Q)
    (h4 : ∀ (g1 : x4 < 10), ∀ (g2 : x2 ≤ x4), ∀ (g4 : x3 < w32 (x0 - x4)), Q ([(0, 0)], s)) : zT (zE 1295) (Pt PX10_firstRests) n (16, [x0, x1, x2, x3, x4], [], s) Q := by
  refine tL x4 0 rfl rfl rfl ?_
  refine tK rfl ?_
  refine tJ3 rfl (fun g1 _ l1 => zT_le ?_ (Nat.le_of_lt l1)) (fun g1 _ l1 => zT_le ?_ (Nat.le_of_lt l1))
  · refine tK rfl ?_
    exact tR rfl (h0 g1)
  · refine tL x4 0 rfl rfl rfl ?_
    refine tL x2 0 rfl rfl rfl ?_
    refine tJ2 rfl (fun g2 _ l2 => zT_le ?_ (Nat.le_of_lt l2)) (fun g2 _ l2 => zT_le ?_ (Nat.le_of_lt l2))
    · refine tK rfl ?_
      refine tL x3 0 rfl rfl rfl ?_
      refine tJ5 rfl (fun g3 _ l3 => zT_le ?_ (Nat.le_of_lt l3)) (fun g3 _ l3 => zT_le ?_ (Nat.le_of_lt l3))
      · refine tInc [x0, x1, x2, x3, w32 (x4 + 1)] rfl rfl ?_
        exact tGb rfl (fun m2 l2 => h1 g1 g2 g3 m2 (Nat.lt_of_lt_of_le l2 (Nat.le_refl n)))
      · refine tK rfl ?_
        exact tR rfl (h2 g1 g2 g3)
    · refine tL x0 0 rfl rfl rfl ?_
      refine tL x4 0 rfl rfl rfl ?_
      refine tB (v := w32 (x0 - x4)) rfl rfl ?_
      refine tG rfl ?_
      refine tL x3 0 rfl rfl rfl ?_
      refine tJ5 rfl (fun g4 _ l4 => zT_le ?_ (Nat.le_of_lt l4)) (fun g4 _ l4 => zT_le ?_ (Nat.le_of_lt l4))
      · refine tInc [x0, x1, x2, x3, w32 (x4 + 1)] rfl rfl ?_
        exact tGb rfl (fun m2 l2 => h3 g1 g2 g4 m2 (Nat.lt_of_lt_of_le l2 (Nat.le_refl n)))
      · refine tK rfl ?_
        exact tR rfl (h4 g1 g2 g4)

theorem c_X10_firstRests {n : Nat} {Q : Zr → Prop} {a0 a1 a2 : Int} {s : Zs} (h : zT (zE 1295) (Pt PX10_firstRests) n (0, [a0, a1, a2, 0, 0], [], s) Q) : zC n 1295 [(a0, 0), (a1, 0), (a2, 0)] s Q := h

theorem b_X10_secondRests_0 {n : Nat} {Q : Zr → Prop} (x0 x1 x2 x3 x4 : Int) (s : Zs) 
    (h0 : ∀ (g1 : x2 ≤ x1), zT (zE 1312) (Pt PX10_secondRests) n (16, [x0, x1, x2, 0, 0], [], s) Q)
    (h1 : ∀ (g1 : x1 < x2), zT (zE 1312) (Pt PX10_secondRests) n (16, [x0, x1, x2, w32 (x0 - x2), 0], [], s) Q) : zT (zE 1312) (Pt PX10_secondRests) n (0, [x0, x1, x2, x3, x4], [], s) Q := by
  refine tL x2 0 rfl rfl rfl ?_
  refine tL x1 0 rfl rfl rfl ?_
  refine tJ5 rfl (fun g1 _ l1 => zT_le ?_ (Nat.le_of_lt l1)) (fun g1 _ l1 => zT_le ?_ (Nat.le_of_lt l1))
  · refine tK rfl ?_
    refine tS [x0, x1, x2, 0, x4] rfl rfl ?_
    refine tK rfl ?_
    refine tS [x0, x1, x2, 0, 0] rfl rfl ?_
    exact zT_le (h0 g1) (Nat.le_refl n)
  · refine tL x0 0 rfl rfl rfl ?_
    refine tL x2 0 rfl rfl rfl ?_
    refine tB (v := w32 (x0 - x2)) rfl rfl ?_
    refine tG rfl ?_
    refine tS [x0, x1, x2, w32 (x0 - x2), x4] rfl rfl ?_
    refine tK rfl ?_
    refine tS [x0, x1, x2, w32 (x0 - x2), 0] rfl rfl ?_
    exact zT_le (h1 g1) (Nat.le_refl n)

theorem b_X10_secondRests_16 {n : Nat} {Q : Zr → Prop} (x0 x1 x2 x3 x4 : Int) (s : Zs) 
    (h0 : ∀ (g1 : 10 ≤ x4), Q ([(1, 0)], s))
    (h1 : ∀ (g1 : x4 < 10), ∀ (g2 : x4 ≤ x1), ∀ (g3 : 0 ≤ x3), ∀ m, m < n → zT (zE 1312) (Pt PX10_secondRests) m (16, [x0, x1, x2, x3, w32 (x4 + 1)], [], s) Q)
    (h2 : ∀ (g1 : x4 < 10), ∀ (g2 : x4 ≤ x1), ∀ (g3 : x3 < 0), Q ([(0, 0)], s))
    (h3 : ∀ (g1 : x4 < 10), ∀ (g2 : x1 < x4), ∀ (g4 : w32 (x0 - x4) ≤ x3), ∀ m, m < n → zT (zE 1312) (Pt PX10_secondRests) m (16, [x0, x1, x2, x3, w32 (x4 + 1)], [], s) Q)
    (h4 : ∀ (g1 : x4 < 10), ∀ (g2 : x1 < x4), ∀ (g4 : x3 < w32 (x0 - x4)), Q ([(0, 0)], s)) : zT (zE 1312) (Pt PX10_secondRests) n (16, [x0, x1, x2, x3, x4], [], s) Q := by
  refine tL x4 0 rfl rfl rfl ?_
  refine tK rfl ?_
  refine tJ3 rfl (fun g1 _ l1 => zT_le ?_ (Nat.le_of_lt l1)) (fun g1 _ l1 => zT_le ?_ (Nat.le_of_lt l1))
  · refine tK rfl ?_
    exact tR rfl (h0 g1)
  · refine tL x4 0 rfl rfl rfl ?_
    refine tL x1 0 rfl rfl rfl ?_
    refine tJ5 rfl (fun g2 _ l2 => zT_le ?_ (Nat.le_of_lt l2)) (fun g2 _ l2 => zT_le ?_ (Nat.le_of_lt l2))
    · refine tK rfl ?_
      refine tL x3 0 rfl rfl rfl ?_
      refine tJ5 rfl (fun g3 _ l3 => zT_le ?_ (Nat.le_of_lt l3)) (fun g3 _ l3 => zT_le ?_ (Nat.le_of_lt l3))
      · refine tInc [x0, x1, x2, x3, w32 (x4 + 1)] rfl rfl ?_
        exact tGb rfl (fun m2 l2 => h1 g1 g2 g3 m2 (Nat.lt_of_lt_of_le l2 (Nat.le_refl n)))
      · refine tK rfl ?_
        exact tR rfl (h2 g1 g2 g3)
    · refine tL x0 0 rfl rfl rfl ?_
      refine tL x4 0 rfl rfl rfl ?_
      refine tB (v := w32 (x0 - x4)) rfl rfl ?_
      refine tG rfl ?_
      refine tL x3 0 rfl rfl rfl ?_
      refine tJ5 rfl (fun g4 _ l4 => zT_le ?_ (Nat.le_of_lt l4)) (fun g4 _ l4 => zT_le ?_ (Nat.le_of_lt l4))
      · refine tInc [x0, x1, x2, x3, w32 (x4 + 1)] rfl rfl ?_
        exact tGb rfl (fun m2 l2 => h3 g1 g2 g4 m2 (Nat.lt_of_lt_of_le l2 (Nat.le_refl n)))
      · refine tK rfl ?_
        exact tR rfl (h4 g1 g2 g4)

theorem c_X10_secondRests {n : Nat} {Q : Zr → Prop} {a0 a1 a2 : Int} {s : Zs} (h : zT (zE 1312) (Pt PX10_secondRests) n (0, [a0, a1, a2, 0, 0], [], s) Q) : zC n 1312 [(a0, 0), (a1, 0), (a2, 0)] s Q := h

theorem b_X10_findRest_0 {n : Nat} {Q : Zr → Prop} (x0 x1 x2 x3 x4 x5 x6 : Int) (s : Zs) 
    (h0 : zT (zE 1293) (Pt PX10_findRest) n (5, [x0, x1, x2, 0, 0, x5, x6], [], s) Q) : zT (zE 1293) (Pt PX10_findRest) n (0, [x0, x1, x2, x3, x4, x5, x6], [], s) Q := by
  refine tK rfl ?_
  refine tS [x0, x1, x2, 0, x4, x5, x6] rfl rfl ?_
  refine tK rfl ?_
  refine tS [x0, x1, x2, 0, 0, x5, x6] rfl rfl ?_
  exact zT_le (h0) (Nat.le_refl n)

theorem b_X10_findRest_5 {n : Nat} {Q : Zr → Prop} (x0 x1 x2 x3 x4 x5 x6 : Int) (s : Zs) 
    (h0 : ∀ (g1 : 100 ≤ x4), ∀ (g2 : x2 ≠ (-1)), Q ([((-1), 0)], s))
    (h1 : ∀ (g1 : 100 ≤ x4), ∀ (g2 : x2 = (-1)), Q ([(x3, 0)], s))
    (h2 : ∀ (g1 : x4 < 100), ∀ m, m < n → zC m 1295 [(x0, 0), (zdiv x4 10, 0), (zrem x4 10, 0)] s (fun p => zT (zE 1293) (Pt PX10_findRest) m (34, [x0, x1, x2, x3, x4, zdiv x4 10, zrem x4 10], p.1 ++ [], p.2) Q)) : zT (zE 1293) (Pt PX10_findRest) n (5, [x0, x1, x2, x3, x4, x5, x6], [], s) Q := by
  refine tL x4 0 rfl rfl rfl ?_
  refine tK rfl ?_
  refine tJ3 rfl (fun g1 _ l1 => zT_le ?_ (Nat.le_of_lt l1)) (fun g1 _ l1 => zT_le ?_ (Nat.le_of_lt l1))
  · refine tL x2 0 rfl rfl rfl ?_
    refine tK rfl ?_
    refine tJ1 rfl (fun g2 _ l2 => zT_le ?_ (Nat.le_of_lt l2)) (fun g2 _ l2 => zT_le ?_ (Nat.le_of_lt l2))
    · refine tK rfl ?_
      exact tR rfl (h0 g1 g2)
    · refine tL x3 0 rfl rfl rfl ?_
      refine tG rfl ?_
      exact tR rfl (h1 g1 g2)
  · refine tL x4 0 rfl rfl rfl ?_
    refine tK rfl ?_
    refine tB (v := zdiv x4 10) rfl rfl ?_
    refine tS [x0, x1, x2, x3, x4, zdiv x4 10, x6] rfl rfl ?_
    refine tL x4 0 rfl rfl rfl ?_
    refine tK rfl ?_
    refine tB (v := zrem x4 10) rfl rfl ?_
    refine tS [x0, x1, x2, x3, x4, zdiv x4 10, zrem x4 10] rfl rfl ?_
    refine tL x0 0 rfl rfl rfl ?_
    refine tL (zdiv x4 10) 0 rfl rfl rfl ?_
    refine tL (zrem x4 10) 0 rfl rfl rfl ?_
    exact tCall [(x0, 0), (zdiv x4 10, 0), (zrem x4 10, 0)] [] rfl rfl rfl (fun m l => h2 g1 m (Nat.lt_of_lt_of_le l (Nat.le_refl n)))

theorem b_X10_findRest_34 {n : Nat} {Q : Zr → Prop} (x0 x1 x2 x3 x4 x5 x6 v0 : Int) (s : Zs) 
    (h0 : ∀ (g1 : v0 = 0), ∀ m, m < n → zT (zE 1293) (Pt PX10_findRest) m (5, [x0, x1, x2, x3, w32 (x4 + 1), x5, x6], [], s) Q)
    (h1 : ∀ (g1 : v0 ≠ 0), ∀ m, m < n → zC m 1312 [(x1, 0), (x5, 0), (x6, 0)] s (fun p => zT (zE 1293) (Pt PX10_findRest) m (45, [x0, x1, x2, x3, x4, x5, x6], p.1 ++ [], p.2) Q)) : zT (zE 1293) (Pt PX10_findRest) n (34, [x0, x1, x2, x3, x4, x5, x6], [(v0, 0)], s) Q := by
  refine tI0 rfl (fun g1 _ l1 => zT_le ?_ (Nat.le_of_lt l1)) (fun g1 _ l1 => zT_le ?_ (Nat.le_of_lt l1))
  · refine tInc [x0, x1, x2, x3, w32 (x4 + 1), x5, x6] rfl rfl ?_
    exact tGb rfl (fun m2 l2 => h0 g1 m2 (Nat.lt_of_lt_of_le l2 (Nat.le_refl n)))
  · refine tL x1 0 rfl rfl rfl ?_
    refine tL x5 0 rfl rfl rfl ?_
    refine tL x6 0 rfl rfl rfl ?_
    exact tCall [(x1, 0), (x5, 0), (x6, 0)] [] rfl rfl rfl (fun m l => h1 g1 m (Nat.lt_of_lt_of_le l (Nat.le_refl n)))

theorem b_X10_findRest_45 {n : Nat} {Q : Zr → Prop} (x0 x1 x2 x3 x4 x5 x6 v0 : Int) (s : Zs) 
    (h0 : ∀ (g1 : v0 = 0), ∀ m, m < n → zT (zE 1293) (Pt PX10_findRest) m (5, [x0, x1, x2, x3, w32 (x4 + 1), x5, x6], [], s) Q)
    (h1 : ∀ (g1 : v0 ≠ 0), ∀ (g2 : x3 ≠ x2), ∀ m, m < n → zT (zE 1293) (Pt PX10_findRest) m (5, [x0, x1, x2, w32 (x3 + 1), w32 (x4 + 1), x5, x6], [], s) Q)
    (h2 : ∀ (g1 : v0 ≠ 0), ∀ (g2 : x3 = x2), Q ([(x4, 0)], s)) : zT (zE 1293) (Pt PX10_findRest) n (45, [x0, x1, x2, x3, x4, x5, x6], [(v0, 0)], s) Q := by
  refine tI0 rfl (fun g1 _ l1 => zT_le ?_ (Nat.le_of_lt l1)) (fun g1 _ l1 => zT_le ?_ (Nat.le_of_lt l1))
  · refine tInc [x0, x1, x2, x3, w32 (x4 + 1), x5, x6] rfl rfl ?_
    exact tGb rfl (fun m2 l2 => h0 g1 m2 (Nat.lt_of_lt_of_le l2 (Nat.le_refl n)))
  · refine tL x3 0 rfl rfl rfl ?_
    refine tL x2 0 rfl rfl rfl ?_
    refine tJ1 rfl (fun g2 _ l2 => zT_le ?_ (Nat.le_of_lt l2)) (fun g2 _ l2 => zT_le ?_ (Nat.le_of_lt l2))
    · refine tInc [x0, x1, x2, w32 (x3 + 1), x4, x5, x6] rfl rfl ?_
      refine tInc [x0, x1, x2, w32 (x3 + 1), w32 (x4 + 1), x5, x6] rfl rfl ?_
      exact tGb rfl (fun m2 l2 => h1 g1 g2 m2 (Nat.lt_of_lt_of_le l2 (Nat.le_refl n)))
    · refine tL x4 0 rfl rfl rfl ?_
      exact tR rfl (h2 g1 g2)

theorem c_X10_findRest {n : Nat} {Q : Zr → Prop} {a0 a1 a2 : Int} {s : Zs} (h : zT (zE 1293) (Pt PX10_findRest) n (0, [a0, a1, a2, 0, 0, 0, 0], [], s) Q) : zC n 1293 [(a0, 0), (a1, 0), (a2, 0)] s Q := h

theorem b_X8_worth_0 {n : Nat} {Q : Zr → Prop} {t : Nat} (x1 x2 x3 : Int) (s : Zs) (ht : t = 7 ∨ t = 43)
    (h0 : ∀ (g1 : s (zrho (t + 12) x2.toNat) 2 < s (zrho (t + 28) x1.toNat) 0), Q ([(zdiv (s (zrho (t + 28) x1.toNat) 1) 2, 0)], s))
    (h1 : ∀ (g1 : s (zrho (t + 28) x1.toNat) 0 ≤ s (zrho (t + 12) x2.toNat) 2), Q ([(s (zrho (t + 28) x1.toNat) 1, 0)], s)) : zT (zE 1044) (Pt PX8_worth) n (0, [((t : Nat) : Int), x1, x2, x3], [], s) Q := by
  refine tL ((t : Nat) : Int) 0 rfl rfl rfl ?_
  refine tFR (c := t) (t + 28) rfl rfl rfl rfl (zt8_4 ht) ?_
  refine tL x1 0 rfl rfl rfl ?_
  refine tAR (zrho (t + 28) x1.toNat) rfl rfl ?_
  refine tK rfl ?_
  refine tAv (zrho (t + 28) x1.toNat) 1 (s (zrho (t + 28) x1.toNat) 1) 0 rfl rfl rfl (by decide) rfl rfl ?_
  refine tS [((t : Nat) : Int), x1, x2, s (zrho (t + 28) x1.toNat) 1] rfl rfl ?_
  refine tL ((t : Nat) : Int) 0 rfl rfl rfl ?_
  refine tFR (c := t) (t + 12) rfl rfl rfl rfl (zt8_1 ht) ?_
  refine tL x2 0 rfl rfl rfl ?_
  refine tAR (zrho (t + 12) x2.toNat) rfl rfl ?_
  refine tK rfl ?_
  refine tAv (zrho (t + 12) x2.toNat) 2 (s (zrho (t + 12) x2.toNat) 2) 0 rfl rfl rfl (by decide) rfl rfl ?_
  refine tL ((t : Nat) : Int) 0 rfl rfl rfl ?_
  refine tFR (c := t) (t + 28) rfl rfl rfl rfl (zt8_4 ht) ?_
  refine tL x1 0 rfl rfl rfl ?_
  refine tAR (zrho (t + 28) x1.toNat) rfl rfl ?_
  refine tK rfl ?_
  refine tAv (zrho (t + 28) x1.toNat) 0 (s (zrho (t + 28) x1.toNat) 0) 0 rfl rfl rfl (by decide) rfl rfl ?_
  refine tJ2 rfl (fun g1 _ l1 => zT_le ?_ (Nat.le_of_lt l1)) (fun g1 _ l1 => zT_le ?_ (Nat.le_of_lt l1))
  · refine tL (s (zrho (t + 28) x1.toNat) 1) 0 rfl rfl rfl ?_
    refine tK rfl ?_
    refine tB (v := zdiv (s (zrho (t + 28) x1.toNat) 1) 2) rfl rfl ?_
    exact tR rfl (h0 g1)
  · refine tL (s (zrho (t + 28) x1.toNat) 1) 0 rfl rfl rfl ?_
    refine tG rfl ?_
    exact tR rfl (h1 g1)

theorem c_X8_worth {n : Nat} {Q : Zr → Prop} {a0 a1 a2 : Int} {s : Zs} (h : zT (zE 1044) (Pt PX8_worth) n (0, [a0, a1, a2, 0], [], s) Q) : zC n 1044 [(a0, 0), (a1, 0), (a2, 0)] s Q := h

theorem b_X10_rests_0 {n : Nat} {Q : Zr → Prop} {t : Nat} (x1 x2 x3 x4 x5 : Int) (s : Zs) (ht : t = 7 ∨ t = 43)
    (h0 : ∀ m, m < n → zC m 1034 [(s 0 3, 0), (4, 0), (x1, 0)] s (fun p => zT (zE 1311) (Pt PX10_restz) m (9, [((0 : Nat) : Int), x1, x2, x3, x4, x5], p.1 ++ [], p.2) Q)) : zT (zE 1311) (Pt PX10_restz) n (0, [((0 : Nat) : Int), x1, x2, x3, x4, x5], [], s) Q := by
  refine tL ((0 : Nat) : Int) 0 rfl rfl rfl ?_
  refine tFv (c := 0) (s 0 3) 0 rfl rfl rfl rfl rfl ?_
  refine tK rfl ?_
  refine tL x1 0 rfl rfl rfl ?_
  exact tCall [(s 0 3, 0), (4, 0), (x1, 0)] [] rfl rfl rfl (fun m l => h0 m (Nat.lt_of_lt_of_le l (Nat.le_refl n)))

theorem b_X10_rests_9 {n : Nat} {Q : Zr → Prop} {t : Nat} (x1 x2 x3 x4 x5 v0 : Int) (s : Zs) (ht : t = 7 ∨ t = 43)
    (h0 : ∀ (g1 : v0 = 0), Q ([], s))
    (h1 : ∀ (g1 : v0 ≠ 0), ∀ m, m < n → zC m 1034 [(s 0 3, 0), (4, 0), (x2, 0)] s (fun p => zT (zE 1311) (Pt PX10_restz) m (21, [((0 : Nat) : Int), x1, x2, x3, x4, x5], p.1 ++ [], p.2) Q)) : zT (zE 1311) (Pt PX10_restz) n (9, [((0 : Nat) : Int), x1, x2, x3, x4, x5], [(v0, 0)], s) Q := by
  refine tI0 rfl (fun g1 _ l1 => zT_le ?_ (Nat.le_of_lt l1)) (fun g1 _ l1 => zT_le ?_ (Nat.le_of_lt l1))
  · exact tR rfl (h0 g1)
  · refine tL ((0 : Nat) : Int) 0 rfl rfl rfl ?_
    refine tFv (c := 0) (s 0 3) 0 rfl rfl rfl rfl rfl ?_
    refine tK rfl ?_
    refine tL x2 0 rfl rfl rfl ?_
    exact tCall [(s 0 3, 0), (4, 0), (x2, 0)] [] rfl rfl rfl (fun m l => h1 g1 m (Nat.lt_of_lt_of_le l (Nat.le_refl n)))

theorem b_X10_rests_21 {n : Nat} {Q : Zr → Prop} {t : Nat} (x1 x2 x3 x4 x5 v0 : Int) (s : Zs) (ht : t = 7 ∨ t = 43)
    (h0 : ∀ (g1 : v0 = 0), Q ([], s))
    (h1 : ∀ (g1 : v0 ≠ 0), ∀ (g2 : x1 = x2), Q ([], s))
    (h2 : ∀ (g1 : v0 ≠ 0), ∀ (g2 : x1 ≠ x2), ∀ m, m < n → zC m 775 [(((79 : Nat) : Int), 0), (s 0 3, 0), (x3, 0)] s (fun p => zT (zE 1311) (Pt PX10_restz) m (41, [((0 : Nat) : Int), x1, x2, x3, x4, x5], p.1 ++ [], p.2) Q)) : zT (zE 1311) (Pt PX10_restz) n (21, [((0 : Nat) : Int), x1, x2, x3, x4, x5], [(v0, 0)], s) Q := by
  refine tI0 rfl (fun g1 _ l1 => zT_le ?_ (Nat.le_of_lt l1)) (fun g1 _ l1 => zT_le ?_ (Nat.le_of_lt l1))
  · exact tR rfl (h0 g1)
  · refine tL x1 0 rfl rfl rfl ?_
    refine tL x2 0 rfl rfl rfl ?_
    refine tJ0 rfl (fun g2 _ l2 => zT_le ?_ (Nat.le_of_lt l2)) (fun g2 _ l2 => zT_le ?_ (Nat.le_of_lt l2))
    · exact tR rfl (h1 g1 g2)
    · refine tL ((0 : Nat) : Int) 0 rfl rfl rfl ?_
      refine tFR (c := 0) 79 rfl rfl rfl rfl rfl ?_
      refine tL ((0 : Nat) : Int) 0 rfl rfl rfl ?_
      refine tFv (c := 0) (s 0 3) 0 rfl rfl rfl rfl rfl ?_
      refine tL x3 0 rfl rfl rfl ?_
      exact tCall [(((79 : Nat) : Int), 0), (s 0 3, 0), (x3, 0)] [] rfl rfl rfl (fun m l => h2 g1 g2 m (Nat.lt_of_lt_of_le l (Nat.le_refl n)))

theorem b_X10_rests_41 {n : Nat} {Q : Zr → Prop} {t : Nat} (x1 x2 x3 x4 x5 v0 : Int) (s : Zs) (ht : t = 7 ∨ t = 43)
    (h0 : ∀ (g1 : v0 ≠ 0), ∀ m, m < n → zC m 1044 [(s 0 3, 0), (x1, 0), (x3, 0)] s (fun p => zT (zE 1311) (Pt PX10_restz) m (64, [((0 : Nat) : Int), x1, x2, x3, x4, x5], p.1 ++ [], p.2) Q))
    (h1 : ∀ (g1 : v0 = 0), Q ([], s)) : zT (zE 1311) (Pt PX10_restz) n (41, [((0 : Nat) : Int), x1, x2, x3, x4, x5], [(v0, 0)], s) Q := by
  refine tI1 rfl (fun g1 _ l1 => zT_le ?_ (Nat.le_of_lt l1)) (fun g1 _ l1 => zT_le ?_ (Nat.le_of_lt l1))
  · refine tL ((0 : Nat) : Int) 0 rfl rfl rfl ?_
    refine tFv (c := 0) (s 0 3) 0 rfl rfl rfl rfl rfl ?_
    refine tL x1 0 rfl rfl rfl ?_
    refine tL x3 0 rfl rfl rfl ?_
    exact tCall [(s 0 3, 0), (x1, 0), (x3, 0)] [] rfl rfl rfl (fun m l => h0 g1 m (Nat.lt_of_lt_of_le l (Nat.le_refl n)))
  · exact tR rfl (h1 g1)

theorem b_X10_rests_64 {n : Nat} {Q : Zr → Prop} {t : Nat} (x1 x2 x3 x4 x5 v0 : Int) (s : Zs) (ht : t = 7 ∨ t = 43)
    (h0 : ∀ m, m < n → zC m 1044 [(s 0 3, 0), (x2, 0), (x3, 0)] s (fun p => zT (zE 1311) (Pt PX10_restz) m (73, [((0 : Nat) : Int), x1, x2, x3, x4, x5], p.1 ++ [(v0, 0)], p.2) Q)) : zT (zE 1311) (Pt PX10_restz) n (64, [((0 : Nat) : Int), x1, x2, x3, x4, x5], [(v0, 0)], s) Q := by
  refine tL ((0 : Nat) : Int) 0 rfl rfl rfl ?_
  refine tFv (c := 0) (s 0 3) 0 rfl rfl rfl rfl rfl ?_
  refine tL x2 0 rfl rfl rfl ?_
  refine tL x3 0 rfl rfl rfl ?_
  exact tCall [(s 0 3, 0), (x2, 0), (x3, 0)] [(v0, 0)] rfl rfl rfl (fun m l => h0 m (Nat.lt_of_lt_of_le l (Nat.le_refl n)))

theorem b_X10_rests_73 {n : Nat} {Q : Zr → Prop} {t : Nat} (x1 x2 x3 x4 x5 v0 y0 : Int) (s : Zs) (ht : t = 7 ∨ t = 43)
    (h0 : ∀ m, m < n → zC m 1293 [(y0, 0), (v0, 0), (x4, 0)] s (fun p => zT (zE 1311) (Pt PX10_restz) m (78, [((0 : Nat) : Int), x1, x2, x3, x4, x5], p.1 ++ [], p.2) Q)) : zT (zE 1311) (Pt PX10_restz) n (73, [((0 : Nat) : Int), x1, x2, x3, x4, x5], [(v0, 0), (y0, 0)], s) Q := by
  refine tL x4 0 rfl rfl rfl ?_
  exact tCall [(y0, 0), (v0, 0), (x4, 0)] [] rfl rfl rfl (fun m l => h0 m (Nat.lt_of_lt_of_le l (Nat.le_refl n)))

theorem b_X10_rests_78 {n : Nat} {Q : Zr → Prop} {t : Nat} (x1 x2 x3 x4 x5 v0 : Int) (s : Zs) (ht : t = 7 ∨ t = 43)
    (h0 : ∀ (g1 : v0 ≠ (-1)), Q ([(v0, 0)], s))
    (h1 : ∀ (g1 : v0 = (-1)), Q ([], s)) : zT (zE 1311) (Pt PX10_restz) n (78, [((0 : Nat) : Int), x1, x2, x3, x4, x5], [(v0, 0)], s) Q := by
  refine tS [((0 : Nat) : Int), x1, x2, x3, x4, v0] rfl rfl ?_
  refine tL v0 0 rfl rfl rfl ?_
  refine tK rfl ?_
  refine tJ1 rfl (fun g1 _ l1 => zT_le ?_ (Nat.le_of_lt l1)) (fun g1 _ l1 => zT_le ?_ (Nat.le_of_lt l1))
  · refine tL v0 0 rfl rfl rfl ?_
    exact tR rfl (h0 g1)
  · exact tR rfl (h1 g1)


theorem b_X11_isRest_0 {n : Nat} {Q : Zr → Prop} (x0 x1 x2 x3 x4 x5 x6 : Int) (s : Zs) 
    (h0 : ∀ (g1 : x2 < x3), zT (zE 1454) (Pt PX11_isRest) n (31, [x0, x1, x2, x3, 0, w32 (x1 - x3), 0], [], s) Q)
    (h1 : ∀ (g1 : x3 ≤ x2), zT (zE 1454) (Pt PX11_isRest) n (31, [x0, x1, x2, x3, w32 (x0 - x2), 0, 0], [], s) Q) : zT (zE 1454) (Pt PX11_isRest) n (0, [x0, x1, x2, x3, x4, x5, x6], [], s) Q := by
  refine tL x2 0 rfl rfl rfl ?_
  refine tL x3 0 rfl rfl rfl ?_
  refine tJ2 rfl (fun g1 _ l1 => zT_le ?_ (Nat.le_of_lt l1)) (fun g1 _ l1 => zT_le ?_ (Nat.le_of_lt l1))
  · refine tK rfl ?_
    refine tS [x0, x1, x2, x3, 0, x5, x6] rfl rfl ?_
    refine tL x3 0 rfl rfl rfl ?_
    refine tL x2 0 rfl rfl rfl ?_
    refine tJ5 rfl (fun g _ l => False.elim (by omega)) (fun g _ l => zT_le ?_ (Nat.le_of_lt l))
    refine tL x1 0 rfl rfl rfl ?_
    refine tL x3 0 rfl rfl rfl ?_
    refine tB (v := w32 (x1 - x3)) rfl rfl ?_
    refine tG rfl ?_
    refine tS [x0, x1, x2, x3, 0, w32 (x1 - x3), x6] rfl rfl ?_
    refine tK rfl ?_
    refine tS [x0, x1, x2, x3, 0, w32 (x1 - x3), 0] rfl rfl ?_
    exact zT_le (h0 g1) (Nat.le_refl n)
  · refine tL x0 0 rfl rfl rfl ?_
    refine tL x2 0 rfl rfl rfl ?_
    refine tB (v := w32 (x0 - x2)) rfl rfl ?_
    refine tG rfl ?_
    refine tS [x0, x1, x2, x3, w32 (x0 - x2), x5, x6] rfl rfl ?_
    refine tL x3 0 rfl rfl rfl ?_
    refine tL x2 0 rfl rfl rfl ?_
    refine tJ5 rfl (fun g _ l => zT_le ?_ (Nat.le_of_lt l)) (fun g _ l => False.elim (by omega))
    refine tK rfl ?_
    refine tS [x0, x1, x2, x3, w32 (x0 - x2), 0, x6] rfl rfl ?_
    refine tK rfl ?_
    refine tS [x0, x1, x2, x3, w32 (x0 - x2), 0, 0] rfl rfl ?_
    exact zT_le (h1 g1) (Nat.le_refl n)

theorem b_X11_isRest_31 {n : Nat} {Q : Zr → Prop} (x0 x1 x2 x3 x4 x5 x6 : Int) (s : Zs) 
    (h0 : ∀ (g1 : 10 ≤ x6), Q ([(1, 0)], s))
    (h1 : ∀ (g1 : x6 < 10), ∀ (g2 : x6 < x3), ∀ (g3 : x4 < 0), Q ([(0, 0)], s))
    (h2 : ∀ (g1 : x6 < 10), ∀ (g2 : x6 < x3), ∀ (g3 : 0 ≤ x4), ∀ (g4 : x6 ≤ x2), ∀ (g5 : 0 ≤ x5), ∀ m, m < n → zT (zE 1454) (Pt PX11_isRest) m (31, [x0, x1, x2, x3, x4, x5, w32 (x6 + 1)], [], s) Q)
    (h3 : ∀ (g1 : x6 < 10), ∀ (g2 : x6 < x3), ∀ (g3 : 0 ≤ x4), ∀ (g4 : x6 ≤ x2), ∀ (g5 : x5 < 0), Q ([(0, 0)], s))
    (h4 : ∀ (g1 : x6 < 10), ∀ (g2 : x6 < x3), ∀ (g3 : 0 ≤ x4), ∀ (g4 : x2 < x6), ∀ (g6 : w32 (x1 - x6) ≤ x5), ∀ m, m < n → zT (zE 1454) (Pt PX11_isRest) m (31, [x0, x1, x2, x3, x4, x5, w32 (x6 + 1)], [], s) Q)
    (h5 : ∀ (g1 : x6 < 10), ∀ (g2 : x6 < x3), ∀ (g3 : 0 ≤ x4), ∀ (g4 : x2 < x6), ∀ (g6 : x5 < w32 (x1 - x6)), Q ([(0, 0)], s))
    (h6 : ∀ (g1 : x6 < 10), ∀ (g2 : x3 ≤ x6), ∀ (g7 : x4 < w32 (x0 - x6)), Q ([(0, 0)], s))
    (h7 : ∀ (g1 : x6 < 10), ∀ (g2 : x3 ≤ x6), ∀ (g7 : w32 (x0 - x6) ≤ x4), ∀ (g8 : x6 ≤ x2), ∀ (g9 : 0 ≤ x5), ∀ m, m < n → zT (zE 1454) (Pt PX11_isRest) m (31, [x0, x1, x2, x3, x4, x5, w32 (x6 + 1)], [], s) Q)
    (h8 : ∀ (g1 : x6 < 10), ∀ (g2 : x3 ≤ x6), ∀ (g7 : w32 (x0 - x6) ≤ x4), ∀ (g8 : x6 ≤ x2), ∀ (g9 : x5 < 0), Q ([(0, 0)], s))
    (h9 : ∀ (g1 : x6 < 10), ∀ (g2 : x3 ≤ x6), ∀ (g7 : w32 (x0 - x6) ≤ x4), ∀ (g8 : x2 < x6), ∀ (g10 : w32 (x1 - x6) ≤ x5), ∀ m, m < n → zT (zE 1454) (Pt PX11_isRest) m (31, [x0, x1, x2, x3, x4, x5, w32 (x6 + 1)], [], s) Q)
    (h10 : ∀ (g1 : x6 < 10), ∀ (g2 : x3 ≤ x6), ∀ (g7 : w32 (x0 - x6) ≤ x4), ∀ (g8 : x2 < x6), ∀ (g10 : x5 < w32 (x1 - x6)), Q ([(0, 0)], s)) : zT (zE 1454) (Pt PX11_isRest) n (31, [x0, x1, x2, x3, x4, x5, x6], [], s) Q := by
  refine tL x6 0 rfl rfl rfl ?_
  refine tK rfl ?_
  refine tJ3 rfl (fun g1 _ l1 => zT_le ?_ (Nat.le_of_lt l1)) (fun g1 _ l1 => zT_le ?_ (Nat.le_of_lt l1))
  · refine tK rfl ?_
    exact tR rfl (h0 g1)
  · refine tL x6 0 rfl rfl rfl ?_
    refine tL x3 0 rfl rfl rfl ?_
    refine tJ2 rfl (fun g2 _ l2 => zT_le ?_ (Nat.le_of_lt l2)) (fun g2 _ l2 => zT_le ?_ (Nat.le_of_lt l2))
    · refine tK rfl ?_
      refine tL x4 0 rfl rfl rfl ?_
      refine tJ4 rfl (fun g3 _ l3 => zT_le ?_ (Nat.le_of_lt l3)) (fun g3 _ l3 => zT_le ?_ (Nat.le_of_lt l3))
      · refine tK rfl ?_
        exact tR rfl (h1 g1 g2 g3)
      · refine tL x6 0 rfl rfl rfl ?_
        refine tL x2 0 rfl rfl rfl ?_
        refine tJ5 rfl (fun g4 _ l4 => zT_le ?_ (Nat.le_of_lt l4)) (fun g4 _ l4 => zT_le ?_ (Nat.le_of_lt l4))
        · refine tK rfl ?_
          refine tL x5 0 rfl rfl rfl ?_
          refine tJ5 rfl (fun g5 _ l5 => zT_le ?_ (Nat.le_of_lt l5)) (fun g5 _ l5 => zT_le ?_ (Nat.le_of_lt l5))
          · refine tInc [x0, x1, x2, x3, x4, x5, w32 (x6 + 1)] rfl rfl ?_
            exact tGb rfl (fun m2 l2 => h2 g1 g2 g3 g4 g5 m2 (Nat.lt_of_lt_of_le l2 (Nat.le_refl n)))
          · refine tK rfl ?_
            exact tR rfl (h3 g1 g2 g3 g4 g5)
        · refine tL x1 0 rfl rfl rfl ?_
          refine tL x6 0 rfl rfl rfl ?_
          refine tB (v := w32 (x1 - x6)) rfl rfl ?_
          refine tG rfl ?_
          refine tL x5 0 rfl rfl rfl ?_
          refine tJ5 rfl (fun g6 _ l6 => zT_le ?_ (Nat.le_of_lt l6)) (fun g6 _ l6 => zT_le ?_ (Nat.le_of_lt l6))
          · refine tInc [x0, x1, x2, x3, x4, x5, w32 (x6 + 1)] rfl rfl ?_
            exact tGb rfl (fun m2 l2 => h4 g1 g2 g3 g4 g6 m2 (Nat.lt_of_lt_of_le l2 (Nat.le_refl n)))
          · refine tK rfl ?_
            exact tR rfl (h5 g1 g2 g3 g4 g6)
    · refine tL x0 0 rfl rfl rfl ?_
      refine tL x6 0 rfl rfl rfl ?_
      refine tB (v := w32 (x0 - x6)) rfl rfl ?_
      refine tG rfl ?_
      refine tL x4 0 rfl rfl rfl ?_
      refine tJ4 rfl (fun g7 _ l7 => zT_le ?_ (Nat.le_of_lt l7)) (fun g7 _ l7 => zT_le ?_ (Nat.le_of_lt l7))
      · refine tK rfl ?_
        exact tR rfl (h6 g1 g2 g7)
      · refine tL x6 0 rfl rfl rfl ?_
        refine tL x2 0 rfl rfl rfl ?_
        refine tJ5 rfl (fun g8 _ l8 => zT_le ?_ (Nat.le_of_lt l8)) (fun g8 _ l8 => zT_le ?_ (Nat.le_of_lt l8))
        · refine tK rfl ?_
          refine tL x5 0 rfl rfl rfl ?_
          refine tJ5 rfl (fun g9 _ l9 => zT_le ?_ (Nat.le_of_lt l9)) (fun g9 _ l9 => zT_le ?_ (Nat.le_of_lt l9))
          · refine tInc [x0, x1, x2, x3, x4, x5, w32 (x6 + 1)] rfl rfl ?_
            exact tGb rfl (fun m2 l2 => h7 g1 g2 g7 g8 g9 m2 (Nat.lt_of_lt_of_le l2 (Nat.le_refl n)))
          · refine tK rfl ?_
            exact tR rfl (h8 g1 g2 g7 g8 g9)
        · refine tL x1 0 rfl rfl rfl ?_
          refine tL x6 0 rfl rfl rfl ?_
          refine tB (v := w32 (x1 - x6)) rfl rfl ?_
          refine tG rfl ?_
          refine tL x5 0 rfl rfl rfl ?_
          refine tJ5 rfl (fun g10 _ l10 => zT_le ?_ (Nat.le_of_lt l10)) (fun g10 _ l10 => zT_le ?_ (Nat.le_of_lt l10))
          · refine tInc [x0, x1, x2, x3, x4, x5, w32 (x6 + 1)] rfl rfl ?_
            exact tGb rfl (fun m2 l2 => h9 g1 g2 g7 g8 g10 m2 (Nat.lt_of_lt_of_le l2 (Nat.le_refl n)))
          · refine tK rfl ?_
            exact tR rfl (h10 g1 g2 g7 g8 g10)

theorem c_X11_isRest {n : Nat} {Q : Zr → Prop} {a0 a1 a2 a3 : Int} {s : Zs} (h : zT (zE 1454) (Pt PX11_isRest) n (0, [a0, a1, a2, a3, 0, 0, 0], [], s) Q) : zC n 1454 [(a0, 0), (a1, 0), (a2, 0), (a3, 0)] s Q := h

theorem b_X11_isHill_0 {n : Nat} {Q : Zr → Prop} (x1 : Int) (s : Zs) 
    (h0 : ∀ (g1 : x1 < 0), Q ([(0, 0)], s))
    (h1 : ∀ (g1 : 0 ≤ x1), ∀ (g2 : s 174 4 ≤ x1), Q ([(0, 0)], s))
    (h2 : ∀ (g1 : 0 ≤ x1), ∀ (g2 : x1 < s 174 4), Q ([(1, 0)], s)) : zT (zE 1449) (Pt PX11_isHill) n (0, [((172 : Nat) : Int), x1], [], s) Q := by
  refine tL x1 0 rfl rfl rfl ?_
  refine tI2 rfl (fun g1 _ l1 => zT_le ?_ (Nat.le_of_lt l1)) (fun g1 _ l1 => zT_le ?_ (Nat.le_of_lt l1))
  · refine tK rfl ?_
    exact tR rfl (h0 g1)
  · refine tL x1 0 rfl rfl rfl ?_
    refine tL ((172 : Nat) : Int) 0 rfl rfl rfl ?_
    refine tFR (c := 172) 174 rfl rfl rfl rfl rfl ?_
    refine tK rfl ?_
    refine tAv 174 4 (s 174 4) 0 rfl rfl rfl (by decide) rfl rfl ?_
    refine tJ3 rfl (fun g2 _ l2 => zT_le ?_ (Nat.le_of_lt l2)) (fun g2 _ l2 => zT_le ?_ (Nat.le_of_lt l2))
    · refine tK rfl ?_
      exact tR rfl (h1 g1 g2)
    · refine tK rfl ?_
      refine tG rfl ?_
      exact tR rfl (h2 g1 g2)

theorem c_X11_isHill {n : Nat} {Q : Zr → Prop} {a0 a1 : Int} {s : Zs} (h : zT (zE 1449) (Pt PX11_isHill) n (0, [a0, a1], [], s) Q) : zC n 1449 [(a0, 0), (a1, 0)] s Q := h

theorem b_X11_worthTo_0 {n : Nat} {Q : Zr → Prop} (x1 x2 : Int) (s : Zs) 
    (h0 : ∀ (g1 : s 182 x2.toNat < s 190 x1.toNat), Q ([(zdiv (s 191 x1.toNat) 2, 0)], s))
    (h1 : ∀ (g1 : s 190 x1.toNat ≤ s 182 x2.toNat), Q ([(s 191 x1.toNat, 0)], s)) : zT (zE 1527) (Pt PX11_worthTo) n (0, [((172 : Nat) : Int), x1, x2], [], s) Q := by
  refine tL ((172 : Nat) : Int) 0 rfl rfl rfl ?_
  refine tFR (c := 172) 182 rfl rfl rfl rfl rfl ?_
  refine tL x2 0 rfl rfl rfl ?_
  refine tAv 182 x2.toNat (s 182 x2.toNat) 0 rfl rfl rfl (by decide) rfl rfl ?_
  refine tL ((172 : Nat) : Int) 0 rfl rfl rfl ?_
  refine tFR (c := 172) 190 rfl rfl rfl rfl rfl ?_
  refine tL x1 0 rfl rfl rfl ?_
  refine tAv 190 x1.toNat (s 190 x1.toNat) 0 rfl rfl rfl (by decide) rfl rfl ?_
  refine tJ2 rfl (fun g1 _ l1 => zT_le ?_ (Nat.le_of_lt l1)) (fun g1 _ l1 => zT_le ?_ (Nat.le_of_lt l1))
  · refine tL ((172 : Nat) : Int) 0 rfl rfl rfl ?_
    refine tFR (c := 172) 191 rfl rfl rfl rfl rfl ?_
    refine tL x1 0 rfl rfl rfl ?_
    refine tAv 191 x1.toNat (s 191 x1.toNat) 0 rfl rfl rfl (by decide) rfl rfl ?_
    refine tK rfl ?_
    refine tB (v := zdiv (s 191 x1.toNat) 2) rfl rfl ?_
    exact tR rfl (h0 g1)
  · refine tL ((172 : Nat) : Int) 0 rfl rfl rfl ?_
    refine tFR (c := 172) 191 rfl rfl rfl rfl rfl ?_
    refine tL x1 0 rfl rfl rfl ?_
    refine tAv 191 x1.toNat (s 191 x1.toNat) 0 rfl rfl rfl (by decide) rfl rfl ?_
    refine tG rfl ?_
    exact tR rfl (h1 g1)

theorem c_X11_worthTo {n : Nat} {Q : Zr → Prop} {a0 a1 a2 : Int} {s : Zs} (h : zT (zE 1527) (Pt PX11_worthTo) n (0, [a0, a1, a2], [], s) Q) : zC n 1527 [(a0, 0), (a1, 0), (a2, 0)] s Q := h

theorem b_X11_rests_0 {n : Nat} {Q : Zr → Prop} (x1 x2 x3 x4 x5 x6 : Int) (s : Zs) 
    (h0 : ∀ (g2 : x1 < 0), Q ([(0, 0)], zu s 172 0 1))
    (h1 : ∀ (g3 : 0 ≤ x1), ∀ (g4 : s 174 4 ≤ x1), Q ([(0, 0)], zu s 172 0 1))
    (h2 : ∀ (g5 : 0 ≤ x1), ∀ (g6 : x1 < s 174 4), ∀ (g8 : x2 < 0), Q ([(0, 0)], zu s 172 0 1))
    (h3 : ∀ (g5 : 0 ≤ x1), ∀ (g6 : x1 < s 174 4), ∀ (g9 : 0 ≤ x2), ∀ (g10 : s 174 4 ≤ x2), Q ([(0, 0)], zu s 172 0 1))
    (h4 : ∀ (g5 : 0 ≤ x1), ∀ (g6 : x1 < s 174 4), ∀ (g11 : 0 ≤ x2), ∀ (g12 : x2 < s 174 4), ∀ (g13 : x1 = x2), Q ([(0, 0)], zu s 172 0 1))
    (h5 : ∀ (g5 : 0 ≤ x1), ∀ (g6 : x1 < s 174 4), ∀ (g11 : 0 ≤ x2), ∀ (g12 : x2 < s 174 4), ∀ (g13 : x1 ≠ x2), ∀ (g15 : x3 < 0), Q ([(0, 0)], zu s 172 0 1))
    (h6 : ∀ (g5 : 0 ≤ x1), ∀ (g6 : x1 < s 174 4), ∀ (g11 : 0 ≤ x2), ∀ (g12 : x2 < s 174 4), ∀ (g13 : x1 ≠ x2), ∀ (g16 : 0 ≤ x3), ∀ (g17 : s 174 1 ≤ x3), Q ([(0, 0)], zu s 172 0 1))
    (h7 : ∀ (g5 : 0 ≤ x1), ∀ (g6 : x1 < s 174 4), ∀ (g11 : 0 ≤ x2), ∀ (g12 : x2 < s 174 4), ∀ (g13 : x1 ≠ x2), ∀ (g18 : 0 ≤ x3), ∀ (g19 : x3 < s 174 1), ∀ (g20 : zand (zshr (s 216 0) x3) 1 ≠ 1), Q ([(0, 0)], zu s 172 0 1))
    (h8 : ∀ (g5 : 0 ≤ x1), ∀ (g6 : x1 < s 174 4), ∀ (g11 : 0 ≤ x2), ∀ (g12 : x2 < s 174 4), ∀ (g13 : x1 ≠ x2), ∀ (g18 : 0 ≤ x3), ∀ (g19 : x3 < s 174 1), ∀ (g20 : zand (zshr (s 216 0) x3) 1 = 1), ∀ (g21 : x4 < (-1)), Q ([(0, 0)], zu s 172 0 1))
    (h9 : ∀ (g5 : 0 ≤ x1), ∀ (g6 : x1 < s 174 4), ∀ (g11 : 0 ≤ x2), ∀ (g12 : x2 < s 174 4), ∀ (g13 : x1 ≠ x2), ∀ (g18 : 0 ≤ x3), ∀ (g19 : x3 < s 174 1), ∀ (g20 : zand (zshr (s 216 0) x3) 1 = 1), ∀ (g21 : (-1) ≤ x4), zT (zE 1506) (Pt PX11_rests) n (74, [((172 : Nat) : Int), x1, x2, x3, x4, 0, 0], [], zu s 172 0 0) Q) : zT (zE 1506) (Pt PX11_rests) n (0, [((172 : Nat) : Int), x1, x2, x3, x4, x5, x6], [], s) Q := by
  refine tL ((172 : Nat) : Int) 0 rfl rfl rfl ?_
  refine tL ((172 : Nat) : Int) 0 rfl rfl rfl ?_
  refine tL x1 0 rfl rfl rfl ?_
  refine tCall [(((172 : Nat) : Int), 0), (x1, 0)] [(((172 : Nat) : Int), 0)] rfl rfl rfl (fun m1 l1 => c_X11_isHill (b_X11_isHill_0 x1 s ?_ ?_ ?_))
  · intro g2
    show zT (zE 1506) (Pt PX11_rests) m1 (6, [((172 : Nat) : Int), x1, x2, x3, x4, x5, x6], [(0, 0), (((172 : Nat) : Int), 0)], s) Q
    refine tI0 rfl (fun g _ l => zT_le ?_ (Nat.le_of_lt l)) (fun g _ l => (absurd g (by decide)))
    refine tK rfl ?_
    refine tPut 172 rfl rfl ?_
    refine tL ((172 : Nat) : Int) 0 rfl rfl rfl ?_
    refine tFv (c := 172) 1 0 rfl rfl rfl rfl rfl ?_
    refine tK rfl ?_
    refine tJ1 rfl (fun g _ l => (absurd g (by decide))) (fun g _ l => zT_le ?_ (Nat.le_of_lt l))
    refine tK rfl ?_
    exact tR rfl (h0 g2)
  · intro g3 g4
    show zT (zE 1506) (Pt PX11_rests) m1 (6, [((172 : Nat) : Int), x1, x2, x3, x4, x5, x6], [(0, 0), (((172 : Nat) : Int), 0)], s) Q
    refine tI0 rfl (fun g _ l => zT_le ?_ (Nat.le_of_lt l)) (fun g _ l => (absurd g (by decide)))
    refine tK rfl ?_
    refine tPut 172 rfl rfl ?_
    refine tL ((172 : Nat) : Int) 0 rfl rfl rfl ?_
    refine tFv (c := 172) 1 0 rfl rfl rfl rfl rfl ?_
    refine tK rfl ?_
    refine tJ1 rfl (fun g _ l => (absurd g (by decide))) (fun g _ l => zT_le ?_ (Nat.le_of_lt l))
    refine tK rfl ?_
    exact tR rfl (h1 g3 g4)
  · intro g5 g6
    show zT (zE 1506) (Pt PX11_rests) m1 (6, [((172 : Nat) : Int), x1, x2, x3, x4, x5, x6], [(1, 0), (((172 : Nat) : Int), 0)], s) Q
    refine tI0 rfl (fun g _ l => (absurd g (by decide))) (fun g _ l => zT_le ?_ (Nat.le_of_lt l))
    refine tL ((172 : Nat) : Int) 0 rfl rfl rfl ?_
    refine tL x2 0 rfl rfl rfl ?_
    refine tCall [(((172 : Nat) : Int), 0), (x2, 0)] [(((172 : Nat) : Int), 0)] rfl rfl rfl (fun m7 l7 => c_X11_isHill (b_X11_isHill_0 x2 s ?_ ?_ ?_))
    · intro g8
      show zT (zE 1506) (Pt PX11_rests) m7 (14, [((172 : Nat) : Int), x1, x2, x3, x4, x5, x6], [(0, 0), (((172 : Nat) : Int), 0)], s) Q
      refine tI0 rfl (fun g _ l => zT_le ?_ (Nat.le_of_lt l)) (fun g _ l => (absurd g (by decide)))
      refine tK rfl ?_
      refine tPut 172 rfl rfl ?_
      refine tL ((172 : Nat) : Int) 0 rfl rfl rfl ?_
      refine tFv (c := 172) 1 0 rfl rfl rfl rfl rfl ?_
      refine tK rfl ?_
      refine tJ1 rfl (fun g _ l => (absurd g (by decide))) (fun g _ l => zT_le ?_ (Nat.le_of_lt l))
      refine tK rfl ?_
      exact tR rfl (h2 g5 g6 g8)
    · intro g9 g10
      show zT (zE 1506) (Pt PX11_rests) m7 (14, [((172 : Nat) : Int), x1, x2, x3, x4, x5, x6], [(0, 0), (((172 : Nat) : Int), 0)], s) Q
      refine tI0 rfl (fun g _ l => zT_le ?_ (Nat.le_of_lt l)) (fun g _ l => (absurd g (by decide)))
      refine tK rfl ?_
      refine tPut 172 rfl rfl ?_
      refine tL ((172 : Nat) : Int) 0 rfl rfl rfl ?_
      refine tFv (c := 172) 1 0 rfl rfl rfl rfl rfl ?_
      refine tK rfl ?_
      refine tJ1 rfl (fun g _ l => (absurd g (by decide))) (fun g _ l => zT_le ?_ (Nat.le_of_lt l))
      refine tK rfl ?_
      exact tR rfl (h3 g5 g6 g9 g10)
    · intro g11 g12
      show zT (zE 1506) (Pt PX11_rests) m7 (14, [((172 : Nat) : Int), x1, x2, x3, x4, x5, x6], [(1, 0), (((172 : Nat) : Int), 0)], s) Q
      refine tI0 rfl (fun g _ l => (absurd g (by decide))) (fun g _ l => zT_le ?_ (Nat.le_of_lt l))
      refine tL x1 0 rfl rfl rfl ?_
      refine tL x2 0 rfl rfl rfl ?_
      refine tJ0 rfl (fun g13 _ l13 => zT_le ?_ (Nat.le_of_lt l13)) (fun g13 _ l13 => zT_le ?_ (Nat.le_of_lt l13))
      · refine tK rfl ?_
        refine tPut 172 rfl rfl ?_
        refine tL ((172 : Nat) : Int) 0 rfl rfl rfl ?_
        refine tFv (c := 172) 1 0 rfl rfl rfl rfl rfl ?_
        refine tK rfl ?_
        refine tJ1 rfl (fun g _ l => (absurd g (by decide))) (fun g _ l => zT_le ?_ (Nat.le_of_lt l))
        refine tK rfl ?_
        exact tR rfl (h4 g5 g6 g11 g12 g13)
      · refine tL ((172 : Nat) : Int) 0 rfl rfl rfl ?_
        refine tL x3 0 rfl rfl rfl ?_
        refine tCall [(((172 : Nat) : Int), 0), (x3, 0)] [(((172 : Nat) : Int), 0)] rfl rfl rfl (fun m14 l14 => c_X11_isFlight (b_X11_isFlight_0 x3 s ?_ ?_ ?_))
        · intro g15
          show zT (zE 1506) (Pt PX11_rests) m14 (27, [((172 : Nat) : Int), x1, x2, x3, x4, x5, x6], [(0, 0), (((172 : Nat) : Int), 0)], s) Q
          refine tI0 rfl (fun g _ l => zT_le ?_ (Nat.le_of_lt l)) (fun g _ l => (absurd g (by decide)))
          refine tK rfl ?_
          refine tPut 172 rfl rfl ?_
          refine tL ((172 : Nat) : Int) 0 rfl rfl rfl ?_
          refine tFv (c := 172) 1 0 rfl rfl rfl rfl rfl ?_
          refine tK rfl ?_
          refine tJ1 rfl (fun g _ l => (absurd g (by decide))) (fun g _ l => zT_le ?_ (Nat.le_of_lt l))
          refine tK rfl ?_
          exact tR rfl (h5 g5 g6 g11 g12 g13 g15)
        · intro g16 g17
          show zT (zE 1506) (Pt PX11_rests) m14 (27, [((172 : Nat) : Int), x1, x2, x3, x4, x5, x6], [(0, 0), (((172 : Nat) : Int), 0)], s) Q
          refine tI0 rfl (fun g _ l => zT_le ?_ (Nat.le_of_lt l)) (fun g _ l => (absurd g (by decide)))
          refine tK rfl ?_
          refine tPut 172 rfl rfl ?_
          refine tL ((172 : Nat) : Int) 0 rfl rfl rfl ?_
          refine tFv (c := 172) 1 0 rfl rfl rfl rfl rfl ?_
          refine tK rfl ?_
          refine tJ1 rfl (fun g _ l => (absurd g (by decide))) (fun g _ l => zT_le ?_ (Nat.le_of_lt l))
          refine tK rfl ?_
          exact tR rfl (h6 g5 g6 g11 g12 g13 g16 g17)
        · intro g18 g19
          show zT (zE 1506) (Pt PX11_rests) m14 (27, [((172 : Nat) : Int), x1, x2, x3, x4, x5, x6], [(1, 0), (((172 : Nat) : Int), 0)], s) Q
          refine tI0 rfl (fun g _ l => (absurd g (by decide))) (fun g _ l => zT_le ?_ (Nat.le_of_lt l))
          refine tL ((172 : Nat) : Int) 0 rfl rfl rfl ?_
          refine tFR (c := 172) 216 rfl rfl rfl rfl rfl ?_
          refine tK rfl ?_
          refine tAv 216 0 (s 216 0) 0 rfl rfl rfl (by decide) rfl rfl ?_
          refine tL x3 0 rfl rfl rfl ?_
          refine tB (v := zshr (s 216 0) x3) rfl rfl ?_
          refine tK rfl ?_
          refine tB (v := zand (zshr (s 216 0) x3) 1) rfl rfl ?_
          refine tK rfl ?_
          refine tJ1 rfl (fun g20 _ l20 => zT_le ?_ (Nat.le_of_lt l20)) (fun g20 _ l20 => zT_le ?_ (Nat.le_of_lt l20))
          · refine tK rfl ?_
            refine tPut 172 rfl rfl ?_
            refine tL ((172 : Nat) : Int) 0 rfl rfl rfl ?_
            refine tFv (c := 172) 1 0 rfl rfl rfl rfl rfl ?_
            refine tK rfl ?_
            refine tJ1 rfl (fun g _ l => (absurd g (by decide))) (fun g _ l => zT_le ?_ (Nat.le_of_lt l))
            refine tK rfl ?_
            exact tR rfl (h7 g5 g6 g11 g12 g13 g18 g19 g20)
          · refine tL x4 0 rfl rfl rfl ?_
            refine tK rfl ?_
            refine tJ2 rfl (fun g21 _ l21 => zT_le ?_ (Nat.le_of_lt l21)) (fun g21 _ l21 => zT_le ?_ (Nat.le_of_lt l21))
            · refine tK rfl ?_
              refine tPut 172 rfl rfl ?_
              refine tL ((172 : Nat) : Int) 0 rfl rfl rfl ?_
              refine tFv (c := 172) 1 0 rfl rfl rfl rfl rfl ?_
              refine tK rfl ?_
              refine tJ1 rfl (fun g _ l => (absurd g (by decide))) (fun g _ l => zT_le ?_ (Nat.le_of_lt l))
              refine tK rfl ?_
              exact tR rfl (h8 g5 g6 g11 g12 g13 g18 g19 g20 g21)
            · refine tK rfl ?_
              refine tG rfl ?_
              refine tPut 172 rfl rfl ?_
              refine tL ((172 : Nat) : Int) 0 rfl rfl rfl ?_
              refine tFv (c := 172) 0 0 rfl rfl rfl rfl rfl ?_
              refine tK rfl ?_
              refine tJ1 rfl (fun g _ l => zT_le ?_ (Nat.le_of_lt l)) (fun g _ l => (absurd g (by decide)))
              refine tK rfl ?_
              refine tS [((172 : Nat) : Int), x1, x2, x3, x4, 0, x6] rfl rfl ?_
              refine tK rfl ?_
              refine tS [((172 : Nat) : Int), x1, x2, x3, x4, 0, 0] rfl rfl ?_
              exact zT_le (h9 g5 g6 g11 g12 g13 g18 g19 g20 g21) (Nat.le_trans (Nat.le_of_lt l14) (Nat.le_trans (Nat.le_of_lt l7) (Nat.le_trans (Nat.le_of_lt l1) (Nat.le_refl n))))

theorem b_X11_rests_74 {n : Nat} {Q : Zr → Prop} (x1 x2 x3 x4 x5 x6 : Int) (s : Zs) 
    (h0 : ∀ (g1 : 100 ≤ x6), ∀ (g2 : x4 ≠ (-1)), Q ([(0, 0)], zu s 172 0 1))
    (h1 : ∀ (g1 : 100 ≤ x6), ∀ (g2 : x4 = (-1)), Q ([(x5, 0)], zu s 172 0 0))
    (h2 : ∀ (g1 : x6 < 100), ∀ m, m < n → zC m 1527 [(((172 : Nat) : Int), 0), (x1, 0), (x3, 0)] s (fun p => zT (zE 1506) (Pt PX11_rests) m (87, [((172 : Nat) : Int), x1, x2, x3, x4, x5, x6], p.1 ++ [], p.2) Q)) : zT (zE 1506) (Pt PX11_rests) n (74, [((172 : Nat) : Int), x1, x2, x3, x4, x5, x6], [], s) Q := by
  refine tL x6 0 rfl rfl rfl ?_
  refine tK rfl ?_
  refine tJ3 rfl (fun g1 _ l1 => zT_le ?_ (Nat.le_of_lt l1)) (fun g1 _ l1 => zT_le ?_ (Nat.le_of_lt l1))
  · refine tL ((172 : Nat) : Int) 0 rfl rfl rfl ?_
    refine tL x4 0 rfl rfl rfl ?_
    refine tK rfl ?_
    refine tJ1 rfl (fun g2 _ l2 => zT_le ?_ (Nat.le_of_lt l2)) (fun g2 _ l2 => zT_le ?_ (Nat.le_of_lt l2))
    · refine tK rfl ?_
      refine tPut 172 rfl rfl ?_
      refine tL x4 0 rfl rfl rfl ?_
      refine tK rfl ?_
      refine tJ1 rfl (fun g _ l => zT_le ?_ (Nat.le_of_lt l)) (fun g _ l => False.elim (by omega))
      refine tK rfl ?_
      exact tR rfl (h0 g1 g2)
    · refine tK rfl ?_
      refine tG rfl ?_
      refine tPut 172 rfl rfl ?_
      refine tL x4 0 rfl rfl rfl ?_
      refine tK rfl ?_
      refine tJ1 rfl (fun g _ l => False.elim (by omega)) (fun g _ l => zT_le ?_ (Nat.le_of_lt l))
      refine tL x5 0 rfl rfl rfl ?_
      refine tG rfl ?_
      exact tR rfl (h1 g1 g2)
  · refine tL ((172 : Nat) : Int) 0 rfl rfl rfl ?_
    refine tL x1 0 rfl rfl rfl ?_
    refine tL x3 0 rfl rfl rfl ?_
    exact tCall [(((172 : Nat) : Int), 0), (x1, 0), (x3, 0)] [] rfl rfl rfl (fun m l => h2 g1 m (Nat.lt_of_lt_of_le l (Nat.le_refl n)))

theorem b_X11_rests_87 {n : Nat} {Q : Zr → Prop} (x1 x2 x3 x4 x5 x6 v0 : Int) (s : Zs) 
    (h0 : ∀ m, m < n → zC m 1527 [(((172 : Nat) : Int), 0), (x2, 0), (x3, 0)] s (fun p => zT (zE 1506) (Pt PX11_rests) m (93, [((172 : Nat) : Int), x1, x2, x3, x4, x5, x6], p.1 ++ [(v0, 0)], p.2) Q)) : zT (zE 1506) (Pt PX11_rests) n (87, [((172 : Nat) : Int), x1, x2, x3, x4, x5, x6], [(v0, 0)], s) Q := by
  refine tL ((172 : Nat) : Int) 0 rfl rfl rfl ?_
  refine tL x2 0 rfl rfl rfl ?_
  refine tL x3 0 rfl rfl rfl ?_
  exact tCall [(((172 : Nat) : Int), 0), (x2, 0), (x3, 0)] [(v0, 0)] rfl rfl rfl (fun m l => h0 m (Nat.lt_of_lt_of_le l (Nat.le_refl n)))

theorem b_X11_rests_93 {n : Nat} {Q : Zr → Prop} (x1 x2 x3 x4 x5 x6 v0 y0 : Int) (s : Zs) 
    (h0 : ∀ m, m < n → zC m 1454 [(y0, 0), (v0, 0), (zdiv x6 10, 0), (zrem x6 10, 0)] s (fun p => zT (zE 1506) (Pt PX11_rests) m (106, [((172 : Nat) : Int), x1, x2, x3, x4, x5, x6], p.1 ++ [], p.2) Q)) : zT (zE 1506) (Pt PX11_rests) n (93, [((172 : Nat) : Int), x1, x2, x3, x4, x5, x6], [(v0, 0), (y0, 0)], s) Q := by
  refine tL x6 0 rfl rfl rfl ?_
  refine tK rfl ?_
  refine tB (v := zdiv x6 10) rfl rfl ?_
  refine tL x6 0 rfl rfl rfl ?_
  refine tK rfl ?_
  refine tB (v := zrem x6 10) rfl rfl ?_
  exact tCall [(y0, 0), (v0, 0), (zdiv x6 10, 0), (zrem x6 10, 0)] [] rfl rfl rfl (fun m l => h0 m (Nat.lt_of_lt_of_le l (Nat.le_refl n)))

theorem b_X11_rests_106 {n : Nat} {Q : Zr → Prop} (x1 x2 x3 x4 x5 x6 v0 : Int) (s : Zs) 
    (h0 : ∀ (g1 : v0 ≠ 0), ∀ (g2 : x5 ≠ x4), ∀ m, m < n → zT (zE 1506) (Pt PX11_rests) m (74, [((172 : Nat) : Int), x1, x2, x3, x4, w32 (x5 + 1), w32 (x6 + 1)], [], s) Q)
    (h1 : ∀ (g1 : v0 ≠ 0), ∀ (g2 : x5 = x4), Q ([(x6, 0)], s))
    (h2 : ∀ (g1 : v0 = 0), ∀ m, m < n → zT (zE 1506) (Pt PX11_rests) m (74, [((172 : Nat) : Int), x1, x2, x3, x4, x5, w32 (x6 + 1)], [], s) Q) : zT (zE 1506) (Pt PX11_rests) n (106, [((172 : Nat) : Int), x1, x2, x3, x4, x5, x6], [(v0, 0)], s) Q := by
  refine tI1 rfl (fun g1 _ l1 => zT_le ?_ (Nat.le_of_lt l1)) (fun g1 _ l1 => zT_le ?_ (Nat.le_of_lt l1))
  · refine tL x5 0 rfl rfl rfl ?_
    refine tL x4 0 rfl rfl rfl ?_
    refine tJ1 rfl (fun g2 _ l2 => zT_le ?_ (Nat.le_of_lt l2)) (fun g2 _ l2 => zT_le ?_ (Nat.le_of_lt l2))
    · refine tInc [((172 : Nat) : Int), x1, x2, x3, x4, w32 (x5 + 1), x6] rfl rfl ?_
      refine tInc [((172 : Nat) : Int), x1, x2, x3, x4, w32 (x5 + 1), w32 (x6 + 1)] rfl rfl ?_
      exact tGb rfl (fun m2 l2 => h0 g1 g2 m2 (Nat.lt_of_lt_of_le l2 (Nat.le_refl n)))
    · refine tL x6 0 rfl rfl rfl ?_
      exact tR rfl (h1 g1 g2)
  · refine tG rfl ?_
    refine tInc [((172 : Nat) : Int), x1, x2, x3, x4, x5, w32 (x6 + 1)] rfl rfl ?_
    exact tGb rfl (fun m2 l2 => h2 g1 m2 (Nat.lt_of_lt_of_le l2 (Nat.le_refl n)))

theorem c_X11_rests {n : Nat} {Q : Zr → Prop} {a0 a1 a2 a3 a4 : Int} {s : Zs} (h : zT (zE 1506) (Pt PX11_rests) n (0, [a0, a1, a2, a3, a4, 0, 0], [], s) Q) : zC n 1506 [(a0, 0), (a1, 0), (a2, 0), (a3, 0), (a4, 0)] s Q := h

section Zrs
variable {N t : Nat} {s : Zs} {D : ZD} {S : ZS}
/-- bids at rest -/
def rgA (w a b : Int) : Int := if b ≤ a then w - a else 0
def rgB (w a b : Int) : Int := if a < b then w - b else 0
def rOkA (w a b : Int) : Prop := ∀ x : Nat, x < 10 → rgA w ((x : Nat) : Int) b ≤ rgA w a b
def rOkB (w a b : Int) : Prop := ∀ x : Nat, x < 10 → rgB w a ((x : Nat) : Int) ≤ rgB w a b
noncomputable def rsB (w1 w2 : Int) (k : Nat) : Bool := dcP (rOkA w1 ((k / 10 : Nat) : Int) ((k % 10 : Nat) : Int) ∧ rOkB w2 ((k / 10 : Nat) : Int) ((k % 10 : Nat) : Int))
noncomputable def rsF (w1 w2 num : Int) : Nat → Nat → Int → Int
  | 0, _, found => if num = -1 then found else -1
  | f + 1, k, found => if rsB w1 w2 k = true then (if found = num then ((k : Nat) : Int) else rsF w1 w2 num f (k + 1) (found + 1)) else rsF w1 w2 num f (k + 1) found
theorem rsF_y {w1 w2 num found : Int} {f k : Nat} (h : rsB w1 w2 k = true) (h2 : found = num) : rsF w1 w2 num (f + 1) k found = ((k : Nat) : Int) := (if_pos h).trans (if_pos h2)
theorem rsF_m {w1 w2 num found : Int} {f k : Nat} (h : rsB w1 w2 k = true) (h2 : found ≠ num) : rsF w1 w2 num (f + 1) k found = rsF w1 w2 num f (k + 1) (found + 1) := (if_pos h).trans (if_neg h2)
theorem rsF_n {w1 w2 num found : Int} {f k : Nat} (h : ¬ rsB w1 w2 k = true) : rsF w1 w2 num (f + 1) k found = rsF w1 w2 num f (k + 1) found := if_neg h
theorem w32_1 {k : Nat} (h : k < 1000) : w32 ((k : Int) + 1) = ((k + 1 : Nat) : Int) := by
  rw [w32_id (by omega) (by omega)]
  omega
theorem firstRests_c {w : Int} {a b : Nat} (hw : 0 ≤ w ∧ w ≤ 99) (ha : a < 10) (hb : b < 10) : zC N 1295 [(w, 0), ((a : Int), 0), ((b : Int), 0)] s (fun r => r = ([(if dcP (rOkA w (a : Int) (b : Int)) = true then 1 else 0, 0)], s)) := by
  have loop : ∀ (M k : Nat), k ≤ 10 → (∀ x : Nat, x < k → rgA w ((x : Nat) : Int) (b : Int) ≤ rgA w (a : Int) (b : Int)) → zT (zE 1295) (Pt PX10_firstRests) M (16, [w, (a : Int), (b : Int), rgA w (a : Int) (b : Int), (k : Int)], [], s) (fun r => r = ([(if dcP (rOkA w (a : Int) (b : Int)) = true then 1 else 0, 0)], s)) := by
    intro M
    induction M using Nat.strongRecOn with
    | ind M ih =>
      intro k hk hh
      have nx : rgA w ((k : Nat) : Int) (b : Int) ≤ rgA w (a : Int) (b : Int) → ∀ x : Nat, x < k + 1 → rgA w ((x : Nat) : Int) (b : Int) ≤ rgA w (a : Int) (b : Int) := fun h x hx => by
        by_cases e : x = k
        · rw [e]; exact h
        · exact hh x (by omega)
      have bad : k < 10 → ¬ rgA w ((k : Nat) : Int) (b : Int) ≤ rgA w (a : Int) (b : Int) → ([((0 : Int), 0)], s) = (([(if dcP (rOkA w (a : Int) (b : Int)) = true then 1 else 0, 0)], s) : Zr) := fun h h2 => by
        rw [if_neg (by rw [dcP_no (fun q => h2 (q k h))]; decide)]
      have e1 : (k : Int) < (b : Int) → rgA w ((k : Nat) : Int) (b : Int) = 0 := fun h => if_neg (by omega)
      have e2 : (b : Int) ≤ (k : Int) → rgA w ((k : Nat) : Int) (b : Int) = w - (k : Int) := fun h => if_pos h
      have e3 : k < 10 → w32 (w - (k : Int)) = w - (k : Int) := fun h => w32_id (by omega) (by omega)
      refine b_X10_firstRests_16 _ _ _ _ _ s (fun g => ?_) (fun g g2 g3 m hm => ?_) (fun g g2 g3 => bad (by omega) (by rw [e1 g2]; omega)) (fun g g2 g4 m hm => ?_) (fun g g2 g4 => bad (by omega) (by rw [e3 (by omega)] at g4; rw [e2 g2]; omega))
      · have ek : k = 10 := by omega
        subst ek
        show _ = _
        rw [if_pos (dcP_yes (show rOkA w (a : Int) (b : Int) from hh))]
      · rw [w32_1 (by omega)]
        exact ih m hm (k + 1) (by omega) (nx (by rw [e1 g2]; exact g3))
      · rw [e3 (by omega)] at g4
        rw [w32_1 (by omega)]
        exact ih m hm (k + 1) (by omega) (nx (by rw [e2 g2]; exact g4))
  refine c_X10_firstRests (b_X10_firstRests_0 _ _ _ _ _ s (fun g => ?_) (fun g => ?_))
  · have e : rgA w (a : Int) (b : Int) = 0 := if_neg (by omega)
    have := loop N 0 (by omega) (fun x hx => absurd hx (Nat.not_lt_zero x))
    rw [e] at this
    exact this
  · have e : rgA w (a : Int) (b : Int) = w - (a : Int) := if_pos g
    have := loop N 0 (by omega) (fun x hx => absurd hx (Nat.not_lt_zero x))
    rw [e] at this
    rw [w32_id (by omega) (by omega)]
    exact this
theorem secondRests_c {w : Int} {a b : Nat} (hw : 0 ≤ w ∧ w ≤ 99) (ha : a < 10) (hb : b < 10) : zC N 1312 [(w, 0), ((a : Int), 0), ((b : Int), 0)] s (fun r => r = ([(if dcP (rOkB w (a : Int) (b : Int)) = true then 1 else 0, 0)], s)) := by
  have loop : ∀ (M k : Nat), k ≤ 10 → (∀ x : Nat, x < k → rgB w (a : Int) ((x : Nat) : Int) ≤ rgB w (a : Int) (b : Int)) → zT (zE 1312) (Pt PX10_secondRests) M (16, [w, (a : Int), (b : Int), rgB w (a : Int) (b : Int), (k : Int)], [], s) (fun r => r = ([(if dcP (rOkB w (a : Int) (b : Int)) = true then 1 else 0, 0)], s)) := by
    intro M
    induction M using Nat.strongRecOn with
    | ind M ih =>
      intro k hk hh
      have nx : rgB w (a : Int) ((k : Nat) : Int) ≤ rgB w (a : Int) (b : Int) → ∀ x : Nat, x < k + 1 → rgB w (a : Int) ((x : Nat) : Int) ≤ rgB w (a : Int) (b : Int) := fun h x hx => by
        by_cases e : x = k
        · rw [e]; exact h
        · exact hh x (by omega)
      have bad : k < 10 → ¬ rgB w (a : Int) ((k : Nat) : Int) ≤ rgB w (a : Int) (b : Int) → ([((0 : Int), 0)], s) = (([(if dcP (rOkB w (a : Int) (b : Int)) = true then 1 else 0, 0)], s) : Zr) := fun h h2 => by
        rw [if_neg (by rw [dcP_no (fun q => h2 (q k h))]; decide)]
      have e1 : (k : Int) ≤ (a : Int) → rgB w (a : Int) ((k : Nat) : Int) = 0 := fun h => if_neg (by omega)
      have e2 : (a : Int) < (k : Int) → rgB w (a : Int) ((k : Nat) : Int) = w - (k : Int) := fun h => if_pos h
      have e3 : k < 10 → w32 (w - (k : Int)) = w - (k : Int) := fun h => w32_id (by omega) (by omega)
      refine b_X10_secondRests_16 _ _ _ _ _ s (fun g => ?_) (fun g g2 g3 m hm => ?_) (fun g g2 g3 => bad (by omega) (by rw [e1 g2]; omega)) (fun g g2 g4 m hm => ?_) (fun g g2 g4 => bad (by omega) (by rw [e3 (by omega)] at g4; rw [e2 g2]; omega))
      · have ek : k = 10 := by omega
        subst ek
        show _ = _
        rw [if_pos (dcP_yes (show rOkB w (a : Int) (b : Int) from hh))]
      · rw [w32_1 (by omega)]
        exact ih m hm (k + 1) (by omega) (nx (by rw [e1 g2]; exact g3))
      · rw [e3 (by omega)] at g4
        rw [w32_1 (by omega)]
        exact ih m hm (k + 1) (by omega) (nx (by rw [e2 g2]; exact g4))
  refine c_X10_secondRests (b_X10_secondRests_0 _ _ _ _ _ s (fun g => ?_) (fun g => ?_))
  · have e : rgB w (a : Int) (b : Int) = 0 := if_neg (by omega)
    have := loop N 0 (by omega) (fun x hx => absurd hx (Nat.not_lt_zero x))
    rw [e] at this
    exact this
  · have e : rgB w (a : Int) (b : Int) = w - (b : Int) := if_pos g
    have := loop N 0 (by omega) (fun x hx => absurd hx (Nat.not_lt_zero x))
    rw [e] at this
    rw [w32_id (by omega) (by omega)]
    exact this
theorem rdiv {k : Nat} (h : k < 100) : zdiv (k : Int) 10 = ((k / 10 : Nat) : Int) := by
  rw [zdiv_pos (by omega) (by omega) (by decide) (by decide)]
  omega
theorem rrem {k : Nat} (h : k < 100) : zrem (k : Int) 10 = ((k % 10 : Nat) : Int) := by
  rw [zrem_pos (by omega) (by omega) (by decide) (by decide)]
  omega
theorem findRest_c {w1 w2 num : Int} (h1 : 0 ≤ w1 ∧ w1 ≤ 99) (h2 : 0 ≤ w2 ∧ w2 ≤ 99) : zC N 1293 [(w1, 0), (w2, 0), (num, 0)] s (fun r => r = ([(rsF w1 w2 num 100 0 0, 0)], s)) := by
  have loop : ∀ (M f k fo : Nat) (x5 x6 : Int), k + f = 100 → fo ≤ k → rsF w1 w2 num 100 0 0 = rsF w1 w2 num f k (fo : Int) → zT (zE 1293) (Pt PX10_findRest) M (5, [w1, w2, num, (fo : Int), (k : Int), x5, x6], [], s) (fun r => r = ([(rsF w1 w2 num 100 0 0, 0)], s)) := by
    intro M
    induction M using Nat.strongRecOn with
    | ind M ih =>
      intro f k fo x5 x6 hf hfo e
      refine b_X10_findRest_5 _ _ _ _ _ _ _ s (fun g h => ?_) (fun g h => ?_) (fun g m hm => ?_)
      · have f0 : f = 0 := by omega
        subst f0
        have e2 : rsF w1 w2 num 0 k (fo : Int) = -1 := if_neg h
        show _ = _
        rw [e, e2]
      · have f0 : f = 0 := by omega
        subst f0
        have e2 : rsF w1 w2 num 0 k (fo : Int) = (fo : Int) := if_pos h
        show _ = _
        rw [e, e2]
      · have hk : k < 100 := by omega
        obtain ⟨f', rfl⟩ : ∃ f', f = f' + 1 := ⟨f - 1, by omega⟩
        rw [rdiv hk, rrem hk]
        refine zC_q (firstRests_c h1 (by omega) (by omega)) (fun r hr => ?_)
        subst hr
        refine b_X10_findRest_34 _ _ _ _ _ _ _ _ s (fun g2 m2 hm2 => ?_) (fun g2 m2 hm2 => ?_)
        · have no : ¬ rsB w1 w2 k = true := fun q => by
            rw [if_pos (dcP_yes (dcP_iff.mp q).1)] at g2
            exact absurd g2 (by decide)
          rw [w32_1 (by omega)]
          exact ih m2 (by omega) f' (k + 1) fo _ _ (by omega) (by omega) (e.trans (rsF_n no))
        · have ok1 : rOkA w1 ((k / 10 : Nat) : Int) ((k % 10 : Nat) : Int) := Classical.byContradiction fun c => g2 (if_neg (by rw [dcP_no c]; decide))
          refine zC_q (secondRests_c h2 (by omega) (by omega)) (fun r hr => ?_)
          subst hr
          refine b_X10_findRest_45 _ _ _ _ _ _ _ _ s (fun g3 m3 hm3 => ?_) (fun g3 g4 m3 hm3 => ?_) (fun g3 g4 => ?_)
          · have no : ¬ rsB w1 w2 k = true := fun q => by
              rw [if_pos (dcP_yes (dcP_iff.mp q).2)] at g3
              exact absurd g3 (by decide)
            rw [w32_1 (by omega)]
            exact ih m3 (by omega) f' (k + 1) fo _ _ (by omega) (by omega) (e.trans (rsF_n no))
          · have ok2 : rOkB w2 ((k / 10 : Nat) : Int) ((k % 10 : Nat) : Int) := Classical.byContradiction fun c => g3 (if_neg (by rw [dcP_no c]; decide))
            have ok : rsB w1 w2 k = true := dcP_yes ⟨ok1, ok2⟩
            rw [w32_1 (k := fo) (by omega), w32_1 (k := k) (by omega)]
            refine ih m3 (by omega) f' (k + 1) (fo + 1) _ _ (by omega) (by omega) ((e.trans (rsF_m ok g4)).trans ?_)
            rw [show ((fo : Nat) : Int) + 1 = ((fo + 1 : Nat) : Int) from by omega]
          · have ok2 : rOkB w2 ((k / 10 : Nat) : Int) ((k % 10 : Nat) : Int) := Classical.byContradiction fun c => g3 (if_neg (by rw [dcP_no c]; decide))
            have ok : rsB w1 w2 k = true := dcP_yes ⟨ok1, ok2⟩
            show _ = _
            rw [e, rsF_y ok g4]
  exact c_X10_findRest (b_X10_findRest_0 _ _ _ _ _ _ _ s (loop N 100 0 0 _ _ (by omega) (by omega) rfl))
/-- what a flight is worth to a hill -/
def woV (D : ZD) (h f : Nat) : Int := if colD D 40 h ≤ colD D 12 f then colD D 41 h else colD D 41 h / 2
theorem wo_col (hw : wD D) (hX : wX D) {h : Nat} (hh : h < cnt D 4) : 0 ≤ colD D 41 h ∧ colD D 41 h ≤ 99 := hX.2.2.2.2.2.2.2.2.2.2 _ (col_mem' hw (k := 4) (j := 1) (by omega) (by omega) (by decide) hh)
theorem woV_b (hw : wD D) (hX : wX D) {h f : Nat} (hh : h < cnt D 4) : 0 ≤ woV D h f ∧ woV D h f ≤ 99 := by
  have b := wo_col hw hX hh
  unfold woV
  split <;> omega
theorem worth_c (ht : t = 7 ∨ t = 43) (hd : cDn s t D) (hw : wD D) (hX : wX D) {h f : Nat} (hh : h < cnt D 4) (hf : f < cnt D 1) : zC N 1044 [(((t : Nat) : Int), 0), ((h : Int), 0), ((f : Int), 0)] s (fun r => r = ([(woV D h f, 0)], s)) := by
  have h10 : cnt D 1 ≤ 10 := hw.1 1 (by omega)
  have h4 : cnt D 4 ≤ 4 := hw.1 4 (by omega)
  have b := wo_col hw hX hh
  have r2 : s (zrho (t + 12) (f : Int).toNat) 2 = colD D 12 f := by rw [Int.toNat_natCast, zrow1 ht (by omega)]; exact cDn_col hd hw (k := 1) (j := 2) (by omega) (by omega) (by decide) hf
  have r0 : s (zrho (t + 28) (h : Int).toNat) 0 = colD D 40 h := by rw [Int.toNat_natCast, zrow4 ht (by omega)]; exact cDn_col hd hw (k := 4) (j := 0) (by omega) (by omega) (by decide) hh
  have r1 : s (zrho (t + 28) (h : Int).toNat) 1 = colD D 41 h := by rw [Int.toNat_natCast, zrow4 ht (by omega)]; exact cDn_col hd hw (k := 4) (j := 1) (by omega) (by omega) (by decide) hh
  refine c_X8_worth (b_X8_worth_0 _ _ _ s ht (fun g => ?_) (fun g => ?_))
  · rw [r0, r2] at g
    show _ = _
    have e : woV D h f = colD D 41 h / 2 := if_neg (by omega)
    rw [r1, e, zdiv_pos (by omega) (by omega) (by decide) (by decide)]
  · rw [r0, r2] at g
    show _ = _
    have e : woV D h f = colD D 41 h := if_pos g
    rw [r1, e]
def rsC (D : ZD) (S : ZS) (x y f : Int) : Prop := 0 ≤ x ∧ x < ((cnt D 4 : Nat) : Int) ∧ 0 ≤ y ∧ y < ((cnt D 4 : Nat) : Int) ∧ x ≠ y ∧ 0 ≤ f ∧ f < ((cnt D 1 : Nat) : Int) ∧ (sTh S).testBit f.toNat = true
/-- the answer of rests; -1: it throws -/
noncomputable def rvV (D : ZD) (S : ZS) (x y f w : Int) : Int := if dcP (rsC D S x y f) = true then rsF (woV D x.toNat f.toNat) (woV D y.toNat f.toNat) w 100 0 0 else -1
theorem rvV_n {x y f w : Int} (h : ¬ rsC D S x y f) : rvV D S x y f w = -1 := if_neg (by rw [dcP_no h]; decide)
theorem rvV_y {x y f w : Int} (h : rsC D S x y f) : rvV D S x y f w = rsF (woV D x.toNat f.toNat) (woV D y.toNat f.toNat) w 100 0 0 := if_pos (dcP_yes h)
def rsQ (D : ZD) (S : ZS) (x y f w : Int) (r : Zr) : Prop := (rvV D S x y f w ≠ -1 → r.1 = [(rvV D S x y f w, 0)]) ∧ (rvV D S x y f w = -1 → r.1 = [])
theorem rests_z (ht : t = 7 ∨ t = 43) (e3 : s 0 3 = ((t : Nat) : Int)) (hd : cDn s t D) (hw : wD D) (hX : wX D) (hS : cSt s 79 D S) (hs : wS D S) {x y f w : Int} : zT (zE 1311) (Pt PX10_restz) N (0, [((0 : Nat) : Int), x, y, f, w, 0], [], s) (rsQ D S x y f w) := by
  have no : ¬ rsC D S x y f → rsQ D S x y f w ([], s) := fun h => ⟨fun q => absurd (rvV_n h) q, fun _ => rfl⟩
  refine b_X10_rests_0 _ _ _ _ _ s ht (fun m _ => ?_)
  rw [e3]
  refine zC_q (has_ok ht hd (k := 4) (by omega)) (fun r hr => ?_)
  subst hr
  refine b_X10_rests_9 _ _ _ _ _ _ s ht (fun g => no (fun q => ?_)) (fun g m2 _ => ?_)
  · rw [if_pos (dcP_yes ⟨q.1, q.2.1⟩)] at g
    exact absurd g (by decide)
  have c1 : 0 ≤ x ∧ x < ((cnt D 4 : Nat) : Int) := Classical.byContradiction fun c => g (if_neg (by rw [dcP_no c]; decide))
  rw [e3]
  refine zC_q (has_ok ht hd (k := 4) (by omega)) (fun r hr => ?_)
  subst hr
  refine b_X10_rests_21 _ _ _ _ _ _ s ht (fun g2 => no (fun q => ?_)) (fun _ g2 => no (fun q => q.2.2.2.2.1 g2)) (fun g2 g3 m3 _ => ?_)
  · rw [if_pos (dcP_yes ⟨q.2.2.1, q.2.2.2.1⟩)] at g2
    exact absurd g2 (by decide)
  have c2 : 0 ≤ y ∧ y < ((cnt D 4 : Nat) : Int) := Classical.byContradiction fun c => g2 (if_neg (by rw [dcP_no c]; decide))
  rw [e3]
  refine zC_q (isThere_ok ht (b := 79) rfl hd hw hS hs) (fun r hr => ?_)
  subst hr
  refine b_X10_rests_41 _ _ _ _ _ _ s ht (fun g4 m4 _ => ?_) (fun g4 => no (fun q => ?_))
  rotate_left
  · rw [if_pos (dcP_yes ⟨q.2.2.2.2.2.1, q.2.2.2.2.2.2.1, q.2.2.2.2.2.2.2⟩)] at g4
    exact absurd g4 (by decide)
  have c3 : 0 ≤ f ∧ f < ((cnt D 1 : Nat) : Int) ∧ (sTh S).testBit f.toNat = true := Classical.byContradiction fun c => g4 (if_neg (by rw [dcP_no c]; decide))
  have can : rsC D S x y f := ⟨c1.1, c1.2, c2.1, c2.2, g3, c3.1, c3.2.1, c3.2.2⟩
  have ev := rvV_y (w := w) can
  obtain ⟨kx, rfl⟩ := Int.eq_ofNat_of_zero_le c1.1
  obtain ⟨ky, rfl⟩ := Int.eq_ofNat_of_zero_le c2.1
  obtain ⟨kf, rfl⟩ := Int.eq_ofNat_of_zero_le c3.1
  rw [Int.toNat_natCast, Int.toNat_natCast, Int.toNat_natCast] at ev
  rw [e3]
  refine zC_q (worth_c ht hd hw hX (by omega) (by omega)) (fun r hr => ?_)
  subst hr
  refine b_X10_rests_64 _ _ _ _ _ _ s ht (fun m5 _ => ?_)
  rw [e3]
  refine zC_q (worth_c ht hd hw hX (by omega) (by omega)) (fun r hr => ?_)
  subst hr
  refine b_X10_rests_73 _ _ _ _ _ _ _ s ht (fun m6 _ => ?_)
  refine zC_q (findRest_c (woV_b hw hX (by omega)) (woV_b hw hX (by omega))) (fun r hr => ?_)
  subst hr
  rw [← ev]
  exact b_X10_rests_78 _ _ _ _ _ _ s ht (fun g5 => ⟨fun _ => rfl, fun q => absurd q g5⟩) (fun g5 => ⟨fun q => absurd g5 q, fun _ => rfl⟩)
/-! the model -/
theorem isRest_m {w1 w2 : Int} {a b : Nat} (h1 : 0 ≤ w1 ∧ w1 ≤ 99) (h2 : 0 ≤ w2 ∧ w2 ≤ 99) (ha : a < 10) (hb : b < 10) : zC N 1454 [(w1, 0), (w2, 0), ((a : Int), 0), ((b : Int), 0)] s (fun r => r = ([(if dcP (rOkA w1 (a : Int) (b : Int) ∧ rOkB w2 (a : Int) (b : Int)) = true then 1 else 0, 0)], s)) := by
  have loop : ∀ (M k : Nat), k ≤ 10 → (∀ x : Nat, x < k → rgA w1 ((x : Nat) : Int) (b : Int) ≤ rgA w1 (a : Int) (b : Int)) → (∀ x : Nat, x < k → rgB w2 (a : Int) ((x : Nat) : Int) ≤ rgB w2 (a : Int) (b : Int)) → zT (zE 1454) (Pt PX11_isRest) M (31, [w1, w2, (a : Int), (b : Int), rgA w1 (a : Int) (b : Int), rgB w2 (a : Int) (b : Int), (k : Int)], [], s) (fun r => r = ([(if dcP (rOkA w1 (a : Int) (b : Int) ∧ rOkB w2 (a : Int) (b : Int)) = true then 1 else 0, 0)], s)) := by
    intro M
    induction M using Nat.strongRecOn with
    | ind M ih =>
      intro k hk hh hg
      have bad : k < 10 → ¬ (rgA w1 ((k : Nat) : Int) (b : Int) ≤ rgA w1 (a : Int) (b : Int) ∧ rgB w2 (a : Int) ((k : Nat) : Int) ≤ rgB w2 (a : Int) (b : Int)) → ([((0 : Int), 0)], s) = (([(if dcP (rOkA w1 (a : Int) (b : Int) ∧ rOkB w2 (a : Int) (b : Int)) = true then 1 else 0, 0)], s) : Zr) := fun h z => by
        rw [if_neg (by rw [dcP_no (fun q => z ⟨q.1 k h, q.2 k h⟩)]; decide)]
      have go : ∀ m, m < M → k < 10 → rgA w1 ((k : Nat) : Int) (b : Int) ≤ rgA w1 (a : Int) (b : Int) → rgB w2 (a : Int) ((k : Nat) : Int) ≤ rgB w2 (a : Int) (b : Int) → zT (zE 1454) (Pt PX11_isRest) m (31, [w1, w2, (a : Int), (b : Int), rgA w1 (a : Int) (b : Int), rgB w2 (a : Int) (b : Int), w32 ((k : Int) + 1)], [], s) (fun r => r = ([(if dcP (rOkA w1 (a : Int) (b : Int) ∧ rOkB w2 (a : Int) (b : Int)) = true then 1 else 0, 0)], s)) := fun m hm hk2 z1 z2 => by
        rw [w32_1 (by omega)]
        refine ih m hm (k + 1) (by omega) (fun x hx => ?_) (fun x hx => ?_)
        · by_cases e : x = k
          · rw [e]; exact z1
          · exact hh x (by omega)
        · by_cases e : x = k
          · rw [e]; exact z2
          · exact hg x (by omega)
      have a1 : (k : Int) < (b : Int) → rgA w1 ((k : Nat) : Int) (b : Int) = 0 := fun h => if_neg (by omega)
      have a2 : (b : Int) ≤ (k : Int) → rgA w1 ((k : Nat) : Int) (b : Int) = w1 - (k : Int) := fun h => if_pos h
      have b1 : (k : Int) ≤ (a : Int) → rgB w2 (a : Int) ((k : Nat) : Int) = 0 := fun h => if_neg (by omega)
      have b2 : (a : Int) < (k : Int) → rgB w2 (a : Int) ((k : Nat) : Int) = w2 - (k : Int) := fun h => if_pos h
      have e1 : k < 10 → w32 (w1 - (k : Int)) = w1 - (k : Int) := fun h => w32_id (by omega) (by omega)
      have e2 : k < 10 → w32 (w2 - (k : Int)) = w2 - (k : Int) := fun h => w32_id (by omega) (by omega)
      refine b_X11_isRest_31 _ _ _ _ _ _ _ s (fun g => ?_) (fun g g2 g3 => bad (by omega) (fun z => by rw [a1 g2] at z; omega)) (fun g g2 g3 g4 g5 m hm => go m hm (by omega) (by rw [a1 g2]; exact g3) (by rw [b1 g4]; exact g5)) (fun g g2 g3 g4 g5 => bad (by omega) (fun z => by rw [b1 g4] at z; omega)) (fun g g2 g3 g4 g6 m hm => go m hm (by omega) (by rw [a1 g2]; exact g3) (by rw [e2 (by omega)] at g6; rw [b2 g4]; exact g6)) (fun g g2 g3 g4 g6 => bad (by omega) (fun z => by rw [e2 (by omega)] at g6; rw [b2 g4] at z; omega)) (fun g g2 g7 => bad (by omega) (fun z => by rw [e1 (by omega)] at g7; rw [a2 g2] at z; omega)) (fun g g2 g7 g8 g9 m hm => go m hm (by omega) (by rw [e1 (by omega)] at g7; rw [a2 g2]; exact g7) (by rw [b1 g8]; exact g9)) (fun g g2 g7 g8 g9 => bad (by omega) (fun z => by rw [b1 g8] at z; omega)) (fun g g2 g7 g8 g10 m hm => go m hm (by omega) (by rw [e1 (by omega)] at g7; rw [a2 g2]; exact g7) (by rw [e2 (by omega)] at g10; rw [b2 g8]; exact g10)) (fun g g2 g7 g8 g10 => bad (by omega) (fun z => by rw [e2 (by omega)] at g10; rw [b2 g8] at z; omega))
      have ek : k = 10 := by omega
      subst ek
      show _ = _
      rw [if_pos (dcP_yes ⟨hh, hg⟩)]
  have z := loop N 0 (by omega) (fun x hx => absurd hx (Nat.not_lt_zero x)) (fun x hx => absurd hx (Nat.not_lt_zero x))
  refine c_X11_isRest (b_X11_isRest_0 _ _ _ _ _ _ _ s (fun g => ?_) (fun g => ?_))
  · have e : rgA w1 (a : Int) (b : Int) = 0 := if_neg (by omega)
    have e' : rgB w2 (a : Int) (b : Int) = w2 - (b : Int) := if_pos g
    rw [e, e'] at z
    rw [w32_id (by omega) (by omega)]
    exact z
  · have e : rgA w1 (a : Int) (b : Int) = w1 - (a : Int) := if_pos g
    have e' : rgB w2 (a : Int) (b : Int) = 0 := if_neg (by omega)
    rw [e, e'] at z
    rw [w32_id (by omega) (by omega)]
    exact z
theorem worthTo_m (hm : mT s D) (hw : wD D) (hX : wX D) {h f : Nat} (hh : h < cnt D 4) (hf : f < cnt D 1) : zC N 1527 [(((172 : Nat) : Int), 0), ((h : Int), 0), ((f : Int), 0)] s (fun r => r = ([(woV D h f, 0)], s)) := by
  have b := wo_col hw hX hh
  have r2 : s 182 (f : Int).toNat = colD D 12 f := by rw [Int.toNat_natCast]; exact mcol hm hw (k := 1) (j := 2) (by omega) (by omega) (by decide) (by decide) hf
  have r0 : s 190 (h : Int).toNat = colD D 40 h := by rw [Int.toNat_natCast]; exact mcol hm hw (k := 4) (j := 0) (by omega) (by omega) (by decide) (by decide) hh
  have r1 : s 191 (h : Int).toNat = colD D 41 h := by rw [Int.toNat_natCast]; exact mcol hm hw (k := 4) (j := 1) (by omega) (by omega) (by decide) (by decide) hh
  refine c_X11_worthTo (b_X11_worthTo_0 _ _ s (fun g => ?_) (fun g => ?_))
  · rw [r0, r2] at g
    show _ = _
    have e : woV D h f = colD D 41 h / 2 := if_neg (by omega)
    rw [r1, e, zdiv_pos (by omega) (by omega) (by decide) (by decide)]
  · rw [r0, r2] at g
    show _ = _
    have e : woV D h f = colD D 41 h := if_pos g
    rw [r1, e]
def rsM (D : ZD) (S : ZS) (x y f w : Int) (r : Zr) : Prop := (rvV D S x y f w ≠ -1 → r.1 = [(rvV D S x y f w, 0)] ∧ r.2 172 0 = 0) ∧ (rvV D S x y f w = -1 → r.2 172 0 = 1)
theorem rests_m (hm : mT s D) (hw : wD D) (hX : wX D) (hS : mSt s 216 0 D S) (hs : wS D S) {x y f w : Int} : zC N 1506 [(((172 : Nat) : Int), 0), (x, 0), (y, 0), (f, 0), (w, 0)] s (rsM D S x y f w) := by
  have h10 : cnt D 1 ≤ 10 := hw.1 1 (by omega)
  have hl := wS_lt hw hs
  have c4 : s 174 4 = ((cnt D 4 : Nat) : Int) := hm.1 4 (by omega)
  have c1 : s 174 1 = ((cnt D 1 : Nat) : Int) := hm.1 1 (by omega)
  have e0 : s 216 0 = ((sTh S : Nat) : Int) := hS.1
  have th : ∀ (v : Int) (s1 : Zs), rvV D S x y f w = -1 → rsM D S x y f w ([(v, 0)], zu s1 172 0 1) := fun v s1 h => ⟨fun q => absurd h q, fun _ => (show zu s1 172 0 1 172 0 = 1 from zu_eq _ _ _ _)⟩
  have no : ∀ (v : Int) (s1 : Zs), ¬ rsC D S x y f → rsM D S x y f w ([(v, 0)], zu s1 172 0 1) := fun v s1 h => th v s1 (rvV_n h)
  refine c_X11_rests (b_X11_rests_0 _ _ _ _ _ _ s (fun g => no _ _ (fun q => by have := q.1; omega)) (fun _ g => no _ _ (fun q => by have := q.2.1; omega)) (fun _ _ g => no _ _ (fun q => by have := q.2.2.1; omega)) (fun _ _ _ g => no _ _ (fun q => by have := q.2.2.2.1; omega)) (fun _ _ _ _ g => no _ _ (fun q => q.2.2.2.2.1 g)) (fun _ _ _ _ _ g => no _ _ (fun q => by have := q.2.2.2.2.2.1; omega)) (fun _ _ _ _ _ _ g => no _ _ (fun q => by have := q.2.2.2.2.2.2.1; omega)) (fun _ _ _ _ _ g6 g7 g => no _ _ (fun q => g ?_)) (fun u1 u2 u3 u4 u5 u6 u7 u8 g => th _ _ ?_) (fun u1 u2 u3 u4 u5 u6 u7 u8 g => ?_))
  · obtain ⟨kf, rfl⟩ := Int.eq_ofNat_of_zero_le g6
    have tb := q.2.2.2.2.2.2.2
    rw [Int.toNat_natCast] at tb
    rw [e0]
    exact (zbit1 (by omega) (by omega)).mpr tb
  all_goals
    rw [c4] at u2 u4
    rw [c1] at u7
    obtain ⟨kx, rfl⟩ := Int.eq_ofNat_of_zero_le u1
    obtain ⟨ky, rfl⟩ := Int.eq_ofNat_of_zero_le u3
    obtain ⟨kf, rfl⟩ := Int.eq_ofNat_of_zero_le u6
    rw [e0] at u8
    have tb : (sTh S).testBit kf = true := (zbit1 (by omega) (by omega)).mp u8
    have can : rsC D S (kx : Int) (ky : Int) (kf : Int) := ⟨u1, u2, u3, u4, u5, u6, u7, by rw [Int.toNat_natCast]; exact tb⟩
    have ev := rvV_y (w := w) can
    rw [Int.toNat_natCast, Int.toNat_natCast, Int.toNat_natCast] at ev
  · have W : ∀ (f k : Nat) (fo : Nat), rsF (woV D kx kf) (woV D ky kf) w f k (fo : Int) = -1 := by
      intro f
      induction f with
      | zero => exact fun k fo => if_neg (by omega)
      | succ f ih =>
        intro k fo
        by_cases c : rsB (woV D kx kf) (woV D ky kf) k = true
        · rw [rsF_m c (by omega), show ((fo : Nat) : Int) + 1 = ((fo + 1 : Nat) : Int) from by omega]
          exact ih _ _
        · rw [rsF_n c]
          exact ih _ _
    rw [ev]
    exact W 100 0 0
  · have m1 : ∀ s1 : Zs, (∀ c j, c ≠ 172 → s1 c j = s c j) → mT s1 D := fun s1 h => mT_e (fun c j a b => h c j (by omega)) hm
    have b1 := woV_b (f := kf) hw hX (h := kx) (by omega)
    have b2 := woV_b (f := kf) hw hX (h := ky) (by omega)
    have loop : ∀ (M f k fo : Nat) (s1 : Zs), (∀ c j, c ≠ 172 → s1 c j = s c j) → s1 172 0 = 0 → k + f = 100 → fo ≤ k → rsF (woV D kx kf) (woV D ky kf) w 100 0 0 = rsF (woV D kx kf) (woV D ky kf) w f k (fo : Int) → zT (zE 1506) (Pt PX11_rests) M (74, [((172 : Nat) : Int), (kx : Int), (ky : Int), (kf : Int), w, (fo : Int), (k : Int)], [], s1) (rsM D S (kx : Int) (ky : Int) (kf : Int) w) := by
      intro M
      induction M using Nat.strongRecOn with
      | ind M ih =>
        intro f k fo s1 f1 z1 hf hfo e
        refine b_X11_rests_74 _ _ _ _ _ _ s1 (fun g1 g2 => ?_) (fun g1 g2 => ?_) (fun g1 m hm' => ?_)
        · have f0 : f = 0 := by omega
          subst f0
          have e2 : rsF (woV D kx kf) (woV D ky kf) w 0 k (fo : Int) = -1 := if_neg g2
          exact th _ _ (by rw [ev, e, e2])
        · have f0 : f = 0 := by omega
          subst f0
          have e2 : rsF (woV D kx kf) (woV D ky kf) w 0 k (fo : Int) = (fo : Int) := if_pos g2
          refine ⟨fun _ => ⟨?_, (show zu s1 172 0 0 172 0 = 0 from zu_eq _ _ _ _)⟩, fun q => ?_⟩
          · rw [ev, e, e2]
          · rw [ev, e, e2] at q
            omega
        · have hk : k < 100 := by omega
          obtain ⟨f', rfl⟩ : ∃ f', f = f' + 1 := ⟨f - 1, by omega⟩
          refine zC_q (worthTo_m (m1 s1 f1) hw hX (h := kx) (f := kf) (by omega) (by omega)) (fun r hr => ?_)
          subst hr
          refine b_X11_rests_87 _ _ _ _ _ _ _ s1 (fun m2 hm2 => ?_)
          refine zC_q (worthTo_m (m1 s1 f1) hw hX (h := ky) (f := kf) (by omega) (by omega)) (fun r hr => ?_)
          subst hr
          refine b_X11_rests_93 _ _ _ _ _ _ _ _ s1 (fun m3 hm3 => ?_)
          rw [rdiv hk, rrem hk]
          refine zC_q (isRest_m b1 b2 (by omega) (by omega)) (fun r hr => ?_)
          subst hr
          refine b_X11_rests_106 _ _ _ _ _ _ _ s1 (fun g2 g3 m4 hm4 => ?_) (fun g2 g3 => ?_) (fun g2 m4 hm4 => ?_)
          · have ok : rsB (woV D kx kf) (woV D ky kf) k = true := dcP_yes (Classical.byContradiction fun c => g2 (if_neg (by rw [dcP_no c]; decide)))
            rw [w32_1 (k := fo) (by omega), w32_1 (k := k) (by omega)]
            refine ih m4 (by omega) f' (k + 1) (fo + 1) s1 f1 z1 (by omega) (by omega) ((e.trans (rsF_m ok g3)).trans ?_)
            rw [show ((fo : Nat) : Int) + 1 = ((fo + 1 : Nat) : Int) from by omega]
          · have ok : rsB (woV D kx kf) (woV D ky kf) k = true := dcP_yes (Classical.byContradiction fun c => g2 (if_neg (by rw [dcP_no c]; decide)))
            refine ⟨fun _ => ⟨?_, z1⟩, fun q => ?_⟩
            · rw [ev, e, rsF_y ok g3]
            · rw [ev, e, rsF_y ok g3] at q
              omega
          · have no2 : ¬ rsB (woV D kx kf) (woV D ky kf) k = true := fun q => by
              have q2 := dcP_iff.mp q
              rw [if_pos (dcP_yes q2)] at g2
              exact absurd g2 (by decide)
            rw [w32_1 (k := k) (by omega)]
            exact ih m4 (by omega) f' (k + 1) fo s1 f1 z1 (by omega) (by omega) (e.trans (rsF_n no2))
    exact loop _ 100 0 0 _ (fun c j a => zu_n (fun q => a q.1)) (zu_eq _ _ _ _) (by omega) (by omega) rfl
end Zrs
/-! the run of the class's rests, up to its throws -/
def rSp (a b : Cf) : Prop := rS 7 a b ∧ ∃ o, Pt PX10_rests a.1 = some o ∧ o.1 ≠ 22
theorem rz_it : ∀ (N : Nat) (a cf : Cf) (Lz : List Int), pm_It rSp N a cf → rl rM.2.2.1 a.2.1 Lz → Kp a.2.2.2 → ∃ Lz', ∃ K, ∀ n p, zgo n (zE 1311) (Pt PX10_restz) (cf.1, Lz', cf.2.2.1.map zvl, zH cf.2.2.2) = some p → zgo (n + K) (zE 1311) (Pt PX10_restz) (a.1, Lz, a.2.2.1.map zvl, zH a.2.2.2) = some p
  | 0, a, cf, Lz, hit, hl, hk => by
    have hit : a = cf := hit
    subst hit
    exact ⟨Lz, 0, fun n p h => h⟩
  | N + 1, a, cf, Lz, hit, hl, hk => by
    obtain ⟨c, ⟨hs, o, ho, h22⟩, hit⟩ := hit
    obtain ⟨ins, len, hd, hr⟩ := Pck_ok PX10_rests_ok a.1 o ho
    have hsn : zSn 1311 o rM.2.2.1 a c Lz := by
      rcases hs with hs | hs
      · unfold pm_sem at hs
        rw [hd] at hs
        exact zSn_of (zst_ok (show zLk rM.2.2.2.2.1 from zlk_ok 10 (by decide)) hl hk hr hs)
      · exact zs_c (me := rM) (fun k' av h r h' he hz hk => zrun_ok 7 k' av h r h' he hz hk) (fun h23 => rests_cl ho h23) hl hk hd hr hs
    obtain ⟨Lz', q1, q2, q3, n0, q4⟩ := hsn
    obtain ⟨Lz2, K, r3⟩ := rz_it N c cf Lz' hit q1 q2
    refine ⟨Lz2, K + n0 + 1, fun n p h => ?_⟩
    have h2 := r3 n p h
    rw [show n + (K + n0 + 1) = (n + K + n0) + 1 from by omega]
    unfold zgo
    dsimp only
    rw [restz_ok ho]
    dsimp only
    rw [q4 (n + K + n0) (by omega)]
    exact zgo_le h2 (by omega)
section Rw
variable {p : Program} {l : Launch} {e : Env} {R : Room} {s : State} {m : MethodId} {args : Array Value} {below : List Frame} {meth : Method} {c : Code} {Q : State → Prop}
variable {g : va_G} {aC : Nat → ClassId} {aM : Nat → Nat} {A : Nat → Prop} {ad : Nat → Nat}
theorem rw_it (hRR : 7 + 1 ≤ R.frames ∧ 60 * (7 + 1) ≤ R.locals) (had : pm_ad aM ad) (F : Fx p s m args c rM.2.1 rM.2.2.1 rM.1.cls g aC aM A) : ∀ (N : Nat) (a cf : Cf), pm_It rSp N a cf → pm_W p l e R s m args below meth c Q g aC A ad 229 rM.2.2.1 cf → pm_W p l e R s m args below meth c Q g aC A ad 229 rM.2.2.1 a
  | 0, a, cf, hit, kk => by
    have hit : a = cf := hit
    subst hit
    exact kk
  | N + 1, a, cf, hit, kk => by
    obtain ⟨b, hs, hit⟩ := hit
    exact rS_ok hRR had F hs.1 (rw_it hRR had F N b cf hit kk)
end Rw
theorem rp_ok {h : Ph} (hi : hI HTw RGw 229 h) (y1 y2 y3 y4 : Int32) : ∃ (N : Nat) (cf' : Cf), pm_It rSp N (0, lv_args 0 [.ref 0, .int y1, .int y2, .int y3, .int y4], [], h) cf' ∧ ∃ cu ∈ [(rC 44, ([] : Rk)), (rC 86, []), (rC99, [])], ∃ vs', ga HTw RGw 229 [] h vs' cu.1.1 cf' := by
  refine rn_to (vs0 := [0, y1.toInt, y2.toInt, y3.toInt, y4.toInt]) (h0 := h) (md := []) (S := rSp) (Q := fun cf => ∃ (N : Nat) (cf' : Cf), pm_It rSp N cf cf' ∧ ∃ cu ∈ [(rC 44, ([] : Rk)), (rC 86, []), (rC99, [])], ∃ vs', ga HTw RGw 229 [] h vs' cu.1.1 cf') (fun a b hab kb => ?_) (fun o A Bs vs cf gA ho h22 hx => ?_) (fun cu hc2 vs' cf' g' hp' => ⟨0, cf', rfl, cu, hc2, vs', g'⟩) 200 rA0 [0, y1.toInt, y2.toInt, y3.toInt, y4.toInt] _ ⟨rfl, gl_cons rfl gvR (gl_cons rfl (gvI rfl) (gl_cons rfl (gvI rfl) (gl_cons rfl (gvI rfl) (gl_cons rfl (gvI rfl) gl_nil)))), trivial, gsA ⟨i32 y1, i32 y2, i32 y3, i32 y4, trivial⟩, fun q hq => (by cases hq), hi, fun c j _ => rfl⟩ ⟨[], rfl⟩ rK_ok
  · obtain ⟨N, cf', it, r⟩ := kb
    exact ⟨N + 1, cf', ⟨b, hab, it⟩, r⟩
  · obtain ⟨cf', w1, w2⟩ := r_nx (d := 7) (by decide) o A Bs vs cf gA ho h22 hx
    exact ⟨cf', ⟨w1, o, by rw [gA.1]; exact ho, h22⟩, w2⟩
theorem zgo_r2 {pc : Nat} {L : List Int} {st : List Zv} {z : Zs} (h : Pt PX10_restz pc = some (22, 0, 2, 0, 0, [])) : zgo 1 (zE 1311) (Pt PX10_restz) (pc, L, st, z) = some ([], z) := by
  unfold zgo
  dsimp only
  rw [h]
  rfl
theorem zgo_r0 {pc : Nat} {L : List Int} {x : Zv} {st : List Zv} {z : Zs} (h : Pt PX10_restz pc = some (22, 0, 0, 0, 0, [])) : zgo 1 (zE 1311) (Pt PX10_restz) (pc, L, x :: st, z) = some ([x], z) := by
  unfold zgo
  dsimp only
  rw [h]
  rfl
theorem rz_end {t : Nat} {D : ZD} {S : ZS} {h : Ph} {y1 y2 y3 y4 : Int32} {N : Nat} {cf : Cf} (kp : Kp h) (ht : t = 7 ∨ t = 43) (e3 : zH h 0 3 = ((t : Nat) : Int)) (hd : cDn (zH h) t D) (hw : wD D) (hX : wX D) (hS : cSt (zH h) 79 D S) (hs : wS D S) (hit : pm_It rSp N (0, lv_args 0 [.ref 0, .int y1, .int y2, .int y3, .int y4], [], h) cf) : (cf.1 = 44 ∨ cf.1 = 86 → rvV D S y1.toInt y2.toInt y3.toInt y4.toInt = -1) ∧ (cf.1 = 99 → ∀ v us, cf.2.2.1 = .int v :: us → rvV D S y1.toInt y2.toInt y3.toInt y4.toInt = v.toInt ∧ v.toInt ≠ -1) := by
  have z := zlo_ok [.ref 0, .int y1, .int y2, .int y3, .int y4] 0 rM.2.2.1 (Nat.le_of_ble_eq_true rfl)
  obtain ⟨Lz', K, r3⟩ := rz_it N _ cf (zlo rM.2.2.1 ([Value.ref 0, .int y1, .int y2, .int y3, .int y4].map zvl)) hit ⟨z.1, fun q hq => (z.2 q hq).2⟩ kp
  have rz : ∀ n p, zgo n (zE 1311) (Pt PX10_restz) (cf.1, Lz', cf.2.2.1.map zvl, zH cf.2.2.2) = some p → rsQ D S y1.toInt y2.toInt y3.toInt y4.toInt p := fun n p hp => rests_z (N := n + K) ht e3 hd hw hX hS hs (n + K) p (Nat.le_refl _) (r3 n p hp)
  obtain ⟨pc, lo, st, h'⟩ := cf
  refine ⟨fun q => ?_, fun q v us es => ?_⟩
  · have e : ∃ p : Zr, zgo 1 (zE 1311) (Pt PX10_restz) (pc, Lz', st.map zvl, zH h') = some p ∧ p.1 = [] := by
      rcases q with q | q
      · have q : pc = 44 := q
        subst q
        exact ⟨([], zH h'), zgo_r2 rfl, rfl⟩
      · have q : pc = 86 := q
        subst q
        exact ⟨([], zH h'), zgo_r2 rfl, rfl⟩
    obtain ⟨p, e1, e2⟩ := e
    have r := (rz 1 p e1).1
    exact Decidable.byContradiction fun c => by
      have := r c
      rw [e2] at this
      cases this
  · have q : pc = 99 := q
    subst q
    have es : st = .int v :: us := es
    subst es
    have r := rz 1 ([(v.toInt, 0)], zH h') (zgo_r0 (show Pt PX10_restz 99 = some (22, 0, 0, 0, 0, []) from eq_of_beq (by decide +kernel)))
    have ne : rvV D S y1.toInt y2.toInt y3.toInt y4.toInt ≠ -1 := fun c => by
      have := r.2 c
      cases this
    have e : [(v.toInt, 0)] = [(rvV D S y1.toInt y2.toInt y3.toInt y4.toInt, 0)] := r.1 ne
    have e : v.toInt = rvV D S y1.toInt y2.toInt y3.toInt y4.toInt := (Prod.mk.inj (List.cons.inj e).1).1
    exact ⟨e.symm, by rw [e]; exact ne⟩
/-- the class's rests: it answers, or throws -/
def CtX3 (l : Launch) (g : va_G) (aC : Nat → ClassId) (aM ad : Nat → Nat) (av : List Value) (h : Ph) (J1 : Int32 → Ph → Prop) (J0 : Ph → Prop) : Prop :=
  ∀ sz : Nat, vx_Met l yX10_rests (uw yX10_rests cX10_rests 6 (some .int)) (rmL 8 1 6) (va_Pc av (PrX g aC aM (pm_w aC ad 229 h) sz)) (QI g J1 (fun h' => pm_w aC ad 229 h') (va_A (pm_w aC ad 229 h) sz)) (vx_X J0 (fun E h' t => E = NSE ∧ va_P g vwCl (pm_w aC ad 229 h') t.heap ∧ va_D (va_A (pm_w aC ad 229 h) sz) (pm_w aC ad 229 h')) (va_A (pm_w aC ad 229 h) sz)) 1 6 (va_A (pm_w aC ad 229 h) sz)
def CtR3 (l : Launch) (g : va_G) (aC : Nat → ClassId) (aM ad : Nat → Nat) (av : List Value) (oa : Nat) (fo : Nat → Int64) (h : Ph) (J1 : Int32 → Ph → Prop) (J0 : Ph → Prop) : Prop :=
  ∀ sz : Nat, vx_Met l yL_rests uwR (rmL 9 1 6) (va_Pc av (PrX g aC aM (wO aC ad oa fo h) sz)) (QI g (fun (r : Int32) (u : Ph × (Nat → Int64)) => (r = 1 ∧ J0 u.1) ∨ (r = 0 ∧ ∃ v, J1 v u.1 ∧ u.2 0 = v.toInt64)) (fun u => wO aC ad oa u.2 u.1) (va_A (wO aC ad oa fo h) sz)) (vx_X (fun _ : Unit => False) (fun _ _ _ => True) (va_A (wO aC ad oa fo h) sz)) 1 6 (va_A (wO aC ad oa fo h) sz)
set_option maxHeartbeats 4000000 in
theorem x_rests3 (l : Launch) (hst : l.stackTraces = false) (g : va_G) (aC : Nat → ClassId) (aM ad : Nat → Nat) (had : pm_ad aM ad) {h : Ph} {J : Ph → Prop} (hi : hI HTw RGw 229 h) (hJ : ∀ h', hI HTw RGw 229 h' → fr [] h h' → J h') (y1 y2 y3 y4 : Int32) (kp : Kp h) {t : Nat} {D : ZD} {S : ZS} (ht : t = 7 ∨ t = 43) (e3 : zH h 0 3 = ((t : Nat) : Int)) (hd' : cDn (zH h) t D) (hw : wD D) (hX' : wX D) (hS' : cSt (zH h) 79 D S) (hs' : wS D S) : CtX3 l g aC aM ad [.ref (ad 0), .int y1, .int y2, .int y3, .int y4] h (fun (v : Int32) (h' : Ph) => J h' ∧ rvV D S y1.toInt y2.toInt y3.toInt y4.toInt = v.toInt ∧ v.toInt ≠ -1) (fun (h' : Ph) => J h' ∧ rvV D S y1.toInt y2.toInt y3.toInt y4.toInt = -1) := by
  intro sz
  refine vx_ofW (cc := cX10_rests) (maxL := 6) (ret := some .int) (by decide) rfl ?_
  intro p e s m args below meth c s₁ B hml htab hv
  obtain ⟨rfl, ⟨hsz, hP, hK, hD0, hM, hM2⟩, hAX, hAB⟩ := hv
  have hts0 := atoms_spec (ws := uw yX10_rests cX10_rests 6 (some .int)) B.pre
  have hts : ∀ w ∈ gw, w.before _ s = true := fun w h => hts0 w (List.mem_cons_of_mem _ h)
  subst hsz
  have hl := lv_entry [.ref (ad 0), .int y1, .int y2, .int y3, .int y4] (n := 6) (Nat.le_of_ble_eq_true rfl)
  rw [lg_entry_eq]
  generalize (lg_sl [.ref (ad 0), .int y1, .int y2, .int y3, .int y4] ++ List.replicate (6 - (lg_sl [.ref (ad 0), .int y1, .int y2, .int y3, .int y4]).length) Slot.unset).toArray = ls at hl ⊢
  have hx := B.exec
  have hb := B.bytes
  have hr := B.returns
  have hlk := B.notSynchronized
  have hown : s.vm.findClass RX10 = some m.cls := findClass_of_methodNamed B.named
  have hD := hD0.self (sz := s.heap.size)
  have hA : ∀ q, s.heap.size ≤ q → va_A (pm_w aC ad 229 h) s.heap.size q := fun q h => Or.inr h
  generalize va_A (pm_w aC ad 229 h) s.heap.size = A at hD hA hM hAX ⊢
  have hS : va_S A s.heap s.heap [] := va_S.rf
  have F : Fx p s m _ c cX10_rests 6 RX10 g aC aM A := ⟨hx, hb, hml, hown, hts, hK, hA, hM, hM2⟩
  have hl : lv_has ls 6 (pm_l ad (lv_args 0 [.ref 0, .int y1, .int y2, .int y3, .int y4])) := hl
  have hat : ∀ w ∈ xt_at RX10 275 NSE 13 rxN sup2, w.before _ s = true := vx_hat (L := atR) (B := BB) (fun w h => hts w (atR_in w h)) (fun _ h => h) (fun w h => (hAB w h).use (BB_on w h))
  have main : pm_W p l e (rmL 8 1 6) s m #[.ref (ad 0), .int y1, .int y2, .int y3, .int y4] below meth c (vx_MQ below (QI g (fun (v : Int32) (h' : Ph) => J h' ∧ rvV D S y1.toInt y2.toInt y3.toInt y4.toInt = v.toInt ∧ v.toInt ≠ -1) (fun h' => pm_w aC ad 229 h') A) (vx_X (fun (h' : Ph) => J h' ∧ rvV D S y1.toInt y2.toInt y3.toInt y4.toInt = -1) (fun E h' t => E = NSE ∧ va_P g vwCl (pm_w aC ad 229 h') t.heap ∧ va_D A (pm_w aC ad 229 h')) A) #[.ref (ad 0), .int y1, .int y2, .int y3, .int y4] s 1 6 A) g aC A ad 229 6 (0, lv_args 0 [.ref 0, .int y1, .int y2, .int y3, .int y4], [], h) := by
    obtain ⟨N, cf', hit, cu, hc2, vs', g'⟩ := rp_ok hi y1 y2 y3 y4
    have zE := rz_end kp ht e3 hd' hw hX' hS' hs' hit
    refine rw_it ⟨Nat.le_of_ble_eq_true rfl, Nat.le_of_ble_eq_true rfl⟩ had F N _ cf' hit ?_
    simp only [List.mem_cons, List.not_mem_nil, or_false] at hc2
    intro H locs ls hP hD hS hl
    rcases hc2 with rfl | rfl | rfl
    · obtain ⟨p0, p1, p2, p3, p4, p5, p6⟩ := g'
      rw [gst_nil p2, show cf'.1 = 44 from p0]
      exact xt_throw (mc := 1) (ms := 6) (cls := NSE) (names := sup2) (rx := rxN) hx hb hst (by decide +kernel) (by decide +kernel) (by decide +kernel) (by decide +kernel) hown (by decide +kernel) (by decide +kernel) (hts _ rx1) (hts _ rx2) (hM2.2.2.2.2.2 4 (by decide)) hat (by decide +kernel) hAX.1 hAX.2 hS (hl.1.trans hml.symm) drX_44 drX_47 drX_48 drX_51 drX_54 (fun x h => (htab x h).elim) (by decide) (Nat.le_of_ble_eq_true rfl) (Nat.le_of_ble_eq_true rfl) (Nat.le_of_ble_eq_true rfl) hlk (fun t _ h1 h2 => ⟨cf'.2.2.2, ⟨hJ _ p5 p6, zE.1 (Or.inl p0)⟩, ⟨rfl, pP_new hP h2, hD⟩, Nat.le_trans hS.1 h1, fun q hq hA9 => (h2 q (Nat.lt_of_lt_of_le hq hS.1)).trans (hS.2.1 q hq hA9)⟩) hS.2.2 (Nat.le_of_ble_eq_true rfl) (Nat.le_of_ble_eq_true rfl)
    · obtain ⟨p0, p1, p2, p3, p4, p5, p6⟩ := g'
      rw [gst_nil p2, show cf'.1 = 86 from p0]
      exact xt_throw (mc := 1) (ms := 6) (cls := NSE) (names := sup2) (rx := rxN) hx hb hst (by decide +kernel) (by decide +kernel) (by decide +kernel) (by decide +kernel) hown (by decide +kernel) (by decide +kernel) (hts _ rx1) (hts _ rx2) (hM2.2.2.2.2.2 5 (by decide)) hat (by decide +kernel) hAX.1 hAX.2 hS (hl.1.trans hml.symm) drX_86 drX_89 drX_90 drX_93 drX_96 (fun x h => (htab x h).elim) (by decide) (Nat.le_of_ble_eq_true rfl) (Nat.le_of_ble_eq_true rfl) (Nat.le_of_ble_eq_true rfl) hlk (fun t _ h1 h2 => ⟨cf'.2.2.2, ⟨hJ _ p5 p6, zE.1 (Or.inr p0)⟩, ⟨rfl, pP_new hP h2, hD⟩, Nat.le_trans hS.1 h1, fun q hq hA9 => (h2 q (Nat.lt_of_lt_of_le hq hS.1)).trans (hS.2.1 q hq hA9)⟩) hS.2.2 (Nat.le_of_ble_eq_true rfl) (Nat.le_of_ble_eq_true rfl)
    · obtain ⟨p0, p1, p2, p3, p4, p5, p6⟩ := g'
      obtain ⟨v, us, e5, e6, e7⟩ := gst_cons p2
      have := gst_nil e7
      subst this
      obtain ⟨y, w, rfl, z1, z2⟩ := gv_int e6 rfl
      rw [e5, show cf'.1 = 99 from p0]
      refine vx_ret ?_
      have zr := zE.2 p0 y _ e5
      exact rI (post := (fun (v : Int32) (h' : Ph) => J h' ∧ rvV D S y1.toInt y2.toInt y3.toInt y4.toInt = v.toInt ∧ v.toInt ≠ -1)) (w1 := fun h' => pm_w aC ad 229 h') cf'.2.2.2 hx hb hr hlk rfl hS ⟨hJ _ p5 p6, zr⟩ hP hD (Nat.le_of_ble_eq_true rfl) (Nat.le_of_ble_eq_true rfl) drX_99
  exact main s.heap [] ls hP hD hS hl
set_option maxHeartbeats 4000000 in
theorem l_rests3 (l : Launch) (hst : l.stackTraces = false) (g : va_G) (aC : Nat → ClassId) (aM ad : Nat → Nat) (had : pm_ad aM ad) {h : Ph} {J : Ph → Prop} (hi : hI HTw RGw 229 h) (hJ : ∀ h', hI HTw RGw 229 h' → fr [] h h' → J h') (oa : Nat) (fo : Nat → Int64) (y1 y2 y3 y4 : Int32) (kp : Kp h) {t : Nat} {D : ZD} {S : ZS} (ht : t = 7 ∨ t = 43) (e3 : zH h 0 3 = ((t : Nat) : Int)) (hd' : cDn (zH h) t D) (hw : wD D) (hX' : wX D) (hS' : cSt (zH h) 79 D S) (hs' : wS D S) : CtR3 l g aC aM ad [.ref (ad 0), .int y1, .int y2, .int y3, .int y4, .ref oa] oa fo h (fun (v : Int32) (h' : Ph) => J h' ∧ rvV D S y1.toInt y2.toInt y3.toInt y4.toInt = v.toInt ∧ v.toInt ≠ -1) (fun (h' : Ph) => J h' ∧ rvV D S y1.toInt y2.toInt y3.toInt y4.toInt = -1) := by
  intro sz
  refine vx_ofWH (cc := cL_rests) (maxL := 7) (ret := some .int) (hh := hhR) (by decide) rfl ?_
  intro p e s m args below meth c s₁ B hml hv
  obtain ⟨rfl, ⟨hsz, hP, hK, hD0, hM, hM2⟩, hAX, hAB⟩ := hv
  have hts0 := atoms_spec (ws := uwR) B.pre
  have hts : ∀ w ∈ gw, w.before _ s = true := fun w h => hts0 w (List.mem_cons_of_mem _ h)
  have htab := vx_table (x := yL_rests) B (hts0 _ List.mem_cons_self)
  subst hsz
  have hl := lv_entry [.ref (ad 0), .int y1, .int y2, .int y3, .int y4, .ref oa] (n := 7) (Nat.le_of_ble_eq_true rfl)
  rw [lg_entry_eq]
  generalize (lg_sl [.ref (ad 0), .int y1, .int y2, .int y3, .int y4, .ref oa] ++ List.replicate (7 - (lg_sl [.ref (ad 0), .int y1, .int y2, .int y3, .int y4, .ref oa]).length) Slot.unset).toArray = ls at hl ⊢
  have hx := B.exec
  have hb := B.bytes
  have hr := B.returns
  have hlk := B.notSynchronized
  have hown : s.vm.findClass RL = some m.cls := findClass_of_methodNamed B.named
  have hD := hD0.self (sz := s.heap.size)
  have hA : ∀ q, s.heap.size ≤ q → va_A (wO aC ad oa fo h) s.heap.size q := fun q h => Or.inr h
  generalize hAe : va_A (wO aC ad oa fo h) s.heap.size = A at hD hA hM hAX ⊢
  have hS : va_S A s.heap s.heap [] := va_S.rf
  have F : Fx p s m _ c cL_rests 7 RL g aC aM A := ⟨hx, hb, hml, hown, hts, hK, hA, hM, hM2⟩
  have hl : lv_has ls 7 [(0, .ref (ad 0)), (1, .int y1), (2, .int y2), (3, .int y3), (4, .int y4), (5, .ref oa)] := hl
  refine lv_aload hx hb dL_rests_0 (lv_at hl 5 rfl) ?_
  refine lv_iconst (v := 0) hx hb dL_rests_2 (by decide) ?_
  refine lv_aload_n hx hb dL_rests_3 rfl (lv_at hl 0 rfl) ?_
  refine lv_iload_n hx hb dL_rests_4 rfl (lv_at hl 1 rfl) ?_
  refine lv_iload_n hx hb dL_rests_5 rfl (lv_at hl 2 rfl) ?_
  refine lv_iload_n hx hb dL_rests_6 rfl (lv_at hl 3 rfl) ?_
  refine lv_iload hx hb dL_rests_7 (lv_at hl 4 rfl) ?_
  have hG : GoodIn gw (wsV RL 7 RX10 yX10_rests (uw yX10_rests cX10_rests 6 (some .int))) := fun w hw => by
    rcases List.mem_append.mp hw with h | h
    · have hm : w ∈ gw := by
        simp only [List.mem_cons, List.not_mem_nil, or_false] at h
        rcases h with h | h | h | h
        · rw [h]; exact rl2
        · rw [h]; exact rl3
        · rw [h]; exact rl4
        · rw [h]; exact rl6
      exact ⟨hm, good_of_word (List.all_eq_true.mp lw_good w hm)⟩
    · exact uw_good rl5 w h
  have hF := va_free (wc := pm_w aC ad 229 h) hD hS hA rg1 rg1_C
  obtain ⟨fs, hfs, -⟩ : ∃ fs, h 0 = .inr (10, fs) ∧ fs.length = 16 := (hi.1 0 (by decide)).2.1
  have h0 : (wO aC ad oa fo h)[1]? = some (ad 0, .inr (10, fs.map (pm_v ad))) := by
    show (pm_w aC ad 229 h)[0]? = _
    rw [pm_at (by decide), hfs]
    rfl
  have hrun := vx_runV (e := e) (below := below) (meth := meth) (R := (headSpec uwR (rmL 9 1 6)).room) (cells := 0) (slots := 0) (locs := []) (g := F0 m 9 ls [.int y4, .int y3, .int y2, .int y1, .ref (ad 0), .int 0, .ref oa]) (As := [.int y1, .int y2, .int y3, .int y4]) (rest := [.int 0, .ref oa]) (C := RX10) (Ts := gw) (own := RL) (n := 4) ⟨hx, hb, hml, hown, hts⟩ (x_rests3 l hst g aC aM ad had hi hJ y1 y2 y3 y4 kp ht e3 hd' hw hX' hS' hs' s.heap.size) (cwV 4 hts hG rfl rfl rfl (by decide +kernel) ⟨Nat.le_of_ble_eq_true rfl, Nat.le_of_ble_eq_true rfl⟩) ⟨PrX.blind, va_recv hK hP (ci := 10) (q0 := 1) rfl h0, preX_of F hAX hAB hP hD hS rg1 rg1_nd rg1_C⟩ rfl rfl hl.1 rfl (lv_room (Nat.le_of_ble_eq_true rfl)) dL_rests_9 ⟨Nat.le_of_ble_eq_true rfl, Nat.le_of_ble_eq_true rfl⟩
  refine vx_calli hrun hS (fun q _ h => hF q h) hF (fun q _ h => hF q h) (fun E ce q9 u t H1 locs1 ht hvm hp hB hz1 hk1 hS1 hce hcv hcl => ?_) (fun r u t H1 locs1 ht hvm hw hB hz1 hk1 hS1 => ?_)
  · obtain ⟨hE, hP1, hD1⟩ := hB
    subst hE
    rw [ht] at hP1
    obtain ⟨hP2, hD2⟩ := va_join (wr := [oC aC oa fo]) (w1 := pm_w aC ad 229 u) hP hD rg1 [0] rg1_C rg1_R rfl rg1_dis hk1 hF hP1 hD1
    refine vx_catch (name := NSE) hown [] ⟨0, 14, 17, 13⟩ [] htab (fun z h => absurd h List.not_mem_nil) (by decide) (by decide) (hts _ rl1) ((hAB (.castable NSE NSE) (by decide +kernel)).use rfl) hce hcv hcl ?_
    refine lv_astore (lv' := [(6, .ref q9), (0, .ref (ad 0)), (1, .int y1), (2, .int y2), (3, .int y3), (4, .int y4), (5, .ref oa)]) hx hb dL_rests_17 hl (by decide) rfl (fun ls hl => ?_)
    refine lv_iconst (v := 1) hx hb dL_rests_19 (by decide) ?_
    refine vx_ret ?_
    exact rI (post := fun (r : Int32) (u : Ph × (Nat → Int64)) => (r = 1 ∧ (fun (h' : Ph) => J h' ∧ rvV D S y1.toInt y2.toInt y3.toInt y4.toInt = -1) u.1) ∨ (r = 0 ∧ ∃ v, (fun (v : Int32) (h' : Ph) => J h' ∧ rvV D S y1.toInt y2.toInt y3.toInt y4.toInt = v.toInt ∧ v.toInt ≠ -1) v u.1 ∧ u.2 0 = v.toInt64)) (w1 := fun u => wO aC ad oa u.2 u.1) (u, fo) hx hb hr hlk rfl hS1 (Or.inl ⟨rfl, hp⟩) hP2 hD2 (Nat.le_of_ble_eq_true rfl) (Nat.le_of_ble_eq_true rfl) dL_rests_20
  · obtain ⟨hP1, hD1⟩ := hB
    rw [ht] at hP1
    obtain ⟨hP2, hD2⟩ := va_join (wr := [oC aC oa fo]) (w1 := pm_w aC ad 229 u) hP hD rg1 [0] rg1_C rg1_R rfl rg1_dis hk1 hF hP1 hD1
    refine lv_i2l hx hb dL_rests_12 rfl ?_
    refine xlst F hP2 hD2 hS1 0 rfl 0 (by decide +kernel) (by decide +kernel) (by decide) rfl dL_rests_13 (fun H2 locs2 hP3 hD3 hS3 => ?_)
    refine lv_goto (tgt := 21) hx hb dL_rests_14 (by decide) ?_
    refine lv_iconst (v := 0) hx hb dL_rests_21 (by decide) ?_
    refine vx_ret ?_
    exact rI (post := fun (r : Int32) (u : Ph × (Nat → Int64)) => (r = 1 ∧ (fun (h' : Ph) => J h' ∧ rvV D S y1.toInt y2.toInt y3.toInt y4.toInt = -1) u.1) ∨ (r = 0 ∧ ∃ v, (fun (v : Int32) (h' : Ph) => J h' ∧ rvV D S y1.toInt y2.toInt y3.toInt y4.toInt = v.toInt ∧ v.toInt ≠ -1) v u.1 ∧ u.2 0 = v.toInt64)) (w1 := fun u => wO aC ad oa u.2 u.1) (u, vp_updL fo 0 r.toInt64) hx hb hr hlk rfl hS3 (Or.inr ⟨rfl, _, hw, rfl⟩) hP3 hD3 (Nat.le_of_ble_eq_true rfl) (Nat.le_of_ble_eq_true rfl) dL_rests_22
