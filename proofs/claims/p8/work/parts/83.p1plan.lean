/-! plan, thefts -/
theorem b_X10_plan_0 {n : Nat} {Q : Zr → Prop} {t : Nat} (x1 x2 x3 x4 x5 : Int) (s : Zs) (ht : t = 7 ∨ t = 43)
    (h0 : ∀ (g1 : x1 < 0), Q ([((-1), 0)], s))
    (h1 : ∀ (g1 : 0 ≤ x1), ∀ (g2 : x1 ≤ 1), ∀ m, m < n → zC m 1292 [(((0 : Nat) : Int), 0), (((79 : Nat) : Int), 0)] s (fun p => zT (zE 1308) (Pt PX10_plan) m (19, [((0 : Nat) : Int), x1, x2, x3, x4, x5], p.1 ++ [], p.2) Q))
    (h2 : ∀ (g1 : 0 ≤ x1), ∀ (g2 : 1 < x1), Q ([((-1), 0)], s)) : zT (zE 1308) (Pt PX10_plan) n (0, [((0 : Nat) : Int), x1, x2, x3, x4, x5], [], s) Q := by
  refine tL x1 0 rfl rfl rfl ?_
  refine tI2 rfl (fun g1 _ l1 => zT_le ?_ (Nat.le_of_lt l1)) (fun g1 _ l1 => zT_le ?_ (Nat.le_of_lt l1))
  · refine tK rfl ?_
    exact tR rfl (h0 g1)
  · refine tL x1 0 rfl rfl rfl ?_
    refine tK rfl ?_
    refine tJ5 rfl (fun g2 _ l2 => zT_le ?_ (Nat.le_of_lt l2)) (fun g2 _ l2 => zT_le ?_ (Nat.le_of_lt l2))
    · refine tL ((0 : Nat) : Int) 0 rfl rfl rfl ?_
      refine tL ((0 : Nat) : Int) 0 rfl rfl rfl ?_
      refine tFR (c := 0) 79 rfl rfl rfl rfl rfl ?_
      exact tCall [(((0 : Nat) : Int), 0), (((79 : Nat) : Int), 0)] [] rfl rfl rfl (fun m l => h1 g1 g2 m (Nat.lt_of_lt_of_le l (Nat.le_refl n)))
    · refine tK rfl ?_
      exact tR rfl (h2 g1 g2)

theorem b_X10_plan_26 {n : Nat} {Q : Zr → Prop} {t : Nat} (x1 x2 x3 x4 x5 : Int) (s : Zs) (ht : t = 7 ∨ t = 43)
    (h0 : ∀ m, m < n → zC m 1026 [(s 0 3, 0)] s (fun p => zT (zE 1308) (Pt PX10_plan) m (35, [((0 : Nat) : Int), x1, x2, x3, x4, x5], p.1 ++ [(x4, 0)], p.2) Q)) : zT (zE 1308) (Pt PX10_plan) n (26, [((0 : Nat) : Int), x1, x2, x3, x4, x5], [], s) Q := by
  refine tL x4 0 rfl rfl rfl ?_
  refine tL ((0 : Nat) : Int) 0 rfl rfl rfl ?_
  refine tFv (c := 0) (s 0 3) 0 rfl rfl rfl rfl rfl ?_
  exact tCall [(s 0 3, 0)] [(x4, 0)] rfl rfl rfl (fun m l => h0 m (Nat.lt_of_lt_of_le l (Nat.le_refl n)))

theorem b_X10_plan_19 {n : Nat} {Q : Zr → Prop} {t : Nat} (x1 x2 x3 x4 x5 : Int) (s : Zs) (ht : t = 7 ∨ t = 43)
    (h0 : zT (zE 1308) (Pt PX10_plan) n (26, [((0 : Nat) : Int), x1, (-1), (-1), 0, x5], [], s) Q) : zT (zE 1308) (Pt PX10_plan) n (19, [((0 : Nat) : Int), x1, x2, x3, x4, x5], [], s) Q := by
  refine tK rfl ?_
  refine tS [((0 : Nat) : Int), x1, (-1), x3, x4, x5] rfl rfl ?_
  refine tK rfl ?_
  refine tS [((0 : Nat) : Int), x1, (-1), (-1), x4, x5] rfl rfl ?_
  refine tK rfl ?_
  refine tS [((0 : Nat) : Int), x1, (-1), (-1), 0, x5] rfl rfl ?_
  exact zT_le (h0) (Nat.le_refl n)

theorem b_X10_plan_35 {n : Nat} {Q : Zr → Prop} {t : Nat} (x1 x2 x3 x4 x5 v0 y0 : Int) (s : Zs) (ht : t = 7 ∨ t = 43)
    (h0 : ∀ (g1 : v0 < y0), ∀ (g2 : x1 ≠ 0), Q ([(x3, 0)], s))
    (h1 : ∀ (g1 : v0 < y0), ∀ (g2 : x1 = 0), Q ([(x2, 0)], s))
    (h2 : ∀ (g1 : y0 ≤ v0), ∀ (g3 : zand x4 (s 79 0) = 0), ∀ m, m < n → zC m 1039 [(s 0 3, 0), (x4, 0)] s (fun p => zT (zE 1308) (Pt PX10_plan) m (63, [((0 : Nat) : Int), x1, x2, x3, x4, x5], p.1 ++ [], p.2) Q))
    (h3 : ∀ (g1 : y0 ≤ v0), ∀ (g3 : zand x4 (s 79 0) ≠ 0), ∀ m, m < n → zT (zE 1308) (Pt PX10_plan) m (26, [((0 : Nat) : Int), x1, x2, x3, w32 (x4 + 1), x5], [], s) Q) : zT (zE 1308) (Pt PX10_plan) n (35, [((0 : Nat) : Int), x1, x2, x3, x4, x5], [(v0, 0), (y0, 0)], s) Q := by
  refine tJ4 rfl (fun g1 _ l1 => zT_le ?_ (Nat.le_of_lt l1)) (fun g1 _ l1 => zT_le ?_ (Nat.le_of_lt l1))
  · refine tL x1 0 rfl rfl rfl ?_
    refine tI1 rfl (fun g2 _ l2 => zT_le ?_ (Nat.le_of_lt l2)) (fun g2 _ l2 => zT_le ?_ (Nat.le_of_lt l2))
    · refine tL x3 0 rfl rfl rfl ?_
      exact tR rfl (h0 g1 g2)
    · refine tL x2 0 rfl rfl rfl ?_
      refine tG rfl ?_
      exact tR rfl (h1 g1 g2)
  · refine tL x4 0 rfl rfl rfl ?_
    refine tL ((0 : Nat) : Int) 0 rfl rfl rfl ?_
    refine tFR (c := 0) 79 rfl rfl rfl rfl rfl ?_
    refine tFv (c := 79) (s 79 0) 0 rfl rfl rfl rfl rfl ?_
    refine tB (v := zand x4 (s 79 0)) rfl rfl ?_
    refine tI0 rfl (fun g3 _ l3 => zT_le ?_ (Nat.le_of_lt l3)) (fun g3 _ l3 => zT_le ?_ (Nat.le_of_lt l3))
    · refine tL ((0 : Nat) : Int) 0 rfl rfl rfl ?_
      refine tFv (c := 0) (s 0 3) 0 rfl rfl rfl rfl rfl ?_
      refine tL x4 0 rfl rfl rfl ?_
      exact tCall [(s 0 3, 0), (x4, 0)] [] rfl rfl rfl (fun m l => h2 g1 g3 m (Nat.lt_of_lt_of_le l (Nat.le_refl n)))
    · refine tG rfl ?_
      refine tInc [((0 : Nat) : Int), x1, x2, x3, w32 (x4 + 1), x5] rfl rfl ?_
      exact tGb rfl (fun m2 l2 => h3 g1 g3 m2 (Nat.lt_of_lt_of_le l2 (Nat.le_refl n)))

theorem b_X10_plan_63 {n : Nat} {Q : Zr → Prop} {t : Nat} (x1 x2 x3 x4 x5 v0 : Int) (s : Zs) (ht : t = 7 ∨ t = 43)
    (h0 : ∀ (g1 : s 79 3 < v0), ∀ m, m < n → zT (zE 1308) (Pt PX10_plan) m (26, [((0 : Nat) : Int), x1, x2, x3, w32 (x4 + 1), v0], [], s) Q)
    (h1 : ∀ (g1 : v0 ≤ s 79 3), ∀ (g2 : x2 = (-1)), ∀ m, m < n → zC m 1289 [(((0 : Nat) : Int), 0), (zor (s 79 0) x4, 0)] s (fun p => zT (zE 1308) (Pt PX10_plan) m (102, [((0 : Nat) : Int), x1, x2, x3, x4, v0], p.1 ++ [], p.2) Q))
    (h2 : ∀ (g1 : v0 ≤ s 79 3), ∀ (g2 : x2 ≠ (-1)), ∀ (g4 : x2 ≤ v0), ∀ m, m < n → zT (zE 1308) (Pt PX10_plan) m (26, [((0 : Nat) : Int), x1, x2, x3, w32 (x4 + 1), v0], [], s) Q)
    (h3 : ∀ (g1 : v0 ≤ s 79 3), ∀ (g2 : x2 ≠ (-1)), ∀ (g4 : v0 < x2), ∀ m, m < n → zC m 1289 [(((0 : Nat) : Int), 0), (zor (s 79 0) x4, 0)] s (fun p => zT (zE 1308) (Pt PX10_plan) m (102, [((0 : Nat) : Int), x1, x2, x3, x4, v0], p.1 ++ [], p.2) Q)) : zT (zE 1308) (Pt PX10_plan) n (63, [((0 : Nat) : Int), x1, x2, x3, x4, x5], [(v0, 0)], s) Q := by
  refine tS [((0 : Nat) : Int), x1, x2, x3, x4, v0] rfl rfl ?_
  refine tL v0 0 rfl rfl rfl ?_
  refine tL ((0 : Nat) : Int) 0 rfl rfl rfl ?_
  refine tFR (c := 0) 79 rfl rfl rfl rfl rfl ?_
  refine tFv (c := 79) (s 79 3) 0 rfl rfl rfl rfl rfl ?_
  refine tJ4 rfl (fun g1 _ l1 => zT_le ?_ (Nat.le_of_lt l1)) (fun g1 _ l1 => zT_le ?_ (Nat.le_of_lt l1))
  · refine tInc [((0 : Nat) : Int), x1, x2, x3, w32 (x4 + 1), v0] rfl rfl ?_
    exact tGb rfl (fun m2 l2 => h0 g1 m2 (Nat.lt_of_lt_of_le l2 (Nat.le_refl n)))
  · refine tL x2 0 rfl rfl rfl ?_
    refine tK rfl ?_
    refine tJ0 rfl (fun g2 _ l2 => zT_le ?_ (Nat.le_of_lt l2)) (fun g2 _ l2 => zT_le ?_ (Nat.le_of_lt l2))
    · refine tL ((0 : Nat) : Int) 0 rfl rfl rfl ?_
      refine tL ((0 : Nat) : Int) 0 rfl rfl rfl ?_
      refine tFR (c := 0) 79 rfl rfl rfl rfl rfl ?_
      refine tFv (c := 79) (s 79 0) 0 rfl rfl rfl rfl rfl ?_
      refine tL x4 0 rfl rfl rfl ?_
      refine tB (v := zor (s 79 0) x4) rfl rfl ?_
      exact tCall [(((0 : Nat) : Int), 0), (zor (s 79 0) x4, 0)] [] rfl rfl rfl (fun m l => h1 g1 g2 m (Nat.lt_of_lt_of_le l (Nat.le_refl n)))
    · refine tL v0 0 rfl rfl rfl ?_
      refine tL x2 0 rfl rfl rfl ?_
      refine tJ3 rfl (fun g4 _ l4 => zT_le ?_ (Nat.le_of_lt l4)) (fun g4 _ l4 => zT_le ?_ (Nat.le_of_lt l4))
      · refine tInc [((0 : Nat) : Int), x1, x2, x3, w32 (x4 + 1), v0] rfl rfl ?_
        exact tGb rfl (fun m2 l2 => h2 g1 g2 g4 m2 (Nat.lt_of_lt_of_le l2 (Nat.le_refl n)))
      · refine tL ((0 : Nat) : Int) 0 rfl rfl rfl ?_
        refine tL ((0 : Nat) : Int) 0 rfl rfl rfl ?_
        refine tFR (c := 0) 79 rfl rfl rfl rfl rfl ?_
        refine tFv (c := 79) (s 79 0) 0 rfl rfl rfl rfl rfl ?_
        refine tL x4 0 rfl rfl rfl ?_
        refine tB (v := zor (s 79 0) x4) rfl rfl ?_
        exact tCall [(((0 : Nat) : Int), 0), (zor (s 79 0) x4, 0)] [] rfl rfl rfl (fun m l => h3 g1 g2 g4 m (Nat.lt_of_lt_of_le l (Nat.le_refl n)))

theorem b_X10_plan_102 {n : Nat} {Q : Zr → Prop} {t : Nat} (x1 x2 x3 x4 x5 v0 : Int) (s : Zs) (ht : t = 7 ∨ t = 43)
    (h0 : ∀ (g1 : v0 ≠ 0), ∀ m, m < n → zT (zE 1308) (Pt PX10_plan) m (26, [((0 : Nat) : Int), x1, x2, x3, w32 (x4 + 1), x5], [], s) Q)
    (h1 : ∀ (g1 : v0 = 0), ∀ m, m < n → zT (zE 1308) (Pt PX10_plan) m (26, [((0 : Nat) : Int), x1, x5, x4, w32 (x4 + 1), x5], [], s) Q) : zT (zE 1308) (Pt PX10_plan) n (102, [((0 : Nat) : Int), x1, x2, x3, x4, x5], [(v0, 0)], s) Q := by
  refine tI1 rfl (fun g1 _ l1 => zT_le ?_ (Nat.le_of_lt l1)) (fun g1 _ l1 => zT_le ?_ (Nat.le_of_lt l1))
  · refine tInc [((0 : Nat) : Int), x1, x2, x3, w32 (x4 + 1), x5] rfl rfl ?_
    exact tGb rfl (fun m2 l2 => h0 g1 m2 (Nat.lt_of_lt_of_le l2 (Nat.le_refl n)))
  · refine tL x5 0 rfl rfl rfl ?_
    refine tS [((0 : Nat) : Int), x1, x5, x3, x4, x5] rfl rfl ?_
    refine tL x4 0 rfl rfl rfl ?_
    refine tS [((0 : Nat) : Int), x1, x5, x4, x4, x5] rfl rfl ?_
    refine tInc [((0 : Nat) : Int), x1, x5, x4, w32 (x4 + 1), x5] rfl rfl ?_
    exact tGb rfl (fun m2 l2 => h1 g1 m2 (Nat.lt_of_lt_of_le l2 (Nat.le_refl n)))

theorem c_X10_plan {n : Nat} {Q : Zr → Prop} {a0 a1 : Int} {s : Zs} (h : zT (zE 1308) (Pt PX10_plan) n (0, [a0, a1, 0, 0, 0, 0], [], s) Q) : zC n 1308 [(a0, 0), (a1, 0)] s Q := h

theorem b_X10_thefts_0 {n : Nat} {Q : Zr → Prop} {t : Nat} (x1 x2 x3 x4 x5 x6 x7 x8 : Int) (s : Zs) (ht : t = 7 ∨ t = 43)
    (h0 : ∀ (g1 : x1 < 0), Q ([((-1), 0)], s))
    (h1 : ∀ (g1 : 0 ≤ x1), ∀ (g2 : s 1000 1 < x1), Q ([((-1), 0)], s))
    (h2 : ∀ (g1 : 0 ≤ x1), ∀ (g2 : x1 ≤ s 1000 1), ∀ (g3 : x2 < 0), Q ([((-1), 0)], s))
    (h3 : ∀ (g1 : 0 ≤ x1), ∀ (g2 : x1 ≤ s 1000 1), ∀ (g3 : 0 ≤ x2), ∀ (g4 : s 1000 3 < x2), Q ([((-1), 0)], s))
    (h4 : ∀ (g1 : 0 ≤ x1), ∀ (g2 : x1 ≤ s 1000 1), ∀ (g3 : 0 ≤ x2), ∀ (g4 : x2 ≤ s 1000 3), ∀ (g5 : x3 < 0), Q ([((-1), 0)], s))
    (h5 : ∀ (g1 : 0 ≤ x1), ∀ (g2 : x1 ≤ s 1000 1), ∀ (g3 : 0 ≤ x2), ∀ (g4 : x2 ≤ s 1000 3), ∀ (g5 : 0 ≤ x3), ∀ (g6 : x3 ≤ 1), ∀ m, m < n → zC m 1292 [(((0 : Nat) : Int), 0), (((79 : Nat) : Int), 0)] s (fun p => zT (zE 1316) (Pt PX10_thefts) m (45, [((0 : Nat) : Int), x1, x2, x3, x4, x5, x6, x7, x8], p.1 ++ [], p.2) Q))
    (h6 : ∀ (g1 : 0 ≤ x1), ∀ (g2 : x1 ≤ s 1000 1), ∀ (g3 : 0 ≤ x2), ∀ (g4 : x2 ≤ s 1000 3), ∀ (g5 : 0 ≤ x3), ∀ (g6 : 1 < x3), Q ([((-1), 0)], s)) : zT (zE 1316) (Pt PX10_thefts) n (0, [((0 : Nat) : Int), x1, x2, x3, x4, x5, x6, x7, x8], [], s) Q := by
  refine tL x1 0 rfl rfl rfl ?_
  refine tI2 rfl (fun g1 _ l1 => zT_le ?_ (Nat.le_of_lt l1)) (fun g1 _ l1 => zT_le ?_ (Nat.le_of_lt l1))
  · refine tK rfl ?_
    exact tR rfl (h0 g1)
  · refine tL x1 0 rfl rfl rfl ?_
    refine tKR rfl ?_
    refine tK rfl ?_
    refine tAv 1000 1 (s 1000 1) 0 rfl rfl rfl (by decide) rfl rfl ?_
    refine tJ4 rfl (fun g2 _ l2 => zT_le ?_ (Nat.le_of_lt l2)) (fun g2 _ l2 => zT_le ?_ (Nat.le_of_lt l2))
    · refine tK rfl ?_
      exact tR rfl (h1 g1 g2)
    · refine tL x2 0 rfl rfl rfl ?_
      refine tI2 rfl (fun g3 _ l3 => zT_le ?_ (Nat.le_of_lt l3)) (fun g3 _ l3 => zT_le ?_ (Nat.le_of_lt l3))
      · refine tK rfl ?_
        exact tR rfl (h2 g1 g2 g3)
      · refine tL x2 0 rfl rfl rfl ?_
        refine tKR rfl ?_
        refine tK rfl ?_
        refine tAv 1000 3 (s 1000 3) 0 rfl rfl rfl (by decide) rfl rfl ?_
        refine tJ4 rfl (fun g4 _ l4 => zT_le ?_ (Nat.le_of_lt l4)) (fun g4 _ l4 => zT_le ?_ (Nat.le_of_lt l4))
        · refine tK rfl ?_
          exact tR rfl (h3 g1 g2 g3 g4)
        · refine tL x3 0 rfl rfl rfl ?_
          refine tI2 rfl (fun g5 _ l5 => zT_le ?_ (Nat.le_of_lt l5)) (fun g5 _ l5 => zT_le ?_ (Nat.le_of_lt l5))
          · refine tK rfl ?_
            exact tR rfl (h4 g1 g2 g3 g4 g5)
          · refine tL x3 0 rfl rfl rfl ?_
            refine tK rfl ?_
            refine tJ5 rfl (fun g6 _ l6 => zT_le ?_ (Nat.le_of_lt l6)) (fun g6 _ l6 => zT_le ?_ (Nat.le_of_lt l6))
            · refine tL ((0 : Nat) : Int) 0 rfl rfl rfl ?_
              refine tL ((0 : Nat) : Int) 0 rfl rfl rfl ?_
              refine tFR (c := 0) 79 rfl rfl rfl rfl rfl ?_
              exact tCall [(((0 : Nat) : Int), 0), (((79 : Nat) : Int), 0)] [] rfl rfl rfl (fun m l => h5 g1 g2 g3 g4 g5 g6 m (Nat.lt_of_lt_of_le l (Nat.le_refl n)))
            · refine tK rfl ?_
              exact tR rfl (h6 g1 g2 g3 g4 g5 g6)

theorem b_X10_thefts_54 {n : Nat} {Q : Zr → Prop} {t : Nat} (x1 x2 x3 x4 x5 x6 x7 x8 : Int) (s : Zs) (ht : t = 7 ∨ t = 43)
    (h0 : ∀ m, m < n → zC m 1026 [(s 0 3, 0)] s (fun p => zT (zE 1316) (Pt PX10_thefts) m (63, [((0 : Nat) : Int), x1, x2, x3, x4, x5, x6, x7, x8], p.1 ++ [(x6, 0)], p.2) Q)) : zT (zE 1316) (Pt PX10_thefts) n (54, [((0 : Nat) : Int), x1, x2, x3, x4, x5, x6, x7, x8], [], s) Q := by
  refine tL x6 0 rfl rfl rfl ?_
  refine tL ((0 : Nat) : Int) 0 rfl rfl rfl ?_
  refine tFv (c := 0) (s 0 3) 0 rfl rfl rfl rfl rfl ?_
  exact tCall [(s 0 3, 0)] [(x6, 0)] rfl rfl rfl (fun m l => h0 m (Nat.lt_of_lt_of_le l (Nat.le_refl n)))

theorem b_X10_thefts_45 {n : Nat} {Q : Zr → Prop} {t : Nat} (x1 x2 x3 x4 x5 x6 x7 x8 : Int) (s : Zs) (ht : t = 7 ∨ t = 43)
    (h0 : zT (zE 1316) (Pt PX10_thefts) n (54, [((0 : Nat) : Int), x1, x2, x3, (-1), (-1), 0, x7, x8], [], s) Q) : zT (zE 1316) (Pt PX10_thefts) n (45, [((0 : Nat) : Int), x1, x2, x3, x4, x5, x6, x7, x8], [], s) Q := by
  refine tK rfl ?_
  refine tS [((0 : Nat) : Int), x1, x2, x3, (-1), x5, x6, x7, x8] rfl rfl ?_
  refine tK rfl ?_
  refine tS [((0 : Nat) : Int), x1, x2, x3, (-1), (-1), x6, x7, x8] rfl rfl ?_
  refine tK rfl ?_
  refine tS [((0 : Nat) : Int), x1, x2, x3, (-1), (-1), 0, x7, x8] rfl rfl ?_
  exact zT_le (h0) (Nat.le_refl n)

theorem b_X10_thefts_63 {n : Nat} {Q : Zr → Prop} {t : Nat} (x1 x2 x3 x4 x5 x6 x7 x8 v0 y0 : Int) (s : Zs) (ht : t = 7 ∨ t = 43)
    (h0 : ∀ (g1 : v0 < y0), ∀ (g2 : x3 ≠ 0), Q ([(x5, 0)], s))
    (h1 : ∀ (g1 : v0 < y0), ∀ (g2 : x3 = 0), Q ([(x4, 0)], s))
    (h2 : ∀ (g1 : y0 ≤ v0), ∀ (g3 : zand x6 (zxor (s 79 0) (-1)) ≠ 0), ∀ m, m < n → zT (zE 1316) (Pt PX10_thefts) m (54, [((0 : Nat) : Int), x1, x2, x3, x4, x5, w32 (x6 + 1), x7, x8], [], s) Q)
    (h3 : ∀ (g1 : y0 ≤ v0), ∀ (g3 : zand x6 (zxor (s 79 0) (-1)) = 0), ∀ m, m < n → zC m 1536 [(x6, 0)] s (fun p => zT (zE 1316) (Pt PX10_thefts) m (86, [((0 : Nat) : Int), x1, x2, x3, x4, x5, x6, x7, x8], p.1 ++ [], p.2) Q)) : zT (zE 1316) (Pt PX10_thefts) n (63, [((0 : Nat) : Int), x1, x2, x3, x4, x5, x6, x7, x8], [(v0, 0), (y0, 0)], s) Q := by
  refine tJ4 rfl (fun g1 _ l1 => zT_le ?_ (Nat.le_of_lt l1)) (fun g1 _ l1 => zT_le ?_ (Nat.le_of_lt l1))
  · refine tL x3 0 rfl rfl rfl ?_
    refine tI1 rfl (fun g2 _ l2 => zT_le ?_ (Nat.le_of_lt l2)) (fun g2 _ l2 => zT_le ?_ (Nat.le_of_lt l2))
    · refine tL x5 0 rfl rfl rfl ?_
      exact tR rfl (h0 g1 g2)
    · refine tL x4 0 rfl rfl rfl ?_
      refine tG rfl ?_
      exact tR rfl (h1 g1 g2)
  · refine tL x6 0 rfl rfl rfl ?_
    refine tL ((0 : Nat) : Int) 0 rfl rfl rfl ?_
    refine tFR (c := 0) 79 rfl rfl rfl rfl rfl ?_
    refine tFv (c := 79) (s 79 0) 0 rfl rfl rfl rfl rfl ?_
    refine tK rfl ?_
    refine tB (v := zxor (s 79 0) (-1)) rfl rfl ?_
    refine tB (v := zand x6 (zxor (s 79 0) (-1))) rfl rfl ?_
    refine tI1 rfl (fun g3 _ l3 => zT_le ?_ (Nat.le_of_lt l3)) (fun g3 _ l3 => zT_le ?_ (Nat.le_of_lt l3))
    · refine tInc [((0 : Nat) : Int), x1, x2, x3, x4, x5, w32 (x6 + 1), x7, x8] rfl rfl ?_
      exact tGb rfl (fun m2 l2 => h2 g1 g3 m2 (Nat.lt_of_lt_of_le l2 (Nat.le_refl n)))
    · refine tL x6 0 rfl rfl rfl ?_
      exact tCall [(x6, 0)] [] rfl rfl rfl (fun m l => h3 g1 g3 m (Nat.lt_of_lt_of_le l (Nat.le_refl n)))

theorem b_X10_thefts_86 {n : Nat} {Q : Zr → Prop} {t : Nat} (x1 x2 x3 x4 x5 x6 x7 x8 v0 : Int) (s : Zs) (ht : t = 7 ∨ t = 43)
    (h0 : ∀ (g1 : v0 ≤ x1), ∀ m, m < n → zC m 1039 [(s 0 3, 0), (x6, 0)] s (fun p => zT (zE 1316) (Pt PX10_thefts) m (102, [((0 : Nat) : Int), x1, x2, x3, x4, x5, x6, x7, x8], p.1 ++ [], p.2) Q))
    (h1 : ∀ (g1 : x1 < v0), ∀ m, m < n → zT (zE 1316) (Pt PX10_thefts) m (54, [((0 : Nat) : Int), x1, x2, x3, x4, x5, w32 (x6 + 1), x7, x8], [], s) Q) : zT (zE 1316) (Pt PX10_thefts) n (86, [((0 : Nat) : Int), x1, x2, x3, x4, x5, x6, x7, x8], [(v0, 0)], s) Q := by
  refine tL x1 0 rfl rfl rfl ?_
  refine tJ5 rfl (fun g1 _ l1 => zT_le ?_ (Nat.le_of_lt l1)) (fun g1 _ l1 => zT_le ?_ (Nat.le_of_lt l1))
  · refine tL ((0 : Nat) : Int) 0 rfl rfl rfl ?_
    refine tFv (c := 0) (s 0 3) 0 rfl rfl rfl rfl rfl ?_
    refine tL x6 0 rfl rfl rfl ?_
    exact tCall [(s 0 3, 0), (x6, 0)] [] rfl rfl rfl (fun m l => h0 g1 m (Nat.lt_of_lt_of_le l (Nat.le_refl n)))
  · refine tG rfl ?_
    refine tInc [((0 : Nat) : Int), x1, x2, x3, x4, x5, w32 (x6 + 1), x7, x8] rfl rfl ?_
    exact tGb rfl (fun m2 l2 => h1 g1 m2 (Nat.lt_of_lt_of_le l2 (Nat.le_refl n)))

theorem b_X10_thefts_102 {n : Nat} {Q : Zr → Prop} {t : Nat} (x1 x2 x3 x4 x5 x6 x7 x8 v0 : Int) (s : Zs) (ht : t = 7 ∨ t = 43)
    (h0 : ∀ (g1 : x4 < v0), ∀ m, m < n → zC m 1033 [(s 0 3, 0), (x6, 0), (s 79 0, 0)] s (fun p => zT (zE 1316) (Pt PX10_thefts) m (159, [((0 : Nat) : Int), x1, x2, x3, x4, x5, x6, v0, 1], p.1 ++ [], p.2) Q))
    (h1 : ∀ (g1 : v0 ≤ x4), ∀ (g3 : v0 ≠ x4), ∀ m, m < n → zT (zE 1316) (Pt PX10_thefts) m (54, [((0 : Nat) : Int), x1, x2, x3, x4, x5, w32 (x6 + 1), v0, 0], [], s) Q)
    (h2 : ∀ (g1 : v0 ≤ x4), ∀ (g3 : v0 = x4), ∀ m, m < n → zC m 1536 [(x6, 0)] s (fun p => zT (zE 1316) (Pt PX10_thefts) m (123, [((0 : Nat) : Int), x1, x2, x3, x4, x5, x6, v0, x8], p.1 ++ [], p.2) Q)) : zT (zE 1316) (Pt PX10_thefts) n (102, [((0 : Nat) : Int), x1, x2, x3, x4, x5, x6, x7, x8], [(v0, 0)], s) Q := by
  refine tS [((0 : Nat) : Int), x1, x2, x3, x4, x5, x6, v0, x8] rfl rfl ?_
  refine tL v0 0 rfl rfl rfl ?_
  refine tL x4 0 rfl rfl rfl ?_
  refine tJ4 rfl (fun g1 _ l1 => zT_le ?_ (Nat.le_of_lt l1)) (fun g1 _ l1 => zT_le ?_ (Nat.le_of_lt l1))
  · refine tK rfl ?_
    refine tG rfl ?_
    refine tS [((0 : Nat) : Int), x1, x2, x3, x4, x5, x6, v0, 1] rfl rfl ?_
    refine tL 1 0 rfl rfl rfl ?_
    refine tI0 rfl (fun g _ l => (absurd g (by decide))) (fun g _ l => zT_le ?_ (Nat.le_of_lt l))
    refine tL ((0 : Nat) : Int) 0 rfl rfl rfl ?_
    refine tFv (c := 0) (s 0 3) 0 rfl rfl rfl rfl rfl ?_
    refine tL x6 0 rfl rfl rfl ?_
    refine tL ((0 : Nat) : Int) 0 rfl rfl rfl ?_
    refine tFR (c := 0) 79 rfl rfl rfl rfl rfl ?_
    refine tFv (c := 79) (s 79 0) 0 rfl rfl rfl rfl rfl ?_
    exact tCall [(s 0 3, 0), (x6, 0), (s 79 0, 0)] [] rfl rfl rfl (fun m l => h0 g1 m (Nat.lt_of_lt_of_le l (Nat.le_refl n)))
  · refine tL v0 0 rfl rfl rfl ?_
    refine tL x4 0 rfl rfl rfl ?_
    refine tJ1 rfl (fun g3 _ l3 => zT_le ?_ (Nat.le_of_lt l3)) (fun g3 _ l3 => zT_le ?_ (Nat.le_of_lt l3))
    · refine tK rfl ?_
      refine tS [((0 : Nat) : Int), x1, x2, x3, x4, x5, x6, v0, 0] rfl rfl ?_
      refine tL 0 0 rfl rfl rfl ?_
      refine tI0 rfl (fun g _ l => zT_le ?_ (Nat.le_of_lt l)) (fun g _ l => (absurd g (by decide)))
      refine tInc [((0 : Nat) : Int), x1, x2, x3, x4, x5, w32 (x6 + 1), v0, 0] rfl rfl ?_
      exact tGb rfl (fun m2 l2 => h1 g1 g3 m2 (Nat.lt_of_lt_of_le l2 (Nat.le_refl n)))
    · refine tL x6 0 rfl rfl rfl ?_
      exact tCall [(x6, 0)] [] rfl rfl rfl (fun m l => h2 g1 g3 m (Nat.lt_of_lt_of_le l (Nat.le_refl n)))

theorem b_X10_thefts_159 {n : Nat} {Q : Zr → Prop} {t : Nat} (x1 x2 x3 x4 x5 x6 x7 x8 v0 : Int) (s : Zs) (ht : t = 7 ∨ t = 43)
    (h0 : ∀ (g1 : v0 = 0), ∀ m, m < n → zT (zE 1316) (Pt PX10_thefts) m (54, [((0 : Nat) : Int), x1, x2, x3, x4, x5, w32 (x6 + 1), x7, x8], [], s) Q)
    (h1 : ∀ (g1 : v0 ≠ 0), ∀ m, m < n → zC m 1289 [(((0 : Nat) : Int), 0), (zand (s 79 0) (zxor x6 (-1)), 0)] s (fun p => zT (zE 1316) (Pt PX10_thefts) m (178, [((0 : Nat) : Int), x1, x2, x3, x4, x5, x6, x7, x8], p.1 ++ [], p.2) Q)) : zT (zE 1316) (Pt PX10_thefts) n (159, [((0 : Nat) : Int), x1, x2, x3, x4, x5, x6, x7, x8], [(v0, 0)], s) Q := by
  refine tI0 rfl (fun g1 _ l1 => zT_le ?_ (Nat.le_of_lt l1)) (fun g1 _ l1 => zT_le ?_ (Nat.le_of_lt l1))
  · refine tInc [((0 : Nat) : Int), x1, x2, x3, x4, x5, w32 (x6 + 1), x7, x8] rfl rfl ?_
    exact tGb rfl (fun m2 l2 => h0 g1 m2 (Nat.lt_of_lt_of_le l2 (Nat.le_refl n)))
  · refine tL ((0 : Nat) : Int) 0 rfl rfl rfl ?_
    refine tL ((0 : Nat) : Int) 0 rfl rfl rfl ?_
    refine tFR (c := 0) 79 rfl rfl rfl rfl rfl ?_
    refine tFv (c := 79) (s 79 0) 0 rfl rfl rfl rfl rfl ?_
    refine tL x6 0 rfl rfl rfl ?_
    refine tK rfl ?_
    refine tB (v := zxor x6 (-1)) rfl rfl ?_
    refine tB (v := zand (s 79 0) (zxor x6 (-1))) rfl rfl ?_
    exact tCall [(((0 : Nat) : Int), 0), (zand (s 79 0) (zxor x6 (-1)), 0)] [] rfl rfl rfl (fun m l => h1 g1 m (Nat.lt_of_lt_of_le l (Nat.le_refl n)))

theorem b_X10_thefts_123 {n : Nat} {Q : Zr → Prop} {t : Nat} (x1 x2 x3 x4 x5 x6 x7 x8 v0 : Int) (s : Zs) (ht : t = 7 ∨ t = 43)
    (h0 : ∀ m, m < n → zC m 1536 [(x5, 0)] s (fun p => zT (zE 1316) (Pt PX10_thefts) m (128, [((0 : Nat) : Int), x1, x2, x3, x4, x5, x6, x7, x8], p.1 ++ [(v0, 0)], p.2) Q)) : zT (zE 1316) (Pt PX10_thefts) n (123, [((0 : Nat) : Int), x1, x2, x3, x4, x5, x6, x7, x8], [(v0, 0)], s) Q := by
  refine tL x5 0 rfl rfl rfl ?_
  exact tCall [(x5, 0)] [(v0, 0)] rfl rfl rfl (fun m l => h0 m (Nat.lt_of_lt_of_le l (Nat.le_refl n)))

theorem b_X10_thefts_178 {n : Nat} {Q : Zr → Prop} {t : Nat} (x1 x2 x3 x4 x5 x6 x7 x8 v0 : Int) (s : Zs) (ht : t = 7 ∨ t = 43)
    (h0 : ∀ m, m < n → zC m 1536 [(v0, 0)] s (fun p => zT (zE 1316) (Pt PX10_thefts) m (181, [((0 : Nat) : Int), x1, x2, x3, x4, x5, x6, x7, x8], p.1 ++ [], p.2) Q)) : zT (zE 1316) (Pt PX10_thefts) n (178, [((0 : Nat) : Int), x1, x2, x3, x4, x5, x6, x7, x8], [(v0, 0)], s) Q := by
  exact tCall [(v0, 0)] [] rfl rfl rfl (fun m l => h0 m (Nat.lt_of_lt_of_le l (Nat.le_refl n)))

theorem b_X10_thefts_128 {n : Nat} {Q : Zr → Prop} {t : Nat} (x1 x2 x3 x4 x5 x6 x7 x8 v0 y0 : Int) (s : Zs) (ht : t = 7 ∨ t = 43)
    (h0 : ∀ (g1 : v0 ≤ y0), ∀ m, m < n → zT (zE 1316) (Pt PX10_thefts) m (54, [((0 : Nat) : Int), x1, x2, x3, x4, x5, w32 (x6 + 1), x7, 0], [], s) Q)
    (h1 : ∀ (g1 : y0 < v0), ∀ m, m < n → zC m 1033 [(s 0 3, 0), (x6, 0), (s 79 0, 0)] s (fun p => zT (zE 1316) (Pt PX10_thefts) m (159, [((0 : Nat) : Int), x1, x2, x3, x4, x5, x6, x7, 1], p.1 ++ [], p.2) Q)) : zT (zE 1316) (Pt PX10_thefts) n (128, [((0 : Nat) : Int), x1, x2, x3, x4, x5, x6, x7, x8], [(v0, 0), (y0, 0)], s) Q := by
  refine tJ3 rfl (fun g1 _ l1 => zT_le ?_ (Nat.le_of_lt l1)) (fun g1 _ l1 => zT_le ?_ (Nat.le_of_lt l1))
  · refine tK rfl ?_
    refine tS [((0 : Nat) : Int), x1, x2, x3, x4, x5, x6, x7, 0] rfl rfl ?_
    refine tL 0 0 rfl rfl rfl ?_
    refine tI0 rfl (fun g _ l => zT_le ?_ (Nat.le_of_lt l)) (fun g _ l => (absurd g (by decide)))
    refine tInc [((0 : Nat) : Int), x1, x2, x3, x4, x5, w32 (x6 + 1), x7, 0] rfl rfl ?_
    exact tGb rfl (fun m2 l2 => h0 g1 m2 (Nat.lt_of_lt_of_le l2 (Nat.le_refl n)))
  · refine tK rfl ?_
    refine tG rfl ?_
    refine tS [((0 : Nat) : Int), x1, x2, x3, x4, x5, x6, x7, 1] rfl rfl ?_
    refine tL 1 0 rfl rfl rfl ?_
    refine tI0 rfl (fun g _ l => (absurd g (by decide))) (fun g _ l => zT_le ?_ (Nat.le_of_lt l))
    refine tL ((0 : Nat) : Int) 0 rfl rfl rfl ?_
    refine tFv (c := 0) (s 0 3) 0 rfl rfl rfl rfl rfl ?_
    refine tL x6 0 rfl rfl rfl ?_
    refine tL ((0 : Nat) : Int) 0 rfl rfl rfl ?_
    refine tFR (c := 0) 79 rfl rfl rfl rfl rfl ?_
    refine tFv (c := 79) (s 79 0) 0 rfl rfl rfl rfl rfl ?_
    exact tCall [(s 0 3, 0), (x6, 0), (s 79 0, 0)] [] rfl rfl rfl (fun m l => h1 g1 m (Nat.lt_of_lt_of_le l (Nat.le_refl n)))

theorem b_X10_thefts_181 {n : Nat} {Q : Zr → Prop} {t : Nat} (x1 x2 x3 x4 x5 x6 x7 x8 v0 : Int) (s : Zs) (ht : t = 7 ∨ t = 43)
    (h0 : ∀ (g1 : x2 < v0), ∀ m, m < n → zT (zE 1316) (Pt PX10_thefts) m (54, [((0 : Nat) : Int), x1, x2, x3, x4, x5, w32 (x6 + 1), x7, x8], [], s) Q)
    (h1 : ∀ (g1 : v0 ≤ x2), ∀ m, m < n → zT (zE 1316) (Pt PX10_thefts) m (54, [((0 : Nat) : Int), x1, x2, x3, x7, x6, w32 (x6 + 1), x7, x8], [], s) Q) : zT (zE 1316) (Pt PX10_thefts) n (181, [((0 : Nat) : Int), x1, x2, x3, x4, x5, x6, x7, x8], [(v0, 0)], s) Q := by
  refine tL x2 0 rfl rfl rfl ?_
  refine tJ4 rfl (fun g1 _ l1 => zT_le ?_ (Nat.le_of_lt l1)) (fun g1 _ l1 => zT_le ?_ (Nat.le_of_lt l1))
  · refine tInc [((0 : Nat) : Int), x1, x2, x3, x4, x5, w32 (x6 + 1), x7, x8] rfl rfl ?_
    exact tGb rfl (fun m2 l2 => h0 g1 m2 (Nat.lt_of_lt_of_le l2 (Nat.le_refl n)))
  · refine tL x7 0 rfl rfl rfl ?_
    refine tS [((0 : Nat) : Int), x1, x2, x3, x7, x5, x6, x7, x8] rfl rfl ?_
    refine tL x6 0 rfl rfl rfl ?_
    refine tS [((0 : Nat) : Int), x1, x2, x3, x7, x6, x6, x7, x8] rfl rfl ?_
    refine tInc [((0 : Nat) : Int), x1, x2, x3, x7, x6, w32 (x6 + 1), x7, x8] rfl rfl ?_
    exact tGb rfl (fun m2 l2 => h1 g1 m2 (Nat.lt_of_lt_of_le l2 (Nat.le_refl n)))

theorem c_X10_thefts {n : Nat} {Q : Zr → Prop} {a0 a1 a2 a3 : Int} {s : Zs} (h : zT (zE 1316) (Pt PX10_thefts) n (0, [a0, a1, a2, a3, 0, 0, 0, 0, 0], [], s) Q) : zC n 1316 [(a0, 0), (a1, 0), (a2, 0), (a3, 0)] s Q := h

theorem b_X11_riseOf_0 {n : Nat} {Q : Zr → Prop} (x1 x2 x3 : Int) (s : Zs) 
    (h0 : zT (zE 1507) (Pt PX11_riseOf) n (4, [((172 : Nat) : Int), x1, 0, 0], [], s) Q) : zT (zE 1507) (Pt PX11_riseOf) n (0, [((172 : Nat) : Int), x1, x2, x3], [], s) Q := by
  refine tK rfl ?_
  refine tS [((172 : Nat) : Int), x1, 0, x3] rfl rfl ?_
  refine tK rfl ?_
  refine tS [((172 : Nat) : Int), x1, 0, 0] rfl rfl ?_
  exact zT_le (h0) (Nat.le_refl n)

theorem b_X11_riseOf_4 {n : Nat} {Q : Zr → Prop} (x1 x2 x3 : Int) (s : Zs) 
    (h0 : ∀ (g1 : s 174 1 ≤ x3), Q ([(x2, 0)], s))
    (h1 : ∀ (g1 : x3 < s 174 1), ∀ (g2 : zand (zshr x1 x3) 1 ≠ 1), ∀ m, m < n → zT (zE 1507) (Pt PX11_riseOf) m (4, [((172 : Nat) : Int), x1, w32 (x2 + 0), w32 (x3 + 1)], [], s) Q)
    (h2 : ∀ (g1 : x3 < s 174 1), ∀ (g2 : zand (zshr x1 x3) 1 = 1), ∀ m, m < n → zT (zE 1507) (Pt PX11_riseOf) m (4, [((172 : Nat) : Int), x1, w32 (x2 + (s 182 x3.toNat)), w32 (x3 + 1)], [], s) Q) : zT (zE 1507) (Pt PX11_riseOf) n (4, [((172 : Nat) : Int), x1, x2, x3], [], s) Q := by
  refine tL x3 0 rfl rfl rfl ?_
  refine tL ((172 : Nat) : Int) 0 rfl rfl rfl ?_
  refine tFR (c := 172) 174 rfl rfl rfl rfl rfl ?_
  refine tK rfl ?_
  refine tAv 174 1 (s 174 1) 0 rfl rfl rfl (by decide) rfl rfl ?_
  refine tJ3 rfl (fun g1 _ l1 => zT_le ?_ (Nat.le_of_lt l1)) (fun g1 _ l1 => zT_le ?_ (Nat.le_of_lt l1))
  · refine tL x2 0 rfl rfl rfl ?_
    exact tR rfl (h0 g1)
  · refine tL x2 0 rfl rfl rfl ?_
    refine tL x1 0 rfl rfl rfl ?_
    refine tL x3 0 rfl rfl rfl ?_
    refine tB (v := zshr x1 x3) rfl rfl ?_
    refine tK rfl ?_
    refine tB (v := zand (zshr x1 x3) 1) rfl rfl ?_
    refine tK rfl ?_
    refine tJ1 rfl (fun g2 _ l2 => zT_le ?_ (Nat.le_of_lt l2)) (fun g2 _ l2 => zT_le ?_ (Nat.le_of_lt l2))
    · refine tK rfl ?_
      refine tB (v := w32 (x2 + 0)) rfl rfl ?_
      refine tS [((172 : Nat) : Int), x1, w32 (x2 + 0), x3] rfl rfl ?_
      refine tInc [((172 : Nat) : Int), x1, w32 (x2 + 0), w32 (x3 + 1)] rfl rfl ?_
      exact tGb rfl (fun m2 l2 => h1 g1 g2 m2 (Nat.lt_of_lt_of_le l2 (Nat.le_refl n)))
    · refine tL ((172 : Nat) : Int) 0 rfl rfl rfl ?_
      refine tFR (c := 172) 182 rfl rfl rfl rfl rfl ?_
      refine tL x3 0 rfl rfl rfl ?_
      refine tAv 182 x3.toNat (s 182 x3.toNat) 0 rfl rfl rfl (by decide) rfl rfl ?_
      refine tG rfl ?_
      refine tB (v := w32 (x2 + (s 182 x3.toNat))) rfl rfl ?_
      refine tS [((172 : Nat) : Int), x1, w32 (x2 + (s 182 x3.toNat)), x3] rfl rfl ?_
      refine tInc [((172 : Nat) : Int), x1, w32 (x2 + (s 182 x3.toNat)), w32 (x3 + 1)] rfl rfl ?_
      exact tGb rfl (fun m2 l2 => h2 g1 g2 m2 (Nat.lt_of_lt_of_le l2 (Nat.le_refl n)))

theorem c_X11_riseOf {n : Nat} {Q : Zr → Prop} {a0 a1 : Int} {s : Zs} (h : zT (zE 1507) (Pt PX11_riseOf) n (0, [a0, a1, 0, 0], [], s) Q) : zC n 1507 [(a0, 0), (a1, 0)] s Q := h

theorem b_X11_plan_0 {n : Nat} {Q : Zr → Prop} (x1 x2 x3 x4 : Int) (s : Zs) 
    (h0 : ∀ (g2 : x1 < 0), Q ([((-1), 0)], zu s 172 0 0))
    (h1 : ∀ (g3 : 0 ≤ x1), ∀ (g4 : 1 < x1), Q ([((-1), 0)], zu s 172 0 0))
    (h2 : ∀ (g5 : 0 ≤ x1), ∀ (g6 : x1 ≤ 1), zT (zE 1490) (Pt PX11_plan) n (20, [((172 : Nat) : Int), x1, (-1), 0, x4], [], zu s 172 0 0) Q) : zT (zE 1490) (Pt PX11_plan) n (0, [((172 : Nat) : Int), x1, x2, x3, x4], [], s) Q := by
  refine tL ((172 : Nat) : Int) 0 rfl rfl rfl ?_
  refine tK rfl ?_
  refine tPut 172 rfl rfl ?_
  refine tL x1 0 rfl rfl rfl ?_
  refine tK rfl ?_
  refine tK rfl ?_
  refine tCall [(x1, 0), (0, 0), (1, 0)] [] rfl rfl rfl (fun m1 l1 => c_X11_within (b_X11_within_0 x1 0 1 (zu s 172 0 0) ?_ ?_ ?_))
  · intro g2
    show zT (zE 1490) (Pt PX11_plan) m1 (11, [((172 : Nat) : Int), x1, x2, x3, x4], [(0, 0)], zu s 172 0 0) Q
    refine tI1 rfl (fun g _ l => (absurd g (by decide))) (fun g _ l => zT_le ?_ (Nat.le_of_lt l))
    refine tK rfl ?_
    exact tR rfl (h0 g2)
  · intro g3 g4
    show zT (zE 1490) (Pt PX11_plan) m1 (11, [((172 : Nat) : Int), x1, x2, x3, x4], [(0, 0)], zu s 172 0 0) Q
    refine tI1 rfl (fun g _ l => (absurd g (by decide))) (fun g _ l => zT_le ?_ (Nat.le_of_lt l))
    refine tK rfl ?_
    exact tR rfl (h1 g3 g4)
  · intro g5 g6
    show zT (zE 1490) (Pt PX11_plan) m1 (11, [((172 : Nat) : Int), x1, x2, x3, x4], [(1, 0)], zu s 172 0 0) Q
    refine tI1 rfl (fun g _ l => zT_le ?_ (Nat.le_of_lt l)) (fun g _ l => (absurd g (by decide)))
    refine tK rfl ?_
    refine tS [((172 : Nat) : Int), x1, (-1), x3, x4] rfl rfl ?_
    refine tK rfl ?_
    refine tS [((172 : Nat) : Int), x1, (-1), 0, x4] rfl rfl ?_
    exact zT_le (h2 g5 g6) (Nat.le_trans (Nat.le_of_lt l1) (Nat.le_refl n))

theorem b_X11_plan_20 {n : Nat} {Q : Zr → Prop} (x1 x2 x3 x4 : Int) (s : Zs) 
    (h0 : ∀ (g2 : w32 ((zshl 1 (s 174 1)) - 1) < x3), ∀ (g3 : x2 < 0), Q ([(x2, 0)], s))
    (h1 : ∀ (g2 : w32 ((zshl 1 (s 174 1)) - 1) < x3), ∀ (g3 : 0 ≤ x2), ∀ (g4 : x1 ≠ 1), ∀ m, m < n → zC m 1507 [(((172 : Nat) : Int), 0), (x2, 0)] s (fun p => zT (zE 1490) (Pt PX11_plan) m (116, [((172 : Nat) : Int), x1, x2, x3, x4], p.1 ++ [], p.2) Q))
    (h2 : ∀ (g2 : w32 ((zshl 1 (s 174 1)) - 1) < x3), ∀ (g3 : 0 ≤ x2), ∀ (g4 : x1 = 1), Q ([(x2, 0)], s))
    (h3 : ∀ (g2 : x3 ≤ w32 ((zshl 1 (s 174 1)) - 1)), ∀ m, m < n → zC m 1507 [(((172 : Nat) : Int), 0), (x3, 0)] s (fun p => zT (zE 1490) (Pt PX11_plan) m (33, [((172 : Nat) : Int), x1, x2, x3, x4], p.1 ++ [], p.2) Q)) : zT (zE 1490) (Pt PX11_plan) n (20, [((172 : Nat) : Int), x1, x2, x3, x4], [], s) Q := by
  refine tL x3 0 rfl rfl rfl ?_
  refine tL ((172 : Nat) : Int) 0 rfl rfl rfl ?_
  refine tCall [(((172 : Nat) : Int), 0)] [(x3, 0)] rfl rfl rfl (fun m1 l1 => c_X11_allFlights (b_X11_allFlights_0  s ?_))
  · show zT (zE 1490) (Pt PX11_plan) m1 (25, [((172 : Nat) : Int), x1, x2, x3, x4], [(w32 ((zshl 1 (s 174 1)) - 1), 0), (x3, 0)], s) Q
    refine tJ4 rfl (fun g2 _ l2 => zT_le ?_ (Nat.le_of_lt l2)) (fun g2 _ l2 => zT_le ?_ (Nat.le_of_lt l2))
    · refine tL x2 0 rfl rfl rfl ?_
      refine tI2 rfl (fun g3 _ l3 => zT_le ?_ (Nat.le_of_lt l3)) (fun g3 _ l3 => zT_le ?_ (Nat.le_of_lt l3))
      · refine tL x2 0 rfl rfl rfl ?_
        refine tG rfl ?_
        exact tR rfl (h0 g2 g3)
      · refine tL x1 0 rfl rfl rfl ?_
        refine tK rfl ?_
        refine tJ1 rfl (fun g4 _ l4 => zT_le ?_ (Nat.le_of_lt l4)) (fun g4 _ l4 => zT_le ?_ (Nat.le_of_lt l4))
        · refine tL ((172 : Nat) : Int) 0 rfl rfl rfl ?_
          refine tL x2 0 rfl rfl rfl ?_
          exact tCall [(((172 : Nat) : Int), 0), (x2, 0)] [] rfl rfl rfl (fun m l => h1 g2 g3 g4 m (Nat.lt_of_lt_of_le l (Nat.le_trans (Nat.le_of_lt l1) (Nat.le_refl n))))
        · refine tL x2 0 rfl rfl rfl ?_
          refine tG rfl ?_
          exact tR rfl (h2 g2 g3 g4)
    · refine tL ((172 : Nat) : Int) 0 rfl rfl rfl ?_
      refine tL x3 0 rfl rfl rfl ?_
      exact tCall [(((172 : Nat) : Int), 0), (x3, 0)] [] rfl rfl rfl (fun m l => h3 g2 m (Nat.lt_of_lt_of_le l (Nat.le_trans (Nat.le_of_lt l1) (Nat.le_refl n))))

theorem b_X11_plan_116 {n : Nat} {Q : Zr → Prop} (x1 x2 x3 x4 v0 : Int) (s : Zs) 
    (h0 : Q ([(v0, 0)], s)) : zT (zE 1490) (Pt PX11_plan) n (116, [((172 : Nat) : Int), x1, x2, x3, x4], [(v0, 0)], s) Q := by
  exact tR rfl (h0)

theorem b_X11_plan_33 {n : Nat} {Q : Zr → Prop} (x1 x2 x3 x4 v0 : Int) (s : Zs) 
    (h0 : ∀ (g1 : zand x3 (s 216 0) ≠ 0), ∀ m, m < n → zT (zE 1490) (Pt PX11_plan) m (20, [((172 : Nat) : Int), x1, x2, w32 (x3 + 1), v0], [], s) Q)
    (h1 : ∀ (g1 : zand x3 (s 216 0) = 0), ∀ (g2 : s 216 10 < v0), ∀ m, m < n → zT (zE 1490) (Pt PX11_plan) m (20, [((172 : Nat) : Int), x1, x2, w32 (x3 + 1), v0], [], s) Q)
    (h2 : ∀ (g1 : zand x3 (s 216 0) = 0), ∀ (g2 : v0 ≤ s 216 10), ∀ (g3 : x2 < 0), ∀ m, m < n → zC m 1430 [(((172 : Nat) : Int), 0), (zor (s 216 0) x3, 0)] s (fun p => zT (zE 1490) (Pt PX11_plan) m (87, [((172 : Nat) : Int), x1, x2, x3, v0], p.1 ++ [], p.2) Q))
    (h3 : ∀ (g1 : zand x3 (s 216 0) = 0), ∀ (g2 : v0 ≤ s 216 10), ∀ (g3 : 0 ≤ x2), ∀ m, m < n → zC m 1507 [(((172 : Nat) : Int), 0), (x2, 0)] s (fun p => zT (zE 1490) (Pt PX11_plan) m (69, [((172 : Nat) : Int), x1, x2, x3, v0], p.1 ++ [(v0, 0)], p.2) Q)) : zT (zE 1490) (Pt PX11_plan) n (33, [((172 : Nat) : Int), x1, x2, x3, x4], [(v0, 0)], s) Q := by
  refine tS [((172 : Nat) : Int), x1, x2, x3, v0] rfl rfl ?_
  refine tL x3 0 rfl rfl rfl ?_
  refine tL ((172 : Nat) : Int) 0 rfl rfl rfl ?_
  refine tFR (c := 172) 216 rfl rfl rfl rfl rfl ?_
  refine tK rfl ?_
  refine tAv 216 0 (s 216 0) 0 rfl rfl rfl (by decide) rfl rfl ?_
  refine tB (v := zand x3 (s 216 0)) rfl rfl ?_
  refine tI1 rfl (fun g1 _ l1 => zT_le ?_ (Nat.le_of_lt l1)) (fun g1 _ l1 => zT_le ?_ (Nat.le_of_lt l1))
  · refine tInc [((172 : Nat) : Int), x1, x2, w32 (x3 + 1), v0] rfl rfl ?_
    exact tGb rfl (fun m2 l2 => h0 g1 m2 (Nat.lt_of_lt_of_le l2 (Nat.le_refl n)))
  · refine tL v0 0 rfl rfl rfl ?_
    refine tL ((172 : Nat) : Int) 0 rfl rfl rfl ?_
    refine tFR (c := 172) 216 rfl rfl rfl rfl rfl ?_
    refine tK rfl ?_
    refine tAv 216 10 (s 216 10) 0 rfl rfl rfl (by decide) rfl rfl ?_
    refine tJ4 rfl (fun g2 _ l2 => zT_le ?_ (Nat.le_of_lt l2)) (fun g2 _ l2 => zT_le ?_ (Nat.le_of_lt l2))
    · refine tInc [((172 : Nat) : Int), x1, x2, w32 (x3 + 1), v0] rfl rfl ?_
      exact tGb rfl (fun m2 l2 => h1 g1 g2 m2 (Nat.lt_of_lt_of_le l2 (Nat.le_refl n)))
    · refine tL x2 0 rfl rfl rfl ?_
      refine tI2 rfl (fun g3 _ l3 => zT_le ?_ (Nat.le_of_lt l3)) (fun g3 _ l3 => zT_le ?_ (Nat.le_of_lt l3))
      · refine tL ((172 : Nat) : Int) 0 rfl rfl rfl ?_
        refine tL ((172 : Nat) : Int) 0 rfl rfl rfl ?_
        refine tFR (c := 172) 216 rfl rfl rfl rfl rfl ?_
        refine tK rfl ?_
        refine tAv 216 0 (s 216 0) 0 rfl rfl rfl (by decide) rfl rfl ?_
        refine tL x3 0 rfl rfl rfl ?_
        refine tB (v := zor (s 216 0) x3) rfl rfl ?_
        exact tCall [(((172 : Nat) : Int), 0), (zor (s 216 0) x3, 0)] [] rfl rfl rfl (fun m l => h2 g1 g2 g3 m (Nat.lt_of_lt_of_le l (Nat.le_refl n)))
      · refine tL v0 0 rfl rfl rfl ?_
        refine tL ((172 : Nat) : Int) 0 rfl rfl rfl ?_
        refine tL x2 0 rfl rfl rfl ?_
        exact tCall [(((172 : Nat) : Int), 0), (x2, 0)] [(v0, 0)] rfl rfl rfl (fun m l => h3 g1 g2 g3 m (Nat.lt_of_lt_of_le l (Nat.le_refl n)))

theorem b_X11_plan_87 {n : Nat} {Q : Zr → Prop} (x1 x2 x3 x4 v0 : Int) (s : Zs) 
    (h0 : ∀ (g1 : v0 ≠ 0), ∀ m, m < n → zT (zE 1490) (Pt PX11_plan) m (20, [((172 : Nat) : Int), x1, x2, w32 (x3 + 1), x4], [], s) Q)
    (h1 : ∀ (g1 : v0 = 0), ∀ m, m < n → zT (zE 1490) (Pt PX11_plan) m (20, [((172 : Nat) : Int), x1, x3, w32 (x3 + 1), x4], [], s) Q) : zT (zE 1490) (Pt PX11_plan) n (87, [((172 : Nat) : Int), x1, x2, x3, x4], [(v0, 0)], s) Q := by
  refine tI1 rfl (fun g1 _ l1 => zT_le ?_ (Nat.le_of_lt l1)) (fun g1 _ l1 => zT_le ?_ (Nat.le_of_lt l1))
  · refine tInc [((172 : Nat) : Int), x1, x2, w32 (x3 + 1), x4] rfl rfl ?_
    exact tGb rfl (fun m2 l2 => h0 g1 m2 (Nat.lt_of_lt_of_le l2 (Nat.le_refl n)))
  · refine tL x3 0 rfl rfl rfl ?_
    refine tS [((172 : Nat) : Int), x1, x3, x3, x4] rfl rfl ?_
    refine tInc [((172 : Nat) : Int), x1, x3, w32 (x3 + 1), x4] rfl rfl ?_
    exact tGb rfl (fun m2 l2 => h1 g1 m2 (Nat.lt_of_lt_of_le l2 (Nat.le_refl n)))

theorem b_X11_plan_69 {n : Nat} {Q : Zr → Prop} (x1 x2 x3 x4 v0 y0 : Int) (s : Zs) 
    (h0 : ∀ (g1 : y0 < v0), ∀ m, m < n → zC m 1430 [(((172 : Nat) : Int), 0), (zor (s 216 0) x3, 0)] s (fun p => zT (zE 1490) (Pt PX11_plan) m (87, [((172 : Nat) : Int), x1, x2, x3, x4], p.1 ++ [], p.2) Q))
    (h1 : ∀ (g1 : v0 ≤ y0), ∀ m, m < n → zT (zE 1490) (Pt PX11_plan) m (20, [((172 : Nat) : Int), x1, x2, w32 (x3 + 1), x4], [], s) Q) : zT (zE 1490) (Pt PX11_plan) n (69, [((172 : Nat) : Int), x1, x2, x3, x4], [(v0, 0), (y0, 0)], s) Q := by
  refine tJ2 rfl (fun g1 _ l1 => zT_le ?_ (Nat.le_of_lt l1)) (fun g1 _ l1 => zT_le ?_ (Nat.le_of_lt l1))
  · refine tL ((172 : Nat) : Int) 0 rfl rfl rfl ?_
    refine tL ((172 : Nat) : Int) 0 rfl rfl rfl ?_
    refine tFR (c := 172) 216 rfl rfl rfl rfl rfl ?_
    refine tK rfl ?_
    refine tAv 216 0 (s 216 0) 0 rfl rfl rfl (by decide) rfl rfl ?_
    refine tL x3 0 rfl rfl rfl ?_
    refine tB (v := zor (s 216 0) x3) rfl rfl ?_
    exact tCall [(((172 : Nat) : Int), 0), (zor (s 216 0) x3, 0)] [] rfl rfl rfl (fun m l => h0 g1 m (Nat.lt_of_lt_of_le l (Nat.le_refl n)))
  · refine tG rfl ?_
    refine tInc [((172 : Nat) : Int), x1, x2, w32 (x3 + 1), x4] rfl rfl ?_
    exact tGb rfl (fun m2 l2 => h1 g1 m2 (Nat.lt_of_lt_of_le l2 (Nat.le_refl n)))

theorem c_X11_plan {n : Nat} {Q : Zr → Prop} {a0 a1 : Int} {s : Zs} (h : zT (zE 1490) (Pt PX11_plan) n (0, [a0, a1, 0, 0, 0], [], s) Q) : zC n 1490 [(a0, 0), (a1, 0)] s Q := h

theorem b_X11_isFromTop_0 {n : Nat} {Q : Zr → Prop} (x1 x2 : Int) (s : Zs) 
    (h0 : zT (zE 1448) (Pt PX11_isFromTop) n (2, [((172 : Nat) : Int), x1, 0], [], s) Q) : zT (zE 1448) (Pt PX11_isFromTop) n (0, [((172 : Nat) : Int), x1, x2], [], s) Q := by
  refine tK rfl ?_
  refine tS [((172 : Nat) : Int), x1, 0] rfl rfl ?_
  exact zT_le (h0) (Nat.le_refl n)

theorem b_X11_isFromTop_2 {n : Nat} {Q : Zr → Prop} (x1 x2 : Int) (s : Zs) 
    (h0 : ∀ (g1 : s 174 1 ≤ x2), Q ([(1, 0)], s))
    (h1 : ∀ (g1 : x2 < s 174 1), ∀ (g2 : zand (zshr x1 x2) 1 ≠ 1), ∀ m, m < n → zT (zE 1448) (Pt PX11_isFromTop) m (2, [((172 : Nat) : Int), x1, w32 (x2 + 1)], [], s) Q)
    (h2 : ∀ (g1 : x2 < s 174 1), ∀ (g2 : zand (zshr x1 x2) 1 = 1), ∀ m, m < n → zC m 1408 [(((172 : Nat) : Int), 0), (x2, 0)] s (fun p => zT (zE 1448) (Pt PX11_isFromTop) m (26, [((172 : Nat) : Int), x1, x2], p.1 ++ [], p.2) Q)) : zT (zE 1448) (Pt PX11_isFromTop) n (2, [((172 : Nat) : Int), x1, x2], [], s) Q := by
  refine tL x2 0 rfl rfl rfl ?_
  refine tL ((172 : Nat) : Int) 0 rfl rfl rfl ?_
  refine tFR (c := 172) 174 rfl rfl rfl rfl rfl ?_
  refine tK rfl ?_
  refine tAv 174 1 (s 174 1) 0 rfl rfl rfl (by decide) rfl rfl ?_
  refine tJ3 rfl (fun g1 _ l1 => zT_le ?_ (Nat.le_of_lt l1)) (fun g1 _ l1 => zT_le ?_ (Nat.le_of_lt l1))
  · refine tK rfl ?_
    exact tR rfl (h0 g1)
  · refine tL x1 0 rfl rfl rfl ?_
    refine tL x2 0 rfl rfl rfl ?_
    refine tB (v := zshr x1 x2) rfl rfl ?_
    refine tK rfl ?_
    refine tB (v := zand (zshr x1 x2) 1) rfl rfl ?_
    refine tK rfl ?_
    refine tJ1 rfl (fun g2 _ l2 => zT_le ?_ (Nat.le_of_lt l2)) (fun g2 _ l2 => zT_le ?_ (Nat.le_of_lt l2))
    · refine tInc [((172 : Nat) : Int), x1, w32 (x2 + 1)] rfl rfl ?_
      exact tGb rfl (fun m2 l2 => h1 g1 g2 m2 (Nat.lt_of_lt_of_le l2 (Nat.le_refl n)))
    · refine tL ((172 : Nat) : Int) 0 rfl rfl rfl ?_
      refine tL x2 0 rfl rfl rfl ?_
      exact tCall [(((172 : Nat) : Int), 0), (x2, 0)] [] rfl rfl rfl (fun m l => h2 g1 g2 m (Nat.lt_of_lt_of_le l (Nat.le_refl n)))

theorem b_X11_isFromTop_26 {n : Nat} {Q : Zr → Prop} (x1 x2 v0 : Int) (s : Zs) 
    (h0 : ∀ (g1 : zand (zand v0 (s 216 0)) (zxor x1 (-1)) = 0), ∀ m, m < n → zT (zE 1448) (Pt PX11_isFromTop) m (2, [((172 : Nat) : Int), x1, w32 (x2 + 1)], [], s) Q)
    (h1 : ∀ (g1 : zand (zand v0 (s 216 0)) (zxor x1 (-1)) ≠ 0), Q ([(0, 0)], s)) : zT (zE 1448) (Pt PX11_isFromTop) n (26, [((172 : Nat) : Int), x1, x2], [(v0, 0)], s) Q := by
  refine tL ((172 : Nat) : Int) 0 rfl rfl rfl ?_
  refine tFR (c := 172) 216 rfl rfl rfl rfl rfl ?_
  refine tK rfl ?_
  refine tAv 216 0 (s 216 0) 0 rfl rfl rfl (by decide) rfl rfl ?_
  refine tB (v := zand v0 (s 216 0)) rfl rfl ?_
  refine tL x1 0 rfl rfl rfl ?_
  refine tK rfl ?_
  refine tB (v := zxor x1 (-1)) rfl rfl ?_
  refine tB (v := zand (zand v0 (s 216 0)) (zxor x1 (-1))) rfl rfl ?_
  refine tI0 rfl (fun g1 _ l1 => zT_le ?_ (Nat.le_of_lt l1)) (fun g1 _ l1 => zT_le ?_ (Nat.le_of_lt l1))
  · refine tInc [((172 : Nat) : Int), x1, w32 (x2 + 1)] rfl rfl ?_
    exact tGb rfl (fun m2 l2 => h0 g1 m2 (Nat.lt_of_lt_of_le l2 (Nat.le_refl n)))
  · refine tK rfl ?_
    exact tR rfl (h1 g1)

theorem c_X11_isFromTop {n : Nat} {Q : Zr → Prop} {a0 a1 : Int} {s : Zs} (h : zT (zE 1448) (Pt PX11_isFromTop) n (0, [a0, a1, 0], [], s) Q) : zC n 1448 [(a0, 0), (a1, 0)] s Q := h

theorem b_X11_thefts_0 {n : Nat} {Q : Zr → Prop} (x1 x2 x3 x4 x5 x6 : Int) (s : Zs) 
    (h0 : ∀ (g2 : x1 < 0), Q ([((-1), 0)], zu s 172 0 0))
    (h1 : ∀ (g3 : 0 ≤ x1), ∀ (g4 : 10 < x1), Q ([((-1), 0)], zu s 172 0 0))
    (h2 : ∀ (g5 : 0 ≤ x1), ∀ (g6 : x1 ≤ 10), ∀ (g8 : x2 < 0), Q ([((-1), 0)], zu s 172 0 0))
    (h3 : ∀ (g5 : 0 ≤ x1), ∀ (g6 : x1 ≤ 10), ∀ (g9 : 0 ≤ x2), ∀ (g10 : 5 < x2), Q ([((-1), 0)], zu s 172 0 0))
    (h4 : ∀ (g5 : 0 ≤ x1), ∀ (g6 : x1 ≤ 10), ∀ (g11 : 0 ≤ x2), ∀ (g12 : x2 ≤ 5), ∀ (g14 : x3 < 0), Q ([((-1), 0)], zu s 172 0 0))
    (h5 : ∀ (g5 : 0 ≤ x1), ∀ (g6 : x1 ≤ 10), ∀ (g11 : 0 ≤ x2), ∀ (g12 : x2 ≤ 5), ∀ (g15 : 0 ≤ x3), ∀ (g16 : 1 < x3), Q ([((-1), 0)], zu s 172 0 0))
    (h6 : ∀ (g5 : 0 ≤ x1), ∀ (g6 : x1 ≤ 10), ∀ (g11 : 0 ≤ x2), ∀ (g12 : x2 ≤ 5), ∀ (g17 : 0 ≤ x3), ∀ (g18 : x3 ≤ 1), zT (zE 1518) (Pt PX11_thefts) n (41, [((172 : Nat) : Int), x1, x2, x3, (-1), 0, x6], [], zu s 172 0 0) Q) : zT (zE 1518) (Pt PX11_thefts) n (0, [((172 : Nat) : Int), x1, x2, x3, x4, x5, x6], [], s) Q := by
  refine tL ((172 : Nat) : Int) 0 rfl rfl rfl ?_
  refine tK rfl ?_
  refine tPut 172 rfl rfl ?_
  refine tL x1 0 rfl rfl rfl ?_
  refine tK rfl ?_
  refine tK rfl ?_
  refine tCall [(x1, 0), (0, 0), (10, 0)] [] rfl rfl rfl (fun m1 l1 => c_X11_within (b_X11_within_0 x1 0 10 (zu s 172 0 0) ?_ ?_ ?_))
  · intro g2
    show zT (zE 1518) (Pt PX11_thefts) m1 (12, [((172 : Nat) : Int), x1, x2, x3, x4, x5, x6], [(0, 0)], zu s 172 0 0) Q
    refine tI0 rfl (fun g _ l => zT_le ?_ (Nat.le_of_lt l)) (fun g _ l => (absurd g (by decide)))
    refine tK rfl ?_
    exact tR rfl (h0 g2)
  · intro g3 g4
    show zT (zE 1518) (Pt PX11_thefts) m1 (12, [((172 : Nat) : Int), x1, x2, x3, x4, x5, x6], [(0, 0)], zu s 172 0 0) Q
    refine tI0 rfl (fun g _ l => zT_le ?_ (Nat.le_of_lt l)) (fun g _ l => (absurd g (by decide)))
    refine tK rfl ?_
    exact tR rfl (h1 g3 g4)
  · intro g5 g6
    show zT (zE 1518) (Pt PX11_thefts) m1 (12, [((172 : Nat) : Int), x1, x2, x3, x4, x5, x6], [(1, 0)], zu s 172 0 0) Q
    refine tI0 rfl (fun g _ l => (absurd g (by decide))) (fun g _ l => zT_le ?_ (Nat.le_of_lt l))
    refine tL x2 0 rfl rfl rfl ?_
    refine tK rfl ?_
    refine tK rfl ?_
    refine tCall [(x2, 0), (0, 0), (5, 0)] [] rfl rfl rfl (fun m7 l7 => c_X11_within (b_X11_within_0 x2 0 5 (zu s 172 0 0) ?_ ?_ ?_))
    · intro g8
      show zT (zE 1518) (Pt PX11_thefts) m7 (21, [((172 : Nat) : Int), x1, x2, x3, x4, x5, x6], [(0, 0)], zu s 172 0 0) Q
      refine tI0 rfl (fun g _ l => zT_le ?_ (Nat.le_of_lt l)) (fun g _ l => (absurd g (by decide)))
      refine tK rfl ?_
      exact tR rfl (h2 g5 g6 g8)
    · intro g9 g10
      show zT (zE 1518) (Pt PX11_thefts) m7 (21, [((172 : Nat) : Int), x1, x2, x3, x4, x5, x6], [(0, 0)], zu s 172 0 0) Q
      refine tI0 rfl (fun g _ l => zT_le ?_ (Nat.le_of_lt l)) (fun g _ l => (absurd g (by decide)))
      refine tK rfl ?_
      exact tR rfl (h3 g5 g6 g9 g10)
    · intro g11 g12
      show zT (zE 1518) (Pt PX11_thefts) m7 (21, [((172 : Nat) : Int), x1, x2, x3, x4, x5, x6], [(1, 0)], zu s 172 0 0) Q
      refine tI0 rfl (fun g _ l => (absurd g (by decide))) (fun g _ l => zT_le ?_ (Nat.le_of_lt l))
      refine tL x3 0 rfl rfl rfl ?_
      refine tK rfl ?_
      refine tK rfl ?_
      refine tCall [(x3, 0), (0, 0), (1, 0)] [] rfl rfl rfl (fun m13 l13 => c_X11_within (b_X11_within_0 x3 0 1 (zu s 172 0 0) ?_ ?_ ?_))
      · intro g14
        show zT (zE 1518) (Pt PX11_thefts) m13 (30, [((172 : Nat) : Int), x1, x2, x3, x4, x5, x6], [(0, 0)], zu s 172 0 0) Q
        refine tI1 rfl (fun g _ l => (absurd g (by decide))) (fun g _ l => zT_le ?_ (Nat.le_of_lt l))
        refine tK rfl ?_
        exact tR rfl (h4 g5 g6 g11 g12 g14)
      · intro g15 g16
        show zT (zE 1518) (Pt PX11_thefts) m13 (30, [((172 : Nat) : Int), x1, x2, x3, x4, x5, x6], [(0, 0)], zu s 172 0 0) Q
        refine tI1 rfl (fun g _ l => (absurd g (by decide))) (fun g _ l => zT_le ?_ (Nat.le_of_lt l))
        refine tK rfl ?_
        exact tR rfl (h5 g5 g6 g11 g12 g15 g16)
      · intro g17 g18
        show zT (zE 1518) (Pt PX11_thefts) m13 (30, [((172 : Nat) : Int), x1, x2, x3, x4, x5, x6], [(1, 0)], zu s 172 0 0) Q
        refine tI1 rfl (fun g _ l => zT_le ?_ (Nat.le_of_lt l)) (fun g _ l => (absurd g (by decide)))
        refine tK rfl ?_
        refine tS [((172 : Nat) : Int), x1, x2, x3, (-1), x5, x6] rfl rfl ?_
        refine tK rfl ?_
        refine tS [((172 : Nat) : Int), x1, x2, x3, (-1), 0, x6] rfl rfl ?_
        exact zT_le (h6 g5 g6 g11 g12 g17 g18) (Nat.le_trans (Nat.le_of_lt l13) (Nat.le_trans (Nat.le_of_lt l7) (Nat.le_trans (Nat.le_of_lt l1) (Nat.le_refl n))))

theorem b_X11_thefts_41 {n : Nat} {Q : Zr → Prop} (x1 x2 x3 x4 x5 x6 : Int) (s : Zs) 
    (h0 : ∀ (g2 : w32 ((zshl 1 (s 174 1)) - 1) < x5), ∀ (g3 : x4 < 0), Q ([(x4, 0)], s))
    (h1 : ∀ (g2 : w32 ((zshl 1 (s 174 1)) - 1) < x5), ∀ (g3 : 0 ≤ x4), ∀ (g4 : x3 ≠ 1), ∀ m, m < n → zC m 1507 [(((172 : Nat) : Int), 0), (x4, 0)] s (fun p => zT (zE 1518) (Pt PX11_thefts) m (188, [((172 : Nat) : Int), x1, x2, x3, x4, x5, x6], p.1 ++ [], p.2) Q))
    (h2 : ∀ (g2 : w32 ((zshl 1 (s 174 1)) - 1) < x5), ∀ (g3 : 0 ≤ x4), ∀ (g4 : x3 = 1), Q ([(x4, 0)], s))
    (h3 : ∀ (g2 : x5 ≤ w32 ((zshl 1 (s 174 1)) - 1)), ∀ (g6 : zand x5 (zxor (s 216 0) (-1)) ≠ 0), ∀ m, m < n → zT (zE 1518) (Pt PX11_thefts) m (41, [((172 : Nat) : Int), x1, x2, x3, x4, w32 (x5 + 1), x6], [], s) Q)
    (h4 : ∀ (g2 : x5 ≤ w32 ((zshl 1 (s 174 1)) - 1)), ∀ (g6 : zand x5 (zxor (s 216 0) (-1)) = 0), ∀ m, m < n → zC m 1414 [(x5, 0)] s (fun p => zT (zE 1518) (Pt PX11_thefts) m (69, [((172 : Nat) : Int), x1, x2, x3, x4, x5, x6], p.1 ++ [], p.2) Q)) : zT (zE 1518) (Pt PX11_thefts) n (41, [((172 : Nat) : Int), x1, x2, x3, x4, x5, x6], [], s) Q := by
  refine tL x5 0 rfl rfl rfl ?_
  refine tL ((172 : Nat) : Int) 0 rfl rfl rfl ?_
  refine tCall [(((172 : Nat) : Int), 0)] [(x5, 0)] rfl rfl rfl (fun m1 l1 => c_X11_allFlights (b_X11_allFlights_0  s ?_))
  · show zT (zE 1518) (Pt PX11_thefts) m1 (47, [((172 : Nat) : Int), x1, x2, x3, x4, x5, x6], [(w32 ((zshl 1 (s 174 1)) - 1), 0), (x5, 0)], s) Q
    refine tJ4 rfl (fun g2 _ l2 => zT_le ?_ (Nat.le_of_lt l2)) (fun g2 _ l2 => zT_le ?_ (Nat.le_of_lt l2))
    · refine tL x4 0 rfl rfl rfl ?_
      refine tI2 rfl (fun g3 _ l3 => zT_le ?_ (Nat.le_of_lt l3)) (fun g3 _ l3 => zT_le ?_ (Nat.le_of_lt l3))
      · refine tL x4 0 rfl rfl rfl ?_
        refine tG rfl ?_
        exact tR rfl (h0 g2 g3)
      · refine tL x3 0 rfl rfl rfl ?_
        refine tK rfl ?_
        refine tJ1 rfl (fun g4 _ l4 => zT_le ?_ (Nat.le_of_lt l4)) (fun g4 _ l4 => zT_le ?_ (Nat.le_of_lt l4))
        · refine tL ((172 : Nat) : Int) 0 rfl rfl rfl ?_
          refine tL x4 0 rfl rfl rfl ?_
          exact tCall [(((172 : Nat) : Int), 0), (x4, 0)] [] rfl rfl rfl (fun m l => h1 g2 g3 g4 m (Nat.lt_of_lt_of_le l (Nat.le_trans (Nat.le_of_lt l1) (Nat.le_refl n))))
        · refine tL x4 0 rfl rfl rfl ?_
          refine tG rfl ?_
          exact tR rfl (h2 g2 g3 g4)
    · refine tL x5 0 rfl rfl rfl ?_
      refine tL ((172 : Nat) : Int) 0 rfl rfl rfl ?_
      refine tFR (c := 172) 216 rfl rfl rfl rfl rfl ?_
      refine tK rfl ?_
      refine tAv 216 0 (s 216 0) 0 rfl rfl rfl (by decide) rfl rfl ?_
      refine tK rfl ?_
      refine tB (v := zxor (s 216 0) (-1)) rfl rfl ?_
      refine tB (v := zand x5 (zxor (s 216 0) (-1))) rfl rfl ?_
      refine tI1 rfl (fun g6 _ l6 => zT_le ?_ (Nat.le_of_lt l6)) (fun g6 _ l6 => zT_le ?_ (Nat.le_of_lt l6))
      · refine tInc [((172 : Nat) : Int), x1, x2, x3, x4, w32 (x5 + 1), x6] rfl rfl ?_
        exact tGb rfl (fun m2 l2 => h3 g2 g6 m2 (Nat.lt_of_lt_of_le l2 (Nat.le_trans (Nat.le_of_lt l1) (Nat.le_refl n))))
      · refine tL x5 0 rfl rfl rfl ?_
        exact tCall [(x5, 0)] [] rfl rfl rfl (fun m l => h4 g2 g6 m (Nat.lt_of_lt_of_le l (Nat.le_trans (Nat.le_of_lt l1) (Nat.le_refl n))))

theorem b_X11_thefts_188 {n : Nat} {Q : Zr → Prop} (x1 x2 x3 x4 x5 x6 v0 : Int) (s : Zs) 
    (h0 : Q ([(v0, 0)], s)) : zT (zE 1518) (Pt PX11_thefts) n (188, [((172 : Nat) : Int), x1, x2, x3, x4, x5, x6], [(v0, 0)], s) Q := by
  exact tR rfl (h0)

theorem b_X11_thefts_69 {n : Nat} {Q : Zr → Prop} (x1 x2 x3 x4 x5 x6 v0 : Int) (s : Zs) 
    (h0 : ∀ (g1 : x1 < v0), ∀ m, m < n → zT (zE 1518) (Pt PX11_thefts) m (41, [((172 : Nat) : Int), x1, x2, x3, x4, w32 (x5 + 1), x6], [], s) Q)
    (h1 : ∀ (g1 : v0 ≤ x1), ∀ m, m < n → zC m 1448 [(((172 : Nat) : Int), 0), (x5, 0)] s (fun p => zT (zE 1518) (Pt PX11_thefts) m (79, [((172 : Nat) : Int), x1, x2, x3, x4, x5, x6], p.1 ++ [], p.2) Q)) : zT (zE 1518) (Pt PX11_thefts) n (69, [((172 : Nat) : Int), x1, x2, x3, x4, x5, x6], [(v0, 0)], s) Q := by
  refine tL x1 0 rfl rfl rfl ?_
  refine tJ4 rfl (fun g1 _ l1 => zT_le ?_ (Nat.le_of_lt l1)) (fun g1 _ l1 => zT_le ?_ (Nat.le_of_lt l1))
  · refine tInc [((172 : Nat) : Int), x1, x2, x3, x4, w32 (x5 + 1), x6] rfl rfl ?_
    exact tGb rfl (fun m2 l2 => h0 g1 m2 (Nat.lt_of_lt_of_le l2 (Nat.le_refl n)))
  · refine tL ((172 : Nat) : Int) 0 rfl rfl rfl ?_
    refine tL x5 0 rfl rfl rfl ?_
    exact tCall [(((172 : Nat) : Int), 0), (x5, 0)] [] rfl rfl rfl (fun m l => h1 g1 m (Nat.lt_of_lt_of_le l (Nat.le_refl n)))

theorem b_X11_thefts_79 {n : Nat} {Q : Zr → Prop} (x1 x2 x3 x4 x5 x6 v0 : Int) (s : Zs) 
    (h0 : ∀ (g1 : v0 ≠ 0), ∀ (g2 : 0 ≤ x4), ∀ m, m < n → zC m 1507 [(((172 : Nat) : Int), 0), (x5, 0)] s (fun p => zT (zE 1518) (Pt PX11_thefts) m (100, [((172 : Nat) : Int), x1, x2, x3, x4, x5, x6], p.1 ++ [], p.2) Q))
    (h1 : ∀ (g1 : v0 ≠ 0), ∀ (g2 : x4 < 0), ∀ m, m < n → zC m 1430 [(((172 : Nat) : Int), 0), (zand (s 216 0) (zxor x5 (-1)), 0)] s (fun p => zT (zE 1518) (Pt PX11_thefts) m (150, [((172 : Nat) : Int), x1, x2, x3, x4, x5, 1], p.1 ++ [], p.2) Q))
    (h2 : ∀ (g1 : v0 = 0), ∀ m, m < n → zT (zE 1518) (Pt PX11_thefts) m (41, [((172 : Nat) : Int), x1, x2, x3, x4, w32 (x5 + 1), x6], [], s) Q) : zT (zE 1518) (Pt PX11_thefts) n (79, [((172 : Nat) : Int), x1, x2, x3, x4, x5, x6], [(v0, 0)], s) Q := by
  refine tI1 rfl (fun g1 _ l1 => zT_le ?_ (Nat.le_of_lt l1)) (fun g1 _ l1 => zT_le ?_ (Nat.le_of_lt l1))
  · refine tL x4 0 rfl rfl rfl ?_
    refine tI3 rfl (fun g2 _ l2 => zT_le ?_ (Nat.le_of_lt l2)) (fun g2 _ l2 => zT_le ?_ (Nat.le_of_lt l2))
    · refine tL ((172 : Nat) : Int) 0 rfl rfl rfl ?_
      refine tL x5 0 rfl rfl rfl ?_
      exact tCall [(((172 : Nat) : Int), 0), (x5, 0)] [] rfl rfl rfl (fun m l => h0 g1 g2 m (Nat.lt_of_lt_of_le l (Nat.le_refl n)))
    · refine tK rfl ?_
      refine tG rfl ?_
      refine tS [((172 : Nat) : Int), x1, x2, x3, x4, x5, 1] rfl rfl ?_
      refine tL 1 0 rfl rfl rfl ?_
      refine tI2 rfl (fun g _ l => (absurd g (by decide))) (fun g _ l => zT_le ?_ (Nat.le_of_lt l))
      refine tL 1 0 rfl rfl rfl ?_
      refine tI1 rfl (fun g _ l => zT_le ?_ (Nat.le_of_lt l)) (fun g _ l => (absurd g (by decide)))
      refine tL ((172 : Nat) : Int) 0 rfl rfl rfl ?_
      refine tL ((172 : Nat) : Int) 0 rfl rfl rfl ?_
      refine tFR (c := 172) 216 rfl rfl rfl rfl rfl ?_
      refine tK rfl ?_
      refine tAv 216 0 (s 216 0) 0 rfl rfl rfl (by decide) rfl rfl ?_
      refine tL x5 0 rfl rfl rfl ?_
      refine tK rfl ?_
      refine tB (v := zxor x5 (-1)) rfl rfl ?_
      refine tB (v := zand (s 216 0) (zxor x5 (-1))) rfl rfl ?_
      exact tCall [(((172 : Nat) : Int), 0), (zand (s 216 0) (zxor x5 (-1)), 0)] [] rfl rfl rfl (fun m l => h1 g1 g2 m (Nat.lt_of_lt_of_le l (Nat.le_refl n)))
  · refine tG rfl ?_
    refine tInc [((172 : Nat) : Int), x1, x2, x3, x4, w32 (x5 + 1), x6] rfl rfl ?_
    exact tGb rfl (fun m2 l2 => h2 g1 m2 (Nat.lt_of_lt_of_le l2 (Nat.le_refl n)))

theorem b_X11_thefts_100 {n : Nat} {Q : Zr → Prop} (x1 x2 x3 x4 x5 x6 v0 : Int) (s : Zs) 
    (h0 : ∀ m, m < n → zC m 1507 [(((172 : Nat) : Int), 0), (x4, 0)] s (fun p => zT (zE 1518) (Pt PX11_thefts) m (106, [((172 : Nat) : Int), x1, x2, x3, x4, x5, x6], p.1 ++ [(v0, 0)], p.2) Q)) : zT (zE 1518) (Pt PX11_thefts) n (100, [((172 : Nat) : Int), x1, x2, x3, x4, x5, x6], [(v0, 0)], s) Q := by
  refine tL ((172 : Nat) : Int) 0 rfl rfl rfl ?_
  refine tL x4 0 rfl rfl rfl ?_
  exact tCall [(((172 : Nat) : Int), 0), (x4, 0)] [(v0, 0)] rfl rfl rfl (fun m l => h0 m (Nat.lt_of_lt_of_le l (Nat.le_refl n)))

theorem b_X11_thefts_150 {n : Nat} {Q : Zr → Prop} (x1 x2 x3 x4 x5 x6 v0 : Int) (s : Zs) 
    (h0 : ∀ m, m < n → zC m 1414 [(v0, 0)] s (fun p => zT (zE 1518) (Pt PX11_thefts) m (153, [((172 : Nat) : Int), x1, x2, x3, x4, x5, x6], p.1 ++ [], p.2) Q)) : zT (zE 1518) (Pt PX11_thefts) n (150, [((172 : Nat) : Int), x1, x2, x3, x4, x5, x6], [(v0, 0)], s) Q := by
  exact tCall [(v0, 0)] [] rfl rfl rfl (fun m l => h0 m (Nat.lt_of_lt_of_le l (Nat.le_refl n)))

theorem b_X11_thefts_106 {n : Nat} {Q : Zr → Prop} (x1 x2 x3 x4 x5 x6 v0 y0 : Int) (s : Zs) 
    (h0 : ∀ (g1 : w32 (y0 - v0) < 0), ∀ m, m < n → zT (zE 1518) (Pt PX11_thefts) m (41, [((172 : Nat) : Int), x1, x2, x3, x4, w32 (x5 + 1), w32 (y0 - v0)], [], s) Q)
    (h1 : ∀ (g1 : 0 ≤ w32 (y0 - v0)), ∀ (g2 : w32 (y0 - v0) ≠ 0), ∀ m, m < n → zC m 1430 [(((172 : Nat) : Int), 0), (zand (s 216 0) (zxor x5 (-1)), 0)] s (fun p => zT (zE 1518) (Pt PX11_thefts) m (150, [((172 : Nat) : Int), x1, x2, x3, x4, x5, w32 (y0 - v0)], p.1 ++ [], p.2) Q))
    (h2 : ∀ (g1 : 0 ≤ w32 (y0 - v0)), ∀ (g2 : w32 (y0 - v0) = 0), ∀ m, m < n → zC m 1414 [(x5, 0)] s (fun p => zT (zE 1518) (Pt PX11_thefts) m (124, [((172 : Nat) : Int), x1, x2, x3, x4, x5, w32 (y0 - v0)], p.1 ++ [], p.2) Q)) : zT (zE 1518) (Pt PX11_thefts) n (106, [((172 : Nat) : Int), x1, x2, x3, x4, x5, x6], [(v0, 0), (y0, 0)], s) Q := by
  refine tB (v := w32 (y0 - v0)) rfl rfl ?_
  refine tS [((172 : Nat) : Int), x1, x2, x3, x4, x5, w32 (y0 - v0)] rfl rfl ?_
  refine tL (w32 (y0 - v0)) 0 rfl rfl rfl ?_
  refine tI2 rfl (fun g1 _ l1 => zT_le ?_ (Nat.le_of_lt l1)) (fun g1 _ l1 => zT_le ?_ (Nat.le_of_lt l1))
  · refine tInc [((172 : Nat) : Int), x1, x2, x3, x4, w32 (x5 + 1), w32 (y0 - v0)] rfl rfl ?_
    exact tGb rfl (fun m2 l2 => h0 g1 m2 (Nat.lt_of_lt_of_le l2 (Nat.le_refl n)))
  · refine tL (w32 (y0 - v0)) 0 rfl rfl rfl ?_
    refine tI1 rfl (fun g2 _ l2 => zT_le ?_ (Nat.le_of_lt l2)) (fun g2 _ l2 => zT_le ?_ (Nat.le_of_lt l2))
    · refine tL ((172 : Nat) : Int) 0 rfl rfl rfl ?_
      refine tL ((172 : Nat) : Int) 0 rfl rfl rfl ?_
      refine tFR (c := 172) 216 rfl rfl rfl rfl rfl ?_
      refine tK rfl ?_
      refine tAv 216 0 (s 216 0) 0 rfl rfl rfl (by decide) rfl rfl ?_
      refine tL x5 0 rfl rfl rfl ?_
      refine tK rfl ?_
      refine tB (v := zxor x5 (-1)) rfl rfl ?_
      refine tB (v := zand (s 216 0) (zxor x5 (-1))) rfl rfl ?_
      exact tCall [(((172 : Nat) : Int), 0), (zand (s 216 0) (zxor x5 (-1)), 0)] [] rfl rfl rfl (fun m l => h1 g1 g2 m (Nat.lt_of_lt_of_le l (Nat.le_refl n)))
    · refine tL x5 0 rfl rfl rfl ?_
      exact tCall [(x5, 0)] [] rfl rfl rfl (fun m l => h2 g1 g2 m (Nat.lt_of_lt_of_le l (Nat.le_refl n)))

theorem b_X11_thefts_153 {n : Nat} {Q : Zr → Prop} (x1 x2 x3 x4 x5 x6 v0 : Int) (s : Zs) 
    (h0 : ∀ (g1 : x2 < v0), ∀ m, m < n → zT (zE 1518) (Pt PX11_thefts) m (41, [((172 : Nat) : Int), x1, x2, x3, x4, w32 (x5 + 1), x6], [], s) Q)
    (h1 : ∀ (g1 : v0 ≤ x2), ∀ m, m < n → zT (zE 1518) (Pt PX11_thefts) m (41, [((172 : Nat) : Int), x1, x2, x3, x5, w32 (x5 + 1), x6], [], s) Q) : zT (zE 1518) (Pt PX11_thefts) n (153, [((172 : Nat) : Int), x1, x2, x3, x4, x5, x6], [(v0, 0)], s) Q := by
  refine tL x2 0 rfl rfl rfl ?_
  refine tJ4 rfl (fun g1 _ l1 => zT_le ?_ (Nat.le_of_lt l1)) (fun g1 _ l1 => zT_le ?_ (Nat.le_of_lt l1))
  · refine tInc [((172 : Nat) : Int), x1, x2, x3, x4, w32 (x5 + 1), x6] rfl rfl ?_
    exact tGb rfl (fun m2 l2 => h0 g1 m2 (Nat.lt_of_lt_of_le l2 (Nat.le_refl n)))
  · refine tL x5 0 rfl rfl rfl ?_
    refine tS [((172 : Nat) : Int), x1, x2, x3, x5, x5, x6] rfl rfl ?_
    refine tInc [((172 : Nat) : Int), x1, x2, x3, x5, w32 (x5 + 1), x6] rfl rfl ?_
    exact tGb rfl (fun m2 l2 => h1 g1 m2 (Nat.lt_of_lt_of_le l2 (Nat.le_refl n)))

theorem b_X11_thefts_124 {n : Nat} {Q : Zr → Prop} (x1 x2 x3 x4 x5 x6 v0 : Int) (s : Zs) 
    (h0 : ∀ m, m < n → zC m 1414 [(x4, 0)] s (fun p => zT (zE 1518) (Pt PX11_thefts) m (129, [((172 : Nat) : Int), x1, x2, x3, x4, x5, x6], p.1 ++ [(v0, 0)], p.2) Q)) : zT (zE 1518) (Pt PX11_thefts) n (124, [((172 : Nat) : Int), x1, x2, x3, x4, x5, x6], [(v0, 0)], s) Q := by
  refine tL x4 0 rfl rfl rfl ?_
  exact tCall [(x4, 0)] [(v0, 0)] rfl rfl rfl (fun m l => h0 m (Nat.lt_of_lt_of_le l (Nat.le_refl n)))

theorem b_X11_thefts_129 {n : Nat} {Q : Zr → Prop} (x1 x2 x3 x4 x5 x6 v0 y0 : Int) (s : Zs) 
    (h0 : ∀ (g1 : y0 < v0), ∀ m, m < n → zC m 1430 [(((172 : Nat) : Int), 0), (zand (s 216 0) (zxor x5 (-1)), 0)] s (fun p => zT (zE 1518) (Pt PX11_thefts) m (150, [((172 : Nat) : Int), x1, x2, x3, x4, x5, x6], p.1 ++ [], p.2) Q))
    (h1 : ∀ (g1 : v0 ≤ y0), ∀ m, m < n → zT (zE 1518) (Pt PX11_thefts) m (41, [((172 : Nat) : Int), x1, x2, x3, x4, w32 (x5 + 1), x6], [], s) Q) : zT (zE 1518) (Pt PX11_thefts) n (129, [((172 : Nat) : Int), x1, x2, x3, x4, x5, x6], [(v0, 0), (y0, 0)], s) Q := by
  refine tJ2 rfl (fun g1 _ l1 => zT_le ?_ (Nat.le_of_lt l1)) (fun g1 _ l1 => zT_le ?_ (Nat.le_of_lt l1))
  · refine tL ((172 : Nat) : Int) 0 rfl rfl rfl ?_
    refine tL ((172 : Nat) : Int) 0 rfl rfl rfl ?_
    refine tFR (c := 172) 216 rfl rfl rfl rfl rfl ?_
    refine tK rfl ?_
    refine tAv 216 0 (s 216 0) 0 rfl rfl rfl (by decide) rfl rfl ?_
    refine tL x5 0 rfl rfl rfl ?_
    refine tK rfl ?_
    refine tB (v := zxor x5 (-1)) rfl rfl ?_
    refine tB (v := zand (s 216 0) (zxor x5 (-1))) rfl rfl ?_
    exact tCall [(((172 : Nat) : Int), 0), (zand (s 216 0) (zxor x5 (-1)), 0)] [] rfl rfl rfl (fun m l => h0 g1 m (Nat.lt_of_lt_of_le l (Nat.le_refl n)))
  · refine tG rfl ?_
    refine tInc [((172 : Nat) : Int), x1, x2, x3, x4, w32 (x5 + 1), x6] rfl rfl ?_
    exact tGb rfl (fun m2 l2 => h1 g1 m2 (Nat.lt_of_lt_of_le l2 (Nat.le_refl n)))

theorem c_X11_thefts {n : Nat} {Q : Zr → Prop} {a0 a1 a2 a3 : Int} {s : Zs} (h : zT (zE 1518) (Pt PX11_thefts) n (0, [a0, a1, a2, a3, 0, 0, 0], [], s) Q) : zC n 1518 [(a0, 0), (a1, 0), (a2, 0), (a3, 0)] s Q := h

noncomputable def rsV (D : ZD) (T : Nat) : Nat → Int
  | 0 => 0
  | k + 1 => rsV D T k + (if T.testBit k = true then colD D 12 k else 0)
noncomputable def rsA (D : ZD) (T : Nat) : Int := rsV D T (cnt D 1)
def cnB (p : Nat → Bool) : Nat → Nat
  | 0 => 0
  | k + 1 => cnB p k + (if p k = true then 1 else 0)
theorem cnB_le (p : Nat → Bool) : ∀ n, cnB p n ≤ n
  | 0 => Nat.le_refl _
  | n + 1 => by
    have h := cnB_le p n
    have e : cnB p (n + 1) = cnB p n + (if p n = true then 1 else 0) := rfl
    rw [e]
    by_cases c : p n = true
    · rw [if_pos c]; omega
    · rw [if_neg c]; omega
theorem cnB_len (p : Nat → Bool) : ∀ n, ((List.range n).filter p).length = cnB p n
  | 0 => rfl
  | n + 1 => by
    have e : ([n].filter p).length = if p n = true then 1 else 0 := by
      cases h : p n with
      | true => rw [List.filter_cons_of_pos h]; rfl
      | false => rw [List.filter_cons_of_neg (by rw [h]; decide)]; rfl
    have e2 : cnB p (n + 1) = cnB p n + (if p n = true then 1 else 0) := rfl
    rw [e2, List.range_succ, List.filter_append, List.length_append, cnB_len p n, e]
theorem bcn_cnB (x : Nat) : bcn x = cnB (fun i => x.testBit i) 10 := cnB_len _ 10
theorem bcn_10 (x : Nat) : bcn x ≤ 10 := by rw [bcn_cnB]; exact cnB_le _ 10
/-- the best of a row of sets, when a set is taken -/
noncomputable def bsS (C : Nat → Int → Prop) : Nat → Int
  | 0 => -1
  | k + 1 => if dcP (C k (bsS C k)) = true then (k : Int) else bsS C k
theorem bs_y {C : Nat → Int → Prop} {k : Nat} (h : C k (bsS C k)) : bsS C (k + 1) = (k : Int) := if_pos (dcP_yes h)
theorem bs_n {C : Nat → Int → Prop} {k : Nat} (h : ¬ C k (bsS C k)) : bsS C (k + 1) = bsS C k := if_neg (by rw [dcP_no h]; decide)
theorem bs_bd {C : Nat → Int → Prop} : ∀ k, -1 ≤ bsS C k ∧ bsS C k < (k : Int) ∨ bsS C k = -1
  | 0 => Or.inr rfl
  | k + 1 => by
    by_cases c : C k (bsS C k)
    · rw [bs_y c]; omega
    · rw [bs_n c]; have := bs_bd (C := C) k; omega
section Zpl
variable {N t : Nat} {s : Zs} {D : ZD} {S : ZS}
theorem rise_bd (hw : wD D) (hX : wX D) {k : Nat} (hk : k < cnt D 1) : 1 ≤ colD D 12 k ∧ colD D 12 k ≤ 40 := hX.2.1 _ (col_mem' hw (k := 1) (j := 2) (by omega) (by omega) (by decide) hk)
theorem rsV_bd (hw : wD D) (hX : wX D) {T : Nat} : ∀ k, k ≤ cnt D 1 → 0 ≤ rsV D T k ∧ rsV D T k ≤ 40 * (k : Int)
  | 0, _ => ⟨Int.le_refl _, Int.le_refl _⟩
  | k + 1, hk => by
    have h := rsV_bd hw hX (T := T) k (by omega)
    have b := rise_bd hw hX (k := k) (by omega)
    have e : rsV D T (k + 1) = rsV D T k + (if T.testBit k = true then colD D 12 k else 0) := rfl
    rw [e]
    by_cases c : T.testBit k = true
    · rw [if_pos c]; omega
    · rw [if_neg c]; omega
theorem rsA_bd (hw : wD D) (hX : wX D) (T : Nat) : 0 ≤ rsA D T ∧ rsA D T ≤ 400 := by
  have h10 : cnt D 1 ≤ 10 := hw.1 1 (by omega)
  have h := rsV_bd hw hX (T := T) (cnt D 1) (Nat.le_refl _)
  unfold rsA
  omega
theorem rs_y (hw : wD D) (hX : wX D) {T k : Nat} (hk : k < cnt D 1) (c : T.testBit k = true) : w32 (rsV D T k + colD D 12 k) = rsV D T (k + 1) := by
  have h10 : cnt D 1 ≤ 10 := hw.1 1 (by omega)
  have h := rsV_bd hw hX (T := T) k (by omega)
  have b := rise_bd hw hX hk
  have e : rsV D T (k + 1) = rsV D T k + (if T.testBit k = true then colD D 12 k else 0) := rfl
  rw [e, if_pos c, w32_id (by omega) (by omega)]
theorem rs_n {T k : Nat} (c : ¬ T.testBit k = true) : rsV D T (k + 1) = rsV D T k := by
  have e : rsV D T (k + 1) = rsV D T k + (if T.testBit k = true then colD D 12 k else 0) := rfl
  rw [e, if_neg c, Int.add_zero]
theorem riseOf_ok (ht : t = 7 ∨ t = 43) (hd : cDn s t D) (hw : wD D) (hX : wX D) {T : Nat} (hT : T < 2147483648) : zC N 1039 [((t : Int), 0), ((T : Int), 0)] s (fun r => r = ([(rsA D T, 0)], s)) := by
  have hc : s (t + 1) 1 = ((cnt D 1 : Nat) : Int) := hd.1 1 (by omega)
  have h10 : cnt D 1 ≤ 10 := hw.1 1 (by omega)
  have loop : ∀ (M k : Nat), k ≤ cnt D 1 → zT (zE 1039) (Pt PX8_riseOf) M (4, [((t : Nat) : Int), (T : Int), rsV D T k, (k : Int)], [], s) (fun r => r = ([(rsA D T, 0)], s)) := by
    intro M
    induction M using Nat.strongRecOn with
    | ind M ih =>
      intro k hk
      have on : ∀ (m : Nat) (v : Int), m < M → k < cnt D 1 → v = rsV D T (k + 1) → zT (zE 1039) (Pt PX8_riseOf) m (4, [((t : Nat) : Int), (T : Int), v, w32 ((k : Int) + 1)], [], s) (fun r => r = ([(rsA D T, 0)], s)) := fun m v hm hk2 hv => by
        rw [hv, w32_id (by omega) (by omega), show (k : Int) + 1 = ((k + 1 : Nat) : Int) from by omega]
        exact ih m hm (k + 1) (by omega)
      refine b_X8_riseOf_4 _ _ _ s ht (fun g => ?_) (fun g g2 m hm => ?_) (fun g g2 m hm => ?_)
      all_goals rw [hc] at g
      · have : k = cnt D 1 := by omega
        subst this
        rfl
      · exact on m _ hm (by omega) (rs_n (fun q => g2 ((zbit1 (by omega) (by omega)).mpr q))).symm
      · have hk2 : k < cnt D 1 := by omega
        have ri : s (zrho (t + 12) (k : Int).toNat) 2 = colD D 12 k := by rw [Int.toNat_natCast, zrow1 ht (by omega)]; exact cDn_col hd hw (k := 1) (j := 2) (by omega) (by omega) (by decide) hk2
        rw [ri]
        exact on m _ hm hk2 (rs_y hw hX hk2 ((zbit1 (by omega) (by omega)).mp g2))
  exact c_X8_riseOf (b_X8_riseOf_0 _ _ _ s ht (loop N 0 (by omega)))
theorem riseOf_m (hm : mT s D) (hw : wD D) (hX : wX D) {T : Nat} (hT : T < 2147483648) : zC N 1507 [(((172 : Nat) : Int), 0), ((T : Int), 0)] s (fun r => r = ([(rsA D T, 0)], s)) := by
  have hc : s 174 1 = ((cnt D 1 : Nat) : Int) := hm.1 1 (by omega)
  have h10 : cnt D 1 ≤ 10 := hw.1 1 (by omega)
  have loop : ∀ (M k : Nat), k ≤ cnt D 1 → zT (zE 1507) (Pt PX11_riseOf) M (4, [((172 : Nat) : Int), (T : Int), rsV D T k, (k : Int)], [], s) (fun r => r = ([(rsA D T, 0)], s)) := by
    intro M
    induction M using Nat.strongRecOn with
    | ind M ih =>
      intro k hk
      have on : ∀ (m : Nat) (v : Int), m < M → k < cnt D 1 → v = rsV D T (k + 1) → zT (zE 1507) (Pt PX11_riseOf) m (4, [((172 : Nat) : Int), (T : Int), v, w32 ((k : Int) + 1)], [], s) (fun r => r = ([(rsA D T, 0)], s)) := fun m v hm hk2 hv => by
        rw [hv, w32_id (by omega) (by omega), show (k : Int) + 1 = ((k + 1 : Nat) : Int) from by omega]
        exact ih m hm (k + 1) (by omega)
      have bd := rsV_bd hw hX (T := T) k hk
      refine b_X11_riseOf_4 _ _ _ s (fun g => ?_) (fun g g2 m hm' => ?_) (fun g g2 m hm' => ?_)
      all_goals rw [hc] at g
      · have : k = cnt D 1 := by omega
        subst this
        rfl
      · exact on m _ hm' (by omega) (by rw [Int.add_zero, w32_id (by omega) (by omega)]; exact (rs_n (fun q => g2 ((zbit1 (by omega) (by omega)).mpr q))).symm)
      · have hk2 : k < cnt D 1 := by omega
        have ri : s 182 (k : Int).toNat = colD D 12 k := by rw [Int.toNat_natCast]; exact mcol hm hw (k := 1) (j := 2) (by omega) (by omega) (by decide) (by decide) hk2
        rw [ri]
        exact on m _ hm' hk2 (rs_y hw hX hk2 ((zbit1 (by omega) (by omega)).mp g2))
  exact c_X11_riseOf (b_X11_riseOf_0 _ _ _ s (loop N 0 (by omega)))
theorem bits_m {x : Nat} (h : x < 1024) : zC N 1414 [((x : Int), 0)] s (fun r => r = ([(((bcn x : Nat) : Int), 0)], s)) := by
  have e : bcn x = cnB (fun i => x.testBit i) 10 := bcn_cnB x
  have loop : ∀ (M k : Nat), k ≤ 10 → zT (zE 1414) (Pt PX11_bits) M (4, [(x : Int), ((cnB (fun i => x.testBit i) k : Nat) : Int), (k : Int)], [], s) (fun r => r = ([(((bcn x : Nat) : Int), 0)], s)) := by
    intro M
    induction M using Nat.strongRecOn with
    | ind M ih =>
      intro k hk
      have b := cnB_le (fun i => x.testBit i) k
      refine b_X11_bits_4 _ _ _ s (fun g => ?_) (fun g m hm => ?_)
      · have : k = 10 := by omega
        subst this
        rw [e]
      · have e1 : w32 (((cnB (fun i => x.testBit i) k : Nat) : Int) + zand (zshr (x : Int) (k : Int)) 1) = ((cnB (fun i => x.testBit i) (k + 1) : Nat) : Int) := by
          have e2 : cnB (fun i => x.testBit i) (k + 1) = cnB (fun i => x.testBit i) k + (if x.testBit k = true then 1 else 0) := rfl
          rw [zbit (by omega) (by omega), e2]
          by_cases c : x.testBit k = true
          · rw [if_pos c, if_pos c, w32_id (by omega) (by omega)]
            omega
          · rw [if_neg c, if_neg c, w32_id (by omega) (by omega)]
            omega
        rw [e1, w32_id (z := (k : Int) + 1) (by omega) (by omega), show (k : Int) + 1 = ((k + 1 : Nat) : Int) from by omega]
        exact ih m hm (k + 1) (by omega)
  exact c_X11_bits (b_X11_bits_0 _ _ _ s (loop N 0 (by omega)))
theorem al_e (hw : wD D) : w32 (zshl 1 ((cnt D 1 : Nat) : Int) - 1) = ((2 ^ cnt D 1 - 1 : Nat) : Int) := by
  have h10 : cnt D 1 ≤ 10 := hw.1 1 (by omega)
  have b3 : 2 ^ cnt D 1 ≤ 2 ^ 10 := Nat.pow_le_pow_right (by decide) h10
  have b4 : (2 : Nat) ^ 10 = 1024 := by decide
  have b5 : 1 ≤ 2 ^ cnt D 1 := Nat.one_le_two_pow
  rw [zshl_1 _ (by omega), w32_id (by omega) (by omega)]
  omega
theorem all_ok (ht : t = 7 ∨ t = 43) (hd : cDn s t D) (hw : wD D) : zC N 1026 [((t : Int), 0)] s (fun r => r = ([(((2 ^ cnt D 1 - 1 : Nat) : Int), 0)], s)) := by
  have hc : s (t + 1) 1 = ((cnt D 1 : Nat) : Int) := hd.1 1 (by omega)
  refine c_X8_all (b_X8_all_0 s ht ?_)
  rw [hc, al_e hw]
/-- plan: when a set is taken -/
def plC (D : ZD) (S : ZS) (k : Nat) (b : Int) : Prop := k &&& sTh S = 0 ∧ rsA D k ≤ sHp S ∧ (b < 0 ∨ rsA D k < rsA D b.toNat) ∧ cuV D S (sTh S ||| k) = 0
noncomputable def bsR (D : ZD) (b : Int) : Int := if b < 0 then -1 else rsA D b.toNat
theorem bsR_n {b : Int} (h : b < 0) : bsR D b = -1 := if_pos h
theorem bsR_p {b : Int} (h : ¬ b < 0) : bsR D b = rsA D b.toNat := if_neg h
theorem bsR_k {k : Nat} : bsR D (k : Int) = rsA D k := by
  unfold bsR
  rw [if_neg (by omega), Int.toNat_natCast]
noncomputable def plA (D : ZD) (S : ZS) (x : Int) : Int := if dcP (0 ≤ x ∧ x ≤ 1) = true then (if x = 0 then bsR D (bsS (plC D S) (2 ^ cnt D 1)) else bsS (plC D S) (2 ^ cnt D 1)) else -1
theorem cuV_lt (hw : wD D) {th : Nat} : cuV D S th < 32 := by
  have h5 : cnt D 3 ≤ 5 := hw.1 3 (by omega)
  have b2 := bset_lt (cutB D S th) (cnt D 3)
  have b3 : 2 ^ cnt D 3 ≤ 2 ^ 5 := Nat.pow_le_pow_right (by decide) h5
  have b4 : (2 : Nat) ^ 5 = 32 := by decide
  unfold cuV
  omega
theorem plan_c (ht : t = 7 ∨ t = 43) (e3 : s 0 3 = ((t : Nat) : Int)) (hd : cDn s t D) (hw : wD D) (hX : wX D) (hS : cSt s 79 D S) (hs : wS D S) {x : Int} : zC N 1308 [(((0 : Nat) : Int), 0), (x, 0)] s (fun r => r.1 = [(plA D S x, 0)]) := by
  have no : ¬ (0 ≤ x ∧ x ≤ 1) → [((-1 : Int), 0)] = [(plA D S x, 0)] := fun q => by
    unfold plA; rw [if_neg (by rw [dcP_no q]; decide)]
  refine c_X10_plan (b_X10_plan_0 _ _ _ _ _ s ht (fun g => no (fun q => by omega)) (fun g g2 m _ => ?_) (fun g g2 => no (fun q => by omega)))
  have fin : plA D S x = if x = 0 then bsR D (bsS (plC D S) (2 ^ cnt D 1)) else bsS (plC D S) (2 ^ cnt D 1) := if_pos (dcP_yes ⟨g, g2⟩)
  refine zC_q (fillLacks_c ht (b := 79) rfl e3 hd hw hX hS hs) (fun r hr => ?_)
  obtain ⟨r1, s1⟩ := r
  obtain ⟨e, f1, g1⟩ := hr
  have e : r1 = [] := e
  subst e
  have f1 : ∀ c j, c ≠ 164 → s1 c j = s c j := f1
  have hd1 : cDn s1 t D := cDn_e hd hw (fun c j hc => f1 c j (by omega))
  have hS1 : cSt s1 79 D S := cSt_e hS (fun c j a b _ => f1 c j (by omega))
  have e31 : s1 0 3 = ((t : Nat) : Int) := (f1 _ _ (by omega)).trans e3
  have e0 : s1 79 0 = ((sTh S : Nat) : Int) := hS1.1
  have e9 : s1 79 3 = sHp S := hS1.2.2.2.1
  have b1 := wS_lt hw hs
  have h10 : cnt D 1 ≤ 10 := hw.1 1 (by omega)
  have b3 : 2 ^ cnt D 1 ≤ 2 ^ 10 := Nat.pow_le_pow_right (by decide) h10
  have b4 : (2 : Nat) ^ 10 = 1024 := by decide
  have b5 : 1 ≤ 2 ^ cnt D 1 := Nat.one_le_two_pow
  have loop : ∀ (M k : Nat) (x5 : Int), k ≤ 2 ^ cnt D 1 → zT (zE 1308) (Pt PX10_plan) M (26, [((0 : Nat) : Int), x, bsR D (bsS (plC D S) k), bsS (plC D S) k, (k : Int), x5], [], s1) (fun r => r.1 = [(plA D S x, 0)]) := by
    intro M
    induction M using Nat.strongRecOn with
    | ind M ih =>
      intro k x5 hk
      have on : ∀ (m : Nat) (b v x6 : Int), m < M → k < 2 ^ cnt D 1 → b = bsS (plC D S) (k + 1) → v = bsR D b → zT (zE 1308) (Pt PX10_plan) m (26, [((0 : Nat) : Int), x, v, b, w32 ((k : Int) + 1), x6], [], s1) (fun r => r.1 = [(plA D S x, 0)]) := fun m b v x6 hm hk2 hb hv => by
        rw [hv, hb, w32_id (by omega) (by omega), show (k : Int) + 1 = ((k + 1 : Nat) : Int) from by omega]
        exact ih m hm (k + 1) x6 (by omega)
      refine b_X10_plan_26 _ _ _ _ _ s1 ht (fun m2 hm2 => ?_)
      rw [e31]
      refine zC_q (all_ok ht hd1 hw) (fun r hr => ?_)
      subst hr
      refine b_X10_plan_35 _ _ _ _ _ _ _ s1 ht (fun g3 g4 => ?_) (fun g3 g4 => ?_) (fun g3 g4 m3 hm3 => ?_) (fun g3 g4 m3 hm3 => ?_)
      · have : k = 2 ^ cnt D 1 := by omega
        subst this
        show [(bsS (plC D S) (2 ^ cnt D 1), 0)] = _
        rw [fin, if_neg g4]
      · have : k = 2 ^ cnt D 1 := by omega
        subst this
        show [(bsR D (bsS (plC D S) (2 ^ cnt D 1)), 0)] = _
        rw [fin, if_pos g4]
      all_goals
        have hk2 : k < 2 ^ cnt D 1 := by omega
        rw [e0, zand_nat (by omega) (by omega)] at g4
      · have k0 : k &&& sTh S = 0 := by omega
        rw [e31]
        refine zC_q (riseOf_ok ht hd1 hw hX (by omega)) (fun r hr => ?_)
        subst hr
        have rb := rsA_bd hw hX k
        have go : ∀ m4, m4 < M → (bsS (plC D S) k < 0 ∨ rsA D k < rsA D (bsS (plC D S) k).toNat) → rsA D k ≤ sHp S → zC m4 1289 [(((0 : Nat) : Int), 0), (zor (s1 79 0) (k : Int), 0)] s1 (fun p => zT (zE 1308) (Pt PX10_plan) m4 (102, [((0 : Nat) : Int), x, bsR D (bsS (plC D S) k), bsS (plC D S) k, (k : Int), rsA D k], p.1 ++ [], p.2) (fun r => r.1 = [(plA D S x, 0)])) := fun m4 hm4 hor hle => by
          rw [e0, zor_nat (by omega) (by omega)]
          have ol : sTh S ||| k < 1024 := Nat.or_lt_two_pow (n := 10) (by omega) (by omega)
          refine zC_q (cutBy_c ht e31 hd1 hw hX hs g1 ol) (fun r hr => ?_)
          subst hr
          refine b_X10_plan_102 _ _ _ _ _ _ s1 ht (fun g5 m5 hm5 => ?_) (fun g5 m5 hm5 => ?_)
          · exact on m5 _ _ _ (by omega) hk2 (bs_n (fun q => g5 (by rw [q.2.2.2]; rfl))).symm rfl
          · exact on m5 _ _ _ (by omega) hk2 (bs_y ⟨k0, hle, hor, by omega⟩).symm bsR_k.symm
        refine b_X10_plan_63 _ _ _ _ _ _ s1 ht (fun g5 m4 hm4 => ?_) (fun g5 g6 m4 hm4 => ?_) (fun g5 g6 g7 m4 hm4 => ?_) (fun g5 g6 g7 m4 hm4 => ?_)
        all_goals rw [e9] at g5
        · exact on m4 _ _ _ (by omega) hk2 (bs_n (fun q => by have := q.2.1; omega)).symm rfl
        · refine go m4 (by omega) (Or.inl (Classical.byContradiction fun c => ?_)) g5
          rw [bsR_p c] at g6
          have := rsA_bd hw hX (bsS (plC D S) k).toNat
          omega
        · have c : ¬ bsS (plC D S) k < 0 := fun c => g6 (bsR_n c)
          rw [bsR_p c] at g7
          exact on m4 _ _ _ (by omega) hk2 (bs_n (fun q => q.2.2.1.elim c (fun z => by omega))).symm rfl
        · have c : ¬ bsS (plC D S) k < 0 := fun c => g6 (bsR_n c)
          rw [bsR_p c] at g7
          exact go m4 (by omega) (Or.inr g7) g5
      · exact on m3 _ _ _ (by omega) hk2 (bs_n (fun q => g4 (by rw [q.1]; rfl))).symm rfl
  exact b_X10_plan_19 _ _ _ _ _ s1 ht (loop m 0 _ (by omega))
theorem plan_m (hF : wF D) (hX : wX D) (hm : mT s D) (hw : wD D) (hS : mSt s 216 0 D S) (hs : wS D S) {x : Int} : zC N 1490 [(((172 : Nat) : Int), 0), (x, 0)] s (fun r => r.1 = [(plA D S x, 0)]) := by
  have no : ¬ (0 ≤ x ∧ x ≤ 1) → [((-1 : Int), 0)] = [(plA D S x, 0)] := fun q => by
    unfold plA; rw [if_neg (by rw [dcP_no q]; decide)]
  refine c_X11_plan (b_X11_plan_0 _ _ _ _ s (fun g => no (fun q => by omega)) (fun g g2 => no (fun q => by omega)) (fun g g2 => ?_))
  have fin : plA D S x = if x = 0 then bsR D (bsS (plC D S) (2 ^ cnt D 1)) else bsS (plC D S) (2 ^ cnt D 1) := if_pos (dcP_yes ⟨g, g2⟩)
  have hm1 : mT (zu s 172 0 0) D := mT_e (fun c j a b => zu_n (by omega)) hm
  have hS1 : mSt (zu s 172 0 0) 216 0 D S := mSt_e hS (fun j => zu_n (by omega))
  generalize zu s 172 0 0 = s1 at hm1 hS1 ⊢
  have e0 : s1 216 0 = ((sTh S : Nat) : Int) := hS1.1
  have e9 : s1 216 10 = sHp S := hS1.2.2.2.1
  have hc1 : s1 174 1 = ((cnt D 1 : Nat) : Int) := hm1.1 1 (by omega)
  have b1 := hs.1
  have h10 : cnt D 1 ≤ 10 := hw.1 1 (by omega)
  have b3 : 2 ^ cnt D 1 ≤ 2 ^ 10 := Nat.pow_le_pow_right (by decide) h10
  have b4 : (2 : Nat) ^ 10 = 1024 := by decide
  have b5 : 1 ≤ 2 ^ cnt D 1 := Nat.one_le_two_pow
  have loop : ∀ (M k : Nat) (x5 : Int), k ≤ 2 ^ cnt D 1 → zT (zE 1490) (Pt PX11_plan) M (20, [((172 : Nat) : Int), x, bsS (plC D S) k, (k : Int), x5], [], s1) (fun r => r.1 = [(plA D S x, 0)]) := by
    intro M
    induction M using Nat.strongRecOn with
    | ind M ih =>
      intro k x5 hk
      have bb := bs_bd (C := plC D S) k
      have on : ∀ (m : Nat) (b x6 : Int), m < M → k < 2 ^ cnt D 1 → b = bsS (plC D S) (k + 1) → zT (zE 1490) (Pt PX11_plan) m (20, [((172 : Nat) : Int), x, b, w32 ((k : Int) + 1), x6], [], s1) (fun r => r.1 = [(plA D S x, 0)]) := fun m b x6 hm' hk2 hb => by
        rw [hb, w32_id (by omega) (by omega), show (k : Int) + 1 = ((k + 1 : Nat) : Int) from by omega]
        exact ih m hm' (k + 1) x6 (by omega)
      have rise : ∀ {m : Nat} {b : Int}, 0 ≤ b → b < 2147483648 → zC m 1507 [(((172 : Nat) : Int), 0), (b, 0)] s1 (fun r => r = ([(rsA D b.toNat, 0)], s1)) := fun {m b} h0 h1 => by
        obtain ⟨i, rfl⟩ := Int.eq_ofNat_of_zero_le h0
        rw [Int.toNat_natCast]
        exact riseOf_m hm1 hw hX (by omega)
      have go : ∀ (m4 : Nat) (x6 : Int), m4 < M → k < 2 ^ cnt D 1 → k &&& sTh S = 0 → (bsS (plC D S) k < 0 ∨ rsA D k < rsA D (bsS (plC D S) k).toNat) → rsA D k ≤ sHp S → zC m4 1430 [(((172 : Nat) : Int), 0), (zor (s1 216 0) (k : Int), 0)] s1 (fun p => zT (zE 1490) (Pt PX11_plan) m4 (87, [((172 : Nat) : Int), x, bsS (plC D S) k, (k : Int), x6], p.1 ++ [], p.2) (fun r => r.1 = [(plA D S x, 0)])) := fun m4 x6 hm4 hk2 k0 hor hle => by
        rw [e0, zor_nat (by omega) (by omega)]
        refine zC_q (cutBy_m hF hX hm1 hw hS1 hs (Nat.or_lt_two_pow b1 hk2)) (fun r hr => ?_)
        subst hr
        refine b_X11_plan_87 _ _ _ _ _ s1 (fun g5 m5 hm5 => ?_) (fun g5 m5 hm5 => ?_)
        · exact on m5 _ _ (by omega) hk2 (bs_n (fun q => g5 (by rw [q.2.2.2]; rfl))).symm
        · exact on m5 _ _ (by omega) hk2 (bs_y ⟨k0, hle, hor, by omega⟩).symm
      refine b_X11_plan_20 _ _ _ _ s1 (fun g3 g4 => ?_) (fun g3 g4 g5 m2 hm2 => ?_) (fun g3 g4 g5 => ?_) (fun g3 m2 hm2 => ?_)
      all_goals rw [hc1, al_e hw] at g3
      · have : k = 2 ^ cnt D 1 := by omega
        subst this
        show [(bsS (plC D S) (2 ^ cnt D 1), 0)] = _
        rw [fin, bsR_n g4, show bsS (plC D S) (2 ^ cnt D 1) = -1 from by omega]
        by_cases c : x = 0
        · rw [if_pos c]
        · rw [if_neg c]
      · have : k = 2 ^ cnt D 1 := by omega
        subst this
        refine zC_q (rise g4 (by omega)) (fun r hr => ?_)
        subst hr
        refine b_X11_plan_116 _ _ _ _ _ s1 ?_
        show [(rsA D (bsS (plC D S) (2 ^ cnt D 1)).toNat, 0)] = _
        rw [fin, if_pos (by omega), bsR_p (by omega)]
      · have : k = 2 ^ cnt D 1 := by omega
        subst this
        show [(bsS (plC D S) (2 ^ cnt D 1), 0)] = _
        rw [fin, if_neg (by omega)]
      · have hk2 : k < 2 ^ cnt D 1 := by omega
        refine zC_q (riseOf_m hm1 hw hX (by omega)) (fun r hr => ?_)
        subst hr
        refine b_X11_plan_33 _ _ _ _ _ s1 (fun g4 m4 hm4 => ?_) (fun g4 g5 m4 hm4 => ?_) (fun g4 g5 g6 m4 hm4 => ?_) (fun g4 g5 g6 m4 hm4 => ?_)
        all_goals rw [e0, zand_nat (by omega) (by omega)] at g4
        · exact on m4 _ _ (by omega) hk2 (bs_n (fun q => g4 (by rw [q.1]; rfl))).symm
        all_goals
          have k0 : k &&& sTh S = 0 := by omega
          rw [e9] at g5
        · exact on m4 _ _ (by omega) hk2 (bs_n (fun q => by have := q.2.1; omega)).symm
        · exact go m4 _ (by omega) hk2 k0 (Or.inl g6) g5
        · refine zC_q (rise g6 (by omega)) (fun r hr => ?_)
          subst hr
          refine b_X11_plan_69 _ _ _ _ _ _ s1 (fun g7 m5 hm5 => ?_) (fun g7 m5 hm5 => ?_)
          · exact go m5 _ (by omega) hk2 k0 (Or.inr g7) g5
          · exact on m5 _ _ (by omega) hk2 (bs_n (fun q => q.2.2.1.elim (fun z => by omega) (fun z => by omega))).symm
  exact loop N 0 _ (by omega)
/-- thefts: when a set is taken -/
def thC (D : ZD) (S : ZS) (x y : Int) (k : Nat) (b : Int) : Prop := ndf k (sTh S) = 0 ∧ ((bcn k : Nat) : Int) ≤ x ∧ frT1 D k (sTh S) ∧ (b < 0 ∨ rsA D b.toNat < rsA D k ∨ (rsA D k = rsA D b.toNat ∧ bcn k < bcn b.toNat)) ∧ ((bcn (cuV D S (ndf (sTh S) k)) : Nat) : Int) ≤ y
noncomputable def thA (D : ZD) (S : ZS) (x y w : Int) : Int := if dcP (0 ≤ x ∧ x ≤ 10 ∧ 0 ≤ y ∧ y ≤ 5 ∧ 0 ≤ w ∧ w ≤ 1) = true then (if w = 0 then bsR D (bsS (thC D S x y) (2 ^ cnt D 1)) else bsS (thC D S x y) (2 ^ cnt D 1)) else -1
theorem thefts_c (hM : zM s) (ht : t = 7 ∨ t = 43) (e3 : s 0 3 = ((t : Nat) : Int)) (hd : cDn s t D) (hw : wD D) (hX : wX D) (ha : ∀ f : Nat, f < cnt D 1 → s (t + 35) f = ((abv D f : Nat) : Int)) (hS : cSt s 79 D S) (hs : wS D S) {x y w : Int} : zC N 1316 [(((0 : Nat) : Int), 0), (x, 0), (y, 0), (w, 0)] s (fun r => r.1 = [(thA D S x y w, 0)]) := by
  have no : ¬ (0 ≤ x ∧ x ≤ 10 ∧ 0 ≤ y ∧ y ≤ 5 ∧ 0 ≤ w ∧ w ≤ 1) → [((-1 : Int), 0)] = [(thA D S x y w, 0)] := fun q => by
    unfold thA; rw [if_neg (by rw [dcP_no q]; decide)]
  have m1 : s 1000 1 = 10 := (hM 1).trans (by decide +kernel)
  have m3 : s 1000 3 = 5 := (hM 3).trans (by decide +kernel)
  refine c_X10_thefts (b_X10_thefts_0 _ _ _ _ _ _ _ _ s ht (fun g => no (fun q => by omega)) (fun g g2 => no (fun q => by omega)) (fun g g2 g3 => no (fun q => by omega)) (fun g g2 g3 g4 => no (fun q => by omega)) (fun g g2 g3 g4 g5 => no (fun q => by omega)) (fun g g2 g3 g4 g5 g6 m _ => ?_) (fun g g2 g3 g4 g5 g6 => no (fun q => by omega)))
  have fin : thA D S x y w = if w = 0 then bsR D (bsS (thC D S x y) (2 ^ cnt D 1)) else bsS (thC D S x y) (2 ^ cnt D 1) := if_pos (dcP_yes ⟨g, by omega, g3, by omega, g5, g6⟩)
  refine zC_q (fillLacks_c ht (b := 79) rfl e3 hd hw hX hS hs) (fun r hr => ?_)
  obtain ⟨r1, s1⟩ := r
  obtain ⟨e, f1, l1⟩ := hr
  have e : r1 = [] := e
  subst e
  have f1 : ∀ c j, c ≠ 164 → s1 c j = s c j := f1
  have hd1 : cDn s1 t D := cDn_e hd hw (fun c j hc => f1 c j (by omega))
  have hS1 : cSt s1 79 D S := cSt_e hS (fun c j a b _ => f1 c j (by omega))
  have e31 : s1 0 3 = ((t : Nat) : Int) := (f1 _ _ (by omega)).trans e3
  have ha1 : ∀ f : Nat, f < cnt D 1 → s1 (t + 35) f = ((abv D f : Nat) : Int) := fun f hf => (f1 _ _ (by omega)).trans (ha f hf)
  have e0 : s1 79 0 = ((sTh S : Nat) : Int) := hS1.1
  have b1 := wS_lt hw hs
  have h10 : cnt D 1 ≤ 10 := hw.1 1 (by omega)
  have b3 : 2 ^ cnt D 1 ≤ 2 ^ 10 := Nat.pow_le_pow_right (by decide) h10
  have b4 : (2 : Nat) ^ 10 = 1024 := by decide
  have b5 : 1 ≤ 2 ^ cnt D 1 := Nat.one_le_two_pow
  have loop : ∀ (M k : Nat) (x7 x8 : Int), k ≤ 2 ^ cnt D 1 → zT (zE 1316) (Pt PX10_thefts) M (54, [((0 : Nat) : Int), x, y, w, bsR D (bsS (thC D S x y) k), bsS (thC D S x y) k, (k : Int), x7, x8], [], s1) (fun r => r.1 = [(thA D S x y w, 0)]) := by
    intro M
    induction M using Nat.strongRecOn with
    | ind M ih =>
      intro k x7 x8 hk
      have bb := bs_bd (C := thC D S x y) k
      have on : ∀ (m : Nat) (b v x7 x8 : Int), m < M → k < 2 ^ cnt D 1 → b = bsS (thC D S x y) (k + 1) → v = bsR D b → zT (zE 1316) (Pt PX10_thefts) m (54, [((0 : Nat) : Int), x, y, w, v, b, w32 ((k : Int) + 1), x7, x8], [], s1) (fun r => r.1 = [(thA D S x y w, 0)]) := fun m b v x7 x8 hm hk2 hb hv => by
        rw [hv, hb, w32_id (by omega) (by omega), show (k : Int) + 1 = ((k + 1 : Nat) : Int) from by omega]
        exact ih m hm (k + 1) x7 x8 (by omega)
      refine b_X10_thefts_54 _ _ _ _ _ _ _ _ s1 ht (fun m2 hm2 => ?_)
      rw [e31]
      refine zC_q (all_ok ht hd1 hw) (fun r hr => ?_)
      subst hr
      refine b_X10_thefts_63 _ _ _ _ _ _ _ _ _ _ s1 ht (fun i1 i2 => ?_) (fun i1 i2 => ?_) (fun i1 i2 m3 hm3 => ?_) (fun i1 i2 m3 hm3 => ?_)
      · have : k = 2 ^ cnt D 1 := by omega
        subst this
        show [(bsS (thC D S x y) (2 ^ cnt D 1), 0)] = _
        rw [fin, if_neg i2]
      · have : k = 2 ^ cnt D 1 := by omega
        subst this
        show [(bsR D (bsS (thC D S x y) (2 ^ cnt D 1)), 0)] = _
        rw [fin, if_pos i2]
      all_goals
        have hk2 : k < 2 ^ cnt D 1 := by omega
        rw [e0, zandn (by omega)] at i2
      · exact on m3 _ _ _ _ (by omega) hk2 (bs_n (fun q => i2 (by rw [q.1]; rfl))).symm rfl
      have k0 : ndf k (sTh S) = 0 := by omega
      have rb := rsA_bd hw hX k
      refine zC_q (bits_ok (by omega)) (fun r hr => ?_)
      subst hr
      refine b_X10_thefts_86 _ _ _ _ _ _ _ _ _ s1 ht (fun i3 m4 hm4 => ?_) (fun i3 m4 hm4 => ?_)
      rotate_left
      · exact on m4 _ _ _ _ (by omega) hk2 (bs_n (fun q => by have := q.2.1; omega)).symm rfl
      rw [e31]
      refine zC_q (riseOf_ok ht hd1 hw hX (by omega)) (fun r hr => ?_)
      subst hr
      have go : ∀ (m4 : Nat) (x8 : Int), m4 < M → (bsS (thC D S x y) k < 0 ∨ rsA D (bsS (thC D S x y) k).toNat < rsA D k ∨ (rsA D k = rsA D (bsS (thC D S x y) k).toNat ∧ bcn k < bcn (bsS (thC D S x y) k).toNat)) → zC m4 1033 [(s1 0 3, 0), ((k : Int), 0), (s1 79 0, 0)] s1 (fun p => zT (zE 1316) (Pt PX10_thefts) m4 (159, [((0 : Nat) : Int), x, y, w, bsR D (bsS (thC D S x y) k), bsS (thC D S x y) k, (k : Int), rsA D k, x8], p.1 ++ [], p.2) (fun r => r.1 = [(thA D S x y w, 0)])) := fun m4 x8 hm4 hor => by
        rw [e31, e0]
        refine zC_q (fromTop_ok ht hd1 hw ha1 (by omega) (by omega)) (fun r hr => ?_)
        subst hr
        refine b_X10_thefts_159 _ _ _ _ _ _ _ _ _ s1 ht (fun i5 m5 hm5 => ?_) (fun i5 m5 hm5 => ?_)
        · refine on m5 _ _ _ _ (by omega) hk2 (bs_n (fun q => ?_)).symm rfl
          rw [if_pos (dcP_yes q.2.2.1)] at i5
          exact absurd i5 (by decide)
        have top : frT1 D k (sTh S) := Classical.byContradiction fun c => i5 (if_neg (by rw [dcP_no c]; decide))
        rw [e0, zandn (by omega)]
        have nl := ndf_le (a := sTh S) (b := k) (by omega)
        refine zC_q (cutBy_c ht e31 hd1 hw hX hs l1 (by omega)) (fun r hr => ?_)
        subst hr
        refine b_X10_thefts_178 _ _ _ _ _ _ _ _ _ s1 ht (fun m6 hm6 => ?_)
        have cl := cuV_lt (S := S) hw (th := ndf (sTh S) k)
        refine zC_q (bits_ok (by omega)) (fun r hr => ?_)
        subst hr
        refine b_X10_thefts_181 _ _ _ _ _ _ _ _ _ s1 ht (fun i6 m7 hm7 => ?_) (fun i6 m7 hm7 => ?_)
        · exact on m7 _ _ _ _ (by omega) hk2 (bs_n (fun q => by have := q.2.2.2.2; omega)).symm rfl
        · exact on m7 _ _ _ _ (by omega) hk2 (bs_y ⟨k0, i3, top, hor, i6⟩).symm bsR_k.symm
      refine b_X10_thefts_102 _ _ _ _ _ _ _ _ _ s1 ht (fun i4 m5 hm5 => ?_) (fun i4 i5 m5 hm5 => ?_) (fun i4 i5 m5 hm5 => ?_)
      · refine go m5 _ (by omega) ?_
        by_cases c : bsS (thC D S x y) k < 0
        · exact Or.inl c
        · rw [bsR_p c] at i4
          exact Or.inr (Or.inl i4)
      · have c : ¬ bsS (thC D S x y) k < 0 := fun c => by rw [bsR_n c] at i4; omega
        rw [bsR_p c] at i4 i5
        exact on m5 _ _ _ _ (by omega) hk2 (bs_n (fun q => q.2.2.2.1.elim c (fun z => z.elim (fun z => by omega) (fun z => i5 z.1)))).symm rfl
      · have c : ¬ bsS (thC D S x y) k < 0 := fun c => by rw [bsR_n c] at i4; omega
        rw [bsR_p c] at i5
        refine zC_q (bits_ok (by omega)) (fun r hr => ?_)
        subst hr
        refine b_X10_thefts_123 _ _ _ _ _ _ _ _ _ s1 ht (fun m6 hm6 => ?_)
        have eb : bsS (thC D S x y) k = (((bsS (thC D S x y) k).toNat : Nat) : Int) := by omega
        have bt : zC m6 1536 [(bsS (thC D S x y) k, 0)] s1 (fun r => r = ([(((bcn (bsS (thC D S x y) k).toNat : Nat) : Int), 0)], s1)) := by
          have := bits_ok (N := m6) (s := s1) (x := (bsS (thC D S x y) k).toNat) (by omega)
          rwa [← eb] at this
        refine zC_q bt (fun r hr => ?_)
        subst hr
        refine b_X10_thefts_128 _ _ _ _ _ _ _ _ _ _ s1 ht (fun i6 m7 hm7 => ?_) (fun i6 m7 hm7 => ?_)
        · exact on m7 _ _ _ _ (by omega) hk2 (bs_n (fun q => q.2.2.2.1.elim c (fun z => z.elim (fun z => by omega) (fun z => by omega)))).symm rfl
        · exact go m7 _ (by omega) (Or.inr (Or.inr ⟨i5, by omega⟩))
  exact b_X10_thefts_45 _ _ _ _ _ _ _ _ s1 ht (loop m 0 _ _ (by omega))
theorem isFromTop_m (hm : mT s D) (hw : wD D) (hS : mSt s 216 0 D S) (hs : wS D S) {k : Nat} (hk : k < 1024) : zC N 1448 [(((172 : Nat) : Int), 0), ((k : Int), 0)] s (fun r => r = ([(if dcP (frT1 D k (sTh S)) = true then 1 else 0, 0)], s)) := by
  have hc : s 174 1 = ((cnt D 1 : Nat) : Int) := hm.1 1 (by omega)
  have h10 : cnt D 1 ≤ 10 := hw.1 1 (by omega)
  have e0 : s 216 0 = ((sTh S : Nat) : Int) := hS.1
  have b1 := wS_lt hw hs
  have loop : ∀ (M i : Nat), i ≤ cnt D 1 → (∀ f, f < i → k.testBit f = true → ndf (abv D f &&& sTh S) k = 0) → zT (zE 1448) (Pt PX11_isFromTop) M (2, [((172 : Nat) : Int), (k : Int), (i : Int)], [], s) (fun r => r = ([(if dcP (frT1 D k (sTh S)) = true then 1 else 0, 0)], s)) := by
    intro M
    induction M using Nat.strongRecOn with
    | ind M ih =>
      intro i hi hf
      have on : ∀ m, m < M → i < cnt D 1 → (k.testBit i = true → ndf (abv D i &&& sTh S) k = 0) → zT (zE 1448) (Pt PX11_isFromTop) m (2, [((172 : Nat) : Int), (k : Int), w32 ((i : Int) + 1)], [], s) (fun r => r = ([(if dcP (frT1 D k (sTh S)) = true then 1 else 0, 0)], s)) := fun m hm' hi2 hv => by
        rw [w32_id (by omega) (by omega), show (i : Int) + 1 = ((i + 1 : Nat) : Int) from by omega]
        refine ih m hm' (i + 1) (by omega) (fun f hf2 => ?_)
        by_cases e : f = i
        · rw [e]; exact hv
        · exact hf f (by omega)
      refine b_X11_isFromTop_2 _ _ s (fun g => ?_) (fun g g2 m hm' => ?_) (fun g g2 m hm' => ?_)
      all_goals rw [hc] at g
      · have : i = cnt D 1 := by omega
        subst this
        rw [if_pos (dcP_yes (show frT1 D k (sTh S) from hf))]
      · exact on m hm' (by omega) (fun q => absurd ((zbit1 (by omega) (by omega)).mpr q) g2)
      · have hi2 : i < cnt D 1 := by omega
        have bt := (zbit1 (by omega) (by omega)).mp g2
        refine zC_q (above_m hm hw hi2) (fun r hr => ?_)
        subst hr
        have ab : abv D i < 1024 := bset_10 hw
        have ez : zand (zand ((abv D i : Nat) : Int) (s 216 0)) (zxor (k : Int) (-1)) = ((ndf (abv D i &&& sTh S) k : Nat) : Int) := by
          rw [e0, zand_nat (by omega) (by omega), zandn (Nat.lt_of_le_of_lt Nat.and_le_left (by omega))]
        refine b_X11_isFromTop_26 _ _ _ s (fun g3 m2 hm2 => ?_) (fun g3 => ?_)
        all_goals rw [ez] at g3
        · exact on m2 (by omega) hi2 (fun _ => by omega)
        · rw [if_neg (by rw [dcP_no (fun q => g3 (by rw [q i hi2 bt]; rfl))]; decide)]
  exact c_X11_isFromTop (b_X11_isFromTop_0 _ _ s (loop N 0 (by omega) (fun f hf => absurd hf (Nat.not_lt_zero f))))
theorem thefts_m (hF : wF D) (hX : wX D) (hm : mT s D) (hw : wD D) (hS : mSt s 216 0 D S) (hs : wS D S) {x y w : Int} : zC N 1518 [(((172 : Nat) : Int), 0), (x, 0), (y, 0), (w, 0)] s (fun r => r.1 = [(thA D S x y w, 0)]) := by
  have no : ¬ (0 ≤ x ∧ x ≤ 10 ∧ 0 ≤ y ∧ y ≤ 5 ∧ 0 ≤ w ∧ w ≤ 1) → [((-1 : Int), 0)] = [(thA D S x y w, 0)] := fun q => by
    unfold thA; rw [if_neg (by rw [dcP_no q]; decide)]
  refine c_X11_thefts (b_X11_thefts_0 _ _ _ _ _ _ s (fun g => no (fun q => by omega)) (fun g g2 => no (fun q => by omega)) (fun g g2 g3 => no (fun q => by omega)) (fun g g2 g3 g4 => no (fun q => by omega)) (fun g g2 g3 g4 g5 => no (fun q => by omega)) (fun g g2 g3 g4 g5 g6 => no (fun q => by omega)) (fun g g2 g3 g4 g5 g6 => ?_))
  have fin : thA D S x y w = if w = 0 then bsR D (bsS (thC D S x y) (2 ^ cnt D 1)) else bsS (thC D S x y) (2 ^ cnt D 1) := if_pos (dcP_yes ⟨g, by omega, g3, by omega, g5, g6⟩)
  have hm1 : mT (zu s 172 0 0) D := mT_e (fun c j a b => zu_n (by omega)) hm
  have hS1 : mSt (zu s 172 0 0) 216 0 D S := mSt_e hS (fun j => zu_n (by omega))
  generalize zu s 172 0 0 = s1 at hm1 hS1 ⊢
  have e0 : s1 216 0 = ((sTh S : Nat) : Int) := hS1.1
  have hc1 : s1 174 1 = ((cnt D 1 : Nat) : Int) := hm1.1 1 (by omega)
  have b1 := hs.1
  have h10 : cnt D 1 ≤ 10 := hw.1 1 (by omega)
  have b3 : 2 ^ cnt D 1 ≤ 2 ^ 10 := Nat.pow_le_pow_right (by decide) h10
  have b4 : (2 : Nat) ^ 10 = 1024 := by decide
  have b5 : 1 ≤ 2 ^ cnt D 1 := Nat.one_le_two_pow
  have loop : ∀ (M k : Nat) (x6 : Int), k ≤ 2 ^ cnt D 1 → zT (zE 1518) (Pt PX11_thefts) M (41, [((172 : Nat) : Int), x, y, w, bsS (thC D S x y) k, (k : Int), x6], [], s1) (fun r => r.1 = [(thA D S x y w, 0)]) := by
    intro M
    induction M using Nat.strongRecOn with
    | ind M ih =>
      intro k x6 hk
      have bb := bs_bd (C := thC D S x y) k
      have on : ∀ (m : Nat) (b x6 : Int), m < M → k < 2 ^ cnt D 1 → b = bsS (thC D S x y) (k + 1) → zT (zE 1518) (Pt PX11_thefts) m (41, [((172 : Nat) : Int), x, y, w, b, w32 ((k : Int) + 1), x6], [], s1) (fun r => r.1 = [(thA D S x y w, 0)]) := fun m b x6 hm' hk2 hb => by
        rw [hb, w32_id (by omega) (by omega), show (k : Int) + 1 = ((k + 1 : Nat) : Int) from by omega]
        exact ih m hm' (k + 1) x6 (by omega)
      have rise : ∀ {m : Nat} {b : Int}, 0 ≤ b → b < 2147483648 → zC m 1507 [(((172 : Nat) : Int), 0), (b, 0)] s1 (fun r => r = ([(rsA D b.toNat, 0)], s1)) := fun {m b} h0 h1 => by
        obtain ⟨i, rfl⟩ := Int.eq_ofNat_of_zero_le h0
        rw [Int.toNat_natCast]
        exact riseOf_m hm1 hw hX (by omega)
      have bits : ∀ {m : Nat} {b : Int}, 0 ≤ b → b < 1024 → zC m 1414 [(b, 0)] s1 (fun r => r = ([(((bcn b.toNat : Nat) : Int), 0)], s1)) := fun {m b} h0 h1 => by
        obtain ⟨i, rfl⟩ := Int.eq_ofNat_of_zero_le h0
        rw [Int.toNat_natCast]
        exact bits_m (by omega)
      refine b_X11_thefts_41 _ _ _ _ _ _ s1 (fun i1 i2 => ?_) (fun i1 i2 i3 m2 hm2 => ?_) (fun i1 i2 i3 => ?_) (fun i1 i2 m2 hm2 => ?_) (fun i1 i2 m2 hm2 => ?_)
      all_goals rw [hc1, al_e hw] at i1
      · have : k = 2 ^ cnt D 1 := by omega
        subst this
        show [(bsS (thC D S x y) (2 ^ cnt D 1), 0)] = _
        rw [fin, bsR_n i2, show bsS (thC D S x y) (2 ^ cnt D 1) = -1 from by omega]
        by_cases c : w = 0
        · rw [if_pos c]
        · rw [if_neg c]
      · have : k = 2 ^ cnt D 1 := by omega
        subst this
        refine zC_q (rise i2 (by omega)) (fun r hr => ?_)
        subst hr
        refine b_X11_thefts_188 _ _ _ _ _ _ _ s1 ?_
        show [(rsA D (bsS (thC D S x y) (2 ^ cnt D 1)).toNat, 0)] = _
        rw [fin, if_pos (by omega), bsR_p (by omega)]
      · have : k = 2 ^ cnt D 1 := by omega
        subst this
        show [(bsS (thC D S x y) (2 ^ cnt D 1), 0)] = _
        rw [fin, if_neg (by omega)]
      all_goals
        have hk2 : k < 2 ^ cnt D 1 := by omega
        rw [e0, zandn (by omega)] at i2
      · exact on m2 _ _ (by omega) hk2 (bs_n (fun q => i2 (by rw [q.1]; rfl))).symm
      have k0 : ndf k (sTh S) = 0 := by omega
      refine zC_q (bits_m (by omega)) (fun r hr => ?_)
      subst hr
      refine b_X11_thefts_69 _ _ _ _ _ _ _ s1 (fun i3 m3 hm3 => ?_) (fun i3 m3 hm3 => ?_)
      · exact on m3 _ _ (by omega) hk2 (bs_n (fun q => by have := q.2.1; omega)).symm
      refine zC_q (isFromTop_m hm1 hw hS1 hs (by omega)) (fun r hr => ?_)
      subst hr
      have go : ∀ (m4 : Nat) (x6 : Int), m4 < M → frT1 D k (sTh S) → (bsS (thC D S x y) k < 0 ∨ rsA D (bsS (thC D S x y) k).toNat < rsA D k ∨ (rsA D k = rsA D (bsS (thC D S x y) k).toNat ∧ bcn k < bcn (bsS (thC D S x y) k).toNat)) → zC m4 1430 [(((172 : Nat) : Int), 0), (zand (s1 216 0) (zxor (k : Int) (-1)), 0)] s1 (fun p => zT (zE 1518) (Pt PX11_thefts) m4 (150, [((172 : Nat) : Int), x, y, w, bsS (thC D S x y) k, (k : Int), x6], p.1 ++ [], p.2) (fun r => r.1 = [(thA D S x y w, 0)])) := fun m4 x6 hm4 top hor => by
        rw [e0, zandn (by omega)]
        have nl := ndf_le (a := sTh S) (b := k) (by omega)
        refine zC_q (cutBy_m hF hX hm1 hw hS1 hs (by omega)) (fun r hr => ?_)
        subst hr
        refine b_X11_thefts_150 _ _ _ _ _ _ _ s1 (fun m6 hm6 => ?_)
        have cl := cuV_lt (S := S) hw (th := ndf (sTh S) k)
        refine zC_q (bits_m (by omega)) (fun r hr => ?_)
        subst hr
        refine b_X11_thefts_153 _ _ _ _ _ _ _ s1 (fun i6 m7 hm7 => ?_) (fun i6 m7 hm7 => ?_)
        · exact on m7 _ _ (by omega) hk2 (bs_n (fun q => by have := q.2.2.2.2; omega)).symm
        · exact on m7 _ _ (by omega) hk2 (bs_y ⟨k0, i3, top, hor, i6⟩).symm
      refine b_X11_thefts_79 _ _ _ _ _ _ _ s1 (fun i4 i5 m4 hm4 => ?_) (fun i4 i5 m4 hm4 => ?_) (fun i4 m4 hm4 => ?_)
      · have top : frT1 D k (sTh S) := Classical.byContradiction fun c => i4 (if_neg (by rw [dcP_no c]; decide))
        refine zC_q (riseOf_m hm1 hw hX (by omega)) (fun r hr => ?_)
        subst hr
        refine b_X11_thefts_100 _ _ _ _ _ _ _ s1 (fun m5 hm5 => ?_)
        refine zC_q (rise i5 (by omega)) (fun r hr => ?_)
        subst hr
        have r1 := rsA_bd hw hX k
        have r2 := rsA_bd hw hX (bsS (thC D S x y) k).toNat
        have ew : w32 (rsA D k - rsA D (bsS (thC D S x y) k).toNat) = rsA D k - rsA D (bsS (thC D S x y) k).toNat := w32_id (by omega) (by omega)
        refine b_X11_thefts_106 _ _ _ _ _ _ _ _ s1 (fun i6 m6 hm6 => ?_) (fun i6 i7 m6 hm6 => ?_) (fun i6 i7 m6 hm6 => ?_)
        all_goals rw [ew] at i6
        · exact on m6 _ _ (by omega) hk2 (bs_n (fun q => q.2.2.2.1.elim (fun z => by omega) (fun z => z.elim (fun z => by omega) (fun z => by omega)))).symm
        all_goals rw [ew] at i7
        · exact go m6 _ (by omega) top (Or.inr (Or.inl (by omega)))
        · refine zC_q (bits_m (by omega)) (fun r hr => ?_)
          subst hr
          refine b_X11_thefts_124 _ _ _ _ _ _ _ s1 (fun m7 hm7 => ?_)
          refine zC_q (bits i5 (by omega)) (fun r hr => ?_)
          subst hr
          refine b_X11_thefts_129 _ _ _ _ _ _ _ _ s1 (fun i8 m8 hm8 => ?_) (fun i8 m8 hm8 => ?_)
          · exact go m8 _ (by omega) top (Or.inr (Or.inr ⟨by omega, by omega⟩))
          · exact on m8 _ _ (by omega) hk2 (bs_n (fun q => q.2.2.2.1.elim (fun z => by omega) (fun z => z.elim (fun z => by omega) (fun z => by omega)))).symm
      · have top : frT1 D k (sTh S) := Classical.byContradiction fun c => i4 (if_neg (by rw [dcP_no c]; decide))
        exact go m4 _ (by omega) top (Or.inl i5)
      · refine on m4 _ _ (by omega) hk2 (bs_n (fun q => ?_)).symm
        rw [if_pos (dcP_yes q.2.2.1)] at i4
        exact absurd i4 (by decide)
  exact loop N 0 _ (by omega)
end Zpl
