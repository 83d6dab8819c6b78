/-! years -/
theorem tBLa {E : Nat → Option Nat} {P : Nat → Option Op0} {n pc : Nat} {L : List Int} {st : List Zv} {s : Zs} {Q : Zr → Prop} {w : Nat} {z x y : Int} {nx : Nat} {ls : List Nat} {g g' : Nat} (hP : P pc = some (6, w, 3, z, nx, ls)) (h : zT E P n (nx, L, (zandL x y, 1) :: st, s) Q) : zT E P n (pc, L, (y, g) :: (x, g') :: st, s) Q := tBL hP rfl h
theorem b_X10_firstGone_0 {n : Nat} {Q : Zr → Prop} {t : Nat} (x1 x2 : Int) (s : Zs) (ht : t = 7 ∨ t = 43)
    (h0 : zT (zE 1294) (Pt PX10_firstGone) n (2, [((0 : Nat) : Int), x1, 0], [], s) Q) : zT (zE 1294) (Pt PX10_firstGone) n (0, [((0 : Nat) : Int), x1, x2], [], s) Q := by
  refine tK rfl ?_
  refine tS [((0 : Nat) : Int), x1, 0] rfl rfl ?_
  exact zT_le (h0) (Nat.le_refl n)

theorem b_X10_firstGone_2 {n : Nat} {Q : Zr → Prop} {t : Nat} (x1 x2 : Int) (s : Zs) (ht : t = 7 ∨ t = 43)
    (h0 : ∀ (g1 : s (zrho ((s 0 3).toNat) 0) 1 ≤ x2), Q ([((-1), 0)], s))
    (h1 : ∀ (g1 : x2 < s (zrho ((s 0 3).toNat) 0) 1), ∀ (g2 : zand (zshr x1 x2) 1 ≠ 0), ∀ m, m < n → zT (zE 1294) (Pt PX10_firstGone) m (2, [((0 : Nat) : Int), x1, w32 (x2 + 1)], [], s) Q)
    (h2 : ∀ (g1 : x2 < s (zrho ((s 0 3).toNat) 0) 1), ∀ (g2 : zand (zshr x1 x2) 1 = 0), Q ([(x2, 0)], s)) : zT (zE 1294) (Pt PX10_firstGone) n (2, [((0 : Nat) : Int), x1, x2], [], s) Q := by
  refine tL x2 0 rfl rfl rfl ?_
  refine tL ((0 : Nat) : Int) 0 rfl rfl rfl ?_
  refine tFv (c := 0) (s 0 3) 0 rfl rfl rfl rfl rfl ?_
  refine tFR (c := (s 0 3).toNat) (zrho ((s 0 3).toNat) 0) rfl rfl rfl rfl rfl ?_
  refine tK rfl ?_
  refine tAv (zrho ((s 0 3).toNat) 0) 1 (s (zrho ((s 0 3).toNat) 0) 1) 0 rfl rfl rfl (by decide) rfl rfl ?_
  refine tJ3 rfl (fun g1 _ l1 => zT_le ?_ (Nat.le_of_lt l1)) (fun g1 _ l1 => zT_le ?_ (Nat.le_of_lt l1))
  · refine tK rfl ?_
    exact tR rfl (h0 g1)
  · refine tL x1 0 rfl rfl rfl ?_
    refine tL x2 0 rfl rfl rfl ?_
    refine tB (v := zshr x1 x2) rfl rfl ?_
    refine tK rfl ?_
    refine tB (v := zand (zshr x1 x2) 1) rfl rfl ?_
    refine tI1 rfl (fun g2 _ l2 => zT_le ?_ (Nat.le_of_lt l2)) (fun g2 _ l2 => zT_le ?_ (Nat.le_of_lt l2))
    · refine tInc [((0 : Nat) : Int), x1, w32 (x2 + 1)] rfl rfl ?_
      exact tGb rfl (fun m2 l2 => h1 g1 g2 m2 (Nat.lt_of_lt_of_le l2 (Nat.le_refl n)))
    · refine tL x2 0 rfl rfl rfl ?_
      exact tR rfl (h2 g1 g2)

theorem c_X10_firstGone {n : Nat} {Q : Zr → Prop} {a0 a1 : Int} {s : Zs} (h : zT (zE 1294) (Pt PX10_firstGone) n (0, [a0, a1, 0], [], s) Q) : zC n 1294 [(a0, 0), (a1, 0)] s Q := h

theorem b_X10_draw_0 {n : Nat} {Q : Zr → Prop} {t : Nat} (x1 : Int) (s : Zs) (ht : t = 7 ∨ t = 43)
    (h0 : ∀ (g1 : 1 ≤ x1), Q ([(zl2i (zremL (zdivL (zandL (w64 ((w64 ((s 0 15) * 1103515245)) + 12345)) 2147483647) 65536) x1), 0)], zu s 0 15 (zandL (w64 ((w64 ((s 0 15) * 1103515245)) + 12345)) 2147483647)))
    (h1 : ∀ (g1 : x1 < 1), Q ([(0, 0)], zu s 0 15 (zandL (w64 ((w64 ((s 0 15) * 1103515245)) + 12345)) 2147483647))) : zT (zE 1290) (Pt PX10_draw) n (0, [((0 : Nat) : Int), x1], [], s) Q := by
  refine tL ((0 : Nat) : Int) 0 rfl rfl rfl ?_
  refine tL ((0 : Nat) : Int) 0 rfl rfl rfl ?_
  refine tFv (c := 0) (s 0 15) 1 rfl rfl rfl rfl rfl ?_
  refine tKL rfl ?_
  refine tBL (v := w64 ((s 0 15) * 1103515245)) rfl rfl ?_
  refine tKL rfl ?_
  refine tBL (v := w64 ((w64 ((s 0 15) * 1103515245)) + 12345)) rfl rfl ?_
  refine tKL rfl ?_
  refine tBLa rfl ?_
  refine tPut 0 rfl rfl ?_
  refine tL x1 0 rfl rfl rfl ?_
  refine tK rfl ?_
  refine tJ3 rfl (fun g1 _ l1 => zT_le ?_ (Nat.le_of_lt l1)) (fun g1 _ l1 => zT_le ?_ (Nat.le_of_lt l1))
  · refine tL ((0 : Nat) : Int) 0 rfl rfl rfl ?_
    refine tFv (c := 0) (zandL (w64 ((w64 ((s 0 15) * 1103515245)) + 12345)) 2147483647) 1 rfl rfl rfl rfl (zu_eq _ _ _ _) ?_
    refine tKL rfl ?_
    refine tBLd rfl ?_
    refine tL x1 0 rfl rfl rfl ?_
    refine tU1 rfl ?_
    refine tBLr rfl ?_
    refine tLI rfl ?_
    exact tR rfl (h0 g1)
  · refine tK rfl ?_
    refine tG rfl ?_
    exact tR rfl (h1 g1)

theorem c_X10_draw {n : Nat} {Q : Zr → Prop} {a0 a1 : Int} {s : Zs} (h : zT (zE 1290) (Pt PX10_draw) n (0, [a0, a1], [], s) Q) : zC n 1290 [(a0, 0), (a1, 0)] s Q := h

theorem b_X10_passDrawnNight_0 {n : Nat} {Q : Zr → Prop} {t : Nat} (x1 : Int) (s : Zs) (ht : t = 7 ∨ t = 43)
    (h0 : zT (zE 1306) (Pt PX10_passDrawnNight) n (2, [((0 : Nat) : Int), 0], [], s) Q) : zT (zE 1306) (Pt PX10_passDrawnNight) n (0, [((0 : Nat) : Int), x1], [], s) Q := by
  refine tK rfl ?_
  refine tS [((0 : Nat) : Int), 0] rfl rfl ?_
  exact zT_le (h0) (Nat.le_refl n)

theorem b_X10_passDrawnNight_2 {n : Nat} {Q : Zr → Prop} {t : Nat} (x1 : Int) (s : Zs) (ht : t = 7 ∨ t = 43)
    (h0 : ∀ (g1 : s (zrho ((s 0 3).toNat) 0) 1 ≤ x1), ∀ m, m < n → zC m 1290 [(((0 : Nat) : Int), 0), (4, 0)] s (fun p => zT (zE 1306) (Pt PX10_passDrawnNight) m (59, [((0 : Nat) : Int), x1], p.1 ++ [], p.2) Q))
    (h1 : ∀ (g1 : x1 < s (zrho ((s 0 3).toNat) 0) 1), ∀ m, m < n → zC m 1290 [(((0 : Nat) : Int), 0), (10, 0)] s (fun p => zT (zE 1306) (Pt PX10_passDrawnNight) m (21, [((0 : Nat) : Int), x1], p.1 ++ [], p.2) Q)) : zT (zE 1306) (Pt PX10_passDrawnNight) n (2, [((0 : Nat) : Int), x1], [], s) Q := by
  refine tL x1 0 rfl rfl rfl ?_
  refine tL ((0 : Nat) : Int) 0 rfl rfl rfl ?_
  refine tFv (c := 0) (s 0 3) 0 rfl rfl rfl rfl rfl ?_
  refine tFR (c := (s 0 3).toNat) (zrho ((s 0 3).toNat) 0) rfl rfl rfl rfl rfl ?_
  refine tK rfl ?_
  refine tAv (zrho ((s 0 3).toNat) 0) 1 (s (zrho ((s 0 3).toNat) 0) 1) 0 rfl rfl rfl (by decide) rfl rfl ?_
  refine tJ3 rfl (fun g1 _ l1 => zT_le ?_ (Nat.le_of_lt l1)) (fun g1 _ l1 => zT_le ?_ (Nat.le_of_lt l1))
  · refine tL ((0 : Nat) : Int) 0 rfl rfl rfl ?_
    refine tK rfl ?_
    exact tCall [(((0 : Nat) : Int), 0), (4, 0)] [] rfl rfl rfl (fun m l => h0 g1 m (Nat.lt_of_lt_of_le l (Nat.le_refl n)))
  · refine tL ((0 : Nat) : Int) 0 rfl rfl rfl ?_
    refine tK rfl ?_
    exact tCall [(((0 : Nat) : Int), 0), (10, 0)] [] rfl rfl rfl (fun m l => h1 g1 m (Nat.lt_of_lt_of_le l (Nat.le_refl n)))

theorem b_X10_passDrawnNight_59 {n : Nat} {Q : Zr → Prop} {t : Nat} (x1 v0 : Int) (s : Zs) (ht : t = 7 ∨ t = 43)
    (h0 : ∀ (g1 : v0 ≠ 0), Q ([], zu s 82 4 (w32 ((s 82 4) + 1))))
    (h1 : ∀ (g1 : v0 = 0), ∀ m, m < n → zC m 1294 [(((0 : Nat) : Int), 0), (s 82 0, 0)] s (fun p => zT (zE 1306) (Pt PX10_passDrawnNight) m (81, [((0 : Nat) : Int), x1], p.1 ++ [(s 0 3, 0), (((82 : Nat) : Int), 0)], p.2) Q)) : zT (zE 1306) (Pt PX10_passDrawnNight) n (59, [((0 : Nat) : Int), x1], [(v0, 0)], s) Q := by
  refine tI1 rfl (fun g1 _ l1 => zT_le ?_ (Nat.le_of_lt l1)) (fun g1 _ l1 => zT_le ?_ (Nat.le_of_lt l1))
  · refine tL ((0 : Nat) : Int) 0 rfl rfl rfl ?_
    refine tFR (c := 0) 82 rfl rfl rfl rfl rfl ?_
    refine tD rfl ?_
    refine tFv (c := 82) (s 82 4) 0 rfl rfl rfl rfl rfl ?_
    refine tK rfl ?_
    refine tB (v := w32 ((s 82 4) + 1)) rfl rfl ?_
    refine tPut 82 rfl rfl ?_
    exact tR rfl (h0 g1)
  · refine tL ((0 : Nat) : Int) 0 rfl rfl rfl ?_
    refine tFR (c := 0) 82 rfl rfl rfl rfl rfl ?_
    refine tL ((0 : Nat) : Int) 0 rfl rfl rfl ?_
    refine tFv (c := 0) (s 0 3) 0 rfl rfl rfl rfl rfl ?_
    refine tL ((0 : Nat) : Int) 0 rfl rfl rfl ?_
    refine tL ((0 : Nat) : Int) 0 rfl rfl rfl ?_
    refine tFR (c := 0) 82 rfl rfl rfl rfl rfl ?_
    refine tFv (c := 82) (s 82 0) 0 rfl rfl rfl rfl rfl ?_
    exact tCall [(((0 : Nat) : Int), 0), (s 82 0, 0)] [(s 0 3, 0), (((82 : Nat) : Int), 0)] rfl rfl rfl (fun m l => h1 g1 m (Nat.lt_of_lt_of_le l (Nat.le_refl n)))

theorem b_X10_passDrawnNight_21 {n : Nat} {Q : Zr → Prop} {t : Nat} (x1 v0 : Int) (s : Zs) (ht : t = 7 ∨ t = 43)
    (h0 : ∀ (g1 : s (zrho (zrho ((s 0 3).toNat) 1) x1.toNat) 3 ≤ v0), ∀ m, m < n → zT (zE 1306) (Pt PX10_passDrawnNight) m (2, [((0 : Nat) : Int), w32 (x1 + 1)], [], s) Q)
    (h1 : ∀ (g1 : v0 < s (zrho (zrho ((s 0 3).toNat) 1) x1.toNat) 3), ∀ m, m < n → zC m 779 [(((82 : Nat) : Int), 0), (s 0 3, 0), (x1, 0)] s (fun p => zT (zE 1306) (Pt PX10_passDrawnNight) m (47, [((0 : Nat) : Int), x1], p.1 ++ [], p.2) Q)) : zT (zE 1306) (Pt PX10_passDrawnNight) n (21, [((0 : Nat) : Int), x1], [(v0, 0)], s) Q := by
  refine tL ((0 : Nat) : Int) 0 rfl rfl rfl ?_
  refine tFv (c := 0) (s 0 3) 0 rfl rfl rfl rfl rfl ?_
  refine tFR (c := (s 0 3).toNat) (zrho ((s 0 3).toNat) 1) rfl rfl rfl rfl rfl ?_
  refine tL x1 0 rfl rfl rfl ?_
  refine tAR (zrho (zrho ((s 0 3).toNat) 1) x1.toNat) rfl rfl ?_
  refine tK rfl ?_
  refine tAv (zrho (zrho ((s 0 3).toNat) 1) x1.toNat) 3 (s (zrho (zrho ((s 0 3).toNat) 1) x1.toNat) 3) 0 rfl rfl rfl (by decide) rfl rfl ?_
  refine tJ3 rfl (fun g1 _ l1 => zT_le ?_ (Nat.le_of_lt l1)) (fun g1 _ l1 => zT_le ?_ (Nat.le_of_lt l1))
  · refine tInc [((0 : Nat) : Int), w32 (x1 + 1)] rfl rfl ?_
    exact tGb rfl (fun m2 l2 => h0 g1 m2 (Nat.lt_of_lt_of_le l2 (Nat.le_refl n)))
  · refine tL ((0 : Nat) : Int) 0 rfl rfl rfl ?_
    refine tFR (c := 0) 82 rfl rfl rfl rfl rfl ?_
    refine tL ((0 : Nat) : Int) 0 rfl rfl rfl ?_
    refine tFv (c := 0) (s 0 3) 0 rfl rfl rfl rfl rfl ?_
    refine tL x1 0 rfl rfl rfl ?_
    exact tCall [(((82 : Nat) : Int), 0), (s 0 3, 0), (x1, 0)] [] rfl rfl rfl (fun m l => h1 g1 m (Nat.lt_of_lt_of_le l (Nat.le_refl n)))

theorem b_X10_passDrawnNight_81 {n : Nat} {Q : Zr → Prop} {t : Nat} (x1 v0 y0 : Int) (s : Zs) (ht : t = 7 ∨ t = 43)
    (h0 : ∀ m, m < n → zC m 769 [(((82 : Nat) : Int), 0), (y0, 0), (v0, 0)] s (fun p => zT (zE 1306) (Pt PX10_passDrawnNight) m (84, [((0 : Nat) : Int), x1], p.1 ++ [], p.2) Q)) : zT (zE 1306) (Pt PX10_passDrawnNight) n (81, [((0 : Nat) : Int), x1], [(v0, 0), (y0, 0), (((82 : Nat) : Int), 0)], s) Q := by
  exact tCall [(((82 : Nat) : Int), 0), (y0, 0), (v0, 0)] [] rfl rfl rfl (fun m l => h0 m (Nat.lt_of_lt_of_le l (Nat.le_refl n)))

theorem b_X10_passDrawnNight_47 {n : Nat} {Q : Zr → Prop} {t : Nat} (x1 v0 : Int) (s : Zs) (ht : t = 7 ∨ t = 43)
    (h0 : ∀ m, m < n → zT (zE 1306) (Pt PX10_passDrawnNight) m (2, [((0 : Nat) : Int), w32 (x1 + 1)], [], s) Q) : zT (zE 1306) (Pt PX10_passDrawnNight) n (47, [((0 : Nat) : Int), x1], [(v0, 0)], s) Q := by
  refine tPop rfl ?_
  refine tInc [((0 : Nat) : Int), w32 (x1 + 1)] rfl rfl ?_
  exact tGb rfl (fun m2 l2 => h0 m2 (Nat.lt_of_lt_of_le l2 (Nat.le_refl n)))

theorem b_X10_passDrawnNight_84 {n : Nat} {Q : Zr → Prop} {t : Nat} (x1 v0 : Int) (s : Zs) (ht : t = 7 ∨ t = 43)
    (h0 : Q ([], zu s 82 4 (w32 ((s 82 4) + 1)))) : zT (zE 1306) (Pt PX10_passDrawnNight) n (84, [((0 : Nat) : Int), x1], [(v0, 0)], s) Q := by
  refine tPop rfl ?_
  refine tL ((0 : Nat) : Int) 0 rfl rfl rfl ?_
  refine tFR (c := 0) 82 rfl rfl rfl rfl rfl ?_
  refine tD rfl ?_
  refine tFv (c := 82) (s 82 4) 0 rfl rfl rfl rfl rfl ?_
  refine tK rfl ?_
  refine tB (v := w32 ((s 82 4) + 1)) rfl rfl ?_
  refine tPut 82 rfl rfl ?_
  exact tR rfl (h0)

theorem c_X10_passDrawnNight {n : Nat} {Q : Zr → Prop} {a0 : Int} {s : Zs} (h : zT (zE 1306) (Pt PX10_passDrawnNight) n (0, [a0, 0], [], s) Q) : zC n 1306 [(a0, 0)] s Q := h

theorem b_X10_years_0 {n : Nat} {Q : Zr → Prop} {t : Nat} (x1 x2 x3 x4 x5 : Int) (s : Zs) (ht : t = 7 ∨ t = 43)
    (h0 : ∀ (g1 : x1 < 0), Q ([((-1), 0)], s))
    (h1 : ∀ (g1 : 0 ≤ x1), ∀ (g2 : 9999 < x1), Q ([((-1), 0)], s))
    (h2 : ∀ (g1 : 0 ≤ x1), ∀ (g2 : x1 ≤ 9999), ∀ (g3 : x2 < 1), Q ([((-1), 0)], s))
    (h3 : ∀ (g1 : 0 ≤ x1), ∀ (g2 : x1 ≤ 9999), ∀ (g3 : 1 ≤ x2), ∀ (g4 : 100 < x2), Q ([((-1), 0)], s))
    (h4 : ∀ (g1 : 0 ≤ x1), ∀ (g2 : x1 ≤ 9999), ∀ (g3 : 1 ≤ x2), ∀ (g4 : x2 ≤ 100), ∀ (g5 : x3 < 0), Q ([((-1), 0)], s))
    (h5 : ∀ (g1 : 0 ≤ x1), ∀ (g2 : x1 ≤ 9999), ∀ (g3 : 1 ≤ x2), ∀ (g4 : x2 ≤ 100), ∀ (g5 : 0 ≤ x3), ∀ (g6 : x3 ≤ 2), ∀ m, m < n → zC m 772 [(((82 : Nat) : Int), 0), (((79 : Nat) : Int), 0)] s (fun p => zT (zE 1321) (Pt PX10_years) m (44, [((0 : Nat) : Int), x1, x2, x3, x4, x5], p.1 ++ [], p.2) Q))
    (h6 : ∀ (g1 : 0 ≤ x1), ∀ (g2 : x1 ≤ 9999), ∀ (g3 : 1 ≤ x2), ∀ (g4 : x2 ≤ 100), ∀ (g5 : 0 ≤ x3), ∀ (g6 : 2 < x3), Q ([((-1), 0)], s)) : zT (zE 1321) (Pt PX10_years) n (0, [((0 : Nat) : Int), x1, x2, x3, x4, x5], [], s) Q := by
  refine tL x1 0 rfl rfl rfl ?_
  refine tI2 rfl (fun g1 _ l1 => zT_le ?_ (Nat.le_of_lt l1)) (fun g1 _ l1 => zT_le ?_ (Nat.le_of_lt l1))
  · refine tK rfl ?_
    exact tR rfl (h0 g1)
  · refine tL x1 0 rfl rfl rfl ?_
    refine tK rfl ?_
    refine tJ4 rfl (fun g2 _ l2 => zT_le ?_ (Nat.le_of_lt l2)) (fun g2 _ l2 => zT_le ?_ (Nat.le_of_lt l2))
    · refine tK rfl ?_
      exact tR rfl (h1 g1 g2)
    · refine tL x2 0 rfl rfl rfl ?_
      refine tK rfl ?_
      refine tJ2 rfl (fun g3 _ l3 => zT_le ?_ (Nat.le_of_lt l3)) (fun g3 _ l3 => zT_le ?_ (Nat.le_of_lt l3))
      · refine tK rfl ?_
        exact tR rfl (h2 g1 g2 g3)
      · refine tL x2 0 rfl rfl rfl ?_
        refine tK rfl ?_
        refine tJ4 rfl (fun g4 _ l4 => zT_le ?_ (Nat.le_of_lt l4)) (fun g4 _ l4 => zT_le ?_ (Nat.le_of_lt l4))
        · refine tK rfl ?_
          exact tR rfl (h3 g1 g2 g3 g4)
        · refine tL x3 0 rfl rfl rfl ?_
          refine tI2 rfl (fun g5 _ l5 => zT_le ?_ (Nat.le_of_lt l5)) (fun g5 _ l5 => zT_le ?_ (Nat.le_of_lt l5))
          · refine tK rfl ?_
            exact tR rfl (h4 g1 g2 g3 g4 g5)
          · refine tL x3 0 rfl rfl rfl ?_
            refine tK rfl ?_
            refine tJ5 rfl (fun g6 _ l6 => zT_le ?_ (Nat.le_of_lt l6)) (fun g6 _ l6 => zT_le ?_ (Nat.le_of_lt l6))
            · refine tL ((0 : Nat) : Int) 0 rfl rfl rfl ?_
              refine tFR (c := 0) 82 rfl rfl rfl rfl rfl ?_
              refine tL ((0 : Nat) : Int) 0 rfl rfl rfl ?_
              refine tFR (c := 0) 79 rfl rfl rfl rfl rfl ?_
              exact tCall [(((82 : Nat) : Int), 0), (((79 : Nat) : Int), 0)] [] rfl rfl rfl (fun m l => h5 g1 g2 g3 g4 g5 g6 m (Nat.lt_of_lt_of_le l (Nat.le_refl n)))
            · refine tK rfl ?_
              exact tR rfl (h6 g1 g2 g3 g4 g5 g6)

theorem b_X10_years_72 {n : Nat} {Q : Zr → Prop} {t : Nat} (x1 x2 x3 x4 x5 : Int) (s : Zs) (ht : t = 7 ∨ t = 43)
    (h0 : ∀ (g1 : x2 ≤ x5), ∀ (g2 : x3 ≠ 0), ∀ (g3 : x3 ≠ 1), Q ([(x4, 0)], s))
    (h1 : ∀ (g1 : x2 ≤ x5), ∀ (g2 : x3 ≠ 0), ∀ (g3 : x3 = 1), ∀ m, m < n → zC m 1536 [(s 82 0, 0)] s (fun p => zT (zE 1321) (Pt PX10_years) m (134, [((0 : Nat) : Int), x1, x2, x3, x4, x5], p.1 ++ [], p.2) Q))
    (h2 : ∀ (g1 : x2 ≤ x5), ∀ (g2 : x3 = 0), Q ([(s 82 5, 0)], s))
    (h3 : ∀ (g1 : x5 < x2), ∀ m, m < n → zC m 1306 [(((0 : Nat) : Int), 0)] s (fun p => zT (zE 1321) (Pt PX10_years) m (82, [((0 : Nat) : Int), x1, x2, x3, x4, x5], p.1 ++ [], p.2) Q)) : zT (zE 1321) (Pt PX10_years) n (72, [((0 : Nat) : Int), x1, x2, x3, x4, x5], [], s) Q := by
  refine tL x5 0 rfl rfl rfl ?_
  refine tL x2 0 rfl rfl rfl ?_
  refine tJ3 rfl (fun g1 _ l1 => zT_le ?_ (Nat.le_of_lt l1)) (fun g1 _ l1 => zT_le ?_ (Nat.le_of_lt l1))
  · refine tL x3 0 rfl rfl rfl ?_
    refine tI1 rfl (fun g2 _ l2 => zT_le ?_ (Nat.le_of_lt l2)) (fun g2 _ l2 => zT_le ?_ (Nat.le_of_lt l2))
    · refine tL x3 0 rfl rfl rfl ?_
      refine tK rfl ?_
      refine tJ1 rfl (fun g3 _ l3 => zT_le ?_ (Nat.le_of_lt l3)) (fun g3 _ l3 => zT_le ?_ (Nat.le_of_lt l3))
      · refine tL x4 0 rfl rfl rfl ?_
        exact tR rfl (h0 g1 g2 g3)
      · refine tL ((0 : Nat) : Int) 0 rfl rfl rfl ?_
        refine tFR (c := 0) 82 rfl rfl rfl rfl rfl ?_
        refine tFv (c := 82) (s 82 0) 0 rfl rfl rfl rfl rfl ?_
        exact tCall [(s 82 0, 0)] [] rfl rfl rfl (fun m l => h1 g1 g2 g3 m (Nat.lt_of_lt_of_le l (Nat.le_refl n)))
    · refine tL ((0 : Nat) : Int) 0 rfl rfl rfl ?_
      refine tFR (c := 0) 82 rfl rfl rfl rfl rfl ?_
      refine tFv (c := 82) (s 82 5) 0 rfl rfl rfl rfl rfl ?_
      exact tR rfl (h2 g1 g2)
  · refine tL ((0 : Nat) : Int) 0 rfl rfl rfl ?_
    exact tCall [(((0 : Nat) : Int), 0)] [] rfl rfl rfl (fun m l => h3 g1 m (Nat.lt_of_lt_of_le l (Nat.le_refl n)))

theorem b_X10_years_44 {n : Nat} {Q : Zr → Prop} {t : Nat} (x1 x2 x3 x4 x5 : Int) (s : Zs) (ht : t = 7 ∨ t = 43)
    (h0 : ∀ m, m < n → zC m 1292 [(((0 : Nat) : Int), 0), (((82 : Nat) : Int), 0)] (zu (zu s 82 5 0) 0 15 x1) (fun p => zT (zE 1321) (Pt PX10_years) m (66, [((0 : Nat) : Int), x1, x2, x3, x4, x5], p.1 ++ [], p.2) Q)) : zT (zE 1321) (Pt PX10_years) n (44, [((0 : Nat) : Int), x1, x2, x3, x4, x5], [], s) Q := by
  refine tL ((0 : Nat) : Int) 0 rfl rfl rfl ?_
  refine tFR (c := 0) 82 rfl rfl rfl rfl rfl ?_
  refine tK rfl ?_
  refine tPut 82 rfl rfl ?_
  refine tL ((0 : Nat) : Int) 0 rfl rfl rfl ?_
  refine tL x1 0 rfl rfl rfl ?_
  refine tU1 rfl ?_
  refine tPut 0 rfl rfl ?_
  refine tL ((0 : Nat) : Int) 0 rfl rfl rfl ?_
  refine tL ((0 : Nat) : Int) 0 rfl rfl rfl ?_
  refine tFR (c := 0) 82 rfl rfl rfl rfl rfl ?_
  exact tCall [(((0 : Nat) : Int), 0), (((82 : Nat) : Int), 0)] [] rfl rfl rfl (fun m l => h0 m (Nat.lt_of_lt_of_le l (Nat.le_refl n)))

theorem b_X10_years_134 {n : Nat} {Q : Zr → Prop} {t : Nat} (x1 x2 x3 x4 x5 v0 : Int) (s : Zs) (ht : t = 7 ∨ t = 43)
    (h0 : Q ([(v0, 0)], s)) : zT (zE 1321) (Pt PX10_years) n (134, [((0 : Nat) : Int), x1, x2, x3, x4, x5], [(v0, 0)], s) Q := by
  refine tG rfl ?_
  exact tR rfl (h0)

theorem b_X10_years_82 {n : Nat} {Q : Zr → Prop} {t : Nat} (x1 x2 x3 x4 x5 : Int) (s : Zs) (ht : t = 7 ∨ t = 43)
    (h0 : ∀ m, m < n → zC m 1289 [(((0 : Nat) : Int), 0), (s 82 0, 0)] s (fun p => zT (zE 1321) (Pt PX10_years) m (95, [((0 : Nat) : Int), x1, x2, x3, x4, x5], p.1 ++ [(x4, 0)], p.2) Q)) : zT (zE 1321) (Pt PX10_years) n (82, [((0 : Nat) : Int), x1, x2, x3, x4, x5], [], s) Q := by
  refine tL x4 0 rfl rfl rfl ?_
  refine tL ((0 : Nat) : Int) 0 rfl rfl rfl ?_
  refine tL ((0 : Nat) : Int) 0 rfl rfl rfl ?_
  refine tFR (c := 0) 82 rfl rfl rfl rfl rfl ?_
  refine tFv (c := 82) (s 82 0) 0 rfl rfl rfl rfl rfl ?_
  exact tCall [(((0 : Nat) : Int), 0), (s 82 0, 0)] [(x4, 0)] rfl rfl rfl (fun m l => h0 m (Nat.lt_of_lt_of_le l (Nat.le_refl n)))

theorem b_X10_years_66 {n : Nat} {Q : Zr → Prop} {t : Nat} (x1 x2 x3 x4 x5 : Int) (s : Zs) (ht : t = 7 ∨ t = 43)
    (h0 : zT (zE 1321) (Pt PX10_years) n (72, [((0 : Nat) : Int), x1, x2, x3, 0, 0], [], s) Q) : zT (zE 1321) (Pt PX10_years) n (66, [((0 : Nat) : Int), x1, x2, x3, x4, x5], [], s) Q := by
  refine tK rfl ?_
  refine tS [((0 : Nat) : Int), x1, x2, x3, 0, x5] rfl rfl ?_
  refine tK rfl ?_
  refine tS [((0 : Nat) : Int), x1, x2, x3, 0, 0] rfl rfl ?_
  exact zT_le (h0) (Nat.le_refl n)

theorem b_X10_years_95 {n : Nat} {Q : Zr → Prop} {t : Nat} (x1 x2 x3 x4 x5 v0 y0 : Int) (s : Zs) (ht : t = 7 ∨ t = 43)
    (h0 : ∀ m, m < n → zC m 1536 [(v0, 0)] s (fun p => zT (zE 1321) (Pt PX10_years) m (98, [((0 : Nat) : Int), x1, x2, x3, x4, x5], p.1 ++ [(y0, 0)], p.2) Q)) : zT (zE 1321) (Pt PX10_years) n (95, [((0 : Nat) : Int), x1, x2, x3, x4, x5], [(v0, 0), (y0, 0)], s) Q := by
  exact tCall [(v0, 0)] [(y0, 0)] rfl rfl rfl (fun m l => h0 m (Nat.lt_of_lt_of_le l (Nat.le_refl n)))

theorem b_X10_years_98 {n : Nat} {Q : Zr → Prop} {t : Nat} (x1 x2 x3 x4 x5 v0 y0 : Int) (s : Zs) (ht : t = 7 ∨ t = 43)
    (h0 : ∀ m, m < n → zT (zE 1321) (Pt PX10_years) m (72, [((0 : Nat) : Int), x1, x2, x3, w32 (y0 + v0), w32 (x5 + 1)], [], s) Q) : zT (zE 1321) (Pt PX10_years) n (98, [((0 : Nat) : Int), x1, x2, x3, x4, x5], [(v0, 0), (y0, 0)], s) Q := by
  refine tB (v := w32 (y0 + v0)) rfl rfl ?_
  refine tS [((0 : Nat) : Int), x1, x2, x3, w32 (y0 + v0), x5] rfl rfl ?_
  refine tInc [((0 : Nat) : Int), x1, x2, x3, w32 (y0 + v0), w32 (x5 + 1)] rfl rfl ?_
  exact tGb rfl (fun m2 l2 => h0 m2 (Nat.lt_of_lt_of_le l2 (Nat.le_refl n)))

theorem c_X10_years {n : Nat} {Q : Zr → Prop} {a0 a1 a2 a3 : Int} {s : Zs} (h : zT (zE 1321) (Pt PX10_years) n (0, [a0, a1, a2, a3, 0, 0], [], s) Q) : zC n 1321 [(a0, 0), (a1, 0), (a2, 0), (a3, 0)] s Q := h

section Zyr
variable {N t : Nat} {s : Zs} {D : ZD} {S : ZS} {q : List Int}
/-- a draw -/
def drG (g : Int) : Int := (g * 1103515245 + 12345) % 2147483648
def drV (g m : Int) : Int := drG g / 65536 % m
def gOk (g : Int) : Prop := 0 ≤ g ∧ g < 2147483648
theorem drG_ok (g : Int) : gOk (drG g) := by
  unfold gOk drG
  omega
theorem zdivL_p {x d : Int} (h0 : 0 ≤ x) (h1 : x ≤ 9223372036854775807) (hd : 0 < d) (hd1 : d ≤ 9223372036854775807) : zdivL x d = x / d := by
  unfold zdivL
  rw [Int64.toInt_div, Int64.toInt_ofInt_of_le (by omega) (by omega), Int64.toInt_ofInt_of_le (by omega) (by omega), Int.tdiv_eq_ediv_of_nonneg h0]
  have a : 0 ≤ x / d := Int.ediv_nonneg h0 (by omega)
  have b : x / d ≤ x := Int.ediv_le_self d h0
  exact w64_id (by omega) (by omega)
theorem zremL_p {x d : Int} (h0 : 0 ≤ x) (h1 : x ≤ 9223372036854775807) (hd : 0 < d) (hd1 : d ≤ 9223372036854775807) : zremL x d = x % d := by
  unfold zremL
  rw [Int64.toInt_sub, Int64.toInt_mul, Int64.toInt_div, Int64.toInt_ofInt_of_le (by omega) (by omega), Int64.toInt_ofInt_of_le (by omega) (by omega), Int.tdiv_eq_ediv_of_nonneg h0]
  have a : 0 ≤ x / d := Int.ediv_nonneg h0 (by omega)
  have b : x / d ≤ x := Int.ediv_le_self d h0
  have e : x % d = x - d * (x / d) := Int.emod_def x d
  have c1 : 0 ≤ x % d := Int.emod_nonneg x (by omega)
  have c2 : x % d < d := Int.emod_lt_of_pos x hd
  have e1 : (x / d).bmod (2 ^ 64) = x / d := w64_id (by omega) (by omega)
  rw [e1, Int.mul_comm (x / d) d]
  have e2 : (d * (x / d)).bmod (2 ^ 64) = d * (x / d) := w64_id (by omega) (by omega)
  rw [e2, ← e]
  exact w64_id (by omega) (by omega)
theorem zandL_m {X : Nat} (h : X < 9223372036854775808) : zandL (X : Int) 2147483647 = ((X % 2147483648 : Nat) : Int) := by
  show (BitVec.ofInt 64 (X : Int) &&& BitVec.ofInt 64 ((2147483647 : Nat) : Int)).toInt = _
  rw [bv_nat64, bv_nat64]
  have e : (BitVec.ofNat 64 X &&& BitVec.ofNat 64 2147483647).toNat = X % 2147483648 := by
    rw [BitVec.toNat_and, BitVec.toNat_ofNat, BitVec.toNat_ofNat, Nat.mod_eq_of_lt (show X < 2 ^ 64 by omega), Nat.mod_eq_of_lt (show 2147483647 < 2 ^ 64 by omega)]
    exact Nat.and_two_pow_sub_one_eq_mod X 31
  rw [BitVec.toInt_eq_toNat_of_lt (by rw [e]; omega), e]
theorem dr_w {g : Int} (h : gOk g) : w64 (w64 (g * 1103515245) + 12345) = g * 1103515245 + 12345 := by
  unfold gOk at h
  rw [w64_id (z := g * 1103515245) (by omega) (by omega), w64_id (by omega) (by omega)]
theorem dr_c {g : Int} (h : gOk g) : zandL (w64 (w64 (g * 1103515245) + 12345)) 2147483647 = drG g := by
  rw [dr_w h]
  unfold gOk at h
  obtain ⟨X, e⟩ := Int.eq_ofNat_of_zero_le (show 0 ≤ g * 1103515245 + 12345 by omega)
  unfold drG
  rw [e, zandL_m (by omega)]
  omega
theorem dr_m {g : Int} (h : gOk g) : zremL (w64 (w64 (g * 1103515245) + 12345)) 2147483648 = drG g := by
  rw [dr_w h]
  unfold gOk at h
  exact zremL_p (by omega) (by omega) (by decide) (by decide)
theorem dr_v {g m : Int} (h1 : 1 ≤ m) (h2 : m < 2147483648) : zl2i (zremL (zdivL (drG g) 65536) m) = drV g m := by
  have b := drG_ok g
  unfold gOk at b
  have b2 : 0 ≤ drG g / 65536 ∧ drG g / 65536 < 32768 := by omega
  rw [zdivL_p b.1 (by omega) (by decide) (by decide), zremL_p b2.1 (by omega) (by omega) (by omega)]
  have c1 : 0 ≤ drG g / 65536 % m := Int.emod_nonneg _ (by omega)
  have c2 : drG g / 65536 % m < m := Int.emod_lt_of_pos _ (by omega)
  exact zl2i_id c1 (by omega)
theorem draw_c {g m : Int} (ht : t = 7 ∨ t = 43) (e : s 0 15 = g) (hg : gOk g) (h1 : 1 ≤ m) (h2 : m < 2147483648) : zC N 1290 [(((0 : Nat) : Int), 0), (m, 0)] s (fun r => r = ([(drV g m, 0)], zu s 0 15 (drG g))) := by
  refine c_X10_draw (b_X10_draw_0 _ s ht (fun _ => ?_) (fun h => absurd h (by omega)))
  show _ = _
  rw [e, dr_c hg, dr_v h1 h2]
theorem draws_m {g m : Int} (e : s 172 73 = g) (hg : gOk g) (h1 : 1 ≤ m) (h2 : m < 2147483648) : zC N 1431 [(((172 : Nat) : Int), 0), (m, 0)] s (fun r => r = ([(drV g m, 0)], zu s 172 73 (drG g))) := by
  refine c_X11_draws (b_X11_draws_0 _ s ?_)
  show _ = _
  rw [e, dr_m hg, dr_v h1 h2]
/-- the nights by draws: what is drawn, how it stands, what is sold by these -/
abbrev YS : Type := Int × ZS × Int
noncomputable def yrF1 (D : ZD) (q : List Int) (k : Nat) (y : YS) : YS := if dcP (drV y.1 10 < colD D 13 k ∧ canS D y.2.1 ((k : Nat) : Int)) = true then (drG y.1, stlT y.2.1 k, w32 (y.2.2 + prV D y.2.1 q k)) else (drG y.1, y.2)
noncomputable def yrF (D : ZD) (q : List Int) (y : YS) : Nat → YS
  | 0 => y
  | k + 1 => yrF1 D q k (yrF D q y k)
/-- the first one that is gone -/
def fgV (th : Nat) : Nat → Nat → Int
  | 0, _ => -1
  | f + 1, k => if th.testBit k = true then fgV th f (k + 1) else ((k : Nat) : Int)
noncomputable def yrB (D : ZD) (y : YS) : ZS := if dcP (drV y.1 4 = 0 ∧ canB D y.2.1 (fgV (sTh y.2.1) (cnt D 1) 0)) = true then bldT D y.2.1 (fgV (sTh y.2.1) (cnt D 1) 0).toNat else y.2.1
noncomputable def yrN (D : ZD) (q : List Int) (y : YS) : YS := (drG (yrF D q y (cnt D 1)).1, nigT (yrB D (yrF D q y (cnt D 1))), (yrF D q y (cnt D 1)).2.2)
noncomputable def yrC (D : ZD) (y : YS) : Int := ((bcn (cuV D y.2.1 (sTh y.2.1)) : Nat) : Int)
noncomputable def yrR (D : ZD) (q : List Int) (y : YS) : Nat → YS × Int
  | 0 => (y, 0)
  | k + 1 => (yrN D q (yrR D q y k).1, w32 ((yrR D q y k).2 + yrC D (yrN D q (yrR D q y k).1)))
def yrW (D : ZD) (y : YS) : Prop := gOk y.1 ∧ wS D y.2.1
theorem yrF1_W {y : YS} (hw : wD D) {k : Nat} (h : yrW D y) : yrW D (yrF1 D q k y) := by
  unfold yrF1
  split
  · exact ⟨drG_ok _, wS_stl hw h.2 _⟩
  · exact ⟨drG_ok _, h.2⟩
theorem yrF_W {y : YS} (hw : wD D) (h : yrW D y) : ∀ k, yrW D (yrF D q y k)
  | 0 => h
  | k + 1 => yrF1_W hw (yrF_W hw h k)
theorem yrB_W {y : YS} (hw : wD D) (hX : wX D) (h : yrW D y) : wS D (yrB D y) := by
  unfold yrB
  split
  · rename_i c
    exact wS_bld hw hX h.2 (dcP_iff.mp c).2
  · exact h.2
theorem yrN_W {y : YS} (hw : wD D) (hX : wX D) (h : yrW D y) : yrW D (yrN D q y) := ⟨drG_ok _, wS_nig (yrB_W hw hX (yrF_W hw h _))⟩
theorem yrR_W {y : YS} (hw : wD D) (hX : wX D) (h : yrW D y) : ∀ k, yrW D (yrR D q y k).1
  | 0 => h
  | k + 1 => yrN_W hw hX (yrR_W hw hX h k)
/-- people and things stay -/
def ptE (S S' : ZS) : Prop := S'.2.1 = S.2.1 ∧ S'.2.2.1 = S.2.2.1
theorem yrF1_p {y : YS} {k : Nat} : ptE y.2.1 (yrF1 D q k y).2.1 := by
  unfold yrF1
  split <;> exact ⟨rfl, rfl⟩
theorem yrF_p {y : YS} : ∀ k, ptE y.2.1 (yrF D q y k).2.1
  | 0 => ⟨rfl, rfl⟩
  | k + 1 => ⟨yrF1_p.1.trans (yrF_p k).1, yrF1_p.2.trans (yrF_p k).2⟩
theorem yrB_p {y : YS} : ptE y.2.1 (yrB D y) := by
  unfold yrB
  split <;> exact ⟨rfl, rfl⟩
theorem nig_p {S : ZS} : ptE S (nigT S) := ⟨rfl, rfl⟩
theorem ptE_tr {S S' S'' : ZS} (h : ptE S S') (g : ptE S' S'') : ptE S S'' := ⟨g.1.trans h.1, g.2.trans h.2⟩
theorem yrN_p {y : YS} : ptE y.2.1 (yrN D q y).2.1 := ptE_tr (yrF_p _) (ptE_tr yrB_p nig_p)
theorem yrR_p {y : YS} : ∀ k, ptE y.2.1 (yrR D q y k).1.2.1
  | 0 => ⟨rfl, rfl⟩
  | k + 1 => ptE_tr (yrR_p k) yrN_p
theorem lfS_e {S S' : ZS} (h : S'.2.2.1 = S.2.2.1) {w pl : Int} : ∀ k, lfS D S' w pl k = lfS D S w pl k
  | 0 => rfl
  | k + 1 => by
    have e : sTg S' k = sTg S k := by unfold sTg; rw [h]
    have ih := lfS_e h (w := w) (pl := pl) k
    unfold lfS
    rw [ih, e]
theorem cuV_e {S S' : ZS} (h : ptE S S') (th : Nat) : cuV D S' th = cuV D S th := by
  have a : ∀ p, sPe S' p = sPe S p := fun p => by unfold sPe; rw [h.1]
  have b : ∀ p w, cli D S' p w = cli D S p w := fun p w => by
    unfold cli
    exact bset_congr (fun f _ => by unfold cliB; rw [lfS_e h.2])
  unfold cuV
  exact bset_congr (fun p _ => by unfold cutB; rw [a, b])
theorem cuV_b {S : ZS} {th : Nat} (hw : wD D) : cuV D S th < 1024 := by
  have h5 : cnt D 3 ≤ 5 := hw.1 3 (by omega)
  have b := bset_lt (cutB D S th) (cnt D 3)
  have c : 2 ^ cnt D 3 ≤ 2 ^ 5 := Nat.pow_le_pow_right (by decide) h5
  have d : 2 ^ 5 = 32 := by decide
  unfold cuV
  omega
/-! the class -/
def yrB0 (s : Zs) (t : Nat) (D : ZD) (q : List Int) : Prop := s 0 3 = ((t : Nat) : Int) ∧ cDn s t D ∧ (∀ f : Nat, f < cnt D 1 → s (t + 35) f = ((abv D f : Nat) : Int)) ∧ (0 < cnt D 1 → prR s t q)
def yrY (s : Zs) (D : ZD) (y : YS) : Prop := cSt s 82 D y.2.1 ∧ s 0 15 = y.1 ∧ s 82 5 = y.2.2
def frY (t : Nat) (s s' : Zs) : Prop := ∀ c j, ¬ (82 ≤ c ∧ c ≤ 84) → ¬ (c = 0 ∧ j = 15) → c ≠ t + 31 → s' c j = s c j
theorem frY_rf : frY t s s := fun _ _ _ _ _ => rfl
theorem frY_tr {s' s'' : Zs} (h : frY t s s') (g : frY t s' s'') : frY t s s'' := fun c j a b d => (g c j a b d).trans (h c j a b d)
theorem yrB0_e {s' : Zs} (ht : t = 7 ∨ t = 43) (hw : wD D) (h : yrB0 s t D q) (f : frY t s s') : yrB0 s' t D q := by
  refine ⟨(f 0 3 (by omega) (by omega) (by omega)).trans h.1, cDn_e h.2.1 hw (fun c j hc => f c j (by omega) (by omega) (by omega)), fun k hk => (f (t + 35) k (by omega) (by omega) (by omega)).trans (h.2.2.1 k hk), fun c => prR_e (h.2.2.2 c) (fun c j a => ?_)⟩
  unfold prcC at a
  exact f c j (by omega) (by omega) (by omega)
theorem steals_Y {y : YS} (ht : t = 7 ∨ t = 43) (hw : wD D) (hX : wX D) (B : yrB0 s t D q) (Y : yrY s D y) (W : yrW D y) {k : Nat} (hk : k < cnt D 1) : zC N 779 [(((82 : Nat) : Int), 0), (((t : Nat) : Int), 0), (((k : Nat) : Int), 0)] s (fun r => (∃ v, r.1 = [(v, 0)]) ∧ frY t s r.2 ∧ yrY r.2 D (if dcP (canS D y.2.1 ((k : Nat) : Int)) = true then (y.1, stlT y.2.1 k, w32 (y.2.2 + prV D y.2.1 q k)) else y)) := by
  have Q := B.2.2.2 (by omega)
  refine zC_a (steals_okE ht (b := 82) rfl B.2.1 hw hX Y.1 W.2 B.2.2.1 Q) (steals_ok ht (b := 82) rfl B.2.1 hw Y.1 W.2 B.2.2.1) (fun r hr hr' => ?_)
  obtain ⟨r1, s1⟩ := r
  by_cases can : canS D y.2.1 ((k : Nat) : Int)
  · obtain ⟨e, e5⟩ := hr.1 can
    obtain ⟨-, c1, f1⟩ := hr'.1 can
    have f1 : ∀ c j, ¬ (c = 82 ∧ (j = 0 ∨ j = 5)) → c ≠ t + 31 → s1 c j = s c j := f1
    have e5 : s1 82 5 = w32 (s 82 5 + prV D y.2.1 q k) := e5
    have c1 : cSt s1 82 D (stlT y.2.1 k) := c1
    rw [Y.2.2] at e5
    rw [if_pos (dcP_yes can)]
    exact ⟨⟨_, e⟩, fun c j a b d => f1 c j (by omega) d, c1, (f1 0 15 (by omega) (by omega)).trans Y.2.1, e5⟩
  · have e := hr.2 can
    cases e
    rw [if_neg (by rw [dcP_no can]; decide)]
    exact ⟨⟨_, rfl⟩, frY_rf, Y⟩
theorem firstGone_c (ht : t = 7 ∨ t = 43) (hw : wD D) (B : yrB0 s t D q) {th : Nat} (hth : th < 1024) : zC N 1294 [(((0 : Nat) : Int), 0), ((th : Int), 0)] s (fun r => r = ([(fgV th (cnt D 1) 0, 0)], s)) := by
  have h10 : cnt D 1 ≤ 10 := hw.1 1 (by omega)
  have hc : s (zrho ((s 0 3).toNat) 0) 1 = ((cnt D 1 : Nat) : Int) := by
    rw [B.1, Int.toNat_natCast, zt8_0 ht]
    exact B.2.1.1 1 (by omega)
  have loop : ∀ (M f k : Nat), k + f = cnt D 1 → fgV th (cnt D 1) 0 = fgV th f k → zT (zE 1294) (Pt PX10_firstGone) M (2, [((0 : Nat) : Int), (th : Int), (k : Int)], [], s) (fun r => r = ([(fgV th (cnt D 1) 0, 0)], s)) := by
    intro M
    induction M using Nat.strongRecOn with
    | ind M ih =>
      intro f k hf e
      refine b_X10_firstGone_2 _ _ s ht (fun g => ?_) (fun g g2 m hm => ?_) (fun g g2 => ?_)
      all_goals rw [hc] at g
      · have f0 : f = 0 := by omega
        subst f0
        show _ = _
        rw [e, show fgV th 0 k = -1 from rfl]
      · obtain ⟨f', rfl⟩ : ∃ f', f = f' + 1 := ⟨f - 1, by omega⟩
        have tb : th.testBit k = true := Decidable.byContradiction (fun c => g2 ((zbit0 (by omega) (by omega)).mpr c))
        rw [w32_id (by omega) (by omega), show (k : Int) + 1 = ((k + 1 : Nat) : Int) from by omega]
        exact ih m hm f' (k + 1) (by omega) (e.trans (if_pos tb))
      · obtain ⟨f', rfl⟩ : ∃ f', f = f' + 1 := ⟨f - 1, by omega⟩
        have nt : ¬ th.testBit k = true := (zbit0 (by omega) (by omega)).mp g2
        have e2 : fgV th (f' + 1) k = ((k : Nat) : Int) := if_neg nt
        show _ = _
        rw [e, e2]
  exact c_X10_firstGone (b_X10_firstGone_0 _ _ s ht (loop N (cnt D 1) 0 (by omega) rfl))
theorem nig_Y {s2 : Zs} {S' : ZS} (c : cSt s2 82 D S') : cSt (zu s2 82 4 (w32 (s2 82 4 + 1))) 82 D (nigT S') := by
  obtain ⟨a1, a2, a3, a4, a5⟩ := c
  refine ⟨(zu_n (by omega)).trans a1, fun p hp => (zu_n (by omega)).trans (a2 p hp), fun p hp => (zu_n (by omega)).trans (a3 p hp), (zu_n (by omega)).trans a4, ?_⟩
  rw [zu_eq, a5]
  rfl
theorem pass_c {y : YS} (ht : t = 7 ∨ t = 43) (hw : wD D) (hX : wX D) (B : yrB0 s t D q) (Y : yrY s D y) (W : yrW D y) : zC N 1306 [(((0 : Nat) : Int), 0)] s (fun r => r.1 = [] ∧ frY t s r.2 ∧ yrY r.2 D (yrN D q y)) := by
  have h10 : cnt D 1 ≤ 10 := hw.1 1 (by omega)
  have fin : ∀ (s3 : Zs), frY t s s3 → cSt s3 82 D (yrB D (yrF D q y (cnt D 1))) → s3 0 15 = drG (yrF D q y (cnt D 1)).1 → s3 82 5 = (yrF D q y (cnt D 1)).2.2 → (([], zu s3 82 4 (w32 (s3 82 4 + 1))) : Zr).1 = [] ∧ frY t s (([], zu s3 82 4 (w32 (s3 82 4 + 1))) : Zr).2 ∧ yrY (([], zu s3 82 4 (w32 (s3 82 4 + 1))) : Zr).2 D (yrN D q y) := fun s3 f c g u => by
    refine ⟨rfl, fun c' j a b d => (zu_n (by omega)).trans (f c' j a b d), nig_Y c, ?_, ?_⟩
    · show zu s3 82 4 (w32 (s3 82 4 + 1)) 0 15 = _
      rw [zu_n (by omega)]
      exact g
    · show zu s3 82 4 (w32 (s3 82 4 + 1)) 82 5 = _
      rw [zu_n (by omega)]
      exact u
  have loop : ∀ (M k : Nat) (s1 : Zs), k ≤ cnt D 1 → frY t s s1 → yrY s1 D (yrF D q y k) → zT (zE 1306) (Pt PX10_passDrawnNight) M (2, [((0 : Nat) : Int), (k : Int)], [], s1) (fun r => r.1 = [] ∧ frY t s r.2 ∧ yrY r.2 D (yrN D q y)) := by
    intro M
    induction M using Nat.strongRecOn with
    | ind M ih =>
      intro k s1 hk f1 Y1
      have B1 := yrB0_e ht hw B f1
      have W1 := yrF_W (q := q) hw W k
      have hc : s1 (zrho ((s1 0 3).toNat) 0) 1 = ((cnt D 1 : Nat) : Int) := by
        rw [B1.1, Int.toNat_natCast, zt8_0 ht]
        exact B1.2.1.1 1 (by omega)
      have z2 : ∀ v : Int, frY t s1 (zu s1 0 15 v) := fun v c j _ b _ => zu_n b
      have c2 : ∀ v : Int, cSt (zu s1 0 15 v) 82 D (yrF D q y k).2.1 := fun v => cSt_e Y1.1 (fun c j a b _ => zu_n (by omega))
      have u2 : ∀ v : Int, zu s1 0 15 v 82 5 = (yrF D q y k).2.2 := fun v => (zu_n (by omega)).trans Y1.2.2
      refine b_X10_passDrawnNight_2 _ s1 ht (fun g m hm => ?_) (fun g m hm => ?_)
      all_goals rw [hc] at g
      · have ek : k = cnt D 1 := by omega
        subst ek
        refine zC_q (draw_c ht Y1.2.1 W1.1 (by decide) (by decide)) (fun r hr => ?_)
        subst hr
        have B2 := yrB0_e ht hw B1 (z2 (drG (yrF D q y (cnt D 1)).1))
        have C2 := c2 (drG (yrF D q y (cnt D 1)).1)
        have U2 := u2 (drG (yrF D q y (cnt D 1)).1)
        have F2 := frY_tr f1 (z2 (drG (yrF D q y (cnt D 1)).1))
        have G2 : zu s1 0 15 (drG (yrF D q y (cnt D 1)).1) 0 15 = drG (yrF D q y (cnt D 1)).1 := zu_eq _ _ _ _
        generalize zu s1 0 15 (drG (yrF D q y (cnt D 1)).1) = s2 at B2 C2 U2 F2 G2 ⊢
        refine b_X10_passDrawnNight_59 _ _ s2 ht (fun g2 => ?_) (fun g2 m2 hm2 => ?_)
        · have e : yrB D (yrF D q y (cnt D 1)) = (yrF D q y (cnt D 1)).2.1 := if_neg (by rw [dcP_no (fun z => g2 z.1)]; decide)
          exact fin s2 F2 (by rw [e]; exact C2) G2 U2
        · rw [show s2 82 0 = ((sTh (yrF D q y (cnt D 1)).2.1 : Nat) : Int) from C2.1, B2.1]
          refine zC_q (firstGone_c ht hw B2 (wS_lt hw W1.2)) (fun r hr => ?_)
          subst hr
          refine b_X10_passDrawnNight_81 _ _ _ s2 ht (fun m3 hm3 => ?_)
          refine zC_q (builds_ok ht (b := 82) rfl B2.2.1 hw hX C2 W1.2) (fun r hr => ?_)
          obtain ⟨r1, s3⟩ := r
          by_cases can : canB D (yrF D q y (cnt D 1)).2.1 (fgV (sTh (yrF D q y (cnt D 1)).2.1) (cnt D 1) 0)
          · obtain ⟨e, C3, f3⟩ := hr.1 can
            have e : r1 = [(_, 0)] := e
            subst e
            have f3 : ∀ c j, ¬ (c = 82 ∧ (j = 0 ∨ j = 3)) → s3 c j = s2 c j := f3
            refine b_X10_passDrawnNight_84 _ _ s3 ht ?_
            have e : yrB D (yrF D q y (cnt D 1)) = bldT D (yrF D q y (cnt D 1)).2.1 (fgV (sTh (yrF D q y (cnt D 1)).2.1) (cnt D 1) 0).toNat := if_pos (dcP_yes ⟨g2, can⟩)
            exact fin s3 (frY_tr F2 (fun c j a b d => f3 c j (by omega))) (by rw [e]; exact C3) ((f3 _ _ (by omega)).trans G2) ((f3 _ _ (by omega)).trans U2)
          · have e := hr.2 can
            cases e
            refine b_X10_passDrawnNight_84 _ _ s2 ht ?_
            have e : yrB D (yrF D q y (cnt D 1)) = (yrF D q y (cnt D 1)).2.1 := if_neg (by rw [dcP_no (fun z => can z.2)]; decide)
            exact fin s2 F2 (by rw [e]; exact C2) G2 U2
      · have hk2 : k < cnt D 1 := by omega
        refine zC_q (draw_c ht Y1.2.1 W1.1 (by decide) (by decide)) (fun r hr => ?_)
        subst hr
        have B2 := yrB0_e ht hw B1 (z2 (drG (yrF D q y k).1))
        have C2 := c2 (drG (yrF D q y k).1)
        have U2 := u2 (drG (yrF D q y k).1)
        have F2 := frY_tr f1 (z2 (drG (yrF D q y k).1))
        have G2 : zu s1 0 15 (drG (yrF D q y k).1) 0 15 = drG (yrF D q y k).1 := zu_eq _ _ _ _
        generalize zu s1 0 15 (drG (yrF D q y k).1) = s2 at B2 C2 U2 F2 G2 ⊢
        have ho : s2 (zrho (zrho ((s2 0 3).toNat) 1) (k : Int).toNat) 3 = colD D 13 k := by
          rw [B2.1, Int.toNat_natCast, Int.toNat_natCast, zt8_1 ht, zrow1 ht (by omega)]
          exact cDn_col B2.2.1 hw (k := 1) (j := 3) (by omega) (by omega) (by decide) hk2
        have ek : w32 ((k : Int) + 1) = ((k + 1 : Nat) : Int) := by rw [w32_id (by omega) (by omega)]; omega
        refine b_X10_passDrawnNight_21 _ _ s2 ht (fun g2 m2 hm2 => ?_) (fun g2 m2 hm2 => ?_)
        all_goals rw [ho] at g2
        · have e : yrF D q y (k + 1) = (drG (yrF D q y k).1, (yrF D q y k).2) := if_neg (by rw [dcP_no (fun z => by have := z.1; omega)]; decide)
          rw [ek]
          clear ek
          exact ih m2 (by omega) (k + 1) s2 (by omega) F2 (by rw [e]; exact ⟨C2, G2, U2⟩)
        · rw [B2.1]
          refine zC_q (steals_Y (y := (drG (yrF D q y k).1, (yrF D q y k).2)) ht hw hX B2 ⟨C2, G2, U2⟩ ⟨drG_ok _, W1.2⟩ hk2) (fun r hr => ?_)
          obtain ⟨r1, s3⟩ := r
          obtain ⟨⟨v, e⟩, f3, Y3⟩ := hr
          have e : r1 = [(v, 0)] := e
          subst e
          refine b_X10_passDrawnNight_47 _ _ s3 ht (fun m3 hm3 => ?_)
          rw [ek]
          clear ek
          refine ih m3 (by omega) (k + 1) s3 (by omega) (frY_tr F2 f3) ?_
          by_cases can : canS D (yrF D q y k).2.1 ((k : Nat) : Int)
          · have Y3 := Y3
            rw [if_pos (dcP_yes can)] at Y3
            have e : yrF D q y (k + 1) = (drG (yrF D q y k).1, stlT (yrF D q y k).2.1 k, w32 ((yrF D q y k).2.2 + prV D (yrF D q y k).2.1 q k)) := if_pos (dcP_yes ⟨g2, can⟩)
            rw [e]
            exact Y3
          · rw [if_neg (by rw [dcP_no can]; decide)] at Y3
            have e : yrF D q y (k + 1) = (drG (yrF D q y k).1, (yrF D q y k).2) := if_neg (by rw [dcP_no (fun z => can z.2)]; decide)
            rw [e]
            exact Y3
  exact c_X10_passDrawnNight (b_X10_passDrawnNight_0 _ s ht (loop N 0 s (by omega) frY_rf Y))
noncomputable def yrV (D : ZD) (q : List Int) (S : ZS) (x y w : Int) : Int := if 0 ≤ x ∧ x ≤ 9999 ∧ 1 ≤ y ∧ y ≤ 100 ∧ 0 ≤ w ∧ w ≤ 2 then (if w = 0 then (yrR D q (x, S, 0) y.toNat).1.2.2 else if w = 1 then ((bcn (sTh (yrR D q (x, S, 0) y.toNat).1.2.1) : Nat) : Int) else (yrR D q (x, S, 0) y.toNat).2) else -1
theorem yrV_no {x y w : Int} (h : ¬ (0 ≤ x ∧ x ≤ 9999 ∧ 1 ≤ y ∧ y ≤ 100 ∧ 0 ≤ w ∧ w ≤ 2)) : yrV D q S x y w = -1 := if_neg h
theorem years_c (ht : t = 7 ∨ t = 43) (hw : wD D) (hX : wX D) (B : yrB0 s t D q) (hS : cSt s 79 D S) (hs : wS D S) {x y w : Int} : zC N 1321 [(((0 : Nat) : Int), 0), (x, 0), (y, 0), (w, 0)] s (fun r => r.1 = [(yrV D q S x y w, 0)]) := by
  have no : ¬ (0 ≤ x ∧ x ≤ 9999 ∧ 1 ≤ y ∧ y ≤ 100 ∧ 0 ≤ w ∧ w ≤ 2) → (([((-1 : Int), 0)], s) : Zr).1 = [(yrV D q S x y w, 0)] := fun h => by rw [yrV_no h]
  refine c_X10_years (b_X10_years_0 _ _ _ _ _ s ht (fun g => no (by omega)) (fun _ g => no (by omega)) (fun _ _ g => no (by omega)) (fun _ _ _ g => no (by omega)) (fun _ _ _ _ g => no (by omega)) (fun g1 g2 g3 g4 g5 g6 m _ => ?_) (fun _ _ _ _ _ g => no (by omega)))
  refine zC_q (copy_ok ht (b := 82) (d := 79) rfl rfl (by decide)) (fun r hr => ?_)
  obtain ⟨r1, s1⟩ := r
  obtain ⟨e, f1, cp⟩ := hr
  have e : r1 = [] := e
  subst e
  have f1 : ∀ c j, ¬ (82 ≤ c ∧ c ≤ 84) → s1 c j = s c j := fun c j hc => f1 c j (by omega)
  have T1 : cSt s1 82 D S := cp D S hw hS
  have b2 : frY t s (zu (zu s1 82 5 0) 0 15 x) := fun c j a b d => by rw [zu_n b, zu_n (by omega)]; exact f1 c j a
  have T2 : cSt (zu (zu s1 82 5 0) 0 15 x) 82 D S := cSt_e T1 (fun c j a b d => by rw [zu_n (by omega), zu_n d])
  have G2 : zu (zu s1 82 5 0) 0 15 x 0 15 = x := zu_eq _ _ _ _
  have U2 : zu (zu s1 82 5 0) 0 15 x 82 5 = 0 := (zu_n (by omega)).trans (zu_eq _ _ _ _)
  refine b_X10_years_44 _ _ _ _ _ s1 ht (fun m2 _ => ?_)
  have B2 := yrB0_e ht hw B b2
  generalize zu (zu s1 82 5 0) 0 15 x = s2 at b2 T2 G2 U2 B2 ⊢
  refine zC_q (fillLacks_c ht (b := 82) rfl B2.1 B2.2.1 hw hX T2 hs) (fun r hr => ?_)
  obtain ⟨r1, s3⟩ := r
  obtain ⟨e, f3, l3⟩ := hr
  have e : r1 = [] := e
  subst e
  have f3 : ∀ c j, c ≠ 164 → s3 c j = s2 c j := f3
  have B3 : yrB0 s3 t D q := by
    refine ⟨(f3 0 3 (by omega)).trans B2.1, cDn_e B2.2.1 hw (fun c j hc => f3 c j (by omega)), fun k hk => (f3 (t + 35) k (by omega)).trans (B2.2.2.1 k hk), fun c => prR_e (B2.2.2.2 c) (fun c j a => ?_)⟩
    unfold prcC at a
    exact f3 c j (by omega)
  have Y3 : yrY s3 D (x, S, 0) := ⟨cSt_e T2 (fun c j a b _ => f3 c j (by omega)), (f3 _ _ (by omega)).trans G2, (f3 _ _ (by omega)).trans U2⟩
  have W3 : yrW D (x, S, 0) := ⟨⟨g1, by show x < _; omega⟩, hs⟩
  have l3 : ∀ p, p < cnt D 3 → s3 164 p = lkV D S p (sPe S p) := l3
  obtain ⟨n, en⟩ := Int.eq_ofNat_of_zero_le (show 0 ≤ y by omega)
  have yes : yrV D q S x y w = if w = 0 then (yrR D q (x, S, 0) n).1.2.2 else if w = 1 then ((bcn (sTh (yrR D q (x, S, 0) n).1.2.1) : Nat) : Int) else (yrR D q (x, S, 0) n).2 := by
    have e : yrV D q S x y w = if w = 0 then (yrR D q (x, S, 0) y.toNat).1.2.2 else if w = 1 then ((bcn (sTh (yrR D q (x, S, 0) y.toNat).1.2.1) : Nat) : Int) else (yrR D q (x, S, 0) y.toNat).2 := if_pos ⟨g1, g2, g3, g4, g5, g6⟩
    rw [e, en, Int.toNat_natCast]
  rw [yes]
  clear yes no
  have loop : ∀ (M k : Nat) (s4 : Zs), k ≤ n → frY t s3 s4 → yrY s4 D (yrR D q (x, S, 0) k).1 → zT (zE 1321) (Pt PX10_years) M (72, [((0 : Nat) : Int), x, y, w, (yrR D q (x, S, 0) k).2, (k : Int)], [], s4) (fun r => r.1 = [(if w = 0 then (yrR D q (x, S, 0) n).1.2.2 else if w = 1 then ((bcn (sTh (yrR D q (x, S, 0) n).1.2.1) : Nat) : Int) else (yrR D q (x, S, 0) n).2, 0)]) := by
    intro M
    induction M using Nat.strongRecOn with
    | ind M ih =>
      intro k s4 hk f4 Y4
      have B4 := yrB0_e ht hw B3 f4
      have W4 := yrR_W (q := q) hw hX W3 k
      refine b_X10_years_72 _ _ _ _ _ s4 ht (fun g h h2 => ?_) (fun g h h2 m3 _ => ?_) (fun g h => ?_) (fun g m3 hm3 => ?_)
      · have ek : k = n := by omega
        subst ek
        show [(_, _)] = [(_, _)]
        rw [if_neg h, if_neg h2]
      · have ek : k = n := by omega
        subst ek
        rw [show s4 82 0 = ((sTh (yrR D q (x, S, 0) k).1.2.1 : Nat) : Int) from Y4.1.1]
        refine zC_q (bits_ok (wS_lt hw W4.2)) (fun r hr => ?_)
        subst hr
        refine b_X10_years_134 _ _ _ _ _ _ s4 ht ?_
        show [(_, _)] = [(_, _)]
        rw [if_neg h, if_pos h2]
      · have ek : k = n := by omega
        subst ek
        show [(_, _)] = [(_, _)]
        rw [if_pos h, Y4.2.2]
      · refine zC_q (pass_c ht hw hX B4 Y4 W4) (fun r hr => ?_)
        obtain ⟨r1, s5⟩ := r
        obtain ⟨e, f5, Y5⟩ := hr
        have e : r1 = [] := e
        subst e
        have f5 : frY t s4 s5 := f5
        have Y5 : yrY s5 D (yrR D q (x, S, 0) (k + 1)).1 := Y5
        have F5 := frY_tr f4 f5
        have B5 := yrB0_e ht hw B3 F5
        have W5 := yrR_W (q := q) hw hX W3 (k + 1)
        have P5 := yrR_p (D := D) (q := q) (y := (x, S, 0)) (k + 1)
        refine b_X10_years_82 _ _ _ _ _ s5 ht (fun m4 hm4 => ?_)
        rw [show s5 82 0 = ((sTh (yrR D q (x, S, 0) (k + 1)).1.2.1 : Nat) : Int) from Y5.1.1]
        refine zC_q (cutBy_c (S := S) ht B5.1 B5.2.1 hw hX hs (fun p hp => (F5 164 p (by omega) (by omega) (by omega)).trans (l3 p hp)) (wS_lt hw W5.2)) (fun r hr => ?_)
        subst hr
        refine b_X10_years_95 _ _ _ _ _ _ _ s5 ht (fun m5 hm5 => ?_)
        refine zC_q (bits_ok (cuV_b hw)) (fun r hr => ?_)
        subst hr
        refine b_X10_years_98 _ _ _ _ _ _ _ s5 ht (fun m6 hm6 => ?_)
        have ek : w32 ((k : Int) + 1) = ((k + 1 : Nat) : Int) := by rw [w32_id (by omega) (by omega)]; omega
        have er : w32 ((yrR D q (x, S, 0) k).2 + ((bcn (cuV D S (sTh (yrR D q (x, S, 0) (k + 1)).1.2.1)) : Nat) : Int)) = (yrR D q (x, S, 0) (k + 1)).2 := by
          rw [← cuV_e P5]
          rfl
        rw [ek, er]
        clear ek er
        exact ih m6 (by omega) (k + 1) s5 (by omega) F5 Y5
  exact b_X10_years_66 _ _ _ _ _ s3 ht (loop _ 0 s3 (by omega) frY_rf Y3)
/-! the model -/
def yrB1 (s : Zs) (t : Nat) (D : ZD) (q : List Int) : Prop := mT s D ∧ (0 < cnt D 1 → prR s t q)
def yrZ (s : Zs) (D : ZD) (c0 : Int) (y : YS) : Prop := mSt s 216 0 D y.2.1 ∧ s 172 73 = y.1 ∧ w32 (s 216 12 - c0) = y.2.2
theorem yrB1_e {s' : Zs} (ht : t = 7 ∨ t = 43) (h : yrB1 s t D q) (f : frG s s') : yrB1 s' t D q := by
  refine ⟨mT_e (fun c j a b => f c j (by omega) (by omega) (by omega)) h.1, fun c => prR_e (h.2 c) (fun c j a => ?_)⟩
  unfold prcC at a
  exact f c j (by omega) (by omega) (by omega)
theorem w32_sh (a c p : Int) : w32 (w32 (a + p) - c) = w32 (w32 (a - c) + p) := by
  unfold w32
  rw [Int.bmod_sub_bmod, Int.bmod_add_bmod, show a + p - c = a - c + p from by omega]
theorem steals_Z {y : YS} {c0 : Int} (hw : wD D) (hX : wX D) (B : yrB1 s t D q) (Y : yrZ s D c0 y) (W : yrW D y) {k : Nat} (hk : k < cnt D 1) : zC N 1514 [(((172 : Nat) : Int), 0), ((k : Int), 0)] s (fun r => (∃ v, r.1 = [(v, 0)]) ∧ frG s r.2 ∧ yrZ r.2 D c0 (y.1, stlT y.2.1 k, w32 (y.2.2 + prV D y.2.1 q k))) := by
  have Q := B.2 (by omega)
  refine zC_a (steals_mE B.1 hw hX Y.1 W.2 Q hk) (steals_m hw Y.1 W.2 hk) (fun r hr hr' => ?_)
  obtain ⟨r1, s1⟩ := r
  obtain ⟨e, e5⟩ := hr
  obtain ⟨-, c1, f1⟩ := hr'
  have f1 : ∀ c j, c ≠ 216 → ¬ (195 ≤ c ∧ c ≤ 206) → s1 c j = s c j := f1
  have e5 : s1 216 12 = w32 (s 216 12 + prV D y.2.1 q k) := e5
  refine ⟨⟨_, e⟩, fun c j a b d => f1 c j a b, c1, (f1 172 73 (by omega) (by omega)).trans Y.2.1, ?_⟩
  show w32 (s1 216 12 - c0) = _
  rw [e5, w32_sh, Y.2.2]
theorem nig_Z {s2 : Zs} {S' : ZS} (c : mSt s2 216 0 D S') (hw : wD D) : mSt (zu s2 216 11 (w32 (s2 216 11 + 1))) 216 0 D (nigT S') := by
  have h5 : cnt D 3 ≤ 5 := hw.1 3 (by omega)
  have h4 : cnt D 2 ≤ 4 := hw.1 2 (by omega)
  obtain ⟨a1, a2, a3, a4, a5⟩ := c
  refine ⟨(zu_n (by omega)).trans a1, fun p hp => (zu_n (by omega)).trans (a2 p hp), fun p hp => (zu_n (by omega)).trans (a3 p hp), (zu_n (by omega)).trans a4, ?_⟩
  have a5 : s2 216 11 = sNi S' := a5
  show zu s2 216 11 (w32 (s2 216 11 + 1)) 216 11 = _
  rw [zu_eq, a5]
  rfl
theorem bld_Z {s2 : Zs} {k : Nat} (c : mSt s2 216 0 D S) (hw : wD D) (hl : sTh S < 1024) (hk : k < cnt D 1) (r2 : s2 182 k = colD D 12 k) : mSt (zu (zu s2 216 0 (zor (s2 216 0) (zshl 1 ((k : Nat) : Int)))) 216 10 (w32 ((s2 216 10) - (s2 182 ((k : Nat) : Int).toNat)))) 216 0 D (bldT D S k) := by
  have h10 : cnt D 1 ≤ 10 := hw.1 1 (by omega)
  have h5 : cnt D 3 ≤ 5 := hw.1 3 (by omega)
  have h4 : cnt D 2 ≤ 4 := hw.1 2 (by omega)
  have bk : 2 ^ k ≤ 2 ^ 9 := Nat.pow_le_pow_right (by decide) (by omega)
  have bk9 : 2 ^ 9 = 512 := by decide
  obtain ⟨a1, a2, a3, a4, a5⟩ := c
  have a1 : s2 216 0 = ((sTh S : Nat) : Int) := a1
  have a4 : s2 216 10 = sHp S := a4
  rw [a1, a4, Int.toNat_natCast, r2, zshl_1 k (by omega), zor_nat (by omega) (by omega)]
  have v : ∀ (a b : Int) (j : Nat), ¬ (j = 0 ∨ j = 10) → zu (zu s2 216 0 a) 216 10 b 216 j = s2 216 j := fun a b j h => by rw [zu_n (by omega), zu_n (by omega)]
  refine ⟨(zu_n (by omega)).trans (zu_eq _ _ _ _), fun p hp => (v _ _ _ (by omega)).trans (a2 p hp), fun p hp => (v _ _ _ (by omega)).trans (a3 p hp), zu_eq _ _ _ _, (v _ _ _ (by omega)).trans a5⟩
theorem lives_m {y : YS} {c0 : Int} (ht : t = 7 ∨ t = 43) (hw : wD D) (hX : wX D) (B : yrB1 s t D q) (Y : yrZ s D c0 y) (W : yrW D y) : zC N 1470 [(((172 : Nat) : Int), 0)] s (fun r => r.1 = [] ∧ frG s r.2 ∧ yrZ r.2 D c0 (yrN D q y)) := by
  have h10 : cnt D 1 ≤ 10 := hw.1 1 (by omega)
  have fin : ∀ (s3 : Zs), frG s s3 → mSt s3 216 0 D (yrB D (yrF D q y (cnt D 1))) → s3 172 73 = drG (yrF D q y (cnt D 1)).1 → w32 (s3 216 12 - c0) = (yrF D q y (cnt D 1)).2.2 → (([], zu s3 216 11 (w32 (s3 216 11 + 1))) : Zr).1 = [] ∧ frG s (([], zu s3 216 11 (w32 (s3 216 11 + 1))) : Zr).2 ∧ yrZ (([], zu s3 216 11 (w32 (s3 216 11 + 1))) : Zr).2 D c0 (yrN D q y) := fun s3 f c g u => by
    refine ⟨rfl, frG_u f, nig_Z c hw, ?_, ?_⟩
    · show zu s3 216 11 (w32 (s3 216 11 + 1)) 172 73 = _
      rw [zu_n (by omega)]
      exact g
    show w32 (zu s3 216 11 (w32 (s3 216 11 + 1)) 216 12 - c0) = _
    rw [zu_n (by omega)]
    exact u
  have l2 : ∀ (M f k : Nat) (x1 : Int) (s2 : Zs), k + f = cnt D 1 → fgV (sTh (yrF D q y (cnt D 1)).2.1) (cnt D 1) 0 = fgV (sTh (yrF D q y (cnt D 1)).2.1) f k → (x1 = 0 ↔ ¬ drV (yrF D q y (cnt D 1)).1 4 = 0) → frG s s2 → mSt s2 216 0 D (yrF D q y (cnt D 1)).2.1 → s2 172 73 = drG (yrF D q y (cnt D 1)).1 → w32 (s2 216 12 - c0) = (yrF D q y (cnt D 1)).2.2 → zT (zE 1470) (Pt PX11_livesNight) M (63, [((172 : Nat) : Int), x1, (k : Int)], [], s2) (fun r => r.1 = [] ∧ frG s r.2 ∧ yrZ r.2 D c0 (yrN D q y)) := by
    intro M
    induction M using Nat.strongRecOn with
    | ind M ih =>
      intro f k x1 s2 hf ef hx F2 C2 G2 U2
      have W1 := yrF_W (q := q) hw W (cnt D 1)
      have hl := wS_lt hw W1.2
      have B2 := yrB1_e ht B F2
      have hc : s2 174 1 = ((cnt D 1 : Nat) : Int) := B2.1.1 1 (by omega)
      have e0 : s2 216 0 = ((sTh (yrF D q y (cnt D 1)).2.1 : Nat) : Int) := C2.1
      have no : ¬ (drV (yrF D q y (cnt D 1)).1 4 = 0 ∧ canB D (yrF D q y (cnt D 1)).2.1 (fgV (sTh (yrF D q y (cnt D 1)).2.1) (cnt D 1) 0)) → (([], zu s2 216 11 (w32 (s2 216 11 + 1))) : Zr).1 = [] ∧ frG s (([], zu s2 216 11 (w32 (s2 216 11 + 1))) : Zr).2 ∧ yrZ (([], zu s2 216 11 (w32 (s2 216 11 + 1))) : Zr).2 D c0 (yrN D q y) := fun h => by
        have e : yrB D (yrF D q y (cnt D 1)) = (yrF D q y (cnt D 1)).2.1 := if_neg (by rw [dcP_no h]; decide)
        exact fin s2 F2 (by rw [e]; exact C2) G2 U2
      have nc : k = cnt D 1 → ¬ canB D (yrF D q y (cnt D 1)).2.1 (fgV (sTh (yrF D q y (cnt D 1)).2.1) (cnt D 1) 0) := fun h c => by
        have f0 : f = 0 := by omega
        subst f0
        have c1 := c.1
        rw [ef, show fgV (sTh (yrF D q y (cnt D 1)).2.1) 0 k = -1 from rfl] at c1
        exact absurd c1 (by decide)
      have fg : k < cnt D 1 → ¬ (sTh (yrF D q y (cnt D 1)).2.1).testBit k = true → fgV (sTh (yrF D q y (cnt D 1)).2.1) (cnt D 1) 0 = ((k : Nat) : Int) := fun h nt => by
        obtain ⟨f', rfl⟩ : ∃ f', f = f' + 1 := ⟨f - 1, by omega⟩
        exact ef.trans (if_neg nt)
      refine b_X11_livesNight_63 _ _ s2 (fun g _ => ?_) (fun g _ => ?_) (fun g g2 h => no (fun z => hx.mp h z.1)) (fun g g2 h m hm => ?_) (fun g g2 m hm => ?_)
      all_goals rw [hc] at g
      · exact no (fun z => nc (by omega) z.2)
      · exact no (fun z => nc (by omega) z.2)
      · rw [e0] at g2
        have hk : k < cnt D 1 := by omega
        have nt : ¬ (sTh (yrF D q y (cnt D 1)).2.1).testBit k = true := fun z => g2 ((zbit1 (by omega) (by omega)).mpr z)
        have e1 := fg hk nt
        have d0 : drV (yrF D q y (cnt D 1)).1 4 = 0 := Decidable.byContradiction (fun z => h (hx.mpr z))
        have r2 : s2 182 k = colD D 12 k := mcol B2.1 hw (k := 1) (j := 2) (by omega) (by omega) (by decide) (by decide) hk
        have e10 : s2 216 10 = sHp (yrF D q y (cnt D 1)).2.1 := C2.2.2.2.1
        refine c_X11_canBuild (b_X11_canBuild_0 _ _ (fun g3 => ?_) (fun g3 g4 => ?_) (fun g3 g4 => ?_))
        · rw [e0] at g3
          exact absurd ((zbit0 (by omega) (by omega)).mpr nt) g3
        · rw [e10, Int.toNat_natCast, r2] at g4
          refine b_X11_livesNight_112 _ _ _ s2 (fun _ => no (fun z => ?_)) (fun z => absurd rfl z)
          have q4 := z.2.2.2.2
          rw [e1, Int.toNat_natCast] at q4
          omega
        · rw [e10, Int.toNat_natCast, r2] at g4
          refine b_X11_livesNight_112 _ _ _ s2 (fun z => absurd z (by decide)) (fun _ m2 hm2 => ?_)
          have can : canB D (yrF D q y (cnt D 1)).2.1 (fgV (sTh (yrF D q y (cnt D 1)).2.1) (cnt D 1) 0) := by
            rw [e1]
            exact ⟨by omega, by omega, nt, by rw [Int.toNat_natCast]; exact g4⟩
          have e : yrB D (yrF D q y (cnt D 1)) = bldT D (yrF D q y (cnt D 1)).2.1 k := by
            have e2 : yrB D (yrF D q y (cnt D 1)) = bldT D (yrF D q y (cnt D 1)).2.1 (fgV (sTh (yrF D q y (cnt D 1)).2.1) (cnt D 1) 0).toNat := if_pos (dcP_yes ⟨d0, can⟩)
            rw [e2, e1, Int.toNat_natCast]
          have C3 := bld_Z C2 hw hl hk r2
          refine c_X11_builds (b_X11_builds_0 _ s2 ?_)
          have F3 : frG s (zu (zu s2 216 0 (zor (s2 216 0) (zshl 1 ((k : Nat) : Int)))) 216 10 (w32 ((s2 216 10) - (s2 182 ((k : Nat) : Int).toNat)))) := frG_u (frG_u F2)
          have G3 : zu (zu s2 216 0 (zor (s2 216 0) (zshl 1 ((k : Nat) : Int)))) 216 10 (w32 ((s2 216 10) - (s2 182 ((k : Nat) : Int).toNat))) 172 73 = drG (yrF D q y (cnt D 1)).1 := (zu_n (by omega)).trans ((zu_n (by omega)).trans G2)
          have U3 : w32 (zu (zu s2 216 0 (zor (s2 216 0) (zshl 1 ((k : Nat) : Int)))) 216 10 (w32 ((s2 216 10) - (s2 182 ((k : Nat) : Int).toNat))) 216 12 - c0) = (yrF D q y (cnt D 1)).2.2 := by rw [zu_n (by omega), zu_n (by omega)]; exact U2
          generalize zu (zu s2 216 0 (zor (s2 216 0) (zshl 1 ((k : Nat) : Int)))) 216 10 (w32 ((s2 216 10) - (s2 182 ((k : Nat) : Int).toNat))) = s3 at F3 C3 G3 U3 ⊢
          refine b_X11_livesNight_120 _ _ s3 ?_
          exact fin s3 F3 (by rw [e]; exact C3) G3 U3
      · rw [e0] at g2
        have hk : k < cnt D 1 := by omega
        have tb : (sTh (yrF D q y (cnt D 1)).2.1).testBit k = true := (zbit1 (by omega) (by omega)).mp g2
        obtain ⟨f', rfl⟩ : ∃ f', f = f' + 1 := ⟨f - 1, by omega⟩
        rw [w32_id (by omega) (by omega), show (k : Int) + 1 = ((k + 1 : Nat) : Int) from by omega]
        exact ih m hm f' (k + 1) x1 s2 (by omega) (ef.trans (if_pos tb)) hx F2 C2 G2 U2
  have l1 : ∀ (M k : Nat) (x2 : Int) (s1 : Zs), k ≤ cnt D 1 → frG s s1 → yrZ s1 D c0 (yrF D q y k) → zT (zE 1470) (Pt PX11_livesNight) M (2, [((172 : Nat) : Int), (k : Int), x2], [], s1) (fun r => r.1 = [] ∧ frG s r.2 ∧ yrZ r.2 D c0 (yrN D q y)) := by
    intro M
    induction M using Nat.strongRecOn with
    | ind M ih =>
      intro k x2 s1 hk f1 Y1
      have B1 := yrB1_e ht B f1
      have W1 := yrF_W (q := q) hw W k
      have hc : s1 174 1 = ((cnt D 1 : Nat) : Int) := B1.1.1 1 (by omega)
      have z2 : ∀ v : Int, frG s1 (zu s1 172 73 v) := fun v c j _ _ d => zu_n d
      have c2 : ∀ v : Int, mSt (zu s1 172 73 v) 216 0 D (yrF D q y k).2.1 := fun v => mSt_e Y1.1 (fun j => zu_n (by omega))
      have u2 : ∀ v : Int, w32 (zu s1 172 73 v 216 12 - c0) = (yrF D q y k).2.2 := fun v => by rw [zu_n (by omega)]; exact Y1.2.2
      refine b_X11_livesNight_2 _ _ s1 (fun g m hm => ?_) (fun g m hm => ?_)
      all_goals rw [hc] at g
      · have ek : k = cnt D 1 := by omega
        subst ek
        refine zC_q (draws_m Y1.2.1 W1.1 (by decide) (by decide)) (fun r hr => ?_)
        subst hr
        have C2 := c2 (drG (yrF D q y (cnt D 1)).1)
        have U2 := u2 (drG (yrF D q y (cnt D 1)).1)
        have F2 := frG_tr f1 (z2 (drG (yrF D q y (cnt D 1)).1))
        have G2 : zu s1 172 73 (drG (yrF D q y (cnt D 1)).1) 172 73 = drG (yrF D q y (cnt D 1)).1 := zu_eq _ _ _ _
        generalize zu s1 172 73 (drG (yrF D q y (cnt D 1)).1) = s2 at C2 U2 F2 G2 ⊢
        refine b_X11_livesNight_52 _ _ _ s2 (fun g2 => ?_) (fun g2 => ?_)
        · exact l2 _ (cnt D 1) 0 0 s2 (by omega) rfl ⟨fun _ => g2, fun _ => rfl⟩ F2 C2 G2 U2
        · exact l2 _ (cnt D 1) 0 1 s2 (by omega) rfl ⟨fun z => absurd z (by decide), fun z => absurd g2 z⟩ F2 C2 G2 U2
      · have hk2 : k < cnt D 1 := by omega
        refine zC_q (draws_m Y1.2.1 W1.1 (by decide) (by decide)) (fun r hr => ?_)
        subst hr
        have B2 := yrB1_e ht B1 (z2 (drG (yrF D q y k).1))
        have C2 := c2 (drG (yrF D q y k).1)
        have U2 := u2 (drG (yrF D q y k).1)
        have F2 := frG_tr f1 (z2 (drG (yrF D q y k).1))
        have G2 : zu s1 172 73 (drG (yrF D q y k).1) 172 73 = drG (yrF D q y k).1 := zu_eq _ _ _ _
        generalize zu s1 172 73 (drG (yrF D q y k).1) = s2 at B2 C2 U2 F2 G2 ⊢
        have ho : s2 183 (k : Int).toNat = colD D 13 k := by
          rw [Int.toNat_natCast]
          exact mcol B2.1 hw (k := 1) (j := 3) (by omega) (by omega) (by decide) (by decide) hk2
        have ek : w32 ((k : Int) + 1) = ((k + 1 : Nat) : Int) := by rw [w32_id (by omega) (by omega)]; omega
        refine b_X11_livesNight_18 _ _ _ s2 (fun g2 m2 hm2 => ?_) (fun g2 m2 hm2 => ?_)
        all_goals rw [ho] at g2
        · have e : yrF D q y (k + 1) = (drG (yrF D q y k).1, (yrF D q y k).2) := if_neg (by rw [dcP_no (fun z => by have := z.1; omega)]; decide)
          rw [ek]
          clear ek
          exact ih m2 (by omega) (k + 1) x2 s2 (by omega) F2 (by rw [e]; exact ⟨C2, G2, U2⟩)
        · refine zC_q (canSteal_m B2.1 hw C2 W1.2 hk2) (fun r hr => ?_)
          subst hr
          refine b_X11_livesNight_32 _ _ _ s2 (fun g3 m3 hm3 => ?_) (fun g3 m3 hm3 => ?_)
          · have can : ¬ canS D (yrF D q y k).2.1 ((k : Nat) : Int) := fun z => by rw [if_pos (dcP_yes z)] at g3; omega
            have e : yrF D q y (k + 1) = (drG (yrF D q y k).1, (yrF D q y k).2) := if_neg (by rw [dcP_no (fun z => can z.2)]; decide)
            rw [ek]
            clear ek
            exact ih m3 (by omega) (k + 1) x2 s2 (by omega) F2 (by rw [e]; exact ⟨C2, G2, U2⟩)
          · have can : canS D (yrF D q y k).2.1 ((k : Nat) : Int) := Classical.byContradiction fun c => g3 (if_neg (by rw [dcP_no c]; decide))
            refine zC_q (steals_Z (y := (drG (yrF D q y k).1, (yrF D q y k).2)) hw hX B2 ⟨C2, G2, U2⟩ ⟨drG_ok _, W1.2⟩ hk2) (fun r hr => ?_)
            obtain ⟨r1, s3⟩ := r
            obtain ⟨⟨v, e⟩, f3, Y3⟩ := hr
            have e : r1 = [(v, 0)] := e
            subst e
            refine b_X11_livesNight_40 _ _ _ s3 (fun m4 hm4 => ?_)
            rw [ek]
            clear ek
            refine ih m4 (by omega) (k + 1) x2 s3 (by omega) (frG_tr F2 f3) ?_
            have e : yrF D q y (k + 1) = (drG (yrF D q y k).1, stlT (yrF D q y k).2.1 k, w32 ((yrF D q y k).2.2 + prV D (yrF D q y k).2.1 q k)) := if_pos (dcP_yes ⟨g2, can⟩)
            rw [e]
            exact Y3
  exact c_X11_livesNight (b_X11_livesNight_0 _ _ s (l1 N 0 _ s (by omega) frG_rf Y))
theorem years_m (ht : t = 7 ∨ t = 43) (hw : wD D) (hF : wF D) (hX : wX D) (B : yrB1 s t D q) (hS : mSt s 216 0 D S) (hs : wS D S) {x y w : Int} : zC N 1528 [(((172 : Nat) : Int), 0), (x, 0), (y, 0), (w, 0)] s (fun r => r.1 = [(yrV D q S x y w, 0)]) := by
  have no : ∀ s1 : Zs, ¬ (0 ≤ x ∧ x ≤ 9999 ∧ 1 ≤ y ∧ y ≤ 100 ∧ 0 ≤ w ∧ w ≤ 2) → (([((-1 : Int), 0)], s1) : Zr).1 = [(yrV D q S x y w, 0)] := fun s1 h => by rw [yrV_no h]
  refine c_X11_years (b_X11_years_0 _ _ _ _ _ s (fun m _ => ?_))
  refine c_X11_within (b_X11_within_0 _ _ _ _ (fun g => ?_) (fun g g2 => ?_) (fun g1 g2 => ?_))
  · exact b_X11_years_13 _ _ _ _ _ _ _ (fun _ => no _ (by omega)) (fun z => absurd rfl z)
  · exact b_X11_years_13 _ _ _ _ _ _ _ (fun _ => no _ (by omega)) (fun z => absurd rfl z)
  refine b_X11_years_13 _ _ _ _ _ _ _ (fun z => absurd z (by decide)) (fun _ m2 _ => ?_)
  refine c_X11_within (b_X11_within_0 _ _ _ _ (fun g => ?_) (fun g g2 => ?_) (fun g3 g4 => ?_))
  · exact b_X11_years_23 _ _ _ _ _ _ _ (fun _ => no _ (by omega)) (fun z => absurd rfl z)
  · exact b_X11_years_23 _ _ _ _ _ _ _ (fun _ => no _ (by omega)) (fun z => absurd rfl z)
  refine b_X11_years_23 _ _ _ _ _ _ _ (fun z => absurd z (by decide)) (fun _ m3 _ => ?_)
  refine c_X11_within (b_X11_within_0 _ _ _ _ (fun g => ?_) (fun g g2 => ?_) (fun g5 g6 => ?_))
  · exact b_X11_years_32 _ _ _ _ _ _ _ (fun z => absurd rfl z) (fun _ => no _ (by omega))
  · exact b_X11_years_32 _ _ _ _ _ _ _ (fun z => absurd rfl z) (fun _ => no _ (by omega))
  refine b_X11_years_32 _ _ _ _ _ _ _ (fun _ m4 _ => ?_) (fun z => absurd z (by decide))
  obtain ⟨n, en⟩ := Int.eq_ofNat_of_zero_le (show 0 ≤ y by omega)
  have yes : yrV D q S x y w = if w = 0 then (yrR D q (x, S, 0) n).1.2.2 else if w = 1 then ((bcn (sTh (yrR D q (x, S, 0) n).1.2.1) : Nat) : Int) else (yrR D q (x, S, 0) n).2 := by
    have e : yrV D q S x y w = if w = 0 then (yrR D q (x, S, 0) y.toNat).1.2.2 else if w = 1 then ((bcn (sTh (yrR D q (x, S, 0) y.toNat).1.2.1) : Nat) : Int) else (yrR D q (x, S, 0) y.toNat).2 := if_pos ⟨g1, g2, g3, g4, g5, g6⟩
    rw [e, en, Int.toNat_natCast]
  rw [yes]
  clear yes no
  refine zC_q (copies_ok (f := 216) (e := 217) (a := 0) (b := 0) (by omega) (by omega) (by omega)) (fun r hr => ?_)
  obtain ⟨r1, s1⟩ := r
  obtain ⟨e, c1, c2⟩ := hr
  have e : r1 = [] := e
  subst e
  have c1 : ∀ k, k < 13 → s1 217 (0 + k) = zu (zu s 172 0 0) 172 73 x 216 (0 + k) := c1
  have c2 : ∀ c j, ¬ (c = 217 ∧ 0 ≤ j ∧ j < 0 + 13) → s1 c j = zu (zu s 172 0 0) 172 73 x c j := c2
  have f1 : ∀ c j, c ≠ 217 → c ≠ 172 → s1 c j = s c j := fun c j a b => by rw [c2 c j (by omega), zu_n (by omega), zu_n (by omega)]
  have B1 : yrB1 s1 t D q := by
    refine ⟨mT_e (fun c j a b => f1 c j (by omega) (by omega)) B.1, fun c => prR_e (B.2 c) (fun c j a => ?_)⟩
    unfold prcC at a
    exact f1 c j (by omega) (by omega)
  have e12 : s1 217 12 = s 216 12 := by
    have := c1 12 (by omega)
    rw [Nat.zero_add] at this
    rw [this, zu_n (by omega), zu_n (by omega)]
  have Y1 : yrZ s1 D (s 216 12) (x, S, 0) := by
    refine ⟨mSt_e hS (fun j => f1 _ _ (by omega) (by omega)), ?_, ?_⟩
    · show s1 172 73 = x
      rw [c2 _ _ (by omega), zu_eq]
    · show w32 (s1 216 12 - s 216 12) = 0
      rw [f1 _ _ (by omega) (by omega), Int.sub_self]
      rfl
  have W1 : yrW D (x, S, 0) := ⟨⟨g1, by show x < _; omega⟩, hs⟩
  have fin : ∀ (m : Nat) (v x4 : Int) (s4 : Zs), v = (if w = 0 then (yrR D q (x, S, 0) n).1.2.2 else if w = 1 then ((bcn (sTh (yrR D q (x, S, 0) n).1.2.1) : Nat) : Int) else (yrR D q (x, S, 0) n).2) → zC m 1426 [(((217 : Nat) : Int), 0), (0, 0), (((216 : Nat) : Int), 0), (0, 0)] s4 (fun p => zT (zE 1528) (Pt PX11_years) m (152, [((172 : Nat) : Int), x, y, w, x4, v], p.1 ++ [], p.2) (fun r => r.1 = [(if w = 0 then (yrR D q (x, S, 0) n).1.2.2 else if w = 1 then ((bcn (sTh (yrR D q (x, S, 0) n).1.2.1) : Nat) : Int) else (yrR D q (x, S, 0) n).2, 0)])) := fun m v x4 s4 hv => by
    refine zC_q (copies_ok (f := 217) (e := 216) (a := 0) (b := 0) (by omega) (by omega) (by omega)) (fun r hr => ?_)
    obtain ⟨r1, s5⟩ := r
    obtain ⟨e, -, -⟩ := hr
    have e : r1 = [] := e
    subst e
    exact b_X11_years_152 _ _ _ _ _ s5 (by rw [hv])
  have loop : ∀ (M k : Nat) (x5 : Int) (s4 : Zs), k ≤ n → x5 = (k : Int) → frG s1 s4 → yrZ s4 D (s 216 12) (yrR D q (x, S, 0) k).1 → zT (zE 1528) (Pt PX11_years) M (62, [((172 : Nat) : Int), x, y, w, (yrR D q (x, S, 0) k).2, x5], [], s4) (fun r => r.1 = [(if w = 0 then (yrR D q (x, S, 0) n).1.2.2 else if w = 1 then ((bcn (sTh (yrR D q (x, S, 0) n).1.2.1) : Nat) : Int) else (yrR D q (x, S, 0) n).2, 0)]) := by
    intro M
    induction M using Nat.strongRecOn with
    | ind M ih =>
      intro k x5 s4 hk ex f4 Y4
      have B4 := yrB1_e ht B1 f4
      have W4 := yrR_W (q := q) hw hX W1 k
      refine b_X11_years_62 _ _ _ _ _ s4 (fun g h h2 m3 _ => ?_) (fun g h h2 m3 _ => ?_) (fun g h m3 _ => ?_) (fun g m3 hm3 => ?_)
      · have ek : k = n := by omega
        subst ek
        exact fin m3 _ _ s4 (by rw [if_neg h, if_neg h2])
      · have ek : k = n := by omega
        subst ek
        rw [show s4 216 0 = ((sTh (yrR D q (x, S, 0) k).1.2.1 : Nat) : Int) from Y4.1.1]
        refine zC_q (bits_m (wS_lt hw W4.2)) (fun r hr => ?_)
        subst hr
        refine b_X11_years_132 _ _ _ _ _ _ s4 (fun m4 _ => ?_)
        exact fin m4 _ _ s4 (by rw [if_neg h, if_pos h2])
      · have ek : k = n := by omega
        subst ek
        have u := Y4.2.2
        rw [show s4 217 12 = s 216 12 from (f4 217 12 (by omega) (by omega) (by omega)).trans e12, u]
        exact fin m3 _ _ s4 (by rw [if_pos h])
      · refine zC_q (lives_m ht hw hX B4 Y4 W4) (fun r hr => ?_)
        obtain ⟨r1, s5⟩ := r
        obtain ⟨e, f5, Y5⟩ := hr
        have e : r1 = [] := e
        subst e
        have f5 : frG s4 s5 := f5
        have Y5 : yrZ s5 D (s 216 12) (yrR D q (x, S, 0) (k + 1)).1 := Y5
        have F5 := frG_tr f4 f5
        have B5 := yrB1_e ht B1 F5
        have W5 := yrR_W (q := q) hw hX W1 (k + 1)
        refine b_X11_years_72 _ _ _ _ _ s5 (fun m4 hm4 => ?_)
        rw [show s5 216 0 = ((sTh (yrR D q (x, S, 0) (k + 1)).1.2.1 : Nat) : Int) from Y5.1.1]
        refine zC_q (cutBy_m hF hX B5.1 hw Y5.1 W5.2 W5.2.1) (fun r hr => ?_)
        subst hr
        refine b_X11_years_84 _ _ _ _ _ _ _ s5 (fun m5 hm5 => ?_)
        refine zC_q (bits_m (cuV_b hw)) (fun r hr => ?_)
        subst hr
        refine b_X11_years_87 _ _ _ _ _ _ _ s5 (fun m6 hm6 => ?_)
        have ek : w32 (x5 + 1) = ((k + 1 : Nat) : Int) := by rw [w32_id (by omega) (by omega)]; omega
        exact ih m6 (by omega) (k + 1) _ s5 (by omega) ek F5 Y5
  exact b_X11_years_56 _ _ _ _ _ s1 (loop _ 0 0 s1 (by omega) rfl frG_rf Y1)
end Zyr
