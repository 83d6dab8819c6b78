/-! cost -/
theorem b_X10_cost_0 {n : Nat} {Q : Zr → Prop} {t : Nat} (x1 x2 x3 x4 x5 : Int) (s : Zs) (ht : t = 7 ∨ t = 43)
    (h0 : ∀ m, m < n → zC m 1034 [(s 0 3, 0), (3, 0), (x1, 0)] s (fun p => zT (zE 1286) (Pt PX10_cost) m (9, [((0 : Nat) : Int), x1, x2, x3, x4, x5], p.1 ++ [], p.2) Q)) : zT (zE 1286) (Pt PX10_cost) n (0, [((0 : Nat) : Int), x1, x2, x3, x4, x5], [], s) Q := by
  refine tL ((0 : Nat) : Int) 0 rfl rfl rfl ?_
  refine tFv (c := 0) (s 0 3) 0 rfl rfl rfl rfl rfl ?_
  refine tK rfl ?_
  refine tL x1 0 rfl rfl rfl ?_
  exact tCall [(s 0 3, 0), (3, 0), (x1, 0)] [] rfl rfl rfl (fun m l => h0 m (Nat.lt_of_lt_of_le l (Nat.le_refl n)))

theorem b_X10_cost_9 {n : Nat} {Q : Zr → Prop} {t : Nat} (x1 x2 x3 x4 x5 v0 : Int) (s : Zs) (ht : t = 7 ∨ t = 43)
    (h0 : ∀ (g1 : v0 ≠ 0), ∀ m, m < n → zC m 1043 [(s 0 3, 0), (s 80 x1.toNat, 0), (x2, 0)] s (fun p => zT (zE 1286) (Pt PX10_cost) m (33, [((0 : Nat) : Int), x1, x2, s 80 x1.toNat, x4, x5], p.1 ++ [], p.2) Q))
    (h1 : ∀ (g1 : v0 = 0), Q ([((-1), 0)], s)) : zT (zE 1286) (Pt PX10_cost) n (9, [((0 : Nat) : Int), x1, x2, x3, x4, x5], [(v0, 0)], s) Q := by
  refine tI1 rfl (fun g1 _ l1 => zT_le ?_ (Nat.le_of_lt l1)) (fun g1 _ l1 => zT_le ?_ (Nat.le_of_lt l1))
  · refine tL ((0 : Nat) : Int) 0 rfl rfl rfl ?_
    refine tFR (c := 0) 79 rfl rfl rfl rfl rfl ?_
    refine tFR (c := 79) 80 rfl rfl rfl rfl rfl ?_
    refine tL x1 0 rfl rfl rfl ?_
    refine tAv 80 x1.toNat (s 80 x1.toNat) 0 rfl rfl rfl (by decide) rfl rfl ?_
    refine tS [((0 : Nat) : Int), x1, x2, s 80 x1.toNat, x4, x5] rfl rfl ?_
    refine tL ((0 : Nat) : Int) 0 rfl rfl rfl ?_
    refine tFv (c := 0) (s 0 3) 0 rfl rfl rfl rfl rfl ?_
    refine tL (s 80 x1.toNat) 0 rfl rfl rfl ?_
    refine tL x2 0 rfl rfl rfl ?_
    exact tCall [(s 0 3, 0), (s 80 x1.toNat, 0), (x2, 0)] [] rfl rfl rfl (fun m l => h0 g1 m (Nat.lt_of_lt_of_le l (Nat.le_refl n)))
  · refine tK rfl ?_
    exact tR rfl (h1 g1)

theorem b_X10_cost_33 {n : Nat} {Q : Zr → Prop} {t : Nat} (x1 x2 x3 x4 x5 v0 : Int) (s : Zs) (ht : t = 7 ∨ t = 43)
    (h0 : ∀ m, m < n → zC m 778 [(((79 : Nat) : Int), 0), (s 0 3, 0), (x1, 0), ((-1), 0)] s (fun p => zT (zE 1286) (Pt PX10_cost) m (50, [((0 : Nat) : Int), x1, x2, x3, v0, x5], p.1 ++ [(v0, 0)], p.2) Q)) : zT (zE 1286) (Pt PX10_cost) n (33, [((0 : Nat) : Int), x1, x2, x3, x4, x5], [(v0, 0)], s) Q := by
  refine tS [((0 : Nat) : Int), x1, x2, x3, v0, x5] rfl rfl ?_
  refine tL v0 0 rfl rfl rfl ?_
  refine tL ((0 : Nat) : Int) 0 rfl rfl rfl ?_
  refine tFR (c := 0) 79 rfl rfl rfl rfl rfl ?_
  refine tL ((0 : Nat) : Int) 0 rfl rfl rfl ?_
  refine tFv (c := 0) (s 0 3) 0 rfl rfl rfl rfl rfl ?_
  refine tL x1 0 rfl rfl rfl ?_
  refine tK rfl ?_
  exact tCall [(((79 : Nat) : Int), 0), (s 0 3, 0), (x1, 0), ((-1), 0)] [(v0, 0)] rfl rfl rfl (fun m l => h0 m (Nat.lt_of_lt_of_le l (Nat.le_refl n)))

theorem b_X10_cost_50 {n : Nat} {Q : Zr → Prop} {t : Nat} (x1 x2 x3 x4 x5 v0 y0 : Int) (s : Zs) (ht : t = 7 ∨ t = 43)
    (h0 : ∀ (g1 : zand y0 (zxor v0 (-1)) = 0), ∀ (g2 : zdiv x3 6 ≠ zdiv x2 6), ∀ m, m < n → zC m 1039 [(s 0 3, 0), (x4, 0)] s (fun p => zT (zE 1286) (Pt PX10_cost) m (93, [((0 : Nat) : Int), x1, x2, x3, x4, s ((s 0 3).toNat) 6], p.1 ++ [(s ((s 0 3).toNat) 6, 0)], p.2) Q))
    (h1 : ∀ (g1 : zand y0 (zxor v0 (-1)) = 0), ∀ (g2 : zdiv x3 6 = zdiv x2 6), ∀ m, m < n → zC m 1039 [(s 0 3, 0), (x4, 0)] s (fun p => zT (zE 1286) (Pt PX10_cost) m (93, [((0 : Nat) : Int), x1, x2, x3, x4, 0], p.1 ++ [(0, 0)], p.2) Q))
    (h2 : ∀ (g1 : zand y0 (zxor v0 (-1)) ≠ 0), Q ([((-1), 0)], s)) : zT (zE 1286) (Pt PX10_cost) n (50, [((0 : Nat) : Int), x1, x2, x3, x4, x5], [(v0, 0), (y0, 0)], s) Q := by
  refine tK rfl ?_
  refine tB (v := zxor v0 (-1)) rfl rfl ?_
  refine tB (v := zand y0 (zxor v0 (-1))) rfl rfl ?_
  refine tI0 rfl (fun g1 _ l1 => zT_le ?_ (Nat.le_of_lt l1)) (fun g1 _ l1 => zT_le ?_ (Nat.le_of_lt l1))
  · refine tL x3 0 rfl rfl rfl ?_
    refine tK rfl ?_
    refine tB (v := zdiv x3 6) rfl rfl ?_
    refine tL x2 0 rfl rfl rfl ?_
    refine tK rfl ?_
    refine tB (v := zdiv x2 6) rfl rfl ?_
    refine tJ1 rfl (fun g2 _ l2 => zT_le ?_ (Nat.le_of_lt l2)) (fun g2 _ l2 => zT_le ?_ (Nat.le_of_lt l2))
    · refine tL ((0 : Nat) : Int) 0 rfl rfl rfl ?_
      refine tFv (c := 0) (s 0 3) 0 rfl rfl rfl rfl rfl ?_
      refine tFv (c := (s 0 3).toNat) (s ((s 0 3).toNat) 6) 0 rfl rfl rfl rfl rfl ?_
      refine tS [((0 : Nat) : Int), x1, x2, x3, x4, s ((s 0 3).toNat) 6] rfl rfl ?_
      refine tL (s ((s 0 3).toNat) 6) 0 rfl rfl rfl ?_
      refine tL ((0 : Nat) : Int) 0 rfl rfl rfl ?_
      refine tFv (c := 0) (s 0 3) 0 rfl rfl rfl rfl rfl ?_
      refine tL x4 0 rfl rfl rfl ?_
      exact tCall [(s 0 3, 0), (x4, 0)] [(s ((s 0 3).toNat) 6, 0)] rfl rfl rfl (fun m l => h0 g1 g2 m (Nat.lt_of_lt_of_le l (Nat.le_refl n)))
    · refine tK rfl ?_
      refine tG rfl ?_
      refine tS [((0 : Nat) : Int), x1, x2, x3, x4, 0] rfl rfl ?_
      refine tL 0 0 rfl rfl rfl ?_
      refine tL ((0 : Nat) : Int) 0 rfl rfl rfl ?_
      refine tFv (c := 0) (s 0 3) 0 rfl rfl rfl rfl rfl ?_
      refine tL x4 0 rfl rfl rfl ?_
      exact tCall [(s 0 3, 0), (x4, 0)] [(0, 0)] rfl rfl rfl (fun m l => h1 g1 g2 m (Nat.lt_of_lt_of_le l (Nat.le_refl n)))
  · refine tK rfl ?_
    exact tR rfl (h2 g1)

theorem b_X10_cost_93 {n : Nat} {Q : Zr → Prop} {t : Nat} (x1 x2 x3 x4 x5 v0 y0 : Int) (s : Zs) (ht : t = 7 ∨ t = 43)
    (h0 : ∀ m, m < n → zC m 1039 [(s 0 3, 0), (zand x4 (zxor (s 79 0) (-1)), 0)] s (fun p => zT (zE 1286) (Pt PX10_cost) m (113, [((0 : Nat) : Int), x1, x2, x3, x4, x5], p.1 ++ [(w32 (y0 + v0), 0)], p.2) Q)) : zT (zE 1286) (Pt PX10_cost) n (93, [((0 : Nat) : Int), x1, x2, x3, x4, x5], [(v0, 0), (y0, 0)], s) Q := by
  refine tB (v := w32 (y0 + v0)) rfl rfl ?_
  refine tL ((0 : Nat) : Int) 0 rfl rfl rfl ?_
  refine tFv (c := 0) (s 0 3) 0 rfl rfl rfl rfl rfl ?_
  refine tL x4 0 rfl rfl rfl ?_
  refine tL ((0 : Nat) : Int) 0 rfl rfl rfl ?_
  refine tFR (c := 0) 79 rfl rfl rfl rfl rfl ?_
  refine tFv (c := 79) (s 79 0) 0 rfl rfl rfl rfl rfl ?_
  refine tK rfl ?_
  refine tB (v := zxor (s 79 0) (-1)) rfl rfl ?_
  refine tB (v := zand x4 (zxor (s 79 0) (-1))) rfl rfl ?_
  exact tCall [(s 0 3, 0), (zand x4 (zxor (s 79 0) (-1)), 0)] [(w32 (y0 + v0), 0)] rfl rfl rfl (fun m l => h0 m (Nat.lt_of_lt_of_le l (Nat.le_refl n)))

theorem b_X10_cost_113 {n : Nat} {Q : Zr → Prop} {t : Nat} (x1 x2 x3 x4 x5 v0 y0 : Int) (s : Zs) (ht : t = 7 ∨ t = 43)
    (h0 : Q ([(w32 (y0 + v0), 0)], s)) : zT (zE 1286) (Pt PX10_cost) n (113, [((0 : Nat) : Int), x1, x2, x3, x4, x5], [(v0, 0), (y0, 0)], s) Q := by
  refine tB (v := w32 (y0 + v0)) rfl rfl ?_
  exact tR rfl (h0)

theorem c_X10_cost {n : Nat} {Q : Zr → Prop} {a0 a1 a2 : Int} {s : Zs} (h : zT (zE 1286) (Pt PX10_cost) n (0, [a0, a1, a2, 0, 0, 0], [], s) Q) : zC n 1286 [(a0, 0), (a1, 0), (a2, 0)] s Q := h

theorem b_X11_lessens_0 {n : Nat} {Q : Zr → Prop} (x1 x2 : Int) (s : Zs) 
    (h0 : ∀ (g1 : x2 < s 221 x1.toNat), Q ([(1, 0)], zu s 221 x1.toNat x2))
    (h1 : ∀ (g1 : s 221 x1.toNat ≤ x2), Q ([(0, 0)], s)) : zT (zE 1467) (Pt PX11_lessens) n (0, [((172 : Nat) : Int), x1, x2], [], s) Q := by
  refine tL ((172 : Nat) : Int) 0 rfl rfl rfl ?_
  refine tFR (c := 172) 221 rfl rfl rfl rfl rfl ?_
  refine tL x1 0 rfl rfl rfl ?_
  refine tAv 221 x1.toNat (s 221 x1.toNat) 0 rfl rfl rfl (by decide) rfl rfl ?_
  refine tL x2 0 rfl rfl rfl ?_
  refine tJ4 rfl (fun g1 _ l1 => zT_le ?_ (Nat.le_of_lt l1)) (fun g1 _ l1 => zT_le ?_ (Nat.le_of_lt l1))
  · refine tL ((172 : Nat) : Int) 0 rfl rfl rfl ?_
    refine tFR (c := 172) 221 rfl rfl rfl rfl rfl ?_
    refine tL x1 0 rfl rfl rfl ?_
    refine tL x2 0 rfl rfl rfl ?_
    refine tAS 221 x1.toNat rfl rfl rfl (by decide) ?_
    refine tK rfl ?_
    exact tR rfl (h0 g1)
  · refine tK rfl ?_
    exact tR rfl (h1 g1)

theorem c_X11_lessens {n : Nat} {Q : Zr → Prop} {a0 a1 a2 : Int} {s : Zs} (h : zT (zE 1467) (Pt PX11_lessens) n (0, [a0, a1, a2], [], s) Q) : zC n 1467 [(a0, 0), (a1, 0), (a2, 0)] s Q := h

theorem b_X11_cost_0 {n : Nat} {Q : Zr → Prop} (x1 x2 x3 x4 x5 x6 x7 : Int) (s : Zs) 
    (h0 : ∀ (g2 : x1 < 0), Q ([((-1), 0)], zu s 172 0 0))
    (h1 : ∀ (g3 : 0 ≤ x1), ∀ (g4 : s 174 3 ≤ x1), Q ([((-1), 0)], zu s 172 0 0))
    (h2 : ∀ (g5 : 0 ≤ x1), ∀ (g6 : x1 < s 174 3), ∀ m, m < n → zC m 1453 [(((172 : Nat) : Int), 0), (x2, 0)] (zu s 172 0 0) (fun p => zT (zE 1427) (Pt PX11_cost) m (18, [((172 : Nat) : Int), x1, x2, x3, x4, x5, x6, x7], p.1 ++ [], p.2) Q)) : zT (zE 1427) (Pt PX11_cost) n (0, [((172 : Nat) : Int), x1, x2, x3, x4, x5, x6, x7], [], s) Q := by
  refine tL ((172 : Nat) : Int) 0 rfl rfl rfl ?_
  refine tK rfl ?_
  refine tPut 172 rfl rfl ?_
  refine tL ((172 : Nat) : Int) 0 rfl rfl rfl ?_
  refine tL x1 0 rfl rfl rfl ?_
  refine tCall [(((172 : Nat) : Int), 0), (x1, 0)] [] rfl rfl rfl (fun m1 l1 => c_X11_isPerson (b_X11_isPerson_0 x1 (zu s 172 0 0) ?_ ?_ ?_))
  · intro g2
    show zT (zE 1427) (Pt PX11_cost) m1 (10, [((172 : Nat) : Int), x1, x2, x3, x4, x5, x6, x7], [(0, 0)], zu s 172 0 0) Q
    refine tI0 rfl (fun g _ l => zT_le ?_ (Nat.le_of_lt l)) (fun g _ l => (absurd g (by decide)))
    refine tK rfl ?_
    exact tR rfl (h0 g2)
  · intro g3 g4
    show zT (zE 1427) (Pt PX11_cost) m1 (10, [((172 : Nat) : Int), x1, x2, x3, x4, x5, x6, x7], [(0, 0)], zu s 172 0 0) Q
    refine tI0 rfl (fun g _ l => zT_le ?_ (Nat.le_of_lt l)) (fun g _ l => (absurd g (by decide)))
    refine tK rfl ?_
    exact tR rfl (h1 g3 g4)
  · intro g5 g6
    show zT (zE 1427) (Pt PX11_cost) m1 (10, [((172 : Nat) : Int), x1, x2, x3, x4, x5, x6, x7], [(1, 0)], zu s 172 0 0) Q
    refine tI0 rfl (fun g _ l => (absurd g (by decide))) (fun g _ l => zT_le ?_ (Nat.le_of_lt l))
    refine tL ((172 : Nat) : Int) 0 rfl rfl rfl ?_
    refine tL x2 0 rfl rfl rfl ?_
    exact tCall [(((172 : Nat) : Int), 0), (x2, 0)] [] rfl rfl rfl (fun m l => h2 g5 g6 m (Nat.lt_of_lt_of_le l (Nat.le_trans (Nat.le_of_lt l1) (Nat.le_refl n))))

theorem b_X11_cost_44 {n : Nat} {Q : Zr → Prop} (x1 x2 x3 x4 x5 x6 x7 : Int) (s : Zs) 
    (h0 : ∀ (g1 : 30 ≤ x4), zT (zE 1427) (Pt PX11_cost) n (84, [((172 : Nat) : Int), x1, x2, x3, 1, x5, x6, x7], [], zu s 221 ((s 216 ((w32 (1 + x1)).toNat)).toNat) 0) Q)
    (h1 : ∀ (g1 : x4 < 30), ∀ m, m < n → zT (zE 1427) (Pt PX11_cost) m (44, [((172 : Nat) : Int), x1, x2, x3, w32 (x4 + 1), x5, x6, x7], [], zu s 221 x4.toNat 1000000) Q) : zT (zE 1427) (Pt PX11_cost) n (44, [((172 : Nat) : Int), x1, x2, x3, x4, x5, x6, x7], [], s) Q := by
  refine tL x4 0 rfl rfl rfl ?_
  refine tK rfl ?_
  refine tJ3 rfl (fun g1 _ l1 => zT_le ?_ (Nat.le_of_lt l1)) (fun g1 _ l1 => zT_le ?_ (Nat.le_of_lt l1))
  · refine tL ((172 : Nat) : Int) 0 rfl rfl rfl ?_
    refine tFR (c := 172) 221 rfl rfl rfl rfl rfl ?_
    refine tL ((172 : Nat) : Int) 0 rfl rfl rfl ?_
    refine tFR (c := 172) 216 rfl rfl rfl rfl rfl ?_
    refine tK rfl ?_
    refine tL x1 0 rfl rfl rfl ?_
    refine tB (v := w32 (1 + x1)) rfl rfl ?_
    refine tAv 216 ((w32 (1 + x1)).toNat) (s 216 ((w32 (1 + x1)).toNat)) 0 rfl rfl rfl (by decide) rfl rfl ?_
    refine tK rfl ?_
    refine tAS 221 ((s 216 ((w32 (1 + x1)).toNat)).toNat) rfl rfl rfl (by decide) ?_
    refine tK rfl ?_
    refine tS [((172 : Nat) : Int), x1, x2, x3, 1, x5, x6, x7] rfl rfl ?_
    exact zT_le (h0 g1) (Nat.le_refl n)
  · refine tL ((172 : Nat) : Int) 0 rfl rfl rfl ?_
    refine tFR (c := 172) 221 rfl rfl rfl rfl rfl ?_
    refine tL x4 0 rfl rfl rfl ?_
    refine tK rfl ?_
    refine tAS 221 x4.toNat rfl rfl rfl (by decide) ?_
    refine tInc [((172 : Nat) : Int), x1, x2, x3, w32 (x4 + 1), x5, x6, x7] rfl rfl ?_
    exact tGb rfl (fun m2 l2 => h1 g1 m2 (Nat.lt_of_lt_of_le l2 (Nat.le_refl n)))

theorem b_X11_cost_84 {n : Nat} {Q : Zr → Prop} (x1 x2 x3 x4 x5 x6 x7 : Int) (s : Zs) 
    (h0 : ∀ (g1 : x4 = 0), ∀ (g2 : 1000000 ≤ s 221 x2.toNat), Q ([((-1), 0)], s))
    (h1 : ∀ (g1 : x4 = 0), ∀ (g2 : s 221 x2.toNat < 1000000), Q ([(s 221 x2.toNat, 0)], s))
    (h2 : ∀ (g1 : x4 ≠ 0), zT (zE 1427) (Pt PX11_cost) n (95, [((172 : Nat) : Int), x1, x2, x3, 0, 0, x6, x7], [], s) Q) : zT (zE 1427) (Pt PX11_cost) n (84, [((172 : Nat) : Int), x1, x2, x3, x4, x5, x6, x7], [], s) Q := by
  refine tL x4 0 rfl rfl rfl ?_
  refine tI0 rfl (fun g1 _ l1 => zT_le ?_ (Nat.le_of_lt l1)) (fun g1 _ l1 => zT_le ?_ (Nat.le_of_lt l1))
  · refine tL ((172 : Nat) : Int) 0 rfl rfl rfl ?_
    refine tFR (c := 172) 221 rfl rfl rfl rfl rfl ?_
    refine tL x2 0 rfl rfl rfl ?_
    refine tAv 221 x2.toNat (s 221 x2.toNat) 0 rfl rfl rfl (by decide) rfl rfl ?_
    refine tK rfl ?_
    refine tJ3 rfl (fun g2 _ l2 => zT_le ?_ (Nat.le_of_lt l2)) (fun g2 _ l2 => zT_le ?_ (Nat.le_of_lt l2))
    · refine tK rfl ?_
      exact tR rfl (h0 g1 g2)
    · refine tL ((172 : Nat) : Int) 0 rfl rfl rfl ?_
      refine tFR (c := 172) 221 rfl rfl rfl rfl rfl ?_
      refine tL x2 0 rfl rfl rfl ?_
      refine tAv 221 x2.toNat (s 221 x2.toNat) 0 rfl rfl rfl (by decide) rfl rfl ?_
      refine tG rfl ?_
      exact tR rfl (h1 g1 g2)
  · refine tK rfl ?_
    refine tS [((172 : Nat) : Int), x1, x2, x3, 0, x5, x6, x7] rfl rfl ?_
    refine tK rfl ?_
    refine tS [((172 : Nat) : Int), x1, x2, x3, 0, 0, x6, x7] rfl rfl ?_
    exact zT_le (h2 g1) (Nat.le_refl n)

theorem b_X11_cost_95 {n : Nat} {Q : Zr → Prop} (x1 x2 x3 x4 x5 x6 x7 : Int) (s : Zs) 
    (h0 : ∀ (g1 : s 174 1 ≤ x5), zT (zE 1427) (Pt PX11_cost) n (237, [((172 : Nat) : Int), x1, x2, x3, x4, 0, x6, x7], [], s) Q)
    (h1 : ∀ (g1 : x5 < s 174 1), ∀ (g2 : zand (zshr x3 x5) 1 ≠ 0), ∀ (g3 : zand (zshr (s 216 0) x5) 1 ≠ 1), ∀ m, m < n → zC m 1471 [(((172 : Nat) : Int), 0), (x5, 0)] s (fun p => zT (zE 1427) (Pt PX11_cost) m (160, [((172 : Nat) : Int), x1, x2, x3, x4, x5, w32 (2 * (s 182 x5.toNat)), x7], p.1 ++ [], p.2) Q))
    (h2 : ∀ (g1 : x5 < s 174 1), ∀ (g2 : zand (zshr x3 x5) 1 ≠ 0), ∀ (g3 : zand (zshr (s 216 0) x5) 1 = 1), ∀ m, m < n → zC m 1471 [(((172 : Nat) : Int), 0), (x5, 0)] s (fun p => zT (zE 1427) (Pt PX11_cost) m (160, [((172 : Nat) : Int), x1, x2, x3, x4, x5, s 182 x5.toNat, x7], p.1 ++ [], p.2) Q))
    (h3 : ∀ (g1 : x5 < s 174 1), ∀ (g2 : zand (zshr x3 x5) 1 = 0), ∀ m, m < n → zT (zE 1427) (Pt PX11_cost) m (95, [((172 : Nat) : Int), x1, x2, x3, x4, w32 (x5 + 1), x6, x7], [], s) Q) : zT (zE 1427) (Pt PX11_cost) n (95, [((172 : Nat) : Int), x1, x2, x3, x4, x5, x6, x7], [], s) Q := by
  refine tL x5 0 rfl rfl rfl ?_
  refine tL ((172 : Nat) : Int) 0 rfl rfl rfl ?_
  refine tFR (c := 172) 174 rfl rfl rfl rfl rfl ?_
  refine tK rfl ?_
  refine tAv 174 1 (s 174 1) 0 rfl rfl rfl (by decide) rfl rfl ?_
  refine tJ3 rfl (fun g1 _ l1 => zT_le ?_ (Nat.le_of_lt l1)) (fun g1 _ l1 => zT_le ?_ (Nat.le_of_lt l1))
  · refine tK rfl ?_
    refine tS [((172 : Nat) : Int), x1, x2, x3, x4, 0, x6, x7] rfl rfl ?_
    exact zT_le (h0 g1) (Nat.le_refl n)
  · refine tL x3 0 rfl rfl rfl ?_
    refine tL x5 0 rfl rfl rfl ?_
    refine tB (v := zshr x3 x5) rfl rfl ?_
    refine tK rfl ?_
    refine tB (v := zand (zshr x3 x5) 1) rfl rfl ?_
    refine tI1 rfl (fun g2 _ l2 => zT_le ?_ (Nat.le_of_lt l2)) (fun g2 _ l2 => zT_le ?_ (Nat.le_of_lt l2))
    · refine tL ((172 : Nat) : Int) 0 rfl rfl rfl ?_
      refine tFR (c := 172) 216 rfl rfl rfl rfl rfl ?_
      refine tK rfl ?_
      refine tAv 216 0 (s 216 0) 0 rfl rfl rfl (by decide) rfl rfl ?_
      refine tL x5 0 rfl rfl rfl ?_
      refine tB (v := zshr (s 216 0) x5) rfl rfl ?_
      refine tK rfl ?_
      refine tB (v := zand (zshr (s 216 0) x5) 1) rfl rfl ?_
      refine tK rfl ?_
      refine tJ1 rfl (fun g3 _ l3 => zT_le ?_ (Nat.le_of_lt l3)) (fun g3 _ l3 => zT_le ?_ (Nat.le_of_lt l3))
      · refine tK rfl ?_
        refine tL ((172 : Nat) : Int) 0 rfl rfl rfl ?_
        refine tFR (c := 172) 182 rfl rfl rfl rfl rfl ?_
        refine tL x5 0 rfl rfl rfl ?_
        refine tAv 182 x5.toNat (s 182 x5.toNat) 0 rfl rfl rfl (by decide) rfl rfl ?_
        refine tM (v := w32 (2 * (s 182 x5.toNat))) rfl rfl ?_
        refine tS [((172 : Nat) : Int), x1, x2, x3, x4, x5, w32 (2 * (s 182 x5.toNat)), x7] rfl rfl ?_
        refine tL ((172 : Nat) : Int) 0 rfl rfl rfl ?_
        refine tL x5 0 rfl rfl rfl ?_
        exact tCall [(((172 : Nat) : Int), 0), (x5, 0)] [] rfl rfl rfl (fun m l => h1 g1 g2 g3 m (Nat.lt_of_lt_of_le l (Nat.le_refl n)))
      · refine tL ((172 : Nat) : Int) 0 rfl rfl rfl ?_
        refine tFR (c := 172) 182 rfl rfl rfl rfl rfl ?_
        refine tL x5 0 rfl rfl rfl ?_
        refine tAv 182 x5.toNat (s 182 x5.toNat) 0 rfl rfl rfl (by decide) rfl rfl ?_
        refine tG rfl ?_
        refine tS [((172 : Nat) : Int), x1, x2, x3, x4, x5, s 182 x5.toNat, x7] rfl rfl ?_
        refine tL ((172 : Nat) : Int) 0 rfl rfl rfl ?_
        refine tL x5 0 rfl rfl rfl ?_
        exact tCall [(((172 : Nat) : Int), 0), (x5, 0)] [] rfl rfl rfl (fun m l => h2 g1 g2 g3 m (Nat.lt_of_lt_of_le l (Nat.le_refl n)))
    · refine tG rfl ?_
      refine tInc [((172 : Nat) : Int), x1, x2, x3, x4, w32 (x5 + 1), x6, x7] rfl rfl ?_
      exact tGb rfl (fun m2 l2 => h3 g1 g2 m2 (Nat.lt_of_lt_of_le l2 (Nat.le_refl n)))

theorem b_X11_cost_237 {n : Nat} {Q : Zr → Prop} (x1 x2 x3 x4 x5 x6 x7 : Int) (s : Zs) 
    (h0 : ∀ (g1 : s 174 0 ≤ x5), ∀ m, m < n → zT (zE 1427) (Pt PX11_cost) m (84, [((172 : Nat) : Int), x1, x2, x3, x4, x5, x6, x7], [], s) Q)
    (h1 : ∀ (g1 : x5 < s 174 0), zT (zE 1427) (Pt PX11_cost) n (251, [((172 : Nat) : Int), x1, x2, x3, x4, x5, 0, x7], [], s) Q) : zT (zE 1427) (Pt PX11_cost) n (237, [((172 : Nat) : Int), x1, x2, x3, x4, x5, x6, x7], [], s) Q := by
  refine tL x5 0 rfl rfl rfl ?_
  refine tL ((172 : Nat) : Int) 0 rfl rfl rfl ?_
  refine tFR (c := 172) 174 rfl rfl rfl rfl rfl ?_
  refine tK rfl ?_
  refine tAv 174 0 (s 174 0) 0 rfl rfl rfl (by decide) rfl rfl ?_
  refine tJ3 rfl (fun g1 _ l1 => zT_le ?_ (Nat.le_of_lt l1)) (fun g1 _ l1 => zT_le ?_ (Nat.le_of_lt l1))
  · exact tGb rfl (fun m2 l2 => h0 g1 m2 (Nat.lt_of_lt_of_le l2 (Nat.le_refl n)))
  · refine tK rfl ?_
    refine tS [((172 : Nat) : Int), x1, x2, x3, x4, x5, 0, x7] rfl rfl ?_
    exact zT_le (h1 g1) (Nat.le_refl n)

theorem b_X11_cost_251 {n : Nat} {Q : Zr → Prop} (x1 x2 x3 x4 x5 x6 x7 : Int) (s : Zs) 
    (h0 : ∀ (g1 : s 174 0 ≤ x6), ∀ m, m < n → zT (zE 1427) (Pt PX11_cost) m (237, [((172 : Nat) : Int), x1, x2, x3, x4, w32 (x5 + 1), x6, x7], [], s) Q)
    (h1 : ∀ (g1 : x6 < s 174 0), ∀ (g2 : x5 = x6), ∀ m, m < n → zT (zE 1427) (Pt PX11_cost) m (251, [((172 : Nat) : Int), x1, x2, x3, x4, x5, w32 (x6 + 1), x7], [], s) Q)
    (h2 : ∀ (g1 : x6 < s 174 0), ∀ (g2 : x5 ≠ x6), ∀ (g4 : w32 ((s 221 ((w32 (6 * x5)).toNat)) + (s 174 6)) < s 221 ((w32 (6 * x6)).toNat)), ∀ m, m < n → zT (zE 1427) (Pt PX11_cost) m (251, [((172 : Nat) : Int), x1, x2, x3, 1, x5, w32 (x6 + 1), x7], [], zu s 221 ((w32 (6 * x6)).toNat) (w32 ((s 221 ((w32 (6 * x5)).toNat)) + (s 174 6)))) Q)
    (h3 : ∀ (g1 : x6 < s 174 0), ∀ (g2 : x5 ≠ x6), ∀ (g5 : s 221 ((w32 (6 * x6)).toNat) ≤ w32 ((s 221 ((w32 (6 * x5)).toNat)) + (s 174 6))), ∀ (g6 : x4 = 0), ∀ m, m < n → zT (zE 1427) (Pt PX11_cost) m (251, [((172 : Nat) : Int), x1, x2, x3, 0, x5, w32 (x6 + 1), x7], [], s) Q)
    (h4 : ∀ (g1 : x6 < s 174 0), ∀ (g2 : x5 ≠ x6), ∀ (g5 : s 221 ((w32 (6 * x6)).toNat) ≤ w32 ((s 221 ((w32 (6 * x5)).toNat)) + (s 174 6))), ∀ (g6 : x4 ≠ 0), ∀ m, m < n → zT (zE 1427) (Pt PX11_cost) m (251, [((172 : Nat) : Int), x1, x2, x3, 1, x5, w32 (x6 + 1), x7], [], s) Q) : zT (zE 1427) (Pt PX11_cost) n (251, [((172 : Nat) : Int), x1, x2, x3, x4, x5, x6, x7], [], s) Q := by
  refine tL x6 0 rfl rfl rfl ?_
  refine tL ((172 : Nat) : Int) 0 rfl rfl rfl ?_
  refine tFR (c := 172) 174 rfl rfl rfl rfl rfl ?_
  refine tK rfl ?_
  refine tAv 174 0 (s 174 0) 0 rfl rfl rfl (by decide) rfl rfl ?_
  refine tJ3 rfl (fun g1 _ l1 => zT_le ?_ (Nat.le_of_lt l1)) (fun g1 _ l1 => zT_le ?_ (Nat.le_of_lt l1))
  · refine tInc [((172 : Nat) : Int), x1, x2, x3, x4, w32 (x5 + 1), x6, x7] rfl rfl ?_
    exact tGb rfl (fun m2 l2 => h0 g1 m2 (Nat.lt_of_lt_of_le l2 (Nat.le_refl n)))
  · refine tL x5 0 rfl rfl rfl ?_
    refine tL x6 0 rfl rfl rfl ?_
    refine tJ0 rfl (fun g2 _ l2 => zT_le ?_ (Nat.le_of_lt l2)) (fun g2 _ l2 => zT_le ?_ (Nat.le_of_lt l2))
    · refine tInc [((172 : Nat) : Int), x1, x2, x3, x4, x5, w32 (x6 + 1), x7] rfl rfl ?_
      exact tGb rfl (fun m2 l2 => h1 g1 g2 m2 (Nat.lt_of_lt_of_le l2 (Nat.le_refl n)))
    · refine tL ((172 : Nat) : Int) 0 rfl rfl rfl ?_
      refine tK rfl ?_
      refine tL x6 0 rfl rfl rfl ?_
      refine tM (v := w32 (6 * x6)) rfl rfl ?_
      refine tL ((172 : Nat) : Int) 0 rfl rfl rfl ?_
      refine tFR (c := 172) 221 rfl rfl rfl rfl rfl ?_
      refine tK rfl ?_
      refine tL x5 0 rfl rfl rfl ?_
      refine tM (v := w32 (6 * x5)) rfl rfl ?_
      refine tAv 221 ((w32 (6 * x5)).toNat) (s 221 ((w32 (6 * x5)).toNat)) 0 rfl rfl rfl (by decide) rfl rfl ?_
      refine tL ((172 : Nat) : Int) 0 rfl rfl rfl ?_
      refine tFR (c := 172) 174 rfl rfl rfl rfl rfl ?_
      refine tK rfl ?_
      refine tAv 174 6 (s 174 6) 0 rfl rfl rfl (by decide) rfl rfl ?_
      refine tB (v := w32 ((s 221 ((w32 (6 * x5)).toNat)) + (s 174 6))) rfl rfl ?_
      refine tCall [(((172 : Nat) : Int), 0), (w32 (6 * x6), 0), (w32 ((s 221 ((w32 (6 * x5)).toNat)) + (s 174 6)), 0)] [] rfl rfl rfl (fun m3 l3 => c_X11_lessens (b_X11_lessens_0 (w32 (6 * x6)) (w32 ((s 221 ((w32 (6 * x5)).toNat)) + (s 174 6))) s ?_ ?_))
      · intro g4
        show zT (zE 1427) (Pt PX11_cost) m3 (296, [((172 : Nat) : Int), x1, x2, x3, x4, x5, x6, x7], [(1, 0)], zu s 221 ((w32 (6 * x6)).toNat) (w32 ((s 221 ((w32 (6 * x5)).toNat)) + (s 174 6)))) Q
        refine tI1 rfl (fun g _ l => zT_le ?_ (Nat.le_of_lt l)) (fun g _ l => (absurd g (by decide)))
        refine tK rfl ?_
        refine tG rfl ?_
        refine tS [((172 : Nat) : Int), x1, x2, x3, 1, x5, x6, x7] rfl rfl ?_
        refine tInc [((172 : Nat) : Int), x1, x2, x3, 1, x5, w32 (x6 + 1), x7] rfl rfl ?_
        exact tGb rfl (fun m2 l2 => h2 g1 g2 g4 m2 (Nat.lt_of_lt_of_le l2 (Nat.le_trans (Nat.le_of_lt l3) (Nat.le_refl n))))
      · intro g5
        show zT (zE 1427) (Pt PX11_cost) m3 (296, [((172 : Nat) : Int), x1, x2, x3, x4, x5, x6, x7], [(0, 0)], s) Q
        refine tI1 rfl (fun g _ l => (absurd g (by decide))) (fun g _ l => zT_le ?_ (Nat.le_of_lt l))
        refine tL x4 0 rfl rfl rfl ?_
        refine tI0 rfl (fun g6 _ l6 => zT_le ?_ (Nat.le_of_lt l6)) (fun g6 _ l6 => zT_le ?_ (Nat.le_of_lt l6))
        · refine tK rfl ?_
          refine tS [((172 : Nat) : Int), x1, x2, x3, 0, x5, x6, x7] rfl rfl ?_
          refine tInc [((172 : Nat) : Int), x1, x2, x3, 0, x5, w32 (x6 + 1), x7] rfl rfl ?_
          exact tGb rfl (fun m2 l2 => h3 g1 g2 g5 g6 m2 (Nat.lt_of_lt_of_le l2 (Nat.le_trans (Nat.le_of_lt l3) (Nat.le_refl n))))
        · refine tK rfl ?_
          refine tG rfl ?_
          refine tS [((172 : Nat) : Int), x1, x2, x3, 1, x5, x6, x7] rfl rfl ?_
          refine tInc [((172 : Nat) : Int), x1, x2, x3, 1, x5, w32 (x6 + 1), x7] rfl rfl ?_
          exact tGb rfl (fun m2 l2 => h4 g1 g2 g5 g6 m2 (Nat.lt_of_lt_of_le l2 (Nat.le_trans (Nat.le_of_lt l3) (Nat.le_refl n))))

theorem b_X11_cost_18 {n : Nat} {Q : Zr → Prop} (x1 x2 x3 x4 x5 x6 x7 v0 : Int) (s : Zs) 
    (h0 : ∀ (g1 : v0 ≠ 0), ∀ m, m < n → zC m 1424 [(((172 : Nat) : Int), 0), (s 187 x1.toNat, 0), (s 216 0, 0), ((-1), 0)] s (fun p => zT (zE 1427) (Pt PX11_cost) m (40, [((172 : Nat) : Int), x1, x2, x3, x4, x5, x6, x7], p.1 ++ [], p.2) Q))
    (h1 : ∀ (g1 : v0 = 0), Q ([((-1), 0)], s)) : zT (zE 1427) (Pt PX11_cost) n (18, [((172 : Nat) : Int), x1, x2, x3, x4, x5, x6, x7], [(v0, 0)], s) Q := by
  refine tI1 rfl (fun g1 _ l1 => zT_le ?_ (Nat.le_of_lt l1)) (fun g1 _ l1 => zT_le ?_ (Nat.le_of_lt l1))
  · refine tL ((172 : Nat) : Int) 0 rfl rfl rfl ?_
    refine tL ((172 : Nat) : Int) 0 rfl rfl rfl ?_
    refine tFR (c := 172) 187 rfl rfl rfl rfl rfl ?_
    refine tL x1 0 rfl rfl rfl ?_
    refine tAv 187 x1.toNat (s 187 x1.toNat) 0 rfl rfl rfl (by decide) rfl rfl ?_
    refine tL ((172 : Nat) : Int) 0 rfl rfl rfl ?_
    refine tFR (c := 172) 216 rfl rfl rfl rfl rfl ?_
    refine tK rfl ?_
    refine tAv 216 0 (s 216 0) 0 rfl rfl rfl (by decide) rfl rfl ?_
    refine tK rfl ?_
    exact tCall [(((172 : Nat) : Int), 0), (s 187 x1.toNat, 0), (s 216 0, 0), ((-1), 0)] [] rfl rfl rfl (fun m l => h0 g1 m (Nat.lt_of_lt_of_le l (Nat.le_refl n)))
  · refine tK rfl ?_
    exact tR rfl (h1 g1)

theorem b_X11_cost_160 {n : Nat} {Q : Zr → Prop} (x1 x2 x3 x4 x5 x6 x7 v0 : Int) (s : Zs) 
    (h0 : ∀ (g2 : w32 ((s 221 v0.toNat) + x6) < s 221 ((w32 (v0 + 1)).toNat)), ∀ (g4 : w32 (((zu s 221 ((w32 (v0 + 1)).toNat) (w32 ((s 221 v0.toNat) + x6))) 221 ((w32 (v0 + 1)).toNat)) + x6) < (zu s 221 ((w32 (v0 + 1)).toNat) (w32 ((s 221 v0.toNat) + x6))) 221 v0.toNat), ∀ m, m < n → zT (zE 1427) (Pt PX11_cost) m (95, [((172 : Nat) : Int), x1, x2, x3, 1, w32 (x5 + 1), x6, v0], [], zu (zu s 221 ((w32 (v0 + 1)).toNat) (w32 ((s 221 v0.toNat) + x6))) 221 v0.toNat (w32 (((zu s 221 ((w32 (v0 + 1)).toNat) (w32 ((s 221 v0.toNat) + x6))) 221 ((w32 (v0 + 1)).toNat)) + x6))) Q)
    (h1 : ∀ (g2 : w32 ((s 221 v0.toNat) + x6) < s 221 ((w32 (v0 + 1)).toNat)), ∀ (g5 : (zu s 221 ((w32 (v0 + 1)).toNat) (w32 ((s 221 v0.toNat) + x6))) 221 v0.toNat ≤ w32 (((zu s 221 ((w32 (v0 + 1)).toNat) (w32 ((s 221 v0.toNat) + x6))) 221 ((w32 (v0 + 1)).toNat)) + x6)), ∀ m, m < n → zT (zE 1427) (Pt PX11_cost) m (95, [((172 : Nat) : Int), x1, x2, x3, 1, w32 (x5 + 1), x6, v0], [], zu s 221 ((w32 (v0 + 1)).toNat) (w32 ((s 221 v0.toNat) + x6))) Q)
    (h2 : ∀ (g6 : s 221 ((w32 (v0 + 1)).toNat) ≤ w32 ((s 221 v0.toNat) + x6)), ∀ (g7 : x4 = 0), ∀ (g9 : w32 ((s 221 ((w32 (v0 + 1)).toNat)) + x6) < s 221 v0.toNat), ∀ m, m < n → zT (zE 1427) (Pt PX11_cost) m (95, [((172 : Nat) : Int), x1, x2, x3, 1, w32 (x5 + 1), x6, v0], [], zu s 221 v0.toNat (w32 ((s 221 ((w32 (v0 + 1)).toNat)) + x6))) Q)
    (h3 : ∀ (g6 : s 221 ((w32 (v0 + 1)).toNat) ≤ w32 ((s 221 v0.toNat) + x6)), ∀ (g7 : x4 = 0), ∀ (g10 : s 221 v0.toNat ≤ w32 ((s 221 ((w32 (v0 + 1)).toNat)) + x6)), ∀ m, m < n → zT (zE 1427) (Pt PX11_cost) m (95, [((172 : Nat) : Int), x1, x2, x3, 0, w32 (x5 + 1), x6, v0], [], s) Q)
    (h4 : ∀ (g6 : s 221 ((w32 (v0 + 1)).toNat) ≤ w32 ((s 221 v0.toNat) + x6)), ∀ (g7 : x4 ≠ 0), ∀ (g12 : w32 ((s 221 ((w32 (v0 + 1)).toNat)) + x6) < s 221 v0.toNat), ∀ m, m < n → zT (zE 1427) (Pt PX11_cost) m (95, [((172 : Nat) : Int), x1, x2, x3, 1, w32 (x5 + 1), x6, v0], [], zu s 221 v0.toNat (w32 ((s 221 ((w32 (v0 + 1)).toNat)) + x6))) Q)
    (h5 : ∀ (g6 : s 221 ((w32 (v0 + 1)).toNat) ≤ w32 ((s 221 v0.toNat) + x6)), ∀ (g7 : x4 ≠ 0), ∀ (g13 : s 221 v0.toNat ≤ w32 ((s 221 ((w32 (v0 + 1)).toNat)) + x6)), ∀ m, m < n → zT (zE 1427) (Pt PX11_cost) m (95, [((172 : Nat) : Int), x1, x2, x3, 1, w32 (x5 + 1), x6, v0], [], s) Q) : zT (zE 1427) (Pt PX11_cost) n (160, [((172 : Nat) : Int), x1, x2, x3, x4, x5, x6, x7], [(v0, 0)], s) Q := by
  refine tS [((172 : Nat) : Int), x1, x2, x3, x4, x5, x6, v0] rfl rfl ?_
  refine tL ((172 : Nat) : Int) 0 rfl rfl rfl ?_
  refine tL v0 0 rfl rfl rfl ?_
  refine tK rfl ?_
  refine tB (v := w32 (v0 + 1)) rfl rfl ?_
  refine tL ((172 : Nat) : Int) 0 rfl rfl rfl ?_
  refine tFR (c := 172) 221 rfl rfl rfl rfl rfl ?_
  refine tL v0 0 rfl rfl rfl ?_
  refine tAv 221 v0.toNat (s 221 v0.toNat) 0 rfl rfl rfl (by decide) rfl rfl ?_
  refine tL x6 0 rfl rfl rfl ?_
  refine tB (v := w32 ((s 221 v0.toNat) + x6)) rfl rfl ?_
  refine tCall [(((172 : Nat) : Int), 0), (w32 (v0 + 1), 0), (w32 ((s 221 v0.toNat) + x6), 0)] [] rfl rfl rfl (fun m1 l1 => c_X11_lessens (b_X11_lessens_0 (w32 (v0 + 1)) (w32 ((s 221 v0.toNat) + x6)) s ?_ ?_))
  · intro g2
    show zT (zE 1427) (Pt PX11_cost) m1 (180, [((172 : Nat) : Int), x1, x2, x3, x4, x5, x6, v0], [(1, 0)], zu s 221 ((w32 (v0 + 1)).toNat) (w32 ((s 221 v0.toNat) + x6))) Q
    refine tI1 rfl (fun g _ l => zT_le ?_ (Nat.le_of_lt l)) (fun g _ l => (absurd g (by decide)))
    refine tK rfl ?_
    refine tG rfl ?_
    refine tS [((172 : Nat) : Int), x1, x2, x3, 1, x5, x6, v0] rfl rfl ?_
    refine tL ((172 : Nat) : Int) 0 rfl rfl rfl ?_
    refine tL v0 0 rfl rfl rfl ?_
    refine tL ((172 : Nat) : Int) 0 rfl rfl rfl ?_
    refine tFR (c := 172) 221 rfl rfl rfl rfl rfl ?_
    refine tL v0 0 rfl rfl rfl ?_
    refine tK rfl ?_
    refine tB (v := w32 (v0 + 1)) rfl rfl ?_
    refine tAv 221 ((w32 (v0 + 1)).toNat) ((zu s 221 ((w32 (v0 + 1)).toNat) (w32 ((s 221 v0.toNat) + x6))) 221 ((w32 (v0 + 1)).toNat)) 0 rfl rfl rfl (by decide) rfl rfl ?_
    refine tL x6 0 rfl rfl rfl ?_
    refine tB (v := w32 (((zu s 221 ((w32 (v0 + 1)).toNat) (w32 ((s 221 v0.toNat) + x6))) 221 ((w32 (v0 + 1)).toNat)) + x6)) rfl rfl ?_
    refine tCall [(((172 : Nat) : Int), 0), (v0, 0), (w32 (((zu s 221 ((w32 (v0 + 1)).toNat) (w32 ((s 221 v0.toNat) + x6))) 221 ((w32 (v0 + 1)).toNat)) + x6), 0)] [] rfl rfl rfl (fun m3 l3 => c_X11_lessens (b_X11_lessens_0 v0 (w32 (((zu s 221 ((w32 (v0 + 1)).toNat) (w32 ((s 221 v0.toNat) + x6))) 221 ((w32 (v0 + 1)).toNat)) + x6)) (zu s 221 ((w32 (v0 + 1)).toNat) (w32 ((s 221 v0.toNat) + x6))) ?_ ?_))
    · intro g4
      show zT (zE 1427) (Pt PX11_cost) m3 (213, [((172 : Nat) : Int), x1, x2, x3, 1, x5, x6, v0], [(1, 0)], zu (zu s 221 ((w32 (v0 + 1)).toNat) (w32 ((s 221 v0.toNat) + x6))) 221 v0.toNat (w32 (((zu s 221 ((w32 (v0 + 1)).toNat) (w32 ((s 221 v0.toNat) + x6))) 221 ((w32 (v0 + 1)).toNat)) + x6))) Q
      refine tI1 rfl (fun g _ l => zT_le ?_ (Nat.le_of_lt l)) (fun g _ l => (absurd g (by decide)))
      refine tK rfl ?_
      refine tG rfl ?_
      refine tS [((172 : Nat) : Int), x1, x2, x3, 1, x5, x6, v0] rfl rfl ?_
      refine tInc [((172 : Nat) : Int), x1, x2, x3, 1, w32 (x5 + 1), x6, v0] rfl rfl ?_
      exact tGb rfl (fun m2 l2 => h0 g2 g4 m2 (Nat.lt_of_lt_of_le l2 (Nat.le_trans (Nat.le_of_lt l3) (Nat.le_trans (Nat.le_of_lt l1) (Nat.le_refl n)))))
    · intro g5
      show zT (zE 1427) (Pt PX11_cost) m3 (213, [((172 : Nat) : Int), x1, x2, x3, 1, x5, x6, v0], [(0, 0)], zu s 221 ((w32 (v0 + 1)).toNat) (w32 ((s 221 v0.toNat) + x6))) Q
      refine tI1 rfl (fun g _ l => (absurd g (by decide))) (fun g _ l => zT_le ?_ (Nat.le_of_lt l))
      refine tL 1 0 rfl rfl rfl ?_
      refine tI0 rfl (fun g _ l => (absurd g (by decide))) (fun g _ l => zT_le ?_ (Nat.le_of_lt l))
      refine tK rfl ?_
      refine tG rfl ?_
      refine tS [((172 : Nat) : Int), x1, x2, x3, 1, x5, x6, v0] rfl rfl ?_
      refine tInc [((172 : Nat) : Int), x1, x2, x3, 1, w32 (x5 + 1), x6, v0] rfl rfl ?_
      exact tGb rfl (fun m2 l2 => h1 g2 g5 m2 (Nat.lt_of_lt_of_le l2 (Nat.le_trans (Nat.le_of_lt l3) (Nat.le_trans (Nat.le_of_lt l1) (Nat.le_refl n)))))
  · intro g6
    show zT (zE 1427) (Pt PX11_cost) m1 (180, [((172 : Nat) : Int), x1, x2, x3, x4, x5, x6, v0], [(0, 0)], s) Q
    refine tI1 rfl (fun g _ l => (absurd g (by decide))) (fun g _ l => zT_le ?_ (Nat.le_of_lt l))
    refine tL x4 0 rfl rfl rfl ?_
    refine tI0 rfl (fun g7 _ l7 => zT_le ?_ (Nat.le_of_lt l7)) (fun g7 _ l7 => zT_le ?_ (Nat.le_of_lt l7))
    · refine tK rfl ?_
      refine tS [((172 : Nat) : Int), x1, x2, x3, 0, x5, x6, v0] rfl rfl ?_
      refine tL ((172 : Nat) : Int) 0 rfl rfl rfl ?_
      refine tL v0 0 rfl rfl rfl ?_
      refine tL ((172 : Nat) : Int) 0 rfl rfl rfl ?_
      refine tFR (c := 172) 221 rfl rfl rfl rfl rfl ?_
      refine tL v0 0 rfl rfl rfl ?_
      refine tK rfl ?_
      refine tB (v := w32 (v0 + 1)) rfl rfl ?_
      refine tAv 221 ((w32 (v0 + 1)).toNat) (s 221 ((w32 (v0 + 1)).toNat)) 0 rfl rfl rfl (by decide) rfl rfl ?_
      refine tL x6 0 rfl rfl rfl ?_
      refine tB (v := w32 ((s 221 ((w32 (v0 + 1)).toNat)) + x6)) rfl rfl ?_
      refine tCall [(((172 : Nat) : Int), 0), (v0, 0), (w32 ((s 221 ((w32 (v0 + 1)).toNat)) + x6), 0)] [] rfl rfl rfl (fun m8 l8 => c_X11_lessens (b_X11_lessens_0 v0 (w32 ((s 221 ((w32 (v0 + 1)).toNat)) + x6)) s ?_ ?_))
      · intro g9
        show zT (zE 1427) (Pt PX11_cost) m8 (213, [((172 : Nat) : Int), x1, x2, x3, 0, x5, x6, v0], [(1, 0)], zu s 221 v0.toNat (w32 ((s 221 ((w32 (v0 + 1)).toNat)) + x6))) Q
        refine tI1 rfl (fun g _ l => zT_le ?_ (Nat.le_of_lt l)) (fun g _ l => (absurd g (by decide)))
        refine tK rfl ?_
        refine tG rfl ?_
        refine tS [((172 : Nat) : Int), x1, x2, x3, 1, x5, x6, v0] rfl rfl ?_
        refine tInc [((172 : Nat) : Int), x1, x2, x3, 1, w32 (x5 + 1), x6, v0] rfl rfl ?_
        exact tGb rfl (fun m2 l2 => h2 g6 g7 g9 m2 (Nat.lt_of_lt_of_le l2 (Nat.le_trans (Nat.le_of_lt l8) (Nat.le_trans (Nat.le_of_lt l1) (Nat.le_refl n)))))
      · intro g10
        show zT (zE 1427) (Pt PX11_cost) m8 (213, [((172 : Nat) : Int), x1, x2, x3, 0, x5, x6, v0], [(0, 0)], s) Q
        refine tI1 rfl (fun g _ l => (absurd g (by decide))) (fun g _ l => zT_le ?_ (Nat.le_of_lt l))
        refine tL 0 0 rfl rfl rfl ?_
        refine tI0 rfl (fun g _ l => zT_le ?_ (Nat.le_of_lt l)) (fun g _ l => (absurd g (by decide)))
        refine tK rfl ?_
        refine tS [((172 : Nat) : Int), x1, x2, x3, 0, x5, x6, v0] rfl rfl ?_
        refine tInc [((172 : Nat) : Int), x1, x2, x3, 0, w32 (x5 + 1), x6, v0] rfl rfl ?_
        exact tGb rfl (fun m2 l2 => h3 g6 g7 g10 m2 (Nat.lt_of_lt_of_le l2 (Nat.le_trans (Nat.le_of_lt l8) (Nat.le_trans (Nat.le_of_lt l1) (Nat.le_refl n)))))
    · refine tK rfl ?_
      refine tG rfl ?_
      refine tS [((172 : Nat) : Int), x1, x2, x3, 1, x5, x6, v0] rfl rfl ?_
      refine tL ((172 : Nat) : Int) 0 rfl rfl rfl ?_
      refine tL v0 0 rfl rfl rfl ?_
      refine tL ((172 : Nat) : Int) 0 rfl rfl rfl ?_
      refine tFR (c := 172) 221 rfl rfl rfl rfl rfl ?_
      refine tL v0 0 rfl rfl rfl ?_
      refine tK rfl ?_
      refine tB (v := w32 (v0 + 1)) rfl rfl ?_
      refine tAv 221 ((w32 (v0 + 1)).toNat) (s 221 ((w32 (v0 + 1)).toNat)) 0 rfl rfl rfl (by decide) rfl rfl ?_
      refine tL x6 0 rfl rfl rfl ?_
      refine tB (v := w32 ((s 221 ((w32 (v0 + 1)).toNat)) + x6)) rfl rfl ?_
      refine tCall [(((172 : Nat) : Int), 0), (v0, 0), (w32 ((s 221 ((w32 (v0 + 1)).toNat)) + x6), 0)] [] rfl rfl rfl (fun m11 l11 => c_X11_lessens (b_X11_lessens_0 v0 (w32 ((s 221 ((w32 (v0 + 1)).toNat)) + x6)) s ?_ ?_))
      · intro g12
        show zT (zE 1427) (Pt PX11_cost) m11 (213, [((172 : Nat) : Int), x1, x2, x3, 1, x5, x6, v0], [(1, 0)], zu s 221 v0.toNat (w32 ((s 221 ((w32 (v0 + 1)).toNat)) + x6))) Q
        refine tI1 rfl (fun g _ l => zT_le ?_ (Nat.le_of_lt l)) (fun g _ l => (absurd g (by decide)))
        refine tK rfl ?_
        refine tG rfl ?_
        refine tS [((172 : Nat) : Int), x1, x2, x3, 1, x5, x6, v0] rfl rfl ?_
        refine tInc [((172 : Nat) : Int), x1, x2, x3, 1, w32 (x5 + 1), x6, v0] rfl rfl ?_
        exact tGb rfl (fun m2 l2 => h4 g6 g7 g12 m2 (Nat.lt_of_lt_of_le l2 (Nat.le_trans (Nat.le_of_lt l11) (Nat.le_trans (Nat.le_of_lt l1) (Nat.le_refl n)))))
      · intro g13
        show zT (zE 1427) (Pt PX11_cost) m11 (213, [((172 : Nat) : Int), x1, x2, x3, 1, x5, x6, v0], [(0, 0)], s) Q
        refine tI1 rfl (fun g _ l => (absurd g (by decide))) (fun g _ l => zT_le ?_ (Nat.le_of_lt l))
        refine tL 1 0 rfl rfl rfl ?_
        refine tI0 rfl (fun g _ l => (absurd g (by decide))) (fun g _ l => zT_le ?_ (Nat.le_of_lt l))
        refine tK rfl ?_
        refine tG rfl ?_
        refine tS [((172 : Nat) : Int), x1, x2, x3, 1, x5, x6, v0] rfl rfl ?_
        refine tInc [((172 : Nat) : Int), x1, x2, x3, 1, w32 (x5 + 1), x6, v0] rfl rfl ?_
        exact tGb rfl (fun m2 l2 => h5 g6 g7 g13 m2 (Nat.lt_of_lt_of_le l2 (Nat.le_trans (Nat.le_of_lt l11) (Nat.le_trans (Nat.le_of_lt l1) (Nat.le_refl n)))))

theorem b_X11_cost_40 {n : Nat} {Q : Zr → Prop} (x1 x2 x3 x4 x5 x6 x7 v0 : Int) (s : Zs) 
    (h0 : zT (zE 1427) (Pt PX11_cost) n (44, [((172 : Nat) : Int), x1, x2, v0, 0, x5, x6, x7], [], s) Q) : zT (zE 1427) (Pt PX11_cost) n (40, [((172 : Nat) : Int), x1, x2, x3, x4, x5, x6, x7], [(v0, 0)], s) Q := by
  refine tS [((172 : Nat) : Int), x1, x2, v0, x4, x5, x6, x7] rfl rfl ?_
  refine tK rfl ?_
  refine tS [((172 : Nat) : Int), x1, x2, v0, 0, x5, x6, x7] rfl rfl ?_
  exact zT_le (h0) (Nat.le_refl n)

theorem c_X11_cost {n : Nat} {Q : Zr → Prop} {a0 a1 a2 : Int} {s : Zs} (h : zT (zE 1427) (Pt PX11_cost) n (0, [a0, a1, a2, 0, 0, 0, 0, 0], [], s) Q) : zC n 1427 [(a0, 0), (a1, 0), (a2, 0)] s Q := h

noncomputable def eCo (D : ZD) (S : ZS) (f : Nat) : Int := if (sTh S).testBit f = true then colD D 12 f else 2 * colD D 12 f
noncomputable def pcQ (D : ZD) (S : ZS) (q : Nat) : Int := if upF D q ≠ -1 then eCo D S (upF D q).toNat else 0
noncomputable def hsQ (D : ZD) (S : ZS) : Nat → Int
  | 0 => 0
  | q + 1 => hsQ D S q + pcQ D S q
noncomputable def dQ (D : ZD) (S : ZS) (a b : Nat) : Int := if a / 6 = b / 6 then (if a ≤ b then hsQ D S b - hsQ D S a else hsQ D S a - hsQ D S b) else (hsQ D S a - hsQ D S (a / 6 * 6)) + dWalk D + (hsQ D S b - hsQ D S (b / 6 * 6))
section Zco
variable {N t : Nat} {s : Zs} {D : ZD} {S : ZS}
theorem hs_s {q : Nat} : hsQ D S (q + 1) = hsQ D S q + pcQ D S q := rfl
theorem eCo_bd (hw : wD D) (hX : wX D) {f : Nat} (hf : f < cnt D 1) : 1 ≤ eCo D S f ∧ eCo D S f ≤ 80 := by
  have b := rise_bd hw hX hf
  unfold eCo
  by_cases c : (sTh S).testBit f = true
  · rw [if_pos c]; omega
  · rw [if_neg c]; omega
theorem pc_bd (hw : wD D) (hX : wX D) {q : Nat} : 0 ≤ pcQ D S q ∧ pcQ D S q ≤ 80 := by
  unfold pcQ
  by_cases c : upF D q ≠ -1
  · rw [if_pos c]
    have := eCo_bd (S := S) hw hX (upF_get hw c).2.1
    omega
  · rw [if_neg c]; omega
theorem pc_low (hw : wD D) (hX : wX D) {f : Nat} (hf : f < cnt D 1) : pcQ D S (lowN D f) = eCo D S f := by
  unfold pcQ
  rw [upF_low hw hX hf, if_pos (by omega), Int.toNat_natCast]
theorem hs_mono (hw : wD D) (hX : wX D) (c : Nat) : ∀ n, hsQ D S c ≤ hsQ D S (c + n) ∧ hsQ D S (c + n) ≤ hsQ D S c + 80 * (n : Int)
  | 0 => ⟨Int.le_refl _, by show hsQ D S c ≤ hsQ D S c + 80 * ((0 : Nat) : Int); omega⟩
  | n + 1 => by
    have ih := hs_mono hw hX c n
    have b := pc_bd (S := S) (q := c + n) hw hX
    rw [show c + (n + 1) = (c + n) + 1 from rfl, hs_s]
    omega
theorem hs_le (hw : wD D) (hX : wX D) {c d : Nat} (h : c ≤ d) : hsQ D S c ≤ hsQ D S d ∧ hsQ D S d ≤ hsQ D S c + 80 * ((d - c : Nat) : Int) := by
  have := hs_mono (S := S) hw hX c (d - c)
  rwa [show c + (d - c) = d from by omega] at this
theorem d_bd (hw : wD D) (hX : wX D) (hk : 0 ≤ dWalk D ∧ dWalk D ≤ 60) {a b : Nat} (ha : a < 30) (hb : b < 30) : 0 ≤ dQ D S a b ∧ dQ D S a b ≤ 6000 := by
  unfold dQ
  have a1 := hs_le (S := S) hw hX (show a / 6 * 6 ≤ a by omega)
  have b1 := hs_le (S := S) hw hX (show b / 6 * 6 ≤ b by omega)
  by_cases e : a / 6 = b / 6
  · rw [if_pos e]
    by_cases l : a ≤ b
    · rw [if_pos l]
      have := hs_le (S := S) hw hX l
      omega
    · rw [if_neg l]
      have := hs_le (S := S) hw hX (show b ≤ a by omega)
      omega
  · rw [if_neg e]
    omega
theorem d_self {a : Nat} : dQ D S a a = 0 := by
  unfold dQ
  rw [if_pos rfl, if_pos (Nat.le_refl a)]
  omega
theorem d_step (hw : wD D) (hX : wX D) {a q : Nat} (hq : q % 6 ≤ 4) : dQ D S a (q + 1) ≤ dQ D S a q + pcQ D S q ∧ dQ D S a q ≤ dQ D S a (q + 1) + pcQ D S q := by
  have e6 : (q + 1) / 6 = q / 6 := by omega
  have b := pc_bd (S := S) (q := q) hw hX
  unfold dQ
  rw [e6, hs_s]
  by_cases e : a / 6 = q / 6
  · rw [if_pos e, if_pos e]
    by_cases l : a ≤ q
    · rw [if_pos l, if_pos (show a ≤ q + 1 by omega)]
      omega
    · rw [if_neg l]
      by_cases l2 : a ≤ q + 1
      · have ea : a = q + 1 := by omega
        rw [if_pos l2, ea, hs_s]
        omega
      · rw [if_neg l2]
        omega
  · rw [if_neg e, if_neg e]
    omega
theorem d_str (hw : wD D) (hX : wX D) (hk : 0 ≤ dWalk D ∧ dWalk D ≤ 60) {a h h' : Nat} (hn : h ≠ h') : dQ D S a (h' * 6) ≤ dQ D S a (h * 6) + dWalk D := by
  have e1 : h * 6 / 6 = h := by omega
  have e2 : h' * 6 / 6 = h' := by omega
  have a1 := hs_le (S := S) hw hX (show a / 6 * 6 ≤ a by omega)
  unfold dQ
  rw [e1, e2]
  by_cases c1 : a / 6 = h'
  · rw [if_pos c1, if_neg (show ¬ a / 6 = h by omega)]
    by_cases l : a ≤ h' * 6
    · have ea : a = h' * 6 := by omega
      rw [if_pos l, c1]
      have : hsQ D S a = hsQ D S (h' * 6) := by rw [ea]
      omega
    · rw [if_neg l]
      rw [c1] at a1 ⊢
      omega
  · rw [if_neg c1]
    by_cases c2 : a / 6 = h
    · rw [if_pos c2, c2]
      rw [c2] at a1
      by_cases l : a ≤ h * 6
      · have ea : a = h * 6 := by omega
        have : hsQ D S a = hsQ D S (h * 6) := by rw [ea]
        rw [if_pos l]
        omega
      · rw [if_neg l]
        omega
    · rw [if_neg c2]
      omega
/-- sums over the flights of a way -/
theorem way_h (hw : wD D) (hX : wX D) {c : Nat} : ∀ n, (∀ q, c ≤ q → q < c + n → upF D q ≠ -1) → smV (fun f => decide (c ≤ lowN D f ∧ lowN D f < c + n)) (eCo D S) (cnt D 1) = hsQ D S (c + n) - hsQ D S c
  | 0, _ => by
    have z : ∀ k, smV (fun f => decide (c ≤ lowN D f ∧ lowN D f < c + 0)) (eCo D S) k = 0 := fun k => by
      induction k with
      | zero => rfl
      | succ k ih => rw [sm_s, ih, if_neg (by rw [decide_eq_false (by omega)]; decide)]; rfl
    rw [z]
    show 0 = hsQ D S c - hsQ D S c
    omega
  | n + 1, h => by
    have ih := way_h hw hX n (fun q a b => h q a (by omega))
    have hn := h (c + n) (by omega) (by omega)
    obtain ⟨u1, u2, u3, -⟩ := upF_get hw hn
    have one := sm_one (p := fun f => decide (f = (upF D (c + n)).toNat)) (v := eCo D S) (a := (upF D (c + n)).toNat) (fun i => decide_eq_true_iff) (cnt D 1)
    rw [if_pos u2] at one
    have two := sm_two (p := fun f => decide (c ≤ lowN D f ∧ lowN D f < c + (n + 1))) (q := fun f => decide (c ≤ lowN D f ∧ lowN D f < c + n)) (r := fun f => decide (f = (upF D (c + n)).toNat)) (v := eCo D S) (cnt D 1) (fun i hi => by
      show (if decide (c ≤ lowN D i ∧ lowN D i < c + (n + 1)) = true then eCo D S i else 0) = (if decide (c ≤ lowN D i ∧ lowN D i < c + n) = true then eCo D S i else 0) + (if decide (i = (upF D (c + n)).toNat) = true then eCo D S i else 0)
      by_cases e : i = (upF D (c + n)).toNat
      · have hl : lowN D i = c + n := by rw [e, u3]
        have h1 : decide (c ≤ lowN D i ∧ lowN D i < c + (n + 1)) = true := decide_eq_true (by omega)
        have h2 : decide (c ≤ lowN D i ∧ lowN D i < c + n) = false := decide_eq_false (by omega)
        rw [h1, h2, decide_eq_true e, if_pos rfl, if_neg (show ¬ false = true by decide), Int.zero_add]
      · have nl : lowN D i ≠ c + n := fun q => e (by
          have := upF_low hw hX hi
          rw [q] at this
          rw [this, Int.toNat_natCast])
        have h3 : decide (i = (upF D (c + n)).toNat) = false := decide_eq_false e
        rw [h3, if_neg (show ¬ false = true by decide), Int.add_zero]
        have h4 : (c ≤ lowN D i ∧ lowN D i < c + (n + 1)) ↔ (c ≤ lowN D i ∧ lowN D i < c + n) := by omega
        rw [decide_eq_decide.mpr h4])
    rw [two, ih, one, show c + (n + 1) = (c + n) + 1 from rfl, hs_s]
    unfold pcQ
    rw [if_pos hn]
    omega
theorem way_d (hw : wD D) (hX : wX D) {c d : Nat} (h : c ≤ d) (hu : ∀ q, c ≤ q → q < d → upF D q ≠ -1) : smV (fun f => decide (c ≤ lowN D f ∧ lowN D f < d)) (eCo D S) (cnt D 1) = hsQ D S d - hsQ D S c := by
  have := way_h (S := S) hw hX (c := c) (d - c) (fun q a b => hu q a (by omega))
  rwa [show c + (d - c) = d from by omega] at this
theorem way_s (hw : wD D) (hX : wX D) {a b : Nat} (hu : ∀ q, onW a b q → upF D q ≠ -1) : smV (fun f => decide (onW a b (lowN D f))) (eCo D S) (cnt D 1) + (if a / 6 = b / 6 then 0 else dWalk D) = dQ D S a b := by
  unfold dQ
  by_cases e : a / 6 = b / 6
  · rw [if_pos e, if_pos e, Int.add_zero]
    by_cases l : a ≤ b
    · rw [if_pos l, ← way_d hw hX l (fun q u v => hu q (Or.inl ⟨e, Or.inl ⟨u, v⟩⟩))]
      refine sm_ext _ (fun i _ => ?_)
      have : onW a b (lowN D i) ↔ a ≤ lowN D i ∧ lowN D i < b := by unfold onW; omega
      rw [decide_eq_decide.mpr this]
    · rw [if_neg l, ← way_d hw hX (show b ≤ a by omega) (fun q u v => hu q (Or.inl ⟨e, Or.inr ⟨u, v⟩⟩))]
      refine sm_ext _ (fun i _ => ?_)
      have : onW a b (lowN D i) ↔ b ≤ lowN D i ∧ lowN D i < a := by unfold onW; omega
      rw [decide_eq_decide.mpr this]
  · rw [if_neg e, if_neg e]
    have w1 := way_d (S := S) hw hX (show a / 6 * 6 ≤ a by omega) (fun q u v => hu q (Or.inr ⟨e, Or.inl ⟨u, v⟩⟩))
    have w2 := way_d (S := S) hw hX (show b / 6 * 6 ≤ b by omega) (fun q u v => hu q (Or.inr ⟨e, Or.inr ⟨u, v⟩⟩))
    have two := sm_two (p := fun f => decide (onW a b (lowN D f))) (q := fun f => decide (a / 6 * 6 ≤ lowN D f ∧ lowN D f < a)) (r := fun f => decide (b / 6 * 6 ≤ lowN D f ∧ lowN D f < b)) (v := eCo D S) (cnt D 1) (fun i _ => by
      show (if decide (onW a b (lowN D i)) = true then eCo D S i else 0) = (if decide (a / 6 * 6 ≤ lowN D i ∧ lowN D i < a) = true then eCo D S i else 0) + (if decide (b / 6 * 6 ≤ lowN D i ∧ lowN D i < b) = true then eCo D S i else 0)
      by_cases c1 : a / 6 * 6 ≤ lowN D i ∧ lowN D i < a
      · have h2 : decide (b / 6 * 6 ≤ lowN D i ∧ lowN D i < b) = false := decide_eq_false (by omega)
        rw [decide_eq_true (show onW a b (lowN D i) from Or.inr ⟨e, Or.inl c1⟩), decide_eq_true c1, h2, if_pos rfl, if_neg (show ¬ false = true by decide), Int.add_zero]
      · have h1 : decide (a / 6 * 6 ≤ lowN D i ∧ lowN D i < a) = false := decide_eq_false c1
        rw [h1, if_neg (show ¬ false = true by decide), Int.zero_add]
        have h4 : onW a b (lowN D i) ↔ (b / 6 * 6 ≤ lowN D i ∧ lowN D i < b) := by unfold onW; omega
        rw [decide_eq_decide.mpr h4])
    rw [two, w1, w2]
    omega
theorem es_k {T : Nat} (hT : T < 1024) (hth : sTh S < 1024) : ∀ k, rsV D T k + rsV D (ndf T (sTh S)) k = smV (fun f => T.testBit f) (eCo D S) k
  | 0 => rfl
  | k + 1 => by
    have ih := es_k hT hth k
    have e1 : rsV D T (k + 1) = rsV D T k + (if T.testBit k = true then colD D 12 k else 0) := rfl
    have e2 : rsV D (ndf T (sTh S)) (k + 1) = rsV D (ndf T (sTh S)) k + (if (ndf T (sTh S)).testBit k = true then colD D 12 k else 0) := rfl
    rw [e1, e2, sm_s, ← ih, ndf_tb (by omega) (by omega)]
    unfold eCo
    cases T.testBit k with
    | false =>
      rw [Bool.false_and, if_neg (show ¬ false = true by decide), if_neg (show ¬ false = true by decide)]
      omega
    | true =>
      rw [Bool.true_and, if_pos (rfl : true = true), if_pos (rfl : true = true)]
      cases (sTh S).testBit k with
      | true =>
        rw [if_pos (rfl : true = true), if_neg (by decide)]
        omega
      | false =>
        rw [if_neg (show ¬ false = true by decide), if_pos (by decide)]
        omega
noncomputable def coA (D : ZD) (S : ZS) (p x : Int) : Int := if dcP (0 ≤ p ∧ p < cnt D 3 ∧ plI D x ∧ wok D (opn D S p.toNat (-1)) (sPe S p.toNat).toNat x.toNat) = true then dQ D S (sPe S p.toNat).toNat x.toNat else -1
theorem cost_c (ht : t = 7 ∨ t = 43) (e3 : s 0 3 = ((t : Nat) : Int)) (hd : cDn s t D) (hw : wD D) (hX : wX D) (hh : cDh s t D) (hk6 : 0 < cnt D 0 → s 174 6 = dWalk D ∧ 0 ≤ dWalk D ∧ dWalk D ≤ 60) (hS : cSt s 79 D S) (hs : wS D S) {p x : Int} (hx : x < 2147483648) : zC N 1286 [(((0 : Nat) : Int), 0), (p, 0), (x, 0)] s (fun r => r.1 = [(coA D S p x, 0)]) := by
  refine c_X10_cost (b_X10_cost_0 _ _ _ _ _ s ht (fun m _ => ?_))
  rw [e3]
  refine zC_q (has_ok ht hd (k := 3) (by omega)) (fun r hr => ?_)
  subst hr
  refine b_X10_cost_9 _ _ _ _ _ _ s ht (fun g m2 _ => ?_) (fun g => ?_)
  rotate_left
  · show [((-1 : Int), 0)] = _
    unfold coA
    rw [if_neg (by rw [dcP_no (fun q => by rw [if_pos (dcP_yes ⟨q.1, q.2.1⟩)] at g; omega)]; decide)]
  have c : 0 ≤ p ∧ p < cnt D 3 := Classical.byContradiction fun c => g (if_neg (by rw [dcP_no c]; decide))
  obtain ⟨k, rfl⟩ := Int.eq_ofNat_of_zero_le c.1
  have hk : k < cnt D 3 := by omega
  have px := hs.2.1 k hk
  have np := plI_nat hw px
  have ep : s 80 (k : Int).toNat = sPe S k := by rw [Int.toNat_natCast]; exact hS.2.1 k hk
  have b1 := wS_lt hw hs
  rw [e3, ep]
  refine zC_q (way_ok ht hd hw hX (by omega) hx) (fun r hr => ?_)
  subst hr
  refine b_X10_cost_33 _ _ _ _ _ _ s ht (fun m3 _ => ?_)
  rw [e3]
  refine zC_q (open_ok ht (b := 79) rfl hd hw hX hS hs hk) (fun r hr => ?_)
  subst hr
  have it := go_iff hw hX hs hk (w := -1) (y := x)
  have fin : ∀ v : Int, (plI D x ∧ wok D (opn D S k (-1)) (sPe S k).toNat x.toNat → v = dQ D S (sPe S k).toNat x.toNat) → (¬ (plI D x ∧ wok D (opn D S k (-1)) (sPe S k).toNat x.toNat) → v = -1) → [(v, 0)] = [(coA D S (k : Int) x, 0)] := fun v h1 h2 => by
    unfold coA
    rw [Int.toNat_natCast]
    by_cases q : plI D x ∧ wok D (opn D S k (-1)) (sPe S k).toNat x.toNat
    · rw [if_pos (dcP_yes ⟨c.1, c.2, q⟩), h1 q]
    · rw [if_neg (by rw [dcP_no (fun z => q z.2.2)]; decide), h2 q]
  have last : ∀ (m : Nat) (y x5 : Int), zand (waV D (sPe S k) x) (zxor ((opn D S k (-1) : Nat) : Int) (-1)) = 0 → y = (if (sPe S k).toNat / 6 = x.toNat / 6 then 0 else dWalk D) → zC m 1039 [(s 0 3, 0), (waV D (sPe S k) x, 0)] s (fun p => zT (zE 1286) (Pt PX10_cost) m (93, [((0 : Nat) : Int), (k : Int), x, sPe S k, waV D (sPe S k) x, x5], p.1 ++ [(y, 0)], p.2) (fun r => r.1 = [(coA D S (k : Int) x, 0)])) := fun m y x5 g2 hy => by
    have ok := it.mp g2
    have nx := plI_nat hw ok.1
    have h0 := (pl_h hw nx.1).1
    have kb := (hk6 (by omega)).2
    have eW : waV D (sPe S k) x = ((waB D (sPe S k).toNat x.toNat : Nat) : Int) := if_pos (dcP_yes ⟨px, ok.1, fun q hq => (ok.2.2.2 q hq).1⟩)
    have b3 : waB D (sPe S k).toNat x.toNat < 1024 := bset_10 hw
    rw [e3, eW]
    refine zC_q (riseOf_ok ht hd hw hX (by omega)) (fun r hr => ?_)
    subst hr
    refine b_X10_cost_93 _ _ _ _ _ _ _ s ht (fun m4 _ => ?_)
    rw [e3, hS.1, zandn (by omega)]
    have nl := ndf_le (a := waB D (sPe S k).toNat x.toNat) (b := sTh S) (by omega)
    refine zC_q (riseOf_ok ht hd hw hX (by omega)) (fun r hr => ?_)
    subst hr
    refine b_X10_cost_113 _ _ _ _ _ _ _ s ht ?_
    refine fin _ (fun _ => ?_) (fun q => absurd ok q)
    have r1 := rsA_bd hw hX (waB D (sPe S k).toNat x.toNat)
    have r2 := rsA_bd hw hX (ndf (waB D (sPe S k).toNat x.toNat) (sTh S))
    have yb : 0 ≤ y ∧ y ≤ 60 := by rw [hy]; split <;> omega
    rw [w32_id (z := y + _) (by omega) (by omega), w32_id (by omega) (by omega)]
    have es : rsA D (waB D (sPe S k).toNat x.toNat) + rsA D (ndf (waB D (sPe S k).toNat x.toNat) (sTh S)) = smV (fun f => (waB D (sPe S k).toNat x.toNat).testBit f) (eCo D S) (cnt D 1) := es_k b3 b1 (cnt D 1)
    have ws := way_s (S := S) hw hX (a := (sPe S k).toNat) (b := x.toNat) (fun q hq => (ok.2.2.2 q hq).1)
    have ex : smV (fun f => (waB D (sPe S k).toNat x.toNat).testBit f) (eCo D S) (cnt D 1) = smV (fun f => decide (onW (sPe S k).toNat x.toNat (lowN D f))) (eCo D S) (cnt D 1) := sm_ext _ (fun i hi => by
      have w1 : (waB D (sPe S k).toNat x.toNat).testBit i = decide (onW (sPe S k).toNat x.toNat (lowN D i)) := by
        unfold waB
        rw [bset_tb, decide_eq_true hi, Bool.true_and]
      rw [w1])
    rw [← ws, ← ex, ← es, ← hy]
    omega
  refine b_X10_cost_50 _ _ _ _ _ _ _ s ht (fun g2 g3 m4 _ => ?_) (fun g2 g3 m4 _ => ?_) (fun g2 => ?_)
  · have ok := it.mp g2
    have nx := plI_nat hw ok.1
    have h0 := (pl_h hw nx.1).1
    rw [zdiv_pos (by omega) (by omega) (by decide) (by decide), zdiv_pos (by omega) (by omega) (by decide) (by decide)] at g3
    have e6 : s ((s 0 3).toNat) 6 = dWalk D := by rw [e3, Int.toNat_natCast]; exact hh.2.1
    rw [e6]
    exact last m4 _ _ g2 (by rw [if_neg (by omega)])
  · have ok := it.mp g2
    have nx := plI_nat hw ok.1
    rw [zdiv_pos (by omega) (by omega) (by decide) (by decide), zdiv_pos (by omega) (by omega) (by decide) (by decide)] at g3
    exact last m4 _ _ g2 (by rw [if_pos (by omega)])
  · exact fin _ (fun q => absurd (it.mpr q) g2) (fun _ => rfl)
/-- what is held while the model seeks the least -/
def coI (D : ZD) (S : ZS) (o a : Nat) (s s1 : Zs) : Prop := (∀ c j, c ≠ 221 → s1 c j = s c j) ∧ s1 221 a = 0 ∧ ∀ q, q < 30 → 0 ≤ s1 221 q ∧ s1 221 q ≤ 1000000 ∧ (s1 221 q < 1000000 → wok D o a q ∧ dQ D S a q ≤ s1 221 q)
def coP (D : ZD) (S : ZS) (o : Nat) (s1 : Zs) (f : Nat) : Prop := ∀ g, g < f → o.testBit g = true → s1 221 (lowN D g + 1) ≤ s1 221 (lowN D g) + eCo D S g ∧ s1 221 (lowN D g) ≤ s1 221 (lowN D g + 1) + eCo D S g
def coR (D : ZD) (s1 : Zs) (h h' : Nat) : Prop := ∀ i j : Nat, i < cnt D 0 → j < cnt D 0 → (i < h ∨ (i = h ∧ j < h')) → i ≠ j → s1 221 (6 * j) ≤ s1 221 (6 * i) + dWalk D
theorem coI_set {o a q : Nat} {v : Int} {s1 : Zs} (h : coI D S o a s s1) (hq : q < 30) (h0 : 0 ≤ v) (h1 : v < s1 221 q) (w : wok D o a q) (d : dQ D S a q ≤ v) : coI D S o a s (zu s1 221 q v) := by
  obtain ⟨i1, i2, i3⟩ := h
  have ne : a ≠ q := fun e => by rw [e] at i2; omega
  refine ⟨fun c j hc => by rw [zu_n (fun z => hc z.1)]; exact i1 c j hc, by rw [zu_n (fun z => ne z.2)]; exact i2, fun r hr => ?_⟩
  by_cases e : r = q
  · rw [e, zu_eq]
    have := i3 q hq
    exact ⟨h0, by omega, fun _ => ⟨w, d⟩⟩
  · rw [zu_n (fun z => e z.2)]
    exact i3 r hr
theorem co_walk (hw : wD D) {o c : Nat} {s1 : Zs} (hP : coP D S o s1 (cnt D 1)) : ∀ n, (∀ q, c ≤ q → q < c + n → okU D o q) → s1 221 (c + n) ≤ s1 221 c + (hsQ D S (c + n) - hsQ D S c) ∧ s1 221 c ≤ s1 221 (c + n) + (hsQ D S (c + n) - hsQ D S c)
  | 0, _ => by
    show s1 221 c ≤ s1 221 c + (hsQ D S c - hsQ D S c) ∧ s1 221 c ≤ s1 221 c + (hsQ D S c - hsQ D S c)
    omega
  | n + 1, h => by
    have ih := co_walk hw hP (c := c) n (fun q a b => h q a (by omega))
    have ok := h (c + n) (by omega) (by omega)
    obtain ⟨u1, u2, u3, -⟩ := upF_get hw ok.1
    have e := hP _ u2 ok.2
    rw [u3] at e
    have ep : pcQ D S (c + n) = eCo D S (upF D (c + n)).toNat := if_pos ok.1
    rw [show c + (n + 1) = (c + n) + 1 from rfl, hs_s, ep]
    omega
theorem co_le (hw : wD D) {o c d : Nat} {s1 : Zs} (hP : coP D S o s1 (cnt D 1)) (h : c ≤ d) (hu : ∀ q, c ≤ q → q < d → okU D o q) : s1 221 d ≤ s1 221 c + (hsQ D S d - hsQ D S c) ∧ s1 221 c ≤ s1 221 d + (hsQ D S d - hsQ D S c) := by
  have := co_walk (S := S) hw hP (c := c) (d - c) (fun q a b => hu q a (by omega))
  rwa [show c + (d - c) = d from by omega] at this
theorem co_end (hw : wD D) {o a b : Nat} {s1 : Zs} (hI : coI D S o a s s1) (hP : coP D S o s1 (cnt D 1)) (hR : coR D s1 (cnt D 0) 0) (w : wok D o a b) : s1 221 b ≤ dQ D S a b := by
  obtain ⟨pa, pb, hq⟩ := w
  have ba := pl_h hw pa
  have bb := pl_h hw pb
  have i2 := hI.2.1
  unfold dQ
  by_cases e : a / 6 = b / 6
  · rw [if_pos e]
    by_cases l : a ≤ b
    · rw [if_pos l]
      have := (co_le (S := S) hw hP l (fun q u v => hq q (Or.inl ⟨e, Or.inl ⟨u, v⟩⟩))).1
      omega
    · rw [if_neg l]
      have := (co_le (S := S) hw hP (show b ≤ a by omega) (fun q u v => hq q (Or.inl ⟨e, Or.inr ⟨u, v⟩⟩))).2
      omega
  · rw [if_neg e]
    have s2 := (co_le (S := S) hw hP (show a / 6 * 6 ≤ a by omega) (fun q u v => hq q (Or.inr ⟨e, Or.inl ⟨u, v⟩⟩))).2
    have s3 := (co_le (S := S) hw hP (show b / 6 * 6 ≤ b by omega) (fun q u v => hq q (Or.inr ⟨e, Or.inr ⟨u, v⟩⟩))).1
    have s4 := hR (a / 6) (b / 6) ba.1 bb.1 (Or.inl ba.1) e
    rw [Nat.mul_comm 6 (b / 6), Nat.mul_comm 6 (a / 6)] at s4
    omega
theorem cost_m (hF : wF D) (hX : wX D) (hm : mT s D) (hw : wD D) (hS : mSt s 216 0 D S) (hs : wS D S) (hk6 : 0 < cnt D 0 → s 174 6 = dWalk D ∧ 0 ≤ dWalk D ∧ dWalk D ≤ 60) {p x : Int} (hx : x < 2147483648) : zC N 1427 [(((172 : Nat) : Int), 0), (p, 0), (x, 0)] s (fun r => r.1 = [(coA D S p x, 0)]) := by
  have hc : s 174 3 = ((cnt D 3 : Nat) : Int) := hm.1 3 (by omega)
  have no : ¬ (0 ≤ p ∧ p < cnt D 3 ∧ plI D x) → [((-1 : Int), 0)] = [(coA D S p x, 0)] := fun q => by
    unfold coA; rw [if_neg (by rw [dcP_no (fun z => q ⟨z.1, z.2.1, z.2.2.1⟩)]; decide)]
  refine c_X11_cost (b_X11_cost_0 _ _ _ _ _ _ _ s (fun g => no (fun q => by omega)) (fun g g2 => no (fun q => by omega)) (fun g g2 m _ => ?_))
  obtain ⟨k, rfl⟩ := Int.eq_ofNat_of_zero_le g
  have hk : k < cnt D 3 := by omega
  clear hc
  have hm1 : mT (zu s 172 0 0) D := mT_e (fun c j a b => zu_n (by omega)) hm
  have hS1 : mSt (zu s 172 0 0) 216 0 D S := mSt_e hS (fun j => zu_n (by omega))
  have hk61 : 0 < cnt D 0 → (zu s 172 0 0) 174 6 = dWalk D := fun q => (zu_n (by omega)).trans (hk6 q).1
  clear g2
  generalize zu s 172 0 0 = s0 at hm1 hS1 hk61 ⊢
  refine zC_q (isPlace_m hm1 hw hx) (fun r hr => ?_)
  subst hr
  refine b_X11_cost_18 _ _ _ _ _ _ _ _ s0 (fun g3 m2 _ => ?_) (fun g3 => no (fun q => by rw [if_pos (dcP_yes q.2.2)] at g3; omega))
  have pl : plI D x := Classical.byContradiction fun c => g3 (if_neg (by rw [dcP_no c]; decide))
  have nx := plI_nat hw pl
  have px := hs.2.1 k hk
  have np := plI_nat hw px
  have h0 := (pl_h hw nx.1).1
  have kb := (hk6 (by omega)).2
  have k6 := hk61 (by omega)
  have h5 : cnt D 3 ≤ 5 := hw.1 3 (by omega)
  have h05 : cnt D 0 ≤ 5 := hw.1 0 (by omega)
  have h10 : cnt D 1 ≤ 10 := hw.1 1 (by omega)
  have b1 := wS_lt hw hs
  have rr : s0 187 (k : Int).toNat = colD D 31 k := by rw [Int.toNat_natCast]; exact mcol hm1 hw (k := 3) (j := 1) (by omega) (by omega) (by decide) (by decide) hk
  have e00 : s0 216 0 = ((sTh S : Nat) : Int) := hS1.1
  rw [rr, e00]
  refine zC_q (climbs_m hm1 hw hX (fun i hi => by have := hS1.2.2.1 i hi; rw [Nat.zero_add] at this; exact this) hk (by omega)) (fun r hr => ?_)
  subst hr
  rw [opT_opn hw hs.1]
  have ob : opn D S k (-1) < 1024 := by
    rw [← opT_opn hw hs.1]
    exact bset_10 hw
  have fin : ∀ v : Int, (wok D (opn D S k (-1)) (sPe S k).toNat x.toNat → v = dQ D S (sPe S k).toNat x.toNat) → (¬ wok D (opn D S k (-1)) (sPe S k).toNat x.toNat → v = -1) → [(v, 0)] = [(coA D S (k : Int) x, 0)] := fun v h1 h2 => by
    unfold coA
    rw [Int.toNat_natCast]
    by_cases q : wok D (opn D S k (-1)) (sPe S k).toNat x.toNat
    · rw [if_pos (dcP_yes ⟨g, by omega, pl, q⟩), h1 q]
    · rw [if_neg (by rw [dcP_no (fun z => q z.2.2.2)]; decide), h2 q]
  have ep : ∀ _ : Unit, s0 216 ((w32 (1 + ((k : Nat) : Int))).toNat) = sPe S k := fun _ => by
    rw [w32_id (by omega) (by omega), show (1 + (k : Int)).toNat = 1 + k from by omega]
    have := hS1.2.1 k hk
    rw [Nat.zero_add] at this
    exact this
  generalize ho : opn D S k (-1) = o at ob fin ⊢
  generalize ha : (sPe S k).toNat = a at np fin ⊢
  have cl := wok_clo (o := o) (a := a) hw hF hX
  -- the flights
  have flights : ∀ (M f : Nat) (x4 x6 x7 : Int) (s1 : Zs), f ≤ cnt D 1 → coI D S o a s0 s1 → (x4 = 0 → coP D S o s1 f) → (∀ (m : Nat) (x4 x6 x7 : Int) (s2 : Zs), m ≤ M → coI D S o a s0 s2 → (x4 = 0 → coP D S o s2 (cnt D 1)) → zT (zE 1427) (Pt PX11_cost) m (237, [((172 : Nat) : Int), (k : Int), x, (o : Int), x4, 0, x6, x7], [], s2) (fun r => r.1 = [(coA D S (k : Int) x, 0)])) → zT (zE 1427) (Pt PX11_cost) M (95, [((172 : Nat) : Int), (k : Int), x, (o : Int), x4, (f : Int), x6, x7], [], s1) (fun r => r.1 = [(coA D S (k : Int) x, 0)]) := by
    intro M
    induction M using Nat.strongRecOn with
    | ind M ih =>
      intro f x4 x6 x7 s1 hf hI hP out
      have ms : mT s1 D := mT_e (fun c j a b => hI.1 c j (by omega)) hm1
      have hc : s1 174 1 = ((cnt D 1 : Nat) : Int) := ms.1 1 (by omega)
      have e0 : s1 216 0 = ((sTh S : Nat) : Int) := (hI.1 _ _ (by omega)).trans e00
      have on : ∀ (m : Nat) (x4 x6 x7 : Int) (s2 : Zs), m < M → f < cnt D 1 → coI D S o a s0 s2 → (x4 = 0 → coP D S o s2 (f + 1)) → zT (zE 1427) (Pt PX11_cost) m (95, [((172 : Nat) : Int), (k : Int), x, (o : Int), x4, w32 ((f : Int) + 1), x6, x7], [], s2) (fun r => r.1 = [(coA D S (k : Int) x, 0)]) := fun m x4 x6 x7 s2 hm' hf2 i1 i2 => by
        rw [w32_id (by omega) (by omega), show (f : Int) + 1 = ((f + 1 : Nat) : Int) from by omega]
        exact ih m hm' (f + 1) x4 x6 x7 s2 (by omega) i1 i2 (fun m' x4 x6 x7 s3 hm'' => out m' x4 x6 x7 s3 (by omega))
      have edge : ∀ (m : Nat) (n : Int), m < M → f < cnt D 1 → o.testBit f = true → n = eCo D S f → zC m 1471 [(((172 : Nat) : Int), 0), ((f : Int), 0)] s1 (fun p => zT (zE 1427) (Pt PX11_cost) m (160, [((172 : Nat) : Int), (k : Int), x, (o : Int), x4, (f : Int), n, x7], p.1 ++ [], p.2) (fun r => r.1 = [(coA D S (k : Int) x, 0)])) := fun m n hm' hf2 bt hn => by
        refine zC_q (lowerOf_m ms hw hf2) (fun r hr => ?_)
        subst hr
        have l28 := low_28 hw hf2
        have eb := eCo_bd (S := S) hw hX hf2
        have ld := low_dm hw hf2
        have st := d_step (S := S) (a := a) (q := lowN D f) hw hX ld.2.2
        rw [pc_low hw hX hf2] at st
        have iL := hI.2.2 (lowN D f) (by omega)
        have iU := hI.2.2 (lowN D f + 1) (by omega)
        have clf := cl.1 f hf2 bt
        have eU : ∀ _ : Unit, (w32 (((lowN D f : Nat) : Int) + 1)).toNat = lowN D f + 1 := fun _ => by rw [w32_id (by omega) (by omega)]; omega
        have w1 : w32 (s1 221 (lowN D f) + n) = s1 221 (lowN D f) + n := w32_id (by omega) (by omega)
        have w2 : w32 (s1 221 (lowN D f + 1) + n) = s1 221 (lowN D f + 1) + n := w32_id (by omega) (by omega)
        have nP : coP D S o s1 f → s1 221 (lowN D f + 1) ≤ s1 221 (lowN D f) + n → s1 221 (lowN D f) ≤ s1 221 (lowN D f + 1) + n → coP D S o s1 (f + 1) := fun h1 h2 h3 g' hg bg => by
          by_cases e : g' = f
          · rw [e]; exact ⟨by omega, by omega⟩
          · exact h1 g' (by omega) bg
        have up : s1 221 (lowN D f) + n < s1 221 (lowN D f + 1) → coI D S o a s0 (zu s1 221 (lowN D f + 1) (s1 221 (lowN D f) + n)) := fun h => by
          have q := iL.2.2 (by omega)
          exact coI_set hI (by omega) (by omega) h (clf (Or.inl q.1)).2 (by omega)
        have dn : s1 221 (lowN D f + 1) + n < s1 221 (lowN D f) → coI D S o a s0 (zu s1 221 (lowN D f) (s1 221 (lowN D f + 1) + n)) := fun h => by
          have q := iU.2.2 (by omega)
          exact coI_set hI (by omega) (by omega) h (clf (Or.inr q.1)).1 (by omega)
        have z1 : zu s1 221 (lowN D f + 1) (s1 221 (lowN D f) + n) 221 (lowN D f + 1) = s1 221 (lowN D f) + n := zu_eq _ _ _ _
        have z2 : zu s1 221 (lowN D f + 1) (s1 221 (lowN D f) + n) 221 (lowN D f) = s1 221 (lowN D f) := zu_n (by omega)
        refine b_X11_cost_160 _ _ _ _ _ _ _ _ s1 (fun g2 g4 m2 hm2 => ?_) (fun g2 g5 m2 hm2 => ?_) (fun g6 g7 g9 m2 hm2 => ?_) (fun g6 g7 g10 m2 hm2 => ?_) (fun g6 g7 g12 m2 hm2 => ?_) (fun g6 g7 g13 m2 hm2 => ?_)
        · rw [eU (), Int.toNat_natCast, w1] at g2 g4
          rw [z1, z2, w32_id (z := s1 221 (lowN D f) + n + n) (by omega) (by omega)] at g4
          omega
        · rw [eU (), Int.toNat_natCast, w1] at g2
          rw [eU (), Int.toNat_natCast, w1]
          exact on m2 _ _ _ _ (by omega) hf2 (up g2) (fun h => absurd h (by decide))
        · rw [eU (), Int.toNat_natCast, w2] at g9
          rw [eU (), Int.toNat_natCast, w2]
          exact on m2 _ _ _ _ (by omega) hf2 (dn g9) (fun h => absurd h (by decide))
        · rw [eU (), Int.toNat_natCast, w2] at g10
          rw [eU (), Int.toNat_natCast, w1] at g6
          exact on m2 _ _ _ _ (by omega) hf2 hI (fun _ => nP (hP g7) g6 g10)
        · rw [eU (), Int.toNat_natCast, w2] at g12
          rw [eU (), Int.toNat_natCast, w2]
          exact on m2 _ _ _ _ (by omega) hf2 (dn g12) (fun h => absurd h (by decide))
        · exact on m2 _ _ _ _ (by omega) hf2 hI (fun h => absurd h (by decide))
      have ri : f < cnt D 1 → s1 182 (f : Int).toNat = colD D 12 f := fun hf2 => by rw [Int.toNat_natCast]; exact mcol ms hw (k := 1) (j := 2) (by omega) (by omega) (by decide) (by decide) hf2
      refine b_X11_cost_95 _ _ _ _ _ _ _ s1 (fun j1 => ?_) (fun j1 j2 j3 m3 hm3 => ?_) (fun j1 j2 j3 m3 hm3 => ?_) (fun j1 j2 m3 hm3 => ?_)
      all_goals rw [hc] at j1
      · have : f = cnt D 1 := by omega
        subst this
        exact out M _ _ _ s1 (Nat.le_refl M) hI hP
      all_goals have hf2 : f < cnt D 1 := by omega
      · rw [e0] at j3
        have rb := rise_bd hw hX hf2
        refine edge m3 _ hm3 hf2 (Classical.byContradiction fun c => j2 ((zbit0 (by omega) (by omega)).mpr c)) ?_
        unfold eCo
        rw [ri hf2, if_neg (fun q => j3 ((zbit1 (by omega) (by omega)).mpr q)), w32_id (by omega) (by omega)]
      · rw [e0] at j3
        refine edge m3 _ hm3 hf2 (Classical.byContradiction fun c => j2 ((zbit0 (by omega) (by omega)).mpr c)) ?_
        unfold eCo
        rw [ri hf2, if_pos ((zbit1 (by omega) (by omega)).mp j3)]
      · refine on m3 _ _ _ s1 hm3 hf2 hI (fun h g' hg bg => ?_)
        by_cases e : g' = f
        · rw [e] at bg
          exact absurd bg ((zbit0 (by omega) (by omega)).mp j2)
        · exact hP h g' (by omega) bg
  -- the streets
  have inner : ∀ (M h h' : Nat) (x4 x7 : Int) (s1 : Zs), h < cnt D 0 → h' ≤ cnt D 0 → coI D S o a s0 s1 → (x4 = 0 → coP D S o s1 (cnt D 1) ∧ coR D s1 h h') → (∀ (m : Nat) (x4 x6 x7 : Int) (s2 : Zs), m < M → coI D S o a s0 s2 → (x4 = 0 → coP D S o s2 (cnt D 1) ∧ coR D s2 (h + 1) 0) → zT (zE 1427) (Pt PX11_cost) m (237, [((172 : Nat) : Int), (k : Int), x, (o : Int), x4, ((h + 1 : Nat) : Int), x6, x7], [], s2) (fun r => r.1 = [(coA D S (k : Int) x, 0)])) → zT (zE 1427) (Pt PX11_cost) M (251, [((172 : Nat) : Int), (k : Int), x, (o : Int), x4, (h : Int), (h' : Int), x7], [], s1) (fun r => r.1 = [(coA D S (k : Int) x, 0)]) := by
    intro M
    induction M using Nat.strongRecOn with
    | ind M ih =>
      intro h h' x4 x7 s1 hh hh' hI hP out
      have ms : mT s1 D := mT_e (fun c j a b => hI.1 c j (by omega)) hm1
      have hc : s1 174 0 = ((cnt D 0 : Nat) : Int) := ms.1 0 (by omega)
      have kk : s1 174 6 = dWalk D := (hI.1 _ _ (by omega)).trans k6
      have on : ∀ (m : Nat) (x4 x7 : Int) (s2 : Zs), m < M → h' < cnt D 0 → coI D S o a s0 s2 → (x4 = 0 → coP D S o s2 (cnt D 1) ∧ coR D s2 h (h' + 1)) → zT (zE 1427) (Pt PX11_cost) m (251, [((172 : Nat) : Int), (k : Int), x, (o : Int), x4, (h : Int), w32 ((h' : Int) + 1), x7], [], s2) (fun r => r.1 = [(coA D S (k : Int) x, 0)]) := fun m x4 x7 s2 hm' hh2 i1 i2 => by
        rw [w32_id (by omega) (by omega), show (h' : Int) + 1 = ((h' + 1 : Nat) : Int) from by omega]
        exact ih m hm' h (h' + 1) x4 x7 s2 hh (by omega) i1 i2 (fun m' x4 x6 x7 s3 hm'' => out m' x4 x6 x7 s3 (by omega))
      have e1 : ∀ _ : Unit, (w32 (6 * (h : Int))).toNat = 6 * h := fun _ => by rw [w32_id (by omega) (by omega)]; omega
      have e2 : h' < cnt D 0 → (w32 (6 * (h' : Int))).toNat = 6 * h' := fun _ => by rw [w32_id (by omega) (by omega)]; omega
      have nx1 : x4 = 0 → (h ≠ h' → s1 221 (6 * h') ≤ s1 221 (6 * h) + dWalk D) → coP D S o s1 (cnt D 1) ∧ coR D s1 h (h' + 1) := fun h0 hle => by
        have q := hP h0
        refine ⟨q.1, fun i j hi hj hor hn => ?_⟩
        by_cases e : i = h ∧ j = h'
        · rw [e.1, e.2] at hn ⊢
          exact hle hn
        · exact q.2 i j hi hj (by omega) hn
      have w1 : h < cnt D 0 → w32 (s1 221 (6 * h) + s1 174 6) = s1 221 (6 * h) + dWalk D := fun _ => by
        have := hI.2.2 (6 * h) (by omega)
        rw [kk, w32_id (by omega) (by omega)]
      refine b_X11_cost_251 _ _ _ _ _ _ _ s1 (fun j1 m3 hm3 => ?_) (fun j1 j2 m3 hm3 => ?_) (fun j1 j2 j4 m3 hm3 => ?_) (fun j1 j2 j5 j6 m3 hm3 => ?_) (fun j1 j2 j5 j6 m3 hm3 => ?_)
      all_goals rw [hc] at j1
      · have : h' = cnt D 0 := by omega
        subst this
        rw [w32_id (by omega) (by omega), show (h : Int) + 1 = ((h + 1 : Nat) : Int) from by omega]
        exact out m3 _ _ _ s1 hm3 hI (fun h0 => ⟨(hP h0).1, fun i j hi hj hor hn => (hP h0).2 i j hi hj (by omega) hn⟩)
      all_goals have hh2 : h' < cnt D 0 := by omega
      · exact on m3 _ _ s1 hm3 hh2 hI (fun h0 => nx1 h0 (fun q => absurd (by omega) q))
      · rw [e1 (), e2 hh2, w1 hh] at j4
        rw [e1 (), e2 hh2, w1 hh]
        refine on m3 _ _ _ hm3 hh2 ?_ (fun h => absurd h (by decide))
        have i1 := hI.2.2 (6 * h) (by omega)
        have i2 := hI.2.2 (6 * h') (by omega)
        have q := i1.2.2 (by omega)
        have dd := d_str (S := S) (a := a) (h := h) (h' := h') hw hX kb (by omega)
        rw [Nat.mul_comm h 6, Nat.mul_comm h' 6] at dd
        have wk := cl.2 h h' hh hh2
        rw [Nat.mul_comm h 6, Nat.mul_comm h' 6] at wk
        exact coI_set hI (by omega) (by omega) j4 (wk q.1) (by omega)
      · rw [e1 (), e2 hh2, w1 hh] at j5
        exact on m3 _ _ s1 hm3 hh2 hI (fun h0 => nx1 j6 (fun _ => j5))
      · exact on m3 _ _ s1 hm3 hh2 hI (fun h0 => absurd h0 (by decide))
  have outer : ∀ (M h : Nat) (x4 x6 x7 : Int) (s1 : Zs), h ≤ cnt D 0 → coI D S o a s0 s1 → (x4 = 0 → coP D S o s1 (cnt D 1) ∧ coR D s1 h 0) → (∀ (m : Nat) (x4 x5 x6 x7 : Int) (s2 : Zs), m < M → coI D S o a s0 s2 → (x4 = 0 → coP D S o s2 (cnt D 1) ∧ coR D s2 (cnt D 0) 0) → zT (zE 1427) (Pt PX11_cost) m (84, [((172 : Nat) : Int), (k : Int), x, (o : Int), x4, x5, x6, x7], [], s2) (fun r => r.1 = [(coA D S (k : Int) x, 0)])) → zT (zE 1427) (Pt PX11_cost) M (237, [((172 : Nat) : Int), (k : Int), x, (o : Int), x4, (h : Int), x6, x7], [], s1) (fun r => r.1 = [(coA D S (k : Int) x, 0)]) := by
    intro M
    induction M using Nat.strongRecOn with
    | ind M ih =>
      intro h x4 x6 x7 s1 hh hI hP out
      have hc : s1 174 0 = ((cnt D 0 : Nat) : Int) := (hI.1 _ _ (by omega)).trans (hm1.1 0 (by omega))
      refine b_X11_cost_237 _ _ _ _ _ _ _ s1 (fun j1 m3 hm3 => ?_) (fun j1 => ?_)
      all_goals rw [hc] at j1
      · have : h = cnt D 0 := by omega
        subst this
        exact out m3 _ _ _ _ s1 hm3 hI hP
      · exact inner M h 0 x4 x7 s1 (by omega) (by omega) hI hP (fun m x4 x6 x7 s2 hm' i1 i2 => ih m hm' (h + 1) x4 x6 x7 s2 (by omega) i1 i2 (fun m' x4 x5 x6 x7 s3 hm'' => out m' x4 x5 x6 x7 s3 (by omega)))
  have rounds : ∀ (M : Nat) (x4 x5 x6 x7 : Int) (s1 : Zs), coI D S o a s0 s1 → (x4 = 0 → coP D S o s1 (cnt D 1) ∧ coR D s1 (cnt D 0) 0) → zT (zE 1427) (Pt PX11_cost) M (84, [((172 : Nat) : Int), (k : Int), x, (o : Int), x4, x5, x6, x7], [], s1) (fun r => r.1 = [(coA D S (k : Int) x, 0)]) := by
    intro M
    induction M using Nat.strongRecOn with
    | ind M ih =>
      intro x4 x5 x6 x7 s1 hI hP
      have ix := hI.2.2 x.toNat nx.2.2
      have db := d_bd (S := S) (a := a) (b := x.toNat) hw hX kb (by omega) nx.2.2
      refine b_X11_cost_84 _ _ _ _ _ _ _ s1 (fun j1 j2 => ?_) (fun j1 j2 => ?_) (fun j1 => ?_)
      · refine fin _ (fun w => ?_) (fun _ => rfl)
        have := co_end hw hI (hP j1).1 (hP j1).2 w
        omega
      · refine fin _ (fun w => ?_) (fun w => absurd (ix.2.2 j2).1 w)
        have := co_end hw hI (hP j1).1 (hP j1).2 w
        have := (ix.2.2 j2).2
        omega
      · exact flights M 0 _ _ _ s1 (by omega) hI (fun _ g' hg => absurd hg (Nat.not_lt_zero g')) (fun m x4 x6 x7 s2 hm' i1 i2 => outer m 0 x4 x6 x7 s2 (by omega) i1 (fun h0 => ⟨i2 h0, fun i j _ _ hor => by omega⟩) (fun m' x4 x5 x6 x7 s3 hm'' i3 i4 => ih m' (by omega) x4 x5 x6 x7 s3 i3 i4))
  have fill : ∀ (M q : Nat) (x5 x6 x7 : Int) (s1 : Zs), q ≤ 30 → (∀ c j, c ≠ 221 → s1 c j = s0 c j) → (∀ r, r < q → s1 221 r = 1000000) → zT (zE 1427) (Pt PX11_cost) M (44, [((172 : Nat) : Int), (k : Int), x, (o : Int), (q : Int), x5, x6, x7], [], s1) (fun r => r.1 = [(coA D S (k : Int) x, 0)]) := by
    intro M
    induction M using Nat.strongRecOn with
    | ind M ih =>
      intro q x5 x6 x7 s1 hq f1 f2
      refine b_X11_cost_44 _ _ _ _ _ _ _ s1 (fun j1 => ?_) (fun j1 m3 hm3 => ?_)
      · rw [f1 _ _ (by omega), ep (), ha]
        refine rounds M _ _ _ _ _ ⟨fun c j hc => by rw [zu_n (fun z => hc z.1)]; exact f1 c j hc, zu_eq _ _ _ _, fun r hr => ?_⟩ (fun h => absurd h (by decide))
        by_cases e : r = a
        · rw [e, zu_eq]
          exact ⟨by decide, by decide, fun _ => ⟨wok_self np.1, by rw [d_self]; decide⟩⟩
        · rw [zu_n (fun z => e z.2), f2 r (by omega)]
          exact ⟨by decide, by decide, fun z => absurd z (by decide)⟩
      · rw [Int.toNat_natCast, w32_id (z := (q : Int) + 1) (by omega) (by omega), show (q : Int) + 1 = ((q + 1 : Nat) : Int) from by omega]
        refine ih m3 hm3 (q + 1) _ _ _ _ (by omega) (fun c j hc => by rw [zu_n (fun z => hc z.1)]; exact f1 c j hc) (fun r hr => ?_)
        by_cases e : r = q
        · rw [e, zu_eq]
        · rw [zu_n (fun z => e z.2)]
          exact f2 r (by omega)
  exact b_X11_cost_40 _ _ _ _ _ _ _ _ s0 (fill m2 0 _ _ _ s0 (by omega) (fun _ _ _ => rfl) (fun r hr => absurd hr (Nat.not_lt_zero r)))
end Zco
