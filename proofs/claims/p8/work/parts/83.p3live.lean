/-! live, best -/
theorem b_X0_stays_0 {n : Nat} {Q : Zr → Prop} (x0 x1 x2 x3 : Int) (s : Zs) 
    (h0 : zT (zE 4) (Pt PX0_stays) n (5, [x0, x1, 1000000, 0], [], s) Q) : zT (zE 4) (Pt PX0_stays) n (0, [x0, x1, x2, x3], [], s) Q := by
  refine tK rfl ?_
  refine tS [x0, x1, 1000000, x3] rfl rfl ?_
  refine tK rfl ?_
  refine tS [x0, x1, 1000000, 0] rfl rfl ?_
  exact zT_le (h0) (Nat.le_refl n)

theorem b_X0_stays_5 {n : Nat} {Q : Zr → Prop} (x0 x1 x2 x3 : Int) (s : Zs) 
    (h0 : ∀ (g1 : x1 ≤ x3), Q ([(x2, 0)], s))
    (h1 : ∀ (g1 : x3 < x1), ∀ m, m < n → zT (zE 4) (Pt PX0_stays) m (5, [x0, x1, zdiv (w32 (x2 * (w32 (10 - x0)))) 10, w32 (x3 + 1)], [], s) Q) : zT (zE 4) (Pt PX0_stays) n (5, [x0, x1, x2, x3], [], s) Q := by
  refine tL x3 0 rfl rfl rfl ?_
  refine tL x1 0 rfl rfl rfl ?_
  refine tJ3 rfl (fun g1 _ l1 => zT_le ?_ (Nat.le_of_lt l1)) (fun g1 _ l1 => zT_le ?_ (Nat.le_of_lt l1))
  · refine tL x2 0 rfl rfl rfl ?_
    exact tR rfl (h0 g1)
  · refine tL x2 0 rfl rfl rfl ?_
    refine tK rfl ?_
    refine tL x0 0 rfl rfl rfl ?_
    refine tB (v := w32 (10 - x0)) rfl rfl ?_
    refine tM (v := w32 (x2 * (w32 (10 - x0)))) rfl rfl ?_
    refine tK rfl ?_
    refine tB (v := zdiv (w32 (x2 * (w32 (10 - x0)))) 10) rfl rfl ?_
    refine tS [x0, x1, zdiv (w32 (x2 * (w32 (10 - x0)))) 10, x3] rfl rfl ?_
    refine tInc [x0, x1, zdiv (w32 (x2 * (w32 (10 - x0)))) 10, w32 (x3 + 1)] rfl rfl ?_
    exact tGb rfl (fun m2 l2 => h1 g1 m2 (Nat.lt_of_lt_of_le l2 (Nat.le_refl n)))

theorem c_X0_stays {n : Nat} {Q : Zr → Prop} {a0 a1 : Int} {s : Zs} (h : zT (zE 4) (Pt PX0_stays) n (0, [a0, a1, 0, 0], [], s) Q) : zC n 4 [(a0, 0), (a1, 0)] s Q := h

theorem b_X0_split_0 {n : Nat} {Q : Zr → Prop} (x1 x2 x3 x4 x5 x6 x7 : Int) (s : Zs) 
    (h0 : zT (zE 2) (Pt PX0_split) n (8, [((170 : Nat) : Int), x1, x2, x3, zshl 1 x1, 0, x6, x7], [], s) Q) : zT (zE 2) (Pt PX0_split) n (0, [((170 : Nat) : Int), x1, x2, x3, x4, x5, x6, x7], [], s) Q := by
  refine tK rfl ?_
  refine tL x1 0 rfl rfl rfl ?_
  refine tB (v := zshl 1 x1) rfl rfl ?_
  refine tS [((170 : Nat) : Int), x1, x2, x3, zshl 1 x1, x5, x6, x7] rfl rfl ?_
  refine tK rfl ?_
  refine tS [((170 : Nat) : Int), x1, x2, x3, zshl 1 x1, 0, x6, x7] rfl rfl ?_
  exact zT_le (h0) (Nat.le_refl n)

theorem b_X0_split_8 {n : Nat} {Q : Zr → Prop} (x1 x2 x3 x4 x5 x6 x7 : Int) (s : Zs) 
    (h0 : ∀ (g1 : x4 ≤ x5), Q ([], s))
    (h1 : ∀ (g1 : x5 < x4), ∀ m, m < n → zT (zE 2) (Pt PX0_split) m (8, [((170 : Nat) : Int), x1, x2, x3, x4, w32 (x5 + 1), s 171 x5.toNat, x7], [], zu (zu s 171 ((zor x5 x4).toNat) (zl2i (zdivL (w64 ((s 171 x5.toNat) * x2)) 1000000))) 171 x5.toNat (zl2i (zdivL (w64 ((s 171 x5.toNat) * (w64 (1000000 - x2)))) 1000000))) Q) : zT (zE 2) (Pt PX0_split) n (8, [((170 : Nat) : Int), x1, x2, x3, x4, x5, x6, x7], [], s) Q := by
  refine tL x5 0 rfl rfl rfl ?_
  refine tL x4 0 rfl rfl rfl ?_
  refine tJ3 rfl (fun g1 _ l1 => zT_le ?_ (Nat.le_of_lt l1)) (fun g1 _ l1 => zT_le ?_ (Nat.le_of_lt l1))
  · exact tR rfl (h0 g1)
  · refine tL ((170 : Nat) : Int) 0 rfl rfl rfl ?_
    refine tFR (c := 170) 171 rfl rfl rfl rfl rfl ?_
    refine tL x5 0 rfl rfl rfl ?_
    refine tAv 171 x5.toNat (s 171 x5.toNat) 0 rfl rfl rfl (by decide) rfl rfl ?_
    refine tU1 rfl ?_
    refine tS [((170 : Nat) : Int), x1, x2, x3, x4, x5, s 171 x5.toNat, x7] rfl rfl ?_
    refine tL ((170 : Nat) : Int) 0 rfl rfl rfl ?_
    refine tFR (c := 170) 171 rfl rfl rfl rfl rfl ?_
    refine tL x5 0 rfl rfl rfl ?_
    refine tL x4 0 rfl rfl rfl ?_
    refine tB (v := zor x5 x4) rfl rfl ?_
    refine tL (s 171 x5.toNat) 1 rfl rfl rfl ?_
    refine tL x2 1 rfl rfl rfl ?_
    refine tBL (v := w64 ((s 171 x5.toNat) * x2)) rfl rfl ?_
    refine tKL rfl ?_
    refine tBLd rfl ?_
    refine tLI rfl ?_
    refine tAS 171 ((zor x5 x4).toNat) rfl rfl rfl (by decide) ?_
    refine tL ((170 : Nat) : Int) 0 rfl rfl rfl ?_
    refine tFR (c := 170) 171 rfl rfl rfl rfl rfl ?_
    refine tL x5 0 rfl rfl rfl ?_
    refine tL (s 171 x5.toNat) 1 rfl rfl rfl ?_
    refine tKL rfl ?_
    refine tL x2 1 rfl rfl rfl ?_
    refine tBL (v := w64 (1000000 - x2)) rfl rfl ?_
    refine tBL (v := w64 ((s 171 x5.toNat) * (w64 (1000000 - x2)))) rfl rfl ?_
    refine tKL rfl ?_
    refine tBLd rfl ?_
    refine tLI rfl ?_
    refine tAS 171 x5.toNat rfl rfl rfl (by decide) ?_
    refine tInc [((170 : Nat) : Int), x1, x2, x3, x4, w32 (x5 + 1), s 171 x5.toNat, x7] rfl rfl ?_
    exact tGb rfl (fun m2 l2 => h1 g1 m2 (Nat.lt_of_lt_of_le l2 (Nat.le_refl n)))

theorem c_X0_split {n : Nat} {Q : Zr → Prop} {a0 a1 a2 : Int} {s : Zs} (h : zT (zE 2) (Pt PX0_split) n (0, [a0, a1, a2, 0, 0, 0, 0, 0], [], s) Q) : zC n 2 [(a0, 0), (a1, 0), (a2, 1)] s Q := h

theorem b_X0_addLarger_0 {n : Nat} {Q : Zr → Prop} (x1 x2 x3 : Int) (s : Zs) 
    (h0 : zT (zE 0) (Pt PX0_addLarger) n (2, [((170 : Nat) : Int), x1, x2, 0], [], s) Q) : zT (zE 0) (Pt PX0_addLarger) n (0, [((170 : Nat) : Int), x1, x2, x3], [], s) Q := by
  refine tK rfl ?_
  refine tS [((170 : Nat) : Int), x1, x2, 0] rfl rfl ?_
  exact zT_le (h0) (Nat.le_refl n)

theorem b_X0_addLarger_2 {n : Nat} {Q : Zr → Prop} (x1 x2 x3 : Int) (s : Zs) 
    (h0 : ∀ (g1 : x2 ≤ x3), Q ([], s))
    (h1 : ∀ (g1 : x3 < x2), ∀ (g2 : zand x3 x1 ≠ 0), ∀ m, m < n → zT (zE 0) (Pt PX0_addLarger) m (2, [((170 : Nat) : Int), x1, x2, w32 (x3 + 1)], [], s) Q)
    (h2 : ∀ (g1 : x3 < x2), ∀ (g2 : zand x3 x1 = 0), ∀ m, m < n → zT (zE 0) (Pt PX0_addLarger) m (2, [((170 : Nat) : Int), x1, x2, w32 (x3 + 1)], [], zu s 171 x3.toNat (w32 ((s 171 x3.toNat) + (s 171 ((zor x3 x1).toNat))))) Q) : zT (zE 0) (Pt PX0_addLarger) n (2, [((170 : Nat) : Int), x1, x2, x3], [], s) Q := by
  refine tL x3 0 rfl rfl rfl ?_
  refine tL x2 0 rfl rfl rfl ?_
  refine tJ3 rfl (fun g1 _ l1 => zT_le ?_ (Nat.le_of_lt l1)) (fun g1 _ l1 => zT_le ?_ (Nat.le_of_lt l1))
  · exact tR rfl (h0 g1)
  · refine tL x3 0 rfl rfl rfl ?_
    refine tL x1 0 rfl rfl rfl ?_
    refine tB (v := zand x3 x1) rfl rfl ?_
    refine tI1 rfl (fun g2 _ l2 => zT_le ?_ (Nat.le_of_lt l2)) (fun g2 _ l2 => zT_le ?_ (Nat.le_of_lt l2))
    · refine tInc [((170 : Nat) : Int), x1, x2, w32 (x3 + 1)] rfl rfl ?_
      exact tGb rfl (fun m2 l2 => h1 g1 g2 m2 (Nat.lt_of_lt_of_le l2 (Nat.le_refl n)))
    · refine tL ((170 : Nat) : Int) 0 rfl rfl rfl ?_
      refine tFR (c := 170) 171 rfl rfl rfl rfl rfl ?_
      refine tL x3 0 rfl rfl rfl ?_
      refine tD2 rfl ?_
      refine tAv 171 x3.toNat (s 171 x3.toNat) 0 rfl rfl rfl (by decide) rfl rfl ?_
      refine tL ((170 : Nat) : Int) 0 rfl rfl rfl ?_
      refine tFR (c := 170) 171 rfl rfl rfl rfl rfl ?_
      refine tL x3 0 rfl rfl rfl ?_
      refine tL x1 0 rfl rfl rfl ?_
      refine tB (v := zor x3 x1) rfl rfl ?_
      refine tAv 171 ((zor x3 x1).toNat) (s 171 ((zor x3 x1).toNat)) 0 rfl rfl rfl (by decide) rfl rfl ?_
      refine tB (v := w32 ((s 171 x3.toNat) + (s 171 ((zor x3 x1).toNat)))) rfl rfl ?_
      refine tAS 171 x3.toNat rfl rfl rfl (by decide) ?_
      refine tInc [((170 : Nat) : Int), x1, x2, w32 (x3 + 1)] rfl rfl ?_
      exact tGb rfl (fun m2 l2 => h2 g1 g2 m2 (Nat.lt_of_lt_of_le l2 (Nat.le_refl n)))

theorem c_X0_addLarger {n : Nat} {Q : Zr → Prop} {a0 a1 a2 : Int} {s : Zs} (h : zT (zE 0) (Pt PX0_addLarger) n (0, [a0, a1, a2, 0], [], s) Q) : zC n 0 [(a0, 0), (a1, 0), (a2, 0)] s Q := h

theorem b_X0_ofAll_0 {n : Nat} {Q : Zr → Prop} (x1 : Int) (s : Zs) 
    (h0 : ∀ (g1 : zand x1 (zxor (s 170 1) (-1)) ≠ 0), Q ([(0, 0)], s))
    (h1 : ∀ (g1 : zand x1 (zxor (s 170 1) (-1)) = 0), Q ([(s 171 x1.toNat, 0)], s)) : zT (zE 1) (Pt PX0_ofAll) n (0, [((170 : Nat) : Int), x1], [], s) Q := by
  refine tL x1 0 rfl rfl rfl ?_
  refine tL ((170 : Nat) : Int) 0 rfl rfl rfl ?_
  refine tFv (c := 170) (s 170 1) 0 rfl rfl rfl rfl rfl ?_
  refine tK rfl ?_
  refine tB (v := zxor (s 170 1) (-1)) rfl rfl ?_
  refine tB (v := zand x1 (zxor (s 170 1) (-1))) rfl rfl ?_
  refine tI1 rfl (fun g1 _ l1 => zT_le ?_ (Nat.le_of_lt l1)) (fun g1 _ l1 => zT_le ?_ (Nat.le_of_lt l1))
  · refine tK rfl ?_
    exact tR rfl (h0 g1)
  · refine tL ((170 : Nat) : Int) 0 rfl rfl rfl ?_
    refine tFR (c := 170) 171 rfl rfl rfl rfl rfl ?_
    refine tL x1 0 rfl rfl rfl ?_
    refine tAv 171 x1.toNat (s 171 x1.toNat) 0 rfl rfl rfl (by decide) rfl rfl ?_
    refine tG rfl ?_
    exact tR rfl (h1 g1)

theorem c_X0_ofAll {n : Nat} {Q : Zr → Prop} {a0 a1 : Int} {s : Zs} (h : zT (zE 1) (Pt PX0_ofAll) n (0, [a0, a1], [], s) Q) : zC n 1 [(a0, 0), (a1, 0)] s Q := h

theorem b_X0_spread_0 {n : Nat} {Q : Zr → Prop} {t : Nat} (x2 x3 x4 x5 : Int) (s : Zs) (ht : t = 7 ∨ t = 43)
    (h0 : zT (zE 3) (Pt PX0_spread) n (16, [((170 : Nat) : Int), ((t : Nat) : Int), x2, x3, 0, x5], [], zu (zu s 170 1 x2) 171 0 1000000) Q) : zT (zE 3) (Pt PX0_spread) n (0, [((170 : Nat) : Int), ((t : Nat) : Int), x2, x3, x4, x5], [], s) Q := by
  refine tL ((170 : Nat) : Int) 0 rfl rfl rfl ?_
  refine tL x2 0 rfl rfl rfl ?_
  refine tPut 170 rfl rfl ?_
  refine tL ((170 : Nat) : Int) 0 rfl rfl rfl ?_
  refine tFR (c := 170) 171 rfl rfl rfl rfl rfl ?_
  refine tK rfl ?_
  refine tK rfl ?_
  refine tAS 171 0 rfl rfl rfl (by decide) ?_
  refine tK rfl ?_
  refine tS [((170 : Nat) : Int), ((t : Nat) : Int), x2, x3, 0, x5] rfl rfl ?_
  exact zT_le (h0) (Nat.le_refl n)

theorem b_X0_spread_16 {n : Nat} {Q : Zr → Prop} {t : Nat} (x2 x3 x4 x5 : Int) (s : Zs) (ht : t = 7 ∨ t = 43)
    (h0 : ∀ (g1 : s (t + 1) 1 ≤ x4), zT (zE 3) (Pt PX0_spread) n (82, [((170 : Nat) : Int), ((t : Nat) : Int), x2, x3, 0, x5], [], s) Q)
    (h1 : ∀ (g1 : x4 < s (t + 1) 1), ∀ (g2 : zand (zshr x2 x4) 1 ≠ 1), ∀ m, m < n → zC m 2 [(((170 : Nat) : Int), 0), (x4, 0), (0, 1)] s (fun p => zT (zE 3) (Pt PX0_spread) m (73, [((170 : Nat) : Int), ((t : Nat) : Int), x2, x3, x4, 0], p.1 ++ [], p.2) Q))
    (h2 : ∀ (g1 : x4 < s (t + 1) 1), ∀ (g2 : zand (zshr x2 x4) 1 = 1), ∀ m, m < n → zC m 4 [(s (zrho (t + 12) x4.toNat) 3, 0), (x3, 0)] s (fun p => zT (zE 3) (Pt PX0_spread) m (65, [((170 : Nat) : Int), ((t : Nat) : Int), x2, x3, x4, 1], p.1 ++ [(x4, 0), (((170 : Nat) : Int), 0)], p.2) Q)) : zT (zE 3) (Pt PX0_spread) n (16, [((170 : Nat) : Int), ((t : Nat) : Int), x2, x3, x4, x5], [], s) Q := by
  refine tL x4 0 rfl rfl rfl ?_
  refine tL ((t : Nat) : Int) 0 rfl rfl rfl ?_
  refine tFR (c := t) (t + 1) rfl rfl rfl rfl (zt8_0 ht) ?_
  refine tK rfl ?_
  refine tAv (t + 1) 1 (s (t + 1) 1) 0 rfl rfl rfl (by decide) rfl rfl ?_
  refine tJ3 rfl (fun g1 _ l1 => zT_le ?_ (Nat.le_of_lt l1)) (fun g1 _ l1 => zT_le ?_ (Nat.le_of_lt l1))
  · refine tK rfl ?_
    refine tS [((170 : Nat) : Int), ((t : Nat) : Int), x2, x3, 0, x5] rfl rfl ?_
    exact zT_le (h0 g1) (Nat.le_refl n)
  · refine tL x2 0 rfl rfl rfl ?_
    refine tL x4 0 rfl rfl rfl ?_
    refine tB (v := zshr x2 x4) rfl rfl ?_
    refine tK rfl ?_
    refine tB (v := zand (zshr x2 x4) 1) rfl rfl ?_
    refine tK rfl ?_
    refine tJ1 rfl (fun g2 _ l2 => zT_le ?_ (Nat.le_of_lt l2)) (fun g2 _ l2 => zT_le ?_ (Nat.le_of_lt l2))
    · refine tK rfl ?_
      refine tS [((170 : Nat) : Int), ((t : Nat) : Int), x2, x3, x4, 0] rfl rfl ?_
      refine tL ((170 : Nat) : Int) 0 rfl rfl rfl ?_
      refine tL x4 0 rfl rfl rfl ?_
      refine tL 0 0 rfl rfl rfl ?_
      refine tI0 rfl (fun g _ l => zT_le ?_ (Nat.le_of_lt l)) (fun g _ l => (absurd g (by decide)))
      refine tKL rfl ?_
      exact tCall [(((170 : Nat) : Int), 0), (x4, 0), (0, 1)] [] rfl rfl rfl (fun m l => h1 g1 g2 m (Nat.lt_of_lt_of_le l (Nat.le_refl n)))
    · refine tK rfl ?_
      refine tG rfl ?_
      refine tS [((170 : Nat) : Int), ((t : Nat) : Int), x2, x3, x4, 1] rfl rfl ?_
      refine tL ((170 : Nat) : Int) 0 rfl rfl rfl ?_
      refine tL x4 0 rfl rfl rfl ?_
      refine tL 1 0 rfl rfl rfl ?_
      refine tI0 rfl (fun g _ l => (absurd g (by decide))) (fun g _ l => zT_le ?_ (Nat.le_of_lt l))
      refine tL ((t : Nat) : Int) 0 rfl rfl rfl ?_
      refine tFR (c := t) (t + 12) rfl rfl rfl rfl (zt8_1 ht) ?_
      refine tL x4 0 rfl rfl rfl ?_
      refine tAR (zrho (t + 12) x4.toNat) rfl rfl ?_
      refine tK rfl ?_
      refine tAv (zrho (t + 12) x4.toNat) 3 (s (zrho (t + 12) x4.toNat) 3) 0 rfl rfl rfl (by decide) rfl rfl ?_
      refine tL x3 0 rfl rfl rfl ?_
      exact tCall [(s (zrho (t + 12) x4.toNat) 3, 0), (x3, 0)] [(x4, 0), (((170 : Nat) : Int), 0)] rfl rfl rfl (fun m l => h2 g1 g2 m (Nat.lt_of_lt_of_le l (Nat.le_refl n)))

theorem b_X0_spread_82 {n : Nat} {Q : Zr → Prop} {t : Nat} (x2 x3 x4 x5 : Int) (s : Zs) (ht : t = 7 ∨ t = 43)
    (h0 : ∀ (g1 : s (t + 1) 1 ≤ x4), Q ([], s))
    (h1 : ∀ (g1 : x4 < s (t + 1) 1), ∀ m, m < n → zC m 0 [(((170 : Nat) : Int), 0), (zshl 1 x4, 0), (zshl 1 (s (t + 1) 1), 0)] s (fun p => zT (zE 3) (Pt PX0_spread) m (109, [((170 : Nat) : Int), ((t : Nat) : Int), x2, x3, x4, x5], p.1 ++ [], p.2) Q)) : zT (zE 3) (Pt PX0_spread) n (82, [((170 : Nat) : Int), ((t : Nat) : Int), x2, x3, x4, x5], [], s) Q := by
  refine tL x4 0 rfl rfl rfl ?_
  refine tL ((t : Nat) : Int) 0 rfl rfl rfl ?_
  refine tFR (c := t) (t + 1) rfl rfl rfl rfl (zt8_0 ht) ?_
  refine tK rfl ?_
  refine tAv (t + 1) 1 (s (t + 1) 1) 0 rfl rfl rfl (by decide) rfl rfl ?_
  refine tJ3 rfl (fun g1 _ l1 => zT_le ?_ (Nat.le_of_lt l1)) (fun g1 _ l1 => zT_le ?_ (Nat.le_of_lt l1))
  · exact tR rfl (h0 g1)
  · refine tL ((170 : Nat) : Int) 0 rfl rfl rfl ?_
    refine tK rfl ?_
    refine tL x4 0 rfl rfl rfl ?_
    refine tB (v := zshl 1 x4) rfl rfl ?_
    refine tK rfl ?_
    refine tL ((t : Nat) : Int) 0 rfl rfl rfl ?_
    refine tFR (c := t) (t + 1) rfl rfl rfl rfl (zt8_0 ht) ?_
    refine tK rfl ?_
    refine tAv (t + 1) 1 (s (t + 1) 1) 0 rfl rfl rfl (by decide) rfl rfl ?_
    refine tB (v := zshl 1 (s (t + 1) 1)) rfl rfl ?_
    exact tCall [(((170 : Nat) : Int), 0), (zshl 1 x4, 0), (zshl 1 (s (t + 1) 1), 0)] [] rfl rfl rfl (fun m l => h1 g1 m (Nat.lt_of_lt_of_le l (Nat.le_refl n)))

theorem b_X0_spread_73 {n : Nat} {Q : Zr → Prop} {t : Nat} (x2 x3 x4 x5 : Int) (s : Zs) (ht : t = 7 ∨ t = 43)
    (h0 : ∀ m, m < n → zT (zE 3) (Pt PX0_spread) m (16, [((170 : Nat) : Int), ((t : Nat) : Int), x2, x3, w32 (x4 + 1), x5], [], s) Q) : zT (zE 3) (Pt PX0_spread) n (73, [((170 : Nat) : Int), ((t : Nat) : Int), x2, x3, x4, x5], [], s) Q := by
  refine tInc [((170 : Nat) : Int), ((t : Nat) : Int), x2, x3, w32 (x4 + 1), x5] rfl rfl ?_
  exact tGb rfl (fun m2 l2 => h0 m2 (Nat.lt_of_lt_of_le l2 (Nat.le_refl n)))

theorem b_X0_spread_65 {n : Nat} {Q : Zr → Prop} {t : Nat} (x2 x3 x4 x5 v0 y0 : Int) (s : Zs) (ht : t = 7 ∨ t = 43)
    (h0 : ∀ m, m < n → zC m 2 [(((170 : Nat) : Int), 0), (y0, 0), (v0, 1)] s (fun p => zT (zE 3) (Pt PX0_spread) m (73, [((170 : Nat) : Int), ((t : Nat) : Int), x2, x3, x4, x5], p.1 ++ [], p.2) Q)) : zT (zE 3) (Pt PX0_spread) n (65, [((170 : Nat) : Int), ((t : Nat) : Int), x2, x3, x4, x5], [(v0, 0), (y0, 0), (((170 : Nat) : Int), 0)], s) Q := by
  refine tU1 rfl ?_
  refine tG rfl ?_
  exact tCall [(((170 : Nat) : Int), 0), (y0, 0), (v0, 1)] [] rfl rfl rfl (fun m l => h0 m (Nat.lt_of_lt_of_le l (Nat.le_refl n)))

theorem b_X0_spread_109 {n : Nat} {Q : Zr → Prop} {t : Nat} (x2 x3 x4 x5 : Int) (s : Zs) (ht : t = 7 ∨ t = 43)
    (h0 : ∀ m, m < n → zT (zE 3) (Pt PX0_spread) m (82, [((170 : Nat) : Int), ((t : Nat) : Int), x2, x3, w32 (x4 + 1), x5], [], s) Q) : zT (zE 3) (Pt PX0_spread) n (109, [((170 : Nat) : Int), ((t : Nat) : Int), x2, x3, x4, x5], [], s) Q := by
  refine tInc [((170 : Nat) : Int), ((t : Nat) : Int), x2, x3, w32 (x4 + 1), x5] rfl rfl ?_
  exact tGb rfl (fun m2 l2 => h0 m2 (Nat.lt_of_lt_of_le l2 (Nat.le_refl n)))

theorem c_X0_spread {n : Nat} {Q : Zr → Prop} {a0 a1 a2 a3 : Int} {s : Zs} (h : zT (zE 3) (Pt PX0_spread) n (0, [a0, a1, a2, a3, 0, 0], [], s) Q) : zC n 3 [(a0, 0), (a1, 0), (a2, 0), (a3, 0)] s Q := h

theorem b_X10_live_0 {n : Nat} {Q : Zr → Prop} {t : Nat} (x1 x2 x3 : Int) (s : Zs) (ht : t = 7 ∨ t = 43)
    (h0 : ∀ m, m < n → zC m 1034 [(s 0 3, 0), (3, 0), (x1, 0)] s (fun p => zT (zE 1301) (Pt PX10_live) m (9, [((0 : Nat) : Int), x1, x2, x3], p.1 ++ [], p.2) Q)) : zT (zE 1301) (Pt PX10_live) n (0, [((0 : Nat) : Int), x1, x2, x3], [], s) Q := by
  refine tL ((0 : Nat) : Int) 0 rfl rfl rfl ?_
  refine tFv (c := 0) (s 0 3) 0 rfl rfl rfl rfl rfl ?_
  refine tK rfl ?_
  refine tL x1 0 rfl rfl rfl ?_
  exact tCall [(s 0 3, 0), (3, 0), (x1, 0)] [] rfl rfl rfl (fun m l => h0 m (Nat.lt_of_lt_of_le l (Nat.le_refl n)))

theorem b_X10_live_9 {n : Nat} {Q : Zr → Prop} {t : Nat} (x1 x2 x3 v0 : Int) (s : Zs) (ht : t = 7 ∨ t = 43)
    (h0 : ∀ (g1 : v0 = 0), Q ([((-1), 0)], s))
    (h1 : ∀ (g1 : v0 ≠ 0), ∀ m, m < n → zC m 1036 [(s 0 3, 0), (x2, 0)] s (fun p => zT (zE 1301) (Pt PX10_live) m (20, [((0 : Nat) : Int), x1, x2, x3], p.1 ++ [], p.2) Q)) : zT (zE 1301) (Pt PX10_live) n (9, [((0 : Nat) : Int), x1, x2, x3], [(v0, 0)], s) Q := by
  refine tI0 rfl (fun g1 _ l1 => zT_le ?_ (Nat.le_of_lt l1)) (fun g1 _ l1 => zT_le ?_ (Nat.le_of_lt l1))
  · refine tK rfl ?_
    exact tR rfl (h0 g1)
  · refine tL ((0 : Nat) : Int) 0 rfl rfl rfl ?_
    refine tFv (c := 0) (s 0 3) 0 rfl rfl rfl rfl rfl ?_
    refine tL x2 0 rfl rfl rfl ?_
    exact tCall [(s 0 3, 0), (x2, 0)] [] rfl rfl rfl (fun m l => h1 g1 m (Nat.lt_of_lt_of_le l (Nat.le_refl n)))

theorem b_X10_live_20 {n : Nat} {Q : Zr → Prop} {t : Nat} (x1 x2 x3 v0 : Int) (s : Zs) (ht : t = 7 ∨ t = 43)
    (h0 : ∀ (g1 : v0 = 0), Q ([((-1), 0)], s))
    (h1 : ∀ (g1 : v0 ≠ 0), ∀ (g2 : x3 < 1), Q ([((-1), 0)], s))
    (h2 : ∀ (g1 : v0 ≠ 0), ∀ (g2 : 1 ≤ x3), ∀ (g3 : x3 ≤ 9), ∀ m, m < n → zC m 3 [(((170 : Nat) : Int), 0), (s 0 3, 0), (s 79 0, 0), (x3, 0)] s (fun p => zT (zE 1301) (Pt PX10_live) m (55, [((0 : Nat) : Int), x1, x2, x3], p.1 ++ [], p.2) Q))
    (h3 : ∀ (g1 : v0 ≠ 0), ∀ (g2 : 1 ≤ x3), ∀ (g3 : 9 < x3), Q ([((-1), 0)], s)) : zT (zE 1301) (Pt PX10_live) n (20, [((0 : Nat) : Int), x1, x2, x3], [(v0, 0)], s) Q := by
  refine tI0 rfl (fun g1 _ l1 => zT_le ?_ (Nat.le_of_lt l1)) (fun g1 _ l1 => zT_le ?_ (Nat.le_of_lt l1))
  · refine tK rfl ?_
    exact tR rfl (h0 g1)
  · refine tL x3 0 rfl rfl rfl ?_
    refine tK rfl ?_
    refine tJ2 rfl (fun g2 _ l2 => zT_le ?_ (Nat.le_of_lt l2)) (fun g2 _ l2 => zT_le ?_ (Nat.le_of_lt l2))
    · refine tK rfl ?_
      exact tR rfl (h1 g1 g2)
    · refine tL x3 0 rfl rfl rfl ?_
      refine tK rfl ?_
      refine tJ5 rfl (fun g3 _ l3 => zT_le ?_ (Nat.le_of_lt l3)) (fun g3 _ l3 => zT_le ?_ (Nat.le_of_lt l3))
      · refine tL ((0 : Nat) : Int) 0 rfl rfl rfl ?_
        refine tFR (c := 0) 170 rfl rfl rfl rfl rfl ?_
        refine tL ((0 : Nat) : Int) 0 rfl rfl rfl ?_
        refine tFv (c := 0) (s 0 3) 0 rfl rfl rfl rfl rfl ?_
        refine tL ((0 : Nat) : Int) 0 rfl rfl rfl ?_
        refine tFR (c := 0) 79 rfl rfl rfl rfl rfl ?_
        refine tFv (c := 79) (s 79 0) 0 rfl rfl rfl rfl rfl ?_
        refine tL x3 0 rfl rfl rfl ?_
        exact tCall [(((170 : Nat) : Int), 0), (s 0 3, 0), (s 79 0, 0), (x3, 0)] [] rfl rfl rfl (fun m l => h2 g1 g2 g3 m (Nat.lt_of_lt_of_le l (Nat.le_refl n)))
      · refine tK rfl ?_
        exact tR rfl (h3 g1 g2 g3)

theorem b_X10_live_55 {n : Nat} {Q : Zr → Prop} {t : Nat} (x1 x2 x3 : Int) (s : Zs) (ht : t = 7 ∨ t = 43)
    (h0 : ∀ m, m < n → zC m 776 [(((79 : Nat) : Int), 0), (s 0 3, 0), (x1, 0), (x2, 0)] s (fun p => zT (zE 1301) (Pt PX10_live) m (72, [((0 : Nat) : Int), x1, x2, x3], p.1 ++ [(((170 : Nat) : Int), 0)], p.2) Q)) : zT (zE 1301) (Pt PX10_live) n (55, [((0 : Nat) : Int), x1, x2, x3], [], s) Q := by
  refine tL ((0 : Nat) : Int) 0 rfl rfl rfl ?_
  refine tFR (c := 0) 170 rfl rfl rfl rfl rfl ?_
  refine tL ((0 : Nat) : Int) 0 rfl rfl rfl ?_
  refine tFR (c := 0) 79 rfl rfl rfl rfl rfl ?_
  refine tL ((0 : Nat) : Int) 0 rfl rfl rfl ?_
  refine tFv (c := 0) (s 0 3) 0 rfl rfl rfl rfl rfl ?_
  refine tL x1 0 rfl rfl rfl ?_
  refine tL x2 0 rfl rfl rfl ?_
  exact tCall [(((79 : Nat) : Int), 0), (s 0 3, 0), (x1, 0), (x2, 0)] [(((170 : Nat) : Int), 0)] rfl rfl rfl (fun m l => h0 m (Nat.lt_of_lt_of_le l (Nat.le_refl n)))

theorem b_X10_live_72 {n : Nat} {Q : Zr → Prop} {t : Nat} (x1 x2 x3 v0 : Int) (s : Zs) (ht : t = 7 ∨ t = 43)
    (h0 : ∀ m, m < n → zC m 1 [(((170 : Nat) : Int), 0), (v0, 0)] s (fun p => zT (zE 1301) (Pt PX10_live) m (75, [((0 : Nat) : Int), x1, x2, x3], p.1 ++ [], p.2) Q)) : zT (zE 1301) (Pt PX10_live) n (72, [((0 : Nat) : Int), x1, x2, x3], [(v0, 0), (((170 : Nat) : Int), 0)], s) Q := by
  exact tCall [(((170 : Nat) : Int), 0), (v0, 0)] [] rfl rfl rfl (fun m l => h0 m (Nat.lt_of_lt_of_le l (Nat.le_refl n)))

theorem b_X10_live_75 {n : Nat} {Q : Zr → Prop} {t : Nat} (x1 x2 x3 v0 : Int) (s : Zs) (ht : t = 7 ∨ t = 43)
    (h0 : Q ([(v0, 0)], s)) : zT (zE 1301) (Pt PX10_live) n (75, [((0 : Nat) : Int), x1, x2, x3], [(v0, 0)], s) Q := by
  exact tR rfl (h0)

theorem c_X10_live {n : Nat} {Q : Zr → Prop} {a0 a1 a2 a3 : Int} {s : Zs} (h : zT (zE 1301) (Pt PX10_live) n (0, [a0, a1, a2, a3], [], s) Q) : zC n 1301 [(a0, 0), (a1, 0), (a2, 0), (a3, 0)] s Q := h

theorem b_X10_best_0 {n : Nat} {Q : Zr → Prop} {t : Nat} (x1 x2 x3 x4 x5 x6 x7 : Int) (s : Zs) (ht : t = 7 ∨ t = 43)
    (h0 : ∀ m, m < n → zC m 1034 [(s 0 3, 0), (3, 0), (x1, 0)] s (fun p => zT (zE 1283) (Pt PX10_best) m (9, [((0 : Nat) : Int), x1, x2, x3, x4, x5, x6, x7], p.1 ++ [], p.2) Q)) : zT (zE 1283) (Pt PX10_best) n (0, [((0 : Nat) : Int), x1, x2, x3, x4, x5, x6, x7], [], s) Q := by
  refine tL ((0 : Nat) : Int) 0 rfl rfl rfl ?_
  refine tFv (c := 0) (s 0 3) 0 rfl rfl rfl rfl rfl ?_
  refine tK rfl ?_
  refine tL x1 0 rfl rfl rfl ?_
  exact tCall [(s 0 3, 0), (3, 0), (x1, 0)] [] rfl rfl rfl (fun m l => h0 m (Nat.lt_of_lt_of_le l (Nat.le_refl n)))

theorem b_X10_best_67 {n : Nat} {Q : Zr → Prop} {t : Nat} (x1 x2 x3 x4 x5 x6 x7 : Int) (s : Zs) (ht : t = 7 ∨ t = 43)
    (h0 : ∀ (g1 : 30 ≤ x6), Q ([(x5, 0)], s))
    (h1 : ∀ (g1 : x6 < 30), ∀ m, m < n → zC m 1036 [(s 0 3, 0), (x6, 0)] s (fun p => zT (zE 1283) (Pt PX10_best) m (83, [((0 : Nat) : Int), x1, x2, x3, x4, x5, x6, x7], p.1 ++ [], p.2) Q)) : zT (zE 1283) (Pt PX10_best) n (67, [((0 : Nat) : Int), x1, x2, x3, x4, x5, x6, x7], [], s) Q := by
  refine tL x6 0 rfl rfl rfl ?_
  refine tK rfl ?_
  refine tJ3 rfl (fun g1 _ l1 => zT_le ?_ (Nat.le_of_lt l1)) (fun g1 _ l1 => zT_le ?_ (Nat.le_of_lt l1))
  · refine tL x5 0 rfl rfl rfl ?_
    exact tR rfl (h0 g1)
  · refine tL ((0 : Nat) : Int) 0 rfl rfl rfl ?_
    refine tFv (c := 0) (s 0 3) 0 rfl rfl rfl rfl rfl ?_
    refine tL x6 0 rfl rfl rfl ?_
    exact tCall [(s 0 3, 0), (x6, 0)] [] rfl rfl rfl (fun m l => h1 g1 m (Nat.lt_of_lt_of_le l (Nat.le_refl n)))

theorem b_X10_best_9 {n : Nat} {Q : Zr → Prop} {t : Nat} (x1 x2 x3 x4 x5 x6 x7 v0 : Int) (s : Zs) (ht : t = 7 ∨ t = 43)
    (h0 : ∀ (g1 : v0 = 0), Q ([((-1), 0)], s))
    (h1 : ∀ (g1 : v0 ≠ 0), ∀ (g2 : x2 < 1), Q ([((-1), 0)], s))
    (h2 : ∀ (g1 : v0 ≠ 0), ∀ (g2 : 1 ≤ x2), ∀ (g3 : x2 ≤ 9), ∀ m, m < n → zC m 3 [(((170 : Nat) : Int), 0), (s 0 3, 0), (s 79 0, 0), (x2, 0)] s (fun p => zT (zE 1283) (Pt PX10_best) m (44, [((0 : Nat) : Int), x1, x2, x3, x4, x5, x6, x7], p.1 ++ [], p.2) Q))
    (h3 : ∀ (g1 : v0 ≠ 0), ∀ (g2 : 1 ≤ x2), ∀ (g3 : 9 < x2), Q ([((-1), 0)], s)) : zT (zE 1283) (Pt PX10_best) n (9, [((0 : Nat) : Int), x1, x2, x3, x4, x5, x6, x7], [(v0, 0)], s) Q := by
  refine tI0 rfl (fun g1 _ l1 => zT_le ?_ (Nat.le_of_lt l1)) (fun g1 _ l1 => zT_le ?_ (Nat.le_of_lt l1))
  · refine tK rfl ?_
    exact tR rfl (h0 g1)
  · refine tL x2 0 rfl rfl rfl ?_
    refine tK rfl ?_
    refine tJ2 rfl (fun g2 _ l2 => zT_le ?_ (Nat.le_of_lt l2)) (fun g2 _ l2 => zT_le ?_ (Nat.le_of_lt l2))
    · refine tK rfl ?_
      exact tR rfl (h1 g1 g2)
    · refine tL x2 0 rfl rfl rfl ?_
      refine tK rfl ?_
      refine tJ5 rfl (fun g3 _ l3 => zT_le ?_ (Nat.le_of_lt l3)) (fun g3 _ l3 => zT_le ?_ (Nat.le_of_lt l3))
      · refine tL ((0 : Nat) : Int) 0 rfl rfl rfl ?_
        refine tFR (c := 0) 170 rfl rfl rfl rfl rfl ?_
        refine tL ((0 : Nat) : Int) 0 rfl rfl rfl ?_
        refine tFv (c := 0) (s 0 3) 0 rfl rfl rfl rfl rfl ?_
        refine tL ((0 : Nat) : Int) 0 rfl rfl rfl ?_
        refine tFR (c := 0) 79 rfl rfl rfl rfl rfl ?_
        refine tFv (c := 79) (s 79 0) 0 rfl rfl rfl rfl rfl ?_
        refine tL x2 0 rfl rfl rfl ?_
        exact tCall [(((170 : Nat) : Int), 0), (s 0 3, 0), (s 79 0, 0), (x2, 0)] [] rfl rfl rfl (fun m l => h2 g1 g2 g3 m (Nat.lt_of_lt_of_le l (Nat.le_refl n)))
      · refine tK rfl ?_
        exact tR rfl (h3 g1 g2 g3)

theorem b_X10_best_83 {n : Nat} {Q : Zr → Prop} {t : Nat} (x1 x2 x3 x4 x5 x6 x7 v0 : Int) (s : Zs) (ht : t = 7 ∨ t = 43)
    (h0 : ∀ (g1 : v0 = 0), ∀ m, m < n → zT (zE 1283) (Pt PX10_best) m (67, [((0 : Nat) : Int), x1, x2, x3, x4, x5, w32 (x6 + 1), x7], [], s) Q)
    (h1 : ∀ (g1 : v0 ≠ 0), ∀ m, m < n → zC m 1043 [(s 0 3, 0), (x6, 0), (s (zrho (zrho ((s 0 3).toNat) 3) x1.toNat) 3, 0)] s (fun p => zT (zE 1283) (Pt PX10_best) m (110, [((0 : Nat) : Int), x1, x2, x3, x4, x5, x6, x7], p.1 ++ [(((170 : Nat) : Int), 0)], p.2) Q)) : zT (zE 1283) (Pt PX10_best) n (83, [((0 : Nat) : Int), x1, x2, x3, x4, x5, x6, x7], [(v0, 0)], s) Q := by
  refine tI0 rfl (fun g1 _ l1 => zT_le ?_ (Nat.le_of_lt l1)) (fun g1 _ l1 => zT_le ?_ (Nat.le_of_lt l1))
  · refine tInc [((0 : Nat) : Int), x1, x2, x3, x4, x5, w32 (x6 + 1), x7] rfl rfl ?_
    exact tGb rfl (fun m2 l2 => h0 g1 m2 (Nat.lt_of_lt_of_le l2 (Nat.le_refl n)))
  · refine tL ((0 : Nat) : Int) 0 rfl rfl rfl ?_
    refine tFR (c := 0) 170 rfl rfl rfl rfl rfl ?_
    refine tL ((0 : Nat) : Int) 0 rfl rfl rfl ?_
    refine tFv (c := 0) (s 0 3) 0 rfl rfl rfl rfl rfl ?_
    refine tL x6 0 rfl rfl rfl ?_
    refine tL ((0 : Nat) : Int) 0 rfl rfl rfl ?_
    refine tFv (c := 0) (s 0 3) 0 rfl rfl rfl rfl rfl ?_
    refine tFR (c := (s 0 3).toNat) (zrho ((s 0 3).toNat) 3) rfl rfl rfl rfl rfl ?_
    refine tL x1 0 rfl rfl rfl ?_
    refine tAR (zrho (zrho ((s 0 3).toNat) 3) x1.toNat) rfl rfl ?_
    refine tK rfl ?_
    refine tAv (zrho (zrho ((s 0 3).toNat) 3) x1.toNat) 3 (s (zrho (zrho ((s 0 3).toNat) 3) x1.toNat) 3) 0 rfl rfl rfl (by decide) rfl rfl ?_
    exact tCall [(s 0 3, 0), (x6, 0), (s (zrho (zrho ((s 0 3).toNat) 3) x1.toNat) 3, 0)] [(((170 : Nat) : Int), 0)] rfl rfl rfl (fun m l => h1 g1 m (Nat.lt_of_lt_of_le l (Nat.le_refl n)))

theorem b_X10_best_44 {n : Nat} {Q : Zr → Prop} {t : Nat} (x1 x2 x3 x4 x5 x6 x7 : Int) (s : Zs) (ht : t = 7 ∨ t = 43)
    (h0 : ∀ m, m < n → zC m 771 [(((79 : Nat) : Int), 0), (s 0 3, 0), (x1, 0), ((-1), 0)] s (fun p => zT (zE 1283) (Pt PX10_best) m (57, [((0 : Nat) : Int), x1, x2, x3, x4, x5, x6, x7], p.1 ++ [], p.2) Q)) : zT (zE 1283) (Pt PX10_best) n (44, [((0 : Nat) : Int), x1, x2, x3, x4, x5, x6, x7], [], s) Q := by
  refine tL ((0 : Nat) : Int) 0 rfl rfl rfl ?_
  refine tFR (c := 0) 79 rfl rfl rfl rfl rfl ?_
  refine tL ((0 : Nat) : Int) 0 rfl rfl rfl ?_
  refine tFv (c := 0) (s 0 3) 0 rfl rfl rfl rfl rfl ?_
  refine tL x1 0 rfl rfl rfl ?_
  refine tK rfl ?_
  exact tCall [(((79 : Nat) : Int), 0), (s 0 3, 0), (x1, 0), ((-1), 0)] [] rfl rfl rfl (fun m l => h0 m (Nat.lt_of_lt_of_le l (Nat.le_refl n)))

theorem b_X10_best_110 {n : Nat} {Q : Zr → Prop} {t : Nat} (x1 x2 x3 x4 x5 x6 x7 v0 : Int) (s : Zs) (ht : t = 7 ∨ t = 43)
    (h0 : ∀ m, m < n → zC m 1 [(((170 : Nat) : Int), 0), (zand v0 (zxor x3 (-1)), 0)] s (fun p => zT (zE 1283) (Pt PX10_best) m (117, [((0 : Nat) : Int), x1, x2, x3, x4, x5, x6, x7], p.1 ++ [], p.2) Q)) : zT (zE 1283) (Pt PX10_best) n (110, [((0 : Nat) : Int), x1, x2, x3, x4, x5, x6, x7], [(v0, 0), (((170 : Nat) : Int), 0)], s) Q := by
  refine tL x3 0 rfl rfl rfl ?_
  refine tK rfl ?_
  refine tB (v := zxor x3 (-1)) rfl rfl ?_
  refine tB (v := zand v0 (zxor x3 (-1))) rfl rfl ?_
  exact tCall [(((170 : Nat) : Int), 0), (zand v0 (zxor x3 (-1)), 0)] [] rfl rfl rfl (fun m l => h0 m (Nat.lt_of_lt_of_le l (Nat.le_refl n)))

theorem b_X10_best_57 {n : Nat} {Q : Zr → Prop} {t : Nat} (x1 x2 x3 x4 x5 x6 x7 v0 : Int) (s : Zs) (ht : t = 7 ∨ t = 43)
    (h0 : zT (zE 1283) (Pt PX10_best) n (67, [((0 : Nat) : Int), x1, x2, v0, (-1), (-1), 0, x7], [], s) Q) : zT (zE 1283) (Pt PX10_best) n (57, [((0 : Nat) : Int), x1, x2, x3, x4, x5, x6, x7], [(v0, 0)], s) Q := by
  refine tS [((0 : Nat) : Int), x1, x2, v0, x4, x5, x6, x7] rfl rfl ?_
  refine tK rfl ?_
  refine tS [((0 : Nat) : Int), x1, x2, v0, (-1), x5, x6, x7] rfl rfl ?_
  refine tK rfl ?_
  refine tS [((0 : Nat) : Int), x1, x2, v0, (-1), (-1), x6, x7] rfl rfl ?_
  refine tK rfl ?_
  refine tS [((0 : Nat) : Int), x1, x2, v0, (-1), (-1), 0, x7] rfl rfl ?_
  exact zT_le (h0) (Nat.le_refl n)

theorem b_X10_best_117 {n : Nat} {Q : Zr → Prop} {t : Nat} (x1 x2 x3 x4 x5 x6 x7 v0 : Int) (s : Zs) (ht : t = 7 ∨ t = 43)
    (h0 : ∀ (g1 : v0 ≤ x4), ∀ m, m < n → zT (zE 1283) (Pt PX10_best) m (67, [((0 : Nat) : Int), x1, x2, x3, x4, x5, w32 (x6 + 1), v0], [], s) Q)
    (h1 : ∀ (g1 : x4 < v0), ∀ m, m < n → zT (zE 1283) (Pt PX10_best) m (67, [((0 : Nat) : Int), x1, x2, x3, v0, x6, w32 (x6 + 1), v0], [], s) Q) : zT (zE 1283) (Pt PX10_best) n (117, [((0 : Nat) : Int), x1, x2, x3, x4, x5, x6, x7], [(v0, 0)], s) Q := by
  refine tS [((0 : Nat) : Int), x1, x2, x3, x4, x5, x6, v0] rfl rfl ?_
  refine tL v0 0 rfl rfl rfl ?_
  refine tL x4 0 rfl rfl rfl ?_
  refine tJ5 rfl (fun g1 _ l1 => zT_le ?_ (Nat.le_of_lt l1)) (fun g1 _ l1 => zT_le ?_ (Nat.le_of_lt l1))
  · refine tInc [((0 : Nat) : Int), x1, x2, x3, x4, x5, w32 (x6 + 1), v0] rfl rfl ?_
    exact tGb rfl (fun m2 l2 => h0 g1 m2 (Nat.lt_of_lt_of_le l2 (Nat.le_refl n)))
  · refine tL v0 0 rfl rfl rfl ?_
    refine tS [((0 : Nat) : Int), x1, x2, x3, v0, x5, x6, v0] rfl rfl ?_
    refine tL x6 0 rfl rfl rfl ?_
    refine tS [((0 : Nat) : Int), x1, x2, x3, v0, x6, x6, v0] rfl rfl ?_
    refine tInc [((0 : Nat) : Int), x1, x2, x3, v0, x6, w32 (x6 + 1), v0] rfl rfl ?_
    exact tGb rfl (fun m2 l2 => h1 g1 m2 (Nat.lt_of_lt_of_le l2 (Nat.le_refl n)))

theorem c_X10_best {n : Nat} {Q : Zr → Prop} {a0 a1 a2 : Int} {s : Zs} (h : zT (zE 1283) (Pt PX10_best) n (0, [a0, a1, a2, 0, 0, 0, 0, 0], [], s) Q) : zC n 1283 [(a0, 0), (a1, 0), (a2, 0)] s Q := h

theorem b_X11_laysOdds_0 {n : Nat} {Q : Zr → Prop} (x1 x2 x3 x4 x5 : Int) (s : Zs) 
    (h0 : zT (zE 1464) (Pt PX11_laysOdds) n (2, [((172 : Nat) : Int), x1, 0, x3, x4, x5], [], s) Q) : zT (zE 1464) (Pt PX11_laysOdds) n (0, [((172 : Nat) : Int), x1, x2, x3, x4, x5], [], s) Q := by
  refine tK rfl ?_
  refine tS [((172 : Nat) : Int), x1, 0, x3, x4, x5] rfl rfl ?_
  exact zT_le (h0) (Nat.le_refl n)

theorem b_X11_laysOdds_2 {n : Nat} {Q : Zr → Prop} (x1 x2 x3 x4 x5 : Int) (s : Zs) 
    (h0 : ∀ (g1 : s 174 1 ≤ x2), zT (zE 1464) (Pt PX11_laysOdds) n (67, [((172 : Nat) : Int), x1, 0, x3, x4, x5], [], s) Q)
    (h1 : ∀ (g1 : x2 < s 174 1), zT (zE 1464) (Pt PX11_laysOdds) n (23, [((172 : Nat) : Int), x1, x2, 0, x4, x5], [], zu s 227 x2.toNat 1000000) Q) : zT (zE 1464) (Pt PX11_laysOdds) n (2, [((172 : Nat) : Int), x1, x2, x3, x4, x5], [], s) Q := by
  refine tL x2 0 rfl rfl rfl ?_
  refine tL ((172 : Nat) : Int) 0 rfl rfl rfl ?_
  refine tFR (c := 172) 174 rfl rfl rfl rfl rfl ?_
  refine tK rfl ?_
  refine tAv 174 1 (s 174 1) 0 rfl rfl rfl (by decide) rfl rfl ?_
  refine tJ3 rfl (fun g1 _ l1 => zT_le ?_ (Nat.le_of_lt l1)) (fun g1 _ l1 => zT_le ?_ (Nat.le_of_lt l1))
  · refine tK rfl ?_
    refine tS [((172 : Nat) : Int), x1, 0, x3, x4, x5] rfl rfl ?_
    exact zT_le (h0 g1) (Nat.le_refl n)
  · refine tL ((172 : Nat) : Int) 0 rfl rfl rfl ?_
    refine tFR (c := 172) 227 rfl rfl rfl rfl rfl ?_
    refine tL x2 0 rfl rfl rfl ?_
    refine tK rfl ?_
    refine tAS 227 x2.toNat rfl rfl rfl (by decide) ?_
    refine tK rfl ?_
    refine tS [((172 : Nat) : Int), x1, x2, 0, x4, x5] rfl rfl ?_
    exact zT_le (h1 g1) (Nat.le_refl n)

theorem b_X11_laysOdds_23 {n : Nat} {Q : Zr → Prop} (x1 x2 x3 x4 x5 : Int) (s : Zs) 
    (h0 : ∀ (g1 : x1 ≤ x3), ∀ m, m < n → zT (zE 1464) (Pt PX11_laysOdds) m (2, [((172 : Nat) : Int), x1, w32 (x2 + 1), x3, x4, x5], [], s) Q)
    (h1 : ∀ (g1 : x3 < x1), ∀ m, m < n → zT (zE 1464) (Pt PX11_laysOdds) m (23, [((172 : Nat) : Int), x1, x2, w32 (x3 + 1), x4, x5], [], zu s 227 x2.toNat (zdiv (w32 ((s 227 x2.toNat) * (w32 (10 - (s 183 x2.toNat))))) 10)) Q) : zT (zE 1464) (Pt PX11_laysOdds) n (23, [((172 : Nat) : Int), x1, x2, x3, x4, x5], [], s) Q := by
  refine tL x3 0 rfl rfl rfl ?_
  refine tL x1 0 rfl rfl rfl ?_
  refine tJ3 rfl (fun g1 _ l1 => zT_le ?_ (Nat.le_of_lt l1)) (fun g1 _ l1 => zT_le ?_ (Nat.le_of_lt l1))
  · refine tInc [((172 : Nat) : Int), x1, w32 (x2 + 1), x3, x4, x5] rfl rfl ?_
    exact tGb rfl (fun m2 l2 => h0 g1 m2 (Nat.lt_of_lt_of_le l2 (Nat.le_refl n)))
  · refine tL ((172 : Nat) : Int) 0 rfl rfl rfl ?_
    refine tFR (c := 172) 227 rfl rfl rfl rfl rfl ?_
    refine tL x2 0 rfl rfl rfl ?_
    refine tL ((172 : Nat) : Int) 0 rfl rfl rfl ?_
    refine tFR (c := 172) 227 rfl rfl rfl rfl rfl ?_
    refine tL x2 0 rfl rfl rfl ?_
    refine tAv 227 x2.toNat (s 227 x2.toNat) 0 rfl rfl rfl (by decide) rfl rfl ?_
    refine tK rfl ?_
    refine tL ((172 : Nat) : Int) 0 rfl rfl rfl ?_
    refine tFR (c := 172) 183 rfl rfl rfl rfl rfl ?_
    refine tL x2 0 rfl rfl rfl ?_
    refine tAv 183 x2.toNat (s 183 x2.toNat) 0 rfl rfl rfl (by decide) rfl rfl ?_
    refine tB (v := w32 (10 - (s 183 x2.toNat))) rfl rfl ?_
    refine tM (v := w32 ((s 227 x2.toNat) * (w32 (10 - (s 183 x2.toNat))))) rfl rfl ?_
    refine tK rfl ?_
    refine tB (v := zdiv (w32 ((s 227 x2.toNat) * (w32 (10 - (s 183 x2.toNat))))) 10) rfl rfl ?_
    refine tAS 227 x2.toNat rfl rfl rfl (by decide) ?_
    refine tInc [((172 : Nat) : Int), x1, x2, w32 (x3 + 1), x4, x5] rfl rfl ?_
    exact tGb rfl (fun m2 l2 => h1 g1 m2 (Nat.lt_of_lt_of_le l2 (Nat.le_refl n)))

theorem b_X11_laysOdds_67 {n : Nat} {Q : Zr → Prop} (x1 x2 x3 x4 x5 : Int) (s : Zs) 
    (h0 : ∀ (g2 : w32 ((zshl 1 (s 174 1)) - 1) < x2), Q ([], s))
    (h1 : ∀ (g2 : x2 ≤ w32 ((zshl 1 (s 174 1)) - 1)), zT (zE 1464) (Pt PX11_laysOdds) n (82, [((172 : Nat) : Int), x1, x2, 1000000, x4, 0], [], s) Q) : zT (zE 1464) (Pt PX11_laysOdds) n (67, [((172 : Nat) : Int), x1, x2, x3, x4, x5], [], s) Q := by
  refine tL x2 0 rfl rfl rfl ?_
  refine tL ((172 : Nat) : Int) 0 rfl rfl rfl ?_
  refine tCall [(((172 : Nat) : Int), 0)] [(x2, 0)] rfl rfl rfl (fun m1 l1 => c_X11_allFlights (b_X11_allFlights_0  s ?_))
  · show zT (zE 1464) (Pt PX11_laysOdds) m1 (72, [((172 : Nat) : Int), x1, x2, x3, x4, x5], [(w32 ((zshl 1 (s 174 1)) - 1), 0), (x2, 0)], s) Q
    refine tJ4 rfl (fun g2 _ l2 => zT_le ?_ (Nat.le_of_lt l2)) (fun g2 _ l2 => zT_le ?_ (Nat.le_of_lt l2))
    · exact tR rfl (h0 g2)
    · refine tKL rfl ?_
      refine tS [((172 : Nat) : Int), x1, x2, 1000000, x4, x5] rfl rfl ?_
      refine tK rfl ?_
      refine tS [((172 : Nat) : Int), x1, x2, 1000000, x4, 0] rfl rfl ?_
      exact zT_le (h1 g2) (Nat.le_trans (Nat.le_of_lt l1) (Nat.le_refl n))

theorem b_X11_laysOdds_82 {n : Nat} {Q : Zr → Prop} (x1 x2 x3 x4 x5 : Int) (s : Zs) 
    (h0 : ∀ (g1 : s 174 1 ≤ x5), ∀ (g2 : zand x2 (zxor (s 216 0) (-1)) ≠ 0), ∀ m, m < n → zT (zE 1464) (Pt PX11_laysOdds) m (67, [((172 : Nat) : Int), x1, w32 (x2 + 1), x3, x4, x5], [], zu s 228 x2.toNat 0) Q)
    (h1 : ∀ (g1 : s 174 1 ≤ x5), ∀ (g2 : zand x2 (zxor (s 216 0) (-1)) = 0), ∀ m, m < n → zT (zE 1464) (Pt PX11_laysOdds) m (67, [((172 : Nat) : Int), x1, w32 (x2 + 1), x3, x4, x5], [], zu s 228 x2.toNat (zl2i x3)) Q)
    (h2 : ∀ (g1 : x5 < s 174 1), ∀ (g3 : zand (zshr (s 216 0) x5) 1 ≠ 0), ∀ (g4 : zand (zshr x2 x5) 1 ≠ 1), ∀ m, m < n → zT (zE 1464) (Pt PX11_laysOdds) m (82, [((172 : Nat) : Int), x1, x2, zdivL (w64 (x3 * (w32 (1000000 - (s 227 x5.toNat))))) 1000000, x4, w32 (x5 + 1)], [], s) Q)
    (h3 : ∀ (g1 : x5 < s 174 1), ∀ (g3 : zand (zshr (s 216 0) x5) 1 ≠ 0), ∀ (g4 : zand (zshr x2 x5) 1 = 1), ∀ m, m < n → zT (zE 1464) (Pt PX11_laysOdds) m (82, [((172 : Nat) : Int), x1, x2, zdivL (w64 (x3 * (s 227 x5.toNat))) 1000000, x4, w32 (x5 + 1)], [], s) Q)
    (h4 : ∀ (g1 : x5 < s 174 1), ∀ (g3 : zand (zshr (s 216 0) x5) 1 = 0), ∀ m, m < n → zT (zE 1464) (Pt PX11_laysOdds) m (82, [((172 : Nat) : Int), x1, x2, x3, x4, w32 (x5 + 1)], [], s) Q) : zT (zE 1464) (Pt PX11_laysOdds) n (82, [((172 : Nat) : Int), x1, x2, x3, x4, x5], [], s) Q := by
  refine tL x5 0 rfl rfl rfl ?_
  refine tL ((172 : Nat) : Int) 0 rfl rfl rfl ?_
  refine tFR (c := 172) 174 rfl rfl rfl rfl rfl ?_
  refine tK rfl ?_
  refine tAv 174 1 (s 174 1) 0 rfl rfl rfl (by decide) rfl rfl ?_
  refine tJ3 rfl (fun g1 _ l1 => zT_le ?_ (Nat.le_of_lt l1)) (fun g1 _ l1 => zT_le ?_ (Nat.le_of_lt l1))
  · refine tL ((172 : Nat) : Int) 0 rfl rfl rfl ?_
    refine tFR (c := 172) 228 rfl rfl rfl rfl rfl ?_
    refine tL x2 0 rfl rfl rfl ?_
    refine tL x2 0 rfl rfl rfl ?_
    refine tL ((172 : Nat) : Int) 0 rfl rfl rfl ?_
    refine tFR (c := 172) 216 rfl rfl rfl rfl rfl ?_
    refine tK rfl ?_
    refine tAv 216 0 (s 216 0) 0 rfl rfl rfl (by decide) rfl rfl ?_
    refine tK rfl ?_
    refine tB (v := zxor (s 216 0) (-1)) rfl rfl ?_
    refine tB (v := zand x2 (zxor (s 216 0) (-1))) rfl rfl ?_
    refine tI1 rfl (fun g2 _ l2 => zT_le ?_ (Nat.le_of_lt l2)) (fun g2 _ l2 => zT_le ?_ (Nat.le_of_lt l2))
    · refine tK rfl ?_
      refine tAS 228 x2.toNat rfl rfl rfl (by decide) ?_
      refine tInc [((172 : Nat) : Int), x1, w32 (x2 + 1), x3, x4, x5] rfl rfl ?_
      exact tGb rfl (fun m2 l2 => h0 g1 g2 m2 (Nat.lt_of_lt_of_le l2 (Nat.le_refl n)))
    · refine tL x3 1 rfl rfl rfl ?_
      refine tLI rfl ?_
      refine tG rfl ?_
      refine tAS 228 x2.toNat rfl rfl rfl (by decide) ?_
      refine tInc [((172 : Nat) : Int), x1, w32 (x2 + 1), x3, x4, x5] rfl rfl ?_
      exact tGb rfl (fun m2 l2 => h1 g1 g2 m2 (Nat.lt_of_lt_of_le l2 (Nat.le_refl n)))
  · refine tL ((172 : Nat) : Int) 0 rfl rfl rfl ?_
    refine tFR (c := 172) 216 rfl rfl rfl rfl rfl ?_
    refine tK rfl ?_
    refine tAv 216 0 (s 216 0) 0 rfl rfl rfl (by decide) rfl rfl ?_
    refine tL x5 0 rfl rfl rfl ?_
    refine tB (v := zshr (s 216 0) x5) rfl rfl ?_
    refine tK rfl ?_
    refine tB (v := zand (zshr (s 216 0) x5) 1) rfl rfl ?_
    refine tI1 rfl (fun g3 _ l3 => zT_le ?_ (Nat.le_of_lt l3)) (fun g3 _ l3 => zT_le ?_ (Nat.le_of_lt l3))
    · refine tL x3 1 rfl rfl rfl ?_
      refine tL x2 0 rfl rfl rfl ?_
      refine tL x5 0 rfl rfl rfl ?_
      refine tB (v := zshr x2 x5) rfl rfl ?_
      refine tK rfl ?_
      refine tB (v := zand (zshr x2 x5) 1) rfl rfl ?_
      refine tK rfl ?_
      refine tJ1 rfl (fun g4 _ l4 => zT_le ?_ (Nat.le_of_lt l4)) (fun g4 _ l4 => zT_le ?_ (Nat.le_of_lt l4))
      · refine tK rfl ?_
        refine tL ((172 : Nat) : Int) 0 rfl rfl rfl ?_
        refine tFR (c := 172) 227 rfl rfl rfl rfl rfl ?_
        refine tL x5 0 rfl rfl rfl ?_
        refine tAv 227 x5.toNat (s 227 x5.toNat) 0 rfl rfl rfl (by decide) rfl rfl ?_
        refine tB (v := w32 (1000000 - (s 227 x5.toNat))) rfl rfl ?_
        refine tU1 rfl ?_
        refine tBL (v := w64 (x3 * (w32 (1000000 - (s 227 x5.toNat))))) rfl rfl ?_
        refine tKL rfl ?_
        refine tBLd rfl ?_
        refine tS [((172 : Nat) : Int), x1, x2, zdivL (w64 (x3 * (w32 (1000000 - (s 227 x5.toNat))))) 1000000, x4, x5] rfl rfl ?_
        refine tInc [((172 : Nat) : Int), x1, x2, zdivL (w64 (x3 * (w32 (1000000 - (s 227 x5.toNat))))) 1000000, x4, w32 (x5 + 1)] rfl rfl ?_
        exact tGb rfl (fun m2 l2 => h2 g1 g3 g4 m2 (Nat.lt_of_lt_of_le l2 (Nat.le_refl n)))
      · refine tL ((172 : Nat) : Int) 0 rfl rfl rfl ?_
        refine tFR (c := 172) 227 rfl rfl rfl rfl rfl ?_
        refine tL x5 0 rfl rfl rfl ?_
        refine tAv 227 x5.toNat (s 227 x5.toNat) 0 rfl rfl rfl (by decide) rfl rfl ?_
        refine tG rfl ?_
        refine tU1 rfl ?_
        refine tBL (v := w64 (x3 * (s 227 x5.toNat))) rfl rfl ?_
        refine tKL rfl ?_
        refine tBLd rfl ?_
        refine tS [((172 : Nat) : Int), x1, x2, zdivL (w64 (x3 * (s 227 x5.toNat))) 1000000, x4, x5] rfl rfl ?_
        refine tInc [((172 : Nat) : Int), x1, x2, zdivL (w64 (x3 * (s 227 x5.toNat))) 1000000, x4, w32 (x5 + 1)] rfl rfl ?_
        exact tGb rfl (fun m2 l2 => h3 g1 g3 g4 m2 (Nat.lt_of_lt_of_le l2 (Nat.le_refl n)))
    · refine tG rfl ?_
      refine tInc [((172 : Nat) : Int), x1, x2, x3, x4, w32 (x5 + 1)] rfl rfl ?_
      exact tGb rfl (fun m2 l2 => h4 g1 g3 m2 (Nat.lt_of_lt_of_le l2 (Nat.le_refl n)))

theorem c_X11_laysOdds {n : Nat} {Q : Zr → Prop} {a0 a1 : Int} {s : Zs} (h : zT (zE 1464) (Pt PX11_laysOdds) n (0, [a0, a1, 0, 0, 0, 0], [], s) Q) : zC n 1464 [(a0, 0), (a1, 0)] s Q := h

theorem b_X11_liveOf_0 {n : Nat} {Q : Zr → Prop} (x1 x2 x3 x4 : Int) (s : Zs) 
    (h0 : zT (zE 1469) (Pt PX11_liveOf) n (5, [((172 : Nat) : Int), x1, x2, 0, 0], [], s) Q) : zT (zE 1469) (Pt PX11_liveOf) n (0, [((172 : Nat) : Int), x1, x2, x3, x4], [], s) Q := by
  refine tK rfl ?_
  refine tS [((172 : Nat) : Int), x1, x2, 0, x4] rfl rfl ?_
  refine tK rfl ?_
  refine tS [((172 : Nat) : Int), x1, x2, 0, 0] rfl rfl ?_
  exact zT_le (h0) (Nat.le_refl n)

theorem b_X11_liveOf_5 {n : Nat} {Q : Zr → Prop} (x1 x2 x3 x4 : Int) (s : Zs) 
    (h0 : ∀ (g2 : w32 ((zshl 1 (s 174 1)) - 1) < x4), Q ([(x3, 0)], s))
    (h1 : ∀ (g2 : x4 ≤ w32 ((zshl 1 (s 174 1)) - 1)), ∀ (g3 : s 228 x4.toNat ≤ 0), ∀ m, m < n → zT (zE 1469) (Pt PX11_liveOf) m (5, [((172 : Nat) : Int), x1, x2, x3, w32 (x4 + 1)], [], s) Q)
    (h2 : ∀ (g2 : x4 ≤ w32 ((zshl 1 (s 174 1)) - 1)), ∀ (g3 : 0 < s 228 x4.toNat), ∀ m, m < n → zC m 1445 [(((172 : Nat) : Int), 0), (x1, 0), (x2, 0), (x4, 0)] s (fun p => zT (zE 1469) (Pt PX11_liveOf) m (32, [((172 : Nat) : Int), x1, x2, x3, x4], p.1 ++ [], p.2) Q)) : zT (zE 1469) (Pt PX11_liveOf) n (5, [((172 : Nat) : Int), x1, x2, x3, x4], [], s) Q := by
  refine tL x4 0 rfl rfl rfl ?_
  refine tL ((172 : Nat) : Int) 0 rfl rfl rfl ?_
  refine tCall [(((172 : Nat) : Int), 0)] [(x4, 0)] rfl rfl rfl (fun m1 l1 => c_X11_allFlights (b_X11_allFlights_0  s ?_))
  · show zT (zE 1469) (Pt PX11_liveOf) m1 (11, [((172 : Nat) : Int), x1, x2, x3, x4], [(w32 ((zshl 1 (s 174 1)) - 1), 0), (x4, 0)], s) Q
    refine tJ4 rfl (fun g2 _ l2 => zT_le ?_ (Nat.le_of_lt l2)) (fun g2 _ l2 => zT_le ?_ (Nat.le_of_lt l2))
    · refine tL x3 0 rfl rfl rfl ?_
      exact tR rfl (h0 g2)
    · refine tL ((172 : Nat) : Int) 0 rfl rfl rfl ?_
      refine tFR (c := 172) 228 rfl rfl rfl rfl rfl ?_
      refine tL x4 0 rfl rfl rfl ?_
      refine tAv 228 x4.toNat (s 228 x4.toNat) 0 rfl rfl rfl (by decide) rfl rfl ?_
      refine tI5 rfl (fun g3 _ l3 => zT_le ?_ (Nat.le_of_lt l3)) (fun g3 _ l3 => zT_le ?_ (Nat.le_of_lt l3))
      · refine tInc [((172 : Nat) : Int), x1, x2, x3, w32 (x4 + 1)] rfl rfl ?_
        exact tGb rfl (fun m2 l2 => h1 g2 g3 m2 (Nat.lt_of_lt_of_le l2 (Nat.le_trans (Nat.le_of_lt l1) (Nat.le_refl n))))
      · refine tL ((172 : Nat) : Int) 0 rfl rfl rfl ?_
        refine tL x1 0 rfl rfl rfl ?_
        refine tL x2 0 rfl rfl rfl ?_
        refine tL x4 0 rfl rfl rfl ?_
        exact tCall [(((172 : Nat) : Int), 0), (x1, 0), (x2, 0), (x4, 0)] [] rfl rfl rfl (fun m l => h2 g2 g3 m (Nat.lt_of_lt_of_le l (Nat.le_trans (Nat.le_of_lt l1) (Nat.le_refl n))))

theorem b_X11_liveOf_32 {n : Nat} {Q : Zr → Prop} (x1 x2 x3 x4 v0 : Int) (s : Zs) 
    (h0 : ∀ (g1 : v0 ≠ 0), ∀ m, m < n → zT (zE 1469) (Pt PX11_liveOf) m (5, [((172 : Nat) : Int), x1, x2, x3, w32 (x4 + 1)], [], s) Q)
    (h1 : ∀ (g1 : v0 = 0), ∀ m, m < n → zT (zE 1469) (Pt PX11_liveOf) m (5, [((172 : Nat) : Int), x1, x2, w32 (x3 + (s 228 x4.toNat)), w32 (x4 + 1)], [], s) Q) : zT (zE 1469) (Pt PX11_liveOf) n (32, [((172 : Nat) : Int), x1, x2, x3, x4], [(v0, 0)], s) Q := by
  refine tI1 rfl (fun g1 _ l1 => zT_le ?_ (Nat.le_of_lt l1)) (fun g1 _ l1 => zT_le ?_ (Nat.le_of_lt l1))
  · refine tInc [((172 : Nat) : Int), x1, x2, x3, w32 (x4 + 1)] rfl rfl ?_
    exact tGb rfl (fun m2 l2 => h0 g1 m2 (Nat.lt_of_lt_of_le l2 (Nat.le_refl n)))
  · refine tL x3 0 rfl rfl rfl ?_
    refine tL ((172 : Nat) : Int) 0 rfl rfl rfl ?_
    refine tFR (c := 172) 228 rfl rfl rfl rfl rfl ?_
    refine tL x4 0 rfl rfl rfl ?_
    refine tAv 228 x4.toNat (s 228 x4.toNat) 0 rfl rfl rfl (by decide) rfl rfl ?_
    refine tB (v := w32 (x3 + (s 228 x4.toNat))) rfl rfl ?_
    refine tS [((172 : Nat) : Int), x1, x2, w32 (x3 + (s 228 x4.toNat)), x4] rfl rfl ?_
    refine tInc [((172 : Nat) : Int), x1, x2, w32 (x3 + (s 228 x4.toNat)), w32 (x4 + 1)] rfl rfl ?_
    exact tGb rfl (fun m2 l2 => h1 g1 m2 (Nat.lt_of_lt_of_le l2 (Nat.le_refl n)))

theorem c_X11_liveOf {n : Nat} {Q : Zr → Prop} {a0 a1 a2 : Int} {s : Zs} (h : zT (zE 1469) (Pt PX11_liveOf) n (0, [a0, a1, a2, 0, 0], [], s) Q) : zC n 1469 [(a0, 0), (a1, 0), (a2, 0)] s Q := h

theorem b_X11_live_0 {n : Nat} {Q : Zr → Prop} (x1 x2 x3 : Int) (s : Zs) 
    (h0 : ∀ (g2 : x1 < 0), Q ([((-1), 0)], zu s 172 0 0))
    (h1 : ∀ (g3 : 0 ≤ x1), ∀ (g4 : s 174 3 ≤ x1), Q ([((-1), 0)], zu s 172 0 0))
    (h2 : ∀ (g5 : 0 ≤ x1), ∀ (g6 : x1 < s 174 3), ∀ m, m < n → zC m 1453 [(((172 : Nat) : Int), 0), (x2, 0)] (zu s 172 0 0) (fun p => zT (zE 1468) (Pt PX11_live) m (18, [((172 : Nat) : Int), x1, x2, x3], p.1 ++ [], p.2) Q)) : zT (zE 1468) (Pt PX11_live) n (0, [((172 : Nat) : Int), x1, x2, x3], [], s) Q := by
  refine tL ((172 : Nat) : Int) 0 rfl rfl rfl ?_
  refine tK rfl ?_
  refine tPut 172 rfl rfl ?_
  refine tL ((172 : Nat) : Int) 0 rfl rfl rfl ?_
  refine tL x1 0 rfl rfl rfl ?_
  refine tCall [(((172 : Nat) : Int), 0), (x1, 0)] [] rfl rfl rfl (fun m1 l1 => c_X11_isPerson (b_X11_isPerson_0 x1 (zu s 172 0 0) ?_ ?_ ?_))
  · intro g2
    show zT (zE 1468) (Pt PX11_live) m1 (10, [((172 : Nat) : Int), x1, x2, x3], [(0, 0)], zu s 172 0 0) Q
    refine tI0 rfl (fun g _ l => zT_le ?_ (Nat.le_of_lt l)) (fun g _ l => (absurd g (by decide)))
    refine tK rfl ?_
    exact tR rfl (h0 g2)
  · intro g3 g4
    show zT (zE 1468) (Pt PX11_live) m1 (10, [((172 : Nat) : Int), x1, x2, x3], [(0, 0)], zu s 172 0 0) Q
    refine tI0 rfl (fun g _ l => zT_le ?_ (Nat.le_of_lt l)) (fun g _ l => (absurd g (by decide)))
    refine tK rfl ?_
    exact tR rfl (h1 g3 g4)
  · intro g5 g6
    show zT (zE 1468) (Pt PX11_live) m1 (10, [((172 : Nat) : Int), x1, x2, x3], [(1, 0)], zu s 172 0 0) Q
    refine tI0 rfl (fun g _ l => (absurd g (by decide))) (fun g _ l => zT_le ?_ (Nat.le_of_lt l))
    refine tL ((172 : Nat) : Int) 0 rfl rfl rfl ?_
    refine tL x2 0 rfl rfl rfl ?_
    exact tCall [(((172 : Nat) : Int), 0), (x2, 0)] [] rfl rfl rfl (fun m l => h2 g5 g6 m (Nat.lt_of_lt_of_le l (Nat.le_trans (Nat.le_of_lt l1) (Nat.le_refl n))))

theorem b_X11_live_18 {n : Nat} {Q : Zr → Prop} (x1 x2 x3 v0 : Int) (s : Zs) 
    (h0 : ∀ (g1 : v0 = 0), Q ([((-1), 0)], s))
    (h1 : ∀ (g1 : v0 ≠ 0), ∀ (g3 : x3 < 1), Q ([((-1), 0)], s))
    (h2 : ∀ (g1 : v0 ≠ 0), ∀ (g4 : 1 ≤ x3), ∀ (g5 : 9 < x3), Q ([((-1), 0)], s))
    (h3 : ∀ (g1 : v0 ≠ 0), ∀ (g6 : 1 ≤ x3), ∀ (g7 : x3 ≤ 9), ∀ m, m < n → zC m 1464 [(((172 : Nat) : Int), 0), (x3, 0)] s (fun p => zT (zE 1468) (Pt PX11_live) m (38, [((172 : Nat) : Int), x1, x2, x3], p.1 ++ [], p.2) Q)) : zT (zE 1468) (Pt PX11_live) n (18, [((172 : Nat) : Int), x1, x2, x3], [(v0, 0)], s) Q := by
  refine tI0 rfl (fun g1 _ l1 => zT_le ?_ (Nat.le_of_lt l1)) (fun g1 _ l1 => zT_le ?_ (Nat.le_of_lt l1))
  · refine tK rfl ?_
    exact tR rfl (h0 g1)
  · refine tL x3 0 rfl rfl rfl ?_
    refine tK rfl ?_
    refine tK rfl ?_
    refine tCall [(x3, 0), (1, 0), (9, 0)] [] rfl rfl rfl (fun m2 l2 => c_X11_within (b_X11_within_0 x3 1 9 s ?_ ?_ ?_))
    · intro g3
      show zT (zE 1468) (Pt PX11_live) m2 (28, [((172 : Nat) : Int), x1, x2, x3], [(0, 0)], s) Q
      refine tI1 rfl (fun g _ l => (absurd g (by decide))) (fun g _ l => zT_le ?_ (Nat.le_of_lt l))
      refine tK rfl ?_
      exact tR rfl (h1 g1 g3)
    · intro g4 g5
      show zT (zE 1468) (Pt PX11_live) m2 (28, [((172 : Nat) : Int), x1, x2, x3], [(0, 0)], s) Q
      refine tI1 rfl (fun g _ l => (absurd g (by decide))) (fun g _ l => zT_le ?_ (Nat.le_of_lt l))
      refine tK rfl ?_
      exact tR rfl (h2 g1 g4 g5)
    · intro g6 g7
      show zT (zE 1468) (Pt PX11_live) m2 (28, [((172 : Nat) : Int), x1, x2, x3], [(1, 0)], s) Q
      refine tI1 rfl (fun g _ l => zT_le ?_ (Nat.le_of_lt l)) (fun g _ l => (absurd g (by decide)))
      refine tL ((172 : Nat) : Int) 0 rfl rfl rfl ?_
      refine tL x3 0 rfl rfl rfl ?_
      exact tCall [(((172 : Nat) : Int), 0), (x3, 0)] [] rfl rfl rfl (fun m l => h3 g1 g6 g7 m (Nat.lt_of_lt_of_le l (Nat.le_trans (Nat.le_of_lt l2) (Nat.le_refl n))))

theorem b_X11_live_38 {n : Nat} {Q : Zr → Prop} (x1 x2 x3 : Int) (s : Zs) 
    (h0 : ∀ m, m < n → zC m 1469 [(((172 : Nat) : Int), 0), (x1, 0), (x2, 0)] s (fun p => zT (zE 1468) (Pt PX11_live) m (44, [((172 : Nat) : Int), x1, x2, x3], p.1 ++ [], p.2) Q)) : zT (zE 1468) (Pt PX11_live) n (38, [((172 : Nat) : Int), x1, x2, x3], [], s) Q := by
  refine tL ((172 : Nat) : Int) 0 rfl rfl rfl ?_
  refine tL x1 0 rfl rfl rfl ?_
  refine tL x2 0 rfl rfl rfl ?_
  exact tCall [(((172 : Nat) : Int), 0), (x1, 0), (x2, 0)] [] rfl rfl rfl (fun m l => h0 m (Nat.lt_of_lt_of_le l (Nat.le_refl n)))

theorem b_X11_live_44 {n : Nat} {Q : Zr → Prop} (x1 x2 x3 v0 : Int) (s : Zs) 
    (h0 : Q ([(v0, 0)], s)) : zT (zE 1468) (Pt PX11_live) n (44, [((172 : Nat) : Int), x1, x2, x3], [(v0, 0)], s) Q := by
  exact tR rfl (h0)

theorem c_X11_live {n : Nat} {Q : Zr → Prop} {a0 a1 a2 a3 : Int} {s : Zs} (h : zT (zE 1468) (Pt PX11_live) n (0, [a0, a1, a2, a3], [], s) Q) : zC n 1468 [(a0, 0), (a1, 0), (a2, 0), (a3, 0)] s Q := h

theorem b_X11_best_0 {n : Nat} {Q : Zr → Prop} (x1 x2 x3 x4 x5 x6 : Int) (s : Zs) 
    (h0 : ∀ (g2 : x1 < 0), Q ([((-1), 0)], zu s 172 0 0))
    (h1 : ∀ (g3 : 0 ≤ x1), ∀ (g4 : s 174 3 ≤ x1), Q ([((-1), 0)], zu s 172 0 0))
    (h2 : ∀ (g5 : 0 ≤ x1), ∀ (g6 : x1 < s 174 3), ∀ (g8 : x2 < 1), Q ([((-1), 0)], zu s 172 0 0))
    (h3 : ∀ (g5 : 0 ≤ x1), ∀ (g6 : x1 < s 174 3), ∀ (g9 : 1 ≤ x2), ∀ (g10 : 9 < x2), Q ([((-1), 0)], zu s 172 0 0))
    (h4 : ∀ (g5 : 0 ≤ x1), ∀ (g6 : x1 < s 174 3), ∀ (g11 : 1 ≤ x2), ∀ (g12 : x2 ≤ 9), ∀ m, m < n → zC m 1464 [(((172 : Nat) : Int), 0), (x2, 0)] (zu s 172 0 0) (fun p => zT (zE 1412) (Pt PX11_best) m (30, [((172 : Nat) : Int), x1, x2, x3, x4, x5, x6], p.1 ++ [], p.2) Q)) : zT (zE 1412) (Pt PX11_best) n (0, [((172 : Nat) : Int), x1, x2, x3, x4, x5, x6], [], s) Q := by
  refine tL ((172 : Nat) : Int) 0 rfl rfl rfl ?_
  refine tK rfl ?_
  refine tPut 172 rfl rfl ?_
  refine tL ((172 : Nat) : Int) 0 rfl rfl rfl ?_
  refine tL x1 0 rfl rfl rfl ?_
  refine tCall [(((172 : Nat) : Int), 0), (x1, 0)] [] rfl rfl rfl (fun m1 l1 => c_X11_isPerson (b_X11_isPerson_0 x1 (zu s 172 0 0) ?_ ?_ ?_))
  · intro g2
    show zT (zE 1412) (Pt PX11_best) m1 (10, [((172 : Nat) : Int), x1, x2, x3, x4, x5, x6], [(0, 0)], zu s 172 0 0) Q
    refine tI0 rfl (fun g _ l => zT_le ?_ (Nat.le_of_lt l)) (fun g _ l => (absurd g (by decide)))
    refine tK rfl ?_
    exact tR rfl (h0 g2)
  · intro g3 g4
    show zT (zE 1412) (Pt PX11_best) m1 (10, [((172 : Nat) : Int), x1, x2, x3, x4, x5, x6], [(0, 0)], zu s 172 0 0) Q
    refine tI0 rfl (fun g _ l => zT_le ?_ (Nat.le_of_lt l)) (fun g _ l => (absurd g (by decide)))
    refine tK rfl ?_
    exact tR rfl (h1 g3 g4)
  · intro g5 g6
    show zT (zE 1412) (Pt PX11_best) m1 (10, [((172 : Nat) : Int), x1, x2, x3, x4, x5, x6], [(1, 0)], zu s 172 0 0) Q
    refine tI0 rfl (fun g _ l => (absurd g (by decide))) (fun g _ l => zT_le ?_ (Nat.le_of_lt l))
    refine tL x2 0 rfl rfl rfl ?_
    refine tK rfl ?_
    refine tK rfl ?_
    refine tCall [(x2, 0), (1, 0), (9, 0)] [] rfl rfl rfl (fun m7 l7 => c_X11_within (b_X11_within_0 x2 1 9 (zu s 172 0 0) ?_ ?_ ?_))
    · intro g8
      show zT (zE 1412) (Pt PX11_best) m7 (20, [((172 : Nat) : Int), x1, x2, x3, x4, x5, x6], [(0, 0)], zu s 172 0 0) Q
      refine tI1 rfl (fun g _ l => (absurd g (by decide))) (fun g _ l => zT_le ?_ (Nat.le_of_lt l))
      refine tK rfl ?_
      exact tR rfl (h2 g5 g6 g8)
    · intro g9 g10
      show zT (zE 1412) (Pt PX11_best) m7 (20, [((172 : Nat) : Int), x1, x2, x3, x4, x5, x6], [(0, 0)], zu s 172 0 0) Q
      refine tI1 rfl (fun g _ l => (absurd g (by decide))) (fun g _ l => zT_le ?_ (Nat.le_of_lt l))
      refine tK rfl ?_
      exact tR rfl (h3 g5 g6 g9 g10)
    · intro g11 g12
      show zT (zE 1412) (Pt PX11_best) m7 (20, [((172 : Nat) : Int), x1, x2, x3, x4, x5, x6], [(1, 0)], zu s 172 0 0) Q
      refine tI1 rfl (fun g _ l => zT_le ?_ (Nat.le_of_lt l)) (fun g _ l => (absurd g (by decide)))
      refine tL ((172 : Nat) : Int) 0 rfl rfl rfl ?_
      refine tL x2 0 rfl rfl rfl ?_
      exact tCall [(((172 : Nat) : Int), 0), (x2, 0)] [] rfl rfl rfl (fun m l => h4 g5 g6 g11 g12 m (Nat.lt_of_lt_of_le l (Nat.le_trans (Nat.le_of_lt l7) (Nat.le_trans (Nat.le_of_lt l1) (Nat.le_refl n)))))

theorem b_X11_best_38 {n : Nat} {Q : Zr → Prop} (x1 x2 x3 x4 x5 x6 : Int) (s : Zs) 
    (h0 : ∀ (g1 : 30 ≤ x5), Q ([(x3, 0)], s))
    (h1 : ∀ (g1 : x5 < 30), ∀ m, m < n → zC m 1453 [(((172 : Nat) : Int), 0), (x5, 0)] s (fun p => zT (zE 1412) (Pt PX11_best) m (51, [((172 : Nat) : Int), x1, x2, x3, x4, x5, x6], p.1 ++ [], p.2) Q)) : zT (zE 1412) (Pt PX11_best) n (38, [((172 : Nat) : Int), x1, x2, x3, x4, x5, x6], [], s) Q := by
  refine tL x5 0 rfl rfl rfl ?_
  refine tK rfl ?_
  refine tJ3 rfl (fun g1 _ l1 => zT_le ?_ (Nat.le_of_lt l1)) (fun g1 _ l1 => zT_le ?_ (Nat.le_of_lt l1))
  · refine tL x3 0 rfl rfl rfl ?_
    exact tR rfl (h0 g1)
  · refine tL ((172 : Nat) : Int) 0 rfl rfl rfl ?_
    refine tL x5 0 rfl rfl rfl ?_
    exact tCall [(((172 : Nat) : Int), 0), (x5, 0)] [] rfl rfl rfl (fun m l => h1 g1 m (Nat.lt_of_lt_of_le l (Nat.le_refl n)))

theorem b_X11_best_30 {n : Nat} {Q : Zr → Prop} (x1 x2 x3 x4 x5 x6 : Int) (s : Zs) 
    (h0 : zT (zE 1412) (Pt PX11_best) n (38, [((172 : Nat) : Int), x1, x2, (-1), 0, 0, x6], [], s) Q) : zT (zE 1412) (Pt PX11_best) n (30, [((172 : Nat) : Int), x1, x2, x3, x4, x5, x6], [], s) Q := by
  refine tK rfl ?_
  refine tS [((172 : Nat) : Int), x1, x2, (-1), x4, x5, x6] rfl rfl ?_
  refine tK rfl ?_
  refine tS [((172 : Nat) : Int), x1, x2, (-1), 0, x5, x6] rfl rfl ?_
  refine tK rfl ?_
  refine tS [((172 : Nat) : Int), x1, x2, (-1), 0, 0, x6] rfl rfl ?_
  exact zT_le (h0) (Nat.le_refl n)

theorem b_X11_best_51 {n : Nat} {Q : Zr → Prop} (x1 x2 x3 x4 x5 x6 v0 : Int) (s : Zs) 
    (h0 : ∀ (g1 : v0 ≠ 0), ∀ m, m < n → zC m 1469 [(((172 : Nat) : Int), 0), (x1, 0), (x5, 0)] s (fun p => zT (zE 1412) (Pt PX11_best) m (64, [((172 : Nat) : Int), x1, x2, x3, x4, x5, x6], p.1 ++ [], p.2) Q))
    (h1 : ∀ (g1 : v0 = 0), ∀ m, m < n → zT (zE 1412) (Pt PX11_best) m (38, [((172 : Nat) : Int), x1, x2, x3, x4, w32 (x5 + 1), x6], [], s) Q) : zT (zE 1412) (Pt PX11_best) n (51, [((172 : Nat) : Int), x1, x2, x3, x4, x5, x6], [(v0, 0)], s) Q := by
  refine tI1 rfl (fun g1 _ l1 => zT_le ?_ (Nat.le_of_lt l1)) (fun g1 _ l1 => zT_le ?_ (Nat.le_of_lt l1))
  · refine tL ((172 : Nat) : Int) 0 rfl rfl rfl ?_
    refine tL x1 0 rfl rfl rfl ?_
    refine tL x5 0 rfl rfl rfl ?_
    exact tCall [(((172 : Nat) : Int), 0), (x1, 0), (x5, 0)] [] rfl rfl rfl (fun m l => h0 g1 m (Nat.lt_of_lt_of_le l (Nat.le_refl n)))
  · refine tG rfl ?_
    refine tInc [((172 : Nat) : Int), x1, x2, x3, x4, w32 (x5 + 1), x6] rfl rfl ?_
    exact tGb rfl (fun m2 l2 => h1 g1 m2 (Nat.lt_of_lt_of_le l2 (Nat.le_refl n)))

theorem b_X11_best_64 {n : Nat} {Q : Zr → Prop} (x1 x2 x3 x4 x5 x6 v0 : Int) (s : Zs) 
    (h0 : ∀ (g1 : x3 < 0), ∀ m, m < n → zT (zE 1412) (Pt PX11_best) m (38, [((172 : Nat) : Int), x1, x2, x5, v0, w32 (x5 + 1), v0], [], s) Q)
    (h1 : ∀ (g1 : 0 ≤ x3), ∀ (g2 : x4 < v0), ∀ m, m < n → zT (zE 1412) (Pt PX11_best) m (38, [((172 : Nat) : Int), x1, x2, x5, v0, w32 (x5 + 1), v0], [], s) Q)
    (h2 : ∀ (g1 : 0 ≤ x3), ∀ (g2 : v0 ≤ x4), ∀ m, m < n → zT (zE 1412) (Pt PX11_best) m (38, [((172 : Nat) : Int), x1, x2, x3, x4, w32 (x5 + 1), v0], [], s) Q) : zT (zE 1412) (Pt PX11_best) n (64, [((172 : Nat) : Int), x1, x2, x3, x4, x5, x6], [(v0, 0)], s) Q := by
  refine tS [((172 : Nat) : Int), x1, x2, x3, x4, x5, v0] rfl rfl ?_
  refine tL x3 0 rfl rfl rfl ?_
  refine tI2 rfl (fun g1 _ l1 => zT_le ?_ (Nat.le_of_lt l1)) (fun g1 _ l1 => zT_le ?_ (Nat.le_of_lt l1))
  · refine tL x5 0 rfl rfl rfl ?_
    refine tS [((172 : Nat) : Int), x1, x2, x5, x4, x5, v0] rfl rfl ?_
    refine tL v0 0 rfl rfl rfl ?_
    refine tS [((172 : Nat) : Int), x1, x2, x5, v0, x5, v0] rfl rfl ?_
    refine tInc [((172 : Nat) : Int), x1, x2, x5, v0, w32 (x5 + 1), v0] rfl rfl ?_
    exact tGb rfl (fun m2 l2 => h0 g1 m2 (Nat.lt_of_lt_of_le l2 (Nat.le_refl n)))
  · refine tL v0 0 rfl rfl rfl ?_
    refine tL x4 0 rfl rfl rfl ?_
    refine tJ4 rfl (fun g2 _ l2 => zT_le ?_ (Nat.le_of_lt l2)) (fun g2 _ l2 => zT_le ?_ (Nat.le_of_lt l2))
    · refine tL x5 0 rfl rfl rfl ?_
      refine tS [((172 : Nat) : Int), x1, x2, x5, x4, x5, v0] rfl rfl ?_
      refine tL v0 0 rfl rfl rfl ?_
      refine tS [((172 : Nat) : Int), x1, x2, x5, v0, x5, v0] rfl rfl ?_
      refine tInc [((172 : Nat) : Int), x1, x2, x5, v0, w32 (x5 + 1), v0] rfl rfl ?_
      exact tGb rfl (fun m2 l2 => h1 g1 g2 m2 (Nat.lt_of_lt_of_le l2 (Nat.le_refl n)))
    · refine tG rfl ?_
      refine tInc [((172 : Nat) : Int), x1, x2, x3, x4, w32 (x5 + 1), v0] rfl rfl ?_
      exact tGb rfl (fun m2 l2 => h2 g1 g2 m2 (Nat.lt_of_lt_of_le l2 (Nat.le_refl n)))

theorem c_X11_best {n : Nat} {Q : Zr → Prop} {a0 a1 a2 : Int} {s : Zs} (h : zT (zE 1412) (Pt PX11_best) n (0, [a0, a1, a2, 0, 0, 0, 0], [], s) Q) : zC n 1412 [(a0, 0), (a1, 0), (a2, 0)] s Q := h

theorem zdivL_pos {x d : Int} (h0 : 0 ≤ x) (h1 : x < 1000000000000000) (hd : 0 < d) (hd1 : d < 1000000000000000) : zdivL x d = x / d := by
  unfold zdivL
  rw [Int64.toInt_div, Int64.toInt_ofInt_of_le (by omega) (by omega), Int64.toInt_ofInt_of_le (by omega) (by omega), Int.tdiv_eq_ediv_of_nonneg h0]
  have a : 0 ≤ x / d := Int.ediv_nonneg h0 (by omega)
  have b : x / d ≤ x := Int.ediv_le_self d h0
  exact w64_id (by omega) (by omega)
theorem zl2i_id {x : Int} (h0 : 0 ≤ x) (h1 : x < 2147483648) : zl2i x = x := by
  unfold zl2i
  rw [Int64.toInt_toInt32, Int64.toInt_ofInt_of_le (by omega) (by omega)]
  exact w32_id (by omega) (by omega)
/-- how it stays -/
def stR (o : Int) : Nat → Int
  | 0 => 1000000
  | k + 1 => stR o k * (10 - o) / 10
theorem stR_bd {o : Int} (h : 0 ≤ o ∧ o ≤ 10) : ∀ k, 0 ≤ stR o k ∧ stR o k ≤ 1000000
  | 0 => ⟨by show (0 : Int) ≤ 1000000; decide, by show (1000000 : Int) ≤ 1000000; decide⟩
  | k + 1 => by
    have ih := stR_bd h k
    have a : 0 ≤ stR o k * (10 - o) := Int.mul_nonneg ih.1 (by omega)
    have b : stR o k * (10 - o) ≤ 1000000 * 10 := Int.mul_le_mul ih.2 (by omega) (by omega) (by decide)
    show 0 ≤ stR o k * (10 - o) / 10 ∧ stR o k * (10 - o) / 10 ≤ 1000000
    generalize stR o k * (10 - o) = z at a b ⊢
    omega
/-- a set's chance, flight by flight -/
def cpV (v : Nat → Int) : Nat → Nat → Int
  | 0, _ => 1000000
  | f + 1, T => (if T.testBit f = true then cpV v f T * v f else cpV v f T * (1000000 - v f)) / 1000000
theorem cp_y {v : Nat → Int} {f T : Nat} (h : T.testBit f = true) : cpV v (f + 1) T = cpV v f T * v f / 1000000 := by
  have e : cpV v (f + 1) T = (if T.testBit f = true then cpV v f T * v f else cpV v f T * (1000000 - v f)) / 1000000 := rfl
  rw [e, if_pos h]
theorem cp_n {v : Nat → Int} {f T : Nat} (h : ¬ T.testBit f = true) : cpV v (f + 1) T = cpV v f T * (1000000 - v f) / 1000000 := by
  have e : cpV v (f + 1) T = (if T.testBit f = true then cpV v f T * v f else cpV v f T * (1000000 - v f)) / 1000000 := rfl
  rw [e, if_neg h]
theorem mul_bd {x y : Int} (hx : 0 ≤ x ∧ x ≤ 1000000) (hy : 0 ≤ y ∧ y ≤ 1000000) : 0 ≤ x * y ∧ x * y ≤ 1000000000000 ∧ 0 ≤ x * y / 1000000 ∧ x * y / 1000000 ≤ x := by
  have a : 0 ≤ x * y := Int.mul_nonneg hx.1 hy.1
  have b : x * y ≤ x * 1000000 := Int.mul_le_mul_of_nonneg_left hy.2 hx.1
  generalize x * y = z at a b ⊢
  omega
theorem cpV_bd {v : Nat → Int} {n : Nat} (hv : ∀ f, f < n → 0 ≤ v f ∧ v f ≤ 1000000) (T : Nat) : ∀ f, f ≤ n → 0 ≤ cpV v f T ∧ cpV v f T ≤ 1000000
  | 0, _ => ⟨by show (0 : Int) ≤ 1000000; decide, by show (1000000 : Int) ≤ 1000000; decide⟩
  | f + 1, h => by
    have ih := cpV_bd hv T f (by omega)
    have b := hv f (by omega)
    by_cases c : T.testBit f = true
    · rw [cp_y c]
      have := mul_bd ih b
      omega
    · rw [cp_n c]
      have := mul_bd ih (y := 1000000 - v f) (by omega)
      omega
theorem cpV_cg {v : Nat → Int} : ∀ {f T T' : Nat}, (∀ i, i < f → T.testBit i = T'.testBit i) → cpV v f T = cpV v f T'
  | 0, _, _, _ => rfl
  | f + 1, T, T', h => by
    have ih := cpV_cg (v := v) (f := f) (T := T) (T' := T') (fun i hi => h i (by omega))
    have e := h f (by omega)
    by_cases c : T.testBit f = true
    · rw [cp_y c, cp_y (by rw [← e]; exact c), ih]
    · rw [cp_n c, cp_n (by rw [← e]; exact c), ih]
theorem cp_0 {v : Nat → Int} {T f : Nat} (hT : T.testBit f = true) (h0 : v f = 0) : ∀ n, f < n → cpV v n T = 0
  | 0, h => absurd h (Nat.not_lt_zero f)
  | n + 1, h => by
    by_cases e : f = n
    · subst e
      rw [cp_y hT, h0, Int.mul_zero]
      rfl
    · have ih := cp_0 hT h0 n (by omega)
      by_cases c : T.testBit n = true
      · rw [cp_y c, ih, Int.zero_mul]
        rfl
      · rw [cp_n c, ih, Int.zero_mul]
        rfl
/-- sums over sets -/
def smV (p : Nat → Bool) (v : Nat → Int) : Nat → Int
  | 0 => 0
  | k + 1 => smV p v k + (if p k = true then v k else 0)
theorem sm_s {p : Nat → Bool} {v : Nat → Int} {k : Nat} : smV p v (k + 1) = smV p v k + (if p k = true then v k else 0) := rfl
theorem sm_ext {p q : Nat → Bool} {v w : Nat → Int} : ∀ n, (∀ i, i < n → (if p i = true then v i else 0) = (if q i = true then w i else 0)) → smV p v n = smV q w n
  | 0, _ => rfl
  | n + 1, h => by rw [sm_s, sm_s, sm_ext n (fun i hi => h i (by omega)), h n (by omega)]
theorem sm_two {p q r : Nat → Bool} {v : Nat → Int} : ∀ n, (∀ i, i < n → (if p i = true then v i else 0) = (if q i = true then v i else 0) + (if r i = true then v i else 0)) → smV p v n = smV q v n + smV r v n
  | 0, _ => rfl
  | n + 1, h => by
    have a := sm_two n (fun i hi => h i (by omega))
    have b := h n (by omega)
    rw [sm_s, sm_s, sm_s, a, b]
    omega
theorem sm_nn {p : Nat → Bool} {v : Nat → Int} : ∀ n, (∀ i, i < n → 0 ≤ v i) → 0 ≤ smV p v n ∧ smV p v n ≤ smV (fun _ => true) v n
  | 0, _ => ⟨Int.le_refl _, Int.le_refl _⟩
  | n + 1, h => by
    have a := sm_nn (p := p) n (fun i hi => h i (by omega))
    have b := h n (by omega)
    rw [sm_s, sm_s, if_pos rfl]
    by_cases c : p n = true
    · rw [if_pos c]; omega
    · rw [if_neg c]; omega
theorem sm_mono {p : Nat → Bool} {v : Nat → Int} {n : Nat} (hv : ∀ i, i < n → 0 ≤ v i) : ∀ k, k ≤ n → 0 ≤ smV p v k ∧ ∀ d, k + d ≤ n → smV p v k ≤ smV p v (k + d) := fun k hk => ⟨(sm_nn k (fun i hi => hv i (by omega))).1, fun d => by
  induction d with
  | zero => exact fun _ => Int.le_refl _
  | succ d ih =>
    intro h
    have a := ih (by omega)
    have b := hv (k + d) (by omega)
    rw [show k + (d + 1) = (k + d) + 1 from rfl, sm_s]
    by_cases c : p (k + d) = true
    · rw [if_pos c]; omega
    · rw [if_neg c]; omega⟩
theorem sm_one {p : Nat → Bool} {v : Nat → Int} {a : Nat} (hp : ∀ i, p i = true ↔ i = a) : ∀ n, smV p v n = if a < n then v a else 0
  | 0 => by rw [if_neg (Nat.not_lt_zero a)]; rfl
  | n + 1 => by
    rw [sm_s, sm_one hp n]
    by_cases c : n = a
    · subst c
      rw [if_neg (Nat.lt_irrefl n), if_pos ((hp n).mpr rfl), if_pos (Nat.lt_succ_self n), Int.zero_add]
    · rw [if_neg (fun q => c ((hp n).mp q)), Int.add_zero]
      by_cases d : a < n
      · rw [if_pos d, if_pos (by omega)]
      · rw [if_neg d, if_neg (by omega)]
theorem sm_sp {p : Nat → Bool} {v : Nat → Int} (a : Nat) : ∀ b, smV p v (a + b) = smV p v a + smV (fun i => p (a + i)) (fun i => v (a + i)) b
  | 0 => (Int.add_zero _).symm
  | b + 1 => by
    rw [show a + (b + 1) = (a + b) + 1 from rfl, sm_s, sm_s, sm_sp a b]
    omega
theorem sm_lin {u w x : Nat → Int} : ∀ n, (∀ i, i < n → u i + w i ≤ x i) → smV (fun _ => true) u n + smV (fun _ => true) w n ≤ smV (fun _ => true) x n
  | 0, _ => Int.le_refl _
  | n + 1, h => by
    have a := sm_lin n (fun i hi => h i (by omega))
    have b := h n (by omega)
    rw [sm_s, sm_s, sm_s, if_pos rfl, if_pos rfl, if_pos rfl]
    omega
theorem tb_low {f T : Nat} (h : T < 2 ^ f) : T.testBit f = false := Nat.testBit_lt_two_pow h
theorem tb_add {f T i : Nat} (h : T < 2 ^ f) : (2 ^ f + T).testBit i = (T.testBit i || decide (f = i)) := by
  rw [show 2 ^ f + T = T ||| 2 ^ f from by rw [Nat.or_two_pow_eq_add_of_lt h, Nat.add_comm], Nat.testBit_or, Nat.testBit_two_pow]
theorem cp_tot {v : Nat → Int} {n : Nat} (hv : ∀ f, f < n → 0 ≤ v f ∧ v f ≤ 1000000) : ∀ f, f ≤ n → smV (fun _ => true) (cpV v f) (2 ^ f) ≤ 1000000
  | 0, _ => by
    show smV (fun _ => true) (cpV v 0) 1 ≤ 1000000
    rw [sm_s, if_pos rfl]
    show (0 : Int) + 1000000 ≤ 1000000
    decide
  | f + 1, h => by
    have ih := cp_tot hv f (by omega)
    rw [show 2 ^ (f + 1) = 2 ^ f + 2 ^ f from by rw [Nat.pow_succ]; omega, sm_sp]
    refine Int.le_trans (sm_lin (x := cpV v f) (2 ^ f) (fun i hi => ?_)) ih
    have b := hv f (by omega)
    have c := cpV_bd hv i f (by omega)
    have t1 : ¬ i.testBit f = true := by rw [tb_low hi]; decide
    have t2 : (2 ^ f + i).testBit f = true := by rw [tb_add hi, decide_eq_true rfl, Bool.or_true]
    have e : cpV v f (2 ^ f + i) = cpV v f i := cpV_cg (fun j hj => by rw [tb_add hi, decide_eq_false (by omega), Bool.or_false])
    show cpV v (f + 1) i + cpV v (f + 1) (2 ^ f + i) ≤ cpV v f i
    rw [cp_n t1, cp_y t2, e]
    have m1 : cpV v f i * (1000000 - v f) = cpV v f i * 1000000 - cpV v f i * v f := Int.mul_sub _ _ _
    rw [m1]
    generalize cpV v f i * v f = z
    omega
/-- sums over larger sets -/
def ztV (P : Nat → Int) : Nat → Nat → Int
  | 0, S => P S
  | j + 1, S => ztV P j S + (if S.testBit j = true then 0 else ztV P j (S ||| 2 ^ j))
theorem zt_s {P : Nat → Int} {j S : Nat} : ztV P (j + 1) S = ztV P j S + (if S.testBit j = true then 0 else ztV P j (S ||| 2 ^ j)) := rfl
noncomputable def ztC (j S T : Nat) : Bool := dcP ((∀ i, i < j → S.testBit i = true → T.testBit i = true) ∧ ∀ i, j ≤ i → S.testBit i = T.testBit i)
theorem zt_y {j S T : Nat} (h : S.testBit j = true) : ztC j S T = ztC (j + 1) S T := by
  unfold ztC
  rw [Bool.eq_iff_iff, dcP_iff, dcP_iff]
  constructor
  · refine fun q => ⟨fun i hi hs => ?_, fun i hi => q.2 i (by omega)⟩
    by_cases e : i = j
    · rw [← q.2 i (by omega)]; exact hs
    · exact q.1 i (by omega) hs
  · refine fun q => ⟨fun i hi hs => q.1 i (by omega) hs, fun i hi => ?_⟩
    by_cases e : i = j
    · subst e
      rw [h, q.1 i (by omega) h]
    · exact q.2 i (by omega)
theorem zt_nt {j S T : Nat} (h : S.testBit j = false) (hT : T.testBit j = true) : ztC j S T = false ∧ ztC (j + 1) S T = ztC j (S ||| 2 ^ j) T := by
  have tb : ∀ i, (S ||| 2 ^ j).testBit i = (S.testBit i || decide (j = i)) := fun i => by rw [Nat.testBit_or, Nat.testBit_two_pow]
  refine ⟨dcP_no (fun q => by have := q.2 j (Nat.le_refl j); rw [h, hT] at this; cases this), ?_⟩
  unfold ztC
  rw [Bool.eq_iff_iff, dcP_iff, dcP_iff]
  constructor
  · refine fun q => ⟨fun i hi hs => ?_, fun i hi => ?_⟩
    · rw [tb, decide_eq_false (by omega), Bool.or_false] at hs
      exact q.1 i (by omega) hs
    · rw [tb]
      by_cases e : j = i
      · subst e
        rw [decide_eq_true rfl, Bool.or_true, hT]
      · rw [decide_eq_false e, Bool.or_false]
        exact q.2 i (by omega)
  · refine fun q => ⟨fun i hi hs => ?_, fun i hi => ?_⟩
    · by_cases e : i = j
      · rw [e]; exact hT
      · exact q.1 i (by omega) (by rw [tb, hs, Bool.true_or])
    · have := q.2 i (by omega)
      rw [tb, decide_eq_false (by omega), Bool.or_false] at this
      exact this
theorem zt_nf {j S T : Nat} (h : S.testBit j = false) (hT : T.testBit j = false) : ztC j (S ||| 2 ^ j) T = false ∧ ztC (j + 1) S T = ztC j S T := by
  have tb : ∀ i, (S ||| 2 ^ j).testBit i = (S.testBit i || decide (j = i)) := fun i => by rw [Nat.testBit_or, Nat.testBit_two_pow]
  refine ⟨dcP_no (fun q => by have := q.2 j (Nat.le_refl j); rw [tb, decide_eq_true rfl, Bool.or_true, hT] at this; cases this), ?_⟩
  unfold ztC
  rw [Bool.eq_iff_iff, dcP_iff, dcP_iff]
  constructor
  · refine fun q => ⟨fun i hi hs => q.1 i (by omega) hs, fun i hi => ?_⟩
    by_cases e : i = j
    · rw [e, h, hT]
    · exact q.2 i (by omega)
  · refine fun q => ⟨fun i hi hs => ?_, fun i hi => q.2 i (by omega)⟩
    by_cases e : i = j
    · rw [e, h] at hs; cases hs
    · exact q.1 i (by omega) hs
theorem zt_sm {P : Nat → Int} {n : Nat} : ∀ j S, j ≤ n → S < 2 ^ n → ztV P j S = smV (ztC j S) P (2 ^ n)
  | 0, S, _, hS => by
    rw [sm_one (a := S) (fun i => ?_), if_pos hS]
    · rfl
    · unfold ztC
      rw [dcP_iff]
      exact ⟨fun q => (Nat.eq_of_testBit_eq (fun k => q.2 k (by omega))).symm, fun q => ⟨fun k hk => absurd hk (Nat.not_lt_zero k), fun k _ => by rw [q]⟩⟩
  | j + 1, S, hj, hS => by
    rw [zt_s, zt_sm j S (by omega) hS]
    cases c : S.testBit j with
    | true =>
      rw [if_pos rfl, Int.add_zero]
      exact sm_ext _ (fun i _ => by rw [zt_y c])
    | false =>
      rw [if_neg (by decide), zt_sm j (S ||| 2 ^ j) (by omega) (Nat.or_lt_two_pow hS (Nat.pow_lt_pow_right (by decide) (by omega)))]
      refine (sm_two _ (fun i _ => ?_)).symm
      cases d : i.testBit j with
      | true =>
        have := zt_nt c d
        rw [this.1, this.2, if_neg (show ¬ false = true by decide), Int.zero_add]
      | false =>
        have := zt_nf c d
        rw [this.1, this.2, if_neg (show ¬ false = true by decide), Int.add_zero]
theorem zt_bd {P : Nat → Int} {n : Nat} (h0 : ∀ i, i < 2 ^ n → 0 ≤ P i) (h1 : smV (fun _ => true) P (2 ^ n) ≤ 1000000) {j S : Nat} (hj : j ≤ n) (hS : S < 2 ^ n) : 0 ≤ ztV P j S ∧ ztV P j S ≤ 1000000 := by
  rw [zt_sm j S hj hS]
  have := sm_nn (p := ztC j S) (2 ^ n) h0
  omega
section Zch
variable {N t : Nat} {s : Zs} {D : ZD} {S : ZS}
/-- how each flight stays in so many nights -/
noncomputable def vfV (D : ZD) (th n : Nat) (f : Nat) : Int := if th.testBit f = true then stR (colD D 13 f) n else 0
theorem od_bd (hw : wD D) (hX : wX D) {k : Nat} (hk : k < cnt D 1) : 0 ≤ colD D 13 k ∧ colD D 13 k ≤ 10 := hX.2.2.1 _ (col_mem' hw (k := 1) (j := 3) (by omega) (by omega) (by decide) hk)
theorem vf_bd (hw : wD D) (hX : wX D) {th n : Nat} : ∀ f, f < cnt D 1 → 0 ≤ vfV D th n f ∧ vfV D th n f ≤ 1000000 := fun f hf => by
  unfold vfV
  by_cases c : th.testBit f = true
  · rw [if_pos c]; exact stR_bd (od_bd hw hX hf) n
  · rw [if_neg c]; decide
noncomputable def pTV (D : ZD) (th n : Nat) (T : Nat) : Int := cpV (vfV D th n) (cnt D 1) T
theorem pT_bd (hw : wD D) (hX : wX D) {th n T : Nat} : 0 ≤ pTV D th n T ∧ pTV D th n T ≤ 1000000 := cpV_bd (vf_bd hw hX) T _ (Nat.le_refl _)
theorem pT_tot (hw : wD D) (hX : wX D) {th n : Nat} : smV (fun _ => true) (pTV D th n) (2 ^ cnt D 1) ≤ 1000000 := cp_tot (vf_bd hw hX) _ (Nat.le_refl _)
theorem pT_0 {th n T : Nat} (hT : T < 2 ^ cnt D 1) (h : ndf T th ≠ 0) (hth : th < 1024) (h10 : cnt D 1 ≤ 10) : pTV D th n T = 0 := by
  have b3 : 2 ^ cnt D 1 ≤ 2 ^ 10 := Nat.pow_le_pow_right (by decide) h10
  have b4 : (2 : Nat) ^ 10 = 1024 := by decide
  refine Classical.byContradiction fun z => h (Nat.eq_of_testBit_eq fun i => ?_)
  rw [ndf_tb (by omega) (by omega), Nat.zero_testBit]
  cases a : T.testBit i with
  | false => rfl
  | true =>
    cases b : th.testBit i with
    | true => rfl
    | false =>
      refine absurd (cp_0 a ?_ (cnt D 1) (Nat.lt_of_not_le fun q => ?_)) z
      · unfold vfV
        rw [if_neg (by rw [b]; decide)]
      · have := Nat.testBit_lt_two_pow (Nat.lt_of_lt_of_le hT (Nat.pow_le_pow_right (by decide) q))
        rw [this] at a
        cases a
theorem st_step {o : Int} (ho : 0 ≤ o ∧ o ≤ 10) {k : Nat} : zdiv (w32 (stR o k * w32 (10 - o))) 10 = stR o (k + 1) := by
  have b := stR_bd ho k
  have a : 0 ≤ stR o k * (10 - o) := Int.mul_nonneg b.1 (by omega)
  have c : stR o k * (10 - o) ≤ 1000000 * 10 := Int.mul_le_mul b.2 (by omega) (by omega) (by decide)
  rw [w32_id (z := 10 - o) (by omega) (by omega)]
  show zdiv (w32 (stR o k * (10 - o))) 10 = stR o k * (10 - o) / 10
  generalize stR o k * (10 - o) = z at a c ⊢
  rw [w32_id (by omega) (by omega), zdiv_pos a (by omega) (by decide) (by decide)]
theorem stays_ok {o : Int} (ho : 0 ≤ o ∧ o ≤ 10) {n : Nat} (hn : n ≤ 9) : zC N 4 [(o, 0), ((n : Int), 0)] s (fun r => r = ([(stR o n, 0)], s)) := by
  have loop : ∀ (M k : Nat), k ≤ n → zT (zE 4) (Pt PX0_stays) M (5, [o, (n : Int), stR o k, (k : Int)], [], s) (fun r => r = ([(stR o n, 0)], s)) := by
    intro M
    induction M using Nat.strongRecOn with
    | ind M ih =>
      intro k hk
      refine b_X0_stays_5 _ _ _ _ s (fun g => ?_) (fun g m hm => ?_)
      · have : k = n := by omega
        subst this
        rfl
      · rw [st_step ho, w32_id (by omega) (by omega), show (k : Int) + 1 = ((k + 1 : Nat) : Int) from by omega]
        exact ih m hm (k + 1) (by omega)
  exact c_X0_stays (b_X0_stays_0 _ _ _ _ s (loop N 0 (by omega)))
theorem lg_step {x y : Int} (hx : 0 ≤ x ∧ x ≤ 1000000) (hy : 0 ≤ y ∧ y ≤ 1000000) : zl2i (zdivL (w64 (x * y)) 1000000) = x * y / 1000000 ∧ zdivL (w64 (x * y)) 1000000 = x * y / 1000000 := by
  have m := mul_bd hx hy
  generalize x * y = z at m ⊢
  have e : zdivL (w64 z) 1000000 = z / 1000000 := by rw [w64_id (by omega) (by omega), zdivL_pos m.1 (by omega) (by decide) (by decide)]
  rw [e]
  exact ⟨zl2i_id m.2.2.1 (by omega), rfl⟩
theorem split_ok {v : Nat → Int} {f n : Nat} (hf : f < n) (hn : n ≤ 10) (hv : ∀ f, f < n → 0 ≤ v f ∧ v f ≤ 1000000) (h : ∀ T, T < 2 ^ f → s 171 T = cpV v f T) : zC N 2 [(((170 : Nat) : Int), 0), ((f : Int), 0), (v f, 1)] s (fun r => r.1 = [] ∧ (∀ c j, c ≠ 171 → r.2 c j = s c j) ∧ ∀ T, T < 2 ^ (f + 1) → r.2 171 T = cpV v (f + 1) T) := by
  have p1 : 2 ^ f < 2 ^ 10 := Nat.pow_lt_pow_right (by decide) (by omega)
  have p2 : (2 : Nat) ^ 10 = 1024 := by decide
  have vb := hv f hf
  have loop : ∀ (M k : Nat) (x3 x6 x7 : Int) (s1 : Zs), k ≤ 2 ^ f → (∀ c j, c ≠ 171 → s1 c j = s c j) → (∀ T, k ≤ T → T < 2 ^ f → s1 171 T = cpV v f T) → (∀ T, T < k → s1 171 T = cpV v (f + 1) T) → (∀ T, T < k → s1 171 (2 ^ f + T) = cpV v (f + 1) (2 ^ f + T)) → zT (zE 2) (Pt PX0_split) M (8, [((170 : Nat) : Int), (f : Int), v f, x3, zshl 1 (f : Int), (k : Int), x6, x7], [], s1) (fun r => r.1 = [] ∧ (∀ c j, c ≠ 171 → r.2 c j = s c j) ∧ ∀ T, T < 2 ^ (f + 1) → r.2 171 T = cpV v (f + 1) T) := by
    intro M
    induction M using Nat.strongRecOn with
    | ind M ih =>
      intro k x3 x6 x7 s1 hk f1 f2 f3 f4
      refine b_X0_split_8 _ _ _ _ _ _ _ s1 (fun g => ?_) (fun g m hm => ?_)
      all_goals rw [zshl_1 f (by omega)] at g
      · have : k = 2 ^ f := by omega
        subst this
        refine ⟨rfl, f1, fun T hT => ?_⟩
        rw [Nat.pow_succ] at hT
        by_cases c : T < 2 ^ f
        · exact f3 T c
        · have := f4 (T - 2 ^ f) (by omega)
          rw [show 2 ^ f + (T - 2 ^ f) = T from by omega] at this
          exact this
      · have hk2 : k < 2 ^ f := by omega
        have ov := f2 k (Nat.le_refl k) hk2
        have cb := cpV_bd hv k f (by omega)
        have e1 : zor (k : Int) (zshl 1 (f : Int)) = ((k + 2 ^ f : Nat) : Int) := zor_bit hk2 (by omega)
        have e2 : w64 (1000000 - v f) = 1000000 - v f := w64_id (by omega) (by omega)
        have c1 : zl2i (zdivL (w64 (s1 171 k * v f)) 1000000) = cpV v (f + 1) (2 ^ f + k) := by
          have t2 : (2 ^ f + k).testBit f = true := by rw [tb_add hk2, decide_eq_true rfl, Bool.or_true]
          rw [ov, (lg_step cb vb).1, cp_y t2]
          rw [show cpV v f (2 ^ f + k) = cpV v f k from cpV_cg (fun j hj => by rw [tb_add hk2, decide_eq_false (by omega), Bool.or_false])]
        have c2 : zl2i (zdivL (w64 (s1 171 k * w64 (1000000 - v f))) 1000000) = cpV v (f + 1) k := by
          rw [ov, e2, (lg_step cb (y := 1000000 - v f) (by omega)).1, cp_n (by rw [tb_low hk2]; decide)]
        rw [Int.toNat_natCast, e1, Int.toNat_natCast, c1, c2, w32_id (z := (k : Int) + 1) (by omega) (by omega), show (k : Int) + 1 = ((k + 1 : Nat) : Int) from by omega]
        refine ih m hm (k + 1) _ _ _ _ (by omega) (fun c j hc => ?_) (fun T h1 h2 => ?_) (fun T h1 => ?_) (fun T h1 => ?_)
        · rw [zu_n (fun q => hc q.1), zu_n (fun q => hc q.1)]
          exact f1 c j hc
        · rw [zu_n (by omega), zu_n (by omega)]
          exact f2 T (by omega) h2
        · by_cases q : T = k
          · rw [q, zu_eq]
          · rw [zu_n (by omega), zu_n (by omega)]
            exact f3 T (by omega)
        · by_cases q : T = k
          · rw [q, zu_n (by omega), Nat.add_comm, zu_eq, Nat.add_comm]
          · rw [zu_n (by omega), zu_n (by omega)]
            exact f4 T (by omega)
  exact c_X0_split (b_X0_split_0 _ _ _ _ _ _ _ s (loop N 0 _ _ _ s (Nat.zero_le _) (fun _ _ _ => rfl) (fun T _ hT => h T hT) (fun T hT => absurd hT (Nat.not_lt_zero T)) (fun T hT => absurd hT (Nat.not_lt_zero T))))
theorem addLarger_ok {P : Nat → Int} {j n : Nat} (hj : j < n) (hn : n ≤ 10) (h0 : ∀ i, i < 2 ^ n → 0 ≤ P i) (h1 : smV (fun _ => true) P (2 ^ n) ≤ 1000000) (h : ∀ T, T < 2 ^ n → s 171 T = ztV P j T) : zC N 0 [(((170 : Nat) : Int), 0), (zshl 1 (j : Int), 0), (zshl 1 (n : Int), 0)] s (fun r => r.1 = [] ∧ (∀ c i, c ≠ 171 → r.2 c i = s c i) ∧ ∀ T, T < 2 ^ n → r.2 171 T = ztV P (j + 1) T) := by
  have p1 : 2 ^ n ≤ 2 ^ 10 := Nat.pow_le_pow_right (by decide) hn
  have p2 : (2 : Nat) ^ 10 = 1024 := by decide
  have p3 : 2 ^ j < 2 ^ n := Nat.pow_lt_pow_right (by decide) hj
  have loop : ∀ (M k : Nat) (s1 : Zs), k ≤ 2 ^ n → (∀ c i, c ≠ 171 → s1 c i = s c i) → (∀ T, k ≤ T → T < 2 ^ n → s1 171 T = ztV P j T) → (∀ T, T < k → s1 171 T = ztV P (j + 1) T) → zT (zE 0) (Pt PX0_addLarger) M (2, [((170 : Nat) : Int), zshl 1 (j : Int), zshl 1 (n : Int), (k : Int)], [], s1) (fun r => r.1 = [] ∧ (∀ c i, c ≠ 171 → r.2 c i = s c i) ∧ ∀ T, T < 2 ^ n → r.2 171 T = ztV P (j + 1) T) := by
    intro M
    induction M using Nat.strongRecOn with
    | ind M ih =>
      intro k s1 hk f1 f2 f3
      have ex1 : ∀ m, m < M → k < 2 ^ n → ztV P j k = ztV P (j + 1) k → zT (zE 0) (Pt PX0_addLarger) m (2, [((170 : Nat) : Int), zshl 1 (j : Int), zshl 1 (n : Int), w32 ((k : Int) + 1)], [], s1) (fun r => r.1 = [] ∧ (∀ c i, c ≠ 171 → r.2 c i = s c i) ∧ ∀ T, T < 2 ^ n → r.2 171 T = ztV P (j + 1) T) := fun m hm hk2 e => by
        rw [w32_id (by omega) (by omega), show (k : Int) + 1 = ((k + 1 : Nat) : Int) from by omega]
        refine ih m hm (k + 1) s1 (by omega) f1 (fun T a b => f2 T (by omega) b) (fun T a => ?_)
        by_cases q : T = k
        · rw [q, f2 k (Nat.le_refl k) hk2]; exact e
        · exact f3 T (by omega)
      have an : k < 2 ^ n → (zand (k : Int) (zshl 1 (j : Int)) = 0 ↔ k.testBit j = false) := fun hk2 => by
        rw [zshl_1 j (by omega), zand_nat (by omega) (by omega)]
        have az := and_zero (a := k) (b := 2 ^ j)
        constructor
        · intro q
          have q2 := az.mp (by omega) j (by rw [Nat.testBit_two_pow]; exact decide_eq_true rfl)
          exact Bool.eq_false_iff.mpr q2
        · intro q
          have q2 := az.mpr (fun i hi => by
            rw [Nat.testBit_two_pow] at hi
            have hi := of_decide_eq_true hi
            rw [← hi, q]
            decide)
          rw [q2]
          rfl
      refine b_X0_addLarger_2 _ _ _ s1 (fun g => ?_) (fun g g2 m hm => ?_) (fun g g2 m hm => ?_)
      all_goals rw [zshl_1 n (by omega)] at g
      · have : k = 2 ^ n := by omega
        subst this
        exact ⟨rfl, f1, fun T hT => f3 T hT⟩
      · have hk2 : k < 2 ^ n := by omega
        refine ex1 m hm hk2 ?_
        have t1 : k.testBit j = true := by
          cases c : k.testBit j with
          | true => rfl
          | false => exact absurd ((an hk2).mpr c) g2
        rw [zt_s, if_pos t1, Int.add_zero]
      · have hk2 : k < 2 ^ n := by omega
        have t1 := (an hk2).mp g2
        have ol : k ||| 2 ^ j < 2 ^ n := Nat.or_lt_two_pow hk2 p3
        have oe : zor (k : Int) (zshl 1 (j : Int)) = ((k ||| 2 ^ j : Nat) : Int) := by rw [zshl_1 j (by omega), zor_nat (by omega) (by omega)]
        have v1 := f2 k (Nat.le_refl k) hk2
        have v2 := f2 (k ||| 2 ^ j) Nat.left_le_or ol
        have b1 := zt_bd h0 h1 (j := j) (S := k) (by omega) hk2
        have b2 := zt_bd h0 h1 (j := j) (S := k ||| 2 ^ j) (by omega) ol
        have ev : w32 (s1 171 k + s1 171 (k ||| 2 ^ j)) = ztV P (j + 1) k := by
          rw [v1, v2, w32_id (by omega) (by omega), zt_s, if_neg (by rw [t1]; decide)]
        rw [Int.toNat_natCast, oe, Int.toNat_natCast, ev, w32_id (z := (k : Int) + 1) (by omega) (by omega), show (k : Int) + 1 = ((k + 1 : Nat) : Int) from by omega]
        refine ih m hm (k + 1) _ (by omega) (fun c i hc => by rw [zu_n (fun q => hc q.1)]; exact f1 c i hc) (fun T a b => by rw [zu_n (by omega)]; exact f2 T (by omega) b) (fun T a => ?_)
        by_cases q : T = k
        · rw [q, zu_eq]
        · rw [zu_n (by omega)]
          exact f3 T (by omega)
  exact c_X0_addLarger (b_X0_addLarger_0 _ _ _ s (loop N 0 s (Nat.zero_le _) (fun _ _ _ => rfl) (fun T _ hT => h T hT) (fun T hT => absurd hT (Nat.not_lt_zero T))))
theorem spread_ok (ht : t = 7 ∨ t = 43) (hd : cDn s t D) (hw : wD D) (hX : wX D) {th n : Nat} (hth : th < 1024) (hn : n ≤ 9) : zC N 3 [(((170 : Nat) : Int), 0), ((t : Int), 0), ((th : Int), 0), ((n : Int), 0)] s (fun r => r.1 = [] ∧ (∀ c j, c ≠ 171 → ¬ (c = 170 ∧ j = 1) → r.2 c j = s c j) ∧ r.2 170 1 = (th : Int) ∧ ∀ T, T < 2 ^ cnt D 1 → r.2 171 T = ztV (pTV D th n) (cnt D 1) T) := by
  have h10 : cnt D 1 ≤ 10 := hw.1 1 (by omega)
  have vb := vf_bd hw hX (th := th) (n := n)
  have last : ∀ (M j : Nat) (x5 : Int) (s1 : Zs), j ≤ cnt D 1 → (∀ c j, c ≠ 171 → ¬ (c = 170 ∧ j = 1) → s1 c j = s c j) → s1 170 1 = (th : Int) → (∀ T, T < 2 ^ cnt D 1 → s1 171 T = ztV (pTV D th n) j T) → zT (zE 3) (Pt PX0_spread) M (82, [((170 : Nat) : Int), ((t : Nat) : Int), (th : Int), (n : Int), (j : Int), x5], [], s1) (fun r => r.1 = [] ∧ (∀ c j, c ≠ 171 → ¬ (c = 170 ∧ j = 1) → r.2 c j = s c j) ∧ r.2 170 1 = (th : Int) ∧ ∀ T, T < 2 ^ cnt D 1 → r.2 171 T = ztV (pTV D th n) (cnt D 1) T) := by
    intro M
    induction M using Nat.strongRecOn with
    | ind M ih =>
      intro j x5 s1 hj f1 f2 f3
      have hc : s1 (t + 1) 1 = ((cnt D 1 : Nat) : Int) := (f1 _ _ (by omega) (by omega)).trans (hd.1 1 (by omega))
      refine b_X0_spread_82 _ _ _ _ s1 ht (fun g => ?_) (fun g m hm => ?_)
      all_goals rw [hc] at g
      · have : j = cnt D 1 := by omega
        subst this
        exact ⟨rfl, f1, f2, f3⟩
      · rw [hc]
        refine zC_q (addLarger_ok (P := pTV D th n) (j := j) (by omega) h10 (fun i _ => (pT_bd hw hX).1) (pT_tot hw hX) f3) (fun r hr => ?_)
        obtain ⟨r1, s2⟩ := r
        obtain ⟨e, i1, i2⟩ := hr
        have e : r1 = [] := e
        subst e
        have i1 : ∀ c i, c ≠ 171 → s2 c i = s1 c i := i1
        refine b_X0_spread_109 _ _ _ _ s2 ht (fun m2 hm2 => ?_)
        rw [w32_id (by omega) (by omega), show (j : Int) + 1 = ((j + 1 : Nat) : Int) from by omega]
        exact ih m2 (by omega) (j + 1) _ s2 (by omega) (fun c j hc hn => (i1 c j hc).trans (f1 c j hc hn)) ((i1 _ _ (by omega)).trans f2) i2
  have loop : ∀ (M f : Nat) (x5 : Int) (s1 : Zs), f ≤ cnt D 1 → (∀ c j, c ≠ 171 → ¬ (c = 170 ∧ j = 1) → s1 c j = s c j) → s1 170 1 = (th : Int) → (∀ T, T < 2 ^ f → s1 171 T = cpV (vfV D th n) f T) → zT (zE 3) (Pt PX0_spread) M (16, [((170 : Nat) : Int), ((t : Nat) : Int), (th : Int), (n : Int), (f : Int), x5], [], s1) (fun r => r.1 = [] ∧ (∀ c j, c ≠ 171 → ¬ (c = 170 ∧ j = 1) → r.2 c j = s c j) ∧ r.2 170 1 = (th : Int) ∧ ∀ T, T < 2 ^ cnt D 1 → r.2 171 T = ztV (pTV D th n) (cnt D 1) T) := by
    intro M
    induction M using Nat.strongRecOn with
    | ind M ih =>
      intro f x5 s1 hf f1 f2 f3
      have hd1 : cDn s1 t D := cDn_e hd hw (fun c j hc => f1 c j (by omega) (by omega))
      have hc : s1 (t + 1) 1 = ((cnt D 1 : Nat) : Int) := hd1.1 1 (by omega)
      have sp : ∀ (m : Nat) (x5 y : Int), m < M → f < cnt D 1 → y = vfV D th n f → zC m 2 [(((170 : Nat) : Int), 0), ((f : Int), 0), (y, 1)] s1 (fun p => zT (zE 3) (Pt PX0_spread) m (73, [((170 : Nat) : Int), ((t : Nat) : Int), (th : Int), (n : Int), (f : Int), x5], p.1 ++ [], p.2) (fun r => r.1 = [] ∧ (∀ c j, c ≠ 171 → ¬ (c = 170 ∧ j = 1) → r.2 c j = s c j) ∧ r.2 170 1 = (th : Int) ∧ ∀ T, T < 2 ^ cnt D 1 → r.2 171 T = ztV (pTV D th n) (cnt D 1) T)) := fun m x5 y hm hf2 hy => by
        rw [hy]
        refine zC_q (split_ok hf2 h10 vb f3) (fun r hr => ?_)
        obtain ⟨r1, s2⟩ := r
        obtain ⟨e, i1, i2⟩ := hr
        have e : r1 = [] := e
        subst e
        have i1 : ∀ c i, c ≠ 171 → s2 c i = s1 c i := i1
        refine b_X0_spread_73 _ _ _ _ s2 ht (fun m2 hm2 => ?_)
        rw [w32_id (by omega) (by omega), show (f : Int) + 1 = ((f + 1 : Nat) : Int) from by omega]
        exact ih m2 (by omega) (f + 1) _ s2 (by omega) (fun c j hc hn => (i1 c j hc).trans (f1 c j hc hn)) ((i1 _ _ (by omega)).trans f2) i2
      refine b_X0_spread_16 _ _ _ _ s1 ht (fun g => ?_) (fun g g2 m hm => ?_) (fun g g2 m hm => ?_)
      all_goals rw [hc] at g
      · have : f = cnt D 1 := by omega
        subst this
        exact last M 0 _ s1 (by omega) f1 f2 f3
      · refine sp m _ _ hm (by omega) ?_
        unfold vfV
        rw [if_neg (fun q => g2 ((zbit1 (by omega) (by omega)).mpr q))]
      · have hf2 : f < cnt D 1 := by omega
        have ri : s1 (zrho (t + 12) (f : Int).toNat) 3 = colD D 13 f := by rw [Int.toNat_natCast, zrow1 ht (by omega)]; exact cDn_col hd1 hw (k := 1) (j := 3) (by omega) (by omega) (by decide) hf2
        rw [ri]
        refine zC_q (stays_ok (od_bd hw hX hf2) hn) (fun r hr => ?_)
        subst hr
        refine b_X0_spread_65 _ _ _ _ _ _ s1 ht (fun m2 hm2 => ?_)
        refine sp m2 _ _ (by omega) hf2 ?_
        unfold vfV
        rw [if_pos ((zbit1 (by omega) (by omega)).mp g2)]
  refine c_X0_spread (b_X0_spread_0 _ _ _ _ s ht (loop N 0 _ _ (by omega) (fun c j h1 h2 => by rw [zu_n (by omega), zu_n (by omega)]) (by rw [zu_n (by omega), zu_eq]) (fun T hT => ?_)))
  have : T = 0 := by
    have : (2 : Nat) ^ 0 = 1 := rfl
    omega
  subst this
  rw [zu_eq]
  rfl
/-- the chance that one can come home -/
noncomputable def lvV (D : ZD) (S : ZS) (n p x : Nat) : Int := smV (fun T => dcP (wok D (T ||| cli D S p (-1)) x (colD D 33 p).toNat)) (pTV D (sTh S) n) (2 ^ cnt D 1)
theorem lv_bd (hw : wD D) (hX : wX D) {n p x : Nat} : 0 ≤ lvV D S n p x ∧ lvV D S n p x ≤ 1000000 := by
  have := sm_nn (p := fun T => dcP (wok D (T ||| cli D S p (-1)) x (colD D 33 p).toNat)) (v := pTV D (sTh S) n) (2 ^ cnt D 1) (fun i _ => (pT_bd hw hX).1)
  have q := pT_tot hw hX (th := sTh S) (n := n)
  unfold lvV
  omega
theorem wok_mono {T C U a b : Nat} (h : wok D (T ||| C) a b) (hs : ∀ i, T.testBit i = true → U.testBit i = true) : wok D (U ||| C) a b := ⟨h.1, h.2.1, fun q hq => ⟨(h.2.2 q hq).1, by
  have := (h.2.2 q hq).2
  rw [Nat.testBit_or, Bool.or_eq_true] at this ⊢
  exact this.elim (fun z => Or.inl (hs _ z)) Or.inr⟩⟩
theorem ofAll_ok (hw : wD D) (hX : wX D) (hs : wS D S) {n p : Nat} (hp : p < cnt D 3) {x : Int} (hx : plI D x) (h1 : s 170 1 = ((sTh S : Nat) : Int)) (h2 : ∀ T, T < 2 ^ cnt D 1 → s 171 T = ztV (pTV D (sTh S) n) (cnt D 1) T) : zC N 1 [(((170 : Nat) : Int), 0), (lkV D S p x, 0)] s (fun r => r = ([(lvV D S n p x.toNat, 0)], s)) := by
  have b1 := wS_lt hw hs
  have h10 : cnt D 1 ≤ 10 := hw.1 1 (by omega)
  have p1 : 2 ^ cnt D 1 ≤ 2 ^ 10 := Nat.pow_le_pow_right (by decide) h10
  have p2 : (2 : Nat) ^ 10 = 1024 := by decide
  have it := lk_iff (S := S) hw hX hp b1 hx
  refine c_X0_ofAll (b_X0_ofAll_0 _ s (fun g => ?_) (fun g => ?_))
  all_goals rw [h1] at g
  · have nw : ¬ wok D (sTh S ||| cli D S p (-1)) x.toNat (colD D 33 p).toNat := fun q => g (it.mpr q)
    have e : lvV D S n p x.toNat = 0 := by
      unfold lvV
      rw [sm_ext (q := fun _ => false) (w := fun _ => 0) (2 ^ cnt D 1) (fun T hT => ?_)]
      · have z : ∀ k, smV (fun _ => false) (fun _ => 0) k = 0 := fun k => by
          induction k with
          | zero => rfl
          | succ k ih => rw [sm_s, ih]; rfl
        exact z _
      · rw [if_neg (show ¬ false = true by decide)]
        by_cases c : dcP (wok D (T ||| cli D S p (-1)) x.toNat (colD D 33 p).toNat) = true
        · rw [if_pos c]
          refine pT_0 hT (fun z => nw (wok_mono (dcP_iff.mp c) (fun i hi => ?_))) b1 h10
          have tb := ndf_tb (a := T) (b := sTh S) (i := i) (by omega) (by omega)
          rw [z, Nat.zero_testBit, hi, Bool.true_and] at tb
          cases q : (sTh S).testBit i with
          | true => rfl
          | false => rw [q] at tb; cases tb
        · rw [if_neg c]
    show ([((0 : Int), 0)], s) = _
    rw [e]
  · have ok := it.mp g
    have cr := hX.2.2.2.2.2.2.2.2.1 _ (col_mem' hw (k := 3) (j := 3) (by omega) (by omega) (by decide) hp)
    have cr : plI D (colD D 33 p) := cr
    have b2 : cli D S p (-1) < 1024 := bset_10 hw
    have b3 : waB D x.toNat (colD D 33 p).toNat < 2 ^ cnt D 1 := bset_lt _ _
    have ew : waV D x (colD D 33 p) = ((waB D x.toNat (colD D 33 p).toNat : Nat) : Int) := if_pos (dcP_yes ⟨hx, cr, fun q hq => (ok.2.2 q hq).1⟩)
    have el : ∃ L : Nat, lkV D S p x = ((L : Nat) : Int) ∧ L < 2 ^ cnt D 1 := by
      refine ⟨ndf (waB D x.toNat (colD D 33 p).toNat) (cli D S p (-1)), ?_, Nat.lt_of_le_of_lt (ndf_le (by omega)) b3⟩
      unfold lkV
      rw [ew, zandn (by omega)]
    obtain ⟨L, el, hL⟩ := el
    have e : s 171 (lkV D S p x).toNat = lvV D S n p x.toNat := by
      rw [el, Int.toNat_natCast, h2 L hL, zt_sm _ _ (Nat.le_refl _) hL]
      unfold lvV
      refine sm_ext _ (fun T hT => ?_)
      have iT := lk_iff (S := S) (th := T) hw hX hp (by omega) hx
      rw [el, zandn (by omega)] at iT
      have q : ztC (cnt D 1) L T = dcP (wok D (T ||| cli D S p (-1)) x.toNat (colD D 33 p).toNat) := by
        unfold ztC
        rw [Bool.eq_iff_iff, dcP_iff, dcP_iff, ← iT]
        constructor
        · intro q
          have z : ndf L T = 0 := by
            apply Nat.eq_of_testBit_eq
            intro i
            rw [ndf_tb (by omega) (by omega), Nat.zero_testBit]
            by_cases hi : i < cnt D 1
            · cases a : L.testBit i with
              | false => rfl
              | true => rw [q.1 i hi a]; rfl
            · rw [q.2 i (by omega)]
              cases T.testBit i <;> rfl
          rw [z]
          rfl
        · intro q
          have z : ndf L T = 0 := by omega
          refine ⟨fun i hi hl => ?_, fun i hi => ?_⟩
          · have tb := ndf_tb (a := L) (b := T) (i := i) (by omega) (by omega)
            rw [z, Nat.zero_testBit, hl, Bool.true_and] at tb
            cases q : T.testBit i with
            | true => rfl
            | false => rw [q] at tb; cases tb
          · have pw : 2 ^ cnt D 1 ≤ 2 ^ i := Nat.pow_le_pow_right (by decide) hi
            rw [tb_low (show L < 2 ^ i by omega), tb_low (show T < 2 ^ i by omega)]
      rw [q]
    show ([(s 171 (lkV D S p x).toNat, 0)], s) = _
    rw [e]
/-- the model's -/
theorem laysOdds_m (hm : mT s D) (hw : wD D) (hX : wX D) (hS : mSt s 216 0 D S) (hs : wS D S) {n : Nat} (hn : n ≤ 9) : zC N 1464 [(((172 : Nat) : Int), 0), ((n : Int), 0)] s (fun r => r.1 = [] ∧ (∀ c j, c ≠ 227 → c ≠ 228 → r.2 c j = s c j) ∧ ∀ T, T < 2 ^ cnt D 1 → r.2 228 T = pTV D (sTh S) n T) := by
  have h10 : cnt D 1 ≤ 10 := hw.1 1 (by omega)
  have p1 : 2 ^ cnt D 1 ≤ 2 ^ 10 := Nat.pow_le_pow_right (by decide) h10
  have p2 : (2 : Nat) ^ 10 = 1024 := by decide
  have p3 : 1 ≤ 2 ^ cnt D 1 := Nat.one_le_two_pow
  have b1 := wS_lt hw hs
  have vb := vf_bd hw hX (th := sTh S) (n := n)
  have inner : ∀ (M f T : Nat) (X x3 : Int) (s1 : Zs), f ≤ cnt D 1 → T < 2 ^ cnt D 1 → (∀ c j, c ≠ 227 → c ≠ 228 → s1 c j = s c j) → (∀ k, k < cnt D 1 → s1 227 k = stR (colD D 13 k) n) → (0 ≤ X ∧ X ≤ 1000000) → (ndf T (sTh S) = 0 → X = cpV (vfV D (sTh S) n) f T) → (∀ (m : Nat) (x3 x5 x6 : Int) (s2 : Zs), m < M → (∀ c j, ¬ (c = 228 ∧ j = T) → s2 c j = s1 c j) → s2 228 T = pTV D (sTh S) n T → zT (zE 1464) (Pt PX11_laysOdds) m (67, [((172 : Nat) : Int), (n : Int), ((T + 1 : Nat) : Int), x3, x5, x6], [], s2) (fun r => r.1 = [] ∧ (∀ c j, c ≠ 227 → c ≠ 228 → r.2 c j = s c j) ∧ ∀ T, T < 2 ^ cnt D 1 → r.2 228 T = pTV D (sTh S) n T)) → zT (zE 1464) (Pt PX11_laysOdds) M (82, [((172 : Nat) : Int), (n : Int), (T : Int), X, x3, (f : Int)], [], s1) (fun r => r.1 = [] ∧ (∀ c j, c ≠ 227 → c ≠ 228 → r.2 c j = s c j) ∧ ∀ T, T < 2 ^ cnt D 1 → r.2 228 T = pTV D (sTh S) n T) := by
    intro M
    induction M using Nat.strongRecOn with
    | ind M ih =>
      intro f T X x3 s1 hf hT f1 f2 bX eX out
      have hm1 : mT s1 D := mT_e (fun c j a b => f1 c j (by omega) (by omega)) hm
      have hS1 : mSt s1 216 0 D S := mSt_e hS (fun j => f1 _ _ (by omega) (by omega))
      have hc : s1 174 1 = ((cnt D 1 : Nat) : Int) := hm1.1 1 (by omega)
      have e0 : s1 216 0 = ((sTh S : Nat) : Int) := hS1.1
      have e1 : w32 ((T : Int) + 1) = ((T + 1 : Nat) : Int) := by rw [w32_id (by omega) (by omega)]; omega
      have ef : f < cnt D 1 → w32 ((f : Int) + 1) = ((f + 1 : Nat) : Int) := fun hf2 => by rw [w32_id (by omega) (by omega)]; omega
      refine b_X11_laysOdds_82 _ _ _ _ _ s1 (fun g g2 m hm' => ?_) (fun g g2 m hm' => ?_) (fun g g2 g3 m hm' => ?_) (fun g g2 g3 m hm' => ?_) (fun g g2 m hm' => ?_)
      all_goals rw [hc] at g
      · rw [e0, zandn (by omega)] at g2
        rw [e1, Int.toNat_natCast]
        refine out m _ _ _ _ hm' (fun c j hcj => zu_n hcj) ?_
        rw [zu_eq]
        exact (pT_0 hT (fun q => g2 (by rw [q]; rfl)) b1 h10).symm
      · rw [e0, zandn (by omega)] at g2
        have : f = cnt D 1 := by omega
        subst this
        rw [e1, Int.toNat_natCast, zl2i_id bX.1 (by omega)]
        refine out m _ _ _ _ hm' (fun c j hcj => zu_n hcj) ?_
        rw [zu_eq]
        exact eX (by omega)
      all_goals
        have hf2 : f < cnt D 1 := by omega
        rw [e0] at g2
        rw [ef hf2]
      · have tb : (sTh S).testBit f = true := Classical.byContradiction fun c => g2 ((zbit0 (by omega) (by omega)).mpr c)
        have vv : vfV D (sTh S) n f = stR (colD D 13 f) n := if_pos tb
        have v2 := vb f hf2
        rw [vv] at v2
        have ew : w32 (1000000 - s1 227 (f : Int).toNat) = 1000000 - stR (colD D 13 f) n := by
          rw [Int.toNat_natCast, f2 f hf2, w32_id (by omega) (by omega)]
        have st := lg_step bX (y := 1000000 - stR (colD D 13 f) n) (by omega)
        have mb := mul_bd bX (y := 1000000 - stR (colD D 13 f) n) (by omega)
        rw [ew, st.2]
        exact ih m hm' (f + 1) T _ _ s1 (by omega) hT f1 f2 ⟨mb.2.2.1, by omega⟩ (fun q => by
          rw [cp_n (fun z => g3 ((zbit1 (by omega) (by omega)).mpr z)), ← eX q, vv]) (fun m' x3 x5 x6 s2 hm'' => out m' x3 x5 x6 s2 (by omega))
      · have tb : (sTh S).testBit f = true := Classical.byContradiction fun c => g2 ((zbit0 (by omega) (by omega)).mpr c)
        have vv : vfV D (sTh S) n f = stR (colD D 13 f) n := if_pos tb
        have v2 := vb f hf2
        rw [vv] at v2
        have st := lg_step bX v2
        have mb := mul_bd bX v2
        rw [Int.toNat_natCast, f2 f hf2, st.2]
        exact ih m hm' (f + 1) T _ _ s1 (by omega) hT f1 f2 ⟨mb.2.2.1, by omega⟩ (fun q => by
          rw [cp_y ((zbit1 (by omega) (by omega)).mp g3), ← eX q, vv]) (fun m' x3 x5 x6 s2 hm'' => out m' x3 x5 x6 s2 (by omega))
      · have tb : ¬ (sTh S).testBit f = true := (zbit0 (by omega) (by omega)).mp g2
        have vv : vfV D (sTh S) n f = 0 := if_neg tb
        exact ih m hm' (f + 1) T _ _ s1 (by omega) hT f1 f2 bX (fun q => by
          have tT : ¬ T.testBit f = true := fun z => by
            have t2 := ndf_tb (a := T) (b := sTh S) (i := f) (by omega) (by omega)
            rw [q, Nat.zero_testBit, z, Bool.true_and, Bool.eq_false_iff.mpr tb] at t2
            cases t2
          rw [cp_n tT, ← eX q, vv, Int.sub_zero, Int.mul_ediv_cancel _ (by decide)]) (fun m' x3 x5 x6 s2 hm'' => out m' x3 x5 x6 s2 (by omega))
  have sets : ∀ (M T : Nat) (x3 x4 x5 : Int) (s1 : Zs), T ≤ 2 ^ cnt D 1 → (∀ c j, c ≠ 227 → c ≠ 228 → s1 c j = s c j) → (∀ k, k < cnt D 1 → s1 227 k = stR (colD D 13 k) n) → (∀ U, U < T → s1 228 U = pTV D (sTh S) n U) → zT (zE 1464) (Pt PX11_laysOdds) M (67, [((172 : Nat) : Int), (n : Int), (T : Int), x3, x4, x5], [], s1) (fun r => r.1 = [] ∧ (∀ c j, c ≠ 227 → c ≠ 228 → r.2 c j = s c j) ∧ ∀ T, T < 2 ^ cnt D 1 → r.2 228 T = pTV D (sTh S) n T) := by
    intro M
    induction M using Nat.strongRecOn with
    | ind M ih =>
      intro T x3 x4 x5 s1 hT f1 f2 f3
      have hc : s1 174 1 = ((cnt D 1 : Nat) : Int) := (f1 _ _ (by omega) (by omega)).trans (hm.1 1 (by omega))
      refine b_X11_laysOdds_67 _ _ _ _ _ s1 (fun g => ?_) (fun g => ?_)
      all_goals rw [hc, al_e hw] at g
      · exact ⟨rfl, f1, fun U hU => f3 U (by omega)⟩
      · refine inner M 0 T _ _ s1 (by omega) (by omega) f1 f2 ⟨by decide, by decide⟩ (fun _ => rfl) (fun m x3 x5 x6 s2 hm' i1 i2 => ?_)
        refine ih m hm' (T + 1) x3 x5 x6 s2 (by omega) (fun c j h1 h2 => (i1 c j (by omega)).trans (f1 c j h1 h2)) (fun k hk => (i1 _ _ (by omega)).trans (f2 k hk)) (fun U hU => ?_)
        by_cases q : U = T
        · rw [q]; exact i2
        · exact (i1 _ _ (by omega)).trans (f3 U (by omega))
  have stay : ∀ (M k : Nat) (x4 x5 : Int) (f : Nat) (s1 : Zs), k ≤ n → f < cnt D 1 → (∀ c j, c ≠ 227 → c ≠ 228 → s1 c j = s c j) → (∀ i, i < f → s1 227 i = stR (colD D 13 i) n) → s1 227 f = stR (colD D 13 f) k → (∀ (m : Nat) (x3 x4 x5 : Int) (s2 : Zs), m < M → (∀ c j, c ≠ 227 → c ≠ 228 → s2 c j = s c j) → (∀ i, i < f + 1 → s2 227 i = stR (colD D 13 i) n) → zT (zE 1464) (Pt PX11_laysOdds) m (2, [((172 : Nat) : Int), (n : Int), ((f + 1 : Nat) : Int), x3, x4, x5], [], s2) (fun r => r.1 = [] ∧ (∀ c j, c ≠ 227 → c ≠ 228 → r.2 c j = s c j) ∧ ∀ T, T < 2 ^ cnt D 1 → r.2 228 T = pTV D (sTh S) n T)) → zT (zE 1464) (Pt PX11_laysOdds) M (23, [((172 : Nat) : Int), (n : Int), (f : Int), (k : Int), x4, x5], [], s1) (fun r => r.1 = [] ∧ (∀ c j, c ≠ 227 → c ≠ 228 → r.2 c j = s c j) ∧ ∀ T, T < 2 ^ cnt D 1 → r.2 228 T = pTV D (sTh S) n T) := by
    intro M
    induction M using Nat.strongRecOn with
    | ind M ih =>
      intro k x4 x5 f s1 hk hf f1 f2 f3 out
      refine b_X11_laysOdds_23 _ _ _ _ _ s1 (fun g m hm' => ?_) (fun g m hm' => ?_)
      · have : k = n := by omega
        subst this
        rw [w32_id (by omega) (by omega), show (f : Int) + 1 = ((f + 1 : Nat) : Int) from by omega]
        refine out m _ _ _ s1 hm' f1 (fun i hi => ?_)
        by_cases q : i = f
        · rw [q]; exact f3
        · exact f2 i (by omega)
      · have hm1 : mT s1 D := mT_e (fun c j a b => f1 c j (by omega) (by omega)) hm
        have ro : s1 183 f = colD D 13 f := mcol hm1 hw (k := 1) (j := 3) (by omega) (by omega) (by decide) (by decide) hf
        rw [Int.toNat_natCast, f3, ro, st_step (od_bd hw hX hf), w32_id (by omega) (by omega), show (k : Int) + 1 = ((k + 1 : Nat) : Int) from by omega]
        refine ih m hm' (k + 1) _ _ f _ (by omega) hf (fun c j h1 h2 => by rw [zu_n (fun q => h1 q.1)]; exact f1 c j h1 h2) (fun i hi => by rw [zu_n (by omega)]; exact f2 i hi) (zu_eq _ _ _ _) (fun m' x3 x4 x5 s2 hm'' => out m' x3 x4 x5 s2 (by omega))
  have loop : ∀ (M f : Nat) (x3 x4 x5 : Int) (s1 : Zs), f ≤ cnt D 1 → (∀ c j, c ≠ 227 → c ≠ 228 → s1 c j = s c j) → (∀ i, i < f → s1 227 i = stR (colD D 13 i) n) → zT (zE 1464) (Pt PX11_laysOdds) M (2, [((172 : Nat) : Int), (n : Int), (f : Int), x3, x4, x5], [], s1) (fun r => r.1 = [] ∧ (∀ c j, c ≠ 227 → c ≠ 228 → r.2 c j = s c j) ∧ ∀ T, T < 2 ^ cnt D 1 → r.2 228 T = pTV D (sTh S) n T) := by
    intro M
    induction M using Nat.strongRecOn with
    | ind M ih =>
      intro f x3 x4 x5 s1 hf f1 f2
      have hc : s1 174 1 = ((cnt D 1 : Nat) : Int) := (f1 _ _ (by omega) (by omega)).trans (hm.1 1 (by omega))
      refine b_X11_laysOdds_2 _ _ _ _ _ s1 (fun g => ?_) (fun g => ?_)
      all_goals rw [hc] at g
      · have : f = cnt D 1 := by omega
        subst this
        exact sets M 0 _ _ _ s1 (by omega) f1 f2 (fun U hU => absurd hU (Nat.not_lt_zero U))
      · rw [Int.toNat_natCast]
        refine stay M 0 _ _ f _ (by omega) (by omega) (fun c j h1 h2 => by rw [zu_n (fun q => h1 q.1)]; exact f1 c j h1 h2) (fun i hi => by rw [zu_n (by omega)]; exact f2 i hi) (zu_eq _ _ _ _) (fun m x3 x4 x5 s2 hm' i1 i2 => ih m hm' (f + 1) x3 x4 x5 s2 (by omega) i1 i2)
  exact c_X11_laysOdds (b_X11_laysOdds_0 _ _ _ _ _ s (loop N 0 _ _ _ s (by omega) (fun _ _ _ _ => rfl) (fun i hi => absurd hi (Nat.not_lt_zero i))))
theorem liveOf_m (hF : wF D) (hX : wX D) (hm : mT s D) (hw : wD D) (hS : mSt s 216 0 D S) {n p : Nat} (hp : p < cnt D 3) {x : Int} (hx : plI D x) (hP : ∀ T, T < 2 ^ cnt D 1 → s 228 T = pTV D (sTh S) n T) : zC N 1469 [(((172 : Nat) : Int), 0), ((p : Int), 0), (x, 0)] s (fun r => r = ([(lvV D S n p x.toNat, 0)], s)) := by
  have h10 : cnt D 1 ≤ 10 := hw.1 1 (by omega)
  have p1 : 2 ^ cnt D 1 ≤ 2 ^ 10 := Nat.pow_le_pow_right (by decide) h10
  have p2 : (2 : Nat) ^ 10 = 1024 := by decide
  have p3 : 1 ≤ 2 ^ cnt D 1 := Nat.one_le_two_pow
  have hc : s 174 1 = ((cnt D 1 : Nat) : Int) := hm.1 1 (by omega)
  have lb := lv_bd (S := S) (n := n) (p := p) (x := x.toNat) hw hX
  have loop : ∀ (M k : Nat), k ≤ 2 ^ cnt D 1 → zT (zE 1469) (Pt PX11_liveOf) M (5, [((172 : Nat) : Int), (p : Int), x, smV (fun T => dcP (wok D (T ||| cli D S p (-1)) x.toNat (colD D 33 p).toNat)) (pTV D (sTh S) n) k, (k : Int)], [], s) (fun r => r = ([(lvV D S n p x.toNat, 0)], s)) := by
    intro M
    induction M using Nat.strongRecOn with
    | ind M ih =>
      intro k hk
      have on : ∀ (m : Nat) (v : Int), m < M → k < 2 ^ cnt D 1 → v = smV (fun T => dcP (wok D (T ||| cli D S p (-1)) x.toNat (colD D 33 p).toNat)) (pTV D (sTh S) n) (k + 1) → zT (zE 1469) (Pt PX11_liveOf) m (5, [((172 : Nat) : Int), (p : Int), x, v, w32 ((k : Int) + 1)], [], s) (fun r => r = ([(lvV D S n p x.toNat, 0)], s)) := fun m v hm' hk2 hv => by
        rw [hv, w32_id (by omega) (by omega), show (k : Int) + 1 = ((k + 1 : Nat) : Int) from by omega]
        exact ih m hm' (k + 1) (by omega)
      refine b_X11_liveOf_5 _ _ _ _ s (fun g => ?_) (fun g g2 m hm' => ?_) (fun g g2 m hm' => ?_)
      all_goals rw [hc, al_e hw] at g
      · have : k = 2 ^ cnt D 1 := by omega
        subst this
        rfl
      all_goals
        have hk2 : k < 2 ^ cnt D 1 := by omega
        have pb := pT_bd (th := sTh S) (n := n) (T := k) hw hX
        rw [Int.toNat_natCast, hP k hk2] at g2
      · refine on m _ hm' hk2 ?_
        rw [sm_s, show pTV D (sTh S) n k = 0 from by omega]
        by_cases c : dcP (wok D (k ||| cli D S p (-1)) x.toNat (colD D 33 p).toNat) = true
        · rw [if_pos c, Int.add_zero]
        · rw [if_neg c, Int.add_zero]
      · refine zC_q (isCut_m hF hX hm hw hS hp hk2 hx) (fun r hr => ?_)
        subst hr
        refine b_X11_liveOf_32 _ _ _ _ _ s (fun g3 m2 hm2 => ?_) (fun g3 m2 hm2 => ?_)
        · refine on m2 _ (by omega) hk2 ?_
          rw [sm_s, if_neg (fun c => g3 (if_pos c)), Int.add_zero]
        · refine on m2 _ (by omega) hk2 ?_
          have c : dcP (wok D (k ||| cli D S p (-1)) x.toNat (colD D 33 p).toNat) = true := Classical.byContradiction fun c => by
            rw [if_neg c] at g3
            exact absurd g3 (by decide)
          have mo := sm_mono (p := fun T => dcP (wok D (T ||| cli D S p (-1)) x.toNat (colD D 33 p).toNat)) (v := pTV D (sTh S) n) (n := 2 ^ cnt D 1) (fun i _ => (pT_bd hw hX).1) (k + 1) (by omega)
          have m2' := mo.2 (2 ^ cnt D 1 - (k + 1)) (by omega)
          rw [show k + 1 + (2 ^ cnt D 1 - (k + 1)) = 2 ^ cnt D 1 from by omega] at m2'
          have m3 : smV (fun T => dcP (wok D (T ||| cli D S p (-1)) x.toNat (colD D 33 p).toNat)) (pTV D (sTh S) n) (k + 1) ≤ 1000000 := Int.le_trans m2' lb.2
          have m4 := mo.1
          rw [sm_s, if_pos c] at m3 m4 ⊢
          rw [Int.toNat_natCast, hP k hk2, w32_id (by omega) (by omega)]
  exact c_X11_liveOf (b_X11_liveOf_0 _ _ _ _ s (loop N 0 (by omega)))
noncomputable def livA (D : ZD) (S : ZS) (p x n : Int) : Int := if dcP (0 ≤ p ∧ p < cnt D 3 ∧ plI D x ∧ 1 ≤ n ∧ n ≤ 9) = true then lvV D S n.toNat p.toNat x.toNat else -1
theorem live_c (ht : t = 7 ∨ t = 43) (e3 : s 0 3 = ((t : Nat) : Int)) (hd : cDn s t D) (hw : wD D) (hX : wX D) (hS : cSt s 79 D S) (hs : wS D S) {p x n : Int} (hx : x < 2147483648) : zC N 1301 [(((0 : Nat) : Int), 0), (p, 0), (x, 0), (n, 0)] s (fun r => r.1 = [(livA D S p x n, 0)]) := by
  have no : ¬ (0 ≤ p ∧ p < cnt D 3 ∧ plI D x ∧ 1 ≤ n ∧ n ≤ 9) → [((-1 : Int), 0)] = [(livA D S p x n, 0)] := fun q => by
    unfold livA; rw [if_neg (by rw [dcP_no q]; decide)]
  refine c_X10_live (b_X10_live_0 _ _ _ s ht (fun m _ => ?_))
  rw [e3]
  refine zC_q (has_ok ht hd (k := 3) (by omega)) (fun r hr => ?_)
  subst hr
  refine b_X10_live_9 _ _ _ _ s ht (fun g => no (fun q => by rw [if_pos (dcP_yes ⟨q.1, q.2.1⟩)] at g; omega)) (fun g m2 _ => ?_)
  have c : 0 ≤ p ∧ p < cnt D 3 := Classical.byContradiction fun c => g (if_neg (by rw [dcP_no c]; decide))
  obtain ⟨k, rfl⟩ := Int.eq_ofNat_of_zero_le c.1
  have hk : k < cnt D 3 := by omega
  rw [e3]
  refine zC_q (isPlace_ok ht hd hw hx) (fun r hr => ?_)
  subst hr
  refine b_X10_live_20 _ _ _ _ s ht (fun g2 => no (fun q => by rw [if_pos (dcP_yes q.2.2.1)] at g2; omega)) (fun g2 g3 => no (fun q => by omega)) (fun g2 g3 g4 m3 _ => ?_) (fun g2 g3 g4 => no (fun q => by omega))
  have pl : plI D x := Classical.byContradiction fun c => g2 (if_neg (by rw [dcP_no c]; decide))
  obtain ⟨i, rfl⟩ := Int.eq_ofNat_of_zero_le (show 0 ≤ n by omega)
  have fin : livA D S (k : Int) x (i : Int) = lvV D S i k x.toNat := by
    unfold livA
    rw [if_pos (dcP_yes ⟨c.1, c.2, pl, g3, g4⟩), Int.toNat_natCast, Int.toNat_natCast]
  rw [e3, hS.1]
  refine zC_q (spread_ok ht hd hw hX (wS_lt hw hs) (by omega)) (fun r hr => ?_)
  obtain ⟨r1, s1⟩ := r
  obtain ⟨e, f1, f2, f3⟩ := hr
  have e : r1 = [] := e
  subst e
  have f1 : ∀ c j, c ≠ 171 → ¬ (c = 170 ∧ j = 1) → s1 c j = s c j := f1
  have hd1 : cDn s1 t D := cDn_e hd hw (fun c j hc => f1 c j (by omega) (by omega))
  have hS1 : cSt s1 79 D S := cSt_e hS (fun c j a b _ => f1 c j (by omega) (by omega))
  have e31 : s1 0 3 = ((t : Nat) : Int) := (f1 _ _ (by omega) (by omega)).trans e3
  refine b_X10_live_55 _ _ _ s1 ht (fun m4 _ => ?_)
  rw [e31]
  refine zC_q (lack_ok ht (b := 79) rfl hd1 hw hX hS1 hk hx) (fun r hr => ?_)
  subst hr
  refine b_X10_live_72 _ _ _ _ s1 ht (fun m5 _ => ?_)
  refine zC_q (ofAll_ok hw hX hs hk pl f2 f3) (fun r hr => ?_)
  subst hr
  refine b_X10_live_75 _ _ _ _ s1 ht ?_
  show [(lvV D S i k x.toNat, 0)] = _
  rw [fin]
theorem live_m (hF : wF D) (hX : wX D) (hm : mT s D) (hw : wD D) (hS : mSt s 216 0 D S) (hs : wS D S) {p x n : Int} (hx : x < 2147483648) : zC N 1468 [(((172 : Nat) : Int), 0), (p, 0), (x, 0), (n, 0)] s (fun r => r.1 = [(livA D S p x n, 0)]) := by
  have hc : s 174 3 = ((cnt D 3 : Nat) : Int) := hm.1 3 (by omega)
  have no : ¬ (0 ≤ p ∧ p < cnt D 3 ∧ plI D x ∧ 1 ≤ n ∧ n ≤ 9) → [((-1 : Int), 0)] = [(livA D S p x n, 0)] := fun q => by
    unfold livA; rw [if_neg (by rw [dcP_no q]; decide)]
  refine c_X11_live (b_X11_live_0 _ _ _ s (fun g => no (fun q => by omega)) (fun g g2 => no (fun q => by omega)) (fun g g2 m _ => ?_))
  obtain ⟨k, rfl⟩ := Int.eq_ofNat_of_zero_le g
  have hk : k < cnt D 3 := by omega
  have hm1 : mT (zu s 172 0 0) D := mT_e (fun c j a b => zu_n (by omega)) hm
  have hS1 : mSt (zu s 172 0 0) 216 0 D S := mSt_e hS (fun j => zu_n (by omega))
  generalize zu s 172 0 0 = s1 at hm1 hS1 ⊢
  refine zC_q (isPlace_m hm1 hw hx) (fun r hr => ?_)
  subst hr
  refine b_X11_live_18 _ _ _ _ s1 (fun g3 => no (fun q => by rw [if_pos (dcP_yes q.2.2.1)] at g3; omega)) (fun g3 g4 => no (fun q => by omega)) (fun g3 g4 g5 => no (fun q => by omega)) (fun g3 g4 g5 m2 _ => ?_)
  have pl : plI D x := Classical.byContradiction fun c => g3 (if_neg (by rw [dcP_no c]; decide))
  obtain ⟨i, rfl⟩ := Int.eq_ofNat_of_zero_le (show 0 ≤ n by omega)
  have fin : livA D S (k : Int) x (i : Int) = lvV D S i k x.toNat := by
    unfold livA
    rw [if_pos (dcP_yes ⟨g, by omega, pl, g4, g5⟩), Int.toNat_natCast, Int.toNat_natCast]
  refine zC_q (laysOdds_m hm1 hw hX hS1 hs (by omega)) (fun r hr => ?_)
  obtain ⟨r1, s2⟩ := r
  obtain ⟨e, f1, f3⟩ := hr
  have e : r1 = [] := e
  subst e
  have f1 : ∀ c j, c ≠ 227 → c ≠ 228 → s2 c j = s1 c j := f1
  refine b_X11_live_38 _ _ _ s2 (fun m4 _ => ?_)
  refine zC_q (liveOf_m hF hX (mT_e (fun c j a b => f1 c j (by omega) (by omega)) hm1) hw (mSt_e hS1 (fun j => f1 _ _ (by omega) (by omega))) hk pl f3) (fun r hr => ?_)
  subst hr
  refine b_X11_live_44 _ _ _ _ s2 ?_
  show [(lvV D S i k x.toNat, 0)] = _
  rw [fin]
/-- best: when a place is taken -/
def beC (D : ZD) (S : ZS) (n p k : Nat) (b : Int) : Prop := plI D (k : Int) ∧ (b < 0 ∨ lvV D S n p b.toNat < lvV D S n p k)
noncomputable def beA (D : ZD) (S : ZS) (p n : Int) : Int := if dcP (0 ≤ p ∧ p < cnt D 3 ∧ 1 ≤ n ∧ n ≤ 9) = true then bsS (beC D S n.toNat p.toNat) 30 else -1
theorem best_c (ht : t = 7 ∨ t = 43) (e3 : s 0 3 = ((t : Nat) : Int)) (hd : cDn s t D) (hw : wD D) (hX : wX D) (hS : cSt s 79 D S) (hs : wS D S) {p n : Int} : zC N 1283 [(((0 : Nat) : Int), 0), (p, 0), (n, 0)] s (fun r => r.1 = [(beA D S p n, 0)]) := by
  have no : ¬ (0 ≤ p ∧ p < cnt D 3 ∧ 1 ≤ n ∧ n ≤ 9) → [((-1 : Int), 0)] = [(beA D S p n, 0)] := fun q => by
    unfold beA; rw [if_neg (by rw [dcP_no q]; decide)]
  refine c_X10_best (b_X10_best_0 _ _ _ _ _ _ _ s ht (fun m _ => ?_))
  rw [e3]
  refine zC_q (has_ok ht hd (k := 3) (by omega)) (fun r hr => ?_)
  subst hr
  refine b_X10_best_9 _ _ _ _ _ _ _ _ s ht (fun g => no (fun q => by rw [if_pos (dcP_yes ⟨q.1, q.2.1⟩)] at g; omega)) (fun g g2 => no (fun q => by omega)) (fun g g2 g3 m2 _ => ?_) (fun g g2 g3 => no (fun q => by omega))
  have c : 0 ≤ p ∧ p < cnt D 3 := Classical.byContradiction fun c => g (if_neg (by rw [dcP_no c]; decide))
  obtain ⟨k, rfl⟩ := Int.eq_ofNat_of_zero_le c.1
  have hk : k < cnt D 3 := by omega
  obtain ⟨i, rfl⟩ := Int.eq_ofNat_of_zero_le (show 0 ≤ n by omega)
  have h5 : cnt D 3 ≤ 5 := hw.1 3 (by omega)
  have fin : beA D S (k : Int) (i : Int) = bsS (beC D S i k) 30 := by
    unfold beA
    rw [if_pos (dcP_yes ⟨c.1, c.2, g2, g3⟩), Int.toNat_natCast, Int.toNat_natCast]
  rw [e3, hS.1]
  refine zC_q (spread_ok ht hd hw hX (wS_lt hw hs) (by omega)) (fun r hr => ?_)
  obtain ⟨r1, s1⟩ := r
  obtain ⟨e, f1, f2, f3⟩ := hr
  have e : r1 = [] := e
  subst e
  have f1 : ∀ c j, c ≠ 171 → ¬ (c = 170 ∧ j = 1) → s1 c j = s c j := f1
  have hd1 : cDn s1 t D := cDn_e hd hw (fun c j hc => f1 c j (by omega) (by omega))
  have hS1 : cSt s1 79 D S := cSt_e hS (fun c j a b _ => f1 c j (by omega) (by omega))
  have e31 : s1 0 3 = ((t : Nat) : Int) := (f1 _ _ (by omega) (by omega)).trans e3
  refine b_X10_best_44 _ _ _ _ _ _ _ s1 ht (fun m4 _ => ?_)
  rw [e31]
  refine zC_q (climbs_ok ht (b := 79) rfl hd1 hw hX hS1 hk) (fun r hr => ?_)
  subst hr
  have rr : s1 (zrho (zrho ((s1 0 3).toNat) 3) (k : Int).toNat) 3 = colD D 33 k := by
    rw [e31, Int.toNat_natCast, Int.toNat_natCast]
    have e1 : zrho t 3 = t + 23 := zt8_3 ht
    rw [e1, zrow3 ht (by omega)]
    exact cDn_col hd1 hw (k := 3) (j := 3) (by omega) (by omega) (by decide) hk
  have cr := hX.2.2.2.2.2.2.2.2.1 _ (col_mem' hw (k := 3) (j := 3) (by omega) (by omega) (by decide) hk)
  have cr : plI D (colD D 33 k) := cr
  have nw := plI_nat hw cr
  have loop : ∀ (M q : Nat) (x7 : Int), q ≤ 30 → zT (zE 1283) (Pt PX10_best) M (67, [((0 : Nat) : Int), (k : Int), (i : Int), ((cli D S k (-1) : Nat) : Int), (if bsS (beC D S i k) q < 0 then -1 else lvV D S i k (bsS (beC D S i k) q).toNat), bsS (beC D S i k) q, (q : Int), x7], [], s1) (fun r => r.1 = [(beA D S (k : Int) (i : Int), 0)]) := by
    intro M
    induction M using Nat.strongRecOn with
    | ind M ih =>
      intro q x7 hq
      have on : ∀ (m : Nat) (v b x7 : Int), m < M → q < 30 → b = bsS (beC D S i k) (q + 1) → v = (if b < 0 then -1 else lvV D S i k b.toNat) → zT (zE 1283) (Pt PX10_best) m (67, [((0 : Nat) : Int), (k : Int), (i : Int), ((cli D S k (-1) : Nat) : Int), v, b, w32 ((q : Int) + 1), x7], [], s1) (fun r => r.1 = [(beA D S (k : Int) (i : Int), 0)]) := fun m v b x7 hm hq2 hb hv => by
        rw [hv, hb, w32_id (by omega) (by omega), show (q : Int) + 1 = ((q + 1 : Nat) : Int) from by omega]
        exact ih m hm (q + 1) x7 (by omega)
      refine b_X10_best_67 _ _ _ _ _ _ _ s1 ht (fun g4 => ?_) (fun g4 m5 hm5 => ?_)
      · have : q = 30 := by omega
        subst this
        show [(bsS (beC D S i k) 30, 0)] = _
        rw [fin]
      have hq2 : q < 30 := by omega
      rw [e31]
      refine zC_q (isPlace_ok ht hd1 hw (by omega)) (fun r hr => ?_)
      subst hr
      refine b_X10_best_83 _ _ _ _ _ _ _ _ s1 ht (fun g5 m6 hm6 => ?_) (fun g5 m6 hm6 => ?_)
      · refine on m6 _ _ _ (by omega) hq2 (bs_n (fun z => ?_)).symm rfl
        rw [if_pos (dcP_yes z.1)] at g5
        exact absurd g5 (by decide)
      have pl : plI D (q : Int) := Classical.byContradiction fun c => g5 (if_neg (by rw [dcP_no c]; decide))
      rw [rr, e31]
      refine zC_q (way_ok ht hd1 hw hX (by omega) (by omega)) (fun r hr => ?_)
      subst hr
      refine b_X10_best_110 _ _ _ _ _ _ _ _ s1 ht (fun m7 hm7 => ?_)
      refine zC_q (ofAll_ok (n := i) hw hX hs hk pl f2 f3) (fun r hr => ?_)
      subst hr
      rw [Int.toNat_natCast]
      have lb := lv_bd (S := S) (n := i) (p := k) (x := q) hw hX
      refine b_X10_best_117 _ _ _ _ _ _ _ _ s1 ht (fun g6 m8 hm8 => ?_) (fun g6 m8 hm8 => ?_)
      · refine on m8 _ _ _ (by omega) hq2 (bs_n (fun z => ?_)).symm rfl
        by_cases c2 : bsS (beC D S i k) q < 0
        · rw [if_pos c2] at g6; omega
        · rw [if_neg c2] at g6
          exact z.2.elim c2 (fun z => by omega)
      · refine on m8 _ _ _ (by omega) hq2 (bs_y ⟨pl, ?_⟩).symm (by rw [if_neg (by omega), Int.toNat_natCast])
        by_cases c2 : bsS (beC D S i k) q < 0
        · exact Or.inl c2
        · rw [if_neg c2] at g6
          exact Or.inr g6
  exact b_X10_best_57 _ _ _ _ _ _ _ _ s1 ht (loop m4 0 _ (by omega))
theorem best_m (hF : wF D) (hX : wX D) (hm : mT s D) (hw : wD D) (hS : mSt s 216 0 D S) (hs : wS D S) {p n : Int} : zC N 1412 [(((172 : Nat) : Int), 0), (p, 0), (n, 0)] s (fun r => r.1 = [(beA D S p n, 0)]) := by
  have hc : s 174 3 = ((cnt D 3 : Nat) : Int) := hm.1 3 (by omega)
  have no : ¬ (0 ≤ p ∧ p < cnt D 3 ∧ 1 ≤ n ∧ n ≤ 9) → [((-1 : Int), 0)] = [(beA D S p n, 0)] := fun q => by
    unfold beA; rw [if_neg (by rw [dcP_no q]; decide)]
  refine c_X11_best (b_X11_best_0 _ _ _ _ _ _ s (fun g => no (fun q => by omega)) (fun g g2 => no (fun q => by omega)) (fun g g2 g3 => no (fun q => by omega)) (fun g g2 g3 g4 => no (fun q => by omega)) (fun g g2 g3 g4 m _ => ?_))
  obtain ⟨k, rfl⟩ := Int.eq_ofNat_of_zero_le g
  have hk : k < cnt D 3 := by omega
  obtain ⟨i, rfl⟩ := Int.eq_ofNat_of_zero_le (show 0 ≤ n by omega)
  have fin : beA D S (k : Int) (i : Int) = bsS (beC D S i k) 30 := by
    unfold beA
    rw [if_pos (dcP_yes ⟨g, by omega, g3, g4⟩), Int.toNat_natCast, Int.toNat_natCast]
  have hm1 : mT (zu s 172 0 0) D := mT_e (fun c j a b => zu_n (by omega)) hm
  have hS1 : mSt (zu s 172 0 0) 216 0 D S := mSt_e hS (fun j => zu_n (by omega))
  generalize zu s 172 0 0 = s1 at hm1 hS1 ⊢
  refine zC_q (laysOdds_m hm1 hw hX hS1 hs (by omega)) (fun r hr => ?_)
  obtain ⟨r1, s2⟩ := r
  obtain ⟨e, f1, f3⟩ := hr
  have e : r1 = [] := e
  subst e
  have f1 : ∀ c j, c ≠ 227 → c ≠ 228 → s2 c j = s1 c j := f1
  have hm2 : mT s2 D := mT_e (fun c j a b => f1 c j (by omega) (by omega)) hm1
  have hS2 : mSt s2 216 0 D S := mSt_e hS1 (fun j => f1 _ _ (by omega) (by omega))
  have loop : ∀ (M q : Nat) (v x6 : Int), q ≤ 30 → (0 ≤ bsS (beC D S i k) q → v = lvV D S i k (bsS (beC D S i k) q).toNat) → zT (zE 1412) (Pt PX11_best) M (38, [((172 : Nat) : Int), (k : Int), (i : Int), bsS (beC D S i k) q, v, (q : Int), x6], [], s2) (fun r => r.1 = [(beA D S (k : Int) (i : Int), 0)]) := by
    intro M
    induction M using Nat.strongRecOn with
    | ind M ih =>
      intro q v x6 hq hv
      have on : ∀ (m : Nat) (b v x6 : Int), m < M → q < 30 → b = bsS (beC D S i k) (q + 1) → (0 ≤ b → v = lvV D S i k b.toNat) → zT (zE 1412) (Pt PX11_best) m (38, [((172 : Nat) : Int), (k : Int), (i : Int), b, v, w32 ((q : Int) + 1), x6], [], s2) (fun r => r.1 = [(beA D S (k : Int) (i : Int), 0)]) := fun m b v x6 hm' hq2 hb hv => by
        subst hb
        rw [w32_id (by omega) (by omega), show (q : Int) + 1 = ((q + 1 : Nat) : Int) from by omega]
        exact ih m hm' (q + 1) v x6 (by omega) hv
      refine b_X11_best_38 _ _ _ _ _ _ s2 (fun j1 => ?_) (fun j1 m3 hm3 => ?_)
      · have : q = 30 := by omega
        subst this
        show [(bsS (beC D S i k) 30, 0)] = _
        rw [fin]
      have hq2 : q < 30 := by omega
      refine zC_q (isPlace_m hm2 hw (by omega)) (fun r hr => ?_)
      subst hr
      refine b_X11_best_51 _ _ _ _ _ _ _ s2 (fun j2 m4 hm4 => ?_) (fun j2 m4 hm4 => ?_)
      rotate_left
      · have e9 : bsS (beC D S i k) (q + 1) = bsS (beC D S i k) q := bs_n (fun z => by
          rw [if_pos (dcP_yes z.1)] at j2
          exact absurd j2 (by decide))
        exact on m4 _ _ _ (by omega) hq2 e9.symm hv
      have pl : plI D (q : Int) := Classical.byContradiction fun c => j2 (if_neg (by rw [dcP_no c]; decide))
      refine zC_q (liveOf_m hF hX hm2 hw hS2 hk pl f3) (fun r hr => ?_)
      subst hr
      rw [Int.toNat_natCast]
      refine b_X11_best_64 _ _ _ _ _ _ _ s2 (fun j3 m5 hm5 => ?_) (fun j3 j4 m5 hm5 => ?_) (fun j3 j4 m5 hm5 => ?_)
      · exact on m5 _ _ _ (by omega) hq2 (bs_y ⟨pl, Or.inl j3⟩).symm (fun _ => by rw [Int.toNat_natCast])
      · rw [hv j3] at j4
        exact on m5 _ _ _ (by omega) hq2 (bs_y ⟨pl, Or.inr j4⟩).symm (fun _ => by rw [Int.toNat_natCast])
      · rw [hv j3] at j4
        have e9 : bsS (beC D S i k) (q + 1) = bsS (beC D S i k) q := bs_n (fun z => z.2.elim (fun z => by omega) (fun z => by omega))
        exact on m5 _ _ _ (by omega) hq2 e9.symm hv
  exact b_X11_best_30 _ _ _ _ _ _ s2 (loop m 0 _ _ (by omega) (fun h => absurd (show (0 : Int) ≤ -1 from h) (by decide)))
end Zch
