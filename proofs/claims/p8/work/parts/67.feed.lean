/-! feed, of both -/
theorem b_X7_feedEight_0 {n : Nat} {Q : Zr → Prop} (x1 x2 x3 x4 x5 : Int) (s : Zs) 
    (h0 : zT (zE 900) (Pt PX7_feedEight) n (3, [((1 : Nat) : Int), x1, x2, 56, x4, x5], [], s) Q) : zT (zE 900) (Pt PX7_feedEight) n (0, [((1 : Nat) : Int), x1, x2, x3, x4, x5], [], s) Q := by
  refine tK rfl ?_
  refine tS [((1 : Nat) : Int), x1, x2, 56, x4, x5] rfl rfl ?_
  exact zT_le (h0) (Nat.le_refl n)

theorem b_X7_feedEight_3 {n : Nat} {Q : Zr → Prop} (x1 x2 x3 x4 x5 : Int) (s : Zs) 
    (h0 : ∀ (g1 : x3 < 0), Q ([], s))
    (h1 : ∀ (g1 : 0 ≤ x3), ∀ (g2 : zl2i (zandL (zushrL x1 x3) 255) = 10), ∀ (g3 : 1000 ≤ s 1 0), ∀ m, m < n → zT (zE 900) (Pt PX7_feedEight) m (3, [((1 : Nat) : Int), x1, x2, w32 (x3 + (-8)), zl2i (zandL (zushrL x1 x3) 255), 1], [], s) Q)
    (h2 : ∀ (g1 : 0 ≤ x3), ∀ (g2 : zl2i (zandL (zushrL x1 x3) 255) = 10), ∀ (g3 : s 1 0 < 1000), ∀ m, m < n → zT (zE 900) (Pt PX7_feedEight) m (3, [((1 : Nat) : Int), x1, x2, w32 (x3 + (-8)), zl2i (zandL (zushrL x1 x3) 255), 1], [], zu (zu s 2 ((s 1 0).toNat) (zst2 (zi2c (zl2i (zandL (zushrL x1 x3) 255))))) 1 0 (w32 ((s 1 0) + 1))) Q)
    (h3 : ∀ (g1 : 0 ≤ x3), ∀ (g2 : zl2i (zandL (zushrL x1 x3) 255) ≠ 10), ∀ (g4 : zl2i (zandL (zushrL x1 x3) 255) < 32), ∀ m, m < n → zT (zE 900) (Pt PX7_feedEight) m (3, [((1 : Nat) : Int), x1, x2, w32 (x3 + (-8)), zl2i (zandL (zushrL x1 x3) 255), 0], [], s) Q)
    (h4 : ∀ (g1 : 0 ≤ x3), ∀ (g2 : zl2i (zandL (zushrL x1 x3) 255) ≠ 10), ∀ (g4 : 32 ≤ zl2i (zandL (zushrL x1 x3) 255)), ∀ (g5 : 126 < zl2i (zandL (zushrL x1 x3) 255)), ∀ m, m < n → zT (zE 900) (Pt PX7_feedEight) m (3, [((1 : Nat) : Int), x1, x2, w32 (x3 + (-8)), zl2i (zandL (zushrL x1 x3) 255), 0], [], s) Q)
    (h5 : ∀ (g1 : 0 ≤ x3), ∀ (g2 : zl2i (zandL (zushrL x1 x3) 255) ≠ 10), ∀ (g4 : 32 ≤ zl2i (zandL (zushrL x1 x3) 255)), ∀ (g5 : zl2i (zandL (zushrL x1 x3) 255) ≤ 126), ∀ (g6 : 1000 ≤ s 1 0), ∀ m, m < n → zT (zE 900) (Pt PX7_feedEight) m (3, [((1 : Nat) : Int), x1, x2, w32 (x3 + (-8)), zl2i (zandL (zushrL x1 x3) 255), 1], [], s) Q)
    (h6 : ∀ (g1 : 0 ≤ x3), ∀ (g2 : zl2i (zandL (zushrL x1 x3) 255) ≠ 10), ∀ (g4 : 32 ≤ zl2i (zandL (zushrL x1 x3) 255)), ∀ (g5 : zl2i (zandL (zushrL x1 x3) 255) ≤ 126), ∀ (g6 : s 1 0 < 1000), ∀ m, m < n → zT (zE 900) (Pt PX7_feedEight) m (3, [((1 : Nat) : Int), x1, x2, w32 (x3 + (-8)), zl2i (zandL (zushrL x1 x3) 255), 1], [], zu (zu s 2 ((s 1 0).toNat) (zst2 (zi2c (zl2i (zandL (zushrL x1 x3) 255))))) 1 0 (w32 ((s 1 0) + 1))) Q) : zT (zE 900) (Pt PX7_feedEight) n (3, [((1 : Nat) : Int), x1, x2, x3, x4, x5], [], s) Q := by
  refine tL x3 0 rfl rfl rfl ?_
  refine tI2 rfl (fun g1 _ l1 => zT_le ?_ (Nat.le_of_lt l1)) (fun g1 _ l1 => zT_le ?_ (Nat.le_of_lt l1))
  · exact tR rfl (h0 g1)
  · refine tL x1 1 rfl rfl rfl ?_
    refine tL x3 0 rfl rfl rfl ?_
    refine tBI (v := zushrL x1 x3) rfl rfl ?_
    refine tKL rfl ?_
    refine tBL (v := zandL (zushrL x1 x3) 255) rfl rfl ?_
    refine tLI rfl ?_
    refine tS [((1 : Nat) : Int), x1, x2, x3, zl2i (zandL (zushrL x1 x3) 255), x5] rfl rfl ?_
    refine tL (zl2i (zandL (zushrL x1 x3) 255)) 0 rfl rfl rfl ?_
    refine tK rfl ?_
    refine tJ0 rfl (fun g2 _ l2 => zT_le ?_ (Nat.le_of_lt l2)) (fun g2 _ l2 => zT_le ?_ (Nat.le_of_lt l2))
    · refine tK rfl ?_
      refine tG rfl ?_
      refine tS [((1 : Nat) : Int), x1, x2, x3, zl2i (zandL (zushrL x1 x3) 255), 1] rfl rfl ?_
      refine tL 1 0 rfl rfl rfl ?_
      refine tI0 rfl (fun g _ l => (absurd g (by decide))) (fun g _ l => zT_le ?_ (Nat.le_of_lt l))
      refine tL ((1 : Nat) : Int) 0 rfl rfl rfl ?_
      refine tFv (c := 1) (s 1 0) 0 rfl rfl rfl rfl rfl ?_
      refine tK rfl ?_
      refine tJ3 rfl (fun g3 _ l3 => zT_le ?_ (Nat.le_of_lt l3)) (fun g3 _ l3 => zT_le ?_ (Nat.le_of_lt l3))
      · refine tInc [((1 : Nat) : Int), x1, x2, w32 (x3 + (-8)), zl2i (zandL (zushrL x1 x3) 255), 1] rfl rfl ?_
        exact tGb rfl (fun m2 l2 => h1 g1 g2 g3 m2 (Nat.lt_of_lt_of_le l2 (Nat.le_refl n)))
      · refine tL ((1 : Nat) : Int) 0 rfl rfl rfl ?_
        refine tFR (c := 1) 2 rfl rfl rfl rfl rfl ?_
        refine tL ((1 : Nat) : Int) 0 rfl rfl rfl ?_
        refine tFv (c := 1) (s 1 0) 0 rfl rfl rfl rfl rfl ?_
        refine tL (zl2i (zandL (zushrL x1 x3) 255)) 0 rfl rfl rfl ?_
        refine tU3 rfl ?_
        refine tAS2 2 ((s 1 0).toNat) rfl rfl rfl ?_
        refine tL ((1 : Nat) : Int) 0 rfl rfl rfl ?_
        refine tD rfl ?_
        refine tFv (c := 1) (s 1 0) 0 rfl rfl rfl rfl rfl ?_
        refine tK rfl ?_
        refine tB (v := w32 ((s 1 0) + 1)) rfl rfl ?_
        refine tPut 1 rfl rfl ?_
        refine tInc [((1 : Nat) : Int), x1, x2, w32 (x3 + (-8)), zl2i (zandL (zushrL x1 x3) 255), 1] rfl rfl ?_
        exact tGb rfl (fun m2 l2 => h2 g1 g2 g3 m2 (Nat.lt_of_lt_of_le l2 (Nat.le_refl n)))
    · refine tL (zl2i (zandL (zushrL x1 x3) 255)) 0 rfl rfl rfl ?_
      refine tK rfl ?_
      refine tJ2 rfl (fun g4 _ l4 => zT_le ?_ (Nat.le_of_lt l4)) (fun g4 _ l4 => zT_le ?_ (Nat.le_of_lt l4))
      · refine tK rfl ?_
        refine tS [((1 : Nat) : Int), x1, x2, x3, zl2i (zandL (zushrL x1 x3) 255), 0] rfl rfl ?_
        refine tL 0 0 rfl rfl rfl ?_
        refine tI0 rfl (fun g _ l => zT_le ?_ (Nat.le_of_lt l)) (fun g _ l => (absurd g (by decide)))
        refine tInc [((1 : Nat) : Int), x1, x2, w32 (x3 + (-8)), zl2i (zandL (zushrL x1 x3) 255), 0] rfl rfl ?_
        exact tGb rfl (fun m2 l2 => h3 g1 g2 g4 m2 (Nat.lt_of_lt_of_le l2 (Nat.le_refl n)))
      · refine tL (zl2i (zandL (zushrL x1 x3) 255)) 0 rfl rfl rfl ?_
        refine tK rfl ?_
        refine tJ4 rfl (fun g5 _ l5 => zT_le ?_ (Nat.le_of_lt l5)) (fun g5 _ l5 => zT_le ?_ (Nat.le_of_lt l5))
        · refine tK rfl ?_
          refine tS [((1 : Nat) : Int), x1, x2, x3, zl2i (zandL (zushrL x1 x3) 255), 0] rfl rfl ?_
          refine tL 0 0 rfl rfl rfl ?_
          refine tI0 rfl (fun g _ l => zT_le ?_ (Nat.le_of_lt l)) (fun g _ l => (absurd g (by decide)))
          refine tInc [((1 : Nat) : Int), x1, x2, w32 (x3 + (-8)), zl2i (zandL (zushrL x1 x3) 255), 0] rfl rfl ?_
          exact tGb rfl (fun m2 l2 => h4 g1 g2 g4 g5 m2 (Nat.lt_of_lt_of_le l2 (Nat.le_refl n)))
        · refine tK rfl ?_
          refine tG rfl ?_
          refine tS [((1 : Nat) : Int), x1, x2, x3, zl2i (zandL (zushrL x1 x3) 255), 1] rfl rfl ?_
          refine tL 1 0 rfl rfl rfl ?_
          refine tI0 rfl (fun g _ l => (absurd g (by decide))) (fun g _ l => zT_le ?_ (Nat.le_of_lt l))
          refine tL ((1 : Nat) : Int) 0 rfl rfl rfl ?_
          refine tFv (c := 1) (s 1 0) 0 rfl rfl rfl rfl rfl ?_
          refine tK rfl ?_
          refine tJ3 rfl (fun g6 _ l6 => zT_le ?_ (Nat.le_of_lt l6)) (fun g6 _ l6 => zT_le ?_ (Nat.le_of_lt l6))
          · refine tInc [((1 : Nat) : Int), x1, x2, w32 (x3 + (-8)), zl2i (zandL (zushrL x1 x3) 255), 1] rfl rfl ?_
            exact tGb rfl (fun m2 l2 => h5 g1 g2 g4 g5 g6 m2 (Nat.lt_of_lt_of_le l2 (Nat.le_refl n)))
          · refine tL ((1 : Nat) : Int) 0 rfl rfl rfl ?_
            refine tFR (c := 1) 2 rfl rfl rfl rfl rfl ?_
            refine tL ((1 : Nat) : Int) 0 rfl rfl rfl ?_
            refine tFv (c := 1) (s 1 0) 0 rfl rfl rfl rfl rfl ?_
            refine tL (zl2i (zandL (zushrL x1 x3) 255)) 0 rfl rfl rfl ?_
            refine tU3 rfl ?_
            refine tAS2 2 ((s 1 0).toNat) rfl rfl rfl ?_
            refine tL ((1 : Nat) : Int) 0 rfl rfl rfl ?_
            refine tD rfl ?_
            refine tFv (c := 1) (s 1 0) 0 rfl rfl rfl rfl rfl ?_
            refine tK rfl ?_
            refine tB (v := w32 ((s 1 0) + 1)) rfl rfl ?_
            refine tPut 1 rfl rfl ?_
            refine tInc [((1 : Nat) : Int), x1, x2, w32 (x3 + (-8)), zl2i (zandL (zushrL x1 x3) 255), 1] rfl rfl ?_
            exact tGb rfl (fun m2 l2 => h6 g1 g2 g4 g5 g6 m2 (Nat.lt_of_lt_of_le l2 (Nat.le_refl n)))

theorem c_X7_feedEight {n : Nat} {Q : Zr → Prop} {a0 a1 : Int} {s : Zs} (h : zT (zE 900) (Pt PX7_feedEight) n (0, [a0, a1, 0, 0, 0, 0], [], s) Q) : zC n 900 [(a0, 0), (a1, 1)] s Q := h

theorem b_X10_feed_0 {n : Nat} {Q : Zr → Prop} (x1 x2 x3 x4 x5 x6 : Int) (s : Zs) 
    (h0 : ∀ m, m < n → zC m 900 [(((1 : Nat) : Int), 0), (x1, 1)] s (fun p => zT (zE 1291) (Pt PX10_feed) m (8, [((0 : Nat) : Int), x1, x2, x3, x4, x5, x6], p.1 ++ [], p.2) Q)) : zT (zE 1291) (Pt PX10_feed) n (0, [((0 : Nat) : Int), x1, x2, x3, x4, x5, x6], [], s) Q := by
  refine tL ((0 : Nat) : Int) 0 rfl rfl rfl ?_
  refine tFR (c := 0) 1 rfl rfl rfl rfl rfl ?_
  refine tL x1 1 rfl rfl rfl ?_
  exact tCall [(((1 : Nat) : Int), 0), (x1, 1)] [] rfl rfl rfl (fun m l => h0 m (Nat.lt_of_lt_of_le l (Nat.le_refl n)))

theorem b_X10_feed_8 {n : Nat} {Q : Zr → Prop} (x1 x2 x3 x4 x5 x6 : Int) (s : Zs) 
    (h0 : ∀ m, m < n → zC m 900 [(((1 : Nat) : Int), 0), (x3, 1)] s (fun p => zT (zE 1291) (Pt PX10_feed) m (16, [((0 : Nat) : Int), x1, x2, x3, x4, x5, x6], p.1 ++ [], p.2) Q)) : zT (zE 1291) (Pt PX10_feed) n (8, [((0 : Nat) : Int), x1, x2, x3, x4, x5, x6], [], s) Q := by
  refine tL ((0 : Nat) : Int) 0 rfl rfl rfl ?_
  refine tFR (c := 0) 1 rfl rfl rfl rfl rfl ?_
  refine tL x3 1 rfl rfl rfl ?_
  exact tCall [(((1 : Nat) : Int), 0), (x3, 1)] [] rfl rfl rfl (fun m l => h0 m (Nat.lt_of_lt_of_le l (Nat.le_refl n)))

theorem b_X10_feed_16 {n : Nat} {Q : Zr → Prop} (x1 x2 x3 x4 x5 x6 : Int) (s : Zs) 
    (h0 : ∀ m, m < n → zC m 900 [(((1 : Nat) : Int), 0), (x5, 1)] s (fun p => zT (zE 1291) (Pt PX10_feed) m (25, [((0 : Nat) : Int), x1, x2, x3, x4, x5, x6], p.1 ++ [], p.2) Q)) : zT (zE 1291) (Pt PX10_feed) n (16, [((0 : Nat) : Int), x1, x2, x3, x4, x5, x6], [], s) Q := by
  refine tL ((0 : Nat) : Int) 0 rfl rfl rfl ?_
  refine tFR (c := 0) 1 rfl rfl rfl rfl rfl ?_
  refine tL x5 1 rfl rfl rfl ?_
  exact tCall [(((1 : Nat) : Int), 0), (x5, 1)] [] rfl rfl rfl (fun m l => h0 m (Nat.lt_of_lt_of_le l (Nat.le_refl n)))

theorem b_X10_feed_25 {n : Nat} {Q : Zr → Prop} (x1 x2 x3 x4 x5 x6 : Int) (s : Zs) 
    (h0 : Q ([(s 1 0, 0)], s)) : zT (zE 1291) (Pt PX10_feed) n (25, [((0 : Nat) : Int), x1, x2, x3, x4, x5, x6], [], s) Q := by
  refine tL ((0 : Nat) : Int) 0 rfl rfl rfl ?_
  refine tFR (c := 0) 1 rfl rfl rfl rfl rfl ?_
  refine tFv (c := 1) (s 1 0) 0 rfl rfl rfl rfl rfl ?_
  exact tR rfl (h0)

theorem c_X10_feed {n : Nat} {Q : Zr → Prop} {a0 a1 a3 a5 : Int} {s : Zs} (h : zT (zE 1291) (Pt PX10_feed) n (0, [a0, a1, 0, a3, 0, a5, 0], [], s) Q) : zC n 1291 [(a0, 0), (a1, 1), (a3, 1), (a5, 1)] s Q := h

theorem b_X11_feed_0 {n : Nat} {Q : Zr → Prop} (x1 x2 x3 x4 x5 x6 x7 x8 x9 x10 : Int) (s : Zs) 
    (h0 : zT (zE 1434) (Pt PX11_feed) n (8, [((172 : Nat) : Int), x1, x2, x3, x4, x5, x6, 0, x8, x9, x10], [], zu s 172 0 0) Q) : zT (zE 1434) (Pt PX11_feed) n (0, [((172 : Nat) : Int), x1, x2, x3, x4, x5, x6, x7, x8, x9, x10], [], s) Q := by
  refine tL ((172 : Nat) : Int) 0 rfl rfl rfl ?_
  refine tK rfl ?_
  refine tPut 172 rfl rfl ?_
  refine tK rfl ?_
  refine tS [((172 : Nat) : Int), x1, x2, x3, x4, x5, x6, 0, x8, x9, x10] rfl rfl ?_
  exact zT_le (h0) (Nat.le_refl n)

theorem b_X11_feed_8 {n : Nat} {Q : Zr → Prop} (x1 x2 x3 x4 x5 x6 x7 x8 x9 x10 : Int) (s : Zs) 
    (h0 : ∀ (g1 : 24 ≤ x7), Q ([(s 172 1, 0)], s))
    (h1 : ∀ (g1 : x7 < 24), ∀ (g2 : 8 ≤ x7), ∀ (g3 : 16 ≤ x7), ∀ (g4 : 1000 ≤ s 172 1), ∀ m, m < n → zT (zE 1434) (Pt PX11_feed) m (8, [((172 : Nat) : Int), x1, x2, x3, x4, x5, x6, w32 (x7 + 1), x5, x9, zl2i (zandL (zushrL x5 (w32 (56 - (w32 (8 * (zand x7 7)))))) 255)], [], s) Q)
    (h2 : ∀ (g1 : x7 < 24), ∀ (g2 : 8 ≤ x7), ∀ (g3 : 16 ≤ x7), ∀ (g4 : s 172 1 < 1000), ∀ (g5 : zl2i (zandL (zushrL x5 (w32 (56 - (w32 (8 * (zand x7 7)))))) 255) = 10), ∀ m, m < n → zT (zE 1434) (Pt PX11_feed) m (8, [((172 : Nat) : Int), x1, x2, x3, x4, x5, x6, w32 (x7 + 1), x5, x9, zl2i (zandL (zushrL x5 (w32 (56 - (w32 (8 * (zand x7 7)))))) 255)], [], zu (zu s 173 ((s 172 1).toNat) (zl2i (zandL (zushrL x5 (w32 (56 - (w32 (8 * (zand x7 7)))))) 255))) 172 1 (w32 ((s 172 1) + 1))) Q)
    (h3 : ∀ (g1 : x7 < 24), ∀ (g2 : 8 ≤ x7), ∀ (g3 : 16 ≤ x7), ∀ (g4 : s 172 1 < 1000), ∀ (g5 : zl2i (zandL (zushrL x5 (w32 (56 - (w32 (8 * (zand x7 7)))))) 255) ≠ 10), ∀ (g6 : zl2i (zandL (zushrL x5 (w32 (56 - (w32 (8 * (zand x7 7)))))) 255) < 32), ∀ m, m < n → zT (zE 1434) (Pt PX11_feed) m (8, [((172 : Nat) : Int), x1, x2, x3, x4, x5, x6, w32 (x7 + 1), x5, x9, zl2i (zandL (zushrL x5 (w32 (56 - (w32 (8 * (zand x7 7)))))) 255)], [], s) Q)
    (h4 : ∀ (g1 : x7 < 24), ∀ (g2 : 8 ≤ x7), ∀ (g3 : 16 ≤ x7), ∀ (g4 : s 172 1 < 1000), ∀ (g5 : zl2i (zandL (zushrL x5 (w32 (56 - (w32 (8 * (zand x7 7)))))) 255) ≠ 10), ∀ (g6 : 32 ≤ zl2i (zandL (zushrL x5 (w32 (56 - (w32 (8 * (zand x7 7)))))) 255)), ∀ (g7 : 126 < zl2i (zandL (zushrL x5 (w32 (56 - (w32 (8 * (zand x7 7)))))) 255)), ∀ m, m < n → zT (zE 1434) (Pt PX11_feed) m (8, [((172 : Nat) : Int), x1, x2, x3, x4, x5, x6, w32 (x7 + 1), x5, x9, zl2i (zandL (zushrL x5 (w32 (56 - (w32 (8 * (zand x7 7)))))) 255)], [], s) Q)
    (h5 : ∀ (g1 : x7 < 24), ∀ (g2 : 8 ≤ x7), ∀ (g3 : 16 ≤ x7), ∀ (g4 : s 172 1 < 1000), ∀ (g5 : zl2i (zandL (zushrL x5 (w32 (56 - (w32 (8 * (zand x7 7)))))) 255) ≠ 10), ∀ (g6 : 32 ≤ zl2i (zandL (zushrL x5 (w32 (56 - (w32 (8 * (zand x7 7)))))) 255)), ∀ (g7 : zl2i (zandL (zushrL x5 (w32 (56 - (w32 (8 * (zand x7 7)))))) 255) ≤ 126), ∀ m, m < n → zT (zE 1434) (Pt PX11_feed) m (8, [((172 : Nat) : Int), x1, x2, x3, x4, x5, x6, w32 (x7 + 1), x5, x9, zl2i (zandL (zushrL x5 (w32 (56 - (w32 (8 * (zand x7 7)))))) 255)], [], zu (zu s 173 ((s 172 1).toNat) (zl2i (zandL (zushrL x5 (w32 (56 - (w32 (8 * (zand x7 7)))))) 255))) 172 1 (w32 ((s 172 1) + 1))) Q)
    (h6 : ∀ (g1 : x7 < 24), ∀ (g2 : 8 ≤ x7), ∀ (g3 : x7 < 16), ∀ (g8 : 1000 ≤ s 172 1), ∀ m, m < n → zT (zE 1434) (Pt PX11_feed) m (8, [((172 : Nat) : Int), x1, x2, x3, x4, x5, x6, w32 (x7 + 1), x3, x9, zl2i (zandL (zushrL x3 (w32 (56 - (w32 (8 * (zand x7 7)))))) 255)], [], s) Q)
    (h7 : ∀ (g1 : x7 < 24), ∀ (g2 : 8 ≤ x7), ∀ (g3 : x7 < 16), ∀ (g8 : s 172 1 < 1000), ∀ (g9 : zl2i (zandL (zushrL x3 (w32 (56 - (w32 (8 * (zand x7 7)))))) 255) = 10), ∀ m, m < n → zT (zE 1434) (Pt PX11_feed) m (8, [((172 : Nat) : Int), x1, x2, x3, x4, x5, x6, w32 (x7 + 1), x3, x9, zl2i (zandL (zushrL x3 (w32 (56 - (w32 (8 * (zand x7 7)))))) 255)], [], zu (zu s 173 ((s 172 1).toNat) (zl2i (zandL (zushrL x3 (w32 (56 - (w32 (8 * (zand x7 7)))))) 255))) 172 1 (w32 ((s 172 1) + 1))) Q)
    (h8 : ∀ (g1 : x7 < 24), ∀ (g2 : 8 ≤ x7), ∀ (g3 : x7 < 16), ∀ (g8 : s 172 1 < 1000), ∀ (g9 : zl2i (zandL (zushrL x3 (w32 (56 - (w32 (8 * (zand x7 7)))))) 255) ≠ 10), ∀ (g10 : zl2i (zandL (zushrL x3 (w32 (56 - (w32 (8 * (zand x7 7)))))) 255) < 32), ∀ m, m < n → zT (zE 1434) (Pt PX11_feed) m (8, [((172 : Nat) : Int), x1, x2, x3, x4, x5, x6, w32 (x7 + 1), x3, x9, zl2i (zandL (zushrL x3 (w32 (56 - (w32 (8 * (zand x7 7)))))) 255)], [], s) Q)
    (h9 : ∀ (g1 : x7 < 24), ∀ (g2 : 8 ≤ x7), ∀ (g3 : x7 < 16), ∀ (g8 : s 172 1 < 1000), ∀ (g9 : zl2i (zandL (zushrL x3 (w32 (56 - (w32 (8 * (zand x7 7)))))) 255) ≠ 10), ∀ (g10 : 32 ≤ zl2i (zandL (zushrL x3 (w32 (56 - (w32 (8 * (zand x7 7)))))) 255)), ∀ (g11 : 126 < zl2i (zandL (zushrL x3 (w32 (56 - (w32 (8 * (zand x7 7)))))) 255)), ∀ m, m < n → zT (zE 1434) (Pt PX11_feed) m (8, [((172 : Nat) : Int), x1, x2, x3, x4, x5, x6, w32 (x7 + 1), x3, x9, zl2i (zandL (zushrL x3 (w32 (56 - (w32 (8 * (zand x7 7)))))) 255)], [], s) Q)
    (h10 : ∀ (g1 : x7 < 24), ∀ (g2 : 8 ≤ x7), ∀ (g3 : x7 < 16), ∀ (g8 : s 172 1 < 1000), ∀ (g9 : zl2i (zandL (zushrL x3 (w32 (56 - (w32 (8 * (zand x7 7)))))) 255) ≠ 10), ∀ (g10 : 32 ≤ zl2i (zandL (zushrL x3 (w32 (56 - (w32 (8 * (zand x7 7)))))) 255)), ∀ (g11 : zl2i (zandL (zushrL x3 (w32 (56 - (w32 (8 * (zand x7 7)))))) 255) ≤ 126), ∀ m, m < n → zT (zE 1434) (Pt PX11_feed) m (8, [((172 : Nat) : Int), x1, x2, x3, x4, x5, x6, w32 (x7 + 1), x3, x9, zl2i (zandL (zushrL x3 (w32 (56 - (w32 (8 * (zand x7 7)))))) 255)], [], zu (zu s 173 ((s 172 1).toNat) (zl2i (zandL (zushrL x3 (w32 (56 - (w32 (8 * (zand x7 7)))))) 255))) 172 1 (w32 ((s 172 1) + 1))) Q)
    (h11 : ∀ (g1 : x7 < 24), ∀ (g2 : x7 < 8), ∀ (g12 : 1000 ≤ s 172 1), ∀ m, m < n → zT (zE 1434) (Pt PX11_feed) m (8, [((172 : Nat) : Int), x1, x2, x3, x4, x5, x6, w32 (x7 + 1), x1, x9, zl2i (zandL (zushrL x1 (w32 (56 - (w32 (8 * (zand x7 7)))))) 255)], [], s) Q)
    (h12 : ∀ (g1 : x7 < 24), ∀ (g2 : x7 < 8), ∀ (g12 : s 172 1 < 1000), ∀ (g13 : zl2i (zandL (zushrL x1 (w32 (56 - (w32 (8 * (zand x7 7)))))) 255) = 10), ∀ m, m < n → zT (zE 1434) (Pt PX11_feed) m (8, [((172 : Nat) : Int), x1, x2, x3, x4, x5, x6, w32 (x7 + 1), x1, x9, zl2i (zandL (zushrL x1 (w32 (56 - (w32 (8 * (zand x7 7)))))) 255)], [], zu (zu s 173 ((s 172 1).toNat) (zl2i (zandL (zushrL x1 (w32 (56 - (w32 (8 * (zand x7 7)))))) 255))) 172 1 (w32 ((s 172 1) + 1))) Q)
    (h13 : ∀ (g1 : x7 < 24), ∀ (g2 : x7 < 8), ∀ (g12 : s 172 1 < 1000), ∀ (g13 : zl2i (zandL (zushrL x1 (w32 (56 - (w32 (8 * (zand x7 7)))))) 255) ≠ 10), ∀ (g14 : zl2i (zandL (zushrL x1 (w32 (56 - (w32 (8 * (zand x7 7)))))) 255) < 32), ∀ m, m < n → zT (zE 1434) (Pt PX11_feed) m (8, [((172 : Nat) : Int), x1, x2, x3, x4, x5, x6, w32 (x7 + 1), x1, x9, zl2i (zandL (zushrL x1 (w32 (56 - (w32 (8 * (zand x7 7)))))) 255)], [], s) Q)
    (h14 : ∀ (g1 : x7 < 24), ∀ (g2 : x7 < 8), ∀ (g12 : s 172 1 < 1000), ∀ (g13 : zl2i (zandL (zushrL x1 (w32 (56 - (w32 (8 * (zand x7 7)))))) 255) ≠ 10), ∀ (g14 : 32 ≤ zl2i (zandL (zushrL x1 (w32 (56 - (w32 (8 * (zand x7 7)))))) 255)), ∀ (g15 : 126 < zl2i (zandL (zushrL x1 (w32 (56 - (w32 (8 * (zand x7 7)))))) 255)), ∀ m, m < n → zT (zE 1434) (Pt PX11_feed) m (8, [((172 : Nat) : Int), x1, x2, x3, x4, x5, x6, w32 (x7 + 1), x1, x9, zl2i (zandL (zushrL x1 (w32 (56 - (w32 (8 * (zand x7 7)))))) 255)], [], s) Q)
    (h15 : ∀ (g1 : x7 < 24), ∀ (g2 : x7 < 8), ∀ (g12 : s 172 1 < 1000), ∀ (g13 : zl2i (zandL (zushrL x1 (w32 (56 - (w32 (8 * (zand x7 7)))))) 255) ≠ 10), ∀ (g14 : 32 ≤ zl2i (zandL (zushrL x1 (w32 (56 - (w32 (8 * (zand x7 7)))))) 255)), ∀ (g15 : zl2i (zandL (zushrL x1 (w32 (56 - (w32 (8 * (zand x7 7)))))) 255) ≤ 126), ∀ m, m < n → zT (zE 1434) (Pt PX11_feed) m (8, [((172 : Nat) : Int), x1, x2, x3, x4, x5, x6, w32 (x7 + 1), x1, x9, zl2i (zandL (zushrL x1 (w32 (56 - (w32 (8 * (zand x7 7)))))) 255)], [], zu (zu s 173 ((s 172 1).toNat) (zl2i (zandL (zushrL x1 (w32 (56 - (w32 (8 * (zand x7 7)))))) 255))) 172 1 (w32 ((s 172 1) + 1))) Q) : zT (zE 1434) (Pt PX11_feed) n (8, [((172 : Nat) : Int), x1, x2, x3, x4, x5, x6, x7, x8, x9, x10], [], s) Q := by
  refine tL x7 0 rfl rfl rfl ?_
  refine tK rfl ?_
  refine tJ3 rfl (fun g1 _ l1 => zT_le ?_ (Nat.le_of_lt l1)) (fun g1 _ l1 => zT_le ?_ (Nat.le_of_lt l1))
  · refine tL ((172 : Nat) : Int) 0 rfl rfl rfl ?_
    refine tFv (c := 172) (s 172 1) 0 rfl rfl rfl rfl rfl ?_
    exact tR rfl (h0 g1)
  · refine tL x7 0 rfl rfl rfl ?_
    refine tK rfl ?_
    refine tJ3 rfl (fun g2 _ l2 => zT_le ?_ (Nat.le_of_lt l2)) (fun g2 _ l2 => zT_le ?_ (Nat.le_of_lt l2))
    · refine tL x7 0 rfl rfl rfl ?_
      refine tK rfl ?_
      refine tJ3 rfl (fun g3 _ l3 => zT_le ?_ (Nat.le_of_lt l3)) (fun g3 _ l3 => zT_le ?_ (Nat.le_of_lt l3))
      · refine tL x5 1 rfl rfl rfl ?_
        refine tS [((172 : Nat) : Int), x1, x2, x3, x4, x5, x6, x7, x5, x9, x10] rfl rfl ?_
        refine tL x5 1 rfl rfl rfl ?_
        refine tK rfl ?_
        refine tK rfl ?_
        refine tL x7 0 rfl rfl rfl ?_
        refine tK rfl ?_
        refine tB (v := zand x7 7) rfl rfl ?_
        refine tM (v := w32 (8 * (zand x7 7))) rfl rfl ?_
        refine tB (v := w32 (56 - (w32 (8 * (zand x7 7))))) rfl rfl ?_
        refine tBI (v := zushrL x5 (w32 (56 - (w32 (8 * (zand x7 7)))))) rfl rfl ?_
        refine tKL rfl ?_
        refine tBL (v := zandL (zushrL x5 (w32 (56 - (w32 (8 * (zand x7 7)))))) 255) rfl rfl ?_
        refine tLI rfl ?_
        refine tS [((172 : Nat) : Int), x1, x2, x3, x4, x5, x6, x7, x5, x9, zl2i (zandL (zushrL x5 (w32 (56 - (w32 (8 * (zand x7 7)))))) 255)] rfl rfl ?_
        refine tL ((172 : Nat) : Int) 0 rfl rfl rfl ?_
        refine tFv (c := 172) (s 172 1) 0 rfl rfl rfl rfl rfl ?_
        refine tK rfl ?_
        refine tJ3 rfl (fun g4 _ l4 => zT_le ?_ (Nat.le_of_lt l4)) (fun g4 _ l4 => zT_le ?_ (Nat.le_of_lt l4))
        · refine tInc [((172 : Nat) : Int), x1, x2, x3, x4, x5, x6, w32 (x7 + 1), x5, x9, zl2i (zandL (zushrL x5 (w32 (56 - (w32 (8 * (zand x7 7)))))) 255)] rfl rfl ?_
          exact tGb rfl (fun m2 l2 => h1 g1 g2 g3 g4 m2 (Nat.lt_of_lt_of_le l2 (Nat.le_refl n)))
        · refine tL (zl2i (zandL (zushrL x5 (w32 (56 - (w32 (8 * (zand x7 7)))))) 255)) 0 rfl rfl rfl ?_
          refine tK rfl ?_
          refine tJ0 rfl (fun g5 _ l5 => zT_le ?_ (Nat.le_of_lt l5)) (fun g5 _ l5 => zT_le ?_ (Nat.le_of_lt l5))
          · refine tL ((172 : Nat) : Int) 0 rfl rfl rfl ?_
            refine tFR (c := 172) 173 rfl rfl rfl rfl rfl ?_
            refine tL ((172 : Nat) : Int) 0 rfl rfl rfl ?_
            refine tFv (c := 172) (s 172 1) 0 rfl rfl rfl rfl rfl ?_
            refine tL (zl2i (zandL (zushrL x5 (w32 (56 - (w32 (8 * (zand x7 7)))))) 255)) 0 rfl rfl rfl ?_
            refine tAS 173 ((s 172 1).toNat) rfl rfl rfl (by decide) ?_
            refine tL ((172 : Nat) : Int) 0 rfl rfl rfl ?_
            refine tD rfl ?_
            refine tFv (c := 172) (s 172 1) 0 rfl rfl rfl rfl rfl ?_
            refine tK rfl ?_
            refine tB (v := w32 ((s 172 1) + 1)) rfl rfl ?_
            refine tPut 172 rfl rfl ?_
            refine tInc [((172 : Nat) : Int), x1, x2, x3, x4, x5, x6, w32 (x7 + 1), x5, x9, zl2i (zandL (zushrL x5 (w32 (56 - (w32 (8 * (zand x7 7)))))) 255)] rfl rfl ?_
            exact tGb rfl (fun m2 l2 => h2 g1 g2 g3 g4 g5 m2 (Nat.lt_of_lt_of_le l2 (Nat.le_refl n)))
          · refine tL (zl2i (zandL (zushrL x5 (w32 (56 - (w32 (8 * (zand x7 7)))))) 255)) 0 rfl rfl rfl ?_
            refine tK rfl ?_
            refine tJ2 rfl (fun g6 _ l6 => zT_le ?_ (Nat.le_of_lt l6)) (fun g6 _ l6 => zT_le ?_ (Nat.le_of_lt l6))
            · refine tInc [((172 : Nat) : Int), x1, x2, x3, x4, x5, x6, w32 (x7 + 1), x5, x9, zl2i (zandL (zushrL x5 (w32 (56 - (w32 (8 * (zand x7 7)))))) 255)] rfl rfl ?_
              exact tGb rfl (fun m2 l2 => h3 g1 g2 g3 g4 g5 g6 m2 (Nat.lt_of_lt_of_le l2 (Nat.le_refl n)))
            · refine tL (zl2i (zandL (zushrL x5 (w32 (56 - (w32 (8 * (zand x7 7)))))) 255)) 0 rfl rfl rfl ?_
              refine tK rfl ?_
              refine tJ4 rfl (fun g7 _ l7 => zT_le ?_ (Nat.le_of_lt l7)) (fun g7 _ l7 => zT_le ?_ (Nat.le_of_lt l7))
              · refine tInc [((172 : Nat) : Int), x1, x2, x3, x4, x5, x6, w32 (x7 + 1), x5, x9, zl2i (zandL (zushrL x5 (w32 (56 - (w32 (8 * (zand x7 7)))))) 255)] rfl rfl ?_
                exact tGb rfl (fun m2 l2 => h4 g1 g2 g3 g4 g5 g6 g7 m2 (Nat.lt_of_lt_of_le l2 (Nat.le_refl n)))
              · refine tL ((172 : Nat) : Int) 0 rfl rfl rfl ?_
                refine tFR (c := 172) 173 rfl rfl rfl rfl rfl ?_
                refine tL ((172 : Nat) : Int) 0 rfl rfl rfl ?_
                refine tFv (c := 172) (s 172 1) 0 rfl rfl rfl rfl rfl ?_
                refine tL (zl2i (zandL (zushrL x5 (w32 (56 - (w32 (8 * (zand x7 7)))))) 255)) 0 rfl rfl rfl ?_
                refine tAS 173 ((s 172 1).toNat) rfl rfl rfl (by decide) ?_
                refine tL ((172 : Nat) : Int) 0 rfl rfl rfl ?_
                refine tD rfl ?_
                refine tFv (c := 172) (s 172 1) 0 rfl rfl rfl rfl rfl ?_
                refine tK rfl ?_
                refine tB (v := w32 ((s 172 1) + 1)) rfl rfl ?_
                refine tPut 172 rfl rfl ?_
                refine tInc [((172 : Nat) : Int), x1, x2, x3, x4, x5, x6, w32 (x7 + 1), x5, x9, zl2i (zandL (zushrL x5 (w32 (56 - (w32 (8 * (zand x7 7)))))) 255)] rfl rfl ?_
                exact tGb rfl (fun m2 l2 => h5 g1 g2 g3 g4 g5 g6 g7 m2 (Nat.lt_of_lt_of_le l2 (Nat.le_refl n)))
      · refine tL x3 1 rfl rfl rfl ?_
        refine tG rfl ?_
        refine tS [((172 : Nat) : Int), x1, x2, x3, x4, x5, x6, x7, x3, x9, x10] rfl rfl ?_
        refine tL x3 1 rfl rfl rfl ?_
        refine tK rfl ?_
        refine tK rfl ?_
        refine tL x7 0 rfl rfl rfl ?_
        refine tK rfl ?_
        refine tB (v := zand x7 7) rfl rfl ?_
        refine tM (v := w32 (8 * (zand x7 7))) rfl rfl ?_
        refine tB (v := w32 (56 - (w32 (8 * (zand x7 7))))) rfl rfl ?_
        refine tBI (v := zushrL x3 (w32 (56 - (w32 (8 * (zand x7 7)))))) rfl rfl ?_
        refine tKL rfl ?_
        refine tBL (v := zandL (zushrL x3 (w32 (56 - (w32 (8 * (zand x7 7)))))) 255) rfl rfl ?_
        refine tLI rfl ?_
        refine tS [((172 : Nat) : Int), x1, x2, x3, x4, x5, x6, x7, x3, x9, zl2i (zandL (zushrL x3 (w32 (56 - (w32 (8 * (zand x7 7)))))) 255)] rfl rfl ?_
        refine tL ((172 : Nat) : Int) 0 rfl rfl rfl ?_
        refine tFv (c := 172) (s 172 1) 0 rfl rfl rfl rfl rfl ?_
        refine tK rfl ?_
        refine tJ3 rfl (fun g8 _ l8 => zT_le ?_ (Nat.le_of_lt l8)) (fun g8 _ l8 => zT_le ?_ (Nat.le_of_lt l8))
        · refine tInc [((172 : Nat) : Int), x1, x2, x3, x4, x5, x6, w32 (x7 + 1), x3, x9, zl2i (zandL (zushrL x3 (w32 (56 - (w32 (8 * (zand x7 7)))))) 255)] rfl rfl ?_
          exact tGb rfl (fun m2 l2 => h6 g1 g2 g3 g8 m2 (Nat.lt_of_lt_of_le l2 (Nat.le_refl n)))
        · refine tL (zl2i (zandL (zushrL x3 (w32 (56 - (w32 (8 * (zand x7 7)))))) 255)) 0 rfl rfl rfl ?_
          refine tK rfl ?_
          refine tJ0 rfl (fun g9 _ l9 => zT_le ?_ (Nat.le_of_lt l9)) (fun g9 _ l9 => zT_le ?_ (Nat.le_of_lt l9))
          · refine tL ((172 : Nat) : Int) 0 rfl rfl rfl ?_
            refine tFR (c := 172) 173 rfl rfl rfl rfl rfl ?_
            refine tL ((172 : Nat) : Int) 0 rfl rfl rfl ?_
            refine tFv (c := 172) (s 172 1) 0 rfl rfl rfl rfl rfl ?_
            refine tL (zl2i (zandL (zushrL x3 (w32 (56 - (w32 (8 * (zand x7 7)))))) 255)) 0 rfl rfl rfl ?_
            refine tAS 173 ((s 172 1).toNat) rfl rfl rfl (by decide) ?_
            refine tL ((172 : Nat) : Int) 0 rfl rfl rfl ?_
            refine tD rfl ?_
            refine tFv (c := 172) (s 172 1) 0 rfl rfl rfl rfl rfl ?_
            refine tK rfl ?_
            refine tB (v := w32 ((s 172 1) + 1)) rfl rfl ?_
            refine tPut 172 rfl rfl ?_
            refine tInc [((172 : Nat) : Int), x1, x2, x3, x4, x5, x6, w32 (x7 + 1), x3, x9, zl2i (zandL (zushrL x3 (w32 (56 - (w32 (8 * (zand x7 7)))))) 255)] rfl rfl ?_
            exact tGb rfl (fun m2 l2 => h7 g1 g2 g3 g8 g9 m2 (Nat.lt_of_lt_of_le l2 (Nat.le_refl n)))
          · refine tL (zl2i (zandL (zushrL x3 (w32 (56 - (w32 (8 * (zand x7 7)))))) 255)) 0 rfl rfl rfl ?_
            refine tK rfl ?_
            refine tJ2 rfl (fun g10 _ l10 => zT_le ?_ (Nat.le_of_lt l10)) (fun g10 _ l10 => zT_le ?_ (Nat.le_of_lt l10))
            · refine tInc [((172 : Nat) : Int), x1, x2, x3, x4, x5, x6, w32 (x7 + 1), x3, x9, zl2i (zandL (zushrL x3 (w32 (56 - (w32 (8 * (zand x7 7)))))) 255)] rfl rfl ?_
              exact tGb rfl (fun m2 l2 => h8 g1 g2 g3 g8 g9 g10 m2 (Nat.lt_of_lt_of_le l2 (Nat.le_refl n)))
            · refine tL (zl2i (zandL (zushrL x3 (w32 (56 - (w32 (8 * (zand x7 7)))))) 255)) 0 rfl rfl rfl ?_
              refine tK rfl ?_
              refine tJ4 rfl (fun g11 _ l11 => zT_le ?_ (Nat.le_of_lt l11)) (fun g11 _ l11 => zT_le ?_ (Nat.le_of_lt l11))
              · refine tInc [((172 : Nat) : Int), x1, x2, x3, x4, x5, x6, w32 (x7 + 1), x3, x9, zl2i (zandL (zushrL x3 (w32 (56 - (w32 (8 * (zand x7 7)))))) 255)] rfl rfl ?_
                exact tGb rfl (fun m2 l2 => h9 g1 g2 g3 g8 g9 g10 g11 m2 (Nat.lt_of_lt_of_le l2 (Nat.le_refl n)))
              · refine tL ((172 : Nat) : Int) 0 rfl rfl rfl ?_
                refine tFR (c := 172) 173 rfl rfl rfl rfl rfl ?_
                refine tL ((172 : Nat) : Int) 0 rfl rfl rfl ?_
                refine tFv (c := 172) (s 172 1) 0 rfl rfl rfl rfl rfl ?_
                refine tL (zl2i (zandL (zushrL x3 (w32 (56 - (w32 (8 * (zand x7 7)))))) 255)) 0 rfl rfl rfl ?_
                refine tAS 173 ((s 172 1).toNat) rfl rfl rfl (by decide) ?_
                refine tL ((172 : Nat) : Int) 0 rfl rfl rfl ?_
                refine tD rfl ?_
                refine tFv (c := 172) (s 172 1) 0 rfl rfl rfl rfl rfl ?_
                refine tK rfl ?_
                refine tB (v := w32 ((s 172 1) + 1)) rfl rfl ?_
                refine tPut 172 rfl rfl ?_
                refine tInc [((172 : Nat) : Int), x1, x2, x3, x4, x5, x6, w32 (x7 + 1), x3, x9, zl2i (zandL (zushrL x3 (w32 (56 - (w32 (8 * (zand x7 7)))))) 255)] rfl rfl ?_
                exact tGb rfl (fun m2 l2 => h10 g1 g2 g3 g8 g9 g10 g11 m2 (Nat.lt_of_lt_of_le l2 (Nat.le_refl n)))
    · refine tL x1 1 rfl rfl rfl ?_
      refine tG rfl ?_
      refine tS [((172 : Nat) : Int), x1, x2, x3, x4, x5, x6, x7, x1, x9, x10] rfl rfl ?_
      refine tL x1 1 rfl rfl rfl ?_
      refine tK rfl ?_
      refine tK rfl ?_
      refine tL x7 0 rfl rfl rfl ?_
      refine tK rfl ?_
      refine tB (v := zand x7 7) rfl rfl ?_
      refine tM (v := w32 (8 * (zand x7 7))) rfl rfl ?_
      refine tB (v := w32 (56 - (w32 (8 * (zand x7 7))))) rfl rfl ?_
      refine tBI (v := zushrL x1 (w32 (56 - (w32 (8 * (zand x7 7)))))) rfl rfl ?_
      refine tKL rfl ?_
      refine tBL (v := zandL (zushrL x1 (w32 (56 - (w32 (8 * (zand x7 7)))))) 255) rfl rfl ?_
      refine tLI rfl ?_
      refine tS [((172 : Nat) : Int), x1, x2, x3, x4, x5, x6, x7, x1, x9, zl2i (zandL (zushrL x1 (w32 (56 - (w32 (8 * (zand x7 7)))))) 255)] rfl rfl ?_
      refine tL ((172 : Nat) : Int) 0 rfl rfl rfl ?_
      refine tFv (c := 172) (s 172 1) 0 rfl rfl rfl rfl rfl ?_
      refine tK rfl ?_
      refine tJ3 rfl (fun g12 _ l12 => zT_le ?_ (Nat.le_of_lt l12)) (fun g12 _ l12 => zT_le ?_ (Nat.le_of_lt l12))
      · refine tInc [((172 : Nat) : Int), x1, x2, x3, x4, x5, x6, w32 (x7 + 1), x1, x9, zl2i (zandL (zushrL x1 (w32 (56 - (w32 (8 * (zand x7 7)))))) 255)] rfl rfl ?_
        exact tGb rfl (fun m2 l2 => h11 g1 g2 g12 m2 (Nat.lt_of_lt_of_le l2 (Nat.le_refl n)))
      · refine tL (zl2i (zandL (zushrL x1 (w32 (56 - (w32 (8 * (zand x7 7)))))) 255)) 0 rfl rfl rfl ?_
        refine tK rfl ?_
        refine tJ0 rfl (fun g13 _ l13 => zT_le ?_ (Nat.le_of_lt l13)) (fun g13 _ l13 => zT_le ?_ (Nat.le_of_lt l13))
        · refine tL ((172 : Nat) : Int) 0 rfl rfl rfl ?_
          refine tFR (c := 172) 173 rfl rfl rfl rfl rfl ?_
          refine tL ((172 : Nat) : Int) 0 rfl rfl rfl ?_
          refine tFv (c := 172) (s 172 1) 0 rfl rfl rfl rfl rfl ?_
          refine tL (zl2i (zandL (zushrL x1 (w32 (56 - (w32 (8 * (zand x7 7)))))) 255)) 0 rfl rfl rfl ?_
          refine tAS 173 ((s 172 1).toNat) rfl rfl rfl (by decide) ?_
          refine tL ((172 : Nat) : Int) 0 rfl rfl rfl ?_
          refine tD rfl ?_
          refine tFv (c := 172) (s 172 1) 0 rfl rfl rfl rfl rfl ?_
          refine tK rfl ?_
          refine tB (v := w32 ((s 172 1) + 1)) rfl rfl ?_
          refine tPut 172 rfl rfl ?_
          refine tInc [((172 : Nat) : Int), x1, x2, x3, x4, x5, x6, w32 (x7 + 1), x1, x9, zl2i (zandL (zushrL x1 (w32 (56 - (w32 (8 * (zand x7 7)))))) 255)] rfl rfl ?_
          exact tGb rfl (fun m2 l2 => h12 g1 g2 g12 g13 m2 (Nat.lt_of_lt_of_le l2 (Nat.le_refl n)))
        · refine tL (zl2i (zandL (zushrL x1 (w32 (56 - (w32 (8 * (zand x7 7)))))) 255)) 0 rfl rfl rfl ?_
          refine tK rfl ?_
          refine tJ2 rfl (fun g14 _ l14 => zT_le ?_ (Nat.le_of_lt l14)) (fun g14 _ l14 => zT_le ?_ (Nat.le_of_lt l14))
          · refine tInc [((172 : Nat) : Int), x1, x2, x3, x4, x5, x6, w32 (x7 + 1), x1, x9, zl2i (zandL (zushrL x1 (w32 (56 - (w32 (8 * (zand x7 7)))))) 255)] rfl rfl ?_
            exact tGb rfl (fun m2 l2 => h13 g1 g2 g12 g13 g14 m2 (Nat.lt_of_lt_of_le l2 (Nat.le_refl n)))
          · refine tL (zl2i (zandL (zushrL x1 (w32 (56 - (w32 (8 * (zand x7 7)))))) 255)) 0 rfl rfl rfl ?_
            refine tK rfl ?_
            refine tJ4 rfl (fun g15 _ l15 => zT_le ?_ (Nat.le_of_lt l15)) (fun g15 _ l15 => zT_le ?_ (Nat.le_of_lt l15))
            · refine tInc [((172 : Nat) : Int), x1, x2, x3, x4, x5, x6, w32 (x7 + 1), x1, x9, zl2i (zandL (zushrL x1 (w32 (56 - (w32 (8 * (zand x7 7)))))) 255)] rfl rfl ?_
              exact tGb rfl (fun m2 l2 => h14 g1 g2 g12 g13 g14 g15 m2 (Nat.lt_of_lt_of_le l2 (Nat.le_refl n)))
            · refine tL ((172 : Nat) : Int) 0 rfl rfl rfl ?_
              refine tFR (c := 172) 173 rfl rfl rfl rfl rfl ?_
              refine tL ((172 : Nat) : Int) 0 rfl rfl rfl ?_
              refine tFv (c := 172) (s 172 1) 0 rfl rfl rfl rfl rfl ?_
              refine tL (zl2i (zandL (zushrL x1 (w32 (56 - (w32 (8 * (zand x7 7)))))) 255)) 0 rfl rfl rfl ?_
              refine tAS 173 ((s 172 1).toNat) rfl rfl rfl (by decide) ?_
              refine tL ((172 : Nat) : Int) 0 rfl rfl rfl ?_
              refine tD rfl ?_
              refine tFv (c := 172) (s 172 1) 0 rfl rfl rfl rfl rfl ?_
              refine tK rfl ?_
              refine tB (v := w32 ((s 172 1) + 1)) rfl rfl ?_
              refine tPut 172 rfl rfl ?_
              refine tInc [((172 : Nat) : Int), x1, x2, x3, x4, x5, x6, w32 (x7 + 1), x1, x9, zl2i (zandL (zushrL x1 (w32 (56 - (w32 (8 * (zand x7 7)))))) 255)] rfl rfl ?_
              exact tGb rfl (fun m2 l2 => h15 g1 g2 g12 g13 g14 g15 m2 (Nat.lt_of_lt_of_le l2 (Nat.le_refl n)))

theorem c_X11_feed {n : Nat} {Q : Zr → Prop} {a0 a1 a3 a5 : Int} {s : Zs} (h : zT (zE 1434) (Pt PX11_feed) n (0, [a0, a1, 0, a3, 0, a5, 0, 0, 0, 0, 0], [], s) Q) : zC n 1434 [(a0, 0), (a1, 1), (a3, 1), (a5, 1)] s Q := h

/-- a sign taken, if it fits -/
def zfS (v sh : Int) (a : Nat × (Nat → Int)) : Nat × (Nat → Int) := if a.1 < 1000 ∧ (zl2i (zandL (zushrL v sh) 255) = 10 ∨ 32 ≤ zl2i (zandL (zushrL v sh) 255) ∧ zl2i (zandL (zushrL v sh) 255) ≤ 126) then (a.1 + 1, fun i => if i = a.1 then zl2i (zandL (zushrL v sh) 255) else a.2 i) else a
def zfN (v : Int) : Nat → Nat × (Nat → Int) → Nat × (Nat → Int)
  | 0, a => a
  | m + 1, a => zfN v m (zfS v (8 * (m : Int)) a)
def tpC (s : Zs) (a : Nat × (Nat → Int)) : Prop := s 1 0 = (a.1 : Int) ∧ a.1 ≤ 1000 ∧ ∀ i, i < a.1 → s 2 i = a.2 i
def tpM (s : Zs) (a : Nat × (Nat → Int)) : Prop := s 172 1 = (a.1 : Int) ∧ a.1 ≤ 1000 ∧ ∀ i, i < a.1 → s 173 i = a.2 i
theorem zst_c {c : Int} (h : c = 10 ∨ 32 ≤ c ∧ c ≤ 126) : zst2 (zi2c c) = c := by
  have key : ∀ k : Nat, k < 127 → zst2 (zi2c (k : Int)) = (k : Int) := by decide +kernel
  obtain ⟨k, hk⟩ : ∃ k : Nat, c = (k : Int) := ⟨c.toNat, by omega⟩
  subst hk
  exact key k (by omega)
theorem zfS_no {v sh : Int} {a : Nat × (Nat → Int)} (h : ¬ (a.1 < 1000 ∧ (zl2i (zandL (zushrL v sh) 255) = 10 ∨ 32 ≤ zl2i (zandL (zushrL v sh) 255) ∧ zl2i (zandL (zushrL v sh) 255) ≤ 126))) : zfS v sh a = a := if_neg h
theorem tpC_push {s : Zs} {v sh : Int} {a : Nat × (Nat → Int)} (h : tpC s a) (h1 : s 1 0 < 1000) (h2 : zl2i (zandL (zushrL v sh) 255) = 10 ∨ 32 ≤ zl2i (zandL (zushrL v sh) 255) ∧ zl2i (zandL (zushrL v sh) 255) ≤ 126) : tpC (zu (zu s 2 ((s 1 0).toNat) (zst2 (zi2c (zl2i (zandL (zushrL v sh) 255))))) 1 0 (w32 ((s 1 0) + 1))) (zfS v sh a) := by
  obtain ⟨a1, a2, a3⟩ := h
  have e : zfS v sh a = (a.1 + 1, fun i => if i = a.1 then zl2i (zandL (zushrL v sh) 255) else a.2 i) := if_pos ⟨by omega, h2⟩
  rw [e, zst_c h2, a1, w32_id (by omega) (by omega), Int.toNat_natCast]
  refine ⟨by rw [zu_eq]; show (a.1 : Int) + 1 = ((a.1 + 1 : Nat) : Int); omega, by show a.1 + 1 ≤ 1000; omega, fun i hi => ?_⟩
  have hi : i < a.1 + 1 := hi
  show zu (zu s 2 a.1 _) 1 0 _ 2 i = if i = a.1 then _ else _
  rw [zu_n (by omega)]
  by_cases c : i = a.1
  · rw [if_pos c, c, zu_eq]
  · rw [if_neg c, zu_n (by omega)]; exact a3 i (by omega)
theorem tpM_push {s : Zs} {v sh : Int} {a : Nat × (Nat → Int)} (h : tpM s a) (h1 : s 172 1 < 1000) (h2 : zl2i (zandL (zushrL v sh) 255) = 10 ∨ 32 ≤ zl2i (zandL (zushrL v sh) 255) ∧ zl2i (zandL (zushrL v sh) 255) ≤ 126) : tpM (zu (zu s 173 ((s 172 1).toNat) (zl2i (zandL (zushrL v sh) 255))) 172 1 (w32 ((s 172 1) + 1))) (zfS v sh a) := by
  obtain ⟨a1, a2, a3⟩ := h
  have e : zfS v sh a = (a.1 + 1, fun i => if i = a.1 then zl2i (zandL (zushrL v sh) 255) else a.2 i) := if_pos ⟨by omega, h2⟩
  rw [e, a1, w32_id (by omega) (by omega), Int.toNat_natCast]
  refine ⟨by rw [zu_eq]; show (a.1 : Int) + 1 = ((a.1 + 1 : Nat) : Int); omega, by show a.1 + 1 ≤ 1000; omega, fun i hi => ?_⟩
  have hi : i < a.1 + 1 := hi
  show zu (zu s 173 a.1 _) 172 1 _ 173 i = if i = a.1 then _ else _
  rw [zu_n (by omega)]
  by_cases c : i = a.1
  · rw [if_pos c, c, zu_eq]
  · rw [if_neg c, zu_n (by omega)]; exact a3 i (by omega)
section Zfd
variable {N : Nat} {s : Zs} {a : Nat × (Nat → Int)}
def frD (s s' : Zs) : Prop := ∀ c j, ¬ (c = 1 ∧ j = 0) → c ≠ 2 → s' c j = s c j
theorem feedEight_ok {v : Int} (h : tpC s a) : zC N 900 [(((1 : Nat) : Int), 0), (v, 1)] s (fun r => r.1 = [] ∧ tpC r.2 (zfN v 8 a) ∧ frD s r.2) := by
  have loop : ∀ (M k : Nat) (x2 x4 x5 : Int) (b : Nat × (Nat → Int)) (s1 : Zs), k ≤ 8 → zfN v k b = zfN v 8 a → tpC s1 b → frD s s1 → zT (zE 900) (Pt PX7_feedEight) M (3, [((1 : Nat) : Int), v, x2, 8 * (k : Int) - 8, x4, x5], [], s1) (fun r => r.1 = [] ∧ tpC r.2 (zfN v 8 a) ∧ frD s r.2) := by
    intro M
    induction M using Nat.strongRecOn with
    | ind M ih =>
      intro k x2 x4 x5 b s1 hk hb ht hf
      cases k with
      | zero => exact b_X7_feedEight_3 _ _ _ _ _ s1 (fun _ => ⟨rfl, by rw [← hb]; exact ht, hf⟩) (fun g => absurd g (by omega)) (fun g => absurd g (by omega)) (fun g => absurd g (by omega)) (fun g => absurd g (by omega)) (fun g => absurd g (by omega)) (fun g => absurd g (by omega))
      | succ k =>
        have ex : 8 * ((k + 1 : Nat) : Int) - 8 = 8 * (k : Int) := by omega
        have ey : w32 (8 * (k : Int) + -8) = 8 * (k : Int) - 8 := by rw [w32_id (by omega) (by omega)]; omega
        have hb' : zfN v k (zfS v (8 * (k : Int)) b) = zfN v 8 a := hb
        obtain ⟨t1, t2, t3⟩ := ht
        have ht : tpC s1 b := ⟨t1, t2, t3⟩
        have no : ∀ x4 x5 m, m < M → ¬ (b.1 < 1000 ∧ (zl2i (zandL (zushrL v (8 * (k : Int))) 255) = 10 ∨ 32 ≤ zl2i (zandL (zushrL v (8 * (k : Int))) 255) ∧ zl2i (zandL (zushrL v (8 * (k : Int))) 255) ≤ 126)) → zT (zE 900) (Pt PX7_feedEight) m (3, [((1 : Nat) : Int), v, x2, 8 * (k : Int) - 8, x4, x5], [], s1) (fun r => r.1 = [] ∧ tpC r.2 (zfN v 8 a) ∧ frD s r.2) := fun x4 x5 m hm q => by
          rw [zfS_no q] at hb'
          exact ih m hm k x2 x4 x5 b s1 (by omega) hb' ht hf
        have yes : ∀ x4 x5 m, m < M → s1 1 0 < 1000 → (zl2i (zandL (zushrL v (8 * (k : Int))) 255) = 10 ∨ 32 ≤ zl2i (zandL (zushrL v (8 * (k : Int))) 255) ∧ zl2i (zandL (zushrL v (8 * (k : Int))) 255) ≤ 126) → zT (zE 900) (Pt PX7_feedEight) m (3, [((1 : Nat) : Int), v, x2, 8 * (k : Int) - 8, x4, x5], [], zu (zu s1 2 ((s1 1 0).toNat) (zst2 (zi2c (zl2i (zandL (zushrL v (8 * (k : Int))) 255))))) 1 0 (w32 ((s1 1 0) + 1))) (fun r => r.1 = [] ∧ tpC r.2 (zfN v 8 a) ∧ frD s r.2) := fun x4 x5 m hm q1 q2 =>
          ih m hm k x2 x4 x5 _ _ (by omega) hb' (tpC_push ht q1 q2) (fun c j q3 q4 => by rw [zu_n (by omega), zu_n (by omega)]; exact hf c j q3 q4)
        rw [ex]
        refine b_X7_feedEight_3 _ _ _ _ _ s1 (fun g => absurd g (by omega)) (fun _ g2 g3 m hm => ?_) (fun _ g2 g3 m hm => ?_) (fun _ g2 g4 m hm => ?_) (fun _ g2 g4 g5 m hm => ?_) (fun _ g2 g4 g5 g6 m hm => ?_) (fun _ g2 g4 g5 g6 m hm => ?_)
        all_goals rw [ey]
        · exact no _ _ m hm (fun q => by omega)
        · exact yes _ _ m hm g3 (Or.inl g2)
        · exact no _ _ m hm (fun q => by omega)
        · exact no _ _ m hm (fun q => by omega)
        · exact no _ _ m hm (fun q => by omega)
        · exact yes _ _ m hm g6 (Or.inr ⟨g4, g5⟩)
  exact c_X7_feedEight (b_X7_feedEight_0 _ _ _ _ _ s (loop N 8 _ _ _ a s (by omega) rfl h (fun _ _ _ _ => rfl)))
theorem feed_c {v1 v2 v3 : Int} (h : tpC s a) : zC N 1291 [(((0 : Nat) : Int), 0), (v1, 1), (v2, 1), (v3, 1)] s (fun r => tpC r.2 (zfN v3 8 (zfN v2 8 (zfN v1 8 a))) ∧ frD s r.2) := by
  refine c_X10_feed (b_X10_feed_0 _ _ _ _ _ _ s (fun m hm => ?_))
  refine zC_q (feedEight_ok h) (fun r hr => ?_)
  obtain ⟨r1, s1⟩ := r
  obtain ⟨e, h1, f1⟩ := hr
  have e : r1 = [] := e
  subst e
  refine b_X10_feed_8 _ _ _ _ _ _ s1 (fun m hm => ?_)
  refine zC_q (feedEight_ok h1) (fun r hr => ?_)
  obtain ⟨r1, s2⟩ := r
  obtain ⟨e, h2, f2⟩ := hr
  have e : r1 = [] := e
  subst e
  refine b_X10_feed_16 _ _ _ _ _ _ s2 (fun m hm => ?_)
  refine zC_q (feedEight_ok h2) (fun r hr => ?_)
  obtain ⟨r1, s3⟩ := r
  obtain ⟨e, h3, f3⟩ := hr
  have e : r1 = [] := e
  subst e
  exact b_X10_feed_25 _ _ _ _ _ _ s3 ⟨h3, fun c j a b => (f3 c j a b).trans ((f2 c j a b).trans (f1 c j a b))⟩
theorem fd_sh : ∀ k : Nat, k < 24 → w32 (56 - (w32 (8 * (zand ((k : Nat) : Int) 7)))) = 8 * (((7 - k % 8 : Nat)) : Int) := by decide +kernel
/-- what is still to be taken from the place k on -/
def zfG (v1 v2 v3 : Int) (k : Nat) (b : Nat × (Nat → Int)) : Nat × (Nat → Int) := if k < 8 then zfN v3 8 (zfN v2 8 (zfN v1 (8 - k) b)) else if k < 16 then zfN v3 8 (zfN v2 (16 - k) b) else zfN v3 (24 - k) b
def zfW (v1 v2 v3 : Int) (k : Nat) : Int := if k < 8 then v1 else if k < 16 then v2 else v3
theorem zfG_on {v1 v2 v3 : Int} {k : Nat} (hk : k < 24) {b : Nat × (Nat → Int)} : zfG v1 v2 v3 k b = zfG v1 v2 v3 (k + 1) (zfS (zfW v1 v2 v3 k) (8 * (((7 - k % 8 : Nat)) : Int)) b) := by
  have on : ∀ (v : Int) (m j : Nat), m = j + 1 → zfN v m b = zfN v j (zfS v (8 * (j : Int)) b) := fun v m j e => by subst e; rfl
  unfold zfG zfW
  by_cases h1 : k < 8
  · rw [if_pos h1, if_pos h1, on v1 (8 - k) (7 - k % 8) (by omega)]
    by_cases h2 : k + 1 < 8
    · rw [if_pos h2, show 8 - (k + 1) = 7 - k % 8 from by omega]
    · rw [if_neg h2, if_pos (by omega), show 7 - k % 8 = 0 from by omega, show 16 - (k + 1) = 8 from by omega]
      rfl
  · have n1 : ¬ k + 1 < 8 := by omega
    rw [if_neg h1, if_neg h1, if_neg n1]
    by_cases h3 : k < 16
    · rw [if_pos h3, if_pos h3, on v2 (16 - k) (7 - k % 8) (by omega)]
      by_cases h4 : k + 1 < 16
      · rw [if_pos h4, show 16 - (k + 1) = 7 - k % 8 from by omega]
      · rw [if_neg h4, show 7 - k % 8 = 0 from by omega, show 24 - (k + 1) = 8 from by omega]
        rfl
    · have n2 : ¬ k + 1 < 16 := by omega
      rw [if_neg h3, if_neg h3, if_neg n2, on v3 (24 - k) (7 - k % 8) (by omega), show 24 - (k + 1) = 7 - k % 8 from by omega]
theorem feed_m {v1 v2 v3 : Int} (h : tpM s a) : zC N 1434 [(((172 : Nat) : Int), 0), (v1, 1), (v2, 1), (v3, 1)] s (fun r => tpM r.2 (zfN v3 8 (zfN v2 8 (zfN v1 8 a)))) := by
  have loop : ∀ (M k : Nat) (x2 x4 x6 x8 x9 x10 : Int) (b : Nat × (Nat → Int)) (s1 : Zs), k ≤ 24 → zfG v1 v2 v3 k b = zfN v3 8 (zfN v2 8 (zfN v1 8 a)) → tpM s1 b → zT (zE 1434) (Pt PX11_feed) M (8, [((172 : Nat) : Int), v1, x2, v2, x4, v3, x6, (k : Int), x8, x9, x10], [], s1) (fun r => tpM r.2 (zfN v3 8 (zfN v2 8 (zfN v1 8 a)))) := by
    intro M
    induction M using Nat.strongRecOn with
    | ind M ih =>
      intro k x2 x4 x6 x8 x9 x10 b s1 hk hb ht
      obtain ⟨t1, t2, t3⟩ := ht
      have ht : tpM s1 b := ⟨t1, t2, t3⟩
      by_cases h24 : k = 24
      · subst h24
        unfold zfG at hb
        rw [if_neg (by decide), if_neg (by decide)] at hb
        have hb : b = zfN v3 8 (zfN v2 8 (zfN v1 8 a)) := hb
        exact b_X11_feed_8 _ _ _ _ _ _ _ _ _ _ s1 (fun _ => by rw [← hb]; exact ht) (fun g => absurd g (by omega)) (fun g => absurd g (by omega)) (fun g => absurd g (by omega)) (fun g => absurd g (by omega)) (fun g => absurd g (by omega)) (fun g => absurd g (by omega)) (fun g => absurd g (by omega)) (fun g => absurd g (by omega)) (fun g => absurd g (by omega)) (fun g => absurd g (by omega)) (fun g => absurd g (by omega)) (fun g => absurd g (by omega)) (fun g => absurd g (by omega)) (fun g => absurd g (by omega)) (fun g => absurd g (by omega))
      · have hk' : k < 24 := by omega
        have hsh := fd_sh k hk'
        have hon := (zfG_on (v1 := v1) (v2 := v2) (v3 := v3) hk' (b := b)).symm.trans hb
        have ek : w32 ((k : Int) + 1) = ((k + 1 : Nat) : Int) := by rw [w32_id (by omega) (by omega)]; omega
        have no : ∀ (x8 w x9 x10 : Int) (m : Nat), m < M → zfW v1 v2 v3 k = w → ¬ (s1 172 1 < 1000 ∧ (zl2i (zandL (zushrL w (w32 (56 - (w32 (8 * (zand (k : Int) 7)))))) 255) = 10 ∨ 32 ≤ zl2i (zandL (zushrL w (w32 (56 - (w32 (8 * (zand (k : Int) 7)))))) 255) ∧ zl2i (zandL (zushrL w (w32 (56 - (w32 (8 * (zand (k : Int) 7)))))) 255) ≤ 126)) → zT (zE 1434) (Pt PX11_feed) m (8, [((172 : Nat) : Int), v1, x2, v2, x4, v3, x6, w32 ((k : Int) + 1), x8, x9, x10], [], s1) (fun r => tpM r.2 (zfN v3 8 (zfN v2 8 (zfN v1 8 a)))) := fun x8 w x9 x10 m hm he q => by
          rw [hsh] at q
          rw [he, zfS_no (fun c => q ⟨by omega, c.2⟩)] at hon
          rw [ek]
          exact ih m hm (k + 1) _ _ _ _ _ _ b s1 (by omega) hon ht
        have yes : ∀ (x8 w x9 x10 : Int) (m : Nat), m < M → zfW v1 v2 v3 k = w → s1 172 1 < 1000 → (zl2i (zandL (zushrL w (w32 (56 - (w32 (8 * (zand (k : Int) 7)))))) 255) = 10 ∨ 32 ≤ zl2i (zandL (zushrL w (w32 (56 - (w32 (8 * (zand (k : Int) 7)))))) 255) ∧ zl2i (zandL (zushrL w (w32 (56 - (w32 (8 * (zand (k : Int) 7)))))) 255) ≤ 126) → zT (zE 1434) (Pt PX11_feed) m (8, [((172 : Nat) : Int), v1, x2, v2, x4, v3, x6, w32 ((k : Int) + 1), x8, x9, x10], [], zu (zu s1 173 ((s1 172 1).toNat) (zl2i (zandL (zushrL w (w32 (56 - (w32 (8 * (zand (k : Int) 7)))))) 255))) 172 1 (w32 ((s1 172 1) + 1))) (fun r => tpM r.2 (zfN v3 8 (zfN v2 8 (zfN v1 8 a)))) := fun x8 w x9 x10 m hm he q1 q2 => by
          rw [he] at hon
          rw [ek]
          refine ih m hm (k + 1) _ _ _ _ _ _ _ _ (by omega) hon ?_
          rw [hsh] at q2 ⊢
          exact tpM_push ht q1 q2
        by_cases c1 : k < 8
        · have he : zfW v1 v2 v3 k = v1 := if_pos c1
          exact b_X11_feed_8 _ _ _ _ _ _ _ _ _ _ s1 (fun g => absurd g (by omega)) (fun _ g8 g16 => absurd g8 (by omega)) (fun _ g8 g16 => absurd g8 (by omega)) (fun _ g8 g16 => absurd g8 (by omega)) (fun _ g8 g16 => absurd g8 (by omega)) (fun _ g8 g16 => absurd g8 (by omega)) (fun _ g8 g16 => absurd g8 (by omega)) (fun _ g8 g16 => absurd g8 (by omega)) (fun _ g8 g16 => absurd g8 (by omega)) (fun _ g8 g16 => absurd g8 (by omega)) (fun _ g8 g16 => absurd g8 (by omega)) (fun _ g8 g m hm => no _ v1 _ _ m hm he (fun q => by omega)) (fun _ g8 g g2 m hm => yes _ v1 _ _ m hm he g (Or.inl g2)) (fun _ g8 g g2 g3 m hm => no _ v1 _ _ m hm he (fun q => by omega)) (fun _ g8 g g2 g3 g4 m hm => no _ v1 _ _ m hm he (fun q => by omega)) (fun _ g8 g g2 g3 g4 m hm => yes _ v1 _ _ m hm he g (Or.inr ⟨g3, g4⟩))
        · by_cases c2 : k < 16
          · have he : zfW v1 v2 v3 k = v2 := by unfold zfW; rw [if_neg c1, if_pos c2]
            exact b_X11_feed_8 _ _ _ _ _ _ _ _ _ _ s1 (fun g => absurd g (by omega)) (fun _ g8 g16 => absurd g16 (by omega)) (fun _ g8 g16 => absurd g16 (by omega)) (fun _ g8 g16 => absurd g16 (by omega)) (fun _ g8 g16 => absurd g16 (by omega)) (fun _ g8 g16 => absurd g16 (by omega)) (fun _ g8 g16 g m hm => no _ v2 _ _ m hm he (fun q => by omega)) (fun _ g8 g16 g g2 m hm => yes _ v2 _ _ m hm he g (Or.inl g2)) (fun _ g8 g16 g g2 g3 m hm => no _ v2 _ _ m hm he (fun q => by omega)) (fun _ g8 g16 g g2 g3 g4 m hm => no _ v2 _ _ m hm he (fun q => by omega)) (fun _ g8 g16 g g2 g3 g4 m hm => yes _ v2 _ _ m hm he g (Or.inr ⟨g3, g4⟩)) (fun _ g8 => absurd g8 (by omega)) (fun _ g8 => absurd g8 (by omega)) (fun _ g8 => absurd g8 (by omega)) (fun _ g8 => absurd g8 (by omega)) (fun _ g8 => absurd g8 (by omega))
          · have he : zfW v1 v2 v3 k = v3 := by unfold zfW; rw [if_neg c1, if_neg c2]
            exact b_X11_feed_8 _ _ _ _ _ _ _ _ _ _ s1 (fun g => absurd g (by omega)) (fun _ g8 g16 g m hm => no _ v3 _ _ m hm he (fun q => by omega)) (fun _ g8 g16 g g2 m hm => yes _ v3 _ _ m hm he g (Or.inl g2)) (fun _ g8 g16 g g2 g3 m hm => no _ v3 _ _ m hm he (fun q => by omega)) (fun _ g8 g16 g g2 g3 g4 m hm => no _ v3 _ _ m hm he (fun q => by omega)) (fun _ g8 g16 g g2 g3 g4 m hm => yes _ v3 _ _ m hm he g (Or.inr ⟨g3, g4⟩)) (fun _ g8 g16 => absurd g16 (by omega)) (fun _ g8 g16 => absurd g16 (by omega)) (fun _ g8 g16 => absurd g16 (by omega)) (fun _ g8 g16 => absurd g16 (by omega)) (fun _ g8 g16 => absurd g16 (by omega)) (fun _ g8 => absurd g8 (by omega)) (fun _ g8 => absurd g8 (by omega)) (fun _ g8 => absurd g8 (by omega)) (fun _ g8 => absurd g8 (by omega)) (fun _ g8 => absurd g8 (by omega))
  exact c_X11_feed (b_X11_feed_0 _ _ _ _ _ _ _ _ _ _ s (loop N 0 _ _ _ _ _ _ a _ (by omega) (if_pos (by decide)) ⟨by rw [zu_n (by omega)]; exact h.1, h.2.1, fun i hi => by rw [zu_n (by omega)]; exact h.2.2 i hi⟩))
end Zfd
