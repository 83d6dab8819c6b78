/-! orders -/
theorem b_X3_choose_0 {n : Nat} {Q : Zr → Prop} {t : Nat} (x2 x3 : Int) (s : Zs) (ht : t = 7 ∨ t = 43)
    (h0 : zT (zE 385) (Pt PX3_choose) n (7, [((165 : Nat) : Int), ((t : Nat) : Int), x2, 0], [], zu s 165 0 0) Q) : zT (zE 385) (Pt PX3_choose) n (0, [((165 : Nat) : Int), ((t : Nat) : Int), x2, x3], [], s) Q := by
  refine tL ((165 : Nat) : Int) 0 rfl rfl rfl ?_
  refine tK rfl ?_
  refine tPut 165 rfl rfl ?_
  refine tK rfl ?_
  refine tS [((165 : Nat) : Int), ((t : Nat) : Int), x2, 0] rfl rfl ?_
  exact zT_le (h0) (Nat.le_refl n)

theorem b_X3_choose_7 {n : Nat} {Q : Zr → Prop} {t : Nat} (x2 x3 : Int) (s : Zs) (ht : t = 7 ∨ t = 43)
    (h0 : ∀ (g1 : s (t + 1) 1 ≤ x3), Q ([], s))
    (h1 : ∀ (g1 : x3 < s (t + 1) 1), ∀ (g2 : 7 ≤ s 165 0), Q ([], s))
    (h2 : ∀ (g1 : x3 < s (t + 1) 1), ∀ (g2 : s 165 0 < 7), ∀ (g3 : zand (zshr x2 x3) 1 ≠ 1), ∀ m, m < n → zT (zE 385) (Pt PX3_choose) m (7, [((165 : Nat) : Int), ((t : Nat) : Int), x2, w32 (x3 + 1)], [], s) Q)
    (h3 : ∀ (g1 : x3 < s (t + 1) 1), ∀ (g2 : s 165 0 < 7), ∀ (g3 : zand (zshr x2 x3) 1 = 1), ∀ m, m < n → zT (zE 385) (Pt PX3_choose) m (7, [((165 : Nat) : Int), ((t : Nat) : Int), x2, w32 (x3 + 1)], [], zu (zu s 166 ((s 165 0).toNat) x3) 165 0 (w32 ((s 165 0) + 1))) Q) : zT (zE 385) (Pt PX3_choose) n (7, [((165 : Nat) : Int), ((t : Nat) : Int), x2, x3], [], s) Q := by
  refine tL x3 0 rfl rfl rfl ?_
  refine tL ((t : Nat) : Int) 0 rfl rfl rfl ?_
  refine tFR (c := t) (t + 1) rfl rfl rfl rfl (zt8_0 ht) ?_
  refine tK rfl ?_
  refine tAv (t + 1) 1 (s (t + 1) 1) 0 rfl rfl rfl (by decide) rfl rfl ?_
  refine tJ3 rfl (fun g1 _ l1 => zT_le ?_ (Nat.le_of_lt l1)) (fun g1 _ l1 => zT_le ?_ (Nat.le_of_lt l1))
  · exact tR rfl (h0 g1)
  · refine tL ((165 : Nat) : Int) 0 rfl rfl rfl ?_
    refine tFv (c := 165) (s 165 0) 0 rfl rfl rfl rfl rfl ?_
    refine tK rfl ?_
    refine tJ3 rfl (fun g2 _ l2 => zT_le ?_ (Nat.le_of_lt l2)) (fun g2 _ l2 => zT_le ?_ (Nat.le_of_lt l2))
    · exact tR rfl (h1 g1 g2)
    · refine tL x2 0 rfl rfl rfl ?_
      refine tL x3 0 rfl rfl rfl ?_
      refine tB (v := zshr x2 x3) rfl rfl ?_
      refine tK rfl ?_
      refine tB (v := zand (zshr x2 x3) 1) rfl rfl ?_
      refine tK rfl ?_
      refine tJ1 rfl (fun g3 _ l3 => zT_le ?_ (Nat.le_of_lt l3)) (fun g3 _ l3 => zT_le ?_ (Nat.le_of_lt l3))
      · refine tInc [((165 : Nat) : Int), ((t : Nat) : Int), x2, w32 (x3 + 1)] rfl rfl ?_
        exact tGb rfl (fun m2 l2 => h2 g1 g2 g3 m2 (Nat.lt_of_lt_of_le l2 (Nat.le_refl n)))
      · refine tL ((165 : Nat) : Int) 0 rfl rfl rfl ?_
        refine tFR (c := 165) 166 rfl rfl rfl rfl rfl ?_
        refine tL ((165 : Nat) : Int) 0 rfl rfl rfl ?_
        refine tFv (c := 165) (s 165 0) 0 rfl rfl rfl rfl rfl ?_
        refine tL x3 0 rfl rfl rfl ?_
        refine tAS 166 ((s 165 0).toNat) rfl rfl rfl (by decide) ?_
        refine tL ((165 : Nat) : Int) 0 rfl rfl rfl ?_
        refine tD rfl ?_
        refine tFv (c := 165) (s 165 0) 0 rfl rfl rfl rfl rfl ?_
        refine tK rfl ?_
        refine tB (v := w32 ((s 165 0) + 1)) rfl rfl ?_
        refine tPut 165 rfl rfl ?_
        refine tInc [((165 : Nat) : Int), ((t : Nat) : Int), x2, w32 (x3 + 1)] rfl rfl ?_
        exact tGb rfl (fun m2 l2 => h3 g1 g2 g3 m2 (Nat.lt_of_lt_of_le l2 (Nat.le_refl n)))

theorem c_X3_choose {n : Nat} {Q : Zr → Prop} {a0 a1 a2 : Int} {s : Zs} (h : zT (zE 385) (Pt PX3_choose) n (0, [a0, a1, a2, 0], [], s) Q) : zC n 385 [(a0, 0), (a1, 0), (a2, 0)] s Q := h

theorem b_X3_fillSums_0 {n : Nat} {Q : Zr → Prop} {t : Nat} (x2 x3 x4 x5 x6 : Int) (s : Zs) (ht : t = 7 ∨ t = 43)
    (h0 : zT (zE 386) (Pt PX3_fillSums) n (9, [((165 : Nat) : Int), ((t : Nat) : Int), 1, w32 ((s 165 0) - 1), x4, x5, x6], [], s) Q) : zT (zE 386) (Pt PX3_fillSums) n (0, [((165 : Nat) : Int), ((t : Nat) : Int), x2, x3, x4, x5, x6], [], s) Q := by
  refine tK rfl ?_
  refine tS [((165 : Nat) : Int), ((t : Nat) : Int), 1, x3, x4, x5, x6] rfl rfl ?_
  refine tL ((165 : Nat) : Int) 0 rfl rfl rfl ?_
  refine tFv (c := 165) (s 165 0) 0 rfl rfl rfl rfl rfl ?_
  refine tK rfl ?_
  refine tB (v := w32 ((s 165 0) - 1)) rfl rfl ?_
  refine tS [((165 : Nat) : Int), ((t : Nat) : Int), 1, w32 ((s 165 0) - 1), x4, x5, x6] rfl rfl ?_
  exact zT_le (h0) (Nat.le_refl n)

theorem b_X3_fillSums_9 {n : Nat} {Q : Zr → Prop} {t : Nat} (x2 x3 x4 x5 x6 : Int) (s : Zs) (ht : t = 7 ∨ t = 43)
    (h0 : ∀ (g1 : x3 < 0), Q ([], s))
    (h1 : ∀ (g1 : 0 ≤ x3), zT (zE 386) (Pt PX3_fillSums) n (43, [((165 : Nat) : Int), ((t : Nat) : Int), x2, x3, s (zrho (t + 12) ((s 166 x3.toNat).toNat)) 2, zshl 1 (w32 ((w32 ((s 165 0) - 1)) - x3)), 0], [], s) Q) : zT (zE 386) (Pt PX3_fillSums) n (9, [((165 : Nat) : Int), ((t : Nat) : Int), x2, x3, x4, x5, x6], [], s) Q := by
  refine tL x3 0 rfl rfl rfl ?_
  refine tI2 rfl (fun g1 _ l1 => zT_le ?_ (Nat.le_of_lt l1)) (fun g1 _ l1 => zT_le ?_ (Nat.le_of_lt l1))
  · exact tR rfl (h0 g1)
  · refine tL ((t : Nat) : Int) 0 rfl rfl rfl ?_
    refine tFR (c := t) (t + 12) rfl rfl rfl rfl (zt8_1 ht) ?_
    refine tL ((165 : Nat) : Int) 0 rfl rfl rfl ?_
    refine tFR (c := 165) 166 rfl rfl rfl rfl rfl ?_
    refine tL x3 0 rfl rfl rfl ?_
    refine tAv 166 x3.toNat (s 166 x3.toNat) 0 rfl rfl rfl (by decide) rfl rfl ?_
    refine tAR (zrho (t + 12) ((s 166 x3.toNat).toNat)) rfl rfl ?_
    refine tK rfl ?_
    refine tAv (zrho (t + 12) ((s 166 x3.toNat).toNat)) 2 (s (zrho (t + 12) ((s 166 x3.toNat).toNat)) 2) 0 rfl rfl rfl (by decide) rfl rfl ?_
    refine tS [((165 : Nat) : Int), ((t : Nat) : Int), x2, x3, s (zrho (t + 12) ((s 166 x3.toNat).toNat)) 2, x5, x6] rfl rfl ?_
    refine tK rfl ?_
    refine tL ((165 : Nat) : Int) 0 rfl rfl rfl ?_
    refine tFv (c := 165) (s 165 0) 0 rfl rfl rfl rfl rfl ?_
    refine tK rfl ?_
    refine tB (v := w32 ((s 165 0) - 1)) rfl rfl ?_
    refine tL x3 0 rfl rfl rfl ?_
    refine tB (v := w32 ((w32 ((s 165 0) - 1)) - x3)) rfl rfl ?_
    refine tB (v := zshl 1 (w32 ((w32 ((s 165 0) - 1)) - x3))) rfl rfl ?_
    refine tS [((165 : Nat) : Int), ((t : Nat) : Int), x2, x3, s (zrho (t + 12) ((s 166 x3.toNat).toNat)) 2, zshl 1 (w32 ((w32 ((s 165 0) - 1)) - x3)), x6] rfl rfl ?_
    refine tK rfl ?_
    refine tS [((165 : Nat) : Int), ((t : Nat) : Int), x2, x3, s (zrho (t + 12) ((s 166 x3.toNat).toNat)) 2, zshl 1 (w32 ((w32 ((s 165 0) - 1)) - x3)), 0] rfl rfl ?_
    exact zT_le (h1 g1) (Nat.le_refl n)

theorem b_X3_fillSums_43 {n : Nat} {Q : Zr → Prop} {t : Nat} (x2 x3 x4 x5 x6 : Int) (s : Zs) (ht : t = 7 ∨ t = 43)
    (h0 : ∀ (g1 : x5 ≤ x6), ∀ m, m < n → zT (zE 386) (Pt PX3_fillSums) m (9, [((165 : Nat) : Int), ((t : Nat) : Int), w32 (x2 * 5), w32 (x3 + (-1)), x4, x5, x6], [], s) Q)
    (h1 : ∀ (g1 : x6 < x5), ∀ m, m < n → zT (zE 386) (Pt PX3_fillSums) m (43, [((165 : Nat) : Int), ((t : Nat) : Int), x2, x3, x4, x5, w32 (x6 + 1)], [], zu (zu s 167 ((zor x6 x5).toNat) (w32 ((s 167 x6.toNat) + x4))) 168 ((zor x6 x5).toNat) (w32 ((s 168 x6.toNat) + x2))) Q) : zT (zE 386) (Pt PX3_fillSums) n (43, [((165 : Nat) : Int), ((t : Nat) : Int), x2, x3, x4, x5, x6], [], s) Q := by
  refine tL x6 0 rfl rfl rfl ?_
  refine tL x5 0 rfl rfl rfl ?_
  refine tJ3 rfl (fun g1 _ l1 => zT_le ?_ (Nat.le_of_lt l1)) (fun g1 _ l1 => zT_le ?_ (Nat.le_of_lt l1))
  · refine tL x2 0 rfl rfl rfl ?_
    refine tK rfl ?_
    refine tM (v := w32 (x2 * 5)) rfl rfl ?_
    refine tS [((165 : Nat) : Int), ((t : Nat) : Int), w32 (x2 * 5), x3, x4, x5, x6] rfl rfl ?_
    refine tInc [((165 : Nat) : Int), ((t : Nat) : Int), w32 (x2 * 5), w32 (x3 + (-1)), x4, x5, x6] rfl rfl ?_
    exact tGb rfl (fun m2 l2 => h0 g1 m2 (Nat.lt_of_lt_of_le l2 (Nat.le_refl n)))
  · refine tL ((165 : Nat) : Int) 0 rfl rfl rfl ?_
    refine tFR (c := 165) 167 rfl rfl rfl rfl rfl ?_
    refine tL x6 0 rfl rfl rfl ?_
    refine tL x5 0 rfl rfl rfl ?_
    refine tB (v := zor x6 x5) rfl rfl ?_
    refine tL ((165 : Nat) : Int) 0 rfl rfl rfl ?_
    refine tFR (c := 165) 167 rfl rfl rfl rfl rfl ?_
    refine tL x6 0 rfl rfl rfl ?_
    refine tAv 167 x6.toNat (s 167 x6.toNat) 0 rfl rfl rfl (by decide) rfl rfl ?_
    refine tL x4 0 rfl rfl rfl ?_
    refine tB (v := w32 ((s 167 x6.toNat) + x4)) rfl rfl ?_
    refine tAS 167 ((zor x6 x5).toNat) rfl rfl rfl (by decide) ?_
    refine tL ((165 : Nat) : Int) 0 rfl rfl rfl ?_
    refine tFR (c := 165) 168 rfl rfl rfl rfl rfl ?_
    refine tL x6 0 rfl rfl rfl ?_
    refine tL x5 0 rfl rfl rfl ?_
    refine tB (v := zor x6 x5) rfl rfl ?_
    refine tL ((165 : Nat) : Int) 0 rfl rfl rfl ?_
    refine tFR (c := 165) 168 rfl rfl rfl rfl rfl ?_
    refine tL x6 0 rfl rfl rfl ?_
    refine tAv 168 x6.toNat (s 168 x6.toNat) 0 rfl rfl rfl (by decide) rfl rfl ?_
    refine tL x2 0 rfl rfl rfl ?_
    refine tB (v := w32 ((s 168 x6.toNat) + x2)) rfl rfl ?_
    refine tAS 168 ((zor x6 x5).toNat) rfl rfl rfl (by decide) ?_
    refine tInc [((165 : Nat) : Int), ((t : Nat) : Int), x2, x3, x4, x5, w32 (x6 + 1)] rfl rfl ?_
    exact tGb rfl (fun m2 l2 => h1 g1 m2 (Nat.lt_of_lt_of_le l2 (Nat.le_refl n)))

theorem c_X3_fillSums {n : Nat} {Q : Zr → Prop} {a0 a1 : Int} {s : Zs} (h : zT (zE 386) (Pt PX3_fillSums) n (0, [a0, a1, 0, 0, 0, 0, 0], [], s) Q) : zC n 386 [(a0, 0), (a1, 0)] s Q := h

theorem b_X3_bestWith_0 {n : Nat} {Q : Zr → Prop} {t : Nat} (x2 x3 x4 x5 x6 x7 x8 x9 x10 : Int) (s : Zs) (ht : t = 7 ∨ t = 43)
    (h0 : zT (zE 384) (Pt PX3_bestWith) n (11, [((165 : Nat) : Int), ((t : Nat) : Int), x2, x3, s 169 x3.toNat, x5, x3, x7, x8, x9, x10], [], s) Q) : zT (zE 384) (Pt PX3_bestWith) n (0, [((165 : Nat) : Int), ((t : Nat) : Int), x2, x3, x4, x5, x6, x7, x8, x9, x10], [], s) Q := by
  refine tL ((165 : Nat) : Int) 0 rfl rfl rfl ?_
  refine tFR (c := 165) 169 rfl rfl rfl rfl rfl ?_
  refine tL x3 0 rfl rfl rfl ?_
  refine tAv 169 x3.toNat (s 169 x3.toNat) 1 rfl rfl rfl (by decide) rfl rfl ?_
  refine tS [((165 : Nat) : Int), ((t : Nat) : Int), x2, x3, s 169 x3.toNat, x5, x6, x7, x8, x9, x10] rfl rfl ?_
  refine tL x3 0 rfl rfl rfl ?_
  refine tS [((165 : Nat) : Int), ((t : Nat) : Int), x2, x3, s 169 x3.toNat, x5, x3, x7, x8, x9, x10] rfl rfl ?_
  exact zT_le (h0) (Nat.le_refl n)

theorem b_X3_bestWith_11 {n : Nat} {Q : Zr → Prop} {t : Nat} (x2 x3 x4 x5 x6 x7 x8 x9 x10 : Int) (s : Zs) (ht : t = 7 ∨ t = 43)
    (h0 : ∀ (g1 : x6 ≤ 0), Q ([(x4, 1)], s))
    (h1 : ∀ (g1 : 0 < x6), ∀ (g2 : s 167 x6.toNat < s (zrho (t + 28) x2.toNat) 0), ∀ m, m < n → zT (zE 384) (Pt PX3_bestWith) m (11, [((165 : Nat) : Int), ((t : Nat) : Int), x2, x3, if w64 ((w64 ((w64 ((w64 (0 * 67108864)) - (w64 ((s 167 x6.toNat) * 131072)))) - (w64 (x2 * (s 168 x6.toNat))))) + (s 169 ((zxor x3 x6).toNat))) < x4 then x4 else w64 ((w64 ((w64 ((w64 (0 * 67108864)) - (w64 ((s 167 x6.toNat) * 131072)))) - (w64 (x2 * (s 168 x6.toNat))))) + (s 169 ((zxor x3 x6).toNat))), x5, zand (w32 (x6 - 1)) x3, 0, x8, w64 ((w64 ((w64 (0 * 67108864)) - (w64 ((s 167 x6.toNat) * 131072)))) - (w64 (x2 * (s 168 x6.toNat)))), x10], [], s) Q)
    (h2 : ∀ (g1 : 0 < x6), ∀ (g2 : s (zrho (t + 28) x2.toNat) 0 ≤ s 167 x6.toNat), ∀ m, m < n → zT (zE 384) (Pt PX3_bestWith) m (11, [((165 : Nat) : Int), ((t : Nat) : Int), x2, x3, if w64 ((w64 ((w64 ((w64 ((s (zrho (t + 28) x2.toNat) 1) * 67108864)) - (w64 ((s 167 x6.toNat) * 131072)))) - (w64 (x2 * (s 168 x6.toNat))))) + (s 169 ((zxor x3 x6).toNat))) < x4 then x4 else w64 ((w64 ((w64 ((w64 ((s (zrho (t + 28) x2.toNat) 1) * 67108864)) - (w64 ((s 167 x6.toNat) * 131072)))) - (w64 (x2 * (s 168 x6.toNat))))) + (s 169 ((zxor x3 x6).toNat))), x5, zand (w32 (x6 - 1)) x3, s (zrho (t + 28) x2.toNat) 1, x8, w64 ((w64 ((w64 ((s (zrho (t + 28) x2.toNat) 1) * 67108864)) - (w64 ((s 167 x6.toNat) * 131072)))) - (w64 (x2 * (s 168 x6.toNat)))), x10], [], s) Q) : zT (zE 384) (Pt PX3_bestWith) n (11, [((165 : Nat) : Int), ((t : Nat) : Int), x2, x3, x4, x5, x6, x7, x8, x9, x10], [], s) Q := by
  refine tL x6 0 rfl rfl rfl ?_
  refine tI5 rfl (fun g1 _ l1 => zT_le ?_ (Nat.le_of_lt l1)) (fun g1 _ l1 => zT_le ?_ (Nat.le_of_lt l1))
  · refine tL x4 1 rfl rfl rfl ?_
    exact tR rfl (h0 g1)
  · refine tL ((165 : Nat) : Int) 0 rfl rfl rfl ?_
    refine tFR (c := 165) 167 rfl rfl rfl rfl rfl ?_
    refine tL x6 0 rfl rfl rfl ?_
    refine tAv 167 x6.toNat (s 167 x6.toNat) 0 rfl rfl rfl (by decide) rfl rfl ?_
    refine tL ((t : Nat) : Int) 0 rfl rfl rfl ?_
    refine tFR (c := t) (t + 28) rfl rfl rfl rfl (zt8_4 ht) ?_
    refine tL x2 0 rfl rfl rfl ?_
    refine tAR (zrho (t + 28) x2.toNat) rfl rfl ?_
    refine tK rfl ?_
    refine tAv (zrho (t + 28) x2.toNat) 0 (s (zrho (t + 28) x2.toNat) 0) 0 rfl rfl rfl (by decide) rfl rfl ?_
    refine tJ2 rfl (fun g2 _ l2 => zT_le ?_ (Nat.le_of_lt l2)) (fun g2 _ l2 => zT_le ?_ (Nat.le_of_lt l2))
    · refine tKL rfl ?_
      refine tS [((165 : Nat) : Int), ((t : Nat) : Int), x2, x3, x4, x5, x6, 0, x8, x9, x10] rfl rfl ?_
      refine tL 0 1 rfl rfl rfl ?_
      refine tKL rfl ?_
      refine tBL (v := w64 (0 * 67108864)) rfl rfl ?_
      refine tL ((165 : Nat) : Int) 0 rfl rfl rfl ?_
      refine tFR (c := 165) 167 rfl rfl rfl rfl rfl ?_
      refine tL x6 0 rfl rfl rfl ?_
      refine tAv 167 x6.toNat (s 167 x6.toNat) 0 rfl rfl rfl (by decide) rfl rfl ?_
      refine tU1 rfl ?_
      refine tKL rfl ?_
      refine tBL (v := w64 ((s 167 x6.toNat) * 131072)) rfl rfl ?_
      refine tBL (v := w64 ((w64 (0 * 67108864)) - (w64 ((s 167 x6.toNat) * 131072)))) rfl rfl ?_
      refine tL x2 0 rfl rfl rfl ?_
      refine tU1 rfl ?_
      refine tL ((165 : Nat) : Int) 0 rfl rfl rfl ?_
      refine tFR (c := 165) 168 rfl rfl rfl rfl rfl ?_
      refine tL x6 0 rfl rfl rfl ?_
      refine tAv 168 x6.toNat (s 168 x6.toNat) 0 rfl rfl rfl (by decide) rfl rfl ?_
      refine tU1 rfl ?_
      refine tBL (v := w64 (x2 * (s 168 x6.toNat))) rfl rfl ?_
      refine tBL (v := w64 ((w64 ((w64 (0 * 67108864)) - (w64 ((s 167 x6.toNat) * 131072)))) - (w64 (x2 * (s 168 x6.toNat))))) rfl rfl ?_
      refine tS [((165 : Nat) : Int), ((t : Nat) : Int), x2, x3, x4, x5, x6, 0, x8, w64 ((w64 ((w64 (0 * 67108864)) - (w64 ((s 167 x6.toNat) * 131072)))) - (w64 (x2 * (s 168 x6.toNat)))), x10] rfl rfl ?_
      refine tL x4 1 rfl rfl rfl ?_
      refine tL (w64 ((w64 ((w64 (0 * 67108864)) - (w64 ((s 167 x6.toNat) * 131072)))) - (w64 (x2 * (s 168 x6.toNat))))) 1 rfl rfl rfl ?_
      refine tL ((165 : Nat) : Int) 0 rfl rfl rfl ?_
      refine tFR (c := 165) 169 rfl rfl rfl rfl rfl ?_
      refine tL x3 0 rfl rfl rfl ?_
      refine tL x6 0 rfl rfl rfl ?_
      refine tB (v := zxor x3 x6) rfl rfl ?_
      refine tAv 169 ((zxor x3 x6).toNat) (s 169 ((zxor x3 x6).toNat)) 1 rfl rfl rfl (by decide) rfl rfl ?_
      refine tBL (v := w64 ((w64 ((w64 ((w64 (0 * 67108864)) - (w64 ((s 167 x6.toNat) * 131072)))) - (w64 (x2 * (s 168 x6.toNat))))) + (s 169 ((zxor x3 x6).toNat)))) rfl rfl ?_
      refine tE3 rfl rfl ?_
      refine tS [((165 : Nat) : Int), ((t : Nat) : Int), x2, x3, if w64 ((w64 ((w64 ((w64 (0 * 67108864)) - (w64 ((s 167 x6.toNat) * 131072)))) - (w64 (x2 * (s 168 x6.toNat))))) + (s 169 ((zxor x3 x6).toNat))) < x4 then x4 else w64 ((w64 ((w64 ((w64 (0 * 67108864)) - (w64 ((s 167 x6.toNat) * 131072)))) - (w64 (x2 * (s 168 x6.toNat))))) + (s 169 ((zxor x3 x6).toNat))), x5, x6, 0, x8, w64 ((w64 ((w64 (0 * 67108864)) - (w64 ((s 167 x6.toNat) * 131072)))) - (w64 (x2 * (s 168 x6.toNat)))), x10] rfl rfl ?_
      refine tL x6 0 rfl rfl rfl ?_
      refine tK rfl ?_
      refine tB (v := w32 (x6 - 1)) rfl rfl ?_
      refine tL x3 0 rfl rfl rfl ?_
      refine tB (v := zand (w32 (x6 - 1)) x3) rfl rfl ?_
      refine tS [((165 : Nat) : Int), ((t : Nat) : Int), x2, x3, if w64 ((w64 ((w64 ((w64 (0 * 67108864)) - (w64 ((s 167 x6.toNat) * 131072)))) - (w64 (x2 * (s 168 x6.toNat))))) + (s 169 ((zxor x3 x6).toNat))) < x4 then x4 else w64 ((w64 ((w64 ((w64 (0 * 67108864)) - (w64 ((s 167 x6.toNat) * 131072)))) - (w64 (x2 * (s 168 x6.toNat))))) + (s 169 ((zxor x3 x6).toNat))), x5, zand (w32 (x6 - 1)) x3, 0, x8, w64 ((w64 ((w64 (0 * 67108864)) - (w64 ((s 167 x6.toNat) * 131072)))) - (w64 (x2 * (s 168 x6.toNat)))), x10] rfl rfl ?_
      exact tGb rfl (fun m2 l2 => h1 g1 g2 m2 (Nat.lt_of_lt_of_le l2 (Nat.le_refl n)))
    · refine tL ((t : Nat) : Int) 0 rfl rfl rfl ?_
      refine tFR (c := t) (t + 28) rfl rfl rfl rfl (zt8_4 ht) ?_
      refine tL x2 0 rfl rfl rfl ?_
      refine tAR (zrho (t + 28) x2.toNat) rfl rfl ?_
      refine tK rfl ?_
      refine tAv (zrho (t + 28) x2.toNat) 1 (s (zrho (t + 28) x2.toNat) 1) 0 rfl rfl rfl (by decide) rfl rfl ?_
      refine tU1 rfl ?_
      refine tG rfl ?_
      refine tS [((165 : Nat) : Int), ((t : Nat) : Int), x2, x3, x4, x5, x6, s (zrho (t + 28) x2.toNat) 1, x8, x9, x10] rfl rfl ?_
      refine tL (s (zrho (t + 28) x2.toNat) 1) 1 rfl rfl rfl ?_
      refine tKL rfl ?_
      refine tBL (v := w64 ((s (zrho (t + 28) x2.toNat) 1) * 67108864)) rfl rfl ?_
      refine tL ((165 : Nat) : Int) 0 rfl rfl rfl ?_
      refine tFR (c := 165) 167 rfl rfl rfl rfl rfl ?_
      refine tL x6 0 rfl rfl rfl ?_
      refine tAv 167 x6.toNat (s 167 x6.toNat) 0 rfl rfl rfl (by decide) rfl rfl ?_
      refine tU1 rfl ?_
      refine tKL rfl ?_
      refine tBL (v := w64 ((s 167 x6.toNat) * 131072)) rfl rfl ?_
      refine tBL (v := w64 ((w64 ((s (zrho (t + 28) x2.toNat) 1) * 67108864)) - (w64 ((s 167 x6.toNat) * 131072)))) rfl rfl ?_
      refine tL x2 0 rfl rfl rfl ?_
      refine tU1 rfl ?_
      refine tL ((165 : Nat) : Int) 0 rfl rfl rfl ?_
      refine tFR (c := 165) 168 rfl rfl rfl rfl rfl ?_
      refine tL x6 0 rfl rfl rfl ?_
      refine tAv 168 x6.toNat (s 168 x6.toNat) 0 rfl rfl rfl (by decide) rfl rfl ?_
      refine tU1 rfl ?_
      refine tBL (v := w64 (x2 * (s 168 x6.toNat))) rfl rfl ?_
      refine tBL (v := w64 ((w64 ((w64 ((s (zrho (t + 28) x2.toNat) 1) * 67108864)) - (w64 ((s 167 x6.toNat) * 131072)))) - (w64 (x2 * (s 168 x6.toNat))))) rfl rfl ?_
      refine tS [((165 : Nat) : Int), ((t : Nat) : Int), x2, x3, x4, x5, x6, s (zrho (t + 28) x2.toNat) 1, x8, w64 ((w64 ((w64 ((s (zrho (t + 28) x2.toNat) 1) * 67108864)) - (w64 ((s 167 x6.toNat) * 131072)))) - (w64 (x2 * (s 168 x6.toNat)))), x10] rfl rfl ?_
      refine tL x4 1 rfl rfl rfl ?_
      refine tL (w64 ((w64 ((w64 ((s (zrho (t + 28) x2.toNat) 1) * 67108864)) - (w64 ((s 167 x6.toNat) * 131072)))) - (w64 (x2 * (s 168 x6.toNat))))) 1 rfl rfl rfl ?_
      refine tL ((165 : Nat) : Int) 0 rfl rfl rfl ?_
      refine tFR (c := 165) 169 rfl rfl rfl rfl rfl ?_
      refine tL x3 0 rfl rfl rfl ?_
      refine tL x6 0 rfl rfl rfl ?_
      refine tB (v := zxor x3 x6) rfl rfl ?_
      refine tAv 169 ((zxor x3 x6).toNat) (s 169 ((zxor x3 x6).toNat)) 1 rfl rfl rfl (by decide) rfl rfl ?_
      refine tBL (v := w64 ((w64 ((w64 ((w64 ((s (zrho (t + 28) x2.toNat) 1) * 67108864)) - (w64 ((s 167 x6.toNat) * 131072)))) - (w64 (x2 * (s 168 x6.toNat))))) + (s 169 ((zxor x3 x6).toNat)))) rfl rfl ?_
      refine tE3 rfl rfl ?_
      refine tS [((165 : Nat) : Int), ((t : Nat) : Int), x2, x3, if w64 ((w64 ((w64 ((w64 ((s (zrho (t + 28) x2.toNat) 1) * 67108864)) - (w64 ((s 167 x6.toNat) * 131072)))) - (w64 (x2 * (s 168 x6.toNat))))) + (s 169 ((zxor x3 x6).toNat))) < x4 then x4 else w64 ((w64 ((w64 ((w64 ((s (zrho (t + 28) x2.toNat) 1) * 67108864)) - (w64 ((s 167 x6.toNat) * 131072)))) - (w64 (x2 * (s 168 x6.toNat))))) + (s 169 ((zxor x3 x6).toNat))), x5, x6, s (zrho (t + 28) x2.toNat) 1, x8, w64 ((w64 ((w64 ((s (zrho (t + 28) x2.toNat) 1) * 67108864)) - (w64 ((s 167 x6.toNat) * 131072)))) - (w64 (x2 * (s 168 x6.toNat)))), x10] rfl rfl ?_
      refine tL x6 0 rfl rfl rfl ?_
      refine tK rfl ?_
      refine tB (v := w32 (x6 - 1)) rfl rfl ?_
      refine tL x3 0 rfl rfl rfl ?_
      refine tB (v := zand (w32 (x6 - 1)) x3) rfl rfl ?_
      refine tS [((165 : Nat) : Int), ((t : Nat) : Int), x2, x3, if w64 ((w64 ((w64 ((w64 ((s (zrho (t + 28) x2.toNat) 1) * 67108864)) - (w64 ((s 167 x6.toNat) * 131072)))) - (w64 (x2 * (s 168 x6.toNat))))) + (s 169 ((zxor x3 x6).toNat))) < x4 then x4 else w64 ((w64 ((w64 ((w64 ((s (zrho (t + 28) x2.toNat) 1) * 67108864)) - (w64 ((s 167 x6.toNat) * 131072)))) - (w64 (x2 * (s 168 x6.toNat))))) + (s 169 ((zxor x3 x6).toNat))), x5, zand (w32 (x6 - 1)) x3, s (zrho (t + 28) x2.toNat) 1, x8, w64 ((w64 ((w64 ((s (zrho (t + 28) x2.toNat) 1) * 67108864)) - (w64 ((s 167 x6.toNat) * 131072)))) - (w64 (x2 * (s 168 x6.toNat)))), x10] rfl rfl ?_
      exact tGb rfl (fun m2 l2 => h2 g1 g2 m2 (Nat.lt_of_lt_of_le l2 (Nat.le_refl n)))

theorem c_X3_bestWith {n : Nat} {Q : Zr → Prop} {a0 a1 a2 a3 : Int} {s : Zs} (h : zT (zE 384) (Pt PX3_bestWith) n (0, [a0, a1, a2, a3, 0, 0, 0, 0, 0, 0, 0], [], s) Q) : zC n 384 [(a0, 0), (a1, 0), (a2, 0), (a3, 0)] s Q := h

theorem b_X3_pack_0 {n : Nat} {Q : Zr → Prop} {t : Nat} (x2 x3 : Int) (s : Zs) (ht : t = 7 ∨ t = 43)
    (h0 : ∀ m, m < n → zC m 386 [(((165 : Nat) : Int), 0), (((t : Nat) : Int), 0)] s (fun p => zT (zE 388) (Pt PX3_pack) m (5, [((165 : Nat) : Int), ((t : Nat) : Int), x2, x3], p.1 ++ [], p.2) Q)) : zT (zE 388) (Pt PX3_pack) n (0, [((165 : Nat) : Int), ((t : Nat) : Int), x2, x3], [], s) Q := by
  refine tL ((165 : Nat) : Int) 0 rfl rfl rfl ?_
  refine tL ((t : Nat) : Int) 0 rfl rfl rfl ?_
  exact tCall [(((165 : Nat) : Int), 0), (((t : Nat) : Int), 0)] [] rfl rfl rfl (fun m l => h0 m (Nat.lt_of_lt_of_le l (Nat.le_refl n)))

theorem b_X3_pack_7 {n : Nat} {Q : Zr → Prop} {t : Nat} (x2 x3 : Int) (s : Zs) (ht : t = 7 ∨ t = 43)
    (h0 : ∀ (g1 : zshl 1 (s 165 0) ≤ x2), zT (zE 388) (Pt PX3_pack) n (49, [((165 : Nat) : Int), ((t : Nat) : Int), w32 ((s (t + 1) 4) - 1), x3], [], s) Q)
    (h1 : ∀ (g1 : x2 < zshl 1 (s 165 0)), ∀ m, m < n → zT (zE 388) (Pt PX3_pack) m (7, [((165 : Nat) : Int), ((t : Nat) : Int), w32 (x2 + 1), x3], [], zu s 169 x2.toNat (w64 ((-4) * (s 168 x2.toNat)))) Q) : zT (zE 388) (Pt PX3_pack) n (7, [((165 : Nat) : Int), ((t : Nat) : Int), x2, x3], [], s) Q := by
  refine tL x2 0 rfl rfl rfl ?_
  refine tK rfl ?_
  refine tL ((165 : Nat) : Int) 0 rfl rfl rfl ?_
  refine tFv (c := 165) (s 165 0) 0 rfl rfl rfl rfl rfl ?_
  refine tB (v := zshl 1 (s 165 0)) rfl rfl ?_
  refine tJ3 rfl (fun g1 _ l1 => zT_le ?_ (Nat.le_of_lt l1)) (fun g1 _ l1 => zT_le ?_ (Nat.le_of_lt l1))
  · refine tL ((t : Nat) : Int) 0 rfl rfl rfl ?_
    refine tFR (c := t) (t + 1) rfl rfl rfl rfl (zt8_0 ht) ?_
    refine tK rfl ?_
    refine tAv (t + 1) 4 (s (t + 1) 4) 0 rfl rfl rfl (by decide) rfl rfl ?_
    refine tK rfl ?_
    refine tB (v := w32 ((s (t + 1) 4) - 1)) rfl rfl ?_
    refine tS [((165 : Nat) : Int), ((t : Nat) : Int), w32 ((s (t + 1) 4) - 1), x3] rfl rfl ?_
    exact zT_le (h0 g1) (Nat.le_refl n)
  · refine tL ((165 : Nat) : Int) 0 rfl rfl rfl ?_
    refine tFR (c := 165) 169 rfl rfl rfl rfl rfl ?_
    refine tL x2 0 rfl rfl rfl ?_
    refine tKL rfl ?_
    refine tL ((165 : Nat) : Int) 0 rfl rfl rfl ?_
    refine tFR (c := 165) 168 rfl rfl rfl rfl rfl ?_
    refine tL x2 0 rfl rfl rfl ?_
    refine tAv 168 x2.toNat (s 168 x2.toNat) 0 rfl rfl rfl (by decide) rfl rfl ?_
    refine tU1 rfl ?_
    refine tBL (v := w64 ((-4) * (s 168 x2.toNat))) rfl rfl ?_
    refine tAS 169 x2.toNat rfl rfl rfl (by decide) ?_
    refine tInc [((165 : Nat) : Int), ((t : Nat) : Int), w32 (x2 + 1), x3] rfl rfl ?_
    exact tGb rfl (fun m2 l2 => h1 g1 m2 (Nat.lt_of_lt_of_le l2 (Nat.le_refl n)))

theorem b_X3_pack_49 {n : Nat} {Q : Zr → Prop} {t : Nat} (x2 x3 : Int) (s : Zs) (ht : t = 7 ∨ t = 43)
    (h0 : ∀ (g1 : x2 < 0), Q ([], s))
    (h1 : ∀ (g1 : 0 ≤ x2), zT (zE 388) (Pt PX3_pack) n (62, [((165 : Nat) : Int), ((t : Nat) : Int), x2, w32 ((zshl 1 (s 165 0)) - 1)], [], s) Q) : zT (zE 388) (Pt PX3_pack) n (49, [((165 : Nat) : Int), ((t : Nat) : Int), x2, x3], [], s) Q := by
  refine tL x2 0 rfl rfl rfl ?_
  refine tI2 rfl (fun g1 _ l1 => zT_le ?_ (Nat.le_of_lt l1)) (fun g1 _ l1 => zT_le ?_ (Nat.le_of_lt l1))
  · exact tR rfl (h0 g1)
  · refine tK rfl ?_
    refine tL ((165 : Nat) : Int) 0 rfl rfl rfl ?_
    refine tFv (c := 165) (s 165 0) 0 rfl rfl rfl rfl rfl ?_
    refine tB (v := zshl 1 (s 165 0)) rfl rfl ?_
    refine tK rfl ?_
    refine tB (v := w32 ((zshl 1 (s 165 0)) - 1)) rfl rfl ?_
    refine tS [((165 : Nat) : Int), ((t : Nat) : Int), x2, w32 ((zshl 1 (s 165 0)) - 1)] rfl rfl ?_
    exact zT_le (h1 g1) (Nat.le_refl n)

theorem b_X3_pack_62 {n : Nat} {Q : Zr → Prop} {t : Nat} (x2 x3 : Int) (s : Zs) (ht : t = 7 ∨ t = 43)
    (h0 : ∀ (g1 : x3 ≤ 0), ∀ m, m < n → zT (zE 388) (Pt PX3_pack) m (49, [((165 : Nat) : Int), ((t : Nat) : Int), w32 (x2 + (-1)), x3], [], s) Q)
    (h1 : ∀ (g1 : 0 < x3), ∀ m, m < n → zC m 384 [(((165 : Nat) : Int), 0), (((t : Nat) : Int), 0), (x2, 0), (x3, 0)] s (fun p => zT (zE 388) (Pt PX3_pack) m (78, [((165 : Nat) : Int), ((t : Nat) : Int), x2, x3], p.1 ++ [(x3, 0), (((169 : Nat) : Int), 0)], p.2) Q)) : zT (zE 388) (Pt PX3_pack) n (62, [((165 : Nat) : Int), ((t : Nat) : Int), x2, x3], [], s) Q := by
  refine tL x3 0 rfl rfl rfl ?_
  refine tI5 rfl (fun g1 _ l1 => zT_le ?_ (Nat.le_of_lt l1)) (fun g1 _ l1 => zT_le ?_ (Nat.le_of_lt l1))
  · refine tInc [((165 : Nat) : Int), ((t : Nat) : Int), w32 (x2 + (-1)), x3] rfl rfl ?_
    exact tGb rfl (fun m2 l2 => h0 g1 m2 (Nat.lt_of_lt_of_le l2 (Nat.le_refl n)))
  · refine tL ((165 : Nat) : Int) 0 rfl rfl rfl ?_
    refine tFR (c := 165) 169 rfl rfl rfl rfl rfl ?_
    refine tL x3 0 rfl rfl rfl ?_
    refine tL ((165 : Nat) : Int) 0 rfl rfl rfl ?_
    refine tL ((t : Nat) : Int) 0 rfl rfl rfl ?_
    refine tL x2 0 rfl rfl rfl ?_
    refine tL x3 0 rfl rfl rfl ?_
    exact tCall [(((165 : Nat) : Int), 0), (((t : Nat) : Int), 0), (x2, 0), (x3, 0)] [(x3, 0), (((169 : Nat) : Int), 0)] rfl rfl rfl (fun m l => h1 g1 m (Nat.lt_of_lt_of_le l (Nat.le_refl n)))

theorem b_X3_pack_5 {n : Nat} {Q : Zr → Prop} {t : Nat} (x2 x3 : Int) (s : Zs) (ht : t = 7 ∨ t = 43)
    (h0 : zT (zE 388) (Pt PX3_pack) n (7, [((165 : Nat) : Int), ((t : Nat) : Int), 0, x3], [], s) Q) : zT (zE 388) (Pt PX3_pack) n (5, [((165 : Nat) : Int), ((t : Nat) : Int), x2, x3], [], s) Q := by
  refine tK rfl ?_
  refine tS [((165 : Nat) : Int), ((t : Nat) : Int), 0, x3] rfl rfl ?_
  exact zT_le (h0) (Nat.le_refl n)

theorem b_X3_pack_78 {n : Nat} {Q : Zr → Prop} {t : Nat} (x2 x3 v0 y0 : Int) (s : Zs) (ht : t = 7 ∨ t = 43)
    (h0 : ∀ m, m < n → zT (zE 388) (Pt PX3_pack) m (62, [((165 : Nat) : Int), ((t : Nat) : Int), x2, w32 (x3 + (-1))], [], zu s 169 y0.toNat v0) Q) : zT (zE 388) (Pt PX3_pack) n (78, [((165 : Nat) : Int), ((t : Nat) : Int), x2, x3], [(v0, 1), (y0, 0), (((169 : Nat) : Int), 0)], s) Q := by
  refine tAS 169 y0.toNat rfl rfl rfl (by decide) ?_
  refine tInc [((165 : Nat) : Int), ((t : Nat) : Int), x2, w32 (x3 + (-1))] rfl rfl ?_
  exact tGb rfl (fun m2 l2 => h0 m2 (Nat.lt_of_lt_of_le l2 (Nat.le_refl n)))

theorem c_X3_pack {n : Nat} {Q : Zr → Prop} {a0 a1 : Int} {s : Zs} (h : zT (zE 388) (Pt PX3_pack) n (0, [a0, a1, 0, 0], [], s) Q) : zC n 388 [(a0, 0), (a1, 0)] s Q := h

theorem b_X3_whole_0 {n : Nat} {Q : Zr → Prop} (s : Zs) 
    (h0 : Q ([(s 169 ((w32 ((zshl 1 (s 165 0)) - 1)).toNat), 1)], s)) : zT (zE 391) (Pt PX3_whole) n (0, [((165 : Nat) : Int)], [], s) Q := by
  refine tL ((165 : Nat) : Int) 0 rfl rfl rfl ?_
  refine tFR (c := 165) 169 rfl rfl rfl rfl rfl ?_
  refine tK rfl ?_
  refine tL ((165 : Nat) : Int) 0 rfl rfl rfl ?_
  refine tFv (c := 165) (s 165 0) 0 rfl rfl rfl rfl rfl ?_
  refine tB (v := zshl 1 (s 165 0)) rfl rfl ?_
  refine tK rfl ?_
  refine tB (v := w32 ((zshl 1 (s 165 0)) - 1)) rfl rfl ?_
  refine tAv 169 ((w32 ((zshl 1 (s 165 0)) - 1)).toNat) (s 169 ((w32 ((zshl 1 (s 165 0)) - 1)).toNat)) 1 rfl rfl rfl (by decide) rfl rfl ?_
  exact tR rfl (h0)

theorem c_X3_whole {n : Nat} {Q : Zr → Prop} {a0 : Int} {s : Zs} (h : zT (zE 391) (Pt PX3_whole) n (0, [a0], [], s) Q) : zC n 391 [(a0, 0)] s Q := h

theorem b_X3_pay_0 {n : Nat} {Q : Zr → Prop} (s : Zs) 
    (h0 : ∀ m, m < n → zC m 391 [(((165 : Nat) : Int), 0)] s (fun p => zT (zE 389) (Pt PX3_pay) m (4, [((165 : Nat) : Int)], p.1 ++ [], p.2) Q)) : zT (zE 389) (Pt PX3_pay) n (0, [((165 : Nat) : Int)], [], s) Q := by
  refine tL ((165 : Nat) : Int) 0 rfl rfl rfl ?_
  exact tCall [(((165 : Nat) : Int), 0)] [] rfl rfl rfl (fun m l => h0 m (Nat.lt_of_lt_of_le l (Nat.le_refl n)))

theorem b_X3_pay_4 {n : Nat} {Q : Zr → Prop} (v0 : Int) (s : Zs) 
    (h0 : Q ([(zl2i (zdivL (w64 ((w64 (v0 + 67108864)) - 1)) 67108864), 0)], s)) : zT (zE 389) (Pt PX3_pay) n (4, [((165 : Nat) : Int)], [(v0, 1)], s) Q := by
  refine tKL rfl ?_
  refine tBL (v := w64 (v0 + 67108864)) rfl rfl ?_
  refine tKL rfl ?_
  refine tBL (v := w64 ((w64 (v0 + 67108864)) - 1)) rfl rfl ?_
  refine tKL rfl ?_
  refine tBL (v := zdivL (w64 ((w64 (v0 + 67108864)) - 1)) 67108864) rfl rfl ?_
  refine tLI rfl ?_
  exact tR rfl (h0)

theorem c_X3_pay {n : Nat} {Q : Zr → Prop} {a0 : Int} {s : Zs} (h : zT (zE 389) (Pt PX3_pay) n (0, [a0], [], s) Q) : zC n 389 [(a0, 0)] s Q := h

theorem b_X3_rise_0 {n : Nat} {Q : Zr → Prop} (s : Zs) 
    (h0 : ∀ m, m < n → zC m 389 [(((165 : Nat) : Int), 0)] s (fun p => zT (zE 390) (Pt PX3_rise) m (4, [((165 : Nat) : Int)], p.1 ++ [], p.2) Q)) : zT (zE 390) (Pt PX3_rise) n (0, [((165 : Nat) : Int)], [], s) Q := by
  refine tL ((165 : Nat) : Int) 0 rfl rfl rfl ?_
  exact tCall [(((165 : Nat) : Int), 0)] [] rfl rfl rfl (fun m l => h0 m (Nat.lt_of_lt_of_le l (Nat.le_refl n)))

theorem b_X3_rise_4 {n : Nat} {Q : Zr → Prop} (v0 : Int) (s : Zs) 
    (h0 : ∀ m, m < n → zC m 391 [(((165 : Nat) : Int), 0)] s (fun p => zT (zE 390) (Pt PX3_rise) m (13, [((165 : Nat) : Int)], p.1 ++ [(w64 (v0 * 67108864), 1)], p.2) Q)) : zT (zE 390) (Pt PX3_rise) n (4, [((165 : Nat) : Int)], [(v0, 0)], s) Q := by
  refine tU1 rfl ?_
  refine tKL rfl ?_
  refine tBL (v := w64 (v0 * 67108864)) rfl rfl ?_
  refine tL ((165 : Nat) : Int) 0 rfl rfl rfl ?_
  exact tCall [(((165 : Nat) : Int), 0)] [(w64 (v0 * 67108864), 1)] rfl rfl rfl (fun m l => h0 m (Nat.lt_of_lt_of_le l (Nat.le_refl n)))

theorem b_X3_rise_13 {n : Nat} {Q : Zr → Prop} (v0 y0 : Int) (s : Zs) 
    (h0 : Q ([(zl2i (zdivL (w64 (y0 - v0)) 131072), 0)], s)) : zT (zE 390) (Pt PX3_rise) n (13, [((165 : Nat) : Int)], [(v0, 1), (y0, 1)], s) Q := by
  refine tBL (v := w64 (y0 - v0)) rfl rfl ?_
  refine tKL rfl ?_
  refine tBL (v := zdivL (w64 (y0 - v0)) 131072) rfl rfl ?_
  refine tLI rfl ?_
  exact tR rfl (h0)

theorem c_X3_rise {n : Nat} {Q : Zr → Prop} {a0 : Int} {s : Zs} (h : zT (zE 390) (Pt PX3_rise) n (0, [a0], [], s) Q) : zC n 390 [(a0, 0)] s Q := h

theorem b_X3_hillOf_0 {n : Nat} {Q : Zr → Prop} (x1 x2 x3 x4 : Int) (s : Zs) 
    (h0 : ∀ m, m < n → zC m 389 [(((165 : Nat) : Int), 0)] s (fun p => zT (zE 387) (Pt PX3_hillOf) m (4, [((165 : Nat) : Int), x1, x2, x3, x4], p.1 ++ [], p.2) Q)) : zT (zE 387) (Pt PX3_hillOf) n (0, [((165 : Nat) : Int), x1, x2, x3, x4], [], s) Q := by
  refine tL ((165 : Nat) : Int) 0 rfl rfl rfl ?_
  exact tCall [(((165 : Nat) : Int), 0)] [] rfl rfl rfl (fun m l => h0 m (Nat.lt_of_lt_of_le l (Nat.le_refl n)))

theorem b_X3_hillOf_27 {n : Nat} {Q : Zr → Prop} (x1 x2 x3 x4 : Int) (s : Zs) 
    (h0 : ∀ (g1 : x4 ≤ x1), ∀ (g2 : zl2i (zremL x2 5) ≠ 4), Q ([(zl2i (zremL x2 5), 0)], s))
    (h1 : ∀ (g1 : x4 ≤ x1), ∀ (g2 : zl2i (zremL x2 5) = 4), Q ([((-1), 0)], s))
    (h2 : ∀ (g1 : x1 < x4), ∀ m, m < n → zT (zE 387) (Pt PX3_hillOf) m (27, [((165 : Nat) : Int), x1, zdivL x2 5, x3, w32 (x4 + (-1))], [], s) Q) : zT (zE 387) (Pt PX3_hillOf) n (27, [((165 : Nat) : Int), x1, x2, x3, x4], [], s) Q := by
  refine tL x4 0 rfl rfl rfl ?_
  refine tL x1 0 rfl rfl rfl ?_
  refine tJ5 rfl (fun g1 _ l1 => zT_le ?_ (Nat.le_of_lt l1)) (fun g1 _ l1 => zT_le ?_ (Nat.le_of_lt l1))
  · refine tL x2 1 rfl rfl rfl ?_
    refine tKL rfl ?_
    refine tBL (v := zremL x2 5) rfl rfl ?_
    refine tLI rfl ?_
    refine tS [((165 : Nat) : Int), x1, x2, x3, zl2i (zremL x2 5)] rfl rfl ?_
    refine tL (zl2i (zremL x2 5)) 0 rfl rfl rfl ?_
    refine tK rfl ?_
    refine tJ1 rfl (fun g2 _ l2 => zT_le ?_ (Nat.le_of_lt l2)) (fun g2 _ l2 => zT_le ?_ (Nat.le_of_lt l2))
    · refine tL (zl2i (zremL x2 5)) 0 rfl rfl rfl ?_
      exact tR rfl (h0 g1 g2)
    · refine tK rfl ?_
      refine tG rfl ?_
      exact tR rfl (h1 g1 g2)
  · refine tL x2 1 rfl rfl rfl ?_
    refine tKL rfl ?_
    refine tBL (v := zdivL x2 5) rfl rfl ?_
    refine tS [((165 : Nat) : Int), x1, zdivL x2 5, x3, x4] rfl rfl ?_
    refine tInc [((165 : Nat) : Int), x1, zdivL x2 5, x3, w32 (x4 + (-1))] rfl rfl ?_
    exact tGb rfl (fun m2 l2 => h2 g1 m2 (Nat.lt_of_lt_of_le l2 (Nat.le_refl n)))

theorem b_X3_hillOf_4 {n : Nat} {Q : Zr → Prop} (x1 x2 x3 x4 v0 : Int) (s : Zs) 
    (h0 : ∀ m, m < n → zC m 391 [(((165 : Nat) : Int), 0)] s (fun p => zT (zE 387) (Pt PX3_hillOf) m (13, [((165 : Nat) : Int), x1, x2, x3, x4], p.1 ++ [(w64 (v0 * 67108864), 1)], p.2) Q)) : zT (zE 387) (Pt PX3_hillOf) n (4, [((165 : Nat) : Int), x1, x2, x3, x4], [(v0, 0)], s) Q := by
  refine tU1 rfl ?_
  refine tKL rfl ?_
  refine tBL (v := w64 (v0 * 67108864)) rfl rfl ?_
  refine tL ((165 : Nat) : Int) 0 rfl rfl rfl ?_
  exact tCall [(((165 : Nat) : Int), 0)] [(w64 (v0 * 67108864), 1)] rfl rfl rfl (fun m l => h0 m (Nat.lt_of_lt_of_le l (Nat.le_refl n)))

theorem b_X3_hillOf_13 {n : Nat} {Q : Zr → Prop} (x1 x2 x3 x4 v0 y0 : Int) (s : Zs) 
    (h0 : zT (zE 387) (Pt PX3_hillOf) n (27, [((165 : Nat) : Int), x1, zremL (w64 (y0 - v0)) 131072, x3, w32 ((s 165 0) - 1)], [], s) Q) : zT (zE 387) (Pt PX3_hillOf) n (13, [((165 : Nat) : Int), x1, x2, x3, x4], [(v0, 1), (y0, 1)], s) Q := by
  refine tBL (v := w64 (y0 - v0)) rfl rfl ?_
  refine tKL rfl ?_
  refine tBL (v := zremL (w64 (y0 - v0)) 131072) rfl rfl ?_
  refine tS [((165 : Nat) : Int), x1, zremL (w64 (y0 - v0)) 131072, x3, x4] rfl rfl ?_
  refine tL ((165 : Nat) : Int) 0 rfl rfl rfl ?_
  refine tFv (c := 165) (s 165 0) 0 rfl rfl rfl rfl rfl ?_
  refine tK rfl ?_
  refine tB (v := w32 ((s 165 0) - 1)) rfl rfl ?_
  refine tS [((165 : Nat) : Int), x1, zremL (w64 (y0 - v0)) 131072, x3, w32 ((s 165 0) - 1)] rfl rfl ?_
  exact zT_le (h0) (Nat.le_refl n)

theorem c_X3_hillOf {n : Nat} {Q : Zr → Prop} {a0 a1 : Int} {s : Zs} (h : zT (zE 387) (Pt PX3_hillOf) n (0, [a0, a1, 0, 0, 0], [], s) Q) : zC n 387 [(a0, 0), (a1, 0)] s Q := h

theorem b_X10_orders_0 {n : Nat} {Q : Zr → Prop} {t : Nat} (x1 x2 : Int) (s : Zs) (ht : t = 7 ∨ t = 43)
    (h0 : ∀ m, m < n → zC m 1026 [(s 0 3, 0)] s (fun p => zT (zE 1305) (Pt PX10_orders) m (19, [((0 : Nat) : Int), x1, w32 (x1 - 2)], p.1 ++ [(s 0 3, 0), (((165 : Nat) : Int), 0)], p.2) Q)) : zT (zE 1305) (Pt PX10_orders) n (0, [((0 : Nat) : Int), x1, x2], [], s) Q := by
  refine tL x1 0 rfl rfl rfl ?_
  refine tK rfl ?_
  refine tB (v := w32 (x1 - 2)) rfl rfl ?_
  refine tS [((0 : Nat) : Int), x1, w32 (x1 - 2)] rfl rfl ?_
  refine tL ((0 : Nat) : Int) 0 rfl rfl rfl ?_
  refine tFR (c := 0) 165 rfl rfl rfl rfl rfl ?_
  refine tL ((0 : Nat) : Int) 0 rfl rfl rfl ?_
  refine tFv (c := 0) (s 0 3) 0 rfl rfl rfl rfl rfl ?_
  refine tL ((0 : Nat) : Int) 0 rfl rfl rfl ?_
  refine tFv (c := 0) (s 0 3) 0 rfl rfl rfl rfl rfl ?_
  exact tCall [(s 0 3, 0)] [(s 0 3, 0), (((165 : Nat) : Int), 0)] rfl rfl rfl (fun m l => h0 m (Nat.lt_of_lt_of_le l (Nat.le_refl n)))

theorem b_X10_orders_19 {n : Nat} {Q : Zr → Prop} {t : Nat} (x1 x2 v0 y0 : Int) (s : Zs) (ht : t = 7 ∨ t = 43)
    (h0 : ∀ m, m < n → zC m 385 [(((165 : Nat) : Int), 0), (y0, 0), (zand v0 (zxor (s 79 0) (-1)), 0)] s (fun p => zT (zE 1305) (Pt PX10_orders) m (32, [((0 : Nat) : Int), x1, x2], p.1 ++ [], p.2) Q)) : zT (zE 1305) (Pt PX10_orders) n (19, [((0 : Nat) : Int), x1, x2], [(v0, 0), (y0, 0), (((165 : Nat) : Int), 0)], s) Q := by
  refine tL ((0 : Nat) : Int) 0 rfl rfl rfl ?_
  refine tFR (c := 0) 79 rfl rfl rfl rfl rfl ?_
  refine tFv (c := 79) (s 79 0) 0 rfl rfl rfl rfl rfl ?_
  refine tK rfl ?_
  refine tB (v := zxor (s 79 0) (-1)) rfl rfl ?_
  refine tB (v := zand v0 (zxor (s 79 0) (-1))) rfl rfl ?_
  exact tCall [(((165 : Nat) : Int), 0), (y0, 0), (zand v0 (zxor (s 79 0) (-1)), 0)] [] rfl rfl rfl (fun m l => h0 m (Nat.lt_of_lt_of_le l (Nat.le_refl n)))

theorem b_X10_orders_32 {n : Nat} {Q : Zr → Prop} {t : Nat} (x1 x2 : Int) (s : Zs) (ht : t = 7 ∨ t = 43)
    (h0 : ∀ (g1 : x1 < 0), Q ([((-2), 0)], s))
    (h1 : ∀ (g1 : 0 ≤ x1), ∀ (g2 : x2 < s 165 0), ∀ m, m < n → zC m 388 [(((165 : Nat) : Int), 0), (s 0 3, 0)] s (fun p => zT (zE 1305) (Pt PX10_orders) m (61, [((0 : Nat) : Int), x1, x2], p.1 ++ [], p.2) Q))
    (h2 : ∀ (g1 : 0 ≤ x1), ∀ (g2 : s 165 0 ≤ x2), Q ([((-2), 0)], s)) : zT (zE 1305) (Pt PX10_orders) n (32, [((0 : Nat) : Int), x1, x2], [], s) Q := by
  refine tL x1 0 rfl rfl rfl ?_
  refine tI2 rfl (fun g1 _ l1 => zT_le ?_ (Nat.le_of_lt l1)) (fun g1 _ l1 => zT_le ?_ (Nat.le_of_lt l1))
  · refine tK rfl ?_
    exact tR rfl (h0 g1)
  · refine tL x2 0 rfl rfl rfl ?_
    refine tL ((0 : Nat) : Int) 0 rfl rfl rfl ?_
    refine tFR (c := 0) 165 rfl rfl rfl rfl rfl ?_
    refine tFv (c := 165) (s 165 0) 0 rfl rfl rfl rfl rfl ?_
    refine tJ2 rfl (fun g2 _ l2 => zT_le ?_ (Nat.le_of_lt l2)) (fun g2 _ l2 => zT_le ?_ (Nat.le_of_lt l2))
    · refine tL ((0 : Nat) : Int) 0 rfl rfl rfl ?_
      refine tFR (c := 0) 165 rfl rfl rfl rfl rfl ?_
      refine tL ((0 : Nat) : Int) 0 rfl rfl rfl ?_
      refine tFv (c := 0) (s 0 3) 0 rfl rfl rfl rfl rfl ?_
      exact tCall [(((165 : Nat) : Int), 0), (s 0 3, 0)] [] rfl rfl rfl (fun m l => h1 g1 g2 m (Nat.lt_of_lt_of_le l (Nat.le_refl n)))
    · refine tK rfl ?_
      exact tR rfl (h2 g1 g2)

theorem b_X10_orders_61 {n : Nat} {Q : Zr → Prop} {t : Nat} (x1 x2 : Int) (s : Zs) (ht : t = 7 ∨ t = 43)
    (h0 : ∀ (g1 : x1 ≠ 0), ∀ (g2 : x1 ≠ 1), ∀ m, m < n → zC m 387 [(((165 : Nat) : Int), 0), (x2, 0)] s (fun p => zT (zE 1305) (Pt PX10_orders) m (96, [((0 : Nat) : Int), x1, x2], p.1 ++ [], p.2) Q))
    (h1 : ∀ (g1 : x1 ≠ 0), ∀ (g2 : x1 = 1), ∀ m, m < n → zC m 390 [(((165 : Nat) : Int), 0)] s (fun p => zT (zE 1305) (Pt PX10_orders) m (85, [((0 : Nat) : Int), x1, x2], p.1 ++ [], p.2) Q))
    (h2 : ∀ (g1 : x1 = 0), ∀ m, m < n → zC m 389 [(((165 : Nat) : Int), 0)] s (fun p => zT (zE 1305) (Pt PX10_orders) m (72, [((0 : Nat) : Int), x1, x2], p.1 ++ [], p.2) Q)) : zT (zE 1305) (Pt PX10_orders) n (61, [((0 : Nat) : Int), x1, x2], [], s) Q := by
  refine tL x1 0 rfl rfl rfl ?_
  refine tI1 rfl (fun g1 _ l1 => zT_le ?_ (Nat.le_of_lt l1)) (fun g1 _ l1 => zT_le ?_ (Nat.le_of_lt l1))
  · refine tL x1 0 rfl rfl rfl ?_
    refine tK rfl ?_
    refine tJ1 rfl (fun g2 _ l2 => zT_le ?_ (Nat.le_of_lt l2)) (fun g2 _ l2 => zT_le ?_ (Nat.le_of_lt l2))
    · refine tL ((0 : Nat) : Int) 0 rfl rfl rfl ?_
      refine tFR (c := 0) 165 rfl rfl rfl rfl rfl ?_
      refine tL x2 0 rfl rfl rfl ?_
      exact tCall [(((165 : Nat) : Int), 0), (x2, 0)] [] rfl rfl rfl (fun m l => h0 g1 g2 m (Nat.lt_of_lt_of_le l (Nat.le_refl n)))
    · refine tL ((0 : Nat) : Int) 0 rfl rfl rfl ?_
      refine tFR (c := 0) 165 rfl rfl rfl rfl rfl ?_
      exact tCall [(((165 : Nat) : Int), 0)] [] rfl rfl rfl (fun m l => h1 g1 g2 m (Nat.lt_of_lt_of_le l (Nat.le_refl n)))
  · refine tL ((0 : Nat) : Int) 0 rfl rfl rfl ?_
    refine tFR (c := 0) 165 rfl rfl rfl rfl rfl ?_
    exact tCall [(((165 : Nat) : Int), 0)] [] rfl rfl rfl (fun m l => h2 g1 m (Nat.lt_of_lt_of_le l (Nat.le_refl n)))

theorem b_X10_orders_96 {n : Nat} {Q : Zr → Prop} {t : Nat} (x1 x2 v0 : Int) (s : Zs) (ht : t = 7 ∨ t = 43)
    (h0 : Q ([(v0, 0)], s)) : zT (zE 1305) (Pt PX10_orders) n (96, [((0 : Nat) : Int), x1, x2], [(v0, 0)], s) Q := by
  exact tR rfl (h0)

theorem b_X10_orders_85 {n : Nat} {Q : Zr → Prop} {t : Nat} (x1 x2 v0 : Int) (s : Zs) (ht : t = 7 ∨ t = 43)
    (h0 : Q ([(v0, 0)], s)) : zT (zE 1305) (Pt PX10_orders) n (85, [((0 : Nat) : Int), x1, x2], [(v0, 0)], s) Q := by
  refine tG rfl ?_
  exact tR rfl (h0)

theorem b_X10_orders_72 {n : Nat} {Q : Zr → Prop} {t : Nat} (x1 x2 v0 : Int) (s : Zs) (ht : t = 7 ∨ t = 43)
    (h0 : Q ([(v0, 0)], s)) : zT (zE 1305) (Pt PX10_orders) n (72, [((0 : Nat) : Int), x1, x2], [(v0, 0)], s) Q := by
  exact tR rfl (h0)

theorem c_X10_orders {n : Nat} {Q : Zr → Prop} {a0 a1 : Int} {s : Zs} (h : zT (zE 1305) (Pt PX10_orders) n (0, [a0, a1, 0], [], s) Q) : zC n 1305 [(a0, 0), (a1, 0)] s Q := h

theorem b_X11_laysServed_0 {n : Nat} {Q : Zr → Prop} (x1 x2 x3 : Int) (s : Zs) 
    (h0 : zT (zE 1466) (Pt PX11_laysServed) n (7, [((172 : Nat) : Int), x1, 0, x3], [], zu s 172 64 0) Q) : zT (zE 1466) (Pt PX11_laysServed) n (0, [((172 : Nat) : Int), x1, x2, x3], [], s) Q := by
  refine tL ((172 : Nat) : Int) 0 rfl rfl rfl ?_
  refine tK rfl ?_
  refine tPut 172 rfl rfl ?_
  refine tK rfl ?_
  refine tS [((172 : Nat) : Int), x1, 0, x3] rfl rfl ?_
  exact zT_le (h0) (Nat.le_refl n)

theorem b_X11_laysServed_7 {n : Nat} {Q : Zr → Prop} (x1 x2 x3 : Int) (s : Zs) 
    (h0 : ∀ (g1 : s 174 4 ≤ x2), zT (zE 1466) (Pt PX11_laysServed) n (56, [((172 : Nat) : Int), x1, 0, x3], [], s) Q)
    (h1 : ∀ (g1 : x2 < s 174 4), ∀ (g2 : zand (zshr x1 x2) 1 ≠ 0), ∀ m, m < n → zT (zE 1466) (Pt PX11_laysServed) m (7, [((172 : Nat) : Int), x1, w32 (x2 + 1), x3], [], zu (zu s 223 ((s 172 64).toNat) x2) 172 64 (w32 ((s 172 64) + 1))) Q)
    (h2 : ∀ (g1 : x2 < s 174 4), ∀ (g2 : zand (zshr x1 x2) 1 = 0), ∀ m, m < n → zT (zE 1466) (Pt PX11_laysServed) m (7, [((172 : Nat) : Int), x1, w32 (x2 + 1), x3], [], s) Q) : zT (zE 1466) (Pt PX11_laysServed) n (7, [((172 : Nat) : Int), x1, x2, x3], [], s) Q := by
  refine tL x2 0 rfl rfl rfl ?_
  refine tL ((172 : Nat) : Int) 0 rfl rfl rfl ?_
  refine tFR (c := 172) 174 rfl rfl rfl rfl rfl ?_
  refine tK rfl ?_
  refine tAv 174 4 (s 174 4) 0 rfl rfl rfl (by decide) rfl rfl ?_
  refine tJ3 rfl (fun g1 _ l1 => zT_le ?_ (Nat.le_of_lt l1)) (fun g1 _ l1 => zT_le ?_ (Nat.le_of_lt l1))
  · refine tK rfl ?_
    refine tS [((172 : Nat) : Int), x1, 0, x3] rfl rfl ?_
    exact zT_le (h0 g1) (Nat.le_refl n)
  · refine tL x1 0 rfl rfl rfl ?_
    refine tL x2 0 rfl rfl rfl ?_
    refine tB (v := zshr x1 x2) rfl rfl ?_
    refine tK rfl ?_
    refine tB (v := zand (zshr x1 x2) 1) rfl rfl ?_
    refine tI1 rfl (fun g2 _ l2 => zT_le ?_ (Nat.le_of_lt l2)) (fun g2 _ l2 => zT_le ?_ (Nat.le_of_lt l2))
    · refine tL ((172 : Nat) : Int) 0 rfl rfl rfl ?_
      refine tFR (c := 172) 223 rfl rfl rfl rfl rfl ?_
      refine tL ((172 : Nat) : Int) 0 rfl rfl rfl ?_
      refine tFv (c := 172) (s 172 64) 0 rfl rfl rfl rfl rfl ?_
      refine tL x2 0 rfl rfl rfl ?_
      refine tAS 223 ((s 172 64).toNat) rfl rfl rfl (by decide) ?_
      refine tL ((172 : Nat) : Int) 0 rfl rfl rfl ?_
      refine tD rfl ?_
      refine tFv (c := 172) (s 172 64) 0 rfl rfl rfl rfl rfl ?_
      refine tK rfl ?_
      refine tB (v := w32 ((s 172 64) + 1)) rfl rfl ?_
      refine tPut 172 rfl rfl ?_
      refine tInc [((172 : Nat) : Int), x1, w32 (x2 + 1), x3] rfl rfl ?_
      exact tGb rfl (fun m2 l2 => h1 g1 g2 m2 (Nat.lt_of_lt_of_le l2 (Nat.le_refl n)))
    · refine tG rfl ?_
      refine tInc [((172 : Nat) : Int), x1, w32 (x2 + 1), x3] rfl rfl ?_
      exact tGb rfl (fun m2 l2 => h2 g1 g2 m2 (Nat.lt_of_lt_of_le l2 (Nat.le_refl n)))

theorem b_X11_laysServed_56 {n : Nat} {Q : Zr → Prop} (x1 x2 x3 : Int) (s : Zs) 
    (h0 : ∀ (g1 : s 172 64 < x2), Q ([], s))
    (h1 : ∀ (g1 : x2 ≤ s 172 64), zT (zE 1466) (Pt PX11_laysServed) n (66, [((172 : Nat) : Int), x1, x2, 0], [], s) Q) : zT (zE 1466) (Pt PX11_laysServed) n (56, [((172 : Nat) : Int), x1, x2, x3], [], s) Q := by
  refine tL x2 0 rfl rfl rfl ?_
  refine tL ((172 : Nat) : Int) 0 rfl rfl rfl ?_
  refine tFv (c := 172) (s 172 64) 0 rfl rfl rfl rfl rfl ?_
  refine tJ4 rfl (fun g1 _ l1 => zT_le ?_ (Nat.le_of_lt l1)) (fun g1 _ l1 => zT_le ?_ (Nat.le_of_lt l1))
  · exact tR rfl (h0 g1)
  · refine tK rfl ?_
    refine tS [((172 : Nat) : Int), x1, x2, 0] rfl rfl ?_
    exact zT_le (h1 g1) (Nat.le_refl n)

theorem b_X11_laysServed_66 {n : Nat} {Q : Zr → Prop} (x1 x2 x3 : Int) (s : Zs) 
    (h0 : ∀ (g2 : w32 ((zshl 1 (s 174 1)) - 1) < x3), ∀ m, m < n → zT (zE 1466) (Pt PX11_laysServed) m (56, [((172 : Nat) : Int), x1, w32 (x2 + 1), x3], [], s) Q)
    (h1 : ∀ (g2 : x3 ≤ w32 ((zshl 1 (s 174 1)) - 1)), ∀ (g3 : x2 ≠ 0), ∀ m, m < n → zC m 1420 [(((172 : Nat) : Int), 0), (x2, 0), (x3, 0)] s (fun p => zT (zE 1466) (Pt PX11_laysServed) m (107, [((172 : Nat) : Int), x1, x2, x3], p.1 ++ [(w32 ((w32 (1024 * x2)) + x3), 0), (((222 : Nat) : Int), 0)], p.2) Q))
    (h2 : ∀ (g2 : x3 ≤ w32 ((zshl 1 (s 174 1)) - 1)), ∀ (g3 : x2 = 0), ∀ (g5 : x3 ≠ 0), ∀ m, m < n → zT (zE 1466) (Pt PX11_laysServed) m (66, [((172 : Nat) : Int), x1, x2, w32 (x3 + 1)], [], zu s 222 ((w32 ((w32 (1024 * x2)) + x3)).toNat) (zst3 0)) Q)
    (h3 : ∀ (g2 : x3 ≤ w32 ((zshl 1 (s 174 1)) - 1)), ∀ (g3 : x2 = 0), ∀ (g5 : x3 = 0), ∀ m, m < n → zT (zE 1466) (Pt PX11_laysServed) m (66, [((172 : Nat) : Int), x1, x2, w32 (x3 + 1)], [], zu s 222 ((w32 ((w32 (1024 * x2)) + x3)).toNat) (zst3 1)) Q) : zT (zE 1466) (Pt PX11_laysServed) n (66, [((172 : Nat) : Int), x1, x2, x3], [], s) Q := by
  refine tL x3 0 rfl rfl rfl ?_
  refine tL ((172 : Nat) : Int) 0 rfl rfl rfl ?_
  refine tCall [(((172 : Nat) : Int), 0)] [(x3, 0)] rfl rfl rfl (fun m1 l1 => c_X11_allFlights (b_X11_allFlights_0  s ?_))
  · show zT (zE 1466) (Pt PX11_laysServed) m1 (71, [((172 : Nat) : Int), x1, x2, x3], [(w32 ((zshl 1 (s 174 1)) - 1), 0), (x3, 0)], s) Q
    refine tJ4 rfl (fun g2 _ l2 => zT_le ?_ (Nat.le_of_lt l2)) (fun g2 _ l2 => zT_le ?_ (Nat.le_of_lt l2))
    · refine tInc [((172 : Nat) : Int), x1, w32 (x2 + 1), x3] rfl rfl ?_
      exact tGb rfl (fun m2 l2 => h0 g2 m2 (Nat.lt_of_lt_of_le l2 (Nat.le_trans (Nat.le_of_lt l1) (Nat.le_refl n))))
    · refine tL ((172 : Nat) : Int) 0 rfl rfl rfl ?_
      refine tFR (c := 172) 222 rfl rfl rfl rfl rfl ?_
      refine tK rfl ?_
      refine tL x2 0 rfl rfl rfl ?_
      refine tM (v := w32 (1024 * x2)) rfl rfl ?_
      refine tL x3 0 rfl rfl rfl ?_
      refine tB (v := w32 ((w32 (1024 * x2)) + x3)) rfl rfl ?_
      refine tL x2 0 rfl rfl rfl ?_
      refine tI1 rfl (fun g3 _ l3 => zT_le ?_ (Nat.le_of_lt l3)) (fun g3 _ l3 => zT_le ?_ (Nat.le_of_lt l3))
      · refine tL ((172 : Nat) : Int) 0 rfl rfl rfl ?_
        refine tL x2 0 rfl rfl rfl ?_
        refine tL x3 0 rfl rfl rfl ?_
        exact tCall [(((172 : Nat) : Int), 0), (x2, 0), (x3, 0)] [(w32 ((w32 (1024 * x2)) + x3), 0), (((222 : Nat) : Int), 0)] rfl rfl rfl (fun m l => h1 g2 g3 m (Nat.lt_of_lt_of_le l (Nat.le_trans (Nat.le_of_lt l1) (Nat.le_refl n))))
      · refine tL x3 0 rfl rfl rfl ?_
        refine tI1 rfl (fun g5 _ l5 => zT_le ?_ (Nat.le_of_lt l5)) (fun g5 _ l5 => zT_le ?_ (Nat.le_of_lt l5))
        · refine tK rfl ?_
          refine tG rfl ?_
          refine tAS3 222 ((w32 ((w32 (1024 * x2)) + x3)).toNat) rfl rfl rfl ?_
          refine tInc [((172 : Nat) : Int), x1, x2, w32 (x3 + 1)] rfl rfl ?_
          exact tGb rfl (fun m2 l2 => h2 g2 g3 g5 m2 (Nat.lt_of_lt_of_le l2 (Nat.le_trans (Nat.le_of_lt l1) (Nat.le_refl n))))
        · refine tK rfl ?_
          refine tG rfl ?_
          refine tAS3 222 ((w32 ((w32 (1024 * x2)) + x3)).toNat) rfl rfl rfl ?_
          refine tInc [((172 : Nat) : Int), x1, x2, w32 (x3 + 1)] rfl rfl ?_
          exact tGb rfl (fun m2 l2 => h3 g2 g3 g5 m2 (Nat.lt_of_lt_of_le l2 (Nat.le_trans (Nat.le_of_lt l1) (Nat.le_refl n))))

theorem b_X11_laysServed_107 {n : Nat} {Q : Zr → Prop} (x1 x2 x3 v0 y0 : Int) (s : Zs) 
    (h0 : ∀ m, m < n → zT (zE 1466) (Pt PX11_laysServed) m (66, [((172 : Nat) : Int), x1, x2, w32 (x3 + 1)], [], zu s 222 y0.toNat (zst3 v0)) Q) : zT (zE 1466) (Pt PX11_laysServed) n (107, [((172 : Nat) : Int), x1, x2, x3], [(v0, 0), (y0, 0), (((222 : Nat) : Int), 0)], s) Q := by
  refine tAS3 222 y0.toNat rfl rfl rfl ?_
  refine tInc [((172 : Nat) : Int), x1, x2, w32 (x3 + 1)] rfl rfl ?_
  exact tGb rfl (fun m2 l2 => h0 m2 (Nat.lt_of_lt_of_le l2 (Nat.le_refl n)))

theorem c_X11_laysServed {n : Nat} {Q : Zr → Prop} {a0 a1 : Int} {s : Zs} (h : zT (zE 1466) (Pt PX11_laysServed) n (0, [a0, a1, 0, 0], [], s) Q) : zC n 1466 [(a0, 0), (a1, 0)] s Q := h

theorem b_X11_canServe_0 {n : Nat} {Q : Zr → Prop} (x1 x2 x3 : Int) (s : Zs) 
    (h0 : zT (zE 1420) (Pt PX11_canServe) n (2, [((172 : Nat) : Int), x1, x2, x2], [], s) Q) : zT (zE 1420) (Pt PX11_canServe) n (0, [((172 : Nat) : Int), x1, x2, x3], [], s) Q := by
  refine tL x2 0 rfl rfl rfl ?_
  refine tS [((172 : Nat) : Int), x1, x2, x2] rfl rfl ?_
  exact zT_le (h0) (Nat.le_refl n)

theorem b_X11_canServe_2 {n : Nat} {Q : Zr → Prop} (x1 x2 x3 : Int) (s : Zs) 
    (h0 : ∀ (g1 : x3 ≤ 0), Q ([(0, 0)], s))
    (h1 : ∀ (g1 : 0 < x3), ∀ (g2 : s 222 ((w32 ((w32 (1024 * (w32 (x1 - 1)))) + (zand x2 (zxor x3 (-1))))).toNat) = 0), ∀ m, m < n → zT (zE 1420) (Pt PX11_canServe) m (2, [((172 : Nat) : Int), x1, x2, zand (w32 (x3 - 1)) x2], [], s) Q)
    (h2 : ∀ (g1 : 0 < x3), ∀ (g2 : s 222 ((w32 ((w32 (1024 * (w32 (x1 - 1)))) + (zand x2 (zxor x3 (-1))))).toNat) ≠ 0), ∀ m, m < n → zC m 1507 [(((172 : Nat) : Int), 0), (x3, 0)] s (fun p => zT (zE 1420) (Pt PX11_canServe) m (32, [((172 : Nat) : Int), x1, x2, x3], p.1 ++ [], p.2) Q)) : zT (zE 1420) (Pt PX11_canServe) n (2, [((172 : Nat) : Int), x1, x2, x3], [], s) Q := by
  refine tL x3 0 rfl rfl rfl ?_
  refine tI5 rfl (fun g1 _ l1 => zT_le ?_ (Nat.le_of_lt l1)) (fun g1 _ l1 => zT_le ?_ (Nat.le_of_lt l1))
  · refine tK rfl ?_
    exact tR rfl (h0 g1)
  · refine tL ((172 : Nat) : Int) 0 rfl rfl rfl ?_
    refine tFR (c := 172) 222 rfl rfl rfl rfl rfl ?_
    refine tK rfl ?_
    refine tL x1 0 rfl rfl rfl ?_
    refine tK rfl ?_
    refine tB (v := w32 (x1 - 1)) rfl rfl ?_
    refine tM (v := w32 (1024 * (w32 (x1 - 1)))) rfl rfl ?_
    refine tL x2 0 rfl rfl rfl ?_
    refine tL x3 0 rfl rfl rfl ?_
    refine tK rfl ?_
    refine tB (v := zxor x3 (-1)) rfl rfl ?_
    refine tB (v := zand x2 (zxor x3 (-1))) rfl rfl ?_
    refine tB (v := w32 ((w32 (1024 * (w32 (x1 - 1)))) + (zand x2 (zxor x3 (-1))))) rfl rfl ?_
    refine tAv 222 ((w32 ((w32 (1024 * (w32 (x1 - 1)))) + (zand x2 (zxor x3 (-1))))).toNat) (s 222 ((w32 ((w32 (1024 * (w32 (x1 - 1)))) + (zand x2 (zxor x3 (-1))))).toNat)) 0 rfl rfl rfl (by decide) rfl rfl ?_
    refine tI0 rfl (fun g2 _ l2 => zT_le ?_ (Nat.le_of_lt l2)) (fun g2 _ l2 => zT_le ?_ (Nat.le_of_lt l2))
    · refine tL x3 0 rfl rfl rfl ?_
      refine tK rfl ?_
      refine tB (v := w32 (x3 - 1)) rfl rfl ?_
      refine tL x2 0 rfl rfl rfl ?_
      refine tB (v := zand (w32 (x3 - 1)) x2) rfl rfl ?_
      refine tS [((172 : Nat) : Int), x1, x2, zand (w32 (x3 - 1)) x2] rfl rfl ?_
      exact tGb rfl (fun m2 l2 => h1 g1 g2 m2 (Nat.lt_of_lt_of_le l2 (Nat.le_refl n)))
    · refine tL ((172 : Nat) : Int) 0 rfl rfl rfl ?_
      refine tL x3 0 rfl rfl rfl ?_
      exact tCall [(((172 : Nat) : Int), 0), (x3, 0)] [] rfl rfl rfl (fun m l => h2 g1 g2 m (Nat.lt_of_lt_of_le l (Nat.le_refl n)))

theorem b_X11_canServe_32 {n : Nat} {Q : Zr → Prop} (x1 x2 x3 v0 : Int) (s : Zs) 
    (h0 : ∀ (g1 : v0 < s 190 ((s 223 ((w32 (x1 - 1)).toNat)).toNat)), ∀ m, m < n → zT (zE 1420) (Pt PX11_canServe) m (2, [((172 : Nat) : Int), x1, x2, zand (w32 (x3 - 1)) x2], [], s) Q)
    (h1 : ∀ (g1 : s 190 ((s 223 ((w32 (x1 - 1)).toNat)).toNat) ≤ v0), Q ([(1, 0)], s)) : zT (zE 1420) (Pt PX11_canServe) n (32, [((172 : Nat) : Int), x1, x2, x3], [(v0, 0)], s) Q := by
  refine tL ((172 : Nat) : Int) 0 rfl rfl rfl ?_
  refine tFR (c := 172) 190 rfl rfl rfl rfl rfl ?_
  refine tL ((172 : Nat) : Int) 0 rfl rfl rfl ?_
  refine tFR (c := 172) 223 rfl rfl rfl rfl rfl ?_
  refine tL x1 0 rfl rfl rfl ?_
  refine tK rfl ?_
  refine tB (v := w32 (x1 - 1)) rfl rfl ?_
  refine tAv 223 ((w32 (x1 - 1)).toNat) (s 223 ((w32 (x1 - 1)).toNat)) 0 rfl rfl rfl (by decide) rfl rfl ?_
  refine tAv 190 ((s 223 ((w32 (x1 - 1)).toNat)).toNat) (s 190 ((s 223 ((w32 (x1 - 1)).toNat)).toNat)) 0 rfl rfl rfl (by decide) rfl rfl ?_
  refine tJ2 rfl (fun g1 _ l1 => zT_le ?_ (Nat.le_of_lt l1)) (fun g1 _ l1 => zT_le ?_ (Nat.le_of_lt l1))
  · refine tL x3 0 rfl rfl rfl ?_
    refine tK rfl ?_
    refine tB (v := w32 (x3 - 1)) rfl rfl ?_
    refine tL x2 0 rfl rfl rfl ?_
    refine tB (v := zand (w32 (x3 - 1)) x2) rfl rfl ?_
    refine tS [((172 : Nat) : Int), x1, x2, zand (w32 (x3 - 1)) x2] rfl rfl ?_
    exact tGb rfl (fun m2 l2 => h0 g1 m2 (Nat.lt_of_lt_of_le l2 (Nat.le_refl n)))
  · refine tK rfl ?_
    exact tR rfl (h1 g1)

theorem c_X11_canServe {n : Nat} {Q : Zr → Prop} {a0 a1 a2 : Int} {s : Zs} (h : zT (zE 1420) (Pt PX11_canServe) n (0, [a0, a1, a2, 0], [], s) Q) : zC n 1420 [(a0, 0), (a1, 0), (a2, 0)] s Q := h

theorem b_X11_fills_0 {n : Nat} {Q : Zr → Prop} (x1 x2 x3 x4 x5 x6 : Int) (s : Zs) 
    (h0 : zT (zE 1435) (Pt PX11_fills) n (6, [((172 : Nat) : Int), x1, x2, x3, 0, 0, x6], [], s) Q) : zT (zE 1435) (Pt PX11_fills) n (0, [((172 : Nat) : Int), x1, x2, x3, x4, x5, x6], [], s) Q := by
  refine tK rfl ?_
  refine tS [((172 : Nat) : Int), x1, x2, x3, 0, x5, x6] rfl rfl ?_
  refine tK rfl ?_
  refine tS [((172 : Nat) : Int), x1, x2, x3, 0, 0, x6] rfl rfl ?_
  exact zT_le (h0) (Nat.le_refl n)

theorem b_X11_fills_6 {n : Nat} {Q : Zr → Prop} (x1 x2 x3 x4 x5 x6 : Int) (s : Zs) 
    (h0 : ∀ (g1 : 4 ≤ x5), ∀ (g2 : x3 < x4), Q ([], s))
    (h1 : ∀ (g1 : 4 ≤ x5), ∀ (g2 : x4 ≤ x3), ∀ (g3 : s 172 68 = 0), ∀ (g4 : x1 ≠ s 174 1), ∀ (g5 : zand (zshr x2 x1) 1 ≠ 0), zT (zE 1435) (Pt PX11_fills) n (93, [((172 : Nat) : Int), x1, x2, x3, x4, 0, x6], [], s) Q)
    (h2 : ∀ (g1 : 4 ≤ x5), ∀ (g2 : x4 ≤ x3), ∀ (g3 : s 172 68 = 0), ∀ (g4 : x1 ≠ s 174 1), ∀ (g5 : zand (zshr x2 x1) 1 = 0), ∀ m, m < n → zC m 1435 [(((172 : Nat) : Int), 0), (w32 (x1 + 1), 0), (x2, 0), (x3, 0)] (zu s 224 x1.toNat 9) (fun p => zT (zE 1435) (Pt PX11_fills) m (89, [((172 : Nat) : Int), x1, x2, x3, x4, x5, x6], p.1 ++ [], p.2) Q))
    (h3 : ∀ (g1 : 4 ≤ x5), ∀ (g2 : x4 ≤ x3), ∀ (g3 : s 172 68 = 0), ∀ (g4 : x1 = s 174 1), Q ([], zu s 172 68 1))
    (h4 : ∀ (g1 : 4 ≤ x5), ∀ (g2 : x4 ≤ x3), ∀ (g3 : s 172 68 ≠ 0), Q ([], s))
    (h5 : ∀ (g1 : x5 < 4), ∀ m, m < n → zT (zE 1435) (Pt PX11_fills) m (6, [((172 : Nat) : Int), x1, x2, x3, w32 (x4 + (if 0 < s 226 x5.toNat then s 226 x5.toNat else 0)), w32 (x5 + 1), x6], [], s) Q) : zT (zE 1435) (Pt PX11_fills) n (6, [((172 : Nat) : Int), x1, x2, x3, x4, x5, x6], [], s) Q := by
  refine tL x5 0 rfl rfl rfl ?_
  refine tK rfl ?_
  refine tJ3 rfl (fun g1 _ l1 => zT_le ?_ (Nat.le_of_lt l1)) (fun g1 _ l1 => zT_le ?_ (Nat.le_of_lt l1))
  · refine tL x4 0 rfl rfl rfl ?_
    refine tL x3 0 rfl rfl rfl ?_
    refine tJ4 rfl (fun g2 _ l2 => zT_le ?_ (Nat.le_of_lt l2)) (fun g2 _ l2 => zT_le ?_ (Nat.le_of_lt l2))
    · exact tR rfl (h0 g1 g2)
    · refine tL ((172 : Nat) : Int) 0 rfl rfl rfl ?_
      refine tFv (c := 172) (s 172 68) 0 rfl rfl rfl rfl rfl ?_
      refine tI0 rfl (fun g3 _ l3 => zT_le ?_ (Nat.le_of_lt l3)) (fun g3 _ l3 => zT_le ?_ (Nat.le_of_lt l3))
      · refine tL x1 0 rfl rfl rfl ?_
        refine tL ((172 : Nat) : Int) 0 rfl rfl rfl ?_
        refine tFR (c := 172) 174 rfl rfl rfl rfl rfl ?_
        refine tK rfl ?_
        refine tAv 174 1 (s 174 1) 0 rfl rfl rfl (by decide) rfl rfl ?_
        refine tJ1 rfl (fun g4 _ l4 => zT_le ?_ (Nat.le_of_lt l4)) (fun g4 _ l4 => zT_le ?_ (Nat.le_of_lt l4))
        · refine tL x2 0 rfl rfl rfl ?_
          refine tL x1 0 rfl rfl rfl ?_
          refine tB (v := zshr x2 x1) rfl rfl ?_
          refine tK rfl ?_
          refine tB (v := zand (zshr x2 x1) 1) rfl rfl ?_
          refine tI1 rfl (fun g5 _ l5 => zT_le ?_ (Nat.le_of_lt l5)) (fun g5 _ l5 => zT_le ?_ (Nat.le_of_lt l5))
          · refine tK rfl ?_
            refine tS [((172 : Nat) : Int), x1, x2, x3, x4, 0, x6] rfl rfl ?_
            exact zT_le (h1 g1 g2 g3 g4 g5) (Nat.le_refl n)
          · refine tL ((172 : Nat) : Int) 0 rfl rfl rfl ?_
            refine tFR (c := 172) 224 rfl rfl rfl rfl rfl ?_
            refine tL x1 0 rfl rfl rfl ?_
            refine tK rfl ?_
            refine tAS 224 x1.toNat rfl rfl rfl (by decide) ?_
            refine tL ((172 : Nat) : Int) 0 rfl rfl rfl ?_
            refine tL x1 0 rfl rfl rfl ?_
            refine tK rfl ?_
            refine tB (v := w32 (x1 + 1)) rfl rfl ?_
            refine tL x2 0 rfl rfl rfl ?_
            refine tL x3 0 rfl rfl rfl ?_
            exact tCall [(((172 : Nat) : Int), 0), (w32 (x1 + 1), 0), (x2, 0), (x3, 0)] [] rfl rfl rfl (fun m l => h2 g1 g2 g3 g4 g5 m (Nat.lt_of_lt_of_le l (Nat.le_refl n)))
        · refine tL ((172 : Nat) : Int) 0 rfl rfl rfl ?_
          refine tK rfl ?_
          refine tPut 172 rfl rfl ?_
          exact tR rfl (h3 g1 g2 g3 g4)
      · exact tR rfl (h4 g1 g2 g3)
  · refine tL x4 0 rfl rfl rfl ?_
    refine tK rfl ?_
    refine tL ((172 : Nat) : Int) 0 rfl rfl rfl ?_
    refine tFR (c := 172) 226 rfl rfl rfl rfl rfl ?_
    refine tL x5 0 rfl rfl rfl ?_
    refine tAv 226 x5.toNat (s 226 x5.toNat) 0 rfl rfl rfl (by decide) rfl rfl ?_
    refine tE0 rfl rfl ?_
    refine tB (v := w32 (x4 + (if 0 < s 226 x5.toNat then s 226 x5.toNat else 0))) rfl rfl ?_
    refine tS [((172 : Nat) : Int), x1, x2, x3, w32 (x4 + (if 0 < s 226 x5.toNat then s 226 x5.toNat else 0)), x5, x6] rfl rfl ?_
    refine tInc [((172 : Nat) : Int), x1, x2, x3, w32 (x4 + (if 0 < s 226 x5.toNat then s 226 x5.toNat else 0)), w32 (x5 + 1), x6] rfl rfl ?_
    exact tGb rfl (fun m2 l2 => h5 g1 m2 (Nat.lt_of_lt_of_le l2 (Nat.le_refl n)))

theorem b_X11_fills_93 {n : Nat} {Q : Zr → Prop} (x1 x2 x3 x4 x5 x6 : Int) (s : Zs) 
    (h0 : ∀ (g1 : s 172 64 ≤ x5), Q ([], s))
    (h1 : ∀ (g1 : x5 < s 172 64), ∀ m, m < n → zC m 1435 [(((172 : Nat) : Int), 0), (w32 (x1 + 1), 0), (x2, 0), (w32 (x3 - (s 182 x1.toNat)), 0)] (zu (zu s 224 x1.toNat (s 223 x5.toNat)) 226 ((s 223 x5.toNat).toNat) (w32 ((s 226 ((s 223 x5.toNat).toNat)) - (s 182 x1.toNat)))) (fun p => zT (zE 1435) (Pt PX11_fills) m (151, [((172 : Nat) : Int), x1, x2, x3, x4, x5, s 223 x5.toNat], p.1 ++ [], p.2) Q)) : zT (zE 1435) (Pt PX11_fills) n (93, [((172 : Nat) : Int), x1, x2, x3, x4, x5, x6], [], s) Q := by
  refine tL x5 0 rfl rfl rfl ?_
  refine tL ((172 : Nat) : Int) 0 rfl rfl rfl ?_
  refine tFv (c := 172) (s 172 64) 0 rfl rfl rfl rfl rfl ?_
  refine tJ3 rfl (fun g1 _ l1 => zT_le ?_ (Nat.le_of_lt l1)) (fun g1 _ l1 => zT_le ?_ (Nat.le_of_lt l1))
  · exact tR rfl (h0 g1)
  · refine tL ((172 : Nat) : Int) 0 rfl rfl rfl ?_
    refine tFR (c := 172) 223 rfl rfl rfl rfl rfl ?_
    refine tL x5 0 rfl rfl rfl ?_
    refine tAv 223 x5.toNat (s 223 x5.toNat) 0 rfl rfl rfl (by decide) rfl rfl ?_
    refine tS [((172 : Nat) : Int), x1, x2, x3, x4, x5, s 223 x5.toNat] rfl rfl ?_
    refine tL ((172 : Nat) : Int) 0 rfl rfl rfl ?_
    refine tFR (c := 172) 224 rfl rfl rfl rfl rfl ?_
    refine tL x1 0 rfl rfl rfl ?_
    refine tL (s 223 x5.toNat) 0 rfl rfl rfl ?_
    refine tAS 224 x1.toNat rfl rfl rfl (by decide) ?_
    refine tL ((172 : Nat) : Int) 0 rfl rfl rfl ?_
    refine tFR (c := 172) 226 rfl rfl rfl rfl rfl ?_
    refine tL (s 223 x5.toNat) 0 rfl rfl rfl ?_
    refine tD2 rfl ?_
    refine tAv 226 ((s 223 x5.toNat).toNat) (s 226 ((s 223 x5.toNat).toNat)) 0 rfl rfl rfl (by decide) rfl rfl ?_
    refine tL ((172 : Nat) : Int) 0 rfl rfl rfl ?_
    refine tFR (c := 172) 182 rfl rfl rfl rfl rfl ?_
    refine tL x1 0 rfl rfl rfl ?_
    refine tAv 182 x1.toNat (s 182 x1.toNat) 0 rfl rfl rfl (by decide) rfl rfl ?_
    refine tB (v := w32 ((s 226 ((s 223 x5.toNat).toNat)) - (s 182 x1.toNat))) rfl rfl ?_
    refine tAS 226 ((s 223 x5.toNat).toNat) rfl rfl rfl (by decide) ?_
    refine tL ((172 : Nat) : Int) 0 rfl rfl rfl ?_
    refine tL x1 0 rfl rfl rfl ?_
    refine tK rfl ?_
    refine tB (v := w32 (x1 + 1)) rfl rfl ?_
    refine tL x2 0 rfl rfl rfl ?_
    refine tL x3 0 rfl rfl rfl ?_
    refine tL ((172 : Nat) : Int) 0 rfl rfl rfl ?_
    refine tFR (c := 172) 182 rfl rfl rfl rfl rfl ?_
    refine tL x1 0 rfl rfl rfl ?_
    refine tAv 182 x1.toNat (s 182 x1.toNat) 0 rfl rfl rfl (by decide) rfl rfl ?_
    refine tB (v := w32 (x3 - (s 182 x1.toNat))) rfl rfl ?_
    exact tCall [(((172 : Nat) : Int), 0), (w32 (x1 + 1), 0), (x2, 0), (w32 (x3 - (s 182 x1.toNat)), 0)] [] rfl rfl rfl (fun m l => h1 g1 m (Nat.lt_of_lt_of_le l (Nat.le_refl n)))

theorem b_X11_fills_89 {n : Nat} {Q : Zr → Prop} (x1 x2 x3 x4 x5 x6 : Int) (s : Zs) 
    (h0 : Q ([], s)) : zT (zE 1435) (Pt PX11_fills) n (89, [((172 : Nat) : Int), x1, x2, x3, x4, x5, x6], [], s) Q := by
  exact tR rfl (h0)

theorem b_X11_fills_151 {n : Nat} {Q : Zr → Prop} (x1 x2 x3 x4 x5 x6 : Int) (s : Zs) 
    (h0 : ∀ (g1 : s 172 68 = 0), ∀ m, m < n → zT (zE 1435) (Pt PX11_fills) m (93, [((172 : Nat) : Int), x1, x2, x3, x4, w32 (x5 + 1), x6], [], zu s 226 x6.toNat (w32 ((s 226 x6.toNat) + (s 182 x1.toNat)))) Q)
    (h1 : ∀ (g1 : s 172 68 ≠ 0), Q ([], zu s 226 x6.toNat (w32 ((s 226 x6.toNat) + (s 182 x1.toNat))))) : zT (zE 1435) (Pt PX11_fills) n (151, [((172 : Nat) : Int), x1, x2, x3, x4, x5, x6], [], s) Q := by
  refine tL ((172 : Nat) : Int) 0 rfl rfl rfl ?_
  refine tFR (c := 172) 226 rfl rfl rfl rfl rfl ?_
  refine tL x6 0 rfl rfl rfl ?_
  refine tD2 rfl ?_
  refine tAv 226 x6.toNat (s 226 x6.toNat) 0 rfl rfl rfl (by decide) rfl rfl ?_
  refine tL ((172 : Nat) : Int) 0 rfl rfl rfl ?_
  refine tFR (c := 172) 182 rfl rfl rfl rfl rfl ?_
  refine tL x1 0 rfl rfl rfl ?_
  refine tAv 182 x1.toNat (s 182 x1.toNat) 0 rfl rfl rfl (by decide) rfl rfl ?_
  refine tB (v := w32 ((s 226 x6.toNat) + (s 182 x1.toNat))) rfl rfl ?_
  refine tAS 226 x6.toNat rfl rfl rfl (by decide) ?_
  refine tL ((172 : Nat) : Int) 0 rfl rfl rfl ?_
  refine tFv (c := 172) (s 172 68) 0 rfl rfl rfl rfl rfl ?_
  refine tI0 rfl (fun g1 _ l1 => zT_le ?_ (Nat.le_of_lt l1)) (fun g1 _ l1 => zT_le ?_ (Nat.le_of_lt l1))
  · refine tInc [((172 : Nat) : Int), x1, x2, x3, x4, w32 (x5 + 1), x6] rfl rfl ?_
    exact tGb rfl (fun m2 l2 => h0 g1 m2 (Nat.lt_of_lt_of_le l2 (Nat.le_refl n)))
  · exact tR rfl (h1 g1)

theorem c_X11_fills {n : Nat} {Q : Zr → Prop} {a0 a1 a2 a3 : Int} {s : Zs} (h : zT (zE 1435) (Pt PX11_fills) n (0, [a0, a1, a2, a3, 0, 0, 0], [], s) Q) : zC n 1435 [(a0, 0), (a1, 0), (a2, 0), (a3, 0)] s Q := h

theorem b_X11_isFirst_0 {n : Nat} {Q : Zr → Prop} (x1 : Int) (s : Zs) 
    (h0 : zT (zE 1446) (Pt PX11_isFirst) n (2, [((172 : Nat) : Int), 0], [], s) Q) : zT (zE 1446) (Pt PX11_isFirst) n (0, [((172 : Nat) : Int), x1], [], s) Q := by
  refine tK rfl ?_
  refine tS [((172 : Nat) : Int), 0] rfl rfl ?_
  exact zT_le (h0) (Nat.le_refl n)

theorem b_X11_isFirst_2 {n : Nat} {Q : Zr → Prop} (x1 : Int) (s : Zs) 
    (h0 : ∀ (g1 : s 174 1 ≤ x1), Q ([(0, 0)], s))
    (h1 : ∀ (g1 : x1 < s 174 1), ∀ (g2 : s 224 x1.toNat = s 225 x1.toNat), ∀ m, m < n → zT (zE 1446) (Pt PX11_isFirst) m (2, [((172 : Nat) : Int), w32 (x1 + 1)], [], s) Q)
    (h2 : ∀ (g1 : x1 < s 174 1), ∀ (g2 : s 224 x1.toNat ≠ s 225 x1.toNat), ∀ (g3 : s 225 x1.toNat ≤ s 224 x1.toNat), Q ([(0, 0)], s))
    (h3 : ∀ (g1 : x1 < s 174 1), ∀ (g2 : s 224 x1.toNat ≠ s 225 x1.toNat), ∀ (g3 : s 224 x1.toNat < s 225 x1.toNat), Q ([(1, 0)], s)) : zT (zE 1446) (Pt PX11_isFirst) n (2, [((172 : Nat) : Int), x1], [], s) Q := by
  refine tL x1 0 rfl rfl rfl ?_
  refine tL ((172 : Nat) : Int) 0 rfl rfl rfl ?_
  refine tFR (c := 172) 174 rfl rfl rfl rfl rfl ?_
  refine tK rfl ?_
  refine tAv 174 1 (s 174 1) 0 rfl rfl rfl (by decide) rfl rfl ?_
  refine tJ3 rfl (fun g1 _ l1 => zT_le ?_ (Nat.le_of_lt l1)) (fun g1 _ l1 => zT_le ?_ (Nat.le_of_lt l1))
  · refine tK rfl ?_
    exact tR rfl (h0 g1)
  · refine tL ((172 : Nat) : Int) 0 rfl rfl rfl ?_
    refine tFR (c := 172) 224 rfl rfl rfl rfl rfl ?_
    refine tL x1 0 rfl rfl rfl ?_
    refine tAv 224 x1.toNat (s 224 x1.toNat) 0 rfl rfl rfl (by decide) rfl rfl ?_
    refine tL ((172 : Nat) : Int) 0 rfl rfl rfl ?_
    refine tFR (c := 172) 225 rfl rfl rfl rfl rfl ?_
    refine tL x1 0 rfl rfl rfl ?_
    refine tAv 225 x1.toNat (s 225 x1.toNat) 0 rfl rfl rfl (by decide) rfl rfl ?_
    refine tJ0 rfl (fun g2 _ l2 => zT_le ?_ (Nat.le_of_lt l2)) (fun g2 _ l2 => zT_le ?_ (Nat.le_of_lt l2))
    · refine tInc [((172 : Nat) : Int), w32 (x1 + 1)] rfl rfl ?_
      exact tGb rfl (fun m2 l2 => h1 g1 g2 m2 (Nat.lt_of_lt_of_le l2 (Nat.le_refl n)))
    · refine tL ((172 : Nat) : Int) 0 rfl rfl rfl ?_
      refine tFR (c := 172) 224 rfl rfl rfl rfl rfl ?_
      refine tL x1 0 rfl rfl rfl ?_
      refine tAv 224 x1.toNat (s 224 x1.toNat) 0 rfl rfl rfl (by decide) rfl rfl ?_
      refine tL ((172 : Nat) : Int) 0 rfl rfl rfl ?_
      refine tFR (c := 172) 225 rfl rfl rfl rfl rfl ?_
      refine tL x1 0 rfl rfl rfl ?_
      refine tAv 225 x1.toNat (s 225 x1.toNat) 0 rfl rfl rfl (by decide) rfl rfl ?_
      refine tJ3 rfl (fun g3 _ l3 => zT_le ?_ (Nat.le_of_lt l3)) (fun g3 _ l3 => zT_le ?_ (Nat.le_of_lt l3))
      · refine tK rfl ?_
        exact tR rfl (h2 g1 g2 g3)
      · refine tK rfl ?_
        refine tG rfl ?_
        exact tR rfl (h3 g1 g2 g3)

theorem c_X11_isFirst {n : Nat} {Q : Zr → Prop} {a0 : Int} {s : Zs} (h : zT (zE 1446) (Pt PX11_isFirst) n (0, [a0, 0], [], s) Q) : zC n 1446 [(a0, 0)] s Q := h

theorem b_X11_payOf_0 {n : Nat} {Q : Zr → Prop} (x1 x2 x3 : Int) (s : Zs) 
    (h0 : zT (zE 1487) (Pt PX11_payOf) n (4, [((172 : Nat) : Int), x1, 0, 0], [], s) Q) : zT (zE 1487) (Pt PX11_payOf) n (0, [((172 : Nat) : Int), x1, x2, x3], [], s) Q := by
  refine tK rfl ?_
  refine tS [((172 : Nat) : Int), x1, 0, x3] rfl rfl ?_
  refine tK rfl ?_
  refine tS [((172 : Nat) : Int), x1, 0, 0] rfl rfl ?_
  exact zT_le (h0) (Nat.le_refl n)

theorem b_X11_payOf_4 {n : Nat} {Q : Zr → Prop} (x1 x2 x3 : Int) (s : Zs) 
    (h0 : ∀ (g1 : s 174 4 ≤ x3), Q ([(x2, 0)], s))
    (h1 : ∀ (g1 : x3 < s 174 4), ∀ (g2 : zand (zshr x1 x3) 1 ≠ 1), ∀ m, m < n → zT (zE 1487) (Pt PX11_payOf) m (4, [((172 : Nat) : Int), x1, w32 (x2 + 0), w32 (x3 + 1)], [], s) Q)
    (h2 : ∀ (g1 : x3 < s 174 4), ∀ (g2 : zand (zshr x1 x3) 1 = 1), ∀ m, m < n → zT (zE 1487) (Pt PX11_payOf) m (4, [((172 : Nat) : Int), x1, w32 (x2 + (s 191 x3.toNat)), w32 (x3 + 1)], [], s) Q) : zT (zE 1487) (Pt PX11_payOf) n (4, [((172 : Nat) : Int), x1, x2, x3], [], s) Q := by
  refine tL x3 0 rfl rfl rfl ?_
  refine tL ((172 : Nat) : Int) 0 rfl rfl rfl ?_
  refine tFR (c := 172) 174 rfl rfl rfl rfl rfl ?_
  refine tK rfl ?_
  refine tAv 174 4 (s 174 4) 0 rfl rfl rfl (by decide) rfl rfl ?_
  refine tJ3 rfl (fun g1 _ l1 => zT_le ?_ (Nat.le_of_lt l1)) (fun g1 _ l1 => zT_le ?_ (Nat.le_of_lt l1))
  · refine tL x2 0 rfl rfl rfl ?_
    exact tR rfl (h0 g1)
  · refine tL x2 0 rfl rfl rfl ?_
    refine tL x1 0 rfl rfl rfl ?_
    refine tL x3 0 rfl rfl rfl ?_
    refine tB (v := zshr x1 x3) rfl rfl ?_
    refine tK rfl ?_
    refine tB (v := zand (zshr x1 x3) 1) rfl rfl ?_
    refine tK rfl ?_
    refine tJ1 rfl (fun g2 _ l2 => zT_le ?_ (Nat.le_of_lt l2)) (fun g2 _ l2 => zT_le ?_ (Nat.le_of_lt l2))
    · refine tK rfl ?_
      refine tB (v := w32 (x2 + 0)) rfl rfl ?_
      refine tS [((172 : Nat) : Int), x1, w32 (x2 + 0), x3] rfl rfl ?_
      refine tInc [((172 : Nat) : Int), x1, w32 (x2 + 0), w32 (x3 + 1)] rfl rfl ?_
      exact tGb rfl (fun m2 l2 => h1 g1 g2 m2 (Nat.lt_of_lt_of_le l2 (Nat.le_refl n)))
    · refine tL ((172 : Nat) : Int) 0 rfl rfl rfl ?_
      refine tFR (c := 172) 191 rfl rfl rfl rfl rfl ?_
      refine tL x3 0 rfl rfl rfl ?_
      refine tAv 191 x3.toNat (s 191 x3.toNat) 0 rfl rfl rfl (by decide) rfl rfl ?_
      refine tG rfl ?_
      refine tB (v := w32 (x2 + (s 191 x3.toNat))) rfl rfl ?_
      refine tS [((172 : Nat) : Int), x1, w32 (x2 + (s 191 x3.toNat)), x3] rfl rfl ?_
      refine tInc [((172 : Nat) : Int), x1, w32 (x2 + (s 191 x3.toNat)), w32 (x3 + 1)] rfl rfl ?_
      exact tGb rfl (fun m2 l2 => h2 g1 g2 m2 (Nat.lt_of_lt_of_le l2 (Nat.le_refl n)))

theorem c_X11_payOf {n : Nat} {Q : Zr → Prop} {a0 a1 : Int} {s : Zs} (h : zT (zE 1487) (Pt PX11_payOf) n (0, [a0, a1, 0, 0], [], s) Q) : zC n 1487 [(a0, 0), (a1, 0)] s Q := h

theorem b_X11_seeks_0 {n : Nat} {Q : Zr → Prop} (x1 x2 x3 x4 x5 : Int) (s : Zs) 
    (h0 : ∀ m, m < n → zC m 1487 [(((172 : Nat) : Int), 0), (x1, 0)] s (fun p => zT (zE 1509) (Pt PX11_seeks) m (5, [((172 : Nat) : Int), x1, x2, x3, x4, x5], p.1 ++ [], p.2) Q)) : zT (zE 1509) (Pt PX11_seeks) n (0, [((172 : Nat) : Int), x1, x2, x3, x4, x5], [], s) Q := by
  refine tL ((172 : Nat) : Int) 0 rfl rfl rfl ?_
  refine tL x1 0 rfl rfl rfl ?_
  exact tCall [(((172 : Nat) : Int), 0), (x1, 0)] [] rfl rfl rfl (fun m l => h0 m (Nat.lt_of_lt_of_le l (Nat.le_refl n)))

theorem b_X11_seeks_42 {n : Nat} {Q : Zr → Prop} (x1 x2 x3 x4 x5 : Int) (s : Zs) 
    (h0 : ∀ (g1 : 4 ≤ x5), ∀ m, m < n → zC m 1435 [(((172 : Nat) : Int), 0), (0, 0), (x2, 0), (x4, 0)] (zu s 172 68 0) (fun p => zT (zE 1509) (Pt PX11_seeks) m (95, [((172 : Nat) : Int), x1, x2, x3, x4, x5], p.1 ++ [], p.2) Q))
    (h1 : ∀ (g1 : x5 < 4), ∀ (g3 : zand (zshr x1 x5) 1 ≠ 1), ∀ m, m < n → zT (zE 1509) (Pt PX11_seeks) m (42, [((172 : Nat) : Int), x1, x2, x3, x4, w32 (x5 + 1)], [], zu s 226 x5.toNat 0) Q)
    (h2 : ∀ (g1 : x5 < 4), ∀ (g3 : zand (zshr x1 x5) 1 = 1), ∀ m, m < n → zT (zE 1509) (Pt PX11_seeks) m (42, [((172 : Nat) : Int), x1, x2, x3, x4, w32 (x5 + 1)], [], zu s 226 x5.toNat (s 190 x5.toNat)) Q) : zT (zE 1509) (Pt PX11_seeks) n (42, [((172 : Nat) : Int), x1, x2, x3, x4, x5], [], s) Q := by
  refine tL x5 0 rfl rfl rfl ?_
  refine tK rfl ?_
  refine tJ3 rfl (fun g1 _ l1 => zT_le ?_ (Nat.le_of_lt l1)) (fun g1 _ l1 => zT_le ?_ (Nat.le_of_lt l1))
  · refine tL ((172 : Nat) : Int) 0 rfl rfl rfl ?_
    refine tK rfl ?_
    refine tPut 172 rfl rfl ?_
    refine tL ((172 : Nat) : Int) 0 rfl rfl rfl ?_
    refine tK rfl ?_
    refine tL x2 0 rfl rfl rfl ?_
    refine tL x4 0 rfl rfl rfl ?_
    exact tCall [(((172 : Nat) : Int), 0), (0, 0), (x2, 0), (x4, 0)] [] rfl rfl rfl (fun m l => h0 g1 m (Nat.lt_of_lt_of_le l (Nat.le_refl n)))
  · refine tL ((172 : Nat) : Int) 0 rfl rfl rfl ?_
    refine tFR (c := 172) 226 rfl rfl rfl rfl rfl ?_
    refine tL x5 0 rfl rfl rfl ?_
    refine tL x1 0 rfl rfl rfl ?_
    refine tL x5 0 rfl rfl rfl ?_
    refine tB (v := zshr x1 x5) rfl rfl ?_
    refine tK rfl ?_
    refine tB (v := zand (zshr x1 x5) 1) rfl rfl ?_
    refine tK rfl ?_
    refine tJ1 rfl (fun g3 _ l3 => zT_le ?_ (Nat.le_of_lt l3)) (fun g3 _ l3 => zT_le ?_ (Nat.le_of_lt l3))
    · refine tK rfl ?_
      refine tAS 226 x5.toNat rfl rfl rfl (by decide) ?_
      refine tInc [((172 : Nat) : Int), x1, x2, x3, x4, w32 (x5 + 1)] rfl rfl ?_
      exact tGb rfl (fun m2 l2 => h1 g1 g3 m2 (Nat.lt_of_lt_of_le l2 (Nat.le_refl n)))
    · refine tL ((172 : Nat) : Int) 0 rfl rfl rfl ?_
      refine tFR (c := 172) 190 rfl rfl rfl rfl rfl ?_
      refine tL x5 0 rfl rfl rfl ?_
      refine tAv 190 x5.toNat (s 190 x5.toNat) 0 rfl rfl rfl (by decide) rfl rfl ?_
      refine tG rfl ?_
      refine tAS 226 x5.toNat rfl rfl rfl (by decide) ?_
      refine tInc [((172 : Nat) : Int), x1, x2, x3, x4, w32 (x5 + 1)] rfl rfl ?_
      exact tGb rfl (fun m2 l2 => h2 g1 g3 m2 (Nat.lt_of_lt_of_le l2 (Nat.le_refl n)))

theorem b_X11_seeks_134 {n : Nat} {Q : Zr → Prop} (x1 x2 x3 x4 x5 : Int) (s : Zs) 
    (h0 : ∀ (g1 : 10 ≤ x5), Q ([], s))
    (h1 : ∀ (g1 : x5 < 10), ∀ m, m < n → zT (zE 1509) (Pt PX11_seeks) m (134, [((172 : Nat) : Int), x1, x2, x3, x4, w32 (x5 + 1)], [], zu s 225 x5.toNat (s 224 x5.toNat)) Q) : zT (zE 1509) (Pt PX11_seeks) n (134, [((172 : Nat) : Int), x1, x2, x3, x4, x5], [], s) Q := by
  refine tL x5 0 rfl rfl rfl ?_
  refine tK rfl ?_
  refine tJ3 rfl (fun g1 _ l1 => zT_le ?_ (Nat.le_of_lt l1)) (fun g1 _ l1 => zT_le ?_ (Nat.le_of_lt l1))
  · exact tR rfl (h0 g1)
  · refine tL ((172 : Nat) : Int) 0 rfl rfl rfl ?_
    refine tFR (c := 172) 225 rfl rfl rfl rfl rfl ?_
    refine tL x5 0 rfl rfl rfl ?_
    refine tL ((172 : Nat) : Int) 0 rfl rfl rfl ?_
    refine tFR (c := 172) 224 rfl rfl rfl rfl rfl ?_
    refine tL x5 0 rfl rfl rfl ?_
    refine tAv 224 x5.toNat (s 224 x5.toNat) 0 rfl rfl rfl (by decide) rfl rfl ?_
    refine tAS 225 x5.toNat rfl rfl rfl (by decide) ?_
    refine tInc [((172 : Nat) : Int), x1, x2, x3, x4, w32 (x5 + 1)] rfl rfl ?_
    exact tGb rfl (fun m2 l2 => h1 g1 m2 (Nat.lt_of_lt_of_le l2 (Nat.le_refl n)))

theorem b_X11_seeks_5 {n : Nat} {Q : Zr → Prop} (x1 x2 x3 x4 x5 v0 : Int) (s : Zs) 
    (h0 : ∀ m, m < n → zC m 1507 [(((172 : Nat) : Int), 0), (x2, 0)] s (fun p => zT (zE 1509) (Pt PX11_seeks) m (11, [((172 : Nat) : Int), x1, x2, v0, x4, x5], p.1 ++ [], p.2) Q)) : zT (zE 1509) (Pt PX11_seeks) n (5, [((172 : Nat) : Int), x1, x2, x3, x4, x5], [(v0, 0)], s) Q := by
  refine tS [((172 : Nat) : Int), x1, x2, v0, x4, x5] rfl rfl ?_
  refine tL ((172 : Nat) : Int) 0 rfl rfl rfl ?_
  refine tL x2 0 rfl rfl rfl ?_
  exact tCall [(((172 : Nat) : Int), 0), (x2, 0)] [] rfl rfl rfl (fun m l => h0 m (Nat.lt_of_lt_of_le l (Nat.le_refl n)))

theorem b_X11_seeks_95 {n : Nat} {Q : Zr → Prop} (x1 x2 x3 x4 x5 : Int) (s : Zs) 
    (h0 : ∀ (g1 : x3 ≠ s 172 69), zT (zE 1509) (Pt PX11_seeks) n (134, [((172 : Nat) : Int), x1, x2, x3, x4, 0], [], zu (zu s 172 69 x3) 172 70 x4) Q)
    (h1 : ∀ (g1 : x3 = s 172 69), ∀ (g2 : x4 ≠ s 172 70), zT (zE 1509) (Pt PX11_seeks) n (134, [((172 : Nat) : Int), x1, x2, x3, x4, 0], [], zu (zu s 172 69 x3) 172 70 x4) Q)
    (h2 : ∀ (g1 : x3 = s 172 69), ∀ (g2 : x4 = s 172 70), ∀ m, m < n → zC m 1446 [(((172 : Nat) : Int), 0)] s (fun p => zT (zE 1509) (Pt PX11_seeks) m (116, [((172 : Nat) : Int), x1, x2, x3, x4, x5], p.1 ++ [], p.2) Q)) : zT (zE 1509) (Pt PX11_seeks) n (95, [((172 : Nat) : Int), x1, x2, x3, x4, x5], [], s) Q := by
  refine tL x3 0 rfl rfl rfl ?_
  refine tL ((172 : Nat) : Int) 0 rfl rfl rfl ?_
  refine tFv (c := 172) (s 172 69) 0 rfl rfl rfl rfl rfl ?_
  refine tJ1 rfl (fun g1 _ l1 => zT_le ?_ (Nat.le_of_lt l1)) (fun g1 _ l1 => zT_le ?_ (Nat.le_of_lt l1))
  · refine tL ((172 : Nat) : Int) 0 rfl rfl rfl ?_
    refine tL x3 0 rfl rfl rfl ?_
    refine tPut 172 rfl rfl ?_
    refine tL ((172 : Nat) : Int) 0 rfl rfl rfl ?_
    refine tL x4 0 rfl rfl rfl ?_
    refine tPut 172 rfl rfl ?_
    refine tK rfl ?_
    refine tS [((172 : Nat) : Int), x1, x2, x3, x4, 0] rfl rfl ?_
    exact zT_le (h0 g1) (Nat.le_refl n)
  · refine tL x4 0 rfl rfl rfl ?_
    refine tL ((172 : Nat) : Int) 0 rfl rfl rfl ?_
    refine tFv (c := 172) (s 172 70) 0 rfl rfl rfl rfl rfl ?_
    refine tJ1 rfl (fun g2 _ l2 => zT_le ?_ (Nat.le_of_lt l2)) (fun g2 _ l2 => zT_le ?_ (Nat.le_of_lt l2))
    · refine tL ((172 : Nat) : Int) 0 rfl rfl rfl ?_
      refine tL x3 0 rfl rfl rfl ?_
      refine tPut 172 rfl rfl ?_
      refine tL ((172 : Nat) : Int) 0 rfl rfl rfl ?_
      refine tL x4 0 rfl rfl rfl ?_
      refine tPut 172 rfl rfl ?_
      refine tK rfl ?_
      refine tS [((172 : Nat) : Int), x1, x2, x3, x4, 0] rfl rfl ?_
      exact zT_le (h1 g1 g2) (Nat.le_refl n)
    · refine tL ((172 : Nat) : Int) 0 rfl rfl rfl ?_
      exact tCall [(((172 : Nat) : Int), 0)] [] rfl rfl rfl (fun m l => h2 g1 g2 m (Nat.lt_of_lt_of_le l (Nat.le_refl n)))

theorem b_X11_seeks_11 {n : Nat} {Q : Zr → Prop} (x1 x2 x3 x4 x5 v0 : Int) (s : Zs) 
    (h0 : ∀ (g1 : x3 < s 172 69), Q ([], s))
    (h1 : ∀ (g1 : s 172 69 ≤ x3), ∀ (g2 : x3 ≠ s 172 69), zT (zE 1509) (Pt PX11_seeks) n (42, [((172 : Nat) : Int), x1, x2, x3, v0, 0], [], s) Q)
    (h2 : ∀ (g1 : s 172 69 ≤ x3), ∀ (g2 : x3 = s 172 69), ∀ (g3 : v0 ≤ s 172 70), zT (zE 1509) (Pt PX11_seeks) n (42, [((172 : Nat) : Int), x1, x2, x3, v0, 0], [], s) Q)
    (h3 : ∀ (g1 : s 172 69 ≤ x3), ∀ (g2 : x3 = s 172 69), ∀ (g3 : s 172 70 < v0), Q ([], s)) : zT (zE 1509) (Pt PX11_seeks) n (11, [((172 : Nat) : Int), x1, x2, x3, x4, x5], [(v0, 0)], s) Q := by
  refine tS [((172 : Nat) : Int), x1, x2, x3, v0, x5] rfl rfl ?_
  refine tL x3 0 rfl rfl rfl ?_
  refine tL ((172 : Nat) : Int) 0 rfl rfl rfl ?_
  refine tFv (c := 172) (s 172 69) 0 rfl rfl rfl rfl rfl ?_
  refine tJ2 rfl (fun g1 _ l1 => zT_le ?_ (Nat.le_of_lt l1)) (fun g1 _ l1 => zT_le ?_ (Nat.le_of_lt l1))
  · exact tR rfl (h0 g1)
  · refine tL x3 0 rfl rfl rfl ?_
    refine tL ((172 : Nat) : Int) 0 rfl rfl rfl ?_
    refine tFv (c := 172) (s 172 69) 0 rfl rfl rfl rfl rfl ?_
    refine tJ1 rfl (fun g2 _ l2 => zT_le ?_ (Nat.le_of_lt l2)) (fun g2 _ l2 => zT_le ?_ (Nat.le_of_lt l2))
    · refine tK rfl ?_
      refine tS [((172 : Nat) : Int), x1, x2, x3, v0, 0] rfl rfl ?_
      exact zT_le (h1 g1 g2) (Nat.le_refl n)
    · refine tL v0 0 rfl rfl rfl ?_
      refine tL ((172 : Nat) : Int) 0 rfl rfl rfl ?_
      refine tFv (c := 172) (s 172 70) 0 rfl rfl rfl rfl rfl ?_
      refine tJ5 rfl (fun g3 _ l3 => zT_le ?_ (Nat.le_of_lt l3)) (fun g3 _ l3 => zT_le ?_ (Nat.le_of_lt l3))
      · refine tK rfl ?_
        refine tS [((172 : Nat) : Int), x1, x2, x3, v0, 0] rfl rfl ?_
        exact zT_le (h2 g1 g2 g3) (Nat.le_refl n)
      · exact tR rfl (h3 g1 g2 g3)

theorem b_X11_seeks_116 {n : Nat} {Q : Zr → Prop} (x1 x2 x3 x4 x5 v0 : Int) (s : Zs) 
    (h0 : ∀ (g1 : v0 ≠ 0), zT (zE 1509) (Pt PX11_seeks) n (134, [((172 : Nat) : Int), x1, x2, x3, x4, 0], [], zu (zu s 172 69 x3) 172 70 x4) Q)
    (h1 : ∀ (g1 : v0 = 0), Q ([], s)) : zT (zE 1509) (Pt PX11_seeks) n (116, [((172 : Nat) : Int), x1, x2, x3, x4, x5], [(v0, 0)], s) Q := by
  refine tI1 rfl (fun g1 _ l1 => zT_le ?_ (Nat.le_of_lt l1)) (fun g1 _ l1 => zT_le ?_ (Nat.le_of_lt l1))
  · refine tL ((172 : Nat) : Int) 0 rfl rfl rfl ?_
    refine tL x3 0 rfl rfl rfl ?_
    refine tPut 172 rfl rfl ?_
    refine tL ((172 : Nat) : Int) 0 rfl rfl rfl ?_
    refine tL x4 0 rfl rfl rfl ?_
    refine tPut 172 rfl rfl ?_
    refine tK rfl ?_
    refine tS [((172 : Nat) : Int), x1, x2, x3, x4, 0] rfl rfl ?_
    exact zT_le (h0 g1) (Nat.le_refl n)
  · exact tR rfl (h1 g1)

theorem c_X11_seeks {n : Nat} {Q : Zr → Prop} {a0 a1 a2 : Int} {s : Zs} (h : zT (zE 1509) (Pt PX11_seeks) n (0, [a0, a1, a2, 0, 0, 0], [], s) Q) : zC n 1509 [(a0, 0), (a1, 0), (a2, 0)] s Q := h

theorem b_X11_orders_0 {n : Nat} {Q : Zr → Prop} (x1 x2 x3 x4 : Int) (s : Zs) 
    (h0 : zT (zE 1486) (Pt PX11_orders) n (22, [((172 : Nat) : Int), x1, zand (w32 ((zshl 1 (s 174 1)) - 1)) (zxor (s 216 0) (-1)), 9, x4], [], zu s 172 0 0) Q) : zT (zE 1486) (Pt PX11_orders) n (0, [((172 : Nat) : Int), x1, x2, x3, x4], [], s) Q := by
  refine tL ((172 : Nat) : Int) 0 rfl rfl rfl ?_
  refine tK rfl ?_
  refine tPut 172 rfl rfl ?_
  refine tL ((172 : Nat) : Int) 0 rfl rfl rfl ?_
  refine tCall [(((172 : Nat) : Int), 0)] [] rfl rfl rfl (fun m1 l1 => c_X11_allFlights (b_X11_allFlights_0  (zu s 172 0 0) ?_))
  · show zT (zE 1486) (Pt PX11_orders) m1 (9, [((172 : Nat) : Int), x1, x2, x3, x4], [(w32 ((zshl 1 (s 174 1)) - 1), 0)], zu s 172 0 0) Q
    refine tL ((172 : Nat) : Int) 0 rfl rfl rfl ?_
    refine tFR (c := 172) 216 rfl rfl rfl rfl rfl ?_
    refine tK rfl ?_
    refine tAv 216 0 (s 216 0) 0 rfl rfl rfl (by decide) rfl rfl ?_
    refine tK rfl ?_
    refine tB (v := zxor (s 216 0) (-1)) rfl rfl ?_
    refine tB (v := zand (w32 ((zshl 1 (s 174 1)) - 1)) (zxor (s 216 0) (-1))) rfl rfl ?_
    refine tS [((172 : Nat) : Int), x1, zand (w32 ((zshl 1 (s 174 1)) - 1)) (zxor (s 216 0) (-1)), x3, x4] rfl rfl ?_
    refine tK rfl ?_
    refine tS [((172 : Nat) : Int), x1, zand (w32 ((zshl 1 (s 174 1)) - 1)) (zxor (s 216 0) (-1)), 9, x4] rfl rfl ?_
    exact zT_le (h0) (Nat.le_trans (Nat.le_of_lt l1) (Nat.le_refl n))

theorem b_X11_orders_22 {n : Nat} {Q : Zr → Prop} (x1 x2 x3 x4 : Int) (s : Zs) 
    (h0 : ∀ (g1 : x3 < 0), ∀ m, m < n → zC m 1414 [(x2, 0)] s (fun p => zT (zE 1486) (Pt PX11_orders) m (56, [((172 : Nat) : Int), x1, x2, x3, x4], p.1 ++ [(1, 0), (0, 0), (x1, 0)], p.2) Q))
    (h1 : ∀ (g1 : 0 ≤ x3), ∀ m, m < n → zC m 1414 [(x2, 0)] s (fun p => zT (zE 1486) (Pt PX11_orders) m (30, [((172 : Nat) : Int), x1, x2, x3, x4], p.1 ++ [], p.2) Q)) : zT (zE 1486) (Pt PX11_orders) n (22, [((172 : Nat) : Int), x1, x2, x3, x4], [], s) Q := by
  refine tL x3 0 rfl rfl rfl ?_
  refine tI2 rfl (fun g1 _ l1 => zT_le ?_ (Nat.le_of_lt l1)) (fun g1 _ l1 => zT_le ?_ (Nat.le_of_lt l1))
  · refine tL x1 0 rfl rfl rfl ?_
    refine tK rfl ?_
    refine tK rfl ?_
    refine tL x2 0 rfl rfl rfl ?_
    exact tCall [(x2, 0)] [(1, 0), (0, 0), (x1, 0)] rfl rfl rfl (fun m l => h0 g1 m (Nat.lt_of_lt_of_le l (Nat.le_refl n)))
  · refine tL x2 0 rfl rfl rfl ?_
    exact tCall [(x2, 0)] [] rfl rfl rfl (fun m l => h1 g1 m (Nat.lt_of_lt_of_le l (Nat.le_refl n)))

theorem b_X11_orders_78 {n : Nat} {Q : Zr → Prop} (x1 x2 x3 x4 : Int) (s : Zs) 
    (h0 : ∀ (g1 : 10 ≤ x3), zT (zE 1486) (Pt PX11_orders) n (100, [((172 : Nat) : Int), x1, x2, 1, x4], [], s) Q)
    (h1 : ∀ (g1 : x3 < 10), ∀ m, m < n → zT (zE 1486) (Pt PX11_orders) m (78, [((172 : Nat) : Int), x1, x2, w32 (x3 + 1), x4], [], zu s 225 x3.toNat 9) Q) : zT (zE 1486) (Pt PX11_orders) n (78, [((172 : Nat) : Int), x1, x2, x3, x4], [], s) Q := by
  refine tL x3 0 rfl rfl rfl ?_
  refine tK rfl ?_
  refine tJ3 rfl (fun g1 _ l1 => zT_le ?_ (Nat.le_of_lt l1)) (fun g1 _ l1 => zT_le ?_ (Nat.le_of_lt l1))
  · refine tK rfl ?_
    refine tS [((172 : Nat) : Int), x1, x2, 1, x4] rfl rfl ?_
    exact zT_le (h0 g1) (Nat.le_refl n)
  · refine tL ((172 : Nat) : Int) 0 rfl rfl rfl ?_
    refine tFR (c := 172) 225 rfl rfl rfl rfl rfl ?_
    refine tL x3 0 rfl rfl rfl ?_
    refine tK rfl ?_
    refine tAS 225 x3.toNat rfl rfl rfl (by decide) ?_
    refine tInc [((172 : Nat) : Int), x1, x2, w32 (x3 + 1), x4] rfl rfl ?_
    exact tGb rfl (fun m2 l2 => h1 g1 m2 (Nat.lt_of_lt_of_le l2 (Nat.le_refl n)))

theorem b_X11_orders_100 {n : Nat} {Q : Zr → Prop} (x1 x2 x3 x4 : Int) (s : Zs) 
    (h0 : ∀ (g1 : zshl 1 (s 174 4) ≤ x3), ∀ (g2 : 2 ≤ x1), zT (zE 1486) (Pt PX11_orders) n (204, [((172 : Nat) : Int), x1, x2, w32 (x1 - 2), 0], [], s) Q)
    (h1 : ∀ (g1 : zshl 1 (s 174 4) ≤ x3), ∀ (g2 : x1 < 2), ∀ (g3 : x1 ≠ 0), Q ([(s 172 70, 0)], s))
    (h2 : ∀ (g1 : zshl 1 (s 174 4) ≤ x3), ∀ (g2 : x1 < 2), ∀ (g3 : x1 = 0), Q ([(s 172 69, 0)], s))
    (h3 : ∀ (g1 : x3 < zshl 1 (s 174 4)), ∀ m, m < n → zC m 1466 [(((172 : Nat) : Int), 0), (x3, 0)] s (fun p => zT (zE 1486) (Pt PX11_orders) m (117, [((172 : Nat) : Int), x1, x2, x3, x4], p.1 ++ [], p.2) Q)) : zT (zE 1486) (Pt PX11_orders) n (100, [((172 : Nat) : Int), x1, x2, x3, x4], [], s) Q := by
  refine tL x3 0 rfl rfl rfl ?_
  refine tK rfl ?_
  refine tL ((172 : Nat) : Int) 0 rfl rfl rfl ?_
  refine tFR (c := 172) 174 rfl rfl rfl rfl rfl ?_
  refine tK rfl ?_
  refine tAv 174 4 (s 174 4) 0 rfl rfl rfl (by decide) rfl rfl ?_
  refine tB (v := zshl 1 (s 174 4)) rfl rfl ?_
  refine tJ3 rfl (fun g1 _ l1 => zT_le ?_ (Nat.le_of_lt l1)) (fun g1 _ l1 => zT_le ?_ (Nat.le_of_lt l1))
  · refine tL x1 0 rfl rfl rfl ?_
    refine tK rfl ?_
    refine tJ3 rfl (fun g2 _ l2 => zT_le ?_ (Nat.le_of_lt l2)) (fun g2 _ l2 => zT_le ?_ (Nat.le_of_lt l2))
    · refine tL x1 0 rfl rfl rfl ?_
      refine tK rfl ?_
      refine tB (v := w32 (x1 - 2)) rfl rfl ?_
      refine tS [((172 : Nat) : Int), x1, x2, w32 (x1 - 2), x4] rfl rfl ?_
      refine tK rfl ?_
      refine tS [((172 : Nat) : Int), x1, x2, w32 (x1 - 2), 0] rfl rfl ?_
      exact zT_le (h0 g1 g2) (Nat.le_refl n)
    · refine tL x1 0 rfl rfl rfl ?_
      refine tI1 rfl (fun g3 _ l3 => zT_le ?_ (Nat.le_of_lt l3)) (fun g3 _ l3 => zT_le ?_ (Nat.le_of_lt l3))
      · refine tL ((172 : Nat) : Int) 0 rfl rfl rfl ?_
        refine tFv (c := 172) (s 172 70) 0 rfl rfl rfl rfl rfl ?_
        exact tR rfl (h1 g1 g2 g3)
      · refine tL ((172 : Nat) : Int) 0 rfl rfl rfl ?_
        refine tFv (c := 172) (s 172 69) 0 rfl rfl rfl rfl rfl ?_
        refine tG rfl ?_
        exact tR rfl (h2 g1 g2 g3)
  · refine tL ((172 : Nat) : Int) 0 rfl rfl rfl ?_
    refine tL x3 0 rfl rfl rfl ?_
    exact tCall [(((172 : Nat) : Int), 0), (x3, 0)] [] rfl rfl rfl (fun m l => h3 g1 m (Nat.lt_of_lt_of_le l (Nat.le_refl n)))

theorem b_X11_orders_120 {n : Nat} {Q : Zr → Prop} (x1 x2 x3 x4 : Int) (s : Zs) 
    (h0 : ∀ (g2 : w32 ((zshl 1 (s 174 1)) - 1) < x4), ∀ m, m < n → zT (zE 1486) (Pt PX11_orders) m (100, [((172 : Nat) : Int), x1, x2, w32 (x3 + 1), x4], [], s) Q)
    (h1 : ∀ (g2 : x4 ≤ w32 ((zshl 1 (s 174 1)) - 1)), ∀ (g3 : zand x4 (zxor x2 (-1)) ≠ 0), ∀ m, m < n → zT (zE 1486) (Pt PX11_orders) m (120, [((172 : Nat) : Int), x1, x2, x3, w32 (x4 + 1)], [], s) Q)
    (h2 : ∀ (g2 : x4 ≤ w32 ((zshl 1 (s 174 1)) - 1)), ∀ (g3 : zand x4 (zxor x2 (-1)) = 0), ∀ (g4 : s 222 ((w32 ((w32 (1024 * (s 172 64))) + x4)).toNat) = 0), ∀ m, m < n → zT (zE 1486) (Pt PX11_orders) m (120, [((172 : Nat) : Int), x1, x2, x3, w32 (x4 + 1)], [], s) Q)
    (h3 : ∀ (g2 : x4 ≤ w32 ((zshl 1 (s 174 1)) - 1)), ∀ (g3 : zand x4 (zxor x2 (-1)) = 0), ∀ (g4 : s 222 ((w32 ((w32 (1024 * (s 172 64))) + x4)).toNat) ≠ 0), ∀ m, m < n → zC m 1509 [(((172 : Nat) : Int), 0), (x3, 0), (x4, 0)] s (fun p => zT (zE 1486) (Pt PX11_orders) m (164, [((172 : Nat) : Int), x1, x2, x3, x4], p.1 ++ [], p.2) Q)) : zT (zE 1486) (Pt PX11_orders) n (120, [((172 : Nat) : Int), x1, x2, x3, x4], [], s) Q := by
  refine tL x4 0 rfl rfl rfl ?_
  refine tL ((172 : Nat) : Int) 0 rfl rfl rfl ?_
  refine tCall [(((172 : Nat) : Int), 0)] [(x4, 0)] rfl rfl rfl (fun m1 l1 => c_X11_allFlights (b_X11_allFlights_0  s ?_))
  · show zT (zE 1486) (Pt PX11_orders) m1 (126, [((172 : Nat) : Int), x1, x2, x3, x4], [(w32 ((zshl 1 (s 174 1)) - 1), 0), (x4, 0)], s) Q
    refine tJ4 rfl (fun g2 _ l2 => zT_le ?_ (Nat.le_of_lt l2)) (fun g2 _ l2 => zT_le ?_ (Nat.le_of_lt l2))
    · refine tInc [((172 : Nat) : Int), x1, x2, w32 (x3 + 1), x4] rfl rfl ?_
      exact tGb rfl (fun m2 l2 => h0 g2 m2 (Nat.lt_of_lt_of_le l2 (Nat.le_trans (Nat.le_of_lt l1) (Nat.le_refl n))))
    · refine tL x4 0 rfl rfl rfl ?_
      refine tL x2 0 rfl rfl rfl ?_
      refine tK rfl ?_
      refine tB (v := zxor x2 (-1)) rfl rfl ?_
      refine tB (v := zand x4 (zxor x2 (-1))) rfl rfl ?_
      refine tI1 rfl (fun g3 _ l3 => zT_le ?_ (Nat.le_of_lt l3)) (fun g3 _ l3 => zT_le ?_ (Nat.le_of_lt l3))
      · refine tInc [((172 : Nat) : Int), x1, x2, x3, w32 (x4 + 1)] rfl rfl ?_
        exact tGb rfl (fun m2 l2 => h1 g2 g3 m2 (Nat.lt_of_lt_of_le l2 (Nat.le_trans (Nat.le_of_lt l1) (Nat.le_refl n))))
      · refine tL ((172 : Nat) : Int) 0 rfl rfl rfl ?_
        refine tFR (c := 172) 222 rfl rfl rfl rfl rfl ?_
        refine tK rfl ?_
        refine tL ((172 : Nat) : Int) 0 rfl rfl rfl ?_
        refine tFv (c := 172) (s 172 64) 0 rfl rfl rfl rfl rfl ?_
        refine tM (v := w32 (1024 * (s 172 64))) rfl rfl ?_
        refine tL x4 0 rfl rfl rfl ?_
        refine tB (v := w32 ((w32 (1024 * (s 172 64))) + x4)) rfl rfl ?_
        refine tAv 222 ((w32 ((w32 (1024 * (s 172 64))) + x4)).toNat) (s 222 ((w32 ((w32 (1024 * (s 172 64))) + x4)).toNat)) 0 rfl rfl rfl (by decide) rfl rfl ?_
        refine tI0 rfl (fun g4 _ l4 => zT_le ?_ (Nat.le_of_lt l4)) (fun g4 _ l4 => zT_le ?_ (Nat.le_of_lt l4))
        · refine tInc [((172 : Nat) : Int), x1, x2, x3, w32 (x4 + 1)] rfl rfl ?_
          exact tGb rfl (fun m2 l2 => h2 g2 g3 g4 m2 (Nat.lt_of_lt_of_le l2 (Nat.le_trans (Nat.le_of_lt l1) (Nat.le_refl n))))
        · refine tL ((172 : Nat) : Int) 0 rfl rfl rfl ?_
          refine tL x3 0 rfl rfl rfl ?_
          refine tL x4 0 rfl rfl rfl ?_
          exact tCall [(((172 : Nat) : Int), 0), (x3, 0), (x4, 0)] [] rfl rfl rfl (fun m l => h3 g2 g3 g4 m (Nat.lt_of_lt_of_le l (Nat.le_trans (Nat.le_of_lt l1) (Nat.le_refl n))))

theorem b_X11_orders_204 {n : Nat} {Q : Zr → Prop} (x1 x2 x3 x4 : Int) (s : Zs) 
    (h0 : ∀ (g1 : zand (zshr x2 x4) 1 = 0), ∀ m, m < n → zT (zE 1486) (Pt PX11_orders) m (204, [((172 : Nat) : Int), x1, x2, w32 (x3 - (zand (zshr x2 x4) 1)), w32 (x4 + 1)], [], s) Q)
    (h1 : ∀ (g1 : zand (zshr x2 x4) 1 ≠ 0), ∀ (g2 : x3 ≤ 0), ∀ (g3 : s 225 x4.toNat ≠ 9), Q ([(s 225 x4.toNat, 0)], s))
    (h2 : ∀ (g1 : zand (zshr x2 x4) 1 ≠ 0), ∀ (g2 : x3 ≤ 0), ∀ (g3 : s 225 x4.toNat = 9), Q ([((-1), 0)], s))
    (h3 : ∀ (g1 : zand (zshr x2 x4) 1 ≠ 0), ∀ (g2 : 0 < x3), ∀ m, m < n → zT (zE 1486) (Pt PX11_orders) m (204, [((172 : Nat) : Int), x1, x2, w32 (x3 - (zand (zshr x2 x4) 1)), w32 (x4 + 1)], [], s) Q) : zT (zE 1486) (Pt PX11_orders) n (204, [((172 : Nat) : Int), x1, x2, x3, x4], [], s) Q := by
  refine tL x2 0 rfl rfl rfl ?_
  refine tL x4 0 rfl rfl rfl ?_
  refine tB (v := zshr x2 x4) rfl rfl ?_
  refine tK rfl ?_
  refine tB (v := zand (zshr x2 x4) 1) rfl rfl ?_
  refine tI0 rfl (fun g1 _ l1 => zT_le ?_ (Nat.le_of_lt l1)) (fun g1 _ l1 => zT_le ?_ (Nat.le_of_lt l1))
  · refine tL x3 0 rfl rfl rfl ?_
    refine tL x2 0 rfl rfl rfl ?_
    refine tL x4 0 rfl rfl rfl ?_
    refine tB (v := zshr x2 x4) rfl rfl ?_
    refine tK rfl ?_
    refine tB (v := zand (zshr x2 x4) 1) rfl rfl ?_
    refine tB (v := w32 (x3 - (zand (zshr x2 x4) 1))) rfl rfl ?_
    refine tS [((172 : Nat) : Int), x1, x2, w32 (x3 - (zand (zshr x2 x4) 1)), x4] rfl rfl ?_
    refine tInc [((172 : Nat) : Int), x1, x2, w32 (x3 - (zand (zshr x2 x4) 1)), w32 (x4 + 1)] rfl rfl ?_
    exact tGb rfl (fun m2 l2 => h0 g1 m2 (Nat.lt_of_lt_of_le l2 (Nat.le_refl n)))
  · refine tL x3 0 rfl rfl rfl ?_
    refine tI5 rfl (fun g2 _ l2 => zT_le ?_ (Nat.le_of_lt l2)) (fun g2 _ l2 => zT_le ?_ (Nat.le_of_lt l2))
    · refine tL ((172 : Nat) : Int) 0 rfl rfl rfl ?_
      refine tFR (c := 172) 225 rfl rfl rfl rfl rfl ?_
      refine tL x4 0 rfl rfl rfl ?_
      refine tAv 225 x4.toNat (s 225 x4.toNat) 0 rfl rfl rfl (by decide) rfl rfl ?_
      refine tK rfl ?_
      refine tJ1 rfl (fun g3 _ l3 => zT_le ?_ (Nat.le_of_lt l3)) (fun g3 _ l3 => zT_le ?_ (Nat.le_of_lt l3))
      · refine tL ((172 : Nat) : Int) 0 rfl rfl rfl ?_
        refine tFR (c := 172) 225 rfl rfl rfl rfl rfl ?_
        refine tL x4 0 rfl rfl rfl ?_
        refine tAv 225 x4.toNat (s 225 x4.toNat) 0 rfl rfl rfl (by decide) rfl rfl ?_
        exact tR rfl (h1 g1 g2 g3)
      · refine tK rfl ?_
        refine tG rfl ?_
        exact tR rfl (h2 g1 g2 g3)
    · refine tL x3 0 rfl rfl rfl ?_
      refine tL x2 0 rfl rfl rfl ?_
      refine tL x4 0 rfl rfl rfl ?_
      refine tB (v := zshr x2 x4) rfl rfl ?_
      refine tK rfl ?_
      refine tB (v := zand (zshr x2 x4) 1) rfl rfl ?_
      refine tB (v := w32 (x3 - (zand (zshr x2 x4) 1))) rfl rfl ?_
      refine tS [((172 : Nat) : Int), x1, x2, w32 (x3 - (zand (zshr x2 x4) 1)), x4] rfl rfl ?_
      refine tInc [((172 : Nat) : Int), x1, x2, w32 (x3 - (zand (zshr x2 x4) 1)), w32 (x4 + 1)] rfl rfl ?_
      exact tGb rfl (fun m2 l2 => h3 g1 g2 m2 (Nat.lt_of_lt_of_le l2 (Nat.le_refl n)))

theorem b_X11_orders_56 {n : Nat} {Q : Zr → Prop} (x1 x2 x3 x4 v0 y2 : Int) (s : Zs) 
    (h0 : ∀ (g2 : y2 < 0), Q ([((-2), 0)], s))
    (h1 : ∀ (g3 : 0 ≤ y2), ∀ (g4 : w32 (1 + v0) < y2), Q ([((-2), 0)], s))
    (h2 : ∀ (g5 : 0 ≤ y2), ∀ (g6 : y2 ≤ w32 (1 + v0)), zT (zE 1486) (Pt PX11_orders) n (78, [((172 : Nat) : Int), x1, x2, 0, x4], [], zu (zu s 172 69 0) 172 70 0) Q) : zT (zE 1486) (Pt PX11_orders) n (56, [((172 : Nat) : Int), x1, x2, x3, x4], [(v0, 0), (1, 0), (0, 0), (y2, 0)], s) Q := by
  refine tB (v := w32 (1 + v0)) rfl rfl ?_
  refine tCall [(y2, 0), (0, 0), (w32 (1 + v0), 0)] [] rfl rfl rfl (fun m1 l1 => c_X11_within (b_X11_within_0 y2 0 (w32 (1 + v0)) s ?_ ?_ ?_))
  · intro g2
    show zT (zE 1486) (Pt PX11_orders) m1 (60, [((172 : Nat) : Int), x1, x2, x3, x4], [(0, 0)], s) Q
    refine tI1 rfl (fun g _ l => (absurd g (by decide))) (fun g _ l => zT_le ?_ (Nat.le_of_lt l))
    refine tK rfl ?_
    exact tR rfl (h0 g2)
  · intro g3 g4
    show zT (zE 1486) (Pt PX11_orders) m1 (60, [((172 : Nat) : Int), x1, x2, x3, x4], [(0, 0)], s) Q
    refine tI1 rfl (fun g _ l => (absurd g (by decide))) (fun g _ l => zT_le ?_ (Nat.le_of_lt l))
    refine tK rfl ?_
    exact tR rfl (h1 g3 g4)
  · intro g5 g6
    show zT (zE 1486) (Pt PX11_orders) m1 (60, [((172 : Nat) : Int), x1, x2, x3, x4], [(1, 0)], s) Q
    refine tI1 rfl (fun g _ l => zT_le ?_ (Nat.le_of_lt l)) (fun g _ l => (absurd g (by decide)))
    refine tL ((172 : Nat) : Int) 0 rfl rfl rfl ?_
    refine tK rfl ?_
    refine tPut 172 rfl rfl ?_
    refine tL ((172 : Nat) : Int) 0 rfl rfl rfl ?_
    refine tK rfl ?_
    refine tPut 172 rfl rfl ?_
    refine tK rfl ?_
    refine tS [((172 : Nat) : Int), x1, x2, 0, x4] rfl rfl ?_
    exact zT_le (h2 g5 g6) (Nat.le_trans (Nat.le_of_lt l1) (Nat.le_refl n))

theorem b_X11_orders_30 {n : Nat} {Q : Zr → Prop} (x1 x2 x3 x4 v0 : Int) (s : Zs) 
    (h0 : ∀ (g1 : v0 ≤ 7), ∀ m, m < n → zT (zE 1486) (Pt PX11_orders) m (22, [((172 : Nat) : Int), x1, x2, w32 (x3 + (-1)), x4], [], s) Q)
    (h1 : ∀ (g1 : 7 < v0), ∀ m, m < n → zT (zE 1486) (Pt PX11_orders) m (22, [((172 : Nat) : Int), x1, zand x2 (zxor (zshl 1 x3) (-1)), w32 (x3 + (-1)), x4], [], s) Q) : zT (zE 1486) (Pt PX11_orders) n (30, [((172 : Nat) : Int), x1, x2, x3, x4], [(v0, 0)], s) Q := by
  refine tK rfl ?_
  refine tJ5 rfl (fun g1 _ l1 => zT_le ?_ (Nat.le_of_lt l1)) (fun g1 _ l1 => zT_le ?_ (Nat.le_of_lt l1))
  · refine tInc [((172 : Nat) : Int), x1, x2, w32 (x3 + (-1)), x4] rfl rfl ?_
    exact tGb rfl (fun m2 l2 => h0 g1 m2 (Nat.lt_of_lt_of_le l2 (Nat.le_refl n)))
  · refine tL x2 0 rfl rfl rfl ?_
    refine tK rfl ?_
    refine tL x3 0 rfl rfl rfl ?_
    refine tB (v := zshl 1 x3) rfl rfl ?_
    refine tK rfl ?_
    refine tB (v := zxor (zshl 1 x3) (-1)) rfl rfl ?_
    refine tB (v := zand x2 (zxor (zshl 1 x3) (-1))) rfl rfl ?_
    refine tS [((172 : Nat) : Int), x1, zand x2 (zxor (zshl 1 x3) (-1)), x3, x4] rfl rfl ?_
    refine tInc [((172 : Nat) : Int), x1, zand x2 (zxor (zshl 1 x3) (-1)), w32 (x3 + (-1)), x4] rfl rfl ?_
    exact tGb rfl (fun m2 l2 => h1 g1 m2 (Nat.lt_of_lt_of_le l2 (Nat.le_refl n)))

theorem b_X11_orders_117 {n : Nat} {Q : Zr → Prop} (x1 x2 x3 x4 : Int) (s : Zs) 
    (h0 : zT (zE 1486) (Pt PX11_orders) n (120, [((172 : Nat) : Int), x1, x2, x3, 1], [], s) Q) : zT (zE 1486) (Pt PX11_orders) n (117, [((172 : Nat) : Int), x1, x2, x3, x4], [], s) Q := by
  refine tK rfl ?_
  refine tS [((172 : Nat) : Int), x1, x2, x3, 1] rfl rfl ?_
  exact zT_le (h0) (Nat.le_refl n)

theorem b_X11_orders_164 {n : Nat} {Q : Zr → Prop} (x1 x2 x3 x4 : Int) (s : Zs) 
    (h0 : ∀ m, m < n → zT (zE 1486) (Pt PX11_orders) m (120, [((172 : Nat) : Int), x1, x2, x3, w32 (x4 + 1)], [], s) Q) : zT (zE 1486) (Pt PX11_orders) n (164, [((172 : Nat) : Int), x1, x2, x3, x4], [], s) Q := by
  refine tInc [((172 : Nat) : Int), x1, x2, x3, w32 (x4 + 1)] rfl rfl ?_
  exact tGb rfl (fun m2 l2 => h0 m2 (Nat.lt_of_lt_of_le l2 (Nat.le_refl n)))

theorem c_X11_orders {n : Nat} {Q : Zr → Prop} {a0 a1 : Int} {s : Zs} (h : zT (zE 1486) (Pt PX11_orders) n (0, [a0, a1, 0, 0, 0], [], s) Q) : zC n 1486 [(a0, 0), (a1, 0)] s Q := h

