/-! a town read: the class -/
theorem b_X8_findAbove_0 {n : Nat} {Q : Zr → Prop} {t : Nat} (x1 x2 x3 x4 : Int) (s : Zs) (ht : t = 7 ∨ t = 43)
    (h0 : zT (zE 1030) (Pt PX8_findAbove) n (4, [((t : Nat) : Int), x1, 0, 0, x4], [], s) Q) : zT (zE 1030) (Pt PX8_findAbove) n (0, [((t : Nat) : Int), x1, x2, x3, x4], [], s) Q := by
  refine tK rfl ?_
  refine tS [((t : Nat) : Int), x1, 0, x3, x4] rfl rfl ?_
  refine tK rfl ?_
  refine tS [((t : Nat) : Int), x1, 0, 0, x4] rfl rfl ?_
  exact zT_le (h0) (Nat.le_refl n)

theorem b_X8_findAbove_4 {n : Nat} {Q : Zr → Prop} {t : Nat} (x1 x2 x3 x4 : Int) (s : Zs) (ht : t = 7 ∨ t = 43)
    (h0 : ∀ (g1 : s (t + 1) 1 ≤ x3), Q ([(x2, 0)], s))
    (h1 : ∀ (g1 : x3 < s (t + 1) 1), ∀ (g2 : s (zrho (t + 12) x3.toNat) 0 ≠ s (zrho (t + 12) x1.toNat) 0), ∀ m, m < n → zT (zE 1030) (Pt PX8_findAbove) m (4, [((t : Nat) : Int), x1, x2, w32 (x3 + 1), 0], [], s) Q)
    (h2 : ∀ (g1 : x3 < s (t + 1) 1), ∀ (g2 : s (zrho (t + 12) x3.toNat) 0 = s (zrho (t + 12) x1.toNat) 0), ∀ (g3 : s (zrho (t + 12) x3.toNat) 1 ≤ s (zrho (t + 12) x1.toNat) 1), ∀ m, m < n → zT (zE 1030) (Pt PX8_findAbove) m (4, [((t : Nat) : Int), x1, x2, w32 (x3 + 1), 1], [], s) Q)
    (h3 : ∀ (g1 : x3 < s (t + 1) 1), ∀ (g2 : s (zrho (t + 12) x3.toNat) 0 = s (zrho (t + 12) x1.toNat) 0), ∀ (g3 : s (zrho (t + 12) x1.toNat) 1 < s (zrho (t + 12) x3.toNat) 1), ∀ m, m < n → zT (zE 1030) (Pt PX8_findAbove) m (4, [((t : Nat) : Int), x1, zor x2 (zshl 1 x3), w32 (x3 + 1), 1], [], s) Q) : zT (zE 1030) (Pt PX8_findAbove) n (4, [((t : Nat) : Int), x1, x2, x3, x4], [], s) Q := by
  refine tL x3 0 rfl rfl rfl ?_
  refine tL ((t : Nat) : Int) 0 rfl rfl rfl ?_
  refine tFR (c := t) (t + 1) rfl rfl rfl rfl (zt8_0 ht) ?_
  refine tK rfl ?_
  refine tAv (t + 1) 1 (s (t + 1) 1) 0 rfl rfl rfl (by decide) rfl rfl ?_
  refine tJ3 rfl (fun g1 _ l1 => zT_le ?_ (Nat.le_of_lt l1)) (fun g1 _ l1 => zT_le ?_ (Nat.le_of_lt l1))
  · refine tL x2 0 rfl rfl rfl ?_
    exact tR rfl (h0 g1)
  · refine tL ((t : Nat) : Int) 0 rfl rfl rfl ?_
    refine tFR (c := t) (t + 12) rfl rfl rfl rfl (zt8_1 ht) ?_
    refine tL x3 0 rfl rfl rfl ?_
    refine tAR (zrho (t + 12) x3.toNat) rfl rfl ?_
    refine tK rfl ?_
    refine tAv (zrho (t + 12) x3.toNat) 0 (s (zrho (t + 12) x3.toNat) 0) 0 rfl rfl rfl (by decide) rfl rfl ?_
    refine tL ((t : Nat) : Int) 0 rfl rfl rfl ?_
    refine tFR (c := t) (t + 12) rfl rfl rfl rfl (zt8_1 ht) ?_
    refine tL x1 0 rfl rfl rfl ?_
    refine tAR (zrho (t + 12) x1.toNat) rfl rfl ?_
    refine tK rfl ?_
    refine tAv (zrho (t + 12) x1.toNat) 0 (s (zrho (t + 12) x1.toNat) 0) 0 rfl rfl rfl (by decide) rfl rfl ?_
    refine tJ1 rfl (fun g2 _ l2 => zT_le ?_ (Nat.le_of_lt l2)) (fun g2 _ l2 => zT_le ?_ (Nat.le_of_lt l2))
    · refine tK rfl ?_
      refine tS [((t : Nat) : Int), x1, x2, x3, 0] rfl rfl ?_
      refine tL 0 0 rfl rfl rfl ?_
      refine tI0 rfl (fun g _ l => zT_le ?_ (Nat.le_of_lt l)) (fun g _ l => (absurd g (by decide)))
      refine tInc [((t : Nat) : Int), x1, x2, w32 (x3 + 1), 0] rfl rfl ?_
      exact tGb rfl (fun m2 l2 => h1 g1 g2 m2 (Nat.lt_of_lt_of_le l2 (Nat.le_refl n)))
    · refine tK rfl ?_
      refine tG rfl ?_
      refine tS [((t : Nat) : Int), x1, x2, x3, 1] rfl rfl ?_
      refine tL 1 0 rfl rfl rfl ?_
      refine tI0 rfl (fun g _ l => (absurd g (by decide))) (fun g _ l => zT_le ?_ (Nat.le_of_lt l))
      refine tL ((t : Nat) : Int) 0 rfl rfl rfl ?_
      refine tFR (c := t) (t + 12) rfl rfl rfl rfl (zt8_1 ht) ?_
      refine tL x3 0 rfl rfl rfl ?_
      refine tAR (zrho (t + 12) x3.toNat) rfl rfl ?_
      refine tK rfl ?_
      refine tAv (zrho (t + 12) x3.toNat) 1 (s (zrho (t + 12) x3.toNat) 1) 0 rfl rfl rfl (by decide) rfl rfl ?_
      refine tL ((t : Nat) : Int) 0 rfl rfl rfl ?_
      refine tFR (c := t) (t + 12) rfl rfl rfl rfl (zt8_1 ht) ?_
      refine tL x1 0 rfl rfl rfl ?_
      refine tAR (zrho (t + 12) x1.toNat) rfl rfl ?_
      refine tK rfl ?_
      refine tAv (zrho (t + 12) x1.toNat) 1 (s (zrho (t + 12) x1.toNat) 1) 0 rfl rfl rfl (by decide) rfl rfl ?_
      refine tJ5 rfl (fun g3 _ l3 => zT_le ?_ (Nat.le_of_lt l3)) (fun g3 _ l3 => zT_le ?_ (Nat.le_of_lt l3))
      · refine tInc [((t : Nat) : Int), x1, x2, w32 (x3 + 1), 1] rfl rfl ?_
        exact tGb rfl (fun m2 l2 => h2 g1 g2 g3 m2 (Nat.lt_of_lt_of_le l2 (Nat.le_refl n)))
      · refine tL x2 0 rfl rfl rfl ?_
        refine tK rfl ?_
        refine tL x3 0 rfl rfl rfl ?_
        refine tB (v := zshl 1 x3) rfl rfl ?_
        refine tB (v := zor x2 (zshl 1 x3)) rfl rfl ?_
        refine tS [((t : Nat) : Int), x1, zor x2 (zshl 1 x3), x3, 1] rfl rfl ?_
        refine tInc [((t : Nat) : Int), x1, zor x2 (zshl 1 x3), w32 (x3 + 1), 1] rfl rfl ?_
        exact tGb rfl (fun m2 l2 => h3 g1 g2 g3 m2 (Nat.lt_of_lt_of_le l2 (Nat.le_refl n)))

theorem c_X8_findAbove {n : Nat} {Q : Zr → Prop} {a0 a1 : Int} {s : Zs} (h : zT (zE 1030) (Pt PX8_findAbove) n (0, [a0, a1, 0, 0, 0], [], s) Q) : zC n 1030 [(a0, 0), (a1, 0)] s Q := h

theorem b_J7_fill_53178_0 {n : Nat} {Q : Zr → Prop} {c : Nat} (x1 x2 x3 : Int) (s : Zs) 
    (h0 : zT (zE 1664) (Pt PJ7_fill_53178) n (5, [((c : Nat) : Int), x1, 0, zq_len c], [], s) Q) : zT (zE 1664) (Pt PJ7_fill_53178) n (0, [((c : Nat) : Int), x1, x2, x3], [], s) Q := by
  refine tK rfl ?_
  refine tS [((c : Nat) : Int), x1, 0, x3] rfl rfl ?_
  refine tL ((c : Nat) : Int) 0 rfl rfl rfl ?_
  refine tN (zq_len c) rfl rfl ?_
  refine tS [((c : Nat) : Int), x1, 0, zq_len c] rfl rfl ?_
  exact zT_le (h0) (Nat.le_refl n)

theorem b_J7_fill_53178_5 {n : Nat} {Q : Zr → Prop} {c : Nat} (x1 x2 x3 : Int) (s : Zs) 
    (h0 : ∀ (g1 : x3 ≤ x2), Q ([], s))
    (h1 : ∀ (g1 : x2 < x3), ∀ m, m < n → zT (zE 1664) (Pt PJ7_fill_53178) m (5, [((c : Nat) : Int), x1, w32 (x2 + 1), x3], [], zu s c x2.toNat x1) Q) : zT (zE 1664) (Pt PJ7_fill_53178) n (5, [((c : Nat) : Int), x1, x2, x3], [], s) Q := by
  refine tL x2 0 rfl rfl rfl ?_
  refine tL x3 0 rfl rfl rfl ?_
  refine tJ3 rfl (fun g1 _ l1 => zT_le ?_ (Nat.le_of_lt l1)) (fun g1 _ l1 => zT_le ?_ (Nat.le_of_lt l1))
  · exact tR rfl (h0 g1)
  · refine tL ((c : Nat) : Int) 0 rfl rfl rfl ?_
    refine tL x2 0 rfl rfl rfl ?_
    refine tL x1 0 rfl rfl rfl ?_
    refine tAS c x2.toNat rfl rfl rfl (by decide) ?_
    refine tInc [((c : Nat) : Int), x1, w32 (x2 + 1), x3] rfl rfl ?_
    exact tGb rfl (fun m2 l2 => h1 g1 m2 (Nat.lt_of_lt_of_le l2 (Nat.le_refl n)))

theorem c_J7_fill_53178 {n : Nat} {Q : Zr → Prop} {a0 a1 : Int} {s : Zs} (h : zT (zE 1664) (Pt PJ7_fill_53178) n (0, [a0, a1, 0, 0], [], s) Q) : zC n 1664 [(a0, 0), (a1, 0)] s Q := h

theorem b_J7_fill_d0a16_0 {n : Nat} {Q : Zr → Prop} {c : Nat} (x1 x2 x3 x4 : Int) (s : Zs) 
    (h0 : zT (zE 1665) (Pt PJ7_fill_d0a16) n (6, [((c : Nat) : Int), x1, x2, 0, zq_len c], [], s) Q) : zT (zE 1665) (Pt PJ7_fill_d0a16) n (0, [((c : Nat) : Int), x1, x2, x3, x4], [], s) Q := by
  refine tK rfl ?_
  refine tS [((c : Nat) : Int), x1, x2, 0, x4] rfl rfl ?_
  refine tL ((c : Nat) : Int) 0 rfl rfl rfl ?_
  refine tN (zq_len c) rfl rfl ?_
  refine tS [((c : Nat) : Int), x1, x2, 0, zq_len c] rfl rfl ?_
  exact zT_le (h0) (Nat.le_refl n)

theorem b_J7_fill_d0a16_6 {n : Nat} {Q : Zr → Prop} {c : Nat} (x1 x2 x3 x4 : Int) (s : Zs) 
    (h0 : ∀ (g1 : x4 ≤ x3), Q ([], s))
    (h1 : ∀ (g1 : x3 < x4), ∀ m, m < n → zT (zE 1665) (Pt PJ7_fill_d0a16) m (6, [((c : Nat) : Int), x1, x2, w32 (x3 + 1), x4], [], zu s c x3.toNat x1) Q) : zT (zE 1665) (Pt PJ7_fill_d0a16) n (6, [((c : Nat) : Int), x1, x2, x3, x4], [], s) Q := by
  refine tL x3 0 rfl rfl rfl ?_
  refine tL x4 0 rfl rfl rfl ?_
  refine tJ3 rfl (fun g1 _ l1 => zT_le ?_ (Nat.le_of_lt l1)) (fun g1 _ l1 => zT_le ?_ (Nat.le_of_lt l1))
  · exact tR rfl (h0 g1)
  · refine tL ((c : Nat) : Int) 0 rfl rfl rfl ?_
    refine tL x3 0 rfl rfl rfl ?_
    refine tL x1 1 rfl rfl rfl ?_
    refine tAS c x3.toNat rfl rfl rfl (by decide) ?_
    refine tInc [((c : Nat) : Int), x1, x2, w32 (x3 + 1), x4] rfl rfl ?_
    exact tGb rfl (fun m2 l2 => h1 g1 m2 (Nat.lt_of_lt_of_le l2 (Nat.le_refl n)))

theorem c_J7_fill_d0a16 {n : Nat} {Q : Zr → Prop} {a0 a1 : Int} {s : Zs} (h : zT (zE 1665) (Pt PJ7_fill_d0a16) n (0, [a0, a1, 0, 0, 0], [], s) Q) : zC n 1665 [(a0, 0), (a1, 1)] s Q := h

theorem b_X7_begin_0 {n : Nat} {Q : Zr → Prop} (s : Zs) 
    (h0 : ∀ m, m < n → zC m 910 [(((1 : Nat) : Int), 0)] (zu (zu s 1 1 0) 1 6 0) (fun p => zT (zE 896) (Pt PX7_begin) m (14, [((1 : Nat) : Int)], p.1 ++ [], p.2) Q)) : zT (zE 896) (Pt PX7_begin) n (0, [((1 : Nat) : Int)], [], s) Q := by
  refine tL ((1 : Nat) : Int) 0 rfl rfl rfl ?_
  refine tK rfl ?_
  refine tPut 1 rfl rfl ?_
  refine tL ((1 : Nat) : Int) 0 rfl rfl rfl ?_
  refine tK rfl ?_
  refine tPut 1 rfl rfl ?_
  refine tL ((1 : Nat) : Int) 0 rfl rfl rfl ?_
  exact tCall [(((1 : Nat) : Int), 0)] [] rfl rfl rfl (fun m l => h0 m (Nat.lt_of_lt_of_le l (Nat.le_refl n)))

theorem b_X7_begin_14 {n : Nat} {Q : Zr → Prop} (s : Zs) 
    (h0 : Q ([], s)) : zT (zE 896) (Pt PX7_begin) n (14, [((1 : Nat) : Int)], [], s) Q := by
  exact tR rfl (h0)

theorem c_X7_begin {n : Nat} {Q : Zr → Prop} {a0 : Int} {s : Zs} (h : zT (zE 896) (Pt PX7_begin) n (0, [a0], [], s) Q) : zC n 896 [(a0, 0)] s Q := h

theorem b_X4_clear_0 {n : Nat} {Q : Zr → Prop} {u : Nat} (s : Zs) (hu : u = 36 ∨ u = 72)
    (h0 : Q ([], zu s u 1 0)) : zT (zE 514) (Pt PX4_clear) n (0, [((u : Nat) : Int)], [], s) Q := by
  refine tL ((u : Nat) : Int) 0 rfl rfl rfl ?_
  refine tK rfl ?_
  refine tPut u rfl rfl ?_
  exact tR rfl (h0)

theorem c_X4_clear {n : Nat} {Q : Zr → Prop} {a0 : Int} {s : Zs} (h : zT (zE 514) (Pt PX4_clear) n (0, [a0], [], s) Q) : zC n 514 [(a0, 0)] s Q := h

theorem b_X4_isTold_0 {n : Nat} {Q : Zr → Prop} {u : Nat} (s : Zs) (hu : u = 36 ∨ u = 72)
    (h0 : ∀ (g1 : s u 1 ≤ 0), Q ([(0, 0)], s))
    (h1 : ∀ (g1 : 0 < s u 1), Q ([(1, 0)], s)) : zT (zE 516) (Pt PX4_isTold) n (0, [((u : Nat) : Int)], [], s) Q := by
  refine tL ((u : Nat) : Int) 0 rfl rfl rfl ?_
  refine tFv (c := u) (s u 1) 0 rfl rfl rfl rfl rfl ?_
  refine tI5 rfl (fun g1 _ l1 => zT_le ?_ (Nat.le_of_lt l1)) (fun g1 _ l1 => zT_le ?_ (Nat.le_of_lt l1))
  · refine tK rfl ?_
    exact tR rfl (h0 g1)
  · refine tK rfl ?_
    refine tG rfl ?_
    exact tR rfl (h1 g1)

theorem c_X4_isTold {n : Nat} {Q : Zr → Prop} {a0 : Int} {s : Zs} (h : zT (zE 516) (Pt PX4_isTold) n (0, [a0], [], s) Q) : zC n 516 [(a0, 0)] s Q := h

theorem b_X4_beHigh_0 {n : Nat} {Q : Zr → Prop} {u : Nat} (s : Zs) (hu : u = 36 ∨ u = 72)
    (h0 : ∀ m, m < n → zC m 512 [(((u : Nat) : Int), 0), ((-1), 0)] (zu s u 1 0) (fun p => zT (zE 513) (Pt PX4_beHigh) m (10, [((u : Nat) : Int)], p.1 ++ [], p.2) Q)) : zT (zE 513) (Pt PX4_beHigh) n (0, [((u : Nat) : Int)], [], s) Q := by
  refine tL ((u : Nat) : Int) 0 rfl rfl rfl ?_
  refine tK rfl ?_
  refine tPut u rfl rfl ?_
  refine tL ((u : Nat) : Int) 0 rfl rfl rfl ?_
  refine tK rfl ?_
  exact tCall [(((u : Nat) : Int), 0), ((-1), 0)] [] rfl rfl rfl (fun m l => h0 m (Nat.lt_of_lt_of_le l (Nat.le_refl n)))

theorem b_X4_beHigh_10 {n : Nat} {Q : Zr → Prop} {u : Nat} (s : Zs) (hu : u = 36 ∨ u = 72)
    (h0 : Q ([], s)) : zT (zE 513) (Pt PX4_beHigh) n (10, [((u : Nat) : Int)], [], s) Q := by
  exact tR rfl (h0)

theorem c_X4_beHigh {n : Nat} {Q : Zr → Prop} {a0 : Int} {s : Zs} (h : zT (zE 513) (Pt PX4_beHigh) n (0, [a0], [], s) Q) : zC n 513 [(a0, 0)] s Q := h

theorem b_X8_clear_0 {n : Nat} {Q : Zr → Prop} {t : Nat} (s : Zs) (ht : t = 7 ∨ t = 43)
    (h0 : ∀ m, m < n → zC m 1664 [((((t + 1) : Nat) : Int), 0), (0, 0)] s (fun p => zT (zE 1027) (Pt PX8_clear) m (8, [((t : Nat) : Int)], p.1 ++ [], p.2) Q)) : zT (zE 1027) (Pt PX8_clear) n (0, [((t : Nat) : Int)], [], s) Q := by
  refine tL ((t : Nat) : Int) 0 rfl rfl rfl ?_
  refine tFR (c := t) (t + 1) rfl rfl rfl rfl (zt8_0 ht) ?_
  refine tK rfl ?_
  exact tCall [((((t + 1) : Nat) : Int), 0), (0, 0)] [] rfl rfl rfl (fun m l => h0 m (Nat.lt_of_lt_of_le l (Nat.le_refl n)))

theorem b_X8_clear_8 {n : Nat} {Q : Zr → Prop} {t : Nat} (s : Zs) (ht : t = 7 ∨ t = 43)
    (h0 : ∀ m, m < n → zC m 1665 [((((t + 32) : Nat) : Int), 0), (0, 1)] s (fun p => zT (zE 1027) (Pt PX8_clear) m (16, [((t : Nat) : Int)], p.1 ++ [], p.2) Q)) : zT (zE 1027) (Pt PX8_clear) n (8, [((t : Nat) : Int)], [], s) Q := by
  refine tL ((t : Nat) : Int) 0 rfl rfl rfl ?_
  refine tFR (c := t) (t + 32) rfl rfl rfl rfl (zt8_8 ht) ?_
  refine tKL rfl ?_
  exact tCall [((((t + 32) : Nat) : Int), 0), (0, 1)] [] rfl rfl rfl (fun m l => h0 m (Nat.lt_of_lt_of_le l (Nat.le_refl n)))

theorem b_X8_clear_16 {n : Nat} {Q : Zr → Prop} {t : Nat} (s : Zs) (ht : t = 7 ∨ t = 43)
    (h0 : ∀ m, m < n → zC m 1664 [((((t + 34) : Nat) : Int), 0), ((-1), 0)] s (fun p => zT (zE 1027) (Pt PX8_clear) m (24, [((t : Nat) : Int)], p.1 ++ [], p.2) Q)) : zT (zE 1027) (Pt PX8_clear) n (16, [((t : Nat) : Int)], [], s) Q := by
  refine tL ((t : Nat) : Int) 0 rfl rfl rfl ?_
  refine tFR (c := t) (t + 34) rfl rfl rfl rfl (zt8_10 ht) ?_
  refine tK rfl ?_
  exact tCall [((((t + 34) : Nat) : Int), 0), ((-1), 0)] [] rfl rfl rfl (fun m l => h0 m (Nat.lt_of_lt_of_le l (Nat.le_refl n)))

theorem b_X8_clear_24 {n : Nat} {Q : Zr → Prop} {t : Nat} (s : Zs) (ht : t = 7 ∨ t = 43)
    (h0 : ∀ m, m < n → zC m 514 [((((t + 29) : Nat) : Int), 0)] (zu (zu s t 5 (-1)) t 6 (-1)) (fun p => zT (zE 1027) (Pt PX8_clear) m (41, [((t : Nat) : Int)], p.1 ++ [], p.2) Q)) : zT (zE 1027) (Pt PX8_clear) n (24, [((t : Nat) : Int)], [], s) Q := by
  refine tL ((t : Nat) : Int) 0 rfl rfl rfl ?_
  refine tK rfl ?_
  refine tPut t rfl rfl ?_
  refine tL ((t : Nat) : Int) 0 rfl rfl rfl ?_
  refine tK rfl ?_
  refine tPut t rfl rfl ?_
  refine tL ((t : Nat) : Int) 0 rfl rfl rfl ?_
  refine tFR (c := t) (t + 29) rfl rfl rfl rfl (zt8_7 ht) ?_
  exact tCall [((((t + 29) : Nat) : Int), 0)] [] rfl rfl rfl (fun m l => h0 m (Nat.lt_of_lt_of_le l (Nat.le_refl n)))

theorem b_X8_clear_41 {n : Nat} {Q : Zr → Prop} {t : Nat} (s : Zs) (ht : t = 7 ∨ t = 43)
    (h0 : Q ([], s)) : zT (zE 1027) (Pt PX8_clear) n (41, [((t : Nat) : Int)], [], s) Q := by
  exact tR rfl (h0)

theorem c_X8_clear {n : Nat} {Q : Zr → Prop} {a0 : Int} {s : Zs} (h : zT (zE 1027) (Pt PX8_clear) n (0, [a0], [], s) Q) : zC n 1027 [(a0, 0)] s Q := h

theorem b_X8_close_0 {n : Nat} {Q : Zr → Prop} {t : Nat} (x1 : Int) (s : Zs) (ht : t = 7 ∨ t = 43)
    (h0 : ∀ (g1 : s t 5 ≠ (-1)), ∀ (g2 : s t 6 ≠ (-1)), ∀ m, m < n → zC m 516 [((((t + 29) : Nat) : Int), 0)] s (fun p => zT (zE 1028) (Pt PX8_close) m (33, [((t : Nat) : Int), x1], p.1 ++ [], p.2) Q))
    (h1 : ∀ (g1 : s t 5 ≠ (-1)), ∀ (g2 : s t 6 = (-1)), ∀ m, m < n → zC m 516 [((((t + 29) : Nat) : Int), 0)] (zu s t 6 5) (fun p => zT (zE 1028) (Pt PX8_close) m (33, [((t : Nat) : Int), x1], p.1 ++ [], p.2) Q))
    (h2 : ∀ (g1 : s t 5 = (-1)), ∀ (g5 : (zu s t 5 0) t 6 ≠ (-1)), ∀ m, m < n → zC m 516 [((((t + 29) : Nat) : Int), 0)] (zu s t 5 0) (fun p => zT (zE 1028) (Pt PX8_close) m (33, [((t : Nat) : Int), x1], p.1 ++ [], p.2) Q))
    (h3 : ∀ (g1 : s t 5 = (-1)), ∀ (g5 : (zu s t 5 0) t 6 = (-1)), ∀ m, m < n → zC m 516 [((((t + 29) : Nat) : Int), 0)] (zu (zu s t 5 0) t 6 5) (fun p => zT (zE 1028) (Pt PX8_close) m (33, [((t : Nat) : Int), x1], p.1 ++ [], p.2) Q)) : zT (zE 1028) (Pt PX8_close) n (0, [((t : Nat) : Int), x1], [], s) Q := by
  refine tL ((t : Nat) : Int) 0 rfl rfl rfl ?_
  refine tFv (c := t) (s t 5) 0 rfl rfl rfl rfl rfl ?_
  refine tK rfl ?_
  refine tJ1 rfl (fun g1 _ l1 => zT_le ?_ (Nat.le_of_lt l1)) (fun g1 _ l1 => zT_le ?_ (Nat.le_of_lt l1))
  · refine tL ((t : Nat) : Int) 0 rfl rfl rfl ?_
    refine tFv (c := t) (s t 6) 0 rfl rfl rfl rfl rfl ?_
    refine tK rfl ?_
    refine tJ1 rfl (fun g2 _ l2 => zT_le ?_ (Nat.le_of_lt l2)) (fun g2 _ l2 => zT_le ?_ (Nat.le_of_lt l2))
    · refine tL ((t : Nat) : Int) 0 rfl rfl rfl ?_
      refine tFR (c := t) (t + 29) rfl rfl rfl rfl (zt8_7 ht) ?_
      exact tCall [((((t + 29) : Nat) : Int), 0)] [] rfl rfl rfl (fun m l => h0 g1 g2 m (Nat.lt_of_lt_of_le l (Nat.le_refl n)))
    · refine tL ((t : Nat) : Int) 0 rfl rfl rfl ?_
      refine tK rfl ?_
      refine tPut t rfl rfl ?_
      refine tL ((t : Nat) : Int) 0 rfl rfl rfl ?_
      refine tFR (c := t) (t + 29) rfl rfl rfl rfl (zt8_7 ht) ?_
      exact tCall [((((t + 29) : Nat) : Int), 0)] [] rfl rfl rfl (fun m l => h1 g1 g2 m (Nat.lt_of_lt_of_le l (Nat.le_refl n)))
  · refine tL ((t : Nat) : Int) 0 rfl rfl rfl ?_
    refine tK rfl ?_
    refine tPut t rfl rfl ?_
    refine tL ((t : Nat) : Int) 0 rfl rfl rfl ?_
    refine tFv (c := t) ((zu s t 5 0) t 6) 0 rfl rfl rfl rfl rfl ?_
    refine tK rfl ?_
    refine tJ1 rfl (fun g5 _ l5 => zT_le ?_ (Nat.le_of_lt l5)) (fun g5 _ l5 => zT_le ?_ (Nat.le_of_lt l5))
    · refine tL ((t : Nat) : Int) 0 rfl rfl rfl ?_
      refine tFR (c := t) (t + 29) rfl rfl rfl rfl (zt8_7 ht) ?_
      exact tCall [((((t + 29) : Nat) : Int), 0)] [] rfl rfl rfl (fun m l => h2 g1 g5 m (Nat.lt_of_lt_of_le l (Nat.le_refl n)))
    · refine tL ((t : Nat) : Int) 0 rfl rfl rfl ?_
      refine tK rfl ?_
      refine tPut t rfl rfl ?_
      refine tL ((t : Nat) : Int) 0 rfl rfl rfl ?_
      refine tFR (c := t) (t + 29) rfl rfl rfl rfl (zt8_7 ht) ?_
      exact tCall [((((t + 29) : Nat) : Int), 0)] [] rfl rfl rfl (fun m l => h3 g1 g5 m (Nat.lt_of_lt_of_le l (Nat.le_refl n)))

theorem b_X8_close_45 {n : Nat} {Q : Zr → Prop} {t : Nat} (x1 : Int) (s : Zs) (ht : t = 7 ∨ t = 43)
    (h0 : ∀ (g1 : s (t + 1) 1 ≤ x1), Q ([], s))
    (h1 : ∀ (g1 : x1 < s (t + 1) 1), ∀ m, m < n → zC m 1030 [(((t : Nat) : Int), 0), (x1, 0)] s (fun p => zT (zE 1028) (Pt PX8_close) m (65, [((t : Nat) : Int), x1], p.1 ++ [(x1, 0), ((((t + 35) : Nat) : Int), 0)], p.2) Q)) : zT (zE 1028) (Pt PX8_close) n (45, [((t : Nat) : Int), x1], [], s) Q := by
  refine tL x1 0 rfl rfl rfl ?_
  refine tL ((t : Nat) : Int) 0 rfl rfl rfl ?_
  refine tFR (c := t) (t + 1) rfl rfl rfl rfl (zt8_0 ht) ?_
  refine tK rfl ?_
  refine tAv (t + 1) 1 (s (t + 1) 1) 0 rfl rfl rfl (by decide) rfl rfl ?_
  refine tJ3 rfl (fun g1 _ l1 => zT_le ?_ (Nat.le_of_lt l1)) (fun g1 _ l1 => zT_le ?_ (Nat.le_of_lt l1))
  · exact tR rfl (h0 g1)
  · refine tL ((t : Nat) : Int) 0 rfl rfl rfl ?_
    refine tFR (c := t) (t + 35) rfl rfl rfl rfl (zt8_11 ht) ?_
    refine tL x1 0 rfl rfl rfl ?_
    refine tL ((t : Nat) : Int) 0 rfl rfl rfl ?_
    refine tL x1 0 rfl rfl rfl ?_
    exact tCall [(((t : Nat) : Int), 0), (x1, 0)] [(x1, 0), ((((t + 35) : Nat) : Int), 0)] rfl rfl rfl (fun m l => h1 g1 m (Nat.lt_of_lt_of_le l (Nat.le_refl n)))

theorem b_X8_close_33 {n : Nat} {Q : Zr → Prop} {t : Nat} (x1 v0 : Int) (s : Zs) (ht : t = 7 ∨ t = 43)
    (h0 : ∀ (g1 : v0 ≠ 0), zT (zE 1028) (Pt PX8_close) n (45, [((t : Nat) : Int), 0], [], s) Q)
    (h1 : ∀ (g1 : v0 = 0), ∀ m, m < n → zC m 513 [((((t + 29) : Nat) : Int), 0)] s (fun p => zT (zE 1028) (Pt PX8_close) m (43, [((t : Nat) : Int), x1], p.1 ++ [], p.2) Q)) : zT (zE 1028) (Pt PX8_close) n (33, [((t : Nat) : Int), x1], [(v0, 0)], s) Q := by
  refine tI1 rfl (fun g1 _ l1 => zT_le ?_ (Nat.le_of_lt l1)) (fun g1 _ l1 => zT_le ?_ (Nat.le_of_lt l1))
  · refine tK rfl ?_
    refine tS [((t : Nat) : Int), 0] rfl rfl ?_
    exact zT_le (h0 g1) (Nat.le_refl n)
  · refine tL ((t : Nat) : Int) 0 rfl rfl rfl ?_
    refine tFR (c := t) (t + 29) rfl rfl rfl rfl (zt8_7 ht) ?_
    exact tCall [((((t + 29) : Nat) : Int), 0)] [] rfl rfl rfl (fun m l => h1 g1 m (Nat.lt_of_lt_of_le l (Nat.le_refl n)))

theorem b_X8_close_65 {n : Nat} {Q : Zr → Prop} {t : Nat} (x1 v0 y0 : Int) (s : Zs) (ht : t = 7 ∨ t = 43)
    (h0 : ∀ m, m < n → zT (zE 1028) (Pt PX8_close) m (45, [((t : Nat) : Int), w32 (x1 + 1)], [], zu s (t + 35) y0.toNat v0) Q) : zT (zE 1028) (Pt PX8_close) n (65, [((t : Nat) : Int), x1], [(v0, 0), (y0, 0), ((((t + 35) : Nat) : Int), 0)], s) Q := by
  refine tAS (t + 35) y0.toNat rfl rfl rfl (by decide) ?_
  refine tInc [((t : Nat) : Int), w32 (x1 + 1)] rfl rfl ?_
  exact tGb rfl (fun m2 l2 => h0 m2 (Nat.lt_of_lt_of_le l2 (Nat.le_refl n)))

theorem b_X8_close_43 {n : Nat} {Q : Zr → Prop} {t : Nat} (x1 : Int) (s : Zs) (ht : t = 7 ∨ t = 43)
    (h0 : zT (zE 1028) (Pt PX8_close) n (45, [((t : Nat) : Int), 0], [], s) Q) : zT (zE 1028) (Pt PX8_close) n (43, [((t : Nat) : Int), x1], [], s) Q := by
  refine tK rfl ?_
  refine tS [((t : Nat) : Int), 0] rfl rfl ?_
  exact zT_le (h0) (Nat.le_refl n)

theorem c_X8_close {n : Nat} {Q : Zr → Prop} {a0 : Int} {s : Zs} (h : zT (zE 1028) (Pt PX8_close) n (0, [a0, 0], [], s) Q) : zC n 1028 [(a0, 0)] s Q := h

theorem b_X9_read_0 {n : Nat} {Q : Zr → Prop} {t : Nat} (x2 : Int) (s : Zs) (ht : t = 7 ∨ t = 43)
    (h0 : ∀ m, m < n → zC m 1027 [(((t : Nat) : Int), 0)] s (fun p => zT (zE 1153) (Pt PX9_read) m (4, [((4 : Nat) : Int), ((t : Nat) : Int), x2], p.1 ++ [], p.2) Q)) : zT (zE 1153) (Pt PX9_read) n (0, [((4 : Nat) : Int), ((t : Nat) : Int), x2], [], s) Q := by
  refine tL ((t : Nat) : Int) 0 rfl rfl rfl ?_
  exact tCall [(((t : Nat) : Int), 0)] [] rfl rfl rfl (fun m l => h0 m (Nat.lt_of_lt_of_le l (Nat.le_refl n)))

theorem b_X9_read_13 {n : Nat} {Q : Zr → Prop} {t : Nat} (x2 : Int) (s : Zs) (ht : t = 7 ∨ t = 43)
    (h0 : ∀ (g1 : 1000 ≤ x2), ∀ m, m < n → zC m 1028 [(((t : Nat) : Int), 0)] s (fun p => zT (zE 1153) (Pt PX9_read) m (301, [((4 : Nat) : Int), ((t : Nat) : Int), x2], p.1 ++ [], p.2) Q))
    (h1 : ∀ (g1 : x2 < 1000), ∀ (g4 : s 1 1 ≠ 0), ∀ m, m < n → zC m 1028 [(((t : Nat) : Int), 0)] s (fun p => zT (zE 1153) (Pt PX9_read) m (301, [((4 : Nat) : Int), ((t : Nat) : Int), x2], p.1 ++ [], p.2) Q))
    (h2 : ∀ (g1 : x2 < 1000), ∀ (g6 : s 1 1 = 0), ∀ (g7 : s 1 4 = 1), ∀ m, m < n → zC m 1028 [(((t : Nat) : Int), 0)] s (fun p => zT (zE 1153) (Pt PX9_read) m (301, [((4 : Nat) : Int), ((t : Nat) : Int), x2], p.1 ++ [], p.2) Q))
    (h3 : ∀ (g1 : x2 < 1000), ∀ (g9 : s 1 1 = 0), ∀ (g10 : s 1 4 ≠ 1), ∀ (g14 : s 1 4 ≠ 2), ∀ m, m < n → zC m 899 [(((1 : Nat) : Int), 0), (1, 0)] s (fun p => zT (zE 1153) (Pt PX9_read) m (291, [((4 : Nat) : Int), ((t : Nat) : Int), x2], p.1 ++ [], p.2) Q))
    (h4 : ∀ (g1 : x2 < 1000), ∀ (g9 : s 1 1 = 0), ∀ (g10 : s 1 4 ≠ 1), ∀ (g18 : s 1 4 = 2), ∀ (g19_0 : s 1 8 = 0), ∀ m, m < n → zC m 1156 [(((4 : Nat) : Int), 0), (((t : Nat) : Int), 0)] s (fun p => zT (zE 1153) (Pt PX9_read) m (125, [((4 : Nat) : Int), ((t : Nat) : Int), x2], p.1 ++ [], p.2) Q))
    (h5 : ∀ (g1 : x2 < 1000), ∀ (g9 : s 1 1 = 0), ∀ (g10 : s 1 4 ≠ 1), ∀ (g18 : s 1 4 = 2), ∀ (g19_1 : s 1 8 = 1), ∀ m, m < n → zC m 899 [(((1 : Nat) : Int), 0), (1, 0)] s (fun p => zT (zE 1153) (Pt PX9_read) m (291, [((4 : Nat) : Int), ((t : Nat) : Int), x2], p.1 ++ [], p.2) Q))
    (h6 : ∀ (g1 : x2 < 1000), ∀ (g9 : s 1 1 = 0), ∀ (g10 : s 1 4 ≠ 1), ∀ (g18 : s 1 4 = 2), ∀ (g19_2 : s 1 8 = 2), ∀ m, m < n → zC m 1154 [(((4 : Nat) : Int), 0), (((t : Nat) : Int), 0)] s (fun p => zT (zE 1153) (Pt PX9_read) m (133, [((4 : Nat) : Int), ((t : Nat) : Int), x2], p.1 ++ [], p.2) Q))
    (h7 : ∀ (g1 : x2 < 1000), ∀ (g9 : s 1 1 = 0), ∀ (g10 : s 1 4 ≠ 1), ∀ (g18 : s 1 4 = 2), ∀ (g19_3 : s 1 8 = 3), ∀ m, m < n → zC m 899 [(((1 : Nat) : Int), 0), (1, 0)] s (fun p => zT (zE 1153) (Pt PX9_read) m (291, [((4 : Nat) : Int), ((t : Nat) : Int), x2], p.1 ++ [], p.2) Q))
    (h8 : ∀ (g1 : x2 < 1000), ∀ (g9 : s 1 1 = 0), ∀ (g10 : s 1 4 ≠ 1), ∀ (g18 : s 1 4 = 2), ∀ (g19_4 : s 1 8 = 4), ∀ m, m < n → zC m 899 [(((1 : Nat) : Int), 0), (1, 0)] s (fun p => zT (zE 1153) (Pt PX9_read) m (291, [((4 : Nat) : Int), ((t : Nat) : Int), x2], p.1 ++ [], p.2) Q))
    (h9 : ∀ (g1 : x2 < 1000), ∀ (g9 : s 1 1 = 0), ∀ (g10 : s 1 4 ≠ 1), ∀ (g18 : s 1 4 = 2), ∀ (g19_5 : s 1 8 = 5), ∀ m, m < n → zC m 1158 [(((4 : Nat) : Int), 0), (((t : Nat) : Int), 0)] s (fun p => zT (zE 1153) (Pt PX9_read) m (141, [((4 : Nat) : Int), ((t : Nat) : Int), x2], p.1 ++ [], p.2) Q))
    (h10 : ∀ (g1 : x2 < 1000), ∀ (g9 : s 1 1 = 0), ∀ (g10 : s 1 4 ≠ 1), ∀ (g18 : s 1 4 = 2), ∀ (g19_6 : s 1 8 = 6), ∀ m, m < n → zC m 899 [(((1 : Nat) : Int), 0), (1, 0)] s (fun p => zT (zE 1153) (Pt PX9_read) m (291, [((4 : Nat) : Int), ((t : Nat) : Int), x2], p.1 ++ [], p.2) Q))
    (h11 : ∀ (g1 : x2 < 1000), ∀ (g9 : s 1 1 = 0), ∀ (g10 : s 1 4 ≠ 1), ∀ (g18 : s 1 4 = 2), ∀ (g19_7 : s 1 8 = 7), ∀ m, m < n → zC m 899 [(((1 : Nat) : Int), 0), (1, 0)] s (fun p => zT (zE 1153) (Pt PX9_read) m (291, [((4 : Nat) : Int), ((t : Nat) : Int), x2], p.1 ++ [], p.2) Q))
    (h12 : ∀ (g1 : x2 < 1000), ∀ (g9 : s 1 1 = 0), ∀ (g10 : s 1 4 ≠ 1), ∀ (g18 : s 1 4 = 2), ∀ (g19_8 : s 1 8 = 8), ∀ m, m < n → zC m 1157 [(((4 : Nat) : Int), 0), (((t : Nat) : Int), 0)] s (fun p => zT (zE 1153) (Pt PX9_read) m (149, [((4 : Nat) : Int), ((t : Nat) : Int), x2], p.1 ++ [], p.2) Q))
    (h13 : ∀ (g1 : x2 < 1000), ∀ (g9 : s 1 1 = 0), ∀ (g10 : s 1 4 ≠ 1), ∀ (g18 : s 1 4 = 2), ∀ (g19_9 : s 1 8 = 9), ∀ m, m < n → zC m 899 [(((1 : Nat) : Int), 0), (1, 0)] s (fun p => zT (zE 1153) (Pt PX9_read) m (291, [((4 : Nat) : Int), ((t : Nat) : Int), x2], p.1 ++ [], p.2) Q))
    (h14 : ∀ (g1 : x2 < 1000), ∀ (g9 : s 1 1 = 0), ∀ (g10 : s 1 4 ≠ 1), ∀ (g18 : s 1 4 = 2), ∀ (g19_10 : s 1 8 = 10), ∀ m, m < n → zC m 899 [(((1 : Nat) : Int), 0), (1, 0)] s (fun p => zT (zE 1153) (Pt PX9_read) m (291, [((4 : Nat) : Int), ((t : Nat) : Int), x2], p.1 ++ [], p.2) Q))
    (h15 : ∀ (g1 : x2 < 1000), ∀ (g9 : s 1 1 = 0), ∀ (g10 : s 1 4 ≠ 1), ∀ (g18 : s 1 4 = 2), ∀ (g19_11 : s 1 8 = 11), ∀ m, m < n → zC m 899 [(((1 : Nat) : Int), 0), (1, 0)] s (fun p => zT (zE 1153) (Pt PX9_read) m (291, [((4 : Nat) : Int), ((t : Nat) : Int), x2], p.1 ++ [], p.2) Q))
    (h16 : ∀ (g1 : x2 < 1000), ∀ (g9 : s 1 1 = 0), ∀ (g10 : s 1 4 ≠ 1), ∀ (g18 : s 1 4 = 2), ∀ (g19_12 : s 1 8 = 12), ∀ m, m < n → zC m 1155 [(((4 : Nat) : Int), 0), (((t : Nat) : Int), 0)] s (fun p => zT (zE 1153) (Pt PX9_read) m (157, [((4 : Nat) : Int), ((t : Nat) : Int), x2], p.1 ++ [], p.2) Q))
    (h17 : ∀ (g1 : x2 < 1000), ∀ (g9 : s 1 1 = 0), ∀ (g10 : s 1 4 ≠ 1), ∀ (g18 : s 1 4 = 2), ∀ (g19_13 : s 1 8 = 13), ∀ m, m < n → zC m 899 [(((1 : Nat) : Int), 0), (1, 0)] s (fun p => zT (zE 1153) (Pt PX9_read) m (291, [((4 : Nat) : Int), ((t : Nat) : Int), x2], p.1 ++ [], p.2) Q))
    (h18 : ∀ (g1 : x2 < 1000), ∀ (g9 : s 1 1 = 0), ∀ (g10 : s 1 4 ≠ 1), ∀ (g18 : s 1 4 = 2), ∀ (g19_14 : s 1 8 = 14), ∀ (g34 : s t 5 = (-1)), ∀ m, m < n → zC m 1161 [(((4 : Nat) : Int), 0), (0, 0)] s (fun p => zT (zE 1153) (Pt PX9_read) m (177, [((4 : Nat) : Int), ((t : Nat) : Int), x2], p.1 ++ [], p.2) Q))
    (h19 : ∀ (g1 : x2 < 1000), ∀ (g9 : s 1 1 = 0), ∀ (g10 : s 1 4 ≠ 1), ∀ (g18 : s 1 4 = 2), ∀ (g19_14 : s 1 8 = 14), ∀ (g34 : s t 5 ≠ (-1)), ∀ m, m < n → zC m 1161 [(((4 : Nat) : Int), 0), (1, 0)] s (fun p => zT (zE 1153) (Pt PX9_read) m (177, [((4 : Nat) : Int), ((t : Nat) : Int), x2], p.1 ++ [], p.2) Q))
    (h20 : ∀ (g1 : x2 < 1000), ∀ (g9 : s 1 1 = 0), ∀ (g10 : s 1 4 ≠ 1), ∀ (g18 : s 1 4 = 2), ∀ (g19_15 : s 1 8 = 15), ∀ (g37 : s t 6 = (-1)), ∀ m, m < n → zC m 1161 [(((4 : Nat) : Int), 0), (0, 0)] s (fun p => zT (zE 1153) (Pt PX9_read) m (221, [((4 : Nat) : Int), ((t : Nat) : Int), x2], p.1 ++ [], p.2) Q))
    (h21 : ∀ (g1 : x2 < 1000), ∀ (g9 : s 1 1 = 0), ∀ (g10 : s 1 4 ≠ 1), ∀ (g18 : s 1 4 = 2), ∀ (g19_15 : s 1 8 = 15), ∀ (g37 : s t 6 ≠ (-1)), ∀ m, m < n → zC m 1161 [(((4 : Nat) : Int), 0), (1, 0)] s (fun p => zT (zE 1153) (Pt PX9_read) m (221, [((4 : Nat) : Int), ((t : Nat) : Int), x2], p.1 ++ [], p.2) Q))
    (h22 : ∀ (g1 : x2 < 1000), ∀ (g9 : s 1 1 = 0), ∀ (g10 : s 1 4 ≠ 1), ∀ (g18 : s 1 4 = 2), ∀ (g19_16 : s 1 8 = 16), ∀ m, m < n → zC m 516 [((((t + 29) : Nat) : Int), 0)] s (fun p => zT (zE 1153) (Pt PX9_read) m (255, [((4 : Nat) : Int), ((t : Nat) : Int), x2], p.1 ++ [(((4 : Nat) : Int), 0)], p.2) Q))
    (h23 : ∀ (g1 : x2 < 1000), ∀ (g9 : s 1 1 = 0), ∀ (g10 : s 1 4 ≠ 1), ∀ (g18 : s 1 4 = 2), ∀ (g19_0 : ¬ s 1 8 = 0), ∀ (g19_1 : ¬ s 1 8 = 1), ∀ (g19_2 : ¬ s 1 8 = 2), ∀ (g19_3 : ¬ s 1 8 = 3), ∀ (g19_4 : ¬ s 1 8 = 4), ∀ (g19_5 : ¬ s 1 8 = 5), ∀ (g19_6 : ¬ s 1 8 = 6), ∀ (g19_7 : ¬ s 1 8 = 7), ∀ (g19_8 : ¬ s 1 8 = 8), ∀ (g19_9 : ¬ s 1 8 = 9), ∀ (g19_10 : ¬ s 1 8 = 10), ∀ (g19_11 : ¬ s 1 8 = 11), ∀ (g19_12 : ¬ s 1 8 = 12), ∀ (g19_13 : ¬ s 1 8 = 13), ∀ (g19_14 : ¬ s 1 8 = 14), ∀ (g19_15 : ¬ s 1 8 = 15), ∀ (g19_16 : ¬ s 1 8 = 16), ∀ m, m < n → zC m 899 [(((1 : Nat) : Int), 0), (1, 0)] s (fun p => zT (zE 1153) (Pt PX9_read) m (291, [((4 : Nat) : Int), ((t : Nat) : Int), x2], p.1 ++ [], p.2) Q)) : zT (zE 1153) (Pt PX9_read) n (13, [((4 : Nat) : Int), ((t : Nat) : Int), x2], [], s) Q := by
  refine tL x2 0 rfl rfl rfl ?_
  refine tK rfl ?_
  refine tJ3 rfl (fun g1 _ l1 => zT_le ?_ (Nat.le_of_lt l1)) (fun g1 _ l1 => zT_le ?_ (Nat.le_of_lt l1))
  · refine tL ((t : Nat) : Int) 0 rfl rfl rfl ?_
    exact tCall [(((t : Nat) : Int), 0)] [] rfl rfl rfl (fun m l => h0 g1 m (Nat.lt_of_lt_of_le l (Nat.le_refl n)))
  · refine tL ((4 : Nat) : Int) 0 rfl rfl rfl ?_
    refine tFR (c := 4) 1 rfl rfl rfl rfl rfl ?_
    refine tCall [(((1 : Nat) : Int), 0)] [] rfl rfl rfl (fun m3 l3 => c_X7_hasMore (b_X7_hasMore_0  s ?_ ?_ ?_))
    · intro g4
      show zT (zE 1153) (Pt PX9_read) m3 (27, [((4 : Nat) : Int), ((t : Nat) : Int), x2], [(0, 0)], s) Q
      refine tI0 rfl (fun g _ l => zT_le ?_ (Nat.le_of_lt l)) (fun g _ l => (absurd g (by decide)))
      refine tL ((t : Nat) : Int) 0 rfl rfl rfl ?_
      exact tCall [(((t : Nat) : Int), 0)] [] rfl rfl rfl (fun m l => h1 g1 g4 m (Nat.lt_of_lt_of_le l (Nat.le_trans (Nat.le_of_lt l3) (Nat.le_refl n))))
    · intro g6 g7
      show zT (zE 1153) (Pt PX9_read) m3 (27, [((4 : Nat) : Int), ((t : Nat) : Int), x2], [(0, 0)], s) Q
      refine tI0 rfl (fun g _ l => zT_le ?_ (Nat.le_of_lt l)) (fun g _ l => (absurd g (by decide)))
      refine tL ((t : Nat) : Int) 0 rfl rfl rfl ?_
      exact tCall [(((t : Nat) : Int), 0)] [] rfl rfl rfl (fun m l => h2 g1 g6 g7 m (Nat.lt_of_lt_of_le l (Nat.le_trans (Nat.le_of_lt l3) (Nat.le_refl n))))
    · intro g9 g10
      show zT (zE 1153) (Pt PX9_read) m3 (27, [((4 : Nat) : Int), ((t : Nat) : Int), x2], [(1, 0)], s) Q
      refine tI0 rfl (fun g _ l => (absurd g (by decide))) (fun g _ l => zT_le ?_ (Nat.le_of_lt l))
      refine tL ((4 : Nat) : Int) 0 rfl rfl rfl ?_
      refine tFR (c := 4) 1 rfl rfl rfl rfl rfl ?_
      refine tCall [(((1 : Nat) : Int), 0)] [] rfl rfl rfl (fun m11 l11 => c_X7_keyHere (b_X7_keyHere_0  s ?_ ?_ ?_))
      · exact fun (g12 : s 1 1 ≠ 0)  => False.elim (by omega)
      · intro g13 g14
        show zT (zE 1153) (Pt PX9_read) m11 (37, [((4 : Nat) : Int), ((t : Nat) : Int), x2], [((-1), 0)], s) Q
        refine zW_d (t := 283) rfl (fun go => zsw_out _ _ (by simp only [List.length_cons, List.length_nil]; omega)) (fun _ l => zT_le ?_ (Nat.le_of_lt l))
        refine tL ((4 : Nat) : Int) 0 rfl rfl rfl ?_
        refine tFR (c := 4) 1 rfl rfl rfl rfl rfl ?_
        refine tK rfl ?_
        exact tCall [(((1 : Nat) : Int), 0), (1, 0)] [] rfl rfl rfl (fun m l => h3 g1 g9 g10 g14 m (Nat.lt_of_lt_of_le l (Nat.le_trans (Nat.le_of_lt l11) (Nat.le_trans (Nat.le_of_lt l3) (Nat.le_refl n)))))
      · intro g17 g18
        show zT (zE 1153) (Pt PX9_read) m11 (37, [((4 : Nat) : Int), ((t : Nat) : Int), x2], [(s 1 8, 0)], s) Q
        by_cases g19_0 : s 1 8 = 0
        · refine zW_d (t := 120) rfl (fun go => by rw [g19_0]; rfl) (fun _ l => zT_le ?_ (Nat.le_of_lt l))
          refine tL ((4 : Nat) : Int) 0 rfl rfl rfl ?_
          refine tL ((t : Nat) : Int) 0 rfl rfl rfl ?_
          exact tCall [(((4 : Nat) : Int), 0), (((t : Nat) : Int), 0)] [] rfl rfl rfl (fun m l => h4 g1 g9 g10 g18 g19_0 m (Nat.lt_of_lt_of_le l (Nat.le_trans (Nat.le_of_lt l11) (Nat.le_trans (Nat.le_of_lt l3) (Nat.le_refl n)))))
        by_cases g19_1 : s 1 8 = 1
        · refine zW_d (t := 283) rfl (fun go => by rw [g19_1]; rfl) (fun _ l => zT_le ?_ (Nat.le_of_lt l))
          refine tL ((4 : Nat) : Int) 0 rfl rfl rfl ?_
          refine tFR (c := 4) 1 rfl rfl rfl rfl rfl ?_
          refine tK rfl ?_
          exact tCall [(((1 : Nat) : Int), 0), (1, 0)] [] rfl rfl rfl (fun m l => h5 g1 g9 g10 g18 g19_1 m (Nat.lt_of_lt_of_le l (Nat.le_trans (Nat.le_of_lt l11) (Nat.le_trans (Nat.le_of_lt l3) (Nat.le_refl n)))))
        by_cases g19_2 : s 1 8 = 2
        · refine zW_d (t := 128) rfl (fun go => by rw [g19_2]; rfl) (fun _ l => zT_le ?_ (Nat.le_of_lt l))
          refine tL ((4 : Nat) : Int) 0 rfl rfl rfl ?_
          refine tL ((t : Nat) : Int) 0 rfl rfl rfl ?_
          exact tCall [(((4 : Nat) : Int), 0), (((t : Nat) : Int), 0)] [] rfl rfl rfl (fun m l => h6 g1 g9 g10 g18 g19_2 m (Nat.lt_of_lt_of_le l (Nat.le_trans (Nat.le_of_lt l11) (Nat.le_trans (Nat.le_of_lt l3) (Nat.le_refl n)))))
        by_cases g19_3 : s 1 8 = 3
        · refine zW_d (t := 283) rfl (fun go => by rw [g19_3]; rfl) (fun _ l => zT_le ?_ (Nat.le_of_lt l))
          refine tL ((4 : Nat) : Int) 0 rfl rfl rfl ?_
          refine tFR (c := 4) 1 rfl rfl rfl rfl rfl ?_
          refine tK rfl ?_
          exact tCall [(((1 : Nat) : Int), 0), (1, 0)] [] rfl rfl rfl (fun m l => h7 g1 g9 g10 g18 g19_3 m (Nat.lt_of_lt_of_le l (Nat.le_trans (Nat.le_of_lt l11) (Nat.le_trans (Nat.le_of_lt l3) (Nat.le_refl n)))))
        by_cases g19_4 : s 1 8 = 4
        · refine zW_d (t := 283) rfl (fun go => by rw [g19_4]; rfl) (fun _ l => zT_le ?_ (Nat.le_of_lt l))
          refine tL ((4 : Nat) : Int) 0 rfl rfl rfl ?_
          refine tFR (c := 4) 1 rfl rfl rfl rfl rfl ?_
          refine tK rfl ?_
          exact tCall [(((1 : Nat) : Int), 0), (1, 0)] [] rfl rfl rfl (fun m l => h8 g1 g9 g10 g18 g19_4 m (Nat.lt_of_lt_of_le l (Nat.le_trans (Nat.le_of_lt l11) (Nat.le_trans (Nat.le_of_lt l3) (Nat.le_refl n)))))
        by_cases g19_5 : s 1 8 = 5
        · refine zW_d (t := 136) rfl (fun go => by rw [g19_5]; rfl) (fun _ l => zT_le ?_ (Nat.le_of_lt l))
          refine tL ((4 : Nat) : Int) 0 rfl rfl rfl ?_
          refine tL ((t : Nat) : Int) 0 rfl rfl rfl ?_
          exact tCall [(((4 : Nat) : Int), 0), (((t : Nat) : Int), 0)] [] rfl rfl rfl (fun m l => h9 g1 g9 g10 g18 g19_5 m (Nat.lt_of_lt_of_le l (Nat.le_trans (Nat.le_of_lt l11) (Nat.le_trans (Nat.le_of_lt l3) (Nat.le_refl n)))))
        by_cases g19_6 : s 1 8 = 6
        · refine zW_d (t := 283) rfl (fun go => by rw [g19_6]; rfl) (fun _ l => zT_le ?_ (Nat.le_of_lt l))
          refine tL ((4 : Nat) : Int) 0 rfl rfl rfl ?_
          refine tFR (c := 4) 1 rfl rfl rfl rfl rfl ?_
          refine tK rfl ?_
          exact tCall [(((1 : Nat) : Int), 0), (1, 0)] [] rfl rfl rfl (fun m l => h10 g1 g9 g10 g18 g19_6 m (Nat.lt_of_lt_of_le l (Nat.le_trans (Nat.le_of_lt l11) (Nat.le_trans (Nat.le_of_lt l3) (Nat.le_refl n)))))
        by_cases g19_7 : s 1 8 = 7
        · refine zW_d (t := 283) rfl (fun go => by rw [g19_7]; rfl) (fun _ l => zT_le ?_ (Nat.le_of_lt l))
          refine tL ((4 : Nat) : Int) 0 rfl rfl rfl ?_
          refine tFR (c := 4) 1 rfl rfl rfl rfl rfl ?_
          refine tK rfl ?_
          exact tCall [(((1 : Nat) : Int), 0), (1, 0)] [] rfl rfl rfl (fun m l => h11 g1 g9 g10 g18 g19_7 m (Nat.lt_of_lt_of_le l (Nat.le_trans (Nat.le_of_lt l11) (Nat.le_trans (Nat.le_of_lt l3) (Nat.le_refl n)))))
        by_cases g19_8 : s 1 8 = 8
        · refine zW_d (t := 144) rfl (fun go => by rw [g19_8]; rfl) (fun _ l => zT_le ?_ (Nat.le_of_lt l))
          refine tL ((4 : Nat) : Int) 0 rfl rfl rfl ?_
          refine tL ((t : Nat) : Int) 0 rfl rfl rfl ?_
          exact tCall [(((4 : Nat) : Int), 0), (((t : Nat) : Int), 0)] [] rfl rfl rfl (fun m l => h12 g1 g9 g10 g18 g19_8 m (Nat.lt_of_lt_of_le l (Nat.le_trans (Nat.le_of_lt l11) (Nat.le_trans (Nat.le_of_lt l3) (Nat.le_refl n)))))
        by_cases g19_9 : s 1 8 = 9
        · refine zW_d (t := 283) rfl (fun go => by rw [g19_9]; rfl) (fun _ l => zT_le ?_ (Nat.le_of_lt l))
          refine tL ((4 : Nat) : Int) 0 rfl rfl rfl ?_
          refine tFR (c := 4) 1 rfl rfl rfl rfl rfl ?_
          refine tK rfl ?_
          exact tCall [(((1 : Nat) : Int), 0), (1, 0)] [] rfl rfl rfl (fun m l => h13 g1 g9 g10 g18 g19_9 m (Nat.lt_of_lt_of_le l (Nat.le_trans (Nat.le_of_lt l11) (Nat.le_trans (Nat.le_of_lt l3) (Nat.le_refl n)))))
        by_cases g19_10 : s 1 8 = 10
        · refine zW_d (t := 283) rfl (fun go => by rw [g19_10]; rfl) (fun _ l => zT_le ?_ (Nat.le_of_lt l))
          refine tL ((4 : Nat) : Int) 0 rfl rfl rfl ?_
          refine tFR (c := 4) 1 rfl rfl rfl rfl rfl ?_
          refine tK rfl ?_
          exact tCall [(((1 : Nat) : Int), 0), (1, 0)] [] rfl rfl rfl (fun m l => h14 g1 g9 g10 g18 g19_10 m (Nat.lt_of_lt_of_le l (Nat.le_trans (Nat.le_of_lt l11) (Nat.le_trans (Nat.le_of_lt l3) (Nat.le_refl n)))))
        by_cases g19_11 : s 1 8 = 11
        · refine zW_d (t := 283) rfl (fun go => by rw [g19_11]; rfl) (fun _ l => zT_le ?_ (Nat.le_of_lt l))
          refine tL ((4 : Nat) : Int) 0 rfl rfl rfl ?_
          refine tFR (c := 4) 1 rfl rfl rfl rfl rfl ?_
          refine tK rfl ?_
          exact tCall [(((1 : Nat) : Int), 0), (1, 0)] [] rfl rfl rfl (fun m l => h15 g1 g9 g10 g18 g19_11 m (Nat.lt_of_lt_of_le l (Nat.le_trans (Nat.le_of_lt l11) (Nat.le_trans (Nat.le_of_lt l3) (Nat.le_refl n)))))
        by_cases g19_12 : s 1 8 = 12
        · refine zW_d (t := 152) rfl (fun go => by rw [g19_12]; rfl) (fun _ l => zT_le ?_ (Nat.le_of_lt l))
          refine tL ((4 : Nat) : Int) 0 rfl rfl rfl ?_
          refine tL ((t : Nat) : Int) 0 rfl rfl rfl ?_
          exact tCall [(((4 : Nat) : Int), 0), (((t : Nat) : Int), 0)] [] rfl rfl rfl (fun m l => h16 g1 g9 g10 g18 g19_12 m (Nat.lt_of_lt_of_le l (Nat.le_trans (Nat.le_of_lt l11) (Nat.le_trans (Nat.le_of_lt l3) (Nat.le_refl n)))))
        by_cases g19_13 : s 1 8 = 13
        · refine zW_d (t := 283) rfl (fun go => by rw [g19_13]; rfl) (fun _ l => zT_le ?_ (Nat.le_of_lt l))
          refine tL ((4 : Nat) : Int) 0 rfl rfl rfl ?_
          refine tFR (c := 4) 1 rfl rfl rfl rfl rfl ?_
          refine tK rfl ?_
          exact tCall [(((1 : Nat) : Int), 0), (1, 0)] [] rfl rfl rfl (fun m l => h17 g1 g9 g10 g18 g19_13 m (Nat.lt_of_lt_of_le l (Nat.le_trans (Nat.le_of_lt l11) (Nat.le_trans (Nat.le_of_lt l3) (Nat.le_refl n)))))
        by_cases g19_14 : s 1 8 = 14
        · refine zW_d (t := 160) rfl (fun go => by rw [g19_14]; rfl) (fun _ l => zT_le ?_ (Nat.le_of_lt l))
          refine tL ((4 : Nat) : Int) 0 rfl rfl rfl ?_
          refine tL ((t : Nat) : Int) 0 rfl rfl rfl ?_
          refine tFv (c := t) (s t 5) 0 rfl rfl rfl rfl rfl ?_
          refine tK rfl ?_
          refine tJ0 rfl (fun g34 _ l34 => zT_le ?_ (Nat.le_of_lt l34)) (fun g34 _ l34 => zT_le ?_ (Nat.le_of_lt l34))
          · refine tK rfl ?_
            exact tCall [(((4 : Nat) : Int), 0), (0, 0)] [] rfl rfl rfl (fun m l => h18 g1 g9 g10 g18 g19_14 g34 m (Nat.lt_of_lt_of_le l (Nat.le_trans (Nat.le_of_lt l11) (Nat.le_trans (Nat.le_of_lt l3) (Nat.le_refl n)))))
          · refine tK rfl ?_
            refine tG rfl ?_
            exact tCall [(((4 : Nat) : Int), 0), (1, 0)] [] rfl rfl rfl (fun m l => h19 g1 g9 g10 g18 g19_14 g34 m (Nat.lt_of_lt_of_le l (Nat.le_trans (Nat.le_of_lt l11) (Nat.le_trans (Nat.le_of_lt l3) (Nat.le_refl n)))))
        by_cases g19_15 : s 1 8 = 15
        · refine zW_d (t := 204) rfl (fun go => by rw [g19_15]; rfl) (fun _ l => zT_le ?_ (Nat.le_of_lt l))
          refine tL ((4 : Nat) : Int) 0 rfl rfl rfl ?_
          refine tL ((t : Nat) : Int) 0 rfl rfl rfl ?_
          refine tFv (c := t) (s t 6) 0 rfl rfl rfl rfl rfl ?_
          refine tK rfl ?_
          refine tJ0 rfl (fun g37 _ l37 => zT_le ?_ (Nat.le_of_lt l37)) (fun g37 _ l37 => zT_le ?_ (Nat.le_of_lt l37))
          · refine tK rfl ?_
            exact tCall [(((4 : Nat) : Int), 0), (0, 0)] [] rfl rfl rfl (fun m l => h20 g1 g9 g10 g18 g19_15 g37 m (Nat.lt_of_lt_of_le l (Nat.le_trans (Nat.le_of_lt l11) (Nat.le_trans (Nat.le_of_lt l3) (Nat.le_refl n)))))
          · refine tK rfl ?_
            refine tG rfl ?_
            exact tCall [(((4 : Nat) : Int), 0), (1, 0)] [] rfl rfl rfl (fun m l => h21 g1 g9 g10 g18 g19_15 g37 m (Nat.lt_of_lt_of_le l (Nat.le_trans (Nat.le_of_lt l11) (Nat.le_trans (Nat.le_of_lt l3) (Nat.le_refl n)))))
        by_cases g19_16 : s 1 8 = 16
        · refine zW_d (t := 247) rfl (fun go => by rw [g19_16]; rfl) (fun _ l => zT_le ?_ (Nat.le_of_lt l))
          refine tL ((4 : Nat) : Int) 0 rfl rfl rfl ?_
          refine tL ((t : Nat) : Int) 0 rfl rfl rfl ?_
          refine tFR (c := t) (t + 29) rfl rfl rfl rfl (zt8_7 ht) ?_
          exact tCall [((((t + 29) : Nat) : Int), 0)] [(((4 : Nat) : Int), 0)] rfl rfl rfl (fun m l => h22 g1 g9 g10 g18 g19_16 m (Nat.lt_of_lt_of_le l (Nat.le_trans (Nat.le_of_lt l11) (Nat.le_trans (Nat.le_of_lt l3) (Nat.le_refl n)))))
        refine zW_d (t := 283) rfl (fun go => zsw_out _ _ (by simp only [List.length_cons, List.length_nil]; omega)) (fun _ l => zT_le ?_ (Nat.le_of_lt l))
        refine tL ((4 : Nat) : Int) 0 rfl rfl rfl ?_
        refine tFR (c := 4) 1 rfl rfl rfl rfl rfl ?_
        refine tK rfl ?_
        exact tCall [(((1 : Nat) : Int), 0), (1, 0)] [] rfl rfl rfl (fun m l => h23 g1 g9 g10 g18 g19_0 g19_1 g19_2 g19_3 g19_4 g19_5 g19_6 g19_7 g19_8 g19_9 g19_10 g19_11 g19_12 g19_13 g19_14 g19_15 g19_16 m (Nat.lt_of_lt_of_le l (Nat.le_trans (Nat.le_of_lt l11) (Nat.le_trans (Nat.le_of_lt l3) (Nat.le_refl n)))))

theorem b_X9_read_4 {n : Nat} {Q : Zr → Prop} {t : Nat} (x2 : Int) (s : Zs) (ht : t = 7 ∨ t = 43)
    (h0 : ∀ m, m < n → zC m 896 [(((1 : Nat) : Int), 0)] s (fun p => zT (zE 1153) (Pt PX9_read) m (11, [((4 : Nat) : Int), ((t : Nat) : Int), x2], p.1 ++ [], p.2) Q)) : zT (zE 1153) (Pt PX9_read) n (4, [((4 : Nat) : Int), ((t : Nat) : Int), x2], [], s) Q := by
  refine tL ((4 : Nat) : Int) 0 rfl rfl rfl ?_
  refine tFR (c := 4) 1 rfl rfl rfl rfl rfl ?_
  exact tCall [(((1 : Nat) : Int), 0)] [] rfl rfl rfl (fun m l => h0 m (Nat.lt_of_lt_of_le l (Nat.le_refl n)))

theorem b_X9_read_301 {n : Nat} {Q : Zr → Prop} {t : Nat} (x2 : Int) (s : Zs) (ht : t = 7 ∨ t = 43)
    (h0 : Q ([(s 1 1, 0)], s)) : zT (zE 1153) (Pt PX9_read) n (301, [((4 : Nat) : Int), ((t : Nat) : Int), x2], [], s) Q := by
  refine tL ((4 : Nat) : Int) 0 rfl rfl rfl ?_
  refine tFR (c := 4) 1 rfl rfl rfl rfl rfl ?_
  refine tFv (c := 1) (s 1 1) 0 rfl rfl rfl rfl rfl ?_
  exact tR rfl (h0)

theorem b_X9_read_291 {n : Nat} {Q : Zr → Prop} {t : Nat} (x2 : Int) (s : Zs) (ht : t = 7 ∨ t = 43)
    (h0 : ∀ m, m < n → zT (zE 1153) (Pt PX9_read) m (13, [((4 : Nat) : Int), ((t : Nat) : Int), w32 (x2 + 1)], [], s) Q) : zT (zE 1153) (Pt PX9_read) n (291, [((4 : Nat) : Int), ((t : Nat) : Int), x2], [], s) Q := by
  refine tInc [((4 : Nat) : Int), ((t : Nat) : Int), w32 (x2 + 1)] rfl rfl ?_
  exact tGb rfl (fun m2 l2 => h0 m2 (Nat.lt_of_lt_of_le l2 (Nat.le_refl n)))

theorem b_X9_read_125 {n : Nat} {Q : Zr → Prop} {t : Nat} (x2 : Int) (s : Zs) (ht : t = 7 ∨ t = 43)
    (h0 : ∀ m, m < n → zT (zE 1153) (Pt PX9_read) m (13, [((4 : Nat) : Int), ((t : Nat) : Int), w32 (x2 + 1)], [], s) Q) : zT (zE 1153) (Pt PX9_read) n (125, [((4 : Nat) : Int), ((t : Nat) : Int), x2], [], s) Q := by
  refine tG rfl ?_
  refine tInc [((4 : Nat) : Int), ((t : Nat) : Int), w32 (x2 + 1)] rfl rfl ?_
  exact tGb rfl (fun m2 l2 => h0 m2 (Nat.lt_of_lt_of_le l2 (Nat.le_refl n)))

theorem b_X9_read_133 {n : Nat} {Q : Zr → Prop} {t : Nat} (x2 : Int) (s : Zs) (ht : t = 7 ∨ t = 43)
    (h0 : ∀ m, m < n → zT (zE 1153) (Pt PX9_read) m (13, [((4 : Nat) : Int), ((t : Nat) : Int), w32 (x2 + 1)], [], s) Q) : zT (zE 1153) (Pt PX9_read) n (133, [((4 : Nat) : Int), ((t : Nat) : Int), x2], [], s) Q := by
  refine tG rfl ?_
  refine tInc [((4 : Nat) : Int), ((t : Nat) : Int), w32 (x2 + 1)] rfl rfl ?_
  exact tGb rfl (fun m2 l2 => h0 m2 (Nat.lt_of_lt_of_le l2 (Nat.le_refl n)))

theorem b_X9_read_141 {n : Nat} {Q : Zr → Prop} {t : Nat} (x2 : Int) (s : Zs) (ht : t = 7 ∨ t = 43)
    (h0 : ∀ m, m < n → zT (zE 1153) (Pt PX9_read) m (13, [((4 : Nat) : Int), ((t : Nat) : Int), w32 (x2 + 1)], [], s) Q) : zT (zE 1153) (Pt PX9_read) n (141, [((4 : Nat) : Int), ((t : Nat) : Int), x2], [], s) Q := by
  refine tG rfl ?_
  refine tInc [((4 : Nat) : Int), ((t : Nat) : Int), w32 (x2 + 1)] rfl rfl ?_
  exact tGb rfl (fun m2 l2 => h0 m2 (Nat.lt_of_lt_of_le l2 (Nat.le_refl n)))

theorem b_X9_read_149 {n : Nat} {Q : Zr → Prop} {t : Nat} (x2 : Int) (s : Zs) (ht : t = 7 ∨ t = 43)
    (h0 : ∀ m, m < n → zT (zE 1153) (Pt PX9_read) m (13, [((4 : Nat) : Int), ((t : Nat) : Int), w32 (x2 + 1)], [], s) Q) : zT (zE 1153) (Pt PX9_read) n (149, [((4 : Nat) : Int), ((t : Nat) : Int), x2], [], s) Q := by
  refine tG rfl ?_
  refine tInc [((4 : Nat) : Int), ((t : Nat) : Int), w32 (x2 + 1)] rfl rfl ?_
  exact tGb rfl (fun m2 l2 => h0 m2 (Nat.lt_of_lt_of_le l2 (Nat.le_refl n)))

theorem b_X9_read_157 {n : Nat} {Q : Zr → Prop} {t : Nat} (x2 : Int) (s : Zs) (ht : t = 7 ∨ t = 43)
    (h0 : ∀ m, m < n → zT (zE 1153) (Pt PX9_read) m (13, [((4 : Nat) : Int), ((t : Nat) : Int), w32 (x2 + 1)], [], s) Q) : zT (zE 1153) (Pt PX9_read) n (157, [((4 : Nat) : Int), ((t : Nat) : Int), x2], [], s) Q := by
  refine tG rfl ?_
  refine tInc [((4 : Nat) : Int), ((t : Nat) : Int), w32 (x2 + 1)] rfl rfl ?_
  exact tGb rfl (fun m2 l2 => h0 m2 (Nat.lt_of_lt_of_le l2 (Nat.le_refl n)))

theorem b_X9_read_177 {n : Nat} {Q : Zr → Prop} {t : Nat} (x2 : Int) (s : Zs) (ht : t = 7 ∨ t = 43)
    (h0 : ∀ m, m < n → zC m 912 [(((1 : Nat) : Int), 0), (0, 0), (999, 0)] s (fun p => zT (zE 1153) (Pt PX9_read) m (189, [((4 : Nat) : Int), ((t : Nat) : Int), x2], p.1 ++ [(((t : Nat) : Int), 0)], p.2) Q)) : zT (zE 1153) (Pt PX9_read) n (177, [((4 : Nat) : Int), ((t : Nat) : Int), x2], [], s) Q := by
  refine tL ((t : Nat) : Int) 0 rfl rfl rfl ?_
  refine tL ((4 : Nat) : Int) 0 rfl rfl rfl ?_
  refine tFR (c := 4) 1 rfl rfl rfl rfl rfl ?_
  refine tK rfl ?_
  refine tK rfl ?_
  exact tCall [(((1 : Nat) : Int), 0), (0, 0), (999, 0)] [(((t : Nat) : Int), 0)] rfl rfl rfl (fun m l => h0 m (Nat.lt_of_lt_of_le l (Nat.le_refl n)))

theorem b_X9_read_221 {n : Nat} {Q : Zr → Prop} {t : Nat} (x2 : Int) (s : Zs) (ht : t = 7 ∨ t = 43)
    (h0 : ∀ m, m < n → zC m 912 [(((1 : Nat) : Int), 0), (0, 0), (60, 0)] s (fun p => zT (zE 1153) (Pt PX9_read) m (232, [((4 : Nat) : Int), ((t : Nat) : Int), x2], p.1 ++ [(((t : Nat) : Int), 0)], p.2) Q)) : zT (zE 1153) (Pt PX9_read) n (221, [((4 : Nat) : Int), ((t : Nat) : Int), x2], [], s) Q := by
  refine tL ((t : Nat) : Int) 0 rfl rfl rfl ?_
  refine tL ((4 : Nat) : Int) 0 rfl rfl rfl ?_
  refine tFR (c := 4) 1 rfl rfl rfl rfl rfl ?_
  refine tK rfl ?_
  refine tK rfl ?_
  exact tCall [(((1 : Nat) : Int), 0), (0, 0), (60, 0)] [(((t : Nat) : Int), 0)] rfl rfl rfl (fun m l => h0 m (Nat.lt_of_lt_of_le l (Nat.le_refl n)))

theorem b_X9_read_255 {n : Nat} {Q : Zr → Prop} {t : Nat} (x2 v0 : Int) (s : Zs) (ht : t = 7 ∨ t = 43)
    (h0 : ∀ m, m < n → zC m 1161 [(((4 : Nat) : Int), 0), (v0, 0)] s (fun p => zT (zE 1153) (Pt PX9_read) m (258, [((4 : Nat) : Int), ((t : Nat) : Int), x2], p.1 ++ [], p.2) Q)) : zT (zE 1153) (Pt PX9_read) n (255, [((4 : Nat) : Int), ((t : Nat) : Int), x2], [(v0, 0), (((4 : Nat) : Int), 0)], s) Q := by
  exact tCall [(((4 : Nat) : Int), 0), (v0, 0)] [] rfl rfl rfl (fun m l => h0 m (Nat.lt_of_lt_of_le l (Nat.le_refl n)))

theorem b_X9_read_11 {n : Nat} {Q : Zr → Prop} {t : Nat} (x2 : Int) (s : Zs) (ht : t = 7 ∨ t = 43)
    (h0 : zT (zE 1153) (Pt PX9_read) n (13, [((4 : Nat) : Int), ((t : Nat) : Int), 0], [], s) Q) : zT (zE 1153) (Pt PX9_read) n (11, [((4 : Nat) : Int), ((t : Nat) : Int), x2], [], s) Q := by
  refine tK rfl ?_
  refine tS [((4 : Nat) : Int), ((t : Nat) : Int), 0] rfl rfl ?_
  exact zT_le (h0) (Nat.le_refl n)

theorem b_X9_read_189 {n : Nat} {Q : Zr → Prop} {t : Nat} (x2 v0 : Int) (s : Zs) (ht : t = 7 ∨ t = 43)
    (h0 : ∀ m, m < n → zC m 914 [(((1 : Nat) : Int), 0), (59, 0)] (zu s t 5 v0) (fun p => zT (zE 1153) (Pt PX9_read) m (201, [((4 : Nat) : Int), ((t : Nat) : Int), x2], p.1 ++ [], p.2) Q)) : zT (zE 1153) (Pt PX9_read) n (189, [((4 : Nat) : Int), ((t : Nat) : Int), x2], [(v0, 0), (((t : Nat) : Int), 0)], s) Q := by
  refine tPut t rfl rfl ?_
  refine tL ((4 : Nat) : Int) 0 rfl rfl rfl ?_
  refine tFR (c := 4) 1 rfl rfl rfl rfl rfl ?_
  refine tK rfl ?_
  exact tCall [(((1 : Nat) : Int), 0), (59, 0)] [] rfl rfl rfl (fun m l => h0 m (Nat.lt_of_lt_of_le l (Nat.le_refl n)))

theorem b_X9_read_232 {n : Nat} {Q : Zr → Prop} {t : Nat} (x2 v0 : Int) (s : Zs) (ht : t = 7 ∨ t = 43)
    (h0 : ∀ m, m < n → zC m 914 [(((1 : Nat) : Int), 0), (59, 0)] (zu s t 6 v0) (fun p => zT (zE 1153) (Pt PX9_read) m (244, [((4 : Nat) : Int), ((t : Nat) : Int), x2], p.1 ++ [], p.2) Q)) : zT (zE 1153) (Pt PX9_read) n (232, [((4 : Nat) : Int), ((t : Nat) : Int), x2], [(v0, 0), (((t : Nat) : Int), 0)], s) Q := by
  refine tPut t rfl rfl ?_
  refine tL ((4 : Nat) : Int) 0 rfl rfl rfl ?_
  refine tFR (c := 4) 1 rfl rfl rfl rfl rfl ?_
  refine tK rfl ?_
  exact tCall [(((1 : Nat) : Int), 0), (59, 0)] [] rfl rfl rfl (fun m l => h0 m (Nat.lt_of_lt_of_le l (Nat.le_refl n)))

theorem b_X9_read_258 {n : Nat} {Q : Zr → Prop} {t : Nat} (x2 : Int) (s : Zs) (ht : t = 7 ∨ t = 43)
    (h0 : ∀ m, m < n → zC m 519 [((((t + 29) : Nat) : Int), 0), (((1 : Nat) : Int), 0), (0, 0), (0, 0)] s (fun p => zT (zE 1153) (Pt PX9_read) m (271, [((4 : Nat) : Int), ((t : Nat) : Int), x2], p.1 ++ [], p.2) Q)) : zT (zE 1153) (Pt PX9_read) n (258, [((4 : Nat) : Int), ((t : Nat) : Int), x2], [], s) Q := by
  refine tL ((t : Nat) : Int) 0 rfl rfl rfl ?_
  refine tFR (c := t) (t + 29) rfl rfl rfl rfl (zt8_7 ht) ?_
  refine tL ((4 : Nat) : Int) 0 rfl rfl rfl ?_
  refine tFR (c := 4) 1 rfl rfl rfl rfl rfl ?_
  refine tK rfl ?_
  refine tK rfl ?_
  exact tCall [((((t + 29) : Nat) : Int), 0), (((1 : Nat) : Int), 0), (0, 0), (0, 0)] [] rfl rfl rfl (fun m l => h0 m (Nat.lt_of_lt_of_le l (Nat.le_refl n)))

theorem b_X9_read_201 {n : Nat} {Q : Zr → Prop} {t : Nat} (x2 : Int) (s : Zs) (ht : t = 7 ∨ t = 43)
    (h0 : ∀ m, m < n → zT (zE 1153) (Pt PX9_read) m (13, [((4 : Nat) : Int), ((t : Nat) : Int), w32 (x2 + 1)], [], s) Q) : zT (zE 1153) (Pt PX9_read) n (201, [((4 : Nat) : Int), ((t : Nat) : Int), x2], [], s) Q := by
  refine tG rfl ?_
  refine tInc [((4 : Nat) : Int), ((t : Nat) : Int), w32 (x2 + 1)] rfl rfl ?_
  exact tGb rfl (fun m2 l2 => h0 m2 (Nat.lt_of_lt_of_le l2 (Nat.le_refl n)))

theorem b_X9_read_244 {n : Nat} {Q : Zr → Prop} {t : Nat} (x2 : Int) (s : Zs) (ht : t = 7 ∨ t = 43)
    (h0 : ∀ m, m < n → zT (zE 1153) (Pt PX9_read) m (13, [((4 : Nat) : Int), ((t : Nat) : Int), w32 (x2 + 1)], [], s) Q) : zT (zE 1153) (Pt PX9_read) n (244, [((4 : Nat) : Int), ((t : Nat) : Int), x2], [], s) Q := by
  refine tG rfl ?_
  refine tInc [((4 : Nat) : Int), ((t : Nat) : Int), w32 (x2 + 1)] rfl rfl ?_
  exact tGb rfl (fun m2 l2 => h0 m2 (Nat.lt_of_lt_of_le l2 (Nat.le_refl n)))

theorem b_X9_read_271 {n : Nat} {Q : Zr → Prop} {t : Nat} (x2 : Int) (s : Zs) (ht : t = 7 ∨ t = 43)
    (h0 : ∀ m, m < n → zC m 914 [(((1 : Nat) : Int), 0), (59, 0)] s (fun p => zT (zE 1153) (Pt PX9_read) m (280, [((4 : Nat) : Int), ((t : Nat) : Int), x2], p.1 ++ [], p.2) Q)) : zT (zE 1153) (Pt PX9_read) n (271, [((4 : Nat) : Int), ((t : Nat) : Int), x2], [], s) Q := by
  refine tL ((4 : Nat) : Int) 0 rfl rfl rfl ?_
  refine tFR (c := 4) 1 rfl rfl rfl rfl rfl ?_
  refine tK rfl ?_
  exact tCall [(((1 : Nat) : Int), 0), (59, 0)] [] rfl rfl rfl (fun m l => h0 m (Nat.lt_of_lt_of_le l (Nat.le_refl n)))

theorem b_X9_read_280 {n : Nat} {Q : Zr → Prop} {t : Nat} (x2 : Int) (s : Zs) (ht : t = 7 ∨ t = 43)
    (h0 : ∀ m, m < n → zT (zE 1153) (Pt PX9_read) m (13, [((4 : Nat) : Int), ((t : Nat) : Int), w32 (x2 + 1)], [], s) Q) : zT (zE 1153) (Pt PX9_read) n (280, [((4 : Nat) : Int), ((t : Nat) : Int), x2], [], s) Q := by
  refine tG rfl ?_
  refine tInc [((4 : Nat) : Int), ((t : Nat) : Int), w32 (x2 + 1)] rfl rfl ?_
  exact tGb rfl (fun m2 l2 => h0 m2 (Nat.lt_of_lt_of_le l2 (Nat.le_refl n)))

theorem c_X9_read {n : Nat} {Q : Zr → Prop} {a0 a1 : Int} {s : Zs} (h : zT (zE 1153) (Pt PX9_read) n (0, [a0, a1, 0], [], s) Q) : zC n 1153 [(a0, 0), (a1, 0)] s Q := h

/-! a town read: the class -/
section Zrd
variable {N t : Nat} {s : Zs} {T : Nat → Int} {n : Nat} {x : PS} {D : ZD} {Q : Zr → Prop}
theorem cDn_out {s' : Zs} (w : wD D) (f : ∀ c j, (t + 1 ≤ c ∧ c ≤ t + 28) ∨ (t + 32 ≤ c ∧ c ≤ t + 34) → s' c j = s c j) (h : cDn s t D) : cDn s' t D := by
  obtain ⟨h1, h2, h3, h4, h5⟩ := h
  refine ⟨fun k hk => by rw [f _ _ (by omega)]; exact h1 k hk, fun q hq => by rw [f _ _ (by omega)]; exact h2 q hq, fun i v hv => by rw [f _ _ (by omega)]; exact h3 i v hv, fun k j i v k1 k2 k3 hv => ?_, fun q hq => by rw [f _ _ (by omega)]; exact h5 q hq⟩
  have hi : i < (dC D (10 * k + j)).length := (List.getElem?_eq_some_iff.mp hv).1
  rw [w.2.2.2.2.1 k j k1 k2 k3] at hi
  have hm := w.1 k k2
  have hb : rbk k + most k ≤ 28 ∧ 2 ≤ rbk k := by
    have : k = 1 ∨ k = 2 ∨ k = 3 ∨ k = 4 := by omega
    rcases this with rfl | rfl | rfl | rfl <;> decide
  rw [f _ _ (by omega)]
  exact h4 k j i v k1 k2 k3 hv
theorem cHeap {A : Zr → Prop} {v i : Int} (ht : t = 7 ∨ t = 43) (h0 : x.1 = 0) (hb : v = 0 ↔ decide (dHeap D ≠ -1) = false) (h : cP s t T n x D) (k : ∀ N' s', N' < N → frT t s s' → cP s' t T n (pHeap T n x D).1 (pHeap T n x D).2 → zT (zE 1153) (Pt PX9_read) N' (13, [((4 : Nat) : Int), ((t : Nat) : Int), w32 (i + 1)], [], s') A) : zC N 1161 [(((4 : Nat) : Int), 0), (v, 0)] s (fun p => zT (zE 1153) (Pt PX9_read) N (177, [((4 : Nat) : Int), ((t : Nat) : Int), i], p.1 ++ [], p.2) A) := by
  refine cOn ht h0 hb h (fun s1 f1 h1 => ?_)
  refine b_X9_read_177 _ s1 ht (fun m hm => ?_)
  refine cN (lo := 0) (hi := 999) ht (by decide) h1 (fun s2 f2 h2 => ?_)
  refine b_X9_read_189 _ _ s2 ht (fun m2 hm2 => ?_)
  have hz : ∀ {c j : Nat}, ¬ (c = t ∧ j = 5) → zu s2 t 5 (vN T n 0 999 (gOn T n (decide (dHeap D ≠ -1)) x)) c j = s2 c j := fun hc => zu_n hc
  have h3 : cP (zu s2 t 5 (vN T n 0 999 (gOn T n (decide (dHeap D ≠ -1)) x))) t T n (gN T n 0 999 (gOn T n (decide (dHeap D ≠ -1)) x)) (D.1, D.2.1, vE T n (gOn T n (decide (dHeap D ≠ -1)) x), D.2.2.2) := by
    refine ⟨pst_T h2.1 (fun c j hc => hz (by omega)), cDn_out (D := D) h2.2.2.1 (fun c j hc => hz (by omega)) h2.2.1, h2.2.2.1, fun q => ?_, fun j => by rw [hz (by omega)]; exact h2.2.2.2.2 j⟩
    obtain ⟨d1, d2, d3, d4⟩ := h2.2.2.2.1 q
    refine ⟨?_, by rw [hz (by omega)]; exact d2, by rw [hz (by omega)]; exact d3, by rw [hz (by omega)]; exact d4⟩
    rw [zu_eq]
    unfold vN
    rw [if_pos q]
    rfl
  refine cS (c := 59) ht h3 (fun s4 f4 h4 => ?_)
  refine b_X9_read_201 _ s4 ht (fun m3 hm3 => ?_)
  exact k m3 s4 (by omega) (frT_tr f1 (frT_tr f2 (frT_tr (frT_u (frT_rf t s2) (by omega)) f4))) h4
theorem cWalk {A : Zr → Prop} {v i : Int} (ht : t = 7 ∨ t = 43) (h0 : x.1 = 0) (hb : v = 0 ↔ decide (dWalk D ≠ -1) = false) (h : cP s t T n x D) (k : ∀ N' s', N' < N → frT t s s' → cP s' t T n (pWalk T n x D).1 (pWalk T n x D).2 → zT (zE 1153) (Pt PX9_read) N' (13, [((4 : Nat) : Int), ((t : Nat) : Int), w32 (i + 1)], [], s') A) : zC N 1161 [(((4 : Nat) : Int), 0), (v, 0)] s (fun p => zT (zE 1153) (Pt PX9_read) N (221, [((4 : Nat) : Int), ((t : Nat) : Int), i], p.1 ++ [], p.2) A) := by
  refine cOn ht h0 hb h (fun s1 f1 h1 => ?_)
  refine b_X9_read_221 _ s1 ht (fun m hm => ?_)
  refine cN (lo := 0) (hi := 60) ht (by decide) h1 (fun s2 f2 h2 => ?_)
  refine b_X9_read_232 _ _ s2 ht (fun m2 hm2 => ?_)
  have hz : ∀ {c j : Nat}, ¬ (c = t ∧ j = 6) → zu s2 t 6 (vN T n 0 60 (gOn T n (decide (dWalk D ≠ -1)) x)) c j = s2 c j := fun hc => zu_n hc
  have h3 : cP (zu s2 t 6 (vN T n 0 60 (gOn T n (decide (dWalk D ≠ -1)) x))) t T n (gN T n 0 60 (gOn T n (decide (dWalk D ≠ -1)) x)) (D.1, D.2.1, D.2.2.1, vE T n (gOn T n (decide (dWalk D ≠ -1)) x), D.2.2.2.2) := by
    refine ⟨pst_T h2.1 (fun c j hc => hz (by omega)), cDn_out (D := D) h2.2.2.1 (fun c j hc => hz (by omega)) h2.2.1, h2.2.2.1, fun q => ?_, fun j => by rw [hz (by omega)]; exact h2.2.2.2.2 j⟩
    obtain ⟨d1, d2, d3, d4⟩ := h2.2.2.2.1 q
    refine ⟨by rw [hz (by omega)]; exact d1, ?_, by rw [hz (by omega)]; exact d3, by rw [hz (by omega)]; exact d4⟩
    rw [zu_eq]
    unfold vN
    rw [if_pos q]
    rfl
  refine cS (c := 59) ht h3 (fun s4 f4 h4 => ?_)
  refine b_X9_read_244 _ s4 ht (fun m3 hm3 => ?_)
  exact k m3 s4 (by omega) (frT_tr f1 (frT_tr f2 (frT_tr (frT_u (frT_rf t s2) (by omega)) f4))) h4
/-- behind a fault a law of price changes nothing -/
theorem rf_ok {u : Nat} (hu : u = 36 ∨ u = 72) : ∀ N (s : Zs), pst s T n x → x.1 ≠ 0 → (∀ d : Int, zC N 520 [((u : Int), 0), (((1 : Nat) : Int), 0), (d, 0)] s (fun r => r.1 = [] ∧ frF s r.2 ∧ pst r.2 T n x)) ∧ (∀ lv : Nat, lv ≤ 4 → ∀ d : Int, zC N 519 [((u : Int), 0), (((1 : Nat) : Int), 0), ((lv : Int), 0), (d, 0)] s (fun r => r.1 = [] ∧ frF s r.2 ∧ pst r.2 T n x)) := by
  intro N
  induction N using Nat.strongRecOn with
  | ind N ih =>
    intro s h h0
    have ed : decide (x.1 = 0) = false := decide_eq_false h0
    constructor
    · intro d
      refine c_X4_readPart (b_X4_readPart_0 _ _ _ _ s hu (fun m hm => ?_))
      refine zC_q (keyHere_ok h) (fun r hr => ?_)
      subst hr
      rw [if_neg (fun q => h0 q.1)]
      refine b_X4_readPart_4 _ _ _ _ _ s hu (fun m1 hm1 => ?_)
      refine zC_q (factOf_ok (by decide)) (fun r hr => ?_)
      obtain ⟨f, hr, hf⟩ := hr
      subst hr
      have hf0 : f = 0 := Decidable.byContradiction fun q => by have := hf.mp q; omega
      refine b_X4_readPart_7 _ _ _ _ _ s hu (fun m2 hm2 => ?_)
      refine zC_q (isWord_ok (i := 22) (by omega) h) (fun r hr => ?_)
      subst hr
      refine b_X4_readPart_14 _ _ _ _ _ s hu (fun m3 hm3 => ?_)
      refine zC_q (isSign_ok (c := 40) h) (fun r hr => ?_)
      subst hr
      rw [ed, Bool.false_and, Bool.false_and]
      refine b_X4_readPart_22 _ _ _ _ _ s hu (fun g1 => absurd hf0 g1) (fun g1 => absurd hf0 g1) (fun g1 => absurd hf0 g1) (fun g1 => absurd hf0 g1) (fun g1 g2 => absurd rfl g2) (fun g1 g2 => absurd rfl g2) (fun g1 g2 g3 => absurd rfl g3) (fun g1 g2 g3 => absurd rfl g3) (fun g1 g9 g13 m4 hm => ?_)
      refine zC_q (isNumber_ok h) (fun r hr => ?_)
      subst hr
      rw [ed, Bool.false_and]
      refine b_X4_readPart_42 _ _ _ _ _ s hu (fun e1 => absurd rfl e1) (fun e1 => absurd rfl e1) (fun e1 => absurd rfl e1) (fun e1 => absurd rfl e1) (fun e1 => absurd rfl e1) (fun e1 m5 hm5 => ?_)
      refine zC_q (fail_ok (k := 1) (by decide) h) (fun r hr => ?_)
      obtain ⟨r1, s3⟩ := r
      obtain ⟨e, f3, py3⟩ := hr
      have e : r1 = [] := e
      subst e
      rw [gF_nz h0] at py3
      exact b_X4_readPart_50 _ _ _ _ s3 hu ⟨rfl, f3, py3⟩
    · intro lv hlv d
      refine c_X4_readLevel (b_X4_readLevel_0 _ _ _ _ _ s hu (fun g m hm => ?_) (fun g m hm => ?_))
      · rw [w32_id (z := (lv : Int) + 1) (by omega) (by omega), show (lv : Int) + 1 = ((lv + 1 : Nat) : Int) from by omega]
        refine zC_q ((ih m hm s h h0).2 (lv + 1) (by omega) d) (fun r hr => ?_)
        obtain ⟨r1, s2⟩ := r
        obtain ⟨e, f2, py⟩ := hr
        have e : r1 = [] := e
        subst e
        have fin : ∀ mo : Int, zT (zE 519) (Pt PX4_readLevel) m (38, [((u : Nat) : Int), ((1 : Nat) : Int), (lv : Int), d, mo, 0, 0], [], s2) (fun r => r.1 = [] ∧ frF s r.2 ∧ pst r.2 T n x) := fun mo => by
          refine b_X4_readLevel_38 _ _ _ _ _ s2 hu (fun g => ⟨rfl, f2, py⟩) (fun g m' hm' => ?_)
          refine zC_q (joinHere_ok (by omega) py) (fun r hr => ?_)
          obtain ⟨v, hr, hv⟩ := hr
          subst hr
          exact b_X4_readLevel_50 _ _ _ _ _ _ s2 hu (fun g1 => absurd (hv.mp g1).1 h0) (fun g1 => ⟨rfl, f2, py⟩)
        exact b_X4_readLevel_21 _ _ _ _ _ s2 hu (fun g => fin 1000) (fun g => fin 1)
      · refine zC_q ((ih m hm s h h0).1 d) (fun r hr => ?_)
        obtain ⟨r1, s2⟩ := r
        obtain ⟨e, f2, py⟩ := hr
        have e : r1 = [] := e
        subst e
        exact b_X4_readLevel_11 _ _ _ _ _ s2 hu ⟨rfl, f2, py⟩
/-- how a law of price ends -/
theorem aRf_end {p : Nat} {c : Bool} (hp : p ≤ n) (hj : nj T n 0 c p) : aR T n p false [(false, c)] = gS T n 59 (0, p) := by
  have n0 := hj 0 (by omega) (by omega) (by omega)
  have n2 := hj 2 (by omega) (by omega) (by omega)
  have n3 := hj 3 (by omega) (by omega) (by omega)
  have n1 := hj 1 (by omega) (by omega)
  simp only [jn] at n0 n1 n2 n3
  simp at n0 n1 n2 n3
  rw [aR_f hp, if_neg (by rw [n2.1, n2.2, n3]; simp), if_neg (fun q => by have := n1 q.2; rw [this.1, this.2] at q; simp at q), if_neg (by rw [n0.1, n0.2]; simp), if_neg (fun q => by have := q.2; simp at this)]
  unfold gS gNx
  by_cases c : eQ T n (kB T n p) = 4 ∧ T (kB T n p) = 59
  · rw [if_pos ⟨rfl, by unfold isSg; rw [decide_eq_true c.1, decide_eq_true c.2]; rfl⟩, if_pos c]
    rfl
  · rw [if_neg (fun q => c (isSg_q q.2)), if_neg c]
theorem cPrice {A : Zr → Prop} {i : Int} (ht : t = 7 ∨ t = 43) (h0 : x.1 = 0) (h : cP s t T n x D) (k : ∀ N' s', N' < N → frT t s s' → cP s' t T n (pPrice T n x D).1 (pPrice T n x D).2 → zT (zE 1153) (Pt PX9_read) N' (13, [((4 : Nat) : Int), ((t : Nat) : Int), w32 (i + 1)], [], s') A) : zC N 516 [((((t + 29) : Nat) : Int), 0)] s (fun p => zT (zE 1153) (Pt PX9_read) N (255, [((4 : Nat) : Int), ((t : Nat) : Int), i], p.1 ++ [(((4 : Nat) : Int), 0)], p.2) A) := by
  have hu : t + 29 = 36 ∨ t + 29 = 72 := by omega
  have hD := h.2.2.2.1 h0
  have hD0 : 0 ≤ s (t + 29) 1 := hD.2.2.1
  have go : ∀ v : Int, (v = 0 ↔ decide (dPr D ≠ 0) = false) → zT (zE 1153) (Pt PX9_read) N (255, [((4 : Nat) : Int), ((t : Nat) : Int), i], [(v, 0), (((4 : Nat) : Int), 0)], s) A := fun v hv => by
    refine b_X9_read_255 _ _ s ht (fun m hm => ?_)
    refine cOn ht h0 hv h (fun s1 f1 h1 => ?_)
    refine b_X9_read_258 _ s1 ht (fun m2 hm2 => ?_)
    have x1n := h1.1.2.2.1
    by_cases hx : (gOn T n (decide (dPr D ≠ 0)) x).1 = 0
    · have hs1 := (h1.2.2.2.1 hx).2.2.1
      refine zC_q ((rd_ok (T := T) (n := n) hu m2).2 0 0 false [] (gOn T n (decide (dPr D ≠ 0)) x) s1 (by omega) (by omega) rfl (fun _ => rfl) h1.1 hx hs1) (fun r hr => ?_)
      obtain ⟨r1, s2⟩ := r
      obtain ⟨e, f2, y, py, hle, hs2, hbad, hgood⟩ := hr
      have e : r1 = [] := e
      subst e
      have f2 : prF (t + 29) s1 s2 := f2
      have py : pst s2 T n y := py
      refine b_X9_read_271 _ s2 ht (fun m3 hm3 => ?_)
      refine zC_q (takeSign_ok (c := 59) py) (fun r hr => ?_)
      obtain ⟨r1, s3⟩ := r
      obtain ⟨e, f3, py3⟩ := hr
      have e : r1 = [] := e
      subst e
      have f3 : frF s2 s3 := f3
      have py3 : pst s3 T n (gS T n 59 y) := py3
      have ey : gS T n 59 y = (pPrice T n x D).1 := by
        have e1 : (pPrice T n x D).1 = aR T n (gOn T n (decide (dPr D ≠ 0)) x).2 true [(false, false)] := if_pos hx
        rw [e1]
        by_cases hy : y.1 = 0
        · obtain ⟨-, c', r1, r2, -⟩ := hgood hy
          rw [r1, aRf_end py.2.2.1 r2]
          obtain ⟨y1, y2⟩ := y
          have : y1 = 0 := hy
          rw [this]
        · rw [hbad hy, gS_nz hy]
      rw [ey] at py3
      have fo : ∀ c j, c ≠ 1 → ¬ (c = t + 29 ∧ j = 1) → c ≠ t + 30 → s3 c j = s1 c j := fun c j a b d => by
        rw [f3 c j (by omega), f2 c j (by omega) b (by omega)]
      have ft : frT t s1 s3 := fun c j a b => by
        rw [f3 c j a, f2 c j a (by omega) (by omega)]
      refine b_X9_read_280 _ s3 ht (fun m4 hm4 => ?_)
      refine k m4 s3 (by omega) (frT_tr f1 ft) ⟨py3, cDn_out (D := D) h1.2.2.1 (fun c j hc => fo c j (by omega) (by omega) (by omega)) h1.2.1, h1.2.2.1, fun q => ?_, fun j => by rw [fo 1000 j (by omega) (by omega) (by omega)]; exact h1.2.2.2.2 j⟩
      obtain ⟨d1, d2, d3, d4⟩ := h1.2.2.2.1 hx
      have hy : y.1 = 0 := by rw [← ey] at q; exact gS_z q
      have p1 : 1 ≤ s2 (t + 29) 1 := (hgood hy).1
      have p2 : s3 (t + 29) 1 = s2 (t + 29) 1 := f3 _ _ (by omega)
      refine ⟨by rw [fo t 5 (by omega) (by omega) (by omega)]; exact d1, by rw [fo t 6 (by omega) (by omega) (by omega)]; exact d2, by omega, ?_⟩
      have e1 : dPr (pPrice T n x D).2 = 1 := rfl
      rw [e1]
      omega
    · refine zC_q ((rf_ok hu m2 s1 h1.1 hx).2 0 (by omega) 0) (fun r hr => ?_)
      obtain ⟨r1, s2⟩ := r
      obtain ⟨e, f2, py⟩ := hr
      have e : r1 = [] := e
      subst e
      have f2 : frF s1 s2 := f2
      refine b_X9_read_271 _ s2 ht (fun m3 hm3 => ?_)
      have h2 : cP s2 t T n (gOn T n (decide (dPr D ≠ 0)) x) (D.1, D.2.1, D.2.2.1, D.2.2.2.1, 1) := by
        have := cP_F ht h1 f2 py (fun q => q)
        exact ⟨this.1, this.2.1, this.2.2.1, fun q => absurd q hx, this.2.2.2.2⟩
      refine cS (c := 59) ht h2 (fun s4 f4 h4 => ?_)
      refine b_X9_read_280 _ s4 ht (fun m4 hm4 => ?_)
      have ey : gS T n 59 (gOn T n (decide (dPr D ≠ 0)) x) = (pPrice T n x D).1 := by
        have e1 : (pPrice T n x D).1 = gOn T n (decide (dPr D ≠ 0)) x := if_neg hx
        rw [e1, gS_nz hx]
      rw [ey] at h4
      exact k m4 s4 (by omega) (frT_tr f1 (frT_tr (frT_F f2) f4)) h4
  refine c_X4_isTold (b_X4_isTold_0 s hu (fun g => ?_) (fun g => ?_))
  · refine go 0 ⟨fun _ => decide_eq_false (fun q => q (hD.2.2.2.mp (by omega))), fun _ => rfl⟩
  · refine go 1 ⟨fun q => absurd q (by decide), fun q => ?_⟩
    have q := of_decide_eq_false q
    exact absurd (hD.2.2.2.mpr (Decidable.byContradiction q)) (by omega)
end Zrd
