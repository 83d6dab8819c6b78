/-! judged -/
theorem b_X6_begin82_0 {n : Nat} {Q : Zr → Prop} {t : Nat} (x2 : Int) (s : Zs) (ht : t = 7 ∨ t = 43)
    (h0 : ∀ m, m < n → zC m 1026 [(((t : Nat) : Int), 0)] s (fun p => zT (zE 768) (Pt PX6_begin) m (5, [((82 : Nat) : Int), ((t : Nat) : Int), x2], p.1 ++ [(((82 : Nat) : Int), 0)], p.2) Q)) : zT (zE 768) (Pt PX6_begin) n (0, [((82 : Nat) : Int), ((t : Nat) : Int), x2], [], s) Q := by
  refine tL ((82 : Nat) : Int) 0 rfl rfl rfl ?_
  refine tL ((t : Nat) : Int) 0 rfl rfl rfl ?_
  exact tCall [(((t : Nat) : Int), 0)] [(((82 : Nat) : Int), 0)] rfl rfl rfl (fun m l => h0 m (Nat.lt_of_lt_of_le l (Nat.le_refl n)))

theorem b_X6_begin82_10 {n : Nat} {Q : Zr → Prop} {t : Nat} (x2 : Int) (s : Zs) (ht : t = 7 ∨ t = 43)
    (h0 : ∀ (g1 : 5 ≤ x2), zT (zE 768) (Pt PX6_begin) n (41, [((82 : Nat) : Int), ((t : Nat) : Int), 0], [], s) Q)
    (h1 : ∀ (g1 : x2 < 5), ∀ m, m < n → zT (zE 768) (Pt PX6_begin) m (10, [((82 : Nat) : Int), ((t : Nat) : Int), w32 (x2 + 1)], [], zu s 83 x2.toNat (s (zrho (t + 23) x2.toNat) 0)) Q) : zT (zE 768) (Pt PX6_begin) n (10, [((82 : Nat) : Int), ((t : Nat) : Int), x2], [], s) Q := by
  refine tL x2 0 rfl rfl rfl ?_
  refine tL ((82 : Nat) : Int) 0 rfl rfl rfl ?_
  refine tFR (c := 82) 83 rfl rfl rfl rfl rfl ?_
  refine tN 5 rfl rfl ?_
  refine tJ3 rfl (fun g1 _ l1 => zT_le ?_ (Nat.le_of_lt l1)) (fun g1 _ l1 => zT_le ?_ (Nat.le_of_lt l1))
  · refine tK rfl ?_
    refine tS [((82 : Nat) : Int), ((t : Nat) : Int), 0] rfl rfl ?_
    exact zT_le (h0 g1) (Nat.le_refl n)
  · refine tL ((82 : Nat) : Int) 0 rfl rfl rfl ?_
    refine tFR (c := 82) 83 rfl rfl rfl rfl rfl ?_
    refine tL x2 0 rfl rfl rfl ?_
    refine tL ((t : Nat) : Int) 0 rfl rfl rfl ?_
    refine tFR (c := t) (t + 23) rfl rfl rfl rfl (zt8_3 ht) ?_
    refine tL x2 0 rfl rfl rfl ?_
    refine tAR (zrho (t + 23) x2.toNat) rfl rfl ?_
    refine tK rfl ?_
    refine tAv (zrho (t + 23) x2.toNat) 0 (s (zrho (t + 23) x2.toNat) 0) 0 rfl rfl rfl (by decide) rfl rfl ?_
    refine tAS 83 x2.toNat rfl rfl rfl (by decide) ?_
    refine tInc [((82 : Nat) : Int), ((t : Nat) : Int), w32 (x2 + 1)] rfl rfl ?_
    exact tGb rfl (fun m2 l2 => h1 g1 m2 (Nat.lt_of_lt_of_le l2 (Nat.le_refl n)))

theorem b_X6_begin82_41 {n : Nat} {Q : Zr → Prop} {t : Nat} (x2 : Int) (s : Zs) (ht : t = 7 ∨ t = 43)
    (h0 : ∀ (g1 : 4 ≤ x2), Q ([], zu (zu (zu s 82 3 (s t 5)) 82 4 0) 82 5 0))
    (h1 : ∀ (g1 : x2 < 4), ∀ m, m < n → zT (zE 768) (Pt PX6_begin) m (41, [((82 : Nat) : Int), ((t : Nat) : Int), w32 (x2 + 1)], [], zu s 84 x2.toNat (s (zrho (t + 17) x2.toNat) 1)) Q) : zT (zE 768) (Pt PX6_begin) n (41, [((82 : Nat) : Int), ((t : Nat) : Int), x2], [], s) Q := by
  refine tL x2 0 rfl rfl rfl ?_
  refine tL ((82 : Nat) : Int) 0 rfl rfl rfl ?_
  refine tFR (c := 82) 84 rfl rfl rfl rfl rfl ?_
  refine tN 4 rfl rfl ?_
  refine tJ3 rfl (fun g1 _ l1 => zT_le ?_ (Nat.le_of_lt l1)) (fun g1 _ l1 => zT_le ?_ (Nat.le_of_lt l1))
  · refine tL ((82 : Nat) : Int) 0 rfl rfl rfl ?_
    refine tL ((t : Nat) : Int) 0 rfl rfl rfl ?_
    refine tFv (c := t) (s t 5) 0 rfl rfl rfl rfl rfl ?_
    refine tPut 82 rfl rfl ?_
    refine tL ((82 : Nat) : Int) 0 rfl rfl rfl ?_
    refine tK rfl ?_
    refine tPut 82 rfl rfl ?_
    refine tL ((82 : Nat) : Int) 0 rfl rfl rfl ?_
    refine tK rfl ?_
    refine tPut 82 rfl rfl ?_
    exact tR rfl (h0 g1)
  · refine tL ((82 : Nat) : Int) 0 rfl rfl rfl ?_
    refine tFR (c := 82) 84 rfl rfl rfl rfl rfl ?_
    refine tL x2 0 rfl rfl rfl ?_
    refine tL ((t : Nat) : Int) 0 rfl rfl rfl ?_
    refine tFR (c := t) (t + 17) rfl rfl rfl rfl (zt8_2 ht) ?_
    refine tL x2 0 rfl rfl rfl ?_
    refine tAR (zrho (t + 17) x2.toNat) rfl rfl ?_
    refine tK rfl ?_
    refine tAv (zrho (t + 17) x2.toNat) 1 (s (zrho (t + 17) x2.toNat) 1) 0 rfl rfl rfl (by decide) rfl rfl ?_
    refine tAS 84 x2.toNat rfl rfl rfl (by decide) ?_
    refine tInc [((82 : Nat) : Int), ((t : Nat) : Int), w32 (x2 + 1)] rfl rfl ?_
    exact tGb rfl (fun m2 l2 => h1 g1 m2 (Nat.lt_of_lt_of_le l2 (Nat.le_refl n)))

theorem b_X6_begin82_5 {n : Nat} {Q : Zr → Prop} {t : Nat} (x2 v0 : Int) (s : Zs) (ht : t = 7 ∨ t = 43)
    (h0 : zT (zE 768) (Pt PX6_begin) n (10, [((82 : Nat) : Int), ((t : Nat) : Int), 0], [], zu s 82 0 v0) Q) : zT (zE 768) (Pt PX6_begin) n (5, [((82 : Nat) : Int), ((t : Nat) : Int), x2], [(v0, 0), (((82 : Nat) : Int), 0)], s) Q := by
  refine tPut 82 rfl rfl ?_
  refine tK rfl ?_
  refine tS [((82 : Nat) : Int), ((t : Nat) : Int), 0] rfl rfl ?_
  exact zT_le (h0) (Nat.le_refl n)


theorem b_X6_does_0 {n : Nat} {Q : Zr → Prop} {t : Nat} (x2 x3 : Int) (s : Zs) (ht : t = 7 ∨ t = 43)
    (h0 : ∀ (g1 : x3 < 0), Q ([(0, 0)], s))
    (h1 : ∀ (g1 : 0 ≤ x3), ∀ (g2 : w32 (x3 + 4) ≤ zq_len x2.toNat), ∀ (g3_0 : s x2.toNat x3.toNat = 17), ∀ m, m < n → zC m 779 [(((82 : Nat) : Int), 0), (((t : Nat) : Int), 0), (s x2.toNat ((w32 (x3 + 1)).toNat), 0)] s (fun p => zT (zE 773) (Pt PX6_does) m (58, [((82 : Nat) : Int), ((t : Nat) : Int), x2, x3], p.1 ++ [], p.2) Q))
    (h2 : ∀ (g1 : 0 ≤ x3), ∀ (g2 : w32 (x3 + 4) ≤ zq_len x2.toNat), ∀ (g3_1 : s x2.toNat x3.toNat = 18), ∀ m, m < n → zC m 769 [(((82 : Nat) : Int), 0), (((t : Nat) : Int), 0), (s x2.toNat ((w32 (x3 + 1)).toNat), 0)] s (fun p => zT (zE 773) (Pt PX6_does) m (78, [((82 : Nat) : Int), ((t : Nat) : Int), x2, x3], p.1 ++ [], p.2) Q))
    (h3 : ∀ (g1 : 0 ≤ x3), ∀ (g2 : w32 (x3 + 4) ≤ zq_len x2.toNat), ∀ (g3_2 : s x2.toNat x3.toNat = 19), ∀ m, m < n → zC m 774 [(((82 : Nat) : Int), 0), (((t : Nat) : Int), 0), (s x2.toNat ((w32 (x3 + 1)).toNat), 0), (s x2.toNat ((w32 (x3 + 2)).toNat), 0)] s (fun p => zT (zE 773) (Pt PX6_does) m (103, [((82 : Nat) : Int), ((t : Nat) : Int), x2, x3], p.1 ++ [], p.2) Q))
    (h4 : ∀ (g1 : 0 ≤ x3), ∀ (g2 : w32 (x3 + 4) ≤ zq_len x2.toNat), ∀ (g3_3 : s x2.toNat x3.toNat = 20), ∀ m, m < n → zC m 770 [(((82 : Nat) : Int), 0), (((t : Nat) : Int), 0), (s x2.toNat ((w32 (x3 + 1)).toNat), 0), (s x2.toNat ((w32 (x3 + 2)).toNat), 0), (s x2.toNat ((w32 (x3 + 3)).toNat), 0)] s (fun p => zT (zE 773) (Pt PX6_does) m (124, [((82 : Nat) : Int), ((t : Nat) : Int), x2, x3], p.1 ++ [], p.2) Q))
    (h5 : ∀ (g1 : 0 ≤ x3), ∀ (g2 : w32 (x3 + 4) ≤ zq_len x2.toNat), ∀ (g3_0 : ¬ s x2.toNat x3.toNat = 17), ∀ (g3_1 : ¬ s x2.toNat x3.toNat = 18), ∀ (g3_2 : ¬ s x2.toNat x3.toNat = 19), ∀ (g3_3 : ¬ s x2.toNat x3.toNat = 20), Q ([(1, 0)], zu s 82 4 (w32 ((s 82 4) + 1))))
    (h6 : ∀ (g1 : 0 ≤ x3), ∀ (g2 : zq_len x2.toNat < w32 (x3 + 4)), Q ([(0, 0)], s)) : zT (zE 773) (Pt PX6_does) n (0, [((82 : Nat) : Int), ((t : Nat) : Int), x2, x3], [], s) Q := by
  refine tL x3 0 rfl rfl rfl ?_
  refine tI2 rfl (fun g1 _ l1 => zT_le ?_ (Nat.le_of_lt l1)) (fun g1 _ l1 => zT_le ?_ (Nat.le_of_lt l1))
  · refine tK rfl ?_
    exact tR rfl (h0 g1)
  · refine tL x3 0 rfl rfl rfl ?_
    refine tK rfl ?_
    refine tB (v := w32 (x3 + 4)) rfl rfl ?_
    refine tL x2 0 rfl rfl rfl ?_
    refine tN (zq_len x2.toNat) rfl rfl ?_
    refine tJ5 rfl (fun g2 _ l2 => zT_le ?_ (Nat.le_of_lt l2)) (fun g2 _ l2 => zT_le ?_ (Nat.le_of_lt l2))
    · refine tL x2 0 rfl rfl rfl ?_
      refine tL x3 0 rfl rfl rfl ?_
      refine tAv x2.toNat x3.toNat (s x2.toNat x3.toNat) 0 rfl rfl rfl (by decide) rfl rfl ?_
      by_cases g3_0 : s x2.toNat x3.toNat = 17
      · refine zW_d (t := 48) rfl (fun go => by rw [g3_0]; rfl) (fun _ l => zT_le ?_ (Nat.le_of_lt l))
        refine tL ((82 : Nat) : Int) 0 rfl rfl rfl ?_
        refine tL ((t : Nat) : Int) 0 rfl rfl rfl ?_
        refine tL x2 0 rfl rfl rfl ?_
        refine tL x3 0 rfl rfl rfl ?_
        refine tK rfl ?_
        refine tB (v := w32 (x3 + 1)) rfl rfl ?_
        refine tAv x2.toNat ((w32 (x3 + 1)).toNat) (s x2.toNat ((w32 (x3 + 1)).toNat)) 0 rfl rfl rfl (by decide) rfl rfl ?_
        exact tCall [(((82 : Nat) : Int), 0), (((t : Nat) : Int), 0), (s x2.toNat ((w32 (x3 + 1)).toNat), 0)] [] rfl rfl rfl (fun m l => h1 g1 g2 g3_0 m (Nat.lt_of_lt_of_le l (Nat.le_refl n)))
      by_cases g3_1 : s x2.toNat x3.toNat = 18
      · refine zW_d (t := 68) rfl (fun go => by rw [g3_1]; rfl) (fun _ l => zT_le ?_ (Nat.le_of_lt l))
        refine tL ((82 : Nat) : Int) 0 rfl rfl rfl ?_
        refine tL ((t : Nat) : Int) 0 rfl rfl rfl ?_
        refine tL x2 0 rfl rfl rfl ?_
        refine tL x3 0 rfl rfl rfl ?_
        refine tK rfl ?_
        refine tB (v := w32 (x3 + 1)) rfl rfl ?_
        refine tAv x2.toNat ((w32 (x3 + 1)).toNat) (s x2.toNat ((w32 (x3 + 1)).toNat)) 0 rfl rfl rfl (by decide) rfl rfl ?_
        exact tCall [(((82 : Nat) : Int), 0), (((t : Nat) : Int), 0), (s x2.toNat ((w32 (x3 + 1)).toNat), 0)] [] rfl rfl rfl (fun m l => h2 g1 g2 g3_1 m (Nat.lt_of_lt_of_le l (Nat.le_refl n)))
      by_cases g3_2 : s x2.toNat x3.toNat = 19
      · refine zW_d (t := 88) rfl (fun go => by rw [g3_2]; rfl) (fun _ l => zT_le ?_ (Nat.le_of_lt l))
        refine tL ((82 : Nat) : Int) 0 rfl rfl rfl ?_
        refine tL ((t : Nat) : Int) 0 rfl rfl rfl ?_
        refine tL x2 0 rfl rfl rfl ?_
        refine tL x3 0 rfl rfl rfl ?_
        refine tK rfl ?_
        refine tB (v := w32 (x3 + 1)) rfl rfl ?_
        refine tAv x2.toNat ((w32 (x3 + 1)).toNat) (s x2.toNat ((w32 (x3 + 1)).toNat)) 0 rfl rfl rfl (by decide) rfl rfl ?_
        refine tL x2 0 rfl rfl rfl ?_
        refine tL x3 0 rfl rfl rfl ?_
        refine tK rfl ?_
        refine tB (v := w32 (x3 + 2)) rfl rfl ?_
        refine tAv x2.toNat ((w32 (x3 + 2)).toNat) (s x2.toNat ((w32 (x3 + 2)).toNat)) 0 rfl rfl rfl (by decide) rfl rfl ?_
        exact tCall [(((82 : Nat) : Int), 0), (((t : Nat) : Int), 0), (s x2.toNat ((w32 (x3 + 1)).toNat), 0), (s x2.toNat ((w32 (x3 + 2)).toNat), 0)] [] rfl rfl rfl (fun m l => h3 g1 g2 g3_2 m (Nat.lt_of_lt_of_le l (Nat.le_refl n)))
      by_cases g3_3 : s x2.toNat x3.toNat = 20
      · refine zW_d (t := 104) rfl (fun go => by rw [g3_3]; rfl) (fun _ l => zT_le ?_ (Nat.le_of_lt l))
        refine tL ((82 : Nat) : Int) 0 rfl rfl rfl ?_
        refine tL ((t : Nat) : Int) 0 rfl rfl rfl ?_
        refine tL x2 0 rfl rfl rfl ?_
        refine tL x3 0 rfl rfl rfl ?_
        refine tK rfl ?_
        refine tB (v := w32 (x3 + 1)) rfl rfl ?_
        refine tAv x2.toNat ((w32 (x3 + 1)).toNat) (s x2.toNat ((w32 (x3 + 1)).toNat)) 0 rfl rfl rfl (by decide) rfl rfl ?_
        refine tL x2 0 rfl rfl rfl ?_
        refine tL x3 0 rfl rfl rfl ?_
        refine tK rfl ?_
        refine tB (v := w32 (x3 + 2)) rfl rfl ?_
        refine tAv x2.toNat ((w32 (x3 + 2)).toNat) (s x2.toNat ((w32 (x3 + 2)).toNat)) 0 rfl rfl rfl (by decide) rfl rfl ?_
        refine tL x2 0 rfl rfl rfl ?_
        refine tL x3 0 rfl rfl rfl ?_
        refine tK rfl ?_
        refine tB (v := w32 (x3 + 3)) rfl rfl ?_
        refine tAv x2.toNat ((w32 (x3 + 3)).toNat) (s x2.toNat ((w32 (x3 + 3)).toNat)) 0 rfl rfl rfl (by decide) rfl rfl ?_
        exact tCall [(((82 : Nat) : Int), 0), (((t : Nat) : Int), 0), (s x2.toNat ((w32 (x3 + 1)).toNat), 0), (s x2.toNat ((w32 (x3 + 2)).toNat), 0), (s x2.toNat ((w32 (x3 + 3)).toNat), 0)] [] rfl rfl rfl (fun m l => h4 g1 g2 g3_3 m (Nat.lt_of_lt_of_le l (Nat.le_refl n)))
      refine zW_d (t := 125) rfl (fun go => zsw_out _ _ (by simp only [List.length_cons, List.length_nil]; omega)) (fun _ l => zT_le ?_ (Nat.le_of_lt l))
      refine tL ((82 : Nat) : Int) 0 rfl rfl rfl ?_
      refine tD rfl ?_
      refine tFv (c := 82) (s 82 4) 0 rfl rfl rfl rfl rfl ?_
      refine tK rfl ?_
      refine tB (v := w32 ((s 82 4) + 1)) rfl rfl ?_
      refine tPut 82 rfl rfl ?_
      refine tK rfl ?_
      exact tR rfl (h5 g1 g2 g3_0 g3_1 g3_2 g3_3)
    · refine tK rfl ?_
      exact tR rfl (h6 g1 g2)

theorem b_X6_does_58 {n : Nat} {Q : Zr → Prop} {t : Nat} (x2 x3 v0 : Int) (s : Zs) (ht : t = 7 ∨ t = 43)
    (h0 : ∀ (g1 : v0 = (-1)), Q ([(0, 0)], s))
    (h1 : ∀ (g1 : v0 ≠ (-1)), Q ([(1, 0)], s)) : zT (zE 773) (Pt PX6_does) n (58, [((82 : Nat) : Int), ((t : Nat) : Int), x2, x3], [(v0, 0)], s) Q := by
  refine tK rfl ?_
  refine tJ0 rfl (fun g1 _ l1 => zT_le ?_ (Nat.le_of_lt l1)) (fun g1 _ l1 => zT_le ?_ (Nat.le_of_lt l1))
  · refine tK rfl ?_
    exact tR rfl (h0 g1)
  · refine tK rfl ?_
    refine tG rfl ?_
    exact tR rfl (h1 g1)

theorem b_X6_does_78 {n : Nat} {Q : Zr → Prop} {t : Nat} (x2 x3 v0 : Int) (s : Zs) (ht : t = 7 ∨ t = 43)
    (h0 : ∀ (g1 : v0 = (-1)), Q ([(0, 0)], s))
    (h1 : ∀ (g1 : v0 ≠ (-1)), Q ([(1, 0)], s)) : zT (zE 773) (Pt PX6_does) n (78, [((82 : Nat) : Int), ((t : Nat) : Int), x2, x3], [(v0, 0)], s) Q := by
  refine tK rfl ?_
  refine tJ0 rfl (fun g1 _ l1 => zT_le ?_ (Nat.le_of_lt l1)) (fun g1 _ l1 => zT_le ?_ (Nat.le_of_lt l1))
  · refine tK rfl ?_
    exact tR rfl (h0 g1)
  · refine tK rfl ?_
    refine tG rfl ?_
    exact tR rfl (h1 g1)

theorem b_X6_does_103 {n : Nat} {Q : Zr → Prop} {t : Nat} (x2 x3 v0 : Int) (s : Zs) (ht : t = 7 ∨ t = 43)
    (h0 : Q ([(v0, 0)], s)) : zT (zE 773) (Pt PX6_does) n (103, [((82 : Nat) : Int), ((t : Nat) : Int), x2, x3], [(v0, 0)], s) Q := by
  exact tR rfl (h0)

theorem b_X6_does_124 {n : Nat} {Q : Zr → Prop} {t : Nat} (x2 x3 v0 : Int) (s : Zs) (ht : t = 7 ∨ t = 43)
    (h0 : Q ([(v0, 0)], s)) : zT (zE 773) (Pt PX6_does) n (124, [((82 : Nat) : Int), ((t : Nat) : Int), x2, x3], [(v0, 0)], s) Q := by
  exact tR rfl (h0)

theorem c_X6_does {n : Nat} {Q : Zr → Prop} {a0 a1 a2 a3 : Int} {s : Zs} (h : zT (zE 773) (Pt PX6_does) n (0, [a0, a1, a2, a3], [], s) Q) : zC n 773 [(a0, 0), (a1, 0), (a2, 0), (a3, 0)] s Q := h

theorem b_X10_judged_0 {n : Nat} {Q : Zr → Prop} {t : Nat} (x1 x2 x3 x4 : Int) (s : Zs) (ht : t = 7 ∨ t = 43)
    (h0 : ∀ (g1 : x1 < 0), Q ([((-2), 0)], s))
    (h1 : ∀ (g1 : 0 ≤ x1), ∀ (g2 : x1 ≤ 2), ∀ m, m < n → zC m 768 [(((82 : Nat) : Int), 0), (s 0 3, 0)] s (fun p => zT (zE 1300) (Pt PX10_judged) m (27, [((0 : Nat) : Int), x1, (-1), (-1), x4], p.1 ++ [], p.2) Q))
    (h2 : ∀ (g1 : 0 ≤ x1), ∀ (g2 : 2 < x1), Q ([((-2), 0)], s)) : zT (zE 1300) (Pt PX10_judged) n (0, [((0 : Nat) : Int), x1, x2, x3, x4], [], s) Q := by
  refine tL x1 0 rfl rfl rfl ?_
  refine tI2 rfl (fun g1 _ l1 => zT_le ?_ (Nat.le_of_lt l1)) (fun g1 _ l1 => zT_le ?_ (Nat.le_of_lt l1))
  · refine tK rfl ?_
    exact tR rfl (h0 g1)
  · refine tL x1 0 rfl rfl rfl ?_
    refine tK rfl ?_
    refine tJ5 rfl (fun g2 _ l2 => zT_le ?_ (Nat.le_of_lt l2)) (fun g2 _ l2 => zT_le ?_ (Nat.le_of_lt l2))
    · refine tK rfl ?_
      refine tS [((0 : Nat) : Int), x1, (-1), x3, x4] rfl rfl ?_
      refine tK rfl ?_
      refine tS [((0 : Nat) : Int), x1, (-1), (-1), x4] rfl rfl ?_
      refine tL ((0 : Nat) : Int) 0 rfl rfl rfl ?_
      refine tFR (c := 0) 82 rfl rfl rfl rfl rfl ?_
      refine tL ((0 : Nat) : Int) 0 rfl rfl rfl ?_
      refine tFv (c := 0) (s 0 3) 0 rfl rfl rfl rfl rfl ?_
      exact tCall [(((82 : Nat) : Int), 0), (s 0 3, 0)] [] rfl rfl rfl (fun m l => h1 g1 g2 m (Nat.lt_of_lt_of_le l (Nat.le_refl n)))
    · refine tK rfl ?_
      exact tR rfl (h2 g1 g2)

theorem b_X10_judged_30 {n : Nat} {Q : Zr → Prop} {t : Nat} (x1 x2 x3 x4 : Int) (s : Zs) (ht : t = 7 ∨ t = 43)
    (h0 : ∀ (g1 : s 85 1 ≤ x4), ∀ (g2 : x1 ≠ 2), ∀ (g3 : x1 ≠ 0), Q ([(x3, 0)], s))
    (h1 : ∀ (g1 : s 85 1 ≤ x4), ∀ (g2 : x1 ≠ 2), ∀ (g3 : x1 = 0), Q ([(x2, 0)], s))
    (h2 : ∀ (g1 : s 85 1 ≤ x4), ∀ (g2 : x1 = 2), Q ([(s 82 5, 0)], s))
    (h3 : ∀ (g1 : x4 < s 85 1), ∀ m, m < n → zC m 773 [(((82 : Nat) : Int), 0), (s 0 3, 0), (((86 : Nat) : Int), 0), (w32 (x4 * 4), 0)] s (fun p => zT (zE 1300) (Pt PX10_judged) m (64, [((0 : Nat) : Int), x1, x2, x3, x4], p.1 ++ [], p.2) Q)) : zT (zE 1300) (Pt PX10_judged) n (30, [((0 : Nat) : Int), x1, x2, x3, x4], [], s) Q := by
  refine tL x4 0 rfl rfl rfl ?_
  refine tL ((0 : Nat) : Int) 0 rfl rfl rfl ?_
  refine tFR (c := 0) 85 rfl rfl rfl rfl rfl ?_
  refine tFv (c := 85) (s 85 1) 0 rfl rfl rfl rfl rfl ?_
  refine tJ3 rfl (fun g1 _ l1 => zT_le ?_ (Nat.le_of_lt l1)) (fun g1 _ l1 => zT_le ?_ (Nat.le_of_lt l1))
  · refine tL x1 0 rfl rfl rfl ?_
    refine tK rfl ?_
    refine tJ1 rfl (fun g2 _ l2 => zT_le ?_ (Nat.le_of_lt l2)) (fun g2 _ l2 => zT_le ?_ (Nat.le_of_lt l2))
    · refine tL x1 0 rfl rfl rfl ?_
      refine tI1 rfl (fun g3 _ l3 => zT_le ?_ (Nat.le_of_lt l3)) (fun g3 _ l3 => zT_le ?_ (Nat.le_of_lt l3))
      · refine tL x3 0 rfl rfl rfl ?_
        exact tR rfl (h0 g1 g2 g3)
      · refine tL x2 0 rfl rfl rfl ?_
        refine tG rfl ?_
        exact tR rfl (h1 g1 g2 g3)
    · refine tL ((0 : Nat) : Int) 0 rfl rfl rfl ?_
      refine tFR (c := 0) 82 rfl rfl rfl rfl rfl ?_
      refine tFv (c := 82) (s 82 5) 0 rfl rfl rfl rfl rfl ?_
      exact tR rfl (h2 g1 g2)
  · refine tL ((0 : Nat) : Int) 0 rfl rfl rfl ?_
    refine tFR (c := 0) 82 rfl rfl rfl rfl rfl ?_
    refine tL ((0 : Nat) : Int) 0 rfl rfl rfl ?_
    refine tFv (c := 0) (s 0 3) 0 rfl rfl rfl rfl rfl ?_
    refine tL ((0 : Nat) : Int) 0 rfl rfl rfl ?_
    refine tFR (c := 0) 85 rfl rfl rfl rfl rfl ?_
    refine tFR (c := 85) 86 rfl rfl rfl rfl rfl ?_
    refine tL x4 0 rfl rfl rfl ?_
    refine tK rfl ?_
    refine tM (v := w32 (x4 * 4)) rfl rfl ?_
    exact tCall [(((82 : Nat) : Int), 0), (s 0 3, 0), (((86 : Nat) : Int), 0), (w32 (x4 * 4), 0)] [] rfl rfl rfl (fun m l => h3 g1 m (Nat.lt_of_lt_of_le l (Nat.le_refl n)))

theorem b_X10_judged_27 {n : Nat} {Q : Zr → Prop} {t : Nat} (x1 x2 x3 x4 : Int) (s : Zs) (ht : t = 7 ∨ t = 43)
    (h0 : zT (zE 1300) (Pt PX10_judged) n (30, [((0 : Nat) : Int), x1, x2, x3, 0], [], s) Q) : zT (zE 1300) (Pt PX10_judged) n (27, [((0 : Nat) : Int), x1, x2, x3, x4], [], s) Q := by
  refine tK rfl ?_
  refine tS [((0 : Nat) : Int), x1, x2, x3, 0] rfl rfl ?_
  exact zT_le (h0) (Nat.le_refl n)

theorem b_X10_judged_64 {n : Nat} {Q : Zr → Prop} {t : Nat} (x1 x2 x3 x4 v0 : Int) (s : Zs) (ht : t = 7 ∨ t = 43)
    (h0 : ∀ (g1 : v0 ≠ 0), ∀ (g2 : x3 ≠ (-1)), ∀ m, m < n → zT (zE 1300) (Pt PX10_judged) m (30, [((0 : Nat) : Int), x1, x2, x3, w32 (x4 + 1)], [], s) Q)
    (h1 : ∀ (g1 : v0 ≠ 0), ∀ (g2 : x3 = (-1)), ∀ m, m < n → zC m 1292 [(((0 : Nat) : Int), 0), (((82 : Nat) : Int), 0)] s (fun p => zT (zE 1300) (Pt PX10_judged) m (95, [((0 : Nat) : Int), x1, x2, x3, x4], p.1 ++ [], p.2) Q))
    (h2 : ∀ (g1 : v0 = 0), ∀ (g4 : x2 ≠ (-1)), ∀ m, m < n → zT (zE 1300) (Pt PX10_judged) m (30, [((0 : Nat) : Int), x1, x2, x3, w32 (x4 + 1)], [], s) Q)
    (h3 : ∀ (g1 : v0 = 0), ∀ (g4 : x2 = (-1)), ∀ m, m < n → zT (zE 1300) (Pt PX10_judged) m (30, [((0 : Nat) : Int), x1, x4, x3, w32 (x4 + 1)], [], s) Q) : zT (zE 1300) (Pt PX10_judged) n (64, [((0 : Nat) : Int), x1, x2, x3, x4], [(v0, 0)], s) Q := by
  refine tI1 rfl (fun g1 _ l1 => zT_le ?_ (Nat.le_of_lt l1)) (fun g1 _ l1 => zT_le ?_ (Nat.le_of_lt l1))
  · refine tL x3 0 rfl rfl rfl ?_
    refine tK rfl ?_
    refine tJ1 rfl (fun g2 _ l2 => zT_le ?_ (Nat.le_of_lt l2)) (fun g2 _ l2 => zT_le ?_ (Nat.le_of_lt l2))
    · refine tInc [((0 : Nat) : Int), x1, x2, x3, w32 (x4 + 1)] rfl rfl ?_
      exact tGb rfl (fun m2 l2 => h0 g1 g2 m2 (Nat.lt_of_lt_of_le l2 (Nat.le_refl n)))
    · refine tL ((0 : Nat) : Int) 0 rfl rfl rfl ?_
      refine tL ((0 : Nat) : Int) 0 rfl rfl rfl ?_
      refine tFR (c := 0) 82 rfl rfl rfl rfl rfl ?_
      exact tCall [(((0 : Nat) : Int), 0), (((82 : Nat) : Int), 0)] [] rfl rfl rfl (fun m l => h1 g1 g2 m (Nat.lt_of_lt_of_le l (Nat.le_refl n)))
  · refine tL x2 0 rfl rfl rfl ?_
    refine tK rfl ?_
    refine tJ1 rfl (fun g4 _ l4 => zT_le ?_ (Nat.le_of_lt l4)) (fun g4 _ l4 => zT_le ?_ (Nat.le_of_lt l4))
    · refine tL x2 0 rfl rfl rfl ?_
      refine tS [((0 : Nat) : Int), x1, x2, x3, x4] rfl rfl ?_
      refine tG rfl ?_
      refine tInc [((0 : Nat) : Int), x1, x2, x3, w32 (x4 + 1)] rfl rfl ?_
      exact tGb rfl (fun m2 l2 => h2 g1 g4 m2 (Nat.lt_of_lt_of_le l2 (Nat.le_refl n)))
    · refine tL x4 0 rfl rfl rfl ?_
      refine tG rfl ?_
      refine tS [((0 : Nat) : Int), x1, x4, x3, x4] rfl rfl ?_
      refine tG rfl ?_
      refine tInc [((0 : Nat) : Int), x1, x4, x3, w32 (x4 + 1)] rfl rfl ?_
      exact tGb rfl (fun m2 l2 => h3 g1 g4 m2 (Nat.lt_of_lt_of_le l2 (Nat.le_refl n)))

theorem b_X10_judged_95 {n : Nat} {Q : Zr → Prop} {t : Nat} (x1 x2 x3 x4 : Int) (s : Zs) (ht : t = 7 ∨ t = 43)
    (h0 : ∀ m, m < n → zC m 1289 [(((0 : Nat) : Int), 0), (s 82 0, 0)] s (fun p => zT (zE 1300) (Pt PX10_judged) m (106, [((0 : Nat) : Int), x1, x2, x3, x4], p.1 ++ [], p.2) Q)) : zT (zE 1300) (Pt PX10_judged) n (95, [((0 : Nat) : Int), x1, x2, x3, x4], [], s) Q := by
  refine tL ((0 : Nat) : Int) 0 rfl rfl rfl ?_
  refine tL ((0 : Nat) : Int) 0 rfl rfl rfl ?_
  refine tFR (c := 0) 82 rfl rfl rfl rfl rfl ?_
  refine tFv (c := 82) (s 82 0) 0 rfl rfl rfl rfl rfl ?_
  exact tCall [(((0 : Nat) : Int), 0), (s 82 0, 0)] [] rfl rfl rfl (fun m l => h0 m (Nat.lt_of_lt_of_le l (Nat.le_refl n)))

theorem b_X10_judged_106 {n : Nat} {Q : Zr → Prop} {t : Nat} (x1 x2 x3 x4 v0 : Int) (s : Zs) (ht : t = 7 ∨ t = 43)
    (h0 : ∀ (g1 : v0 = 0), ∀ m, m < n → zT (zE 1300) (Pt PX10_judged) m (30, [((0 : Nat) : Int), x1, x2, (-1), w32 (x4 + 1)], [], s) Q)
    (h1 : ∀ (g1 : v0 ≠ 0), ∀ m, m < n → zT (zE 1300) (Pt PX10_judged) m (30, [((0 : Nat) : Int), x1, x2, x4, w32 (x4 + 1)], [], s) Q) : zT (zE 1300) (Pt PX10_judged) n (106, [((0 : Nat) : Int), x1, x2, x3, x4], [(v0, 0)], s) Q := by
  refine tI0 rfl (fun g1 _ l1 => zT_le ?_ (Nat.le_of_lt l1)) (fun g1 _ l1 => zT_le ?_ (Nat.le_of_lt l1))
  · refine tK rfl ?_
    refine tS [((0 : Nat) : Int), x1, x2, (-1), x4] rfl rfl ?_
    refine tInc [((0 : Nat) : Int), x1, x2, (-1), w32 (x4 + 1)] rfl rfl ?_
    exact tGb rfl (fun m2 l2 => h0 g1 m2 (Nat.lt_of_lt_of_le l2 (Nat.le_refl n)))
  · refine tL x4 0 rfl rfl rfl ?_
    refine tG rfl ?_
    refine tS [((0 : Nat) : Int), x1, x2, x4, x4] rfl rfl ?_
    refine tInc [((0 : Nat) : Int), x1, x2, x4, w32 (x4 + 1)] rfl rfl ?_
    exact tGb rfl (fun m2 l2 => h1 g1 m2 (Nat.lt_of_lt_of_le l2 (Nat.le_refl n)))

theorem c_X10_judged {n : Nat} {Q : Zr → Prop} {a0 a1 : Int} {s : Zs} (h : zT (zE 1300) (Pt PX10_judged) n (0, [a0, a1, 0, 0, 0], [], s) Q) : zC n 1300 [(a0, 0), (a1, 0)] s Q := h

section Zjd
variable {N t : Nat} {s : Zs} {D : ZD} {S : ZS} {q : List Int} {L : NL}
theorem begin82 (ht : t = 7 ∨ t = 43) (hd : cDn s t D) (hw : wD D) (hh : s t 5 = dHeap D) : zC N 768 [(((82 : Nat) : Int), 0), (((t : Nat) : Int), 0)] s (fun r => r.1 = [] ∧ (∀ c j, ¬ (82 ≤ c ∧ c ≤ 84) → r.2 c j = s c j) ∧ cSt r.2 82 D (begT D) ∧ r.2 82 5 = 0) := by
  have h10 : cnt D 1 ≤ 10 := hw.1 1 (by omega)
  have h5 : cnt D 3 ≤ 5 := hw.1 3 (by omega)
  have h4 : cnt D 2 ≤ 4 := hw.1 2 (by omega)
  have hc : s (t + 1) 1 = ((cnt D 1 : Nat) : Int) := hd.1 1 (by omega)
  have p0 : ∀ p, p < cnt D 3 → s (zrho (t + 23) p) 0 = colD D 30 p := fun p hp => by rw [zrow3 ht (by omega)]; exact cDn_col hd hw (k := 3) (j := 0) (by omega) (by omega) (by decide) hp
  have q0 : ∀ p, p < cnt D 2 → s (zrho (t + 17) p) 1 = colD D 21 p := fun p hp => by rw [zrow2 ht (by omega)]; exact cDn_col hd hw (k := 2) (j := 1) (by omega) (by omega) (by decide) hp
  have rp : ∀ p, p < cnt D 3 → zrho (t + 23) p = t + 18 + p := fun p hp => zrow3 ht (by omega)
  have rq : ∀ p, p < cnt D 2 → zrho (t + 17) p = t + 13 + p := fun p hp => zrow2 ht (by omega)
  have l2 : ∀ (M k : Nat) (s1 : Zs), k ≤ 4 → (∀ c j, ¬ (82 ≤ c ∧ c ≤ 84) → s1 c j = s c j) → s1 82 0 = ((2 ^ cnt D 1 - 1 : Nat) : Int) → (∀ p, p < cnt D 3 → s1 83 p = colD D 30 p) → (∀ i, i < k → i < cnt D 2 → s1 84 i = colD D 21 i) → zT (zE 768) (Pt PX6_begin) M (41, [((82 : Nat) : Int), ((t : Nat) : Int), (k : Int)], [], s1) (fun r => r.1 = [] ∧ (∀ c j, ¬ (82 ≤ c ∧ c ≤ 84) → r.2 c j = s c j) ∧ cSt r.2 82 D (begT D) ∧ r.2 82 5 = 0) := by
    intro M
    induction M using Nat.strongRecOn with
    | ind M ih =>
      intro k s1 hk f1 g0 g1 g2
      refine b_X6_begin82_41 _ s1 ht (fun g => ?_) (fun g m hm => ?_)
      · have W : ∀ s9 : Zs, s9 = zu (zu (zu s1 82 3 (s1 t 5)) 82 4 0) 82 5 0 → (([], s9) : Zr).1 = [] ∧ (∀ c j, ¬ (82 ≤ c ∧ c ≤ 84) → (([], s9) : Zr).2 c j = s c j) ∧ cSt (([], s9) : Zr).2 82 D (begT D) ∧ (([], s9) : Zr).2 82 5 = 0 := fun s9 e9 => by
          have f9 : ∀ c j, ¬ (c = 82 ∧ (j = 3 ∨ j = 4 ∨ j = 5)) → s9 c j = s1 c j := fun c j hc => by rw [e9, zu_n (by omega), zu_n (by omega), zu_n (by omega)]
          refine ⟨rfl, fun c j hc => (f9 c j (by omega)).trans (f1 c j hc), ⟨(f9 _ _ (by omega)).trans g0, fun p hp => (f9 _ _ (by omega)).trans (g1 p hp), fun i hi => (f9 _ _ (by omega)).trans (g2 i (by omega) hi), ?_, ?_⟩, ?_⟩
          · show s9 82 3 = dHeap D
            rw [e9, zu_n (by omega), zu_n (by omega), zu_eq, f1 t 5 (by omega)]; exact hh
          · show s9 82 4 = 0
            rw [e9, zu_n (by omega), zu_eq]
          · show s9 82 5 = 0
            rw [e9, zu_eq]
        exact W _ rfl
      · rw [w32_id (by omega) (by omega), show (k : Int) + 1 = ((k + 1 : Nat) : Int) from by omega, Int.toNat_natCast]
        refine ih m hm (k + 1) _ (by omega) (fun c j hc => by rw [zu_n (by omega)]; exact f1 c j hc) (by rw [zu_n (by omega)]; exact g0) (fun p hp => by rw [zu_n (by omega)]; exact g1 p hp) (fun i hi hi2 => ?_)
        by_cases q : i = k
        · have hk2 : k < cnt D 2 := by omega
          rw [q, zu_eq, f1 _ _ (by rw [rq k hk2]; omega)]
          exact q0 k hk2
        · rw [zu_n (by omega)]; exact g2 i (by omega) hi2
  have l1 : ∀ (M k : Nat) (s1 : Zs), k ≤ 5 → (∀ c j, ¬ (82 ≤ c ∧ c ≤ 84) → s1 c j = s c j) → s1 82 0 = ((2 ^ cnt D 1 - 1 : Nat) : Int) → (∀ p, p < k → p < cnt D 3 → s1 83 p = colD D 30 p) → zT (zE 768) (Pt PX6_begin) M (10, [((82 : Nat) : Int), ((t : Nat) : Int), (k : Int)], [], s1) (fun r => r.1 = [] ∧ (∀ c j, ¬ (82 ≤ c ∧ c ≤ 84) → r.2 c j = s c j) ∧ cSt r.2 82 D (begT D) ∧ r.2 82 5 = 0) := by
    intro M
    induction M using Nat.strongRecOn with
    | ind M ih =>
      intro k s1 hk f1 g0 g1
      refine b_X6_begin82_10 _ s1 ht (fun g => l2 M 0 s1 (by omega) f1 g0 (fun p hp => g1 p (by omega) hp) (fun i hi => absurd hi (Nat.not_lt_zero i))) (fun g m hm => ?_)
      rw [w32_id (by omega) (by omega), show (k : Int) + 1 = ((k + 1 : Nat) : Int) from by omega, Int.toNat_natCast]
      refine ih m hm (k + 1) _ (by omega) (fun c j hc => by rw [zu_n (by omega)]; exact f1 c j hc) (by rw [zu_n (by omega)]; exact g0) (fun i hi hi2 => ?_)
      by_cases q : i = k
      · have hk2 : k < cnt D 3 := by omega
        rw [q, zu_eq, f1 _ _ (by rw [rp k hk2]; omega)]
        exact p0 k hk2
      · rw [zu_n (by omega)]; exact g1 i (by omega) hi2
  refine c_X6_begin (b_X6_begin82_0 _ s ht (fun m _ => ?_))
  refine c_X8_all (b_X8_all_0 s ht ?_)
  rw [hc, pow_all h10]
  refine b_X6_begin82_5 _ _ s ht (l1 m 0 _ (by omega) (fun c j hc => zu_n (by omega)) (zu_eq _ _ _ _) (fun p hp => absurd hp (Nat.not_lt_zero p)))
theorem freshS (hm : mT s D) (hw : wD D) (hh : s 174 5 = dHeap D) : zC N 1440 [(((172 : Nat) : Int), 0)] s (fun r => r.1 = [] ∧ (∀ c j, c ≠ 216 → r.2 c j = s c j) ∧ mSt r.2 216 0 D (begT D) ∧ r.2 216 12 = 0) := by
  have h10 : cnt D 1 ≤ 10 := hw.1 1 (by omega)
  have h5 : cnt D 3 ≤ 5 := hw.1 3 (by omega)
  have h4 : cnt D 2 ≤ 4 := hw.1 2 (by omega)
  have c1 : s 174 1 = ((cnt D 1 : Nat) : Int) := hm.1 1 (by omega)
  have c3 : s 174 3 = ((cnt D 3 : Nat) : Int) := hm.1 3 (by omega)
  have c2 : s 174 2 = ((cnt D 2 : Nat) : Int) := hm.1 2 (by omega)
  have p0 : ∀ p, p < cnt D 3 → s 186 p = colD D 30 p := fun p hp => mcol hm hw (k := 3) (j := 0) (by omega) (by omega) (by decide) (by decide) hp
  have q0 : ∀ p, p < cnt D 2 → s 185 p = colD D 21 p := fun p hp => mcol hm hw (k := 2) (j := 1) (by omega) (by omega) (by decide) (by decide) hp
  have l3 : ∀ (M k : Nat) (s1 : Zs), k ≤ cnt D 2 → (∀ c j, c ≠ 216 → s1 c j = s c j) → s1 216 0 = ((2 ^ cnt D 1 - 1 : Nat) : Int) → (∀ j, j = 11 ∨ j = 12 → s1 216 j = 0) → (∀ p, p < cnt D 3 → s1 216 (1 + p) = colD D 30 p) → (∀ i, i < k → s1 216 (6 + i) = colD D 21 i) → zT (zE 1440) (Pt PX11_fresh) M (65, [((172 : Nat) : Int), (k : Int)], [], s1) (fun r => r.1 = [] ∧ (∀ c j, c ≠ 216 → r.2 c j = s c j) ∧ mSt r.2 216 0 D (begT D) ∧ r.2 216 12 = 0) := by
    intro M
    induction M using Nat.strongRecOn with
    | ind M ih =>
      intro k s1 hk f1 g0 g11 g1 g2
      refine b_X11_fresh_65 _ s1 (fun g => ?_) (fun g m hm' => ?_)
      · rw [f1 _ _ (by omega), c2] at g
        have W : ∀ s9 : Zs, s9 = zu s1 216 10 (s1 174 5) → (([], s9) : Zr).1 = [] ∧ (∀ c j, c ≠ 216 → (([], s9) : Zr).2 c j = s c j) ∧ mSt (([], s9) : Zr).2 216 0 D (begT D) ∧ (([], s9) : Zr).2 216 12 = 0 := fun s9 e9 => by
          have f9 : ∀ c j, ¬ (c = 216 ∧ j = 10) → s9 c j = s1 c j := fun c j hc => by rw [e9, zu_n hc]
          refine ⟨rfl, fun c j hc => (f9 c j (by omega)).trans (f1 c j hc), ⟨(f9 _ _ (by omega)).trans g0, fun p hp => ?_, fun i hi => ?_, ?_, (f9 _ _ (by omega)).trans (g11 11 (Or.inl rfl))⟩, (f9 _ _ (by omega)).trans (g11 12 (Or.inr rfl))⟩
          · show s9 216 (0 + 1 + p) = _
            rw [Nat.zero_add, f9 _ _ (by omega)]; exact g1 p hp
          · show s9 216 (0 + 6 + i) = _
            rw [Nat.zero_add, f9 _ _ (by omega)]; exact g2 i (by omega)
          · show s9 216 10 = dHeap D
            rw [e9, zu_eq, f1 _ _ (by omega)]; exact hh
        exact W _ rfl
      · rw [f1 _ _ (by omega), c2] at g
        have e1 : w32 ((k : Int) + 1) = ((k + 1 : Nat) : Int) := by rw [w32_id (by omega) (by omega)]; omega
        have e6 : (w32 (6 + (k : Int))).toNat = 6 + k := by clear e1; rw [w32_id (by omega) (by omega)]; omega
        rw [e6, e1, Int.toNat_natCast]
        clear e1 e6
        refine ih m hm' (k + 1) _ (by omega) (fun c j hc => by rw [zu_n (by omega)]; exact f1 c j hc) (by rw [zu_n (by omega)]; exact g0) (fun j hj => by rw [zu_n (by omega)]; exact g11 j hj) (fun p hp => by rw [zu_n (by omega)]; exact g1 p hp) (fun i hi => ?_)
        by_cases q : i = k
        · rw [q, zu_eq, f1 _ _ (by omega)]
          exact q0 k (by omega)
        · rw [zu_n (by omega)]; exact g2 i (by omega)
  have l2 : ∀ (M k : Nat) (s1 : Zs), k ≤ cnt D 3 → (∀ c j, c ≠ 216 → s1 c j = s c j) → s1 216 0 = ((2 ^ cnt D 1 - 1 : Nat) : Int) → (∀ j, j = 11 ∨ j = 12 → s1 216 j = 0) → (∀ p, p < k → s1 216 (1 + p) = colD D 30 p) → zT (zE 1440) (Pt PX11_fresh) M (33, [((172 : Nat) : Int), (k : Int)], [], s1) (fun r => r.1 = [] ∧ (∀ c j, c ≠ 216 → r.2 c j = s c j) ∧ mSt r.2 216 0 D (begT D) ∧ r.2 216 12 = 0) := by
    intro M
    induction M using Nat.strongRecOn with
    | ind M ih =>
      intro k s1 hk f1 g0 g11 g1
      refine b_X11_fresh_33 _ s1 (fun g => ?_) (fun g m hm' => ?_)
      all_goals rw [f1 _ _ (by omega), c3] at g
      · exact l3 M 0 s1 (by omega) f1 g0 g11 (fun p hp => g1 p (by omega)) (fun i hi => absurd hi (Nat.not_lt_zero i))
      · have e1 : w32 ((k : Int) + 1) = ((k + 1 : Nat) : Int) := by rw [w32_id (by omega) (by omega)]; omega
        have e6 : (w32 (1 + (k : Int))).toNat = 1 + k := by clear e1; rw [w32_id (by omega) (by omega)]; omega
        rw [e6, e1, Int.toNat_natCast]
        clear e1 e6
        refine ih m hm' (k + 1) _ (by omega) (fun c j hc => by rw [zu_n (by omega)]; exact f1 c j hc) (by rw [zu_n (by omega)]; exact g0) (fun j hj => by rw [zu_n (by omega)]; exact g11 j hj) (fun i hi => ?_)
        by_cases q : i = k
        · rw [q, zu_eq, f1 _ _ (by omega)]
          exact p0 k (by omega)
        · rw [zu_n (by omega)]; exact g1 i (by omega)
  have l1 : ∀ (M k : Nat) (s1 : Zs), k ≤ 13 → (∀ c j, c ≠ 216 → s1 c j = s c j) → (∀ i, i < k → s1 216 i = 0) → zT (zE 1440) (Pt PX11_fresh) M (2, [((172 : Nat) : Int), (k : Int)], [], s1) (fun r => r.1 = [] ∧ (∀ c j, c ≠ 216 → r.2 c j = s c j) ∧ mSt r.2 216 0 D (begT D) ∧ r.2 216 12 = 0) := by
    intro M
    induction M using Nat.strongRecOn with
    | ind M ih =>
      intro k s1 hk f1 g1
      refine b_X11_fresh_2 _ s1 (fun g m hm' => ?_) (fun g m hm' => ?_)
      · refine c_X11_allFlights (b_X11_allFlights_0 s1 ?_)
        rw [f1 _ _ (by omega), c1, pow_all h10]
        refine b_X11_fresh_30 _ _ s1 (l2 m 0 _ (by omega) (fun c j hc => by rw [zu_n (by omega)]; exact f1 c j hc) (zu_eq _ _ _ _) (fun j hj => by rw [zu_n (by omega)]; exact g1 j (by omega)) (fun p hp => absurd hp (Nat.not_lt_zero p)))
      · rw [w32_id (by omega) (by omega), show (k : Int) + 1 = ((k + 1 : Nat) : Int) from by omega, Int.toNat_natCast]
        refine ih m hm' (k + 1) _ (by omega) (fun c j hc => by rw [zu_n (by omega)]; exact f1 c j hc) (fun i hi => ?_)
        by_cases q : i = k
        · rw [q, zu_eq]
        · rw [zu_n (by omega)]; exact g1 i (by omega)
  exact c_X11_fresh (b_X11_fresh_0 _ s (l1 N 0 s (by omega) (fun _ _ _ => rfl) (fun i hi => absurd hi (Nat.not_lt_zero i))))
/-- a line done: how it stands then, what is sold -/
noncomputable def jTo (D : ZD) (q : List Int) (y : ZS × Int) (r : Int × Int × Int × Int) : ZS × Int := if r.1 = 0 then (stlT y.1 r.2.1.toNat, w32 (y.2 + prV D y.1 q r.2.1.toNat)) else if r.1 = 1 then (bldT D y.1 r.2.1.toNat, y.2) else if r.1 = 2 then (goT y.1 r.2.1.toNat r.2.2.1, y.2) else if r.1 = 3 then (carT y.1 r.2.1.toNat r.2.2.2.toNat r.2.2.1, y.2) else (nigT y.1, y.2)
def jCan (D : ZD) (S : ZS) (r : Int × Int × Int × Int) : Prop := (r.1 = 0 → canS D S r.2.1) ∧ (r.1 = 1 → canB D S r.2.1) ∧ (r.1 = 2 → canG D S r.2.1 r.2.2.1) ∧ (r.1 = 3 → canC D S r.2.1 r.2.2.2 r.2.2.1)
section Zjt
variable {y : ZS × Int} {w a b c : Int}
theorem jTo0 : jTo D q y (0, a, b, c) = (stlT y.1 a.toNat, w32 (y.2 + prV D y.1 q a.toNat)) := if_pos rfl
theorem jTo1 : jTo D q y (1, a, b, c) = (bldT D y.1 a.toNat, y.2) := (if_neg (show ¬ (1 : Int) = 0 by decide)).trans (if_pos rfl)
theorem jTo2 : jTo D q y (2, a, b, c) = (goT y.1 a.toNat b, y.2) := (if_neg (show ¬ (2 : Int) = 0 by decide)).trans ((if_neg (show ¬ (2 : Int) = 1 by decide)).trans (if_pos rfl))
theorem jTo3 : jTo D q y (3, a, b, c) = (carT y.1 a.toNat c.toNat b, y.2) := (if_neg (show ¬ (3 : Int) = 0 by decide)).trans ((if_neg (show ¬ (3 : Int) = 1 by decide)).trans ((if_neg (show ¬ (3 : Int) = 2 by decide)).trans (if_pos rfl)))
theorem jTo4 : jTo D q y (4, a, b, c) = (nigT y.1, y.2) := (if_neg (show ¬ (4 : Int) = 0 by decide)).trans ((if_neg (show ¬ (4 : Int) = 1 by decide)).trans ((if_neg (show ¬ (4 : Int) = 2 by decide)).trans (if_neg (show ¬ (4 : Int) = 3 by decide))))
theorem jCan0 : jCan D S (0, a, b, c) ↔ canS D S a := ⟨fun h => h.1 rfl, fun h => ⟨fun _ => h, fun z => absurd z (show ¬ (0 : Int) = 1 by decide), fun z => absurd z (show ¬ (0 : Int) = 2 by decide), fun z => absurd z (show ¬ (0 : Int) = 3 by decide)⟩⟩
theorem jCan1 : jCan D S (1, a, b, c) ↔ canB D S a := ⟨fun h => h.2.1 rfl, fun h => ⟨fun z => absurd z (show ¬ (1 : Int) = 0 by decide), fun _ => h, fun z => absurd z (show ¬ (1 : Int) = 2 by decide), fun z => absurd z (show ¬ (1 : Int) = 3 by decide)⟩⟩
theorem jCan2 : jCan D S (2, a, b, c) ↔ canG D S a b := ⟨fun h => h.2.2.1 rfl, fun h => ⟨fun z => absurd z (show ¬ (2 : Int) = 0 by decide), fun z => absurd z (show ¬ (2 : Int) = 1 by decide), fun _ => h, fun z => absurd z (show ¬ (2 : Int) = 3 by decide)⟩⟩
theorem jCan3 : jCan D S (3, a, b, c) ↔ canC D S a c b := ⟨fun h => h.2.2.2 rfl, fun h => ⟨fun z => absurd z (show ¬ (3 : Int) = 0 by decide), fun z => absurd z (show ¬ (3 : Int) = 1 by decide), fun z => absurd z (show ¬ (3 : Int) = 2 by decide), fun _ => h⟩⟩
theorem jCan4 : jCan D S (4, a, b, c) := ⟨fun z => absurd z (show ¬ (4 : Int) = 0 by decide), fun z => absurd z (show ¬ (4 : Int) = 1 by decide), fun z => absurd z (show ¬ (4 : Int) = 2 by decide), fun z => absurd z (show ¬ (4 : Int) = 3 by decide)⟩
/-- a line, done if it can be -/
noncomputable def jGo (D : ZD) (q : List Int) (y : ZS × Int) (r : Int × Int × Int × Int) : ZS × Int := if dcP (jCan D y.1 r) = true then jTo D q y r else y
theorem jGo_y {r : Int × Int × Int × Int} (h : jCan D y.1 r) : jGo D q y r = jTo D q y r := if_pos (dcP_yes h)
theorem jGo_n {r : Int × Int × Int × Int} (h : ¬ jCan D y.1 r) : jGo D q y r = y := if_neg (by rw [dcP_no h]; decide)
theorem jGo_W {r : Int × Int × Int × Int} (hw : wD D) (hX : wX D) (h : wS D y.1) : wS D (jGo D q y r).1 := by
  by_cases c : jCan D y.1 r
  · rw [jGo_y c]
    unfold jTo
    by_cases h0 : r.1 = 0
    · rw [if_pos h0]; exact wS_stl hw h _
    rw [if_neg h0]
    by_cases h1 : r.1 = 1
    · rw [if_pos h1]; exact wS_bld hw hX h (c.2.1 h1)
    rw [if_neg h1]
    by_cases h2 : r.1 = 2
    · rw [if_pos h2]; exact wS_go h (c.2.2.1 h2).2.2.1
    rw [if_neg h2]
    by_cases h3 : r.1 = 3
    · rw [if_pos h3]; exact wS_car h (c.2.2.2 h3).2.2.2.2.2.1
    rw [if_neg h3]
    exact wS_nig h
  · rw [jGo_n c]; exact h
end Zjt
theorem w32_s {k : Nat} (h : k < 2147483647) : w32 ((k : Int) + 1) = ((k + 1 : Nat) : Int) := by
  rw [w32_id (by omega) (by omega)]
  omega
theorem w32_4 {k : Nat} (h : k < 500000000) : w32 ((k : Int) * 4) = ((4 * k : Nat) : Int) := by
  rw [w32_id (by omega) (by omega)]
  omega
/-! the class -/
def jQ (t : Nat) (D : ZD) (q : List Int) (s : Zs) (y : ZS × Int) (r : Int × Int × Int × Int) (o : Zr) : Prop := o.1 = [(if dcP (jCan D y.1 r) = true then 1 else 0, 0)] ∧ frY t s o.2 ∧ cSt o.2 82 D (jGo D q y r).1 ∧ o.2 82 5 = (jGo D q y r).2
theorem jQ_n {y : ZS × Int} {r : Int × Int × Int × Int} (c : cSt s 82 D y.1) (u : s 82 5 = y.2) (h : ¬ jCan D y.1 r) : jQ t D q s y r ([(0, 0)], s) := by
  unfold jQ
  rw [jGo_n h, if_neg (by rw [dcP_no h]; decide)]
  exact ⟨rfl, frY_rf, c, u⟩
theorem does_c {y : ZS × Int} (ht : t = 7 ∨ t = 43) (hw : wD D) (hX : wX D) (B : yrB0 s t D q) (c : cSt s 82 D y.1) (u : s 82 5 = y.2) (W : wS D y.1) {k : Nat} (hk : k < 40) {r : Int × Int × Int × Int} (hr : rowC s 86 k r) (ho : nlO D r) : zC N 773 [(((82 : Nat) : Int), 0), (((t : Nat) : Int), 0), (((86 : Nat) : Int), 0), (((4 * k : Nat) : Int), 0)] s (jQ t D q s y r) := by
  obtain ⟨w, a, b, d⟩ := r
  obtain ⟨r1, r2, r3, r4, r5, r6⟩ := hr
  obtain ⟨o1, o2, o3⟩ := ho
  have hz : zq_len ((86 : Nat) : Int).toNat = 160 := by decide +kernel
  have k4 : w32 (((4 * k : Nat) : Int) + 4) = ((4 * k : Nat) : Int) + 4 := w32_id (by omega) (by omega)
  have k1 : (w32 (((4 * k : Nat) : Int) + 1)).toNat = 4 * k + 1 := by rw [w32_id (by omega) (by omega)]; omega
  have k2 : (w32 (((4 * k : Nat) : Int) + 2)).toNat = 4 * k + 2 := by rw [w32_id (by omega) (by omega)]; omega
  have k3 : (w32 (((4 * k : Nat) : Int) + 3)).toNat = 4 * k + 3 := by rw [w32_id (by omega) (by omega)]; omega
  have e0 : s ((86 : Nat) : Int).toNat ((4 * k : Nat) : Int).toNat = 17 + w := by rw [Int.toNat_natCast, Int.toNat_natCast]; exact r1
  have r2 : 0 ≤ w := r2
  have r3 : w ≤ 4 := r3
  refine c_X6_does (b_X6_does_0 _ _ s ht (fun g => False.elim (by omega)) (fun _ _ g m _ => ?_) (fun _ _ g m _ => ?_) (fun _ _ g m _ => ?_) (fun _ _ g m _ => ?_) (fun _ _ g1 g2 g3 g4 => ?_) (fun _ g => False.elim (by rw [hz, k4] at g; omega)))
  · rw [e0] at g
    have w0 : w = 0 := by omega
    subst w0
    rw [Int.toNat_natCast, k1, r4 (by show (0 : Int) ≤ 3; decide)]
    have oa := o1 (Or.inl rfl)
    have Q := B.2.2.2 (by have := oa.1; have := oa.2; omega)
    refine zC_a (steals_okE ht (b := 82) rfl B.2.1 hw hX c W B.2.2.1 Q) (steals_ok ht (b := 82) rfl B.2.1 hw c W B.2.2.1) (fun z hz1 hz2 => ?_)
    obtain ⟨z1, s1⟩ := z
    by_cases can : canS D y.1 a
    · obtain ⟨e, e5⟩ := hz1.1 can
      obtain ⟨⟨v, ev, hv⟩, c1, f1⟩ := hz2.1 can
      have ev : z1 = [(v, 0)] := ev
      subst ev
      have f1 : ∀ c j, ¬ (c = 82 ∧ (j = 0 ∨ j = 5)) → c ≠ t + 31 → s1 c j = s c j := f1
      have e5 : s1 82 5 = w32 (s 82 5 + prV D y.1 q a.toNat) := e5
      have c1 : cSt s1 82 D (stlT y.1 a.toNat) := c1
      rw [u] at e5
      refine b_X6_does_58 _ _ _ s1 ht (fun g => absurd g (by omega)) (fun _ => ?_)
      have jc : jCan D y.1 (0, a, b, d) := jCan0.mpr can
      unfold jQ
      rw [jGo_y jc, jTo0, if_pos (dcP_yes jc)]
      exact ⟨rfl, fun c j a b d => f1 c j (by omega) d, c1, e5⟩
    · have e := hz1.2 can
      cases e
      exact b_X6_does_58 _ _ _ s ht (fun _ => jQ_n c u (fun z => can (jCan0.mp z))) (fun z => absurd rfl z)
  · rw [e0] at g
    have w0 : w = 1 := by omega
    subst w0
    rw [Int.toNat_natCast, k1, r4 (by show (1 : Int) ≤ 3; decide)]
    refine zC_q (builds_ok ht (b := 82) rfl B.2.1 hw hX c W) (fun z hz1 => ?_)
    obtain ⟨z1, s1⟩ := z
    by_cases can : canB D y.1 a
    · obtain ⟨e, c1, f1⟩ := hz1.1 can
      have e : z1 = [(sHp (bldT D y.1 a.toNat), 0)] := e
      subst e
      have f1 : ∀ c j, ¬ (c = 82 ∧ (j = 0 ∨ j = 3)) → s1 c j = s c j := f1
      have hb := (bld_hp hw hX W can).2.1
      refine b_X6_does_78 _ _ _ s1 ht (fun g => absurd g (by omega)) (fun _ => ?_)
      have jc : jCan D y.1 (1, a, b, d) := jCan1.mpr can
      unfold jQ
      rw [jGo_y jc, jTo1, if_pos (dcP_yes jc)]
      exact ⟨rfl, fun c j a b d => f1 c j (by omega), c1, (f1 _ _ (by omega)).trans u⟩
    · have e := hz1.2 can
      cases e
      exact b_X6_does_78 _ _ _ s ht (fun _ => jQ_n c u (fun z => can (jCan1.mp z))) (fun z => absurd rfl z)
  · rw [e0] at g
    have w0 : w = 2 := by omega
    subst w0
    have pl : plI D b := (o2 (Or.inl rfl)).2.2
    have pb := plI_nat hw pl
    have hb : b < 2147483648 := by have := pb.2.1; have := pb.2.2; omega
    rw [Int.toNat_natCast, k1, k2, r4 (by show (2 : Int) ≤ 3; decide), r5 rfl]
    refine zC_q (goes_ok ht (b := 82) rfl B.2.1 hw hX c W hb) (fun z hz1 => ?_)
    obtain ⟨z1, s1⟩ := z
    by_cases can : canG D y.1 a b
    · obtain ⟨e, c1, f1⟩ := hz1.1 can
      have e : z1 = [(1, 0)] := e
      subst e
      have f1 : ∀ c j, c ≠ 82 + 1 → s1 c j = s c j := f1
      refine b_X6_does_103 _ _ _ s1 ht ?_
      have jc : jCan D y.1 (2, a, b, d) := jCan2.mpr can
      unfold jQ
      rw [jGo_y jc, jTo2, if_pos (dcP_yes jc)]
      exact ⟨rfl, fun c j a b d => f1 c j (by omega), c1, (f1 _ _ (by omega)).trans u⟩
    · have e := hz1.2 can
      cases e
      exact b_X6_does_103 _ _ _ s ht (jQ_n c u (fun z => can (jCan2.mp z)))
  · rw [e0] at g
    have w0 : w = 3 := by omega
    subst w0
    have pl : plI D b := (o2 (Or.inr rfl)).2.2
    have pb := plI_nat hw pl
    have hb : b < 2147483648 := by have := pb.2.1; have := pb.2.2; omega
    rw [Int.toNat_natCast, k1, k2, k3, r4 (by show (3 : Int) ≤ 3; decide), (r6 rfl).1, (r6 rfl).2]
    refine zC_q (carries_ok ht (b := 82) rfl B.2.1 hw hX c W hb) (fun z hz1 => ?_)
    obtain ⟨z1, s1⟩ := z
    by_cases can : canC D y.1 a d b
    · obtain ⟨e, c1, f1⟩ := hz1.1 can
      have e : z1 = [(1, 0)] := e
      subst e
      have f1 : ∀ c j, c ≠ 82 + 1 → c ≠ 82 + 2 → s1 c j = s c j := f1
      refine b_X6_does_124 _ _ _ s1 ht ?_
      have jc : jCan D y.1 (3, a, b, d) := jCan3.mpr can
      unfold jQ
      rw [jGo_y jc, jTo3, if_pos (dcP_yes jc)]
      exact ⟨rfl, fun c j a b d => f1 c j (by omega) (by omega), c1, (f1 _ _ (by omega) (by omega)).trans u⟩
    · have e := hz1.2 can
      cases e
      exact b_X6_does_124 _ _ _ s ht (jQ_n c u (fun z => can (jCan3.mp z)))
  · rw [e0] at g1 g2 g3 g4
    have w0 : w = 4 := by omega
    subst w0
    have jc : jCan D y.1 (4, a, b, d) := jCan4
    unfold jQ
    rw [jGo_y jc, jTo4, if_pos (dcP_yes jc)]
    refine ⟨rfl, fun c j a b d => zu_n (by omega), nig_Y c, ?_⟩
    show zu s 82 4 (w32 (s 82 4 + 1)) 82 5 = _
    rw [zu_n (by omega)]
    exact u
/-- line by line: how it stands, what is sold; the first that can't be; the first behind which somebody is cut off -/
noncomputable def jd1 (D : ZD) (q : List Int) (k : Nat) (r : Int × Int × Int × Int) (z : (ZS × Int) × Int × Int) : (ZS × Int) × Int × Int := (jGo D q z.1 r, if dcP (jCan D z.1.1 r) = true then z.2.1 else if z.2.1 = -1 then ((k : Nat) : Int) else z.2.1, if dcP (jCan D z.1.1 r) = true then (if z.2.2 = -1 then (if cuV D (jGo D q z.1 r).1 (sTh (jGo D q z.1 r).1) = 0 then -1 else ((k : Nat) : Int)) else z.2.2) else z.2.2)
noncomputable def jdR (D : ZD) (q : List Int) (L : NL) : Nat → (ZS × Int) × Int × Int
  | 0 => ((begT D, 0), -1, -1)
  | k + 1 => jd1 D q k (L.getD k (4, 0, 0, 0)) (jdR D q L k)
noncomputable def jdV (D : ZD) (q : List Int) (L : NL) (w : Int) : Int := if 0 ≤ w ∧ w ≤ 2 then (if w = 0 then (jdR D q L L.length).2.1 else if w = 1 then (jdR D q L L.length).2.2 else (jdR D q L L.length).1.2) else -2
theorem jdR_W (hw : wD D) (hX : wX D) (hb : wS D (begT D)) : ∀ k, wS D (jdR D q L k).1.1
  | 0 => hb
  | k + 1 => jGo_W hw hX (jdR_W hw hX hb k)
theorem jdR_b : ∀ k, -1 ≤ (jdR D q L k).2.1 ∧ -1 ≤ (jdR D q L k).2.2
  | 0 => ⟨Int.le_refl _, Int.le_refl _⟩
  | k + 1 => by
    have ih := jdR_b k
    constructor
    · show -1 ≤ (if _ then _ else _)
      split
      · exact ih.1
      · split
        · exact Int.le_trans (by decide) (Int.natCast_nonneg k)
        · exact ih.1
    · show -1 ≤ (if _ then _ else _)
      split
      · split
        · split
          · exact Int.le_refl _
          · exact Int.le_trans (by decide) (Int.natCast_nonneg k)
        · exact ih.2
      · exact ih.2
theorem jdR_n {k : Nat} (h : ¬ jCan D (jdR D q L k).1.1 (L.getD k (4, 0, 0, 0))) : jdR D q L (k + 1) = ((jdR D q L k).1, if (jdR D q L k).2.1 = -1 then ((k : Nat) : Int) else (jdR D q L k).2.1, (jdR D q L k).2.2) := by
  have e : dcP (jCan D (jdR D q L k).1.1 (L.getD k (4, 0, 0, 0))) = false := dcP_no h
  show jd1 D q k _ _ = _
  unfold jd1
  rw [e, jGo_n h]
  rfl
theorem jdR_y {k : Nat} (h : jCan D (jdR D q L k).1.1 (L.getD k (4, 0, 0, 0))) : jdR D q L (k + 1) = (jGo D q (jdR D q L k).1 (L.getD k (4, 0, 0, 0)), (jdR D q L k).2.1, if (jdR D q L k).2.2 = -1 then (if cuV D (jGo D q (jdR D q L k).1 (L.getD k (4, 0, 0, 0))).1 (sTh (jGo D q (jdR D q L k).1 (L.getD k (4, 0, 0, 0))).1) = 0 then -1 else ((k : Nat) : Int)) else (jdR D q L k).2.2) := by
  have e : dcP (jCan D (jdR D q L k).1.1 (L.getD k (4, 0, 0, 0))) = true := dcP_yes h
  show jd1 D q k _ _ = _
  unfold jd1
  rw [e]
  rfl
theorem jd_at {k : Nat} (h : k < L.length) : L[k]? = some (L.getD k (4, 0, 0, 0)) := by
  rw [List.getD_eq_getElem?_getD, List.getElem?_eq_getElem h]
  rfl
theorem jdV_no {w : Int} (h : ¬ (0 ≤ w ∧ w ≤ 2)) : jdV D q L w = -2 := if_neg h
theorem jdV_0 : jdV D q L 0 = (jdR D q L L.length).2.1 := (if_pos ⟨by decide, by decide⟩).trans (if_pos rfl)
theorem jdV_1 : jdV D q L 1 = (jdR D q L L.length).2.2 := (if_pos ⟨by decide, by decide⟩).trans ((if_neg (by decide)).trans (if_pos rfl))
theorem jdV_2 : jdV D q L 2 = (jdR D q L L.length).1.2 := (if_pos ⟨by decide, by decide⟩).trans ((if_neg (by decide)).trans (if_neg (by decide)))
def frJ (t : Nat) (s s' : Zs) : Prop := ∀ c j, ¬ (82 ≤ c ∧ c ≤ 84) → c ≠ 164 → ¬ (c = 0 ∧ j = 15) → c ≠ t + 31 → s' c j = s c j
theorem frJ_rf : frJ t s s := fun _ _ _ _ _ _ => rfl
theorem yrB0_J {s' : Zs} (ht : t = 7 ∨ t = 43) (hw : wD D) (h : yrB0 s t D q) (f : frJ t s s') : yrB0 s' t D q := by
  refine ⟨(f 0 3 (by omega) (by omega) (by omega) (by omega)).trans h.1, cDn_e h.2.1 hw (fun c j hc => f c j (by omega) (by omega) (by omega) (by omega)), fun k hk => (f (t + 35) k (by omega) (by omega) (by omega) (by omega)).trans (h.2.2.1 k hk), fun c => prR_e (h.2.2.2 c) (fun c j a => ?_)⟩
  unfold prcC at a
  exact f c j (by omega) (by omega) (by omega) (by omega)
theorem judged_c (ht : t = 7 ∨ t = 43) (hw : wD D) (hX : wX D) (B : yrB0 s t D q) (hh : s t 5 = dHeap D) (hb : wS D (begT D)) (l1 : s 85 1 = ((L.length : Nat) : Int)) (l2 : linC s 86 L) (l3 : ∀ r, r ∈ L → nlO D r) {x : Int} : zC N 1300 [(((0 : Nat) : Int), 0), (x, 0)] s (fun r => r.1 = [(jdV D q L x, 0)]) := by
  have no : ¬ (0 ≤ x ∧ x ≤ 2) → (([((-2 : Int), 0)], s) : Zr).1 = [(jdV D q L x, 0)] := fun h => by rw [jdV_no h]
  refine c_X10_judged (b_X10_judged_0 _ _ _ _ s ht (fun g => no (by omega)) (fun g1 g2 m _ => ?_) (fun _ g => no (by omega)))
  rw [B.1]
  refine zC_q (begin82 ht B.2.1 hw hh) (fun r hr => ?_)
  obtain ⟨r1, s1⟩ := r
  obtain ⟨e, f1, C1, U1⟩ := hr
  have e : r1 = [] := e
  subst e
  have f1 : ∀ c j, ¬ (82 ≤ c ∧ c ≤ 84) → s1 c j = s c j := f1
  have C1 : cSt s1 82 D (begT D) := C1
  have U1 : s1 82 5 = 0 := U1
  refine b_X10_judged_27 _ _ _ _ s1 ht ?_
  have h40 := l2.1
  have loop : ∀ (M k : Nat) (s4 : Zs), k ≤ L.length → frJ t s s4 → cSt s4 82 D (jdR D q L k).1.1 → s4 82 5 = (jdR D q L k).1.2 → zT (zE 1300) (Pt PX10_judged) M (30, [((0 : Nat) : Int), x, (jdR D q L k).2.1, (jdR D q L k).2.2, (k : Int)], [], s4) (fun r => r.1 = [(jdV D q L x, 0)]) := by
    intro M
    induction M using Nat.strongRecOn with
    | ind M ih =>
      intro k s4 hk f4 C4 U4
      have B4 := yrB0_J ht hw B f4
      have W4 := jdR_W (q := q) (L := L) hw hX hb k
      have L4 : s4 85 1 = ((L.length : Nat) : Int) := (f4 _ _ (by omega) (by omega) (by omega) (by omega)).trans l1
      refine b_X10_judged_30 _ _ _ _ s4 ht (fun g h h2 => ?_) (fun g h h2 => ?_) (fun g h => ?_) (fun g m2 hm2 => ?_)
      all_goals rw [L4] at g
      · have e : k = L.length := by omega
        subst e
        have x1 : x = 1 := by omega
        subst x1
        rw [jdV_1]
      · have e : k = L.length := by omega
        subst e
        subst h2
        rw [jdV_0]
      · have e : k = L.length := by omega
        subst e
        subst h
        rw [jdV_2]
        show [(s4 82 5, 0)] = _
        rw [U4]
      · have hkl : k < L.length := by omega
        have la := jd_at hkl
        rw [w32_4 (k := k) (by omega), B4.1]
        refine zC_q (does_c ht hw hX B4 C4 U4 W4 (by omega) (rowC_e (l2.2 k _ la) (fun j _ => f4 _ _ (by omega) (by omega) (by omega) (by omega))) (l3 _ (List.mem_of_getElem? la))) (fun r hr => ?_)
        obtain ⟨r1, s5⟩ := r
        obtain ⟨e, f5, C5, U5⟩ := hr
        have e : r1 = [(if dcP (jCan D (jdR D q L k).1.1 (L.getD k (4, 0, 0, 0))) = true then 1 else 0, 0)] := e
        subst e
        have f5 : frY t s4 s5 := f5
        have F5 : frJ t s s5 := fun c j a b d e => (f5 c j a d e).trans (f4 c j a b d e)
        have C5 : cSt s5 82 D (jGo D q (jdR D q L k).1 (L.getD k (4, 0, 0, 0))).1 := C5
        have U5 : s5 82 5 = (jGo D q (jdR D q L k).1 (L.getD k (4, 0, 0, 0))).2 := U5
        by_cases can : jCan D (jdR D q L k).1.1 (L.getD k (4, 0, 0, 0))
        · have ey := jdR_y can
          have C6 : cSt s5 82 D (jdR D q L (k + 1)).1.1 := C5
          have U6 : s5 82 5 = (jdR D q L (k + 1)).1.2 := U5
          rw [if_pos (dcP_yes can)]
          refine b_X10_judged_64 _ _ _ _ _ s5 ht (fun _ h m3 hm3 => ?_) (fun _ h m3 hm3 => ?_) (fun z => absurd z (by decide)) (fun z => absurd z (by decide))
          · have z1 : (jdR D q L (k + 1)).2.1 = (jdR D q L k).2.1 := by rw [ey]
            have z2 : (jdR D q L (k + 1)).2.2 = (jdR D q L k).2.2 := by rw [ey]; exact if_neg h
            rw [w32_s (k := k) (by omega), ← z1, ← z2]
            exact ih m3 (by omega) (k + 1) s5 (by omega) F5 C6 U6
          · have B5 := yrB0_J ht hw B F5
            have W5 := jdR_W (q := q) (L := L) hw hX hb (k + 1)
            refine zC_q (fillLacks_c ht (b := 82) rfl B5.1 B5.2.1 hw hX C6 W5) (fun r hr => ?_)
            obtain ⟨r1, s6⟩ := r
            obtain ⟨e, f6, g6⟩ := hr
            have e : r1 = [] := e
            subst e
            have f6 : ∀ c j, c ≠ 164 → s6 c j = s5 c j := f6
            have F6 : frJ t s s6 := fun c j a b d e => (f6 c j b).trans (F5 c j a b d e)
            have B6 := yrB0_J ht hw B F6
            have C7 : cSt s6 82 D (jdR D q L (k + 1)).1.1 := cSt_e C6 (fun c j a b _ => f6 c j (by omega))
            have U7 : s6 82 5 = (jdR D q L (k + 1)).1.2 := (f6 _ _ (by omega)).trans U6
            refine b_X10_judged_95 _ _ _ _ s6 ht (fun m4 hm4 => ?_)
            rw [show s6 82 0 = ((sTh (jdR D q L (k + 1)).1.1 : Nat) : Int) from C7.1]
            refine zC_q (cutBy_c ht B6.1 B6.2.1 hw hX W5 g6 (wS_lt hw W5)) (fun r hr => ?_)
            subst hr
            have z1 : (jdR D q L (k + 1)).2.1 = (jdR D q L k).2.1 := by rw [ey]
            have z2 : (jdR D q L (k + 1)).2.2 = if cuV D (jdR D q L (k + 1)).1.1 (sTh (jdR D q L (k + 1)).1.1) = 0 then -1 else ((k : Nat) : Int) := by
              rw [ey]
              exact if_pos h
            refine b_X10_judged_106 _ _ _ _ _ s6 ht (fun g7 m5 hm5 => ?_) (fun g7 m5 hm5 => ?_)
            · have c0 : cuV D (jdR D q L (k + 1)).1.1 (sTh (jdR D q L (k + 1)).1.1) = 0 := by omega
              rw [if_pos c0] at z2
              rw [w32_s (k := k) (by omega), ← z1, ← z2]
              exact ih m5 (by omega) (k + 1) s6 (by omega) F6 C7 U7
            · have c0 : ¬ cuV D (jdR D q L (k + 1)).1.1 (sTh (jdR D q L (k + 1)).1.1) = 0 := by omega
              rw [if_neg c0] at z2
              rw [w32_s (k := k) (by omega), ← z1, ← z2]
              exact ih m5 (by omega) (k + 1) s6 (by omega) F6 C7 U7
        · have en := jdR_n can
          have C6 : cSt s5 82 D (jdR D q L (k + 1)).1.1 := C5
          have U6 : s5 82 5 = (jdR D q L (k + 1)).1.2 := U5
          have z2 : (jdR D q L (k + 1)).2.2 = (jdR D q L k).2.2 := by rw [en]
          rw [if_neg (by rw [dcP_no can]; decide)]
          refine b_X10_judged_64 _ _ _ _ _ s5 ht (fun z => absurd rfl z) (fun z => absurd rfl z) (fun _ h m3 hm3 => ?_) (fun _ h m3 hm3 => ?_)
          · have z1 : (jdR D q L (k + 1)).2.1 = (jdR D q L k).2.1 := by rw [en]; exact if_neg h
            rw [w32_s (k := k) (by omega), ← z1, ← z2]
            exact ih m3 (by omega) (k + 1) s5 (by omega) F5 C6 U6
          · have z1 : (jdR D q L (k + 1)).2.1 = ((k : Nat) : Int) := by rw [en]; exact if_pos h
            have ih := ih m3 (by omega) (k + 1) s5 (by omega) F5 C6 U6
            rw [z1, z2] at ih
            rw [w32_s (k := k) (by omega)]
            exact ih
  exact loop m 0 s1 (by omega) (fun c j a _ _ _ => f1 c j a) C1 U1
/-! the model -/
theorem go_Z {s2 : Zs} {k : Nat} {v : Int} (c : mSt s2 216 0 D S) (hw : wD D) (hk : k < cnt D 3) : mSt (zu s2 216 ((w32 (1 + ((k : Nat) : Int))).toNat) v) 216 0 D (goT S k v) := by
  have h5 : cnt D 3 ≤ 5 := hw.1 3 (by omega)
  have h4 : cnt D 2 ≤ 4 := hw.1 2 (by omega)
  have e : (w32 (1 + ((k : Nat) : Int))).toNat = 1 + k := by rw [w32_id (by omega) (by omega)]; omega
  rw [e]
  clear e
  obtain ⟨a1, a2, a3, a4, a5⟩ := c
  refine ⟨(zu_n (by omega)).trans a1, fun p hp => ?_, fun p hp => (zu_n (by omega)).trans (a3 p hp), (zu_n (by omega)).trans a4, (zu_n (by omega)).trans a5⟩
  show zu s2 216 (1 + k) v 216 (0 + 1 + p) = if p = k then v else S.2.1 p
  by_cases q : p = k
  · rw [if_pos q, q, show 0 + 1 + k = 1 + k from by omega, zu_eq]
  · rw [if_neg q, zu_n (by omega)]; exact a2 p hp
theorem car_Z {s2 : Zs} {k i : Nat} {v : Int} (c : mSt s2 216 0 D S) (hw : wD D) (hk : k < cnt D 3) (hi : i < cnt D 2) : mSt (zu (zu s2 216 ((w32 (1 + ((k : Nat) : Int))).toNat) v) 216 ((w32 (6 + ((i : Nat) : Int))).toNat) v) 216 0 D (carT S k i v) := by
  have h5 : cnt D 3 ≤ 5 := hw.1 3 (by omega)
  have h4 : cnt D 2 ≤ 4 := hw.1 2 (by omega)
  have e : (w32 (1 + ((k : Nat) : Int))).toNat = 1 + k := by rw [w32_id (by omega) (by omega)]; omega
  have e6 : (w32 (6 + ((i : Nat) : Int))).toNat = 6 + i := by clear e; rw [w32_id (by omega) (by omega)]; omega
  rw [e, e6]
  clear e e6
  obtain ⟨a1, a2, a3, a4, a5⟩ := c
  have v2 : ∀ j, j ≠ 1 + k → j ≠ 6 + i → zu (zu s2 216 (1 + k) v) 216 (6 + i) v 216 j = s2 216 j := fun j a b => by rw [zu_n (by omega), zu_n (by omega)]
  refine ⟨(v2 _ (by omega) (by omega)).trans a1, fun p hp => ?_, fun p hp => ?_, (v2 _ (by omega) (by omega)).trans a4, (v2 _ (by omega) (by omega)).trans a5⟩
  · show zu (zu s2 216 (1 + k) v) 216 (6 + i) v 216 (0 + 1 + p) = if p = k then v else S.2.1 p
    rw [zu_n (by omega)]
    by_cases q : p = k
    · rw [if_pos q, q, show 0 + 1 + k = 1 + k from by omega, zu_eq]
    · rw [if_neg q, zu_n (by omega)]; exact a2 p hp
  · show zu (zu s2 216 (1 + k) v) 216 (6 + i) v 216 (0 + 6 + p) = if p = i then v else S.2.2.1 p
    by_cases q : p = i
    · rw [if_pos q, q, show 0 + 6 + i = 6 + i from by omega, zu_eq]
    · rw [if_neg q, zu_n (by omega), zu_n (by omega)]; exact a3 p hp
theorem go_12 {s2 : Zs} {k : Nat} {v : Int} (hk : k < 5) : zu s2 216 ((w32 (1 + ((k : Nat) : Int))).toNat) v 216 12 = s2 216 12 := by
  have e : (w32 (1 + ((k : Nat) : Int))).toNat = 1 + k := by rw [w32_id (by omega) (by omega)]; omega
  rw [e]
  clear e
  rw [zu_n (by omega)]
theorem car_12 {s2 : Zs} {k i : Nat} {v : Int} (hk : k < 5) (hi : i < 4) : zu (zu s2 216 ((w32 (1 + ((k : Nat) : Int))).toNat) v) 216 ((w32 (6 + ((i : Nat) : Int))).toNat) v 216 12 = s2 216 12 := by
  have e6 : (w32 (6 + ((i : Nat) : Int))).toNat = 6 + i := by rw [w32_id (by omega) (by omega)]; omega
  rw [e6]
  clear e6
  rw [zu_n (by omega), go_12 hk]
theorem bld_12 {s2 : Zs} {v w : Int} : zu (zu s2 216 0 v) 216 10 w 216 12 = s2 216 12 := by
  rw [zu_n (by omega), zu_n (by omega)]
def jZ (D : ZD) (q : List Int) (y : ZS × Int) (r : Int × Int × Int × Int) (o : Zr) : Prop := o.1 = [(if dcP (jCan D y.1 r) = true then 1 else 0, 0)] ∧ mSt o.2 216 0 D (jGo D q y r).1 ∧ o.2 216 12 = (jGo D q y r).2
theorem jZ_n {y : ZS × Int} {r : Int × Int × Int × Int} (c : mSt s 216 0 D y.1) (u : s 216 12 = y.2) (h : ¬ jCan D y.1 r) : jZ D q y r ([(0, 0)], s) := by
  unfold jZ
  rw [jGo_n h, if_neg (by rw [dcP_no h]; decide)]
  exact ⟨rfl, c, u⟩
theorem goes_m {y : ZS × Int} (ht : t = 7 ∨ t = 43) (hw : wD D) (hF : wF D) (hX : wX D) (B : yrB1 s t D q) (c : mSt s 216 0 D y.1) (u : s 216 12 = y.2) (W : wS D y.1) {k : Nat} {r : Int × Int × Int × Int} (hr : rowM s k r) (ho : nlO D r) : zC N 1442 [(((172 : Nat) : Int), 0), ((k : Int), 0)] s (jZ D q y r) := by
  have h10 : cnt D 1 ≤ 10 := hw.1 1 (by omega)
  have h5 : cnt D 3 ≤ 5 := hw.1 3 (by omega)
  have h4 : cnt D 2 ≤ 4 := hw.1 2 (by omega)
  have hl := wS_lt hw W
  obtain ⟨w, a, b, d⟩ := r
  obtain ⟨r1, r2, r3, r4, r5, r6⟩ := hr
  obtain ⟨o1, o2, o3⟩ := ho
  have r1 : s 208 k = w := r1
  have r2 : 0 ≤ w := r2
  have r3 : w ≤ 4 := r3
  have e0 : s 216 0 = ((sTh y.1 : Nat) : Int) := c.1
  have e10 : s 216 10 = sHp y.1 := c.2.2.2.1
  refine c_X11_goes (b_X11_goes_0 _ _ _ s (fun g1 g2 g3 g4 => ?_) (fun _ _ _ g m _ => ?_) (fun _ _ g m _ => ?_) (fun _ g m _ => ?_) (fun g m _ => ?_))
  · rw [Int.toNat_natCast, r1] at g1 g2 g3 g4
    have w0 : w = 4 := by omega
    subst w0
    have jc : jCan D y.1 (4, a, b, d) := jCan4
    unfold jZ
    rw [jGo_y jc, jTo4, if_pos (dcP_yes jc)]
    refine ⟨rfl, nig_Z c hw, ?_⟩
    show zu s 216 11 (w32 (s 216 11 + 1)) 216 12 = _
    rw [zu_n (by omega)]
    exact u
  · rw [Int.toNat_natCast, r1] at g
    subst g
    obtain ⟨p1, p2, p3⟩ := o2 (Or.inr rfl)
    obtain ⟨p4, p5⟩ := o3 rfl
    have p1 : 0 ≤ a := p1
    have p4 : 0 ≤ d := p4
    obtain ⟨ka, rfl⟩ := Int.eq_ofNat_of_zero_le p1
    obtain ⟨kd, rfl⟩ := Int.eq_ofNat_of_zero_le p4
    have p2 : ((ka : Nat) : Int) < ((cnt D 3 : Nat) : Int) := p2
    have p5 : ((kd : Nat) : Int) < ((cnt D 2 : Nat) : Int) := p5
    have p3 : plI D b := p3
    have q4 : s 209 k = ((ka : Nat) : Int) := r4 (by show (3 : Int) ≤ 3; decide)
    have q5 : s 210 k = b := r5 (Or.inr rfl)
    have q6 : s 211 k = ((kd : Nat) : Int) := r6 rfl
    rw [Int.toNat_natCast, q4, q5, q6, r1]
    refine zC_q (canCarry_m hF hX B.1 hw c W (p := ka) (i := kd) (by omega) (by omega) p3) (fun z hz => ?_)
    subst hz
    refine b_X11_goes_120 _ _ _ _ s (fun g2 m2 _ => ?_) (fun g2 => jZ_n c u (fun z => ?_))
    · have ck : sTg y.1 kd = sPe y.1 ka ∧ wok D (opn D y.1 ka (kd : Int)) (sPe y.1 ka).toNat b.toNat := Classical.byContradiction fun z => g2 (if_neg (by rw [dcP_no z]; decide))
      have can : canC D y.1 ((ka : Nat) : Int) ((kd : Nat) : Int) b := ⟨p1, p2, p4, p5, ck.1, p3, ck.2⟩
      rw [Int.toNat_natCast, q5, q6]
      refine c_X11_carries (b_X11_carries_0 _ _ _ s (b_X11_goes_142 _ _ _ _ ?_))
      have jc : jCan D y.1 (3, ((ka : Nat) : Int), b, ((kd : Nat) : Int)) := jCan3.mpr can
      unfold jZ
      rw [jGo_y jc, jTo3, if_pos (dcP_yes jc)]
      refine ⟨rfl, car_Z c hw (by omega) (by omega), ?_⟩
      dsimp only
      rw [car_12 (by omega) (by omega)]
      exact u
    · have z := jCan3.mp z
      have zz : sTg y.1 kd = sPe y.1 ka ∧ wok D (opn D y.1 ka (kd : Int)) (sPe y.1 ka).toNat b.toNat := ⟨z.2.2.2.2.1, z.2.2.2.2.2.2⟩
      rw [if_pos (dcP_yes zz)] at g2
      exact absurd g2 (by decide)
  · rw [Int.toNat_natCast, r1] at g
    subst g
    obtain ⟨p1, p2, p3⟩ := o2 (Or.inl rfl)
    have p1 : 0 ≤ a := p1
    obtain ⟨ka, rfl⟩ := Int.eq_ofNat_of_zero_le p1
    have p2 : ((ka : Nat) : Int) < ((cnt D 3 : Nat) : Int) := p2
    have p3 : plI D b := p3
    have q4 : s 209 k = ((ka : Nat) : Int) := r4 (by show (2 : Int) ≤ 3; decide)
    have q5 : s 210 k = b := r5 (Or.inl rfl)
    rw [Int.toNat_natCast, q4, q5, r1]
    refine zC_q (canGo_m hF hX B.1 hw c W (p := ka) (by omega) p3) (fun z hz => ?_)
    subst hz
    refine b_X11_goes_76 _ _ _ _ s (fun g2 => ?_) (fun g2 => jZ_n c u (fun z => ?_))
    · have ck : wok D (opn D y.1 ka (-1)) (sPe y.1 ka).toNat b.toNat := Classical.byContradiction fun z => g2 (if_neg (by rw [dcP_no z]; decide))
      have can : canG D y.1 ((ka : Nat) : Int) b := ⟨p1, p2, p3, ck⟩
      rw [Int.toNat_natCast, q5]
      have jc : jCan D y.1 (2, ((ka : Nat) : Int), b, d) := jCan2.mpr can
      unfold jZ
      rw [jGo_y jc, jTo2, if_pos (dcP_yes jc)]
      refine ⟨rfl, go_Z c hw (by omega), ?_⟩
      dsimp only
      rw [go_12 (by omega)]
      exact u
    · have z := jCan2.mp z
      have zz : wok D (opn D y.1 ka (-1)) (sPe y.1 ka).toNat b.toNat := z.2.2.2
      rw [if_pos (dcP_yes zz)] at g2
      exact absurd g2 (by decide)
  · rw [Int.toNat_natCast, r1] at g
    subst g
    obtain ⟨p1, p2⟩ := o1 (Or.inr rfl)
    have p1 : 0 ≤ a := p1
    obtain ⟨ka, rfl⟩ := Int.eq_ofNat_of_zero_le p1
    have p2 : ((ka : Nat) : Int) < ((cnt D 1 : Nat) : Int) := p2
    have q4 : s 209 k = ((ka : Nat) : Int) := r4 (by show (1 : Int) ≤ 3; decide)
    have hk : ka < cnt D 1 := by omega
    have r2' : s 182 ka = colD D 12 ka := mcol B.1 hw (k := 1) (j := 2) (by omega) (by omega) (by decide) (by decide) hk
    rw [Int.toNat_natCast, q4, r1]
    refine c_X11_canBuild (b_X11_canBuild_0 _ _ (fun g3 => ?_) (fun g3 g4 => ?_) (fun g3 g4 => ?_))
    all_goals rw [e0] at g3
    · refine b_X11_goes_47 _ _ _ _ s (fun z => absurd rfl z) (fun _ => jZ_n c u (fun z => ?_))
      have z := jCan1.mp z
      exact g3 ((zbit0 (by omega) (by omega)).mpr z.2.2.1)
    · rw [e10, Int.toNat_natCast, r2'] at g4
      refine b_X11_goes_47 _ _ _ _ s (fun z => absurd rfl z) (fun _ => jZ_n c u (fun z => ?_))
      have z := (jCan1.mp z).2.2.2
      rw [Int.toNat_natCast] at z
      omega
    · rw [e10, Int.toNat_natCast, r2'] at g4
      have can : canB D y.1 ((ka : Nat) : Int) := ⟨p1, p2, (zbit0 (by omega) (by omega)).mp g3, by rw [Int.toNat_natCast]; exact g4⟩
      refine b_X11_goes_47 _ _ _ _ s (fun _ m2 _ => ?_) (fun z => absurd z (by decide))
      refine c_X11_builds (b_X11_builds_0 _ s (b_X11_goes_57 _ _ _ _ ?_))
      have jc : jCan D y.1 (1, ((ka : Nat) : Int), b, d) := jCan1.mpr can
      unfold jZ
      rw [jGo_y jc, jTo1, if_pos (dcP_yes jc)]
      refine ⟨rfl, bld_Z c hw hl hk r2', ?_⟩
      dsimp only
      rw [bld_12]
      exact u
  · rw [Int.toNat_natCast, r1] at g
    subst g
    obtain ⟨p1, p2⟩ := o1 (Or.inl rfl)
    have p1 : 0 ≤ a := p1
    obtain ⟨ka, rfl⟩ := Int.eq_ofNat_of_zero_le p1
    have p2 : ((ka : Nat) : Int) < ((cnt D 1 : Nat) : Int) := p2
    have q4 : s 209 k = ((ka : Nat) : Int) := r4 (by show (0 : Int) ≤ 3; decide)
    have hk : ka < cnt D 1 := by omega
    have Q := B.2 (by omega)
    rw [Int.toNat_natCast, q4, r1]
    refine zC_q (canSteal_m B.1 hw c W hk) (fun z hz => ?_)
    subst hz
    refine b_X11_goes_23 _ _ _ _ s (fun g2 m2 _ => ?_) (fun g2 => jZ_n c u (fun z => ?_))
    · have can : canS D y.1 ((ka : Nat) : Int) := Classical.byContradiction fun z => g2 (if_neg (by rw [dcP_no z]; decide))
      refine zC_a (steals_mE B.1 hw hX c W Q hk) (steals_m hw c W hk) (fun z hz1 hz2 => ?_)
      obtain ⟨z1, s1⟩ := z
      obtain ⟨e, e5⟩ := hz1
      obtain ⟨-, c1, -⟩ := hz2
      have e : z1 = [(prV D y.1 q ka, 0)] := e
      subst e
      have e5 : s1 216 12 = w32 (s 216 12 + prV D y.1 q ka) := e5
      have c1 : mSt s1 216 0 D (stlT y.1 ka) := c1
      rw [u] at e5
      refine b_X11_goes_33 _ _ _ _ s1 ?_
      have jc : jCan D y.1 (0, ((ka : Nat) : Int), b, d) := jCan0.mpr can
      unfold jZ
      rw [jGo_y jc, jTo0, if_pos (dcP_yes jc)]
      exact ⟨rfl, c1, e5⟩
    · have z := jCan0.mp z
      rw [if_pos (dcP_yes z)] at g2
      exact absurd g2 (by decide)
theorem judged_m (ht : t = 7 ∨ t = 43) (hw : wD D) (hF : wF D) (hX : wX D) (B : yrB1 s t D q) (hh : s 174 5 = dHeap D) (hb : wS D (begT D)) (l1 : s 207 0 = ((L.length : Nat) : Int)) (l2 : linM s 0 L) (l3 : ∀ r, r ∈ L → nlO D r) {x : Int} : zC N 1460 [(((172 : Nat) : Int), 0), (x, 0)] s (fun r => r.1 = [(jdV D q L x, 0)]) := by
  have no : ∀ s1 : Zs, ¬ (0 ≤ x ∧ x ≤ 2) → (([((-2 : Int), 0)], s1) : Zr).1 = [(jdV D q L x, 0)] := fun s1 h => by rw [jdV_no h]
  refine c_X11_judged (b_X11_judged_0 _ _ _ _ _ s (fun m _ => ?_))
  refine c_X11_within (b_X11_within_0 _ _ _ _ (fun g => ?_) (fun g g2 => ?_) (fun g1 g2 => ?_))
  · exact b_X11_judged_11 _ _ _ _ _ _ _ (fun z => absurd rfl z) (fun _ => no _ (by omega))
  · exact b_X11_judged_11 _ _ _ _ _ _ _ (fun z => absurd rfl z) (fun _ => no _ (by omega))
  refine b_X11_judged_11 _ _ _ _ _ _ _ (fun _ m2 _ => ?_) (fun z => absurd z (by decide))
  refine zC_q (copies_ok (f := 216) (e := 217) (a := 0) (b := 0) (by omega) (by omega) (by omega)) (fun r hr => ?_)
  obtain ⟨r1, s1⟩ := r
  obtain ⟨e, -, c2⟩ := hr
  have e : r1 = [] := e
  subst e
  have c2 : ∀ c j, ¬ (c = 217 ∧ 0 ≤ j ∧ j < 0 + 13) → s1 c j = zu s 172 0 0 c j := c2
  have f1 : ∀ c j, c ≠ 217 → c ≠ 172 → s1 c j = s c j := fun c j a b => by rw [c2 c j (by omega), zu_n (by omega)]
  refine b_X11_judged_30 _ _ _ _ _ s1 (fun m3 _ => ?_)
  have T1 : mT s1 D := mT_e (fun c j a b => f1 c j (by omega) (by omega)) B.1
  refine zC_q (freshS T1 hw ((f1 _ _ (by omega) (by omega)).trans hh)) (fun r hr => ?_)
  obtain ⟨r1, s2⟩ := r
  obtain ⟨e, f2, C2, U2⟩ := hr
  have e : r1 = [] := e
  subst e
  have f2 : ∀ c j, c ≠ 216 → s2 c j = s1 c j := f2
  have C2 : mSt s2 216 0 D (begT D) := C2
  have U2 : s2 216 12 = 0 := U2
  have g2' : ∀ c j, c ≠ 216 → c ≠ 217 → c ≠ 172 → s2 c j = s c j := fun c j a b d => (f2 c j a).trans (f1 c j b d)
  have B2 : yrB1 s2 t D q := by
    refine ⟨mT_e (fun c j a b => g2' c j (by omega) (by omega) (by omega)) B.1, fun c => prR_e (B.2 c) (fun c j a => ?_)⟩
    unfold prcC at a
    exact g2' c j (by omega) (by omega) (by omega)
  have h40 := l2.1
  have fin : ∀ (m : Nat) (x2 x3 v x5 : Int) (s4 : Zs), (x = 0 → x2 = jdV D q L x) → (x = 1 → x3 = jdV D q L x) → (x = 2 → v = jdV D q L x) → zC m 1426 [(((217 : Nat) : Int), 0), (0, 0), (((216 : Nat) : Int), 0), (0, 0)] s4 (fun p => zT (zE 1460) (Pt PX11_judged) m (125, [((172 : Nat) : Int), x, x2, x3, v, x5], p.1 ++ [], p.2) (fun r => r.1 = [(jdV D q L x, 0)])) := fun m x2 x3 v x5 s4 h0 h1 h2 => by
    refine zC_q (copies_ok (f := 217) (e := 216) (a := 0) (b := 0) (by omega) (by omega) (by omega)) (fun r hr => ?_)
    obtain ⟨r1, s5⟩ := r
    obtain ⟨e, -, -⟩ := hr
    have e : r1 = [] := e
    subst e
    refine b_X11_judged_125 _ _ _ _ _ s5 (fun a b => ?_) (fun _ b => ?_) (fun a => ?_)
    · rw [← h2 (by omega)]
    · rw [← h1 b]
    · rw [← h0 a]
  have loop : ∀ (M k : Nat) (x5 : Int) (s4 : Zs), k ≤ L.length → frG s2 s4 → mSt s4 216 0 D (jdR D q L k).1.1 → s4 216 12 = (jdR D q L k).1.2 → zT (zE 1460) (Pt PX11_judged) M (41, [((172 : Nat) : Int), x, (jdR D q L k).2.1, (jdR D q L k).2.2, (k : Int), x5], [], s4) (fun r => r.1 = [(jdV D q L x, 0)]) := by
    intro M
    induction M using Nat.strongRecOn with
    | ind M ih =>
      intro k x5 s4 hk f4 C4 U4
      have B4 := yrB1_e ht B2 f4
      have W4 := jdR_W (q := q) (L := L) hw hX hb k
      have bb := jdR_b (D := D) (q := q) (L := L) k
      have f4' : ∀ c j, 207 ≤ c → c ≤ 211 → s4 c j = s c j := fun c j a b => (f4 c j (by omega) (by omega) (by omega)).trans (g2' c j (by omega) (by omega) (by omega))
      have L4 : s4 207 0 = ((L.length : Nat) : Int) := (f4' _ _ (by omega) (by omega)).trans l1
      refine b_X11_judged_41 _ _ _ _ _ s4 (fun g m4 _ => ?_) (fun g m4 hm4 => ?_)
      all_goals rw [L4] at g
      · have e : k = L.length := by omega
        subst e
        rw [U4]
        exact fin _ _ _ _ _ s4 (fun z => by rw [z, jdV_0]) (fun z => by rw [z, jdV_1]) (fun z => by rw [z, jdV_2])
      · have hkl : k < L.length := by omega
        have la := jd_at hkl
        have lr : rowM s4 k (L.getD k (4, 0, 0, 0)) := by
          have := l2.2 k _ la
          rw [Nat.zero_add] at this
          exact rowM_e this (fun c a b => f4' c k (by omega) b)
        refine zC_a (goes_m ht hw hF hX B4 C4 U4 W4 lr (l3 _ (List.mem_of_getElem? la))) goes_G (fun r hr hr2 => ?_)
        obtain ⟨r1, s5⟩ := r
        obtain ⟨e, C5, U5⟩ := hr
        obtain ⟨-, f5⟩ := hr2
        have e : r1 = [(if dcP (jCan D (jdR D q L k).1.1 (L.getD k (4, 0, 0, 0))) = true then 1 else 0, 0)] := e
        subst e
        have f5 : frG s4 s5 := f5
        have F5 := frG_tr f4 f5
        have C6 : mSt s5 216 0 D (jdR D q L (k + 1)).1.1 := C5
        have U6 : s5 216 12 = (jdR D q L (k + 1)).1.2 := U5
        by_cases can : jCan D (jdR D q L k).1.1 (L.getD k (4, 0, 0, 0))
        · have ey := jdR_y can
          have z1 : (jdR D q L (k + 1)).2.1 = (jdR D q L k).2.1 := by rw [ey]
          rw [if_pos (dcP_yes can)]
          refine b_X11_judged_58 _ _ _ _ _ _ s5 (fun _ h m5 hm5 => ?_) (fun _ h m5 hm5 => ?_) (fun z => absurd z (by decide)) (fun z => absurd z (by decide))
          · have z2 : (jdR D q L (k + 1)).2.2 = (jdR D q L k).2.2 := by rw [ey]; exact if_neg (by omega)
            rw [w32_s (k := k) (by omega), ← z1, ← z2]
            exact ih m5 (by omega) (k + 1) _ s5 (by omega) F5 C6 U6
          · have B5 := yrB1_e ht B2 F5
            have W5 := jdR_W (q := q) (L := L) hw hX hb (k + 1)
            rw [show s5 216 0 = ((sTh (jdR D q L (k + 1)).1.1 : Nat) : Int) from C6.1]
            refine zC_q (cutBy_m hF hX B5.1 hw C6 W5 W5.1) (fun r hr => ?_)
            subst hr
            have z2 : (jdR D q L (k + 1)).2.2 = if cuV D (jdR D q L (k + 1)).1.1 (sTh (jdR D q L (k + 1)).1.1) = 0 then -1 else ((k : Nat) : Int) := by
              rw [ey]
              exact if_pos (by omega)
            have h9 : (jdR D q L k).2.2 = -1 := by omega
            refine b_X11_judged_91 _ _ _ _ _ _ s5 (fun g7 m6 hm6 => ?_) (fun g7 m6 hm6 => ?_)
            · have c0 : cuV D (jdR D q L (k + 1)).1.1 (sTh (jdR D q L (k + 1)).1.1) = 0 := by omega
              rw [if_pos c0] at z2
              rw [w32_s (k := k) (by omega), ← z1, h9, ← z2]
              exact ih m6 (by omega) (k + 1) _ s5 (by omega) F5 C6 U6
            · have c0 : ¬ cuV D (jdR D q L (k + 1)).1.1 (sTh (jdR D q L (k + 1)).1.1) = 0 := by omega
              rw [if_neg c0] at z2
              rw [w32_s (k := k) (by omega), ← z1]
              have ih := ih m6 (by omega) (k + 1) 1 s5 (by omega) F5 C6 U6
              rw [z2] at ih
              exact ih
        · have en := jdR_n can
          have z2 : (jdR D q L (k + 1)).2.2 = (jdR D q L k).2.2 := by rw [en]
          rw [if_neg (by rw [dcP_no can]; decide)]
          refine b_X11_judged_58 _ _ _ _ _ _ s5 (fun z => absurd rfl z) (fun z => absurd rfl z) (fun _ h m5 hm5 => ?_) (fun _ h m5 hm5 => ?_)
          · have z1 : (jdR D q L (k + 1)).2.1 = (jdR D q L k).2.1 := by rw [en]; exact if_neg (by omega)
            rw [w32_s (k := k) (by omega), ← z1, ← z2]
            exact ih m5 (by omega) (k + 1) _ s5 (by omega) F5 C6 U6
          · have z1 : (jdR D q L (k + 1)).2.1 = ((k : Nat) : Int) := by rw [en]; exact if_pos (by omega)
            have ih := ih m5 (by omega) (k + 1) 0 s5 (by omega) F5 C6 U6
            rw [z1, z2] at ih
            rw [w32_s (k := k) (by omega)]
            exact ih
  exact b_X11_judged_34 _ _ _ _ _ s2 (loop _ 0 _ s2 (by omega) frG_rf C2 U2)
end Zjd
