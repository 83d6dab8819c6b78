/-! names told, places, first words: the class -/
theorem b_X7_takeTold_0 {n : Nat} {Q : Zr → Prop} {t : Nat} (x2 x3 : Int) (s : Zs) (ht : t = 7 ∨ t = 43)
    (h0 : ∀ m, m < n → zC m 909 [(((1 : Nat) : Int), 0)] s (fun p => zT (zE 915) (Pt PX7_takeTold) m (6, [((1 : Nat) : Int), ((t : Nat) : Int), x2, x3], p.1 ++ [(x2, 0), (((t : Nat) : Int), 0)], p.2) Q)) : zT (zE 915) (Pt PX7_takeTold) n (0, [((1 : Nat) : Int), ((t : Nat) : Int), x2, x3], [], s) Q := by
  refine tL ((t : Nat) : Int) 0 rfl rfl rfl ?_
  refine tL x2 0 rfl rfl rfl ?_
  refine tL ((1 : Nat) : Int) 0 rfl rfl rfl ?_
  exact tCall [(((1 : Nat) : Int), 0)] [(x2, 0), (((t : Nat) : Int), 0)] rfl rfl rfl (fun m l => h0 m (Nat.lt_of_lt_of_le l (Nat.le_refl n)))

theorem b_X7_takeTold_6 {n : Nat} {Q : Zr → Prop} {t : Nat} (x2 x3 v0 y0 : Int) (s : Zs) (ht : t = 7 ∨ t = 43)
    (h0 : ∀ m, m < n → zC m 1029 [(((t : Nat) : Int), 0), (y0, 0), (v0, 1)] s (fun p => zT (zE 915) (Pt PX7_takeTold) m (9, [((1 : Nat) : Int), ((t : Nat) : Int), x2, x3], p.1 ++ [], p.2) Q)) : zT (zE 915) (Pt PX7_takeTold) n (6, [((1 : Nat) : Int), ((t : Nat) : Int), x2, x3], [(v0, 1), (y0, 0), (((t : Nat) : Int), 0)], s) Q := by
  exact tCall [(((t : Nat) : Int), 0), (y0, 0), (v0, 1)] [] rfl rfl rfl (fun m l => h0 m (Nat.lt_of_lt_of_le l (Nat.le_refl n)))

theorem b_X7_takeTold_9 {n : Nat} {Q : Zr → Prop} {t : Nat} (x2 x3 v0 : Int) (s : Zs) (ht : t = 7 ∨ t = 43)
    (h0 : ∀ (g1 : v0 ≠ (-1)), ∀ m, m < n → zC m 910 [(((1 : Nat) : Int), 0)] s (fun p => zT (zE 915) (Pt PX7_takeTold) m (27, [((1 : Nat) : Int), ((t : Nat) : Int), x2, v0], p.1 ++ [], p.2) Q))
    (h1 : ∀ (g1 : v0 = (-1)), ∀ m, m < n → zC m 899 [(((1 : Nat) : Int), 0), (2, 0)] s (fun p => zT (zE 915) (Pt PX7_takeTold) m (20, [((1 : Nat) : Int), ((t : Nat) : Int), x2, v0], p.1 ++ [], p.2) Q)) : zT (zE 915) (Pt PX7_takeTold) n (9, [((1 : Nat) : Int), ((t : Nat) : Int), x2, x3], [(v0, 0)], s) Q := by
  refine tS [((1 : Nat) : Int), ((t : Nat) : Int), x2, v0] rfl rfl ?_
  refine tL v0 0 rfl rfl rfl ?_
  refine tK rfl ?_
  refine tJ1 rfl (fun g1 _ l1 => zT_le ?_ (Nat.le_of_lt l1)) (fun g1 _ l1 => zT_le ?_ (Nat.le_of_lt l1))
  · refine tL ((1 : Nat) : Int) 0 rfl rfl rfl ?_
    exact tCall [(((1 : Nat) : Int), 0)] [] rfl rfl rfl (fun m l => h0 g1 m (Nat.lt_of_lt_of_le l (Nat.le_refl n)))
  · refine tL ((1 : Nat) : Int) 0 rfl rfl rfl ?_
    refine tK rfl ?_
    exact tCall [(((1 : Nat) : Int), 0), (2, 0)] [] rfl rfl rfl (fun m l => h1 g1 m (Nat.lt_of_lt_of_le l (Nat.le_refl n)))

theorem b_X7_takeTold_27 {n : Nat} {Q : Zr → Prop} {t : Nat} (x2 x3 : Int) (s : Zs) (ht : t = 7 ∨ t = 43)
    (h0 : Q ([(x3, 0)], s)) : zT (zE 915) (Pt PX7_takeTold) n (27, [((1 : Nat) : Int), ((t : Nat) : Int), x2, x3], [], s) Q := by
  refine tL x3 0 rfl rfl rfl ?_
  exact tR rfl (h0)

theorem b_X7_takeTold_20 {n : Nat} {Q : Zr → Prop} {t : Nat} (x2 x3 : Int) (s : Zs) (ht : t = 7 ∨ t = 43)
    (h0 : Q ([(x3, 0)], s)) : zT (zE 915) (Pt PX7_takeTold) n (20, [((1 : Nat) : Int), ((t : Nat) : Int), x2, x3], [], s) Q := by
  refine tG rfl ?_
  refine tL x3 0 rfl rfl rfl ?_
  exact tR rfl (h0)

theorem c_X7_takeTold {n : Nat} {Q : Zr → Prop} {a0 a1 a2 : Int} {s : Zs} (h : zT (zE 915) (Pt PX7_takeTold) n (0, [a0, a1, a2, 0], [], s) Q) : zC n 915 [(a0, 0), (a1, 0), (a2, 0)] s Q := h

theorem b_X7_takePlace_0 {n : Nat} {Q : Zr → Prop} {t : Nat} (x2 x3 : Int) (s : Zs) (ht : t = 7 ∨ t = 43)
    (h0 : ∀ m, m < n → zC m 915 [(((1 : Nat) : Int), 0), (((t : Nat) : Int), 0), (0, 0)] s (fun p => zT (zE 913) (Pt PX7_takePlace) m (6, [((1 : Nat) : Int), ((t : Nat) : Int), x2, x3], p.1 ++ [], p.2) Q)) : zT (zE 913) (Pt PX7_takePlace) n (0, [((1 : Nat) : Int), ((t : Nat) : Int), x2, x3], [], s) Q := by
  refine tL ((1 : Nat) : Int) 0 rfl rfl rfl ?_
  refine tL ((t : Nat) : Int) 0 rfl rfl rfl ?_
  refine tK rfl ?_
  exact tCall [(((1 : Nat) : Int), 0), (((t : Nat) : Int), 0), (0, 0)] [] rfl rfl rfl (fun m l => h0 m (Nat.lt_of_lt_of_le l (Nat.le_refl n)))

theorem b_X7_takePlace_6 {n : Nat} {Q : Zr → Prop} {t : Nat} (x2 x3 v0 : Int) (s : Zs) (ht : t = 7 ∨ t = 43)
    (h0 : ∀ (g2 : v0 < 0), ∀ m, m < n → zC m 912 [(((1 : Nat) : Int), 0), (0, 0), ((-1), 0)] s (fun p => zT (zE 913) (Pt PX7_takePlace) m (17, [((1 : Nat) : Int), ((t : Nat) : Int), v0, x3], p.1 ++ [], p.2) Q))
    (h1 : ∀ (g4 : 0 ≤ v0), ∀ (g5 : s (t + 1) 0 ≤ v0), ∀ m, m < n → zC m 912 [(((1 : Nat) : Int), 0), (0, 0), ((-1), 0)] s (fun p => zT (zE 913) (Pt PX7_takePlace) m (17, [((1 : Nat) : Int), ((t : Nat) : Int), v0, x3], p.1 ++ [], p.2) Q))
    (h2 : ∀ (g7 : 0 ≤ v0), ∀ (g8 : v0 < s (t + 1) 0), ∀ m, m < n → zC m 912 [(((1 : Nat) : Int), 0), (0, 0), (s (t + 33) v0.toNat, 0)] s (fun p => zT (zE 913) (Pt PX7_takePlace) m (17, [((1 : Nat) : Int), ((t : Nat) : Int), v0, x3], p.1 ++ [], p.2) Q)) : zT (zE 913) (Pt PX7_takePlace) n (6, [((1 : Nat) : Int), ((t : Nat) : Int), x2, x3], [(v0, 0)], s) Q := by
  refine tS [((1 : Nat) : Int), ((t : Nat) : Int), v0, x3] rfl rfl ?_
  refine tL ((1 : Nat) : Int) 0 rfl rfl rfl ?_
  refine tK rfl ?_
  refine tL ((t : Nat) : Int) 0 rfl rfl rfl ?_
  refine tL v0 0 rfl rfl rfl ?_
  refine tCall [(((t : Nat) : Int), 0), (v0, 0)] [(0, 0), (((1 : Nat) : Int), 0)] rfl rfl rfl (fun m1 l1 => c_X8_floorsOf (b_X8_floorsOf_0 v0 s ht ?_ ?_ ?_))
  · intro g2
    show zT (zE 913) (Pt PX7_takePlace) m1 (14, [((1 : Nat) : Int), ((t : Nat) : Int), v0, x3], [((-1), 0), (0, 0), (((1 : Nat) : Int), 0)], s) Q
    exact tCall [(((1 : Nat) : Int), 0), (0, 0), ((-1), 0)] [] rfl rfl rfl (fun m l => h0 g2 m (Nat.lt_of_lt_of_le l (Nat.le_trans (Nat.le_of_lt l1) (Nat.le_refl n))))
  · intro g4 g5
    show zT (zE 913) (Pt PX7_takePlace) m1 (14, [((1 : Nat) : Int), ((t : Nat) : Int), v0, x3], [((-1), 0), (0, 0), (((1 : Nat) : Int), 0)], s) Q
    exact tCall [(((1 : Nat) : Int), 0), (0, 0), ((-1), 0)] [] rfl rfl rfl (fun m l => h1 g4 g5 m (Nat.lt_of_lt_of_le l (Nat.le_trans (Nat.le_of_lt l1) (Nat.le_refl n))))
  · intro g7 g8
    show zT (zE 913) (Pt PX7_takePlace) m1 (14, [((1 : Nat) : Int), ((t : Nat) : Int), v0, x3], [(s (t + 33) v0.toNat, 0), (0, 0), (((1 : Nat) : Int), 0)], s) Q
    exact tCall [(((1 : Nat) : Int), 0), (0, 0), (s (t + 33) v0.toNat, 0)] [] rfl rfl rfl (fun m l => h2 g7 g8 m (Nat.lt_of_lt_of_le l (Nat.le_trans (Nat.le_of_lt l1) (Nat.le_refl n))))

theorem b_X7_takePlace_17 {n : Nat} {Q : Zr → Prop} {t : Nat} (x2 x3 v0 : Int) (s : Zs) (ht : t = 7 ∨ t = 43)
    (h0 : ∀ (g1 : s 1 1 ≠ 0), Q ([((-1), 0)], s))
    (h1 : ∀ (g1 : s 1 1 = 0), Q ([(w32 ((w32 (x2 * 6)) + v0), 0)], s)) : zT (zE 913) (Pt PX7_takePlace) n (17, [((1 : Nat) : Int), ((t : Nat) : Int), x2, x3], [(v0, 0)], s) Q := by
  refine tS [((1 : Nat) : Int), ((t : Nat) : Int), x2, v0] rfl rfl ?_
  refine tL ((1 : Nat) : Int) 0 rfl rfl rfl ?_
  refine tFv (c := 1) (s 1 1) 0 rfl rfl rfl rfl rfl ?_
  refine tI1 rfl (fun g1 _ l1 => zT_le ?_ (Nat.le_of_lt l1)) (fun g1 _ l1 => zT_le ?_ (Nat.le_of_lt l1))
  · refine tK rfl ?_
    exact tR rfl (h0 g1)
  · refine tL x2 0 rfl rfl rfl ?_
    refine tK rfl ?_
    refine tM (v := w32 (x2 * 6)) rfl rfl ?_
    refine tL v0 0 rfl rfl rfl ?_
    refine tB (v := w32 ((w32 (x2 * 6)) + v0)) rfl rfl ?_
    refine tG rfl ?_
    exact tR rfl (h1 g1)

theorem c_X7_takePlace {n : Nat} {Q : Zr → Prop} {a0 a1 : Int} {s : Zs} (h : zT (zE 913) (Pt PX7_takePlace) n (0, [a0, a1, 0, 0], [], s) Q) : zC n 913 [(a0, 0), (a1, 0)] s Q := h

theorem b_X9_takeFirst_0 {n : Nat} {Q : Zr → Prop} {t : Nat} (x2 : Int) (s : Zs) (ht : t = 7 ∨ t = 43)
    (h0 : ∀ (g2 : s (t + 1) x2.toNat < s 1000 x2.toNat), ∀ m, m < n → zC m 910 [(((1 : Nat) : Int), 0)] s (fun p => zT (zE 1159) (Pt PX9_takeFirst) m (26, [((4 : Nat) : Int), ((t : Nat) : Int), x2], p.1 ++ [], p.2) Q))
    (h1 : ∀ (g4 : s 1000 x2.toNat ≤ s (t + 1) x2.toNat), ∀ m, m < n → zC m 899 [(((1 : Nat) : Int), 0), (5, 0)] s (fun p => zT (zE 1159) (Pt PX9_takeFirst) m (16, [((4 : Nat) : Int), ((t : Nat) : Int), x2], p.1 ++ [], p.2) Q)) : zT (zE 1159) (Pt PX9_takeFirst) n (0, [((4 : Nat) : Int), ((t : Nat) : Int), x2], [], s) Q := by
  refine tL ((t : Nat) : Int) 0 rfl rfl rfl ?_
  refine tL x2 0 rfl rfl rfl ?_
  refine tCall [(((t : Nat) : Int), 0), (x2, 0)] [] rfl rfl rfl (fun m1 l1 => c_X8_isFull (b_X8_isFull_0 x2 s ht ?_ ?_))
  · intro g2
    show zT (zE 1159) (Pt PX9_takeFirst) m1 (5, [((4 : Nat) : Int), ((t : Nat) : Int), x2], [(0, 0)], s) Q
    refine tI0 rfl (fun g _ l => zT_le ?_ (Nat.le_of_lt l)) (fun g _ l => (absurd g (by decide)))
    refine tL ((4 : Nat) : Int) 0 rfl rfl rfl ?_
    refine tFR (c := 4) 1 rfl rfl rfl rfl rfl ?_
    exact tCall [(((1 : Nat) : Int), 0)] [] rfl rfl rfl (fun m l => h0 g2 m (Nat.lt_of_lt_of_le l (Nat.le_trans (Nat.le_of_lt l1) (Nat.le_refl n))))
  · intro g4
    show zT (zE 1159) (Pt PX9_takeFirst) m1 (5, [((4 : Nat) : Int), ((t : Nat) : Int), x2], [(1, 0)], s) Q
    refine tI0 rfl (fun g _ l => (absurd g (by decide))) (fun g _ l => zT_le ?_ (Nat.le_of_lt l))
    refine tL ((4 : Nat) : Int) 0 rfl rfl rfl ?_
    refine tFR (c := 4) 1 rfl rfl rfl rfl rfl ?_
    refine tK rfl ?_
    exact tCall [(((1 : Nat) : Int), 0), (5, 0)] [] rfl rfl rfl (fun m l => h1 g4 m (Nat.lt_of_lt_of_le l (Nat.le_trans (Nat.le_of_lt l1) (Nat.le_refl n))))

theorem b_X9_takeFirst_26 {n : Nat} {Q : Zr → Prop} {t : Nat} (x2 : Int) (s : Zs) (ht : t = 7 ∨ t = 43)
    (h0 : Q ([], s)) : zT (zE 1159) (Pt PX9_takeFirst) n (26, [((4 : Nat) : Int), ((t : Nat) : Int), x2], [], s) Q := by
  exact tR rfl (h0)

theorem b_X9_takeFirst_16 {n : Nat} {Q : Zr → Prop} {t : Nat} (x2 : Int) (s : Zs) (ht : t = 7 ∨ t = 43)
    (h0 : Q ([], s)) : zT (zE 1159) (Pt PX9_takeFirst) n (16, [((4 : Nat) : Int), ((t : Nat) : Int), x2], [], s) Q := by
  refine tG rfl ?_
  exact tR rfl (h0)

theorem c_X9_takeFirst {n : Nat} {Q : Zr → Prop} {a0 a1 a2 : Int} {s : Zs} (h : zT (zE 1159) (Pt PX9_takeFirst) n (0, [a0, a1, a2], [], s) Q) : zC n 1159 [(a0, 0), (a1, 0), (a2, 0)] s Q := h

theorem b_X9_takeOnce_0 {n : Nat} {Q : Zr → Prop} (x1 : Int) (s : Zs) 
    (h0 : ∀ (g1 : x1 = 0), ∀ m, m < n → zC m 910 [(((1 : Nat) : Int), 0)] s (fun p => zT (zE 1161) (Pt PX9_takeOnce) m (22, [((4 : Nat) : Int), x1], p.1 ++ [], p.2) Q))
    (h1 : ∀ (g1 : x1 ≠ 0), ∀ m, m < n → zC m 899 [(((1 : Nat) : Int), 0), (3, 0)] s (fun p => zT (zE 1161) (Pt PX9_takeOnce) m (12, [((4 : Nat) : Int), x1], p.1 ++ [], p.2) Q)) : zT (zE 1161) (Pt PX9_takeOnce) n (0, [((4 : Nat) : Int), x1], [], s) Q := by
  refine tL x1 0 rfl rfl rfl ?_
  refine tI0 rfl (fun g1 _ l1 => zT_le ?_ (Nat.le_of_lt l1)) (fun g1 _ l1 => zT_le ?_ (Nat.le_of_lt l1))
  · refine tL ((4 : Nat) : Int) 0 rfl rfl rfl ?_
    refine tFR (c := 4) 1 rfl rfl rfl rfl rfl ?_
    exact tCall [(((1 : Nat) : Int), 0)] [] rfl rfl rfl (fun m l => h0 g1 m (Nat.lt_of_lt_of_le l (Nat.le_refl n)))
  · refine tL ((4 : Nat) : Int) 0 rfl rfl rfl ?_
    refine tFR (c := 4) 1 rfl rfl rfl rfl rfl ?_
    refine tK rfl ?_
    exact tCall [(((1 : Nat) : Int), 0), (3, 0)] [] rfl rfl rfl (fun m l => h1 g1 m (Nat.lt_of_lt_of_le l (Nat.le_refl n)))

theorem b_X9_takeOnce_22 {n : Nat} {Q : Zr → Prop} (x1 : Int) (s : Zs) 
    (h0 : Q ([], s)) : zT (zE 1161) (Pt PX9_takeOnce) n (22, [((4 : Nat) : Int), x1], [], s) Q := by
  exact tR rfl (h0)

theorem b_X9_takeOnce_12 {n : Nat} {Q : Zr → Prop} (x1 : Int) (s : Zs) 
    (h0 : Q ([], s)) : zT (zE 1161) (Pt PX9_takeOnce) n (12, [((4 : Nat) : Int), x1], [], s) Q := by
  refine tG rfl ?_
  exact tR rfl (h0)

theorem c_X9_takeOnce {n : Nat} {Q : Zr → Prop} {a0 a1 : Int} {s : Zs} (h : zT (zE 1161) (Pt PX9_takeOnce) n (0, [a0, a1], [], s) Q) : zC n 1161 [(a0, 0), (a1, 0)] s Q := h

theorem b_X9_takeNewName_0 {n : Nat} {Q : Zr → Prop} {t : Nat} (x2 x3 : Int) (s : Zs) (ht : t = 7 ∨ t = 43)
    (h0 : ∀ m, m < n → zC m 909 [(((1 : Nat) : Int), 0)] s (fun p => zT (zE 1160) (Pt PX9_takeNewName) m (7, [((4 : Nat) : Int), ((t : Nat) : Int), x2, x3], p.1 ++ [], p.2) Q)) : zT (zE 1160) (Pt PX9_takeNewName) n (0, [((4 : Nat) : Int), ((t : Nat) : Int), x2, x3], [], s) Q := by
  refine tL ((4 : Nat) : Int) 0 rfl rfl rfl ?_
  refine tFR (c := 4) 1 rfl rfl rfl rfl rfl ?_
  exact tCall [(((1 : Nat) : Int), 0)] [] rfl rfl rfl (fun m l => h0 m (Nat.lt_of_lt_of_le l (Nat.le_refl n)))

theorem b_X9_takeNewName_7 {n : Nat} {Q : Zr → Prop} {t : Nat} (x2 x3 v0 : Int) (s : Zs) (ht : t = 7 ∨ t = 43)
    (h0 : ∀ m, m < n → zC m 1037 [(((t : Nat) : Int), 0), (v0, 1)] s (fun p => zT (zE 1160) (Pt PX9_takeNewName) m (13, [((4 : Nat) : Int), ((t : Nat) : Int), v0, x3], p.1 ++ [], p.2) Q)) : zT (zE 1160) (Pt PX9_takeNewName) n (7, [((4 : Nat) : Int), ((t : Nat) : Int), x2, x3], [(v0, 1)], s) Q := by
  refine tS [((4 : Nat) : Int), ((t : Nat) : Int), v0, x3] rfl rfl ?_
  refine tL ((t : Nat) : Int) 0 rfl rfl rfl ?_
  refine tL v0 1 rfl rfl rfl ?_
  exact tCall [(((t : Nat) : Int), 0), (v0, 1)] [] rfl rfl rfl (fun m l => h0 m (Nat.lt_of_lt_of_le l (Nat.le_refl n)))

theorem b_X9_takeNewName_13 {n : Nat} {Q : Zr → Prop} {t : Nat} (x2 x3 v0 : Int) (s : Zs) (ht : t = 7 ∨ t = 43)
    (h0 : ∀ (g1 : v0 = 0), ∀ (g2 : s 1 1 ≠ 0), Q ([(x2, 1)], s))
    (h1 : ∀ (g1 : v0 = 0), ∀ (g2 : s 1 1 = 0), ∀ m, m < n → zC m 910 [(((1 : Nat) : Int), 0)] s (fun p => zT (zE 1160) (Pt PX9_takeNewName) m (41, [((4 : Nat) : Int), ((t : Nat) : Int), x2, x3], p.1 ++ [], p.2) Q))
    (h2 : ∀ (g1 : v0 ≠ 0), ∀ m, m < n → zC m 899 [(((1 : Nat) : Int), 0), (3, 0)] s (fun p => zT (zE 1160) (Pt PX9_takeNewName) m (24, [((4 : Nat) : Int), ((t : Nat) : Int), x2, x3], p.1 ++ [], p.2) Q)) : zT (zE 1160) (Pt PX9_takeNewName) n (13, [((4 : Nat) : Int), ((t : Nat) : Int), x2, x3], [(v0, 0)], s) Q := by
  refine tI0 rfl (fun g1 _ l1 => zT_le ?_ (Nat.le_of_lt l1)) (fun g1 _ l1 => zT_le ?_ (Nat.le_of_lt l1))
  · refine tL ((4 : Nat) : Int) 0 rfl rfl rfl ?_
    refine tFR (c := 4) 1 rfl rfl rfl rfl rfl ?_
    refine tFv (c := 1) (s 1 1) 0 rfl rfl rfl rfl rfl ?_
    refine tI1 rfl (fun g2 _ l2 => zT_le ?_ (Nat.le_of_lt l2)) (fun g2 _ l2 => zT_le ?_ (Nat.le_of_lt l2))
    · refine tL x2 1 rfl rfl rfl ?_
      exact tR rfl (h0 g1 g2)
    · refine tL ((4 : Nat) : Int) 0 rfl rfl rfl ?_
      refine tFR (c := 4) 1 rfl rfl rfl rfl rfl ?_
      exact tCall [(((1 : Nat) : Int), 0)] [] rfl rfl rfl (fun m l => h1 g1 g2 m (Nat.lt_of_lt_of_le l (Nat.le_refl n)))
  · refine tL ((4 : Nat) : Int) 0 rfl rfl rfl ?_
    refine tFR (c := 4) 1 rfl rfl rfl rfl rfl ?_
    refine tK rfl ?_
    exact tCall [(((1 : Nat) : Int), 0), (3, 0)] [] rfl rfl rfl (fun m l => h2 g1 m (Nat.lt_of_lt_of_le l (Nat.le_refl n)))

theorem b_X9_takeNewName_41 {n : Nat} {Q : Zr → Prop} {t : Nat} (x2 x3 : Int) (s : Zs) (ht : t = 7 ∨ t = 43)
    (h0 : Q ([(x2, 1)], s)) : zT (zE 1160) (Pt PX9_takeNewName) n (41, [((4 : Nat) : Int), ((t : Nat) : Int), x2, x3], [], s) Q := by
  refine tL x2 1 rfl rfl rfl ?_
  exact tR rfl (h0)

theorem b_X9_takeNewName_24 {n : Nat} {Q : Zr → Prop} {t : Nat} (x2 x3 : Int) (s : Zs) (ht : t = 7 ∨ t = 43)
    (h0 : ∀ (g1 : s 1 1 ≠ 0), Q ([(x2, 1)], s))
    (h1 : ∀ (g1 : s 1 1 = 0), ∀ m, m < n → zC m 910 [(((1 : Nat) : Int), 0)] s (fun p => zT (zE 1160) (Pt PX9_takeNewName) m (41, [((4 : Nat) : Int), ((t : Nat) : Int), x2, x3], p.1 ++ [], p.2) Q)) : zT (zE 1160) (Pt PX9_takeNewName) n (24, [((4 : Nat) : Int), ((t : Nat) : Int), x2, x3], [], s) Q := by
  refine tL ((4 : Nat) : Int) 0 rfl rfl rfl ?_
  refine tFR (c := 4) 1 rfl rfl rfl rfl rfl ?_
  refine tFv (c := 1) (s 1 1) 0 rfl rfl rfl rfl rfl ?_
  refine tI1 rfl (fun g1 _ l1 => zT_le ?_ (Nat.le_of_lt l1)) (fun g1 _ l1 => zT_le ?_ (Nat.le_of_lt l1))
  · refine tL x2 1 rfl rfl rfl ?_
    exact tR rfl (h0 g1)
  · refine tL ((4 : Nat) : Int) 0 rfl rfl rfl ?_
    refine tFR (c := 4) 1 rfl rfl rfl rfl rfl ?_
    exact tCall [(((1 : Nat) : Int), 0)] [] rfl rfl rfl (fun m l => h1 g1 m (Nat.lt_of_lt_of_le l (Nat.le_refl n)))

theorem c_X9_takeNewName {n : Nat} {Q : Zr → Prop} {a0 a1 : Int} {s : Zs} (h : zT (zE 1160) (Pt PX9_takeNewName) n (0, [a0, a1, 0, 0], [], s) Q) : zC n 1160 [(a0, 0), (a1, 0)] s Q := h

theorem b_X9_lineEnds_0 {n : Nat} {Q : Zr → Prop} (s : Zs) 
    (h0 : ∀ m, m < n → zC m 914 [(((1 : Nat) : Int), 0), (59, 0)] s (fun p => zT (zE 1152) (Pt PX9_lineEnds) m (9, [((4 : Nat) : Int)], p.1 ++ [], p.2) Q)) : zT (zE 1152) (Pt PX9_lineEnds) n (0, [((4 : Nat) : Int)], [], s) Q := by
  refine tL ((4 : Nat) : Int) 0 rfl rfl rfl ?_
  refine tFR (c := 4) 1 rfl rfl rfl rfl rfl ?_
  refine tK rfl ?_
  exact tCall [(((1 : Nat) : Int), 0), (59, 0)] [] rfl rfl rfl (fun m l => h0 m (Nat.lt_of_lt_of_le l (Nat.le_refl n)))

theorem b_X9_lineEnds_9 {n : Nat} {Q : Zr → Prop} (s : Zs) 
    (h0 : ∀ (g1 : s 1 1 ≠ 0), Q ([(0, 0)], s))
    (h1 : ∀ (g1 : s 1 1 = 0), Q ([(1, 0)], s)) : zT (zE 1152) (Pt PX9_lineEnds) n (9, [((4 : Nat) : Int)], [], s) Q := by
  refine tL ((4 : Nat) : Int) 0 rfl rfl rfl ?_
  refine tFR (c := 4) 1 rfl rfl rfl rfl rfl ?_
  refine tFv (c := 1) (s 1 1) 0 rfl rfl rfl rfl rfl ?_
  refine tI1 rfl (fun g1 _ l1 => zT_le ?_ (Nat.le_of_lt l1)) (fun g1 _ l1 => zT_le ?_ (Nat.le_of_lt l1))
  · refine tK rfl ?_
    exact tR rfl (h0 g1)
  · refine tK rfl ?_
    refine tG rfl ?_
    exact tR rfl (h1 g1)

theorem c_X9_lineEnds {n : Nat} {Q : Zr → Prop} {a0 : Int} {s : Zs} (h : zT (zE 1152) (Pt PX9_lineEnds) n (0, [a0], [], s) Q) : zC n 1152 [(a0, 0)] s Q := h

theorem gF_z {T : Nat → Int} {n : Nat} {k : Int} {x : PS} (h : (gF T n k x).1 = 0) : x.1 = 0 := Decidable.byContradiction fun q => q ((congrArg Prod.fst (gF_nz (T := T) (n := n) (k := k) q)).symm.trans h)
theorem gNx_z {T : Nat → Int} {n : Nat} {x : PS} (h : (gNx T n x).1 = 0) : x.1 = 0 := Decidable.byContradiction fun q => q ((congrArg Prod.fst (gNx_nz (T := T) (n := n) q)).symm.trans h)
theorem gW_z {T : Nat → Int} {n i : Nat} {x : PS} (h : (gW T n i x).1 = 0) : x.1 = 0 := Decidable.byContradiction fun q => q ((congrArg Prod.fst (gW_nz (T := T) (n := n) (i := i) q)).symm.trans h)
theorem gS_z {T : Nat → Int} {n : Nat} {c : Int} {x : PS} (h : (gS T n c x).1 = 0) : x.1 = 0 := Decidable.byContradiction fun q => q ((congrArg Prod.fst (gS_nz (T := T) (n := n) (c := c) q)).symm.trans h)
theorem gN_z {T : Nat → Int} {n : Nat} {lo hi : Int} {x : PS} (h : (gN T n lo hi x).1 = 0) : x.1 = 0 := Decidable.byContradiction fun q => q ((congrArg Prod.fst (gN_nz (T := T) (n := n) (lo := lo) (hi := hi) q)).symm.trans h)
theorem gNm_z {T : Nat → Int} {n : Nat} {x : PS} (h : (gNm T n x).1 = 0) : x.1 = 0 := Decidable.byContradiction fun q => q ((congrArg Prod.fst (gNm_nz (T := T) (n := n) q)).symm.trans h)
theorem gNh_z {T : Nat → Int} {n : Nat} {x : PS} (h : (gNh T n x).1 = 0) : x.1 = 0 := Decidable.byContradiction fun q => q ((congrArg Prod.fst (gNh_nz (T := T) (n := n) q)).symm.trans h)
theorem gNm_0 {T : Nat → Int} {n : Nat} {x : PS} (h : (gNm T n x).1 = 0) : gNm T n x = x ∧ isNm T n (kB T n x.2) = true := by
  unfold gNm at h ⊢
  by_cases hn : isNm T n (kB T n x.2) = true
  · rw [if_pos hn]
    exact ⟨rfl, hn⟩
  · rw [if_neg hn] at h
    exact absurd h (gF_ne (by decide) (gF_z h))
theorem isNm_w {T : Nat → Int} {n b : Nat} (hb : b ≤ n) (h : isNm T n b = true) : okW (eW T n b) ∧ eW T n b ≠ [] := by
  unfold isNm at h
  simp only [Bool.and_eq_true, decide_eq_true_eq] at h
  refine ⟨eW_ok hb, ?_⟩
  have hq := h.1
  unfold eQ at hq
  split at hq
  · cases hq
  · rename_i hlt
    split at hq
    · rename_i hl
      unfold eW
      have := ze_lt (n := n) (by omega) hl
      intro e
      have e2 := congrArg List.length e
      rw [wds_len] at e2
      simp at e2
      omega
    · split at hq
      · split at hq <;> cases hq
      · split at hq <;> cases hq
section Zcp
variable {N t : Nat} {s : Zs} {T : Nat → Int} {n : Nat} {x : PS} {D : ZD} {Q : Zr → Prop}
theorem cP_n (h : cP s t T n x D) : x.2 ≤ n := h.1.2.2.1
theorem cW {i : Nat} (ht : t = 7 ∨ t = 43) (hi : i < 28) (h : cP s t T n x D) (k : ∀ s', frT t s s' → cP s' t T n (gW T n i x) D → Q ([], s')) : zC N 916 [(((1 : Nat) : Int), 0), ((i : Int), 0)] s Q :=
  zC_q (takeWord_ok hi h.1) (fun r hr => by obtain ⟨r1, s'⟩ := r; obtain ⟨e, f, p⟩ := hr; have e : r1 = [] := e; subst e; exact k s' (frT_F f) (cP_F ht h f p gW_z))
theorem cS {c : Int} (ht : t = 7 ∨ t = 43) (h : cP s t T n x D) (k : ∀ s', frT t s s' → cP s' t T n (gS T n c x) D → Q ([], s')) : zC N 914 [(((1 : Nat) : Int), 0), (c, 0)] s Q :=
  zC_q (takeSign_ok h.1) (fun r hr => by obtain ⟨r1, s'⟩ := r; obtain ⟨e, f, p⟩ := hr; have e : r1 = [] := e; subst e; exact k s' (frT_F f) (cP_F ht h f p gS_z))
theorem cN {lo hi : Int} (ht : t = 7 ∨ t = 43) (hlo : 0 ≤ lo) (h : cP s t T n x D) (k : ∀ s', frT t s s' → cP s' t T n (gN T n lo hi x) D → Q ([(vN T n lo hi x, 0)], s')) : zC N 912 [(((1 : Nat) : Int), 0), (lo, 0), (hi, 0)] s Q :=
  zC_q (takeNumber_ok hlo h.1) (fun r hr => by obtain ⟨r1, s'⟩ := r; obtain ⟨e, f, p⟩ := hr; have e : r1 = _ := e; subst e; exact k s' (frT_F f) (cP_F ht h f p gN_z))
theorem cNh (ht : t = 7 ∨ t = 43) (h : cP s t T n x D) (k : ∀ s', frT t s s' → cP s' t T n (gNh T n x) D → Q ([(if (gNh T n x).1 = 0 then eM T n (kB T n x.2) else -1, 0)], s')) : zC N 911 [(((1 : Nat) : Int), 0)] s Q :=
  zC_q (numberHere_ok h.1) (fun r hr => by obtain ⟨r1, s'⟩ := r; obtain ⟨e, f, p⟩ := hr; have e : r1 = _ := e; subst e; exact k s' (frT_F f) (cP_F ht h f p gNh_z))
theorem cNm (ht : t = 7 ∨ t = 43) (h : cP s t T n x D) (k : ∀ s', frT t s s' → cP s' t T n (gNm T n x) D → Q ([(vW T n x, 1)], s')) : zC N 909 [(((1 : Nat) : Int), 0)] s Q :=
  zC_q (nameHere_ok h.1) (fun r hr => by obtain ⟨r1, s'⟩ := r; obtain ⟨e, f, p⟩ := hr; have e : r1 = _ := e; subst e; exact k s' (frT_F f) (cP_F ht h f p gNm_z))
theorem cFa {k' : Int} (ht : t = 7 ∨ t = 43) (hk : 1 ≤ k' ∧ k' ≤ 5) (h : cP s t T n x D) (k : ∀ s', frT t s s' → cP s' t T n (gF T n k' x) D → Q ([], s')) : zC N 899 [(((1 : Nat) : Int), 0), (k', 0)] s Q :=
  zC_q (fail_ok hk h.1) (fun r hr => by obtain ⟨r1, s'⟩ := r; obtain ⟨e, f, p⟩ := hr; have e : r1 = [] := e; subst e; exact k s' (frT_F f) (cP_F ht h f p gF_z))
theorem cNx (ht : t = 7 ∨ t = 43) (h0 : x.1 = 0) (h : cP s t T n x D) (k : ∀ s', frT t s s' → cP s' t T n (gNx T n x) D → Q ([], s')) : zC N 910 [(((1 : Nat) : Int), 0)] s Q :=
  pst_nextC h.1 h0 (fun s' f p => k s' (frT_F f) (cP_F ht h f p gNx_z))
theorem cTo {k' : Nat} (ht : t = 7 ∨ t = 43) (hk : k' < 5) (hk1 : k' ≠ 1) (h : cP s t T n x D) (k : ∀ s', frT t s s' → cP s' t T n (gTo T n (dN D k') x) D → Q ([(vTo T n (dN D k') x, 0)], s')) : zC N 915 [(((1 : Nat) : Int), 0), (((t : Nat) : Int), 0), ((k' : Int), 0)] s Q := by
  refine c_X7_takeTold (b_X7_takeTold_0 (k' : Int) 0 s ht (fun m hm => cNm ht h (fun s1 f1 h1 => ?_)))
  refine b_X7_takeTold_6 (k' : Int) 0 (vW T n x) (k' : Int) s1 ht (fun m' hm' => ?_)
  by_cases hg : (gNm T n x).1 = 0
  · obtain ⟨e1, e2⟩ := gNm_0 hg
    have hx : x.1 = 0 := gNm_z hg
    have hw := isNm_w (kB_bd (cP_n h)) e2
    have ev : vW T n x = enc 32 (eW T n (kB T n x.2)) := if_pos hg
    rw [ev]
    refine zC_q (find_ok ht hk hk1 h1.2.1 h1.2.2.1 hw.1) (fun r hr => ?_)
    subst hr
    have et : vTo T n (dN D k') x = ixW (eW T n (kB T n x.2)) (dN D k') := if_pos hg
    refine b_X7_takeTold_9 (k' : Int) 0 (ixW (eW T n (kB T n x.2)) (dN D k')) s1 ht (fun g1 m2 hm2 => ?_) (fun g1 m2 hm2 => ?_)
    · have eg : gTo T n (dN D k') x = gNx T n (gNm T n x) := if_neg (fun q => g1 q.2)
      refine cNx ht hg h1 (fun s2 f2 h2 => b_X7_takeTold_27 (k' : Int) _ s2 ht ?_)
      rw [← et]
      exact k s2 (frT_tr f1 f2) (by rw [eg]; exact h2)
    · have eg : gTo T n (dN D k') x = gF T n 2 (gNm T n x) := if_pos ⟨hg, g1⟩
      refine cFa ht (by decide) h1 (fun s2 f2 h2 => b_X7_takeTold_20 (k' : Int) _ s2 ht ?_)
      rw [← et]
      exact k s2 (frT_tr f1 f2) (by rw [eg]; exact h2)
  · have ev : vW T n x = 0 := if_neg hg
    have et : vTo T n (dN D k') x = -1 := if_neg hg
    have eg : gTo T n (dN D k') x = gNm T n x := by unfold gTo; rw [if_neg (fun q => hg q.1)]; exact gNx_nz hg
    rw [ev]
    refine zC_q (find_0 ht hk hk1 h1.2.1 h1.2.2.1) (fun r hr => ?_)
    subst hr
    refine b_X7_takeTold_9 (k' : Int) 0 (-1) s1 ht (fun g1 m2 hm2 => absurd rfl g1) (fun g1 m2 hm2 => ?_)
    refine cFa ht (by decide) h1 (fun s2 f2 h2 => b_X7_takeTold_20 (k' : Int) _ s2 ht ?_)
    rw [← et]
    exact k s2 (frT_tr f1 f2) (by rw [eg]; rw [gF_nz hg] at h2; exact h2)
/-- floors of a house, as the class has them -/
theorem flr_c (h : cP s t T n x D) (v : Int) : (v < 0 → flr D v = -1) ∧ (s (t + 1) 0 ≤ v → flr D v = -1) ∧ (0 ≤ v → v < s (t + 1) 0 → s (t + 33) v.toNat = flr D v ∧ 1 ≤ flr D v ∧ flr D v ≤ 5) := by
  have hc := h.2.1.1 0 (by omega)
  have hc : s (t + 1) 0 = ((dN D 0).length : Int) := hc
  refine ⟨fun h1 => if_neg (by omega), fun h1 => if_neg (by omega), fun h1 h2 => ?_⟩
  have hl : (dC D 0).length = (dN D 0).length := h.2.2.1.2.2.2.1
  have hlt : v.toNat < (dC D 0).length := by omega
  have hv := List.getElem?_eq_getElem hlt
  have hf := h.2.2.1.2.2.2.2.2.1 _ (List.getElem_mem hlt)
  have e : flr D v = (dC D 0)[v.toNat] := by
    unfold flr
    rw [if_pos ⟨h1, by omega⟩, hv]
    rfl
  rw [e]
  exact ⟨h.2.1.2.2.1 _ _ hv, hf⟩
theorem gTo_0 {ws : List (List Int)} (h : (gTo T n ws x).1 = 0) : (gNm T n x).1 = 0 ∧ ixW (eW T n (kB T n x.2)) ws ≠ -1 := by
  unfold gTo at h
  by_cases c : (gNm T n x).1 = 0 ∧ ixW (eW T n (kB T n x.2)) ws = -1
  · rw [if_pos c] at h
    exact absurd h (gF_ne (by decide) c.1)
  · rw [if_neg c] at h
    have h1 := gNx_z h
    exact ⟨h1, fun e => c ⟨h1, e⟩⟩
theorem gTo_z {ws : List (List Int)} (h : (gTo T n ws x).1 = 0) : x.1 = 0 := gNm_z (gTo_0 h).1
theorem gPl_z (h : (gPl T n D x).1 = 0) : x.1 = 0 := gTo_z (gN_z h)
theorem gN_0 {lo hi : Int} (h : (gN T n lo hi x).1 = 0) : lo ≤ eM T n (kB T n x.2) ∧ eM T n (kB T n x.2) ≤ hi ∧ eQ T n (kB T n x.2) = 3 := by
  have h0 := gN_z h
  unfold gN at h
  by_cases c : eQ T n (kB T n x.2) = 3
  · rw [if_pos c] at h
    by_cases c2 : lo ≤ eM T n (kB T n x.2) ∧ eM T n (kB T n x.2) ≤ hi
    · exact ⟨c2.1, c2.2, c⟩
    · rw [if_neg c2] at h
      exact absurd h (gF_ne (by decide) h0)
  · rw [if_neg c] at h
    exact absurd h (gF_ne (by decide) h0)
theorem cPl (ht : t = 7 ∨ t = 43) (h : cP s t T n x D) (k : ∀ s', frT t s s' → cP s' t T n (gPl T n D x) D → Q ([(vPl T n D x, 0)], s')) : zC N 913 [(((1 : Nat) : Int), 0), (((t : Nat) : Int), 0)] s Q := by
  refine c_X7_takePlace (b_X7_takePlace_0 0 0 s ht (fun m hm => cTo (k' := 0) ht (by omega) (by omega) h (fun s1 f1 h1 => ?_)))
  have z := flr_c h1 (vTo T n (dN D 0) x)
  have fin : ∀ m : Nat, zC m 912 [(((1 : Nat) : Int), 0), (0, 0), (flr D (vTo T n (dN D 0) x), 0)] s1 (fun p => zT (zE 913) (Pt PX7_takePlace) m (17, [((1 : Nat) : Int), ((t : Nat) : Int), vTo T n (dN D 0) x, 0], p.1 ++ [], p.2) Q) := fun m => by
    refine cN ht (by omega) h1 (fun s2 f2 h2 => ?_)
    have eg : gN T n 0 (flr D (vTo T n (dN D 0) x)) (gTo T n (dN D 0) x) = gPl T n D x := rfl
    rw [eg] at h2
    refine b_X7_takePlace_17 (vTo T n (dN D 0) x) 0 _ s2 ht (fun g1 => ?_) (fun g1 => ?_)
    · rw [h2.1.1] at g1
      have ev : vPl T n D x = -1 := if_neg g1
      rw [← ev]
      exact k s2 (frT_tr f1 f2) h2
    · rw [h2.1.1] at g1
      have ev : vPl T n D x = vTo T n (dN D 0) x * 6 + eM T n (kB T n (gTo T n (dN D 0) x).2) := if_pos g1
      have en : vN T n 0 (flr D (vTo T n (dN D 0) x)) (gTo T n (dN D 0) x) = eM T n (kB T n (gTo T n (dN D 0) x).2) := if_pos (by rw [eg]; exact g1)
      have b1 := gN_0 g1
      have b2 := gTo_0 (gN_z g1)
      have b3 : vTo T n (dN D 0) x = ixW (eW T n (kB T n x.2)) (dN D 0) := if_pos b2.1
      have b4 := ixW_bd (w := eW T n (kB T n x.2)) (dN D 0)
      have b5 := h.2.2.1.1 0 (by omega)
      have b5 : (dN D 0).length ≤ 5 := b5
      have b6 : flr D (vTo T n (dN D 0) x) ≤ 5 := (z.2.2 (by omega) (by rw [h1.2.1.1 0 (by omega)]; show _ < ((dN D 0).length : Int); omega)).2.2
      rw [en, show w32 (w32 (vTo T n (dN D 0) x * 6) + eM T n (kB T n (gTo T n (dN D 0) x).2)) = vPl T n D x from by rw [w32_id (z := vTo T n (dN D 0) x * 6) (by omega) (by omega), w32_id (by omega) (by omega), ev]]
      exact k s2 (frT_tr f1 f2) h2
  refine b_X7_takePlace_6 0 0 (vTo T n (dN D 0) x) s1 ht (fun g2 m' _ => ?_) (fun g4 g5 m' _ => ?_) (fun g7 g8 m' _ => ?_)
  · rw [← z.1 g2]
    exact fin m'
  · rw [← z.2.1 g5]
    exact fin m'
  · rw [(z.2.2 g7 g8).1]
    exact fin m'
theorem moF_most : ∀ k, k < 5 → (moF k).toInt = (most k : Int) := by decide +kernel
theorem cFi {k' : Nat} (ht : t = 7 ∨ t = 43) (hk : k' < 5) (h0 : x.1 = 0) (h : cP s t T n x D) (k : ∀ s', frT t s s' → cP s' t T n (gFi T n D k' x) D → Q ([], s')) : zC N 1159 [(((4 : Nat) : Int), 0), (((t : Nat) : Int), 0), ((k' : Int), 0)] s Q := by
  refine c_X9_takeFirst (b_X9_takeFirst_0 (k' : Int) s ht (fun g m hm => ?_) (fun g m hm => ?_))
  · rw [Int.toNat_natCast, h.2.1.1 k' hk, h.2.2.2.2 k', moF_most k' hk] at g
    have e : gFi T n D k' x = gNx T n x := if_neg (by omega)
    exact cNx ht h0 h (fun s1 f1 h1 => b_X9_takeFirst_26 _ s1 ht (k s1 f1 (by rw [e]; exact h1)))
  · rw [Int.toNat_natCast, h.2.1.1 k' hk, h.2.2.2.2 k', moF_most k' hk] at g
    have e : gFi T n D k' x = gF T n 5 x := if_pos (by omega)
    exact cFa ht (by decide) h (fun s1 f1 h1 => b_X9_takeFirst_16 _ s1 ht (k s1 f1 (by rw [e]; exact h1)))
theorem cOn {v : Int} {b : Bool} (ht : t = 7 ∨ t = 43) (h0 : x.1 = 0) (hb : v = 0 ↔ b = false) (h : cP s t T n x D) (k : ∀ s', frT t s s' → cP s' t T n (gOn T n b x) D → Q ([], s')) : zC N 1161 [(((4 : Nat) : Int), 0), (v, 0)] s Q := by
  refine c_X9_takeOnce (b_X9_takeOnce_0 v s (fun g m hm => ?_) (fun g m hm => ?_))
  · have e : gOn T n b x = gNx T n x := if_neg (by rw [hb.mp g]; decide)
    exact cNx ht h0 h (fun s1 f1 h1 => b_X9_takeOnce_22 _ s1 (k s1 f1 (by rw [e]; exact h1)))
  · have e : gOn T n b x = gF T n 3 x := if_pos (by cases b with
      | true => rfl
      | false => exact absurd (hb.mpr rfl) g)
    exact cFa ht (by decide) h (fun s1 f1 h1 => b_X9_takeOnce_12 _ s1 (k s1 f1 (by rw [e]; exact h1)))
theorem gNew_0 (h : (gNew T n D x).1 = 0) : (gNm T n x).1 = 0 ∧ told D (eW T n (kB T n x.2)) = false := by
  unfold gNew at h
  by_cases c : (gNm T n x).1 = 0 ∧ told D (eW T n (kB T n x.2)) = true
  · rw [if_pos c] at h
    exact absurd h (gF_ne (by decide) c.1)
  · rw [if_neg c] at h
    have h1 := gNx_z h
    exact ⟨h1, Bool.eq_false_iff.mpr (fun e => c ⟨h1, e⟩)⟩
theorem gNew_z (h : (gNew T n D x).1 = 0) : x.1 = 0 := gNm_z (gNew_0 h).1
theorem cNew (ht : t = 7 ∨ t = 43) (h : cP s t T n x D) (k : ∀ s', frT t s s' → cP s' t T n (gNew T n D x) D → Q ([(vW T n x, 1)], s')) : zC N 1160 [(((4 : Nat) : Int), 0), (((t : Nat) : Int), 0)] s Q := by
  refine c_X9_takeNewName (b_X9_takeNewName_0 0 0 s ht (fun m hm => cNm ht h (fun s1 f1 h1 => ?_)))
  refine b_X9_takeNewName_7 0 0 (vW T n x) s1 ht (fun m' hm' => ?_)
  by_cases hg : (gNm T n x).1 = 0
  · obtain ⟨e1, e2⟩ := gNm_0 hg
    have hw := isNm_w (kB_bd (cP_n h)) e2
    have ev : vW T n x = enc 32 (eW T n (kB T n x.2)) := if_pos hg
    refine zC_q (by rw [ev]; exact isTold_ok ht h1.2.1 h1.2.2.1 hw.1 hw.2) (fun r hr => ?_)
    subst hr
    by_cases hto : told D (eW T n (kB T n x.2)) = true
    · have eg : gNew T n D x = gF T n 3 (gNm T n x) := if_pos ⟨hg, hto⟩
      have hne : (gF T n 3 (gNm T n x)).1 ≠ 0 := gF_ne (by decide) hg
      rw [if_pos hto]
      refine b_X9_takeNewName_13 (vW T n x) 0 1 s1 ht (fun q => absurd q (by decide)) (fun q => absurd q (by decide)) (fun _ m2 hm2 => ?_)
      refine cFa ht (by decide) h1 (fun s2 f2 h2 => b_X9_takeNewName_24 (vW T n x) 0 s2 ht (fun g => ?_) (fun g => ?_))
      · exact k s2 (frT_tr f1 f2) (by rw [eg]; exact h2)
      · rw [h2.1.1] at g
        exact absurd g hne
    · have eg : gNew T n D x = gNx T n (gNm T n x) := if_neg (fun q => hto q.2)
      rw [if_neg hto]
      refine b_X9_takeNewName_13 (vW T n x) 0 0 s1 ht (fun _ g => ?_) (fun _ g m2 hm2 => ?_) (fun q => absurd rfl q)
      · rw [h1.1.1] at g
        exact absurd hg g
      · refine cNx ht hg h1 (fun s2 f2 h2 => b_X9_takeNewName_41 (vW T n x) 0 s2 ht ?_)
        exact k s2 (frT_tr f1 f2) (by rw [eg]; exact h2)
  · have eg : gNew T n D x = gNm T n x := by unfold gNew; rw [if_neg (fun q => hg q.1)]; exact gNx_nz hg
    refine zC_q (isTold_0 ht) (fun r hr => ?_)
    obtain ⟨v, rfl⟩ := hr
    refine b_X9_takeNewName_13 (vW T n x) 0 v s1 ht (fun _ g => ?_) (fun _ g m2 hm2 => ?_) (fun _ m2 hm2 => ?_)
    · exact k s1 f1 (by rw [eg]; exact h1)
    · rw [h1.1.1] at g
      exact absurd g hg
    · refine cFa ht (by decide) h1 (fun s2 f2 h2 => b_X9_takeNewName_24 (vW T n x) 0 s2 ht (fun g => ?_) (fun g => ?_))
      · exact k s2 (frT_tr f1 f2) (by rw [eg]; rw [gF_nz hg] at h2; exact h2)
      · rw [h2.1.1, gF_nz hg] at g
        exact absurd g hg
theorem cEnd (ht : t = 7 ∨ t = 43) (h : cP s t T n x D) (k : ∀ s', frT t s s' → cP s' t T n (gS T n 59 x) D → Q ([(if (gS T n 59 x).1 = 0 then 1 else 0, 0)], s')) : zC N 1152 [(((4 : Nat) : Int), 0)] s Q := by
  refine c_X9_lineEnds (b_X9_lineEnds_0 s (fun m hm => cS ht h (fun s1 f1 h1 => ?_)))
  refine b_X9_lineEnds_9 s1 (fun g => ?_) (fun g => ?_)
  · rw [h1.1.1] at g
    have := k s1 f1 h1
    rw [if_neg g] at this
    exact this
  · rw [h1.1.1] at g
    have := k s1 f1 h1
    rw [if_pos g] at this
    exact this
end Zcp
