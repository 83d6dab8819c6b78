/-! post, watch -/
theorem b_X10_floorsBetween_0 {n : Nat} {Q : Zr → Prop} {t : Nat} (x0 x1 : Int) (s : Zs) (ht : t = 7 ∨ t = 43)
    (h0 : ∀ (g1 : zdiv x0 6 ≠ zdiv x1 6), Q ([(w32 ((w32 ((zrem x0 6) + (zrem x1 6))) + 1), 0)], s))
    (h1 : ∀ (g1 : zdiv x0 6 = zdiv x1 6), Q ([(if 0 ≤ w32 (x0 - x1) then w32 (x0 - x1) else w32 (0 - (w32 (x0 - x1))), 0)], s)) : zT (zE 1298) (Pt PX10_floorsBetween) n (0, [x0, x1], [], s) Q := by
  refine tL x0 0 rfl rfl rfl ?_
  refine tK rfl ?_
  refine tB (v := zdiv x0 6) rfl rfl ?_
  refine tL x1 0 rfl rfl rfl ?_
  refine tK rfl ?_
  refine tB (v := zdiv x1 6) rfl rfl ?_
  refine tJ1 rfl (fun g1 _ l1 => zT_le ?_ (Nat.le_of_lt l1)) (fun g1 _ l1 => zT_le ?_ (Nat.le_of_lt l1))
  · refine tL x0 0 rfl rfl rfl ?_
    refine tK rfl ?_
    refine tB (v := zrem x0 6) rfl rfl ?_
    refine tL x1 0 rfl rfl rfl ?_
    refine tK rfl ?_
    refine tB (v := zrem x1 6) rfl rfl ?_
    refine tB (v := w32 ((zrem x0 6) + (zrem x1 6))) rfl rfl ?_
    refine tK rfl ?_
    refine tB (v := w32 ((w32 ((zrem x0 6) + (zrem x1 6))) + 1)) rfl rfl ?_
    exact tR rfl (h0 g1)
  · refine tL x0 0 rfl rfl rfl ?_
    refine tL x1 0 rfl rfl rfl ?_
    refine tB (v := w32 (x0 - x1)) rfl rfl ?_
    refine tE2 rfl rfl ?_
    exact tR rfl (h1 g1)

theorem c_X10_floorsBetween {n : Nat} {Q : Zr → Prop} {a0 a1 : Int} {s : Zs} (h : zT (zE 1298) (Pt PX10_floorsBetween) n (0, [a0, a1], [], s) Q) : zC n 1298 [(a0, 0), (a1, 0)] s Q := h

theorem b_X10_afterRound_0 {n : Nat} {Q : Zr → Prop} {t : Nat} (x1 x2 x3 x4 x5 : Int) (s : Zs) (ht : t = 7 ∨ t = 43)
    (h0 : zT (zE 1280) (Pt PX10_afterRound) n (4, [((0 : Nat) : Int), x1, x1, 0, x4, x5], [], s) Q) : zT (zE 1280) (Pt PX10_afterRound) n (0, [((0 : Nat) : Int), x1, x2, x3, x4, x5], [], s) Q := by
  refine tL x1 0 rfl rfl rfl ?_
  refine tS [((0 : Nat) : Int), x1, x1, x3, x4, x5] rfl rfl ?_
  refine tK rfl ?_
  refine tS [((0 : Nat) : Int), x1, x1, 0, x4, x5] rfl rfl ?_
  exact zT_le (h0) (Nat.le_refl n)

theorem b_X10_afterRound_4 {n : Nat} {Q : Zr → Prop} {t : Nat} (x1 x2 x3 x4 x5 : Int) (s : Zs) (ht : t = 7 ∨ t = 43)
    (h0 : ∀ (g1 : s (zrho ((s 0 3).toNat) 0) 3 ≤ x3), Q ([(x2, 0)], s))
    (h1 : ∀ (g1 : x3 < s (zrho ((s 0 3).toNat) 0) 3), zT (zE 1280) (Pt PX10_afterRound) n (20, [((0 : Nat) : Int), x1, x2, x3, 0, x5], [], s) Q) : zT (zE 1280) (Pt PX10_afterRound) n (4, [((0 : Nat) : Int), x1, x2, x3, x4, x5], [], s) Q := by
  refine tL x3 0 rfl rfl rfl ?_
  refine tL ((0 : Nat) : Int) 0 rfl rfl rfl ?_
  refine tFv (c := 0) (s 0 3) 0 rfl rfl rfl rfl rfl ?_
  refine tFR (c := (s 0 3).toNat) (zrho ((s 0 3).toNat) 0) rfl rfl rfl rfl rfl ?_
  refine tK rfl ?_
  refine tAv (zrho ((s 0 3).toNat) 0) 3 (s (zrho ((s 0 3).toNat) 0) 3) 0 rfl rfl rfl (by decide) rfl rfl ?_
  refine tJ3 rfl (fun g1 _ l1 => zT_le ?_ (Nat.le_of_lt l1)) (fun g1 _ l1 => zT_le ?_ (Nat.le_of_lt l1))
  · refine tL x2 0 rfl rfl rfl ?_
    exact tR rfl (h0 g1)
  · refine tK rfl ?_
    refine tS [((0 : Nat) : Int), x1, x2, x3, 0, x5] rfl rfl ?_
    exact zT_le (h1 g1) (Nat.le_refl n)

theorem b_X10_afterRound_20 {n : Nat} {Q : Zr → Prop} {t : Nat} (x1 x2 x3 x4 x5 : Int) (s : Zs) (ht : t = 7 ∨ t = 43)
    (h0 : ∀ (g1 : s (zrho ((s 0 3).toNat) 0) 3 ≤ x4), ∀ m, m < n → zT (zE 1280) (Pt PX10_afterRound) m (4, [((0 : Nat) : Int), x1, x2, w32 (x3 + 1), x4, x5], [], s) Q)
    (h1 : ∀ (g1 : x4 < s (zrho ((s 0 3).toNat) 0) 3), ∀ m, m < n → zC m 1298 [(s 80 x3.toNat, 0), (s 80 x4.toNat, 0)] s (fun p => zT (zE 1280) (Pt PX10_afterRound) m (56, [((0 : Nat) : Int), x1, x2, x3, x4, x5], p.1 ++ [], p.2) Q)) : zT (zE 1280) (Pt PX10_afterRound) n (20, [((0 : Nat) : Int), x1, x2, x3, x4, x5], [], s) Q := by
  refine tL x4 0 rfl rfl rfl ?_
  refine tL ((0 : Nat) : Int) 0 rfl rfl rfl ?_
  refine tFv (c := 0) (s 0 3) 0 rfl rfl rfl rfl rfl ?_
  refine tFR (c := (s 0 3).toNat) (zrho ((s 0 3).toNat) 0) rfl rfl rfl rfl rfl ?_
  refine tK rfl ?_
  refine tAv (zrho ((s 0 3).toNat) 0) 3 (s (zrho ((s 0 3).toNat) 0) 3) 0 rfl rfl rfl (by decide) rfl rfl ?_
  refine tJ3 rfl (fun g1 _ l1 => zT_le ?_ (Nat.le_of_lt l1)) (fun g1 _ l1 => zT_le ?_ (Nat.le_of_lt l1))
  · refine tInc [((0 : Nat) : Int), x1, x2, w32 (x3 + 1), x4, x5] rfl rfl ?_
    exact tGb rfl (fun m2 l2 => h0 g1 m2 (Nat.lt_of_lt_of_le l2 (Nat.le_refl n)))
  · refine tL ((0 : Nat) : Int) 0 rfl rfl rfl ?_
    refine tFR (c := 0) 79 rfl rfl rfl rfl rfl ?_
    refine tFR (c := 79) 80 rfl rfl rfl rfl rfl ?_
    refine tL x3 0 rfl rfl rfl ?_
    refine tAv 80 x3.toNat (s 80 x3.toNat) 0 rfl rfl rfl (by decide) rfl rfl ?_
    refine tL ((0 : Nat) : Int) 0 rfl rfl rfl ?_
    refine tFR (c := 0) 79 rfl rfl rfl rfl rfl ?_
    refine tFR (c := 79) 80 rfl rfl rfl rfl rfl ?_
    refine tL x4 0 rfl rfl rfl ?_
    refine tAv 80 x4.toNat (s 80 x4.toNat) 0 rfl rfl rfl (by decide) rfl rfl ?_
    exact tCall [(s 80 x3.toNat, 0), (s 80 x4.toNat, 0)] [] rfl rfl rfl (fun m l => h1 g1 m (Nat.lt_of_lt_of_le l (Nat.le_refl n)))

theorem b_X10_afterRound_56 {n : Nat} {Q : Zr → Prop} {t : Nat} (x1 x2 x3 x4 x5 v0 : Int) (s : Zs) (ht : t = 7 ∨ t = 43)
    (h0 : ∀ (g1 : s (zrho (zrho ((s 0 3).toNat) 3) x3.toNat) 2 < v0), ∀ m, m < n → zT (zE 1280) (Pt PX10_afterRound) m (20, [((0 : Nat) : Int), x1, x2, x3, w32 (x4 + 1), 0], [], s) Q)
    (h1 : ∀ (g1 : v0 ≤ s (zrho (zrho ((s 0 3).toNat) 3) x3.toNat) 2), ∀ (g2 : zand (zshr x1 x3) 1 ≠ 1), ∀ m, m < n → zT (zE 1280) (Pt PX10_afterRound) m (20, [((0 : Nat) : Int), x1, x2, x3, w32 (x4 + 1), 1], [], s) Q)
    (h2 : ∀ (g1 : v0 ≤ s (zrho (zrho ((s 0 3).toNat) 3) x3.toNat) 2), ∀ (g2 : zand (zshr x1 x3) 1 = 1), ∀ m, m < n → zT (zE 1280) (Pt PX10_afterRound) m (20, [((0 : Nat) : Int), x1, zor x2 (zshl 1 x4), x3, w32 (x4 + 1), 1], [], s) Q) : zT (zE 1280) (Pt PX10_afterRound) n (56, [((0 : Nat) : Int), x1, x2, x3, x4, x5], [(v0, 0)], s) Q := by
  refine tL ((0 : Nat) : Int) 0 rfl rfl rfl ?_
  refine tFv (c := 0) (s 0 3) 0 rfl rfl rfl rfl rfl ?_
  refine tFR (c := (s 0 3).toNat) (zrho ((s 0 3).toNat) 3) rfl rfl rfl rfl rfl ?_
  refine tL x3 0 rfl rfl rfl ?_
  refine tAR (zrho (zrho ((s 0 3).toNat) 3) x3.toNat) rfl rfl ?_
  refine tK rfl ?_
  refine tAv (zrho (zrho ((s 0 3).toNat) 3) x3.toNat) 2 (s (zrho (zrho ((s 0 3).toNat) 3) x3.toNat) 2) 0 rfl rfl rfl (by decide) rfl rfl ?_
  refine tJ4 rfl (fun g1 _ l1 => zT_le ?_ (Nat.le_of_lt l1)) (fun g1 _ l1 => zT_le ?_ (Nat.le_of_lt l1))
  · refine tK rfl ?_
    refine tS [((0 : Nat) : Int), x1, x2, x3, x4, 0] rfl rfl ?_
    refine tL 0 0 rfl rfl rfl ?_
    refine tI0 rfl (fun g _ l => zT_le ?_ (Nat.le_of_lt l)) (fun g _ l => (absurd g (by decide)))
    refine tInc [((0 : Nat) : Int), x1, x2, x3, w32 (x4 + 1), 0] rfl rfl ?_
    exact tGb rfl (fun m2 l2 => h0 g1 m2 (Nat.lt_of_lt_of_le l2 (Nat.le_refl n)))
  · refine tK rfl ?_
    refine tG rfl ?_
    refine tS [((0 : Nat) : Int), x1, x2, x3, x4, 1] rfl rfl ?_
    refine tL 1 0 rfl rfl rfl ?_
    refine tI0 rfl (fun g _ l => (absurd g (by decide))) (fun g _ l => zT_le ?_ (Nat.le_of_lt l))
    refine tL x1 0 rfl rfl rfl ?_
    refine tL x3 0 rfl rfl rfl ?_
    refine tB (v := zshr x1 x3) rfl rfl ?_
    refine tK rfl ?_
    refine tB (v := zand (zshr x1 x3) 1) rfl rfl ?_
    refine tK rfl ?_
    refine tJ1 rfl (fun g2 _ l2 => zT_le ?_ (Nat.le_of_lt l2)) (fun g2 _ l2 => zT_le ?_ (Nat.le_of_lt l2))
    · refine tInc [((0 : Nat) : Int), x1, x2, x3, w32 (x4 + 1), 1] rfl rfl ?_
      exact tGb rfl (fun m2 l2 => h1 g1 g2 m2 (Nat.lt_of_lt_of_le l2 (Nat.le_refl n)))
    · refine tL x2 0 rfl rfl rfl ?_
      refine tK rfl ?_
      refine tL x4 0 rfl rfl rfl ?_
      refine tB (v := zshl 1 x4) rfl rfl ?_
      refine tB (v := zor x2 (zshl 1 x4)) rfl rfl ?_
      refine tS [((0 : Nat) : Int), x1, zor x2 (zshl 1 x4), x3, x4, 1] rfl rfl ?_
      refine tInc [((0 : Nat) : Int), x1, zor x2 (zshl 1 x4), x3, w32 (x4 + 1), 1] rfl rfl ?_
      exact tGb rfl (fun m2 l2 => h2 g1 g2 m2 (Nat.lt_of_lt_of_le l2 (Nat.le_refl n)))

theorem c_X10_afterRound {n : Nat} {Q : Zr → Prop} {a0 a1 : Int} {s : Zs} (h : zT (zE 1280) (Pt PX10_afterRound) n (0, [a0, a1, 0, 0, 0, 0], [], s) Q) : zC n 1280 [(a0, 0), (a1, 0)] s Q := h

theorem b_X10_post_0 {n : Nat} {Q : Zr → Prop} {t : Nat} (x1 x2 x3 x4 x5 x6 : Int) (s : Zs) (ht : t = 7 ∨ t = 43)
    (h0 : ∀ m, m < n → zC m 1034 [(s 0 3, 0), (3, 0), (x1, 0)] s (fun p => zT (zE 1309) (Pt PX10_post) m (9, [((0 : Nat) : Int), x1, x2, x3, x4, x5, x6], p.1 ++ [], p.2) Q)) : zT (zE 1309) (Pt PX10_post) n (0, [((0 : Nat) : Int), x1, x2, x3, x4, x5, x6], [], s) Q := by
  refine tL ((0 : Nat) : Int) 0 rfl rfl rfl ?_
  refine tFv (c := 0) (s 0 3) 0 rfl rfl rfl rfl rfl ?_
  refine tK rfl ?_
  refine tL x1 0 rfl rfl rfl ?_
  exact tCall [(s 0 3, 0), (3, 0), (x1, 0)] [] rfl rfl rfl (fun m l => h0 m (Nat.lt_of_lt_of_le l (Nat.le_refl n)))

theorem b_X10_post_33 {n : Nat} {Q : Zr → Prop} {t : Nat} (x1 x2 x3 x4 x5 x6 : Int) (s : Zs) (ht : t = 7 ∨ t = 43)
    (h0 : ∀ (g1 : s 1000 3 ≤ x5), ∀ (g2 : x2 ≠ 0), Q ([(x4, 0)], s))
    (h1 : ∀ (g1 : s 1000 3 ≤ x5), ∀ (g2 : x2 = 0), Q ([(x3, 0)], s))
    (h2 : ∀ (g1 : x5 < s 1000 3), ∀ m, m < n → zC m 1280 [(((0 : Nat) : Int), 0), (x4, 0)] s (fun p => zT (zE 1309) (Pt PX10_post) m (49, [((0 : Nat) : Int), x1, x2, x3, x4, x5, x6], p.1 ++ [], p.2) Q)) : zT (zE 1309) (Pt PX10_post) n (33, [((0 : Nat) : Int), x1, x2, x3, x4, x5, x6], [], s) Q := by
  refine tL x5 0 rfl rfl rfl ?_
  refine tKR rfl ?_
  refine tK rfl ?_
  refine tAv 1000 3 (s 1000 3) 0 rfl rfl rfl (by decide) rfl rfl ?_
  refine tJ3 rfl (fun g1 _ l1 => zT_le ?_ (Nat.le_of_lt l1)) (fun g1 _ l1 => zT_le ?_ (Nat.le_of_lt l1))
  · refine tL x2 0 rfl rfl rfl ?_
    refine tI1 rfl (fun g2 _ l2 => zT_le ?_ (Nat.le_of_lt l2)) (fun g2 _ l2 => zT_le ?_ (Nat.le_of_lt l2))
    · refine tL x4 0 rfl rfl rfl ?_
      exact tR rfl (h0 g1 g2)
    · refine tL x3 0 rfl rfl rfl ?_
      refine tG rfl ?_
      exact tR rfl (h1 g1 g2)
  · refine tL ((0 : Nat) : Int) 0 rfl rfl rfl ?_
    refine tL x4 0 rfl rfl rfl ?_
    exact tCall [(((0 : Nat) : Int), 0), (x4, 0)] [] rfl rfl rfl (fun m l => h2 g1 m (Nat.lt_of_lt_of_le l (Nat.le_refl n)))

theorem b_X10_post_9 {n : Nat} {Q : Zr → Prop} {t : Nat} (x1 x2 x3 x4 x5 x6 v0 : Int) (s : Zs) (ht : t = 7 ∨ t = 43)
    (h0 : ∀ (g1 : v0 = 0), Q ([((-1), 0)], s))
    (h1 : ∀ (g1 : v0 ≠ 0), ∀ (g2 : x2 < 0), Q ([((-1), 0)], s))
    (h2 : ∀ (g1 : v0 ≠ 0), ∀ (g2 : 0 ≤ x2), ∀ (g3 : x2 ≤ 1), zT (zE 1309) (Pt PX10_post) n (33, [((0 : Nat) : Int), x1, x2, 0, zshl 1 x1, 0, x6], [], s) Q)
    (h3 : ∀ (g1 : v0 ≠ 0), ∀ (g2 : 0 ≤ x2), ∀ (g3 : 1 < x2), Q ([((-1), 0)], s)) : zT (zE 1309) (Pt PX10_post) n (9, [((0 : Nat) : Int), x1, x2, x3, x4, x5, x6], [(v0, 0)], s) Q := by
  refine tI0 rfl (fun g1 _ l1 => zT_le ?_ (Nat.le_of_lt l1)) (fun g1 _ l1 => zT_le ?_ (Nat.le_of_lt l1))
  · refine tK rfl ?_
    exact tR rfl (h0 g1)
  · refine tL x2 0 rfl rfl rfl ?_
    refine tI2 rfl (fun g2 _ l2 => zT_le ?_ (Nat.le_of_lt l2)) (fun g2 _ l2 => zT_le ?_ (Nat.le_of_lt l2))
    · refine tK rfl ?_
      exact tR rfl (h1 g1 g2)
    · refine tL x2 0 rfl rfl rfl ?_
      refine tK rfl ?_
      refine tJ5 rfl (fun g3 _ l3 => zT_le ?_ (Nat.le_of_lt l3)) (fun g3 _ l3 => zT_le ?_ (Nat.le_of_lt l3))
      · refine tK rfl ?_
        refine tS [((0 : Nat) : Int), x1, x2, 0, x4, x5, x6] rfl rfl ?_
        refine tK rfl ?_
        refine tL x1 0 rfl rfl rfl ?_
        refine tB (v := zshl 1 x1) rfl rfl ?_
        refine tS [((0 : Nat) : Int), x1, x2, 0, zshl 1 x1, x5, x6] rfl rfl ?_
        refine tK rfl ?_
        refine tS [((0 : Nat) : Int), x1, x2, 0, zshl 1 x1, 0, x6] rfl rfl ?_
        exact zT_le (h2 g1 g2 g3) (Nat.le_refl n)
      · refine tK rfl ?_
        exact tR rfl (h3 g1 g2 g3)

theorem b_X10_post_49 {n : Nat} {Q : Zr → Prop} {t : Nat} (x1 x2 x3 x4 x5 x6 v0 : Int) (s : Zs) (ht : t = 7 ∨ t = 43)
    (h0 : ∀ (g1 : v0 ≠ x4), ∀ m, m < n → zT (zE 1309) (Pt PX10_post) m (33, [((0 : Nat) : Int), x1, x2, w32 (x3 + 1), v0, w32 (x5 + 1), v0], [], s) Q)
    (h1 : ∀ (g1 : v0 = x4), ∀ (g2 : x2 ≠ 0), Q ([(x4, 0)], s))
    (h2 : ∀ (g1 : v0 = x4), ∀ (g2 : x2 = 0), Q ([(x3, 0)], s)) : zT (zE 1309) (Pt PX10_post) n (49, [((0 : Nat) : Int), x1, x2, x3, x4, x5, x6], [(v0, 0)], s) Q := by
  refine tS [((0 : Nat) : Int), x1, x2, x3, x4, x5, v0] rfl rfl ?_
  refine tL v0 0 rfl rfl rfl ?_
  refine tL x4 0 rfl rfl rfl ?_
  refine tJ1 rfl (fun g1 _ l1 => zT_le ?_ (Nat.le_of_lt l1)) (fun g1 _ l1 => zT_le ?_ (Nat.le_of_lt l1))
  · refine tL v0 0 rfl rfl rfl ?_
    refine tS [((0 : Nat) : Int), x1, x2, x3, v0, x5, v0] rfl rfl ?_
    refine tInc [((0 : Nat) : Int), x1, x2, w32 (x3 + 1), v0, x5, v0] rfl rfl ?_
    refine tInc [((0 : Nat) : Int), x1, x2, w32 (x3 + 1), v0, w32 (x5 + 1), v0] rfl rfl ?_
    exact tGb rfl (fun m2 l2 => h0 g1 m2 (Nat.lt_of_lt_of_le l2 (Nat.le_refl n)))
  · refine tG rfl ?_
    refine tL x2 0 rfl rfl rfl ?_
    refine tI1 rfl (fun g2 _ l2 => zT_le ?_ (Nat.le_of_lt l2)) (fun g2 _ l2 => zT_le ?_ (Nat.le_of_lt l2))
    · refine tL x4 0 rfl rfl rfl ?_
      exact tR rfl (h1 g1 g2)
    · refine tL x3 0 rfl rfl rfl ?_
      refine tG rfl ?_
      exact tR rfl (h2 g1 g2)

theorem c_X10_post {n : Nat} {Q : Zr → Prop} {a0 a1 a2 : Int} {s : Zs} (h : zT (zE 1309) (Pt PX10_post) n (0, [a0, a1, a2, 0, 0, 0, 0], [], s) Q) : zC n 1309 [(a0, 0), (a1, 0), (a2, 0)] s Q := h

theorem b_X10_seersOf_0 {n : Nat} {Q : Zr → Prop} {t : Nat} (x1 x2 x3 x4 x5 x6 : Int) (s : Zs) (ht : t = 7 ∨ t = 43)
    (h0 : ∀ m, m < n → zC m 1038 [(s 0 3, 0), (x1, 0)] s (fun p => zT (zE 1314) (Pt PX10_seersOf) m (8, [((0 : Nat) : Int), x1, x2, x3, x4, x5, x6], p.1 ++ [], p.2) Q)) : zT (zE 1314) (Pt PX10_seersOf) n (0, [((0 : Nat) : Int), x1, x2, x3, x4, x5, x6], [], s) Q := by
  refine tL ((0 : Nat) : Int) 0 rfl rfl rfl ?_
  refine tFv (c := 0) (s 0 3) 0 rfl rfl rfl rfl rfl ?_
  refine tL x1 0 rfl rfl rfl ?_
  exact tCall [(s 0 3, 0), (x1, 0)] [] rfl rfl rfl (fun m l => h0 m (Nat.lt_of_lt_of_le l (Nat.le_refl n)))

theorem b_X10_seersOf_14 {n : Nat} {Q : Zr → Prop} {t : Nat} (x1 x2 x3 x4 x5 x6 : Int) (s : Zs) (ht : t = 7 ∨ t = 43)
    (h0 : ∀ (g1 : s (zrho ((s 0 3).toNat) 0) 3 ≤ x4), Q ([(x3, 0)], s))
    (h1 : ∀ (g1 : x4 < s (zrho ((s 0 3).toNat) 0) 3), ∀ (g2 : zrem x2 6 ≠ 0), ∀ (g3 : s 80 x4.toNat = x2), ∀ m, m < n → zT (zE 1314) (Pt PX10_seersOf) m (14, [((0 : Nat) : Int), x1, x2, zor x3 (zshl 1 x4), w32 (x4 + 1), s 80 x4.toNat, 0], [], s) Q)
    (h2 : ∀ (g1 : x4 < s (zrho ((s 0 3).toNat) 0) 3), ∀ (g2 : zrem x2 6 ≠ 0), ∀ (g3 : s 80 x4.toNat ≠ x2), ∀ (g4 : s 80 x4.toNat = w32 (x2 + 1)), ∀ m, m < n → zT (zE 1314) (Pt PX10_seersOf) m (14, [((0 : Nat) : Int), x1, x2, zor x3 (zshl 1 x4), w32 (x4 + 1), s 80 x4.toNat, 0], [], s) Q)
    (h3 : ∀ (g1 : x4 < s (zrho ((s 0 3).toNat) 0) 3), ∀ (g2 : zrem x2 6 ≠ 0), ∀ (g3 : s 80 x4.toNat ≠ x2), ∀ (g4 : s 80 x4.toNat ≠ w32 (x2 + 1)), ∀ m, m < n → zT (zE 1314) (Pt PX10_seersOf) m (14, [((0 : Nat) : Int), x1, x2, x3, w32 (x4 + 1), s 80 x4.toNat, 0], [], s) Q)
    (h4 : ∀ (g1 : x4 < s (zrho ((s 0 3).toNat) 0) 3), ∀ (g2 : zrem x2 6 = 0), ∀ (g5 : zrem (s 80 x4.toNat) 6 ≠ 0), ∀ (g6 : s 80 x4.toNat = x2), ∀ m, m < n → zT (zE 1314) (Pt PX10_seersOf) m (14, [((0 : Nat) : Int), x1, x2, zor x3 (zshl 1 x4), w32 (x4 + 1), s 80 x4.toNat, 0], [], s) Q)
    (h5 : ∀ (g1 : x4 < s (zrho ((s 0 3).toNat) 0) 3), ∀ (g2 : zrem x2 6 = 0), ∀ (g5 : zrem (s 80 x4.toNat) 6 ≠ 0), ∀ (g6 : s 80 x4.toNat ≠ x2), ∀ (g7 : s 80 x4.toNat = w32 (x2 + 1)), ∀ m, m < n → zT (zE 1314) (Pt PX10_seersOf) m (14, [((0 : Nat) : Int), x1, x2, zor x3 (zshl 1 x4), w32 (x4 + 1), s 80 x4.toNat, 0], [], s) Q)
    (h6 : ∀ (g1 : x4 < s (zrho ((s 0 3).toNat) 0) 3), ∀ (g2 : zrem x2 6 = 0), ∀ (g5 : zrem (s 80 x4.toNat) 6 ≠ 0), ∀ (g6 : s 80 x4.toNat ≠ x2), ∀ (g7 : s 80 x4.toNat ≠ w32 (x2 + 1)), ∀ m, m < n → zT (zE 1314) (Pt PX10_seersOf) m (14, [((0 : Nat) : Int), x1, x2, x3, w32 (x4 + 1), s 80 x4.toNat, 0], [], s) Q)
    (h7 : ∀ (g1 : x4 < s (zrho ((s 0 3).toNat) 0) 3), ∀ (g2 : zrem x2 6 = 0), ∀ (g5 : zrem (s 80 x4.toNat) 6 = 0), ∀ (g8 : s 80 x4.toNat = x2), ∀ m, m < n → zT (zE 1314) (Pt PX10_seersOf) m (14, [((0 : Nat) : Int), x1, x2, zor x3 (zshl 1 x4), w32 (x4 + 1), s 80 x4.toNat, 1], [], s) Q)
    (h8 : ∀ (g1 : x4 < s (zrho ((s 0 3).toNat) 0) 3), ∀ (g2 : zrem x2 6 = 0), ∀ (g5 : zrem (s 80 x4.toNat) 6 = 0), ∀ (g8 : s 80 x4.toNat ≠ x2), ∀ (g9 : s 80 x4.toNat = w32 (x2 + 1)), ∀ m, m < n → zT (zE 1314) (Pt PX10_seersOf) m (14, [((0 : Nat) : Int), x1, x2, zor x3 (zshl 1 x4), w32 (x4 + 1), s 80 x4.toNat, 1], [], s) Q)
    (h9 : ∀ (g1 : x4 < s (zrho ((s 0 3).toNat) 0) 3), ∀ (g2 : zrem x2 6 = 0), ∀ (g5 : zrem (s 80 x4.toNat) 6 = 0), ∀ (g8 : s 80 x4.toNat ≠ x2), ∀ (g9 : s 80 x4.toNat ≠ w32 (x2 + 1)), ∀ m, m < n → zT (zE 1314) (Pt PX10_seersOf) m (14, [((0 : Nat) : Int), x1, x2, zor x3 (zshl 1 x4), w32 (x4 + 1), s 80 x4.toNat, 1], [], s) Q) : zT (zE 1314) (Pt PX10_seersOf) n (14, [((0 : Nat) : Int), x1, x2, x3, x4, x5, x6], [], s) Q := by
  refine tL x4 0 rfl rfl rfl ?_
  refine tL ((0 : Nat) : Int) 0 rfl rfl rfl ?_
  refine tFv (c := 0) (s 0 3) 0 rfl rfl rfl rfl rfl ?_
  refine tFR (c := (s 0 3).toNat) (zrho ((s 0 3).toNat) 0) rfl rfl rfl rfl rfl ?_
  refine tK rfl ?_
  refine tAv (zrho ((s 0 3).toNat) 0) 3 (s (zrho ((s 0 3).toNat) 0) 3) 0 rfl rfl rfl (by decide) rfl rfl ?_
  refine tJ3 rfl (fun g1 _ l1 => zT_le ?_ (Nat.le_of_lt l1)) (fun g1 _ l1 => zT_le ?_ (Nat.le_of_lt l1))
  · refine tL x3 0 rfl rfl rfl ?_
    exact tR rfl (h0 g1)
  · refine tL ((0 : Nat) : Int) 0 rfl rfl rfl ?_
    refine tFR (c := 0) 79 rfl rfl rfl rfl rfl ?_
    refine tFR (c := 79) 80 rfl rfl rfl rfl rfl ?_
    refine tL x4 0 rfl rfl rfl ?_
    refine tAv 80 x4.toNat (s 80 x4.toNat) 0 rfl rfl rfl (by decide) rfl rfl ?_
    refine tS [((0 : Nat) : Int), x1, x2, x3, x4, s 80 x4.toNat, x6] rfl rfl ?_
    refine tL x2 0 rfl rfl rfl ?_
    refine tK rfl ?_
    refine tB (v := zrem x2 6) rfl rfl ?_
    refine tI1 rfl (fun g2 _ l2 => zT_le ?_ (Nat.le_of_lt l2)) (fun g2 _ l2 => zT_le ?_ (Nat.le_of_lt l2))
    · refine tK rfl ?_
      refine tS [((0 : Nat) : Int), x1, x2, x3, x4, s 80 x4.toNat, 0] rfl rfl ?_
      refine tL (s 80 x4.toNat) 0 rfl rfl rfl ?_
      refine tL x2 0 rfl rfl rfl ?_
      refine tJ0 rfl (fun g3 _ l3 => zT_le ?_ (Nat.le_of_lt l3)) (fun g3 _ l3 => zT_le ?_ (Nat.le_of_lt l3))
      · refine tL x3 0 rfl rfl rfl ?_
        refine tK rfl ?_
        refine tL x4 0 rfl rfl rfl ?_
        refine tB (v := zshl 1 x4) rfl rfl ?_
        refine tB (v := zor x3 (zshl 1 x4)) rfl rfl ?_
        refine tS [((0 : Nat) : Int), x1, x2, zor x3 (zshl 1 x4), x4, s 80 x4.toNat, 0] rfl rfl ?_
        refine tInc [((0 : Nat) : Int), x1, x2, zor x3 (zshl 1 x4), w32 (x4 + 1), s 80 x4.toNat, 0] rfl rfl ?_
        exact tGb rfl (fun m2 l2 => h1 g1 g2 g3 m2 (Nat.lt_of_lt_of_le l2 (Nat.le_refl n)))
      · refine tL (s 80 x4.toNat) 0 rfl rfl rfl ?_
        refine tL x2 0 rfl rfl rfl ?_
        refine tK rfl ?_
        refine tB (v := w32 (x2 + 1)) rfl rfl ?_
        refine tJ0 rfl (fun g4 _ l4 => zT_le ?_ (Nat.le_of_lt l4)) (fun g4 _ l4 => zT_le ?_ (Nat.le_of_lt l4))
        · refine tL x3 0 rfl rfl rfl ?_
          refine tK rfl ?_
          refine tL x4 0 rfl rfl rfl ?_
          refine tB (v := zshl 1 x4) rfl rfl ?_
          refine tB (v := zor x3 (zshl 1 x4)) rfl rfl ?_
          refine tS [((0 : Nat) : Int), x1, x2, zor x3 (zshl 1 x4), x4, s 80 x4.toNat, 0] rfl rfl ?_
          refine tInc [((0 : Nat) : Int), x1, x2, zor x3 (zshl 1 x4), w32 (x4 + 1), s 80 x4.toNat, 0] rfl rfl ?_
          exact tGb rfl (fun m2 l2 => h2 g1 g2 g3 g4 m2 (Nat.lt_of_lt_of_le l2 (Nat.le_refl n)))
        · refine tL 0 0 rfl rfl rfl ?_
          refine tI0 rfl (fun g _ l => zT_le ?_ (Nat.le_of_lt l)) (fun g _ l => (absurd g (by decide)))
          refine tInc [((0 : Nat) : Int), x1, x2, x3, w32 (x4 + 1), s 80 x4.toNat, 0] rfl rfl ?_
          exact tGb rfl (fun m2 l2 => h3 g1 g2 g3 g4 m2 (Nat.lt_of_lt_of_le l2 (Nat.le_refl n)))
    · refine tL (s 80 x4.toNat) 0 rfl rfl rfl ?_
      refine tK rfl ?_
      refine tB (v := zrem (s 80 x4.toNat) 6) rfl rfl ?_
      refine tI1 rfl (fun g5 _ l5 => zT_le ?_ (Nat.le_of_lt l5)) (fun g5 _ l5 => zT_le ?_ (Nat.le_of_lt l5))
      · refine tK rfl ?_
        refine tS [((0 : Nat) : Int), x1, x2, x3, x4, s 80 x4.toNat, 0] rfl rfl ?_
        refine tL (s 80 x4.toNat) 0 rfl rfl rfl ?_
        refine tL x2 0 rfl rfl rfl ?_
        refine tJ0 rfl (fun g6 _ l6 => zT_le ?_ (Nat.le_of_lt l6)) (fun g6 _ l6 => zT_le ?_ (Nat.le_of_lt l6))
        · refine tL x3 0 rfl rfl rfl ?_
          refine tK rfl ?_
          refine tL x4 0 rfl rfl rfl ?_
          refine tB (v := zshl 1 x4) rfl rfl ?_
          refine tB (v := zor x3 (zshl 1 x4)) rfl rfl ?_
          refine tS [((0 : Nat) : Int), x1, x2, zor x3 (zshl 1 x4), x4, s 80 x4.toNat, 0] rfl rfl ?_
          refine tInc [((0 : Nat) : Int), x1, x2, zor x3 (zshl 1 x4), w32 (x4 + 1), s 80 x4.toNat, 0] rfl rfl ?_
          exact tGb rfl (fun m2 l2 => h4 g1 g2 g5 g6 m2 (Nat.lt_of_lt_of_le l2 (Nat.le_refl n)))
        · refine tL (s 80 x4.toNat) 0 rfl rfl rfl ?_
          refine tL x2 0 rfl rfl rfl ?_
          refine tK rfl ?_
          refine tB (v := w32 (x2 + 1)) rfl rfl ?_
          refine tJ0 rfl (fun g7 _ l7 => zT_le ?_ (Nat.le_of_lt l7)) (fun g7 _ l7 => zT_le ?_ (Nat.le_of_lt l7))
          · refine tL x3 0 rfl rfl rfl ?_
            refine tK rfl ?_
            refine tL x4 0 rfl rfl rfl ?_
            refine tB (v := zshl 1 x4) rfl rfl ?_
            refine tB (v := zor x3 (zshl 1 x4)) rfl rfl ?_
            refine tS [((0 : Nat) : Int), x1, x2, zor x3 (zshl 1 x4), x4, s 80 x4.toNat, 0] rfl rfl ?_
            refine tInc [((0 : Nat) : Int), x1, x2, zor x3 (zshl 1 x4), w32 (x4 + 1), s 80 x4.toNat, 0] rfl rfl ?_
            exact tGb rfl (fun m2 l2 => h5 g1 g2 g5 g6 g7 m2 (Nat.lt_of_lt_of_le l2 (Nat.le_refl n)))
          · refine tL 0 0 rfl rfl rfl ?_
            refine tI0 rfl (fun g _ l => zT_le ?_ (Nat.le_of_lt l)) (fun g _ l => (absurd g (by decide)))
            refine tInc [((0 : Nat) : Int), x1, x2, x3, w32 (x4 + 1), s 80 x4.toNat, 0] rfl rfl ?_
            exact tGb rfl (fun m2 l2 => h6 g1 g2 g5 g6 g7 m2 (Nat.lt_of_lt_of_le l2 (Nat.le_refl n)))
      · refine tK rfl ?_
        refine tG rfl ?_
        refine tS [((0 : Nat) : Int), x1, x2, x3, x4, s 80 x4.toNat, 1] rfl rfl ?_
        refine tL (s 80 x4.toNat) 0 rfl rfl rfl ?_
        refine tL x2 0 rfl rfl rfl ?_
        refine tJ0 rfl (fun g8 _ l8 => zT_le ?_ (Nat.le_of_lt l8)) (fun g8 _ l8 => zT_le ?_ (Nat.le_of_lt l8))
        · refine tL x3 0 rfl rfl rfl ?_
          refine tK rfl ?_
          refine tL x4 0 rfl rfl rfl ?_
          refine tB (v := zshl 1 x4) rfl rfl ?_
          refine tB (v := zor x3 (zshl 1 x4)) rfl rfl ?_
          refine tS [((0 : Nat) : Int), x1, x2, zor x3 (zshl 1 x4), x4, s 80 x4.toNat, 1] rfl rfl ?_
          refine tInc [((0 : Nat) : Int), x1, x2, zor x3 (zshl 1 x4), w32 (x4 + 1), s 80 x4.toNat, 1] rfl rfl ?_
          exact tGb rfl (fun m2 l2 => h7 g1 g2 g5 g8 m2 (Nat.lt_of_lt_of_le l2 (Nat.le_refl n)))
        · refine tL (s 80 x4.toNat) 0 rfl rfl rfl ?_
          refine tL x2 0 rfl rfl rfl ?_
          refine tK rfl ?_
          refine tB (v := w32 (x2 + 1)) rfl rfl ?_
          refine tJ0 rfl (fun g9 _ l9 => zT_le ?_ (Nat.le_of_lt l9)) (fun g9 _ l9 => zT_le ?_ (Nat.le_of_lt l9))
          · refine tL x3 0 rfl rfl rfl ?_
            refine tK rfl ?_
            refine tL x4 0 rfl rfl rfl ?_
            refine tB (v := zshl 1 x4) rfl rfl ?_
            refine tB (v := zor x3 (zshl 1 x4)) rfl rfl ?_
            refine tS [((0 : Nat) : Int), x1, x2, zor x3 (zshl 1 x4), x4, s 80 x4.toNat, 1] rfl rfl ?_
            refine tInc [((0 : Nat) : Int), x1, x2, zor x3 (zshl 1 x4), w32 (x4 + 1), s 80 x4.toNat, 1] rfl rfl ?_
            exact tGb rfl (fun m2 l2 => h8 g1 g2 g5 g8 g9 m2 (Nat.lt_of_lt_of_le l2 (Nat.le_refl n)))
          · refine tL 1 0 rfl rfl rfl ?_
            refine tI0 rfl (fun g _ l => (absurd g (by decide))) (fun g _ l => zT_le ?_ (Nat.le_of_lt l))
            refine tL x3 0 rfl rfl rfl ?_
            refine tK rfl ?_
            refine tL x4 0 rfl rfl rfl ?_
            refine tB (v := zshl 1 x4) rfl rfl ?_
            refine tB (v := zor x3 (zshl 1 x4)) rfl rfl ?_
            refine tS [((0 : Nat) : Int), x1, x2, zor x3 (zshl 1 x4), x4, s 80 x4.toNat, 1] rfl rfl ?_
            refine tInc [((0 : Nat) : Int), x1, x2, zor x3 (zshl 1 x4), w32 (x4 + 1), s 80 x4.toNat, 1] rfl rfl ?_
            exact tGb rfl (fun m2 l2 => h9 g1 g2 g5 g8 g9 m2 (Nat.lt_of_lt_of_le l2 (Nat.le_refl n)))

theorem b_X10_seersOf_8 {n : Nat} {Q : Zr → Prop} {t : Nat} (x1 x2 x3 x4 x5 x6 v0 : Int) (s : Zs) (ht : t = 7 ∨ t = 43)
    (h0 : zT (zE 1314) (Pt PX10_seersOf) n (14, [((0 : Nat) : Int), x1, v0, 0, 0, x5, x6], [], s) Q) : zT (zE 1314) (Pt PX10_seersOf) n (8, [((0 : Nat) : Int), x1, x2, x3, x4, x5, x6], [(v0, 0)], s) Q := by
  refine tS [((0 : Nat) : Int), x1, v0, x3, x4, x5, x6] rfl rfl ?_
  refine tK rfl ?_
  refine tS [((0 : Nat) : Int), x1, v0, 0, x4, x5, x6] rfl rfl ?_
  refine tK rfl ?_
  refine tS [((0 : Nat) : Int), x1, v0, 0, 0, x5, x6] rfl rfl ?_
  exact zT_le (h0) (Nat.le_refl n)

theorem c_X10_seersOf {n : Nat} {Q : Zr → Prop} {a0 a1 : Int} {s : Zs} (h : zT (zE 1314) (Pt PX10_seersOf) n (0, [a0, a1, 0, 0, 0, 0, 0], [], s) Q) : zC n 1314 [(a0, 0), (a1, 0)] s Q := h

theorem b_X10_allSeenByTwo_0 {n : Nat} {Q : Zr → Prop} {t : Nat} (x1 x2 : Int) (s : Zs) (ht : t = 7 ∨ t = 43)
    (h0 : zT (zE 1281) (Pt PX10_allSeenByTwo) n (2, [((0 : Nat) : Int), x1, 0], [], s) Q) : zT (zE 1281) (Pt PX10_allSeenByTwo) n (0, [((0 : Nat) : Int), x1, x2], [], s) Q := by
  refine tK rfl ?_
  refine tS [((0 : Nat) : Int), x1, 0] rfl rfl ?_
  exact zT_le (h0) (Nat.le_refl n)

theorem b_X10_allSeenByTwo_2 {n : Nat} {Q : Zr → Prop} {t : Nat} (x1 x2 : Int) (s : Zs) (ht : t = 7 ∨ t = 43)
    (h0 : ∀ (g1 : s (zrho ((s 0 3).toNat) 0) 1 ≤ x2), Q ([(1, 0)], s))
    (h1 : ∀ (g1 : x2 < s (zrho ((s 0 3).toNat) 0) 1), ∀ m, m < n → zC m 775 [(((79 : Nat) : Int), 0), (s 0 3, 0), (x2, 0)] s (fun p => zT (zE 1281) (Pt PX10_allSeenByTwo) m (27, [((0 : Nat) : Int), x1, x2], p.1 ++ [], p.2) Q)) : zT (zE 1281) (Pt PX10_allSeenByTwo) n (2, [((0 : Nat) : Int), x1, x2], [], s) Q := by
  refine tL x2 0 rfl rfl rfl ?_
  refine tL ((0 : Nat) : Int) 0 rfl rfl rfl ?_
  refine tFv (c := 0) (s 0 3) 0 rfl rfl rfl rfl rfl ?_
  refine tFR (c := (s 0 3).toNat) (zrho ((s 0 3).toNat) 0) rfl rfl rfl rfl rfl ?_
  refine tK rfl ?_
  refine tAv (zrho ((s 0 3).toNat) 0) 1 (s (zrho ((s 0 3).toNat) 0) 1) 0 rfl rfl rfl (by decide) rfl rfl ?_
  refine tJ3 rfl (fun g1 _ l1 => zT_le ?_ (Nat.le_of_lt l1)) (fun g1 _ l1 => zT_le ?_ (Nat.le_of_lt l1))
  · refine tK rfl ?_
    exact tR rfl (h0 g1)
  · refine tL ((0 : Nat) : Int) 0 rfl rfl rfl ?_
    refine tFR (c := 0) 79 rfl rfl rfl rfl rfl ?_
    refine tL ((0 : Nat) : Int) 0 rfl rfl rfl ?_
    refine tFv (c := 0) (s 0 3) 0 rfl rfl rfl rfl rfl ?_
    refine tL x2 0 rfl rfl rfl ?_
    exact tCall [(((79 : Nat) : Int), 0), (s 0 3, 0), (x2, 0)] [] rfl rfl rfl (fun m l => h1 g1 m (Nat.lt_of_lt_of_le l (Nat.le_refl n)))

theorem b_X10_allSeenByTwo_27 {n : Nat} {Q : Zr → Prop} {t : Nat} (x1 x2 v0 : Int) (s : Zs) (ht : t = 7 ∨ t = 43)
    (h0 : ∀ (g1 : v0 = 0), ∀ m, m < n → zT (zE 1281) (Pt PX10_allSeenByTwo) m (2, [((0 : Nat) : Int), x1, w32 (x2 + 1)], [], s) Q)
    (h1 : ∀ (g1 : v0 ≠ 0), ∀ m, m < n → zC m 1314 [(((0 : Nat) : Int), 0), (x2, 0)] s (fun p => zT (zE 1281) (Pt PX10_allSeenByTwo) m (36, [((0 : Nat) : Int), x1, x2], p.1 ++ [(x1, 0)], p.2) Q)) : zT (zE 1281) (Pt PX10_allSeenByTwo) n (27, [((0 : Nat) : Int), x1, x2], [(v0, 0)], s) Q := by
  refine tI0 rfl (fun g1 _ l1 => zT_le ?_ (Nat.le_of_lt l1)) (fun g1 _ l1 => zT_le ?_ (Nat.le_of_lt l1))
  · refine tInc [((0 : Nat) : Int), x1, w32 (x2 + 1)] rfl rfl ?_
    exact tGb rfl (fun m2 l2 => h0 g1 m2 (Nat.lt_of_lt_of_le l2 (Nat.le_refl n)))
  · refine tL x1 0 rfl rfl rfl ?_
    refine tL ((0 : Nat) : Int) 0 rfl rfl rfl ?_
    refine tL x2 0 rfl rfl rfl ?_
    exact tCall [(((0 : Nat) : Int), 0), (x2, 0)] [(x1, 0)] rfl rfl rfl (fun m l => h1 g1 m (Nat.lt_of_lt_of_le l (Nat.le_refl n)))

theorem b_X10_allSeenByTwo_36 {n : Nat} {Q : Zr → Prop} {t : Nat} (x1 x2 v0 y0 : Int) (s : Zs) (ht : t = 7 ∨ t = 43)
    (h0 : ∀ m, m < n → zC m 1536 [(zand y0 v0, 0)] s (fun p => zT (zE 1281) (Pt PX10_allSeenByTwo) m (40, [((0 : Nat) : Int), x1, x2], p.1 ++ [], p.2) Q)) : zT (zE 1281) (Pt PX10_allSeenByTwo) n (36, [((0 : Nat) : Int), x1, x2], [(v0, 0), (y0, 0)], s) Q := by
  refine tB (v := zand y0 v0) rfl rfl ?_
  exact tCall [(zand y0 v0, 0)] [] rfl rfl rfl (fun m l => h0 m (Nat.lt_of_lt_of_le l (Nat.le_refl n)))

theorem b_X10_allSeenByTwo_40 {n : Nat} {Q : Zr → Prop} {t : Nat} (x1 x2 v0 : Int) (s : Zs) (ht : t = 7 ∨ t = 43)
    (h0 : ∀ (g1 : 2 ≤ v0), ∀ m, m < n → zT (zE 1281) (Pt PX10_allSeenByTwo) m (2, [((0 : Nat) : Int), x1, w32 (x2 + 1)], [], s) Q)
    (h1 : ∀ (g1 : v0 < 2), Q ([(0, 0)], s)) : zT (zE 1281) (Pt PX10_allSeenByTwo) n (40, [((0 : Nat) : Int), x1, x2], [(v0, 0)], s) Q := by
  refine tK rfl ?_
  refine tJ3 rfl (fun g1 _ l1 => zT_le ?_ (Nat.le_of_lt l1)) (fun g1 _ l1 => zT_le ?_ (Nat.le_of_lt l1))
  · refine tInc [((0 : Nat) : Int), x1, w32 (x2 + 1)] rfl rfl ?_
    exact tGb rfl (fun m2 l2 => h0 g1 m2 (Nat.lt_of_lt_of_le l2 (Nat.le_refl n)))
  · refine tK rfl ?_
    exact tR rfl (h1 g1)

theorem c_X10_allSeenByTwo {n : Nat} {Q : Zr → Prop} {a0 a1 : Int} {s : Zs} (h : zT (zE 1281) (Pt PX10_allSeenByTwo) n (0, [a0, a1, 0], [], s) Q) : zC n 1281 [(a0, 0), (a1, 0)] s Q := h

theorem b_X10_watch_0 {n : Nat} {Q : Zr → Prop} {t : Nat} (x1 x2 x3 : Int) (s : Zs) (ht : t = 7 ∨ t = 43)
    (h0 : zT (zE 1320) (Pt PX10_watch) n (4, [((0 : Nat) : Int), (-1), 0, x3], [], s) Q) : zT (zE 1320) (Pt PX10_watch) n (0, [((0 : Nat) : Int), x1, x2, x3], [], s) Q := by
  refine tK rfl ?_
  refine tS [((0 : Nat) : Int), (-1), x2, x3] rfl rfl ?_
  refine tK rfl ?_
  refine tS [((0 : Nat) : Int), (-1), 0, x3] rfl rfl ?_
  exact zT_le (h0) (Nat.le_refl n)

theorem b_X10_watch_4 {n : Nat} {Q : Zr → Prop} {t : Nat} (x1 x2 x3 : Int) (s : Zs) (ht : t = 7 ∨ t = 43)
    (h0 : ∀ (g1 : zshl 1 (s (zrho ((s 0 3).toNat) 0) 3) ≤ x2), Q ([(x1, 0)], s))
    (h1 : ∀ (g1 : x2 < zshl 1 (s (zrho ((s 0 3).toNat) 0) 3)), ∀ (g2 : x1 = (-1)), ∀ m, m < n → zC m 1281 [(((0 : Nat) : Int), 0), (x2, 0)] s (fun p => zT (zE 1320) (Pt PX10_watch) m (50, [((0 : Nat) : Int), x1, x2, 1], p.1 ++ [], p.2) Q))
    (h2 : ∀ (g1 : x2 < zshl 1 (s (zrho ((s 0 3).toNat) 0) 3)), ∀ (g2 : x1 ≠ (-1)), ∀ m, m < n → zC m 1536 [(x2, 0)] s (fun p => zT (zE 1320) (Pt PX10_watch) m (28, [((0 : Nat) : Int), x1, x2, x3], p.1 ++ [], p.2) Q)) : zT (zE 1320) (Pt PX10_watch) n (4, [((0 : Nat) : Int), x1, x2, x3], [], s) Q := by
  refine tL x2 0 rfl rfl rfl ?_
  refine tK rfl ?_
  refine tL ((0 : Nat) : Int) 0 rfl rfl rfl ?_
  refine tFv (c := 0) (s 0 3) 0 rfl rfl rfl rfl rfl ?_
  refine tFR (c := (s 0 3).toNat) (zrho ((s 0 3).toNat) 0) rfl rfl rfl rfl rfl ?_
  refine tK rfl ?_
  refine tAv (zrho ((s 0 3).toNat) 0) 3 (s (zrho ((s 0 3).toNat) 0) 3) 0 rfl rfl rfl (by decide) rfl rfl ?_
  refine tB (v := zshl 1 (s (zrho ((s 0 3).toNat) 0) 3)) rfl rfl ?_
  refine tJ3 rfl (fun g1 _ l1 => zT_le ?_ (Nat.le_of_lt l1)) (fun g1 _ l1 => zT_le ?_ (Nat.le_of_lt l1))
  · refine tL x1 0 rfl rfl rfl ?_
    exact tR rfl (h0 g1)
  · refine tL x1 0 rfl rfl rfl ?_
    refine tK rfl ?_
    refine tJ0 rfl (fun g2 _ l2 => zT_le ?_ (Nat.le_of_lt l2)) (fun g2 _ l2 => zT_le ?_ (Nat.le_of_lt l2))
    · refine tK rfl ?_
      refine tG rfl ?_
      refine tS [((0 : Nat) : Int), x1, x2, 1] rfl rfl ?_
      refine tL 1 0 rfl rfl rfl ?_
      refine tI0 rfl (fun g _ l => (absurd g (by decide))) (fun g _ l => zT_le ?_ (Nat.le_of_lt l))
      refine tL ((0 : Nat) : Int) 0 rfl rfl rfl ?_
      refine tL x2 0 rfl rfl rfl ?_
      exact tCall [(((0 : Nat) : Int), 0), (x2, 0)] [] rfl rfl rfl (fun m l => h1 g1 g2 m (Nat.lt_of_lt_of_le l (Nat.le_refl n)))
    · refine tL x2 0 rfl rfl rfl ?_
      exact tCall [(x2, 0)] [] rfl rfl rfl (fun m l => h2 g1 g2 m (Nat.lt_of_lt_of_le l (Nat.le_refl n)))

theorem b_X10_watch_50 {n : Nat} {Q : Zr → Prop} {t : Nat} (x1 x2 x3 v0 : Int) (s : Zs) (ht : t = 7 ∨ t = 43)
    (h0 : ∀ (g1 : v0 = 0), ∀ m, m < n → zT (zE 1320) (Pt PX10_watch) m (4, [((0 : Nat) : Int), x1, w32 (x2 + 1), x3], [], s) Q)
    (h1 : ∀ (g1 : v0 ≠ 0), ∀ m, m < n → zT (zE 1320) (Pt PX10_watch) m (4, [((0 : Nat) : Int), x2, w32 (x2 + 1), x3], [], s) Q) : zT (zE 1320) (Pt PX10_watch) n (50, [((0 : Nat) : Int), x1, x2, x3], [(v0, 0)], s) Q := by
  refine tI0 rfl (fun g1 _ l1 => zT_le ?_ (Nat.le_of_lt l1)) (fun g1 _ l1 => zT_le ?_ (Nat.le_of_lt l1))
  · refine tInc [((0 : Nat) : Int), x1, w32 (x2 + 1), x3] rfl rfl ?_
    exact tGb rfl (fun m2 l2 => h0 g1 m2 (Nat.lt_of_lt_of_le l2 (Nat.le_refl n)))
  · refine tL x2 0 rfl rfl rfl ?_
    refine tS [((0 : Nat) : Int), x2, x2, x3] rfl rfl ?_
    refine tInc [((0 : Nat) : Int), x2, w32 (x2 + 1), x3] rfl rfl ?_
    exact tGb rfl (fun m2 l2 => h1 g1 m2 (Nat.lt_of_lt_of_le l2 (Nat.le_refl n)))

theorem b_X10_watch_28 {n : Nat} {Q : Zr → Prop} {t : Nat} (x1 x2 x3 v0 : Int) (s : Zs) (ht : t = 7 ∨ t = 43)
    (h0 : ∀ m, m < n → zC m 1536 [(x1, 0)] s (fun p => zT (zE 1320) (Pt PX10_watch) m (32, [((0 : Nat) : Int), x1, x2, x3], p.1 ++ [(v0, 0)], p.2) Q)) : zT (zE 1320) (Pt PX10_watch) n (28, [((0 : Nat) : Int), x1, x2, x3], [(v0, 0)], s) Q := by
  refine tL x1 0 rfl rfl rfl ?_
  exact tCall [(x1, 0)] [(v0, 0)] rfl rfl rfl (fun m l => h0 m (Nat.lt_of_lt_of_le l (Nat.le_refl n)))

theorem b_X10_watch_32 {n : Nat} {Q : Zr → Prop} {t : Nat} (x1 x2 x3 v0 y0 : Int) (s : Zs) (ht : t = 7 ∨ t = 43)
    (h0 : ∀ (g1 : v0 ≤ y0), ∀ m, m < n → zT (zE 1320) (Pt PX10_watch) m (4, [((0 : Nat) : Int), x1, w32 (x2 + 1), 0], [], s) Q)
    (h1 : ∀ (g1 : y0 < v0), ∀ m, m < n → zC m 1281 [(((0 : Nat) : Int), 0), (x2, 0)] s (fun p => zT (zE 1320) (Pt PX10_watch) m (50, [((0 : Nat) : Int), x1, x2, 1], p.1 ++ [], p.2) Q)) : zT (zE 1320) (Pt PX10_watch) n (32, [((0 : Nat) : Int), x1, x2, x3], [(v0, 0), (y0, 0)], s) Q := by
  refine tJ3 rfl (fun g1 _ l1 => zT_le ?_ (Nat.le_of_lt l1)) (fun g1 _ l1 => zT_le ?_ (Nat.le_of_lt l1))
  · refine tK rfl ?_
    refine tS [((0 : Nat) : Int), x1, x2, 0] rfl rfl ?_
    refine tL 0 0 rfl rfl rfl ?_
    refine tI0 rfl (fun g _ l => zT_le ?_ (Nat.le_of_lt l)) (fun g _ l => (absurd g (by decide)))
    refine tInc [((0 : Nat) : Int), x1, w32 (x2 + 1), 0] rfl rfl ?_
    exact tGb rfl (fun m2 l2 => h0 g1 m2 (Nat.lt_of_lt_of_le l2 (Nat.le_refl n)))
  · refine tK rfl ?_
    refine tG rfl ?_
    refine tS [((0 : Nat) : Int), x1, x2, 1] rfl rfl ?_
    refine tL 1 0 rfl rfl rfl ?_
    refine tI0 rfl (fun g _ l => (absurd g (by decide))) (fun g _ l => zT_le ?_ (Nat.le_of_lt l))
    refine tL ((0 : Nat) : Int) 0 rfl rfl rfl ?_
    refine tL x2 0 rfl rfl rfl ?_
    exact tCall [(((0 : Nat) : Int), 0), (x2, 0)] [] rfl rfl rfl (fun m l => h1 g1 m (Nat.lt_of_lt_of_le l (Nat.le_refl n)))

theorem c_X10_watch {n : Nat} {Q : Zr → Prop} {a0 : Int} {s : Zs} (h : zT (zE 1320) (Pt PX10_watch) n (0, [a0, 0, 0, 0], [], s) Q) : zC n 1320 [(a0, 0)] s Q := h

theorem b_X11_away_0 {n : Nat} {Q : Zr → Prop} (x0 x1 : Int) (s : Zs) 
    (h0 : ∀ (g1 : x1 ≤ x0), Q ([(w32 (x0 - x1), 0)], s))
    (h1 : ∀ (g1 : x0 < x1), Q ([(w32 (x1 - x0), 0)], s)) : zT (zE 1411) (Pt PX11_away) n (0, [x0, x1], [], s) Q := by
  refine tL x0 0 rfl rfl rfl ?_
  refine tL x1 0 rfl rfl rfl ?_
  refine tJ3 rfl (fun g1 _ l1 => zT_le ?_ (Nat.le_of_lt l1)) (fun g1 _ l1 => zT_le ?_ (Nat.le_of_lt l1))
  · refine tL x0 0 rfl rfl rfl ?_
    refine tL x1 0 rfl rfl rfl ?_
    refine tB (v := w32 (x0 - x1)) rfl rfl ?_
    exact tR rfl (h0 g1)
  · refine tL x1 0 rfl rfl rfl ?_
    refine tL x0 0 rfl rfl rfl ?_
    refine tB (v := w32 (x1 - x0)) rfl rfl ?_
    refine tG rfl ?_
    exact tR rfl (h1 g1)

theorem c_X11_away {n : Nat} {Q : Zr → Prop} {a0 a1 : Int} {s : Zs} (h : zT (zE 1411) (Pt PX11_away) n (0, [a0, a1], [], s) Q) : zC n 1411 [(a0, 0), (a1, 0)] s Q := h

theorem b_X11_floorsAway_0 {n : Nat} {Q : Zr → Prop} (x0 x1 : Int) (s : Zs) 
    (h0 : ∀ (g1 : zdiv x0 6 ≠ zdiv x1 6), Q ([(w32 ((w32 ((zrem x0 6) + (zrem x1 6))) + 1), 0)], s))
    (h1 : ∀ (g1 : zdiv x0 6 = zdiv x1 6), ∀ m, m < n → zC m 1411 [(zrem x0 6, 0), (zrem x1 6, 0)] s (fun p => zT (zE 1439) (Pt PX11_floorsAway) m (22, [x0, x1], p.1 ++ [], p.2) Q)) : zT (zE 1439) (Pt PX11_floorsAway) n (0, [x0, x1], [], s) Q := by
  refine tL x0 0 rfl rfl rfl ?_
  refine tK rfl ?_
  refine tB (v := zdiv x0 6) rfl rfl ?_
  refine tL x1 0 rfl rfl rfl ?_
  refine tK rfl ?_
  refine tB (v := zdiv x1 6) rfl rfl ?_
  refine tJ1 rfl (fun g1 _ l1 => zT_le ?_ (Nat.le_of_lt l1)) (fun g1 _ l1 => zT_le ?_ (Nat.le_of_lt l1))
  · refine tL x0 0 rfl rfl rfl ?_
    refine tK rfl ?_
    refine tB (v := zrem x0 6) rfl rfl ?_
    refine tL x1 0 rfl rfl rfl ?_
    refine tK rfl ?_
    refine tB (v := zrem x1 6) rfl rfl ?_
    refine tB (v := w32 ((zrem x0 6) + (zrem x1 6))) rfl rfl ?_
    refine tK rfl ?_
    refine tB (v := w32 ((w32 ((zrem x0 6) + (zrem x1 6))) + 1)) rfl rfl ?_
    exact tR rfl (h0 g1)
  · refine tL x0 0 rfl rfl rfl ?_
    refine tK rfl ?_
    refine tB (v := zrem x0 6) rfl rfl ?_
    refine tL x1 0 rfl rfl rfl ?_
    refine tK rfl ?_
    refine tB (v := zrem x1 6) rfl rfl ?_
    exact tCall [(zrem x0 6, 0), (zrem x1 6, 0)] [] rfl rfl rfl (fun m l => h1 g1 m (Nat.lt_of_lt_of_le l (Nat.le_refl n)))

theorem b_X11_floorsAway_22 {n : Nat} {Q : Zr → Prop} (x0 x1 v0 : Int) (s : Zs) 
    (h0 : Q ([(v0, 0)], s)) : zT (zE 1439) (Pt PX11_floorsAway) n (22, [x0, x1], [(v0, 0)], s) Q := by
  refine tG rfl ?_
  exact tR rfl (h0)

theorem c_X11_floorsAway {n : Nat} {Q : Zr → Prop} {a0 a1 : Int} {s : Zs} (h : zT (zE 1439) (Pt PX11_floorsAway) n (0, [a0, a1], [], s) Q) : zC n 1439 [(a0, 0), (a1, 0)] s Q := h

theorem b_X11_post_0 {n : Nat} {Q : Zr → Prop} (x1 x2 x3 x4 x5 x6 x7 x8 : Int) (s : Zs) 
    (h0 : ∀ (g2 : x1 < 0), Q ([((-1), 0)], zu s 172 0 0))
    (h1 : ∀ (g3 : 0 ≤ x1), ∀ (g4 : s 174 3 ≤ x1), Q ([((-1), 0)], zu s 172 0 0))
    (h2 : ∀ (g5 : 0 ≤ x1), ∀ (g6 : x1 < s 174 3), ∀ (g8 : x2 < 0), Q ([((-1), 0)], zu s 172 0 0))
    (h3 : ∀ (g5 : 0 ≤ x1), ∀ (g6 : x1 < s 174 3), ∀ (g9 : 0 ≤ x2), ∀ (g10 : 1 < x2), Q ([((-1), 0)], zu s 172 0 0))
    (h4 : ∀ (g5 : 0 ≤ x1), ∀ (g6 : x1 < s 174 3), ∀ (g11 : 0 ≤ x2), ∀ (g12 : x2 ≤ 1), zT (zE 1491) (Pt PX11_post) n (34, [((172 : Nat) : Int), x1, x2, zshl 1 x1, 0, 1, x6, x7, x8], [], zu s 172 0 0) Q) : zT (zE 1491) (Pt PX11_post) n (0, [((172 : Nat) : Int), x1, x2, x3, x4, x5, x6, x7, x8], [], s) Q := by
  refine tL ((172 : Nat) : Int) 0 rfl rfl rfl ?_
  refine tK rfl ?_
  refine tPut 172 rfl rfl ?_
  refine tL ((172 : Nat) : Int) 0 rfl rfl rfl ?_
  refine tL x1 0 rfl rfl rfl ?_
  refine tCall [(((172 : Nat) : Int), 0), (x1, 0)] [] rfl rfl rfl (fun m1 l1 => c_X11_isPerson (b_X11_isPerson_0 x1 (zu s 172 0 0) ?_ ?_ ?_))
  · intro g2
    show zT (zE 1491) (Pt PX11_post) m1 (10, [((172 : Nat) : Int), x1, x2, x3, x4, x5, x6, x7, x8], [(0, 0)], zu s 172 0 0) Q
    refine tI0 rfl (fun g _ l => zT_le ?_ (Nat.le_of_lt l)) (fun g _ l => (absurd g (by decide)))
    refine tK rfl ?_
    exact tR rfl (h0 g2)
  · intro g3 g4
    show zT (zE 1491) (Pt PX11_post) m1 (10, [((172 : Nat) : Int), x1, x2, x3, x4, x5, x6, x7, x8], [(0, 0)], zu s 172 0 0) Q
    refine tI0 rfl (fun g _ l => zT_le ?_ (Nat.le_of_lt l)) (fun g _ l => (absurd g (by decide)))
    refine tK rfl ?_
    exact tR rfl (h1 g3 g4)
  · intro g5 g6
    show zT (zE 1491) (Pt PX11_post) m1 (10, [((172 : Nat) : Int), x1, x2, x3, x4, x5, x6, x7, x8], [(1, 0)], zu s 172 0 0) Q
    refine tI0 rfl (fun g _ l => (absurd g (by decide))) (fun g _ l => zT_le ?_ (Nat.le_of_lt l))
    refine tL x2 0 rfl rfl rfl ?_
    refine tK rfl ?_
    refine tK rfl ?_
    refine tCall [(x2, 0), (0, 0), (1, 0)] [] rfl rfl rfl (fun m7 l7 => c_X11_within (b_X11_within_0 x2 0 1 (zu s 172 0 0) ?_ ?_ ?_))
    · intro g8
      show zT (zE 1491) (Pt PX11_post) m7 (19, [((172 : Nat) : Int), x1, x2, x3, x4, x5, x6, x7, x8], [(0, 0)], zu s 172 0 0) Q
      refine tI1 rfl (fun g _ l => (absurd g (by decide))) (fun g _ l => zT_le ?_ (Nat.le_of_lt l))
      refine tK rfl ?_
      exact tR rfl (h2 g5 g6 g8)
    · intro g9 g10
      show zT (zE 1491) (Pt PX11_post) m7 (19, [((172 : Nat) : Int), x1, x2, x3, x4, x5, x6, x7, x8], [(0, 0)], zu s 172 0 0) Q
      refine tI1 rfl (fun g _ l => (absurd g (by decide))) (fun g _ l => zT_le ?_ (Nat.le_of_lt l))
      refine tK rfl ?_
      exact tR rfl (h3 g5 g6 g9 g10)
    · intro g11 g12
      show zT (zE 1491) (Pt PX11_post) m7 (19, [((172 : Nat) : Int), x1, x2, x3, x4, x5, x6, x7, x8], [(1, 0)], zu s 172 0 0) Q
      refine tI1 rfl (fun g _ l => zT_le ?_ (Nat.le_of_lt l)) (fun g _ l => (absurd g (by decide)))
      refine tK rfl ?_
      refine tL x1 0 rfl rfl rfl ?_
      refine tB (v := zshl 1 x1) rfl rfl ?_
      refine tS [((172 : Nat) : Int), x1, x2, zshl 1 x1, x4, x5, x6, x7, x8] rfl rfl ?_
      refine tK rfl ?_
      refine tS [((172 : Nat) : Int), x1, x2, zshl 1 x1, 0, x5, x6, x7, x8] rfl rfl ?_
      refine tK rfl ?_
      refine tS [((172 : Nat) : Int), x1, x2, zshl 1 x1, 0, 1, x6, x7, x8] rfl rfl ?_
      exact zT_le (h4 g5 g6 g11 g12) (Nat.le_trans (Nat.le_of_lt l7) (Nat.le_trans (Nat.le_of_lt l1) (Nat.le_refl n)))

theorem b_X11_post_34 {n : Nat} {Q : Zr → Prop} (x1 x2 x3 x4 x5 x6 x7 x8 : Int) (s : Zs) 
    (h0 : ∀ (g1 : x5 = 0), ∀ (g2 : x2 ≠ 0), Q ([(x3, 0)], s))
    (h1 : ∀ (g1 : x5 = 0), ∀ (g2 : x2 = 0), Q ([(x4, 0)], s))
    (h2 : ∀ (g1 : x5 ≠ 0), zT (zE 1491) (Pt PX11_post) n (45, [((172 : Nat) : Int), x1, x2, x3, x4, x5, x3, 0, x8], [], s) Q) : zT (zE 1491) (Pt PX11_post) n (34, [((172 : Nat) : Int), x1, x2, x3, x4, x5, x6, x7, x8], [], s) Q := by
  refine tL x5 0 rfl rfl rfl ?_
  refine tI0 rfl (fun g1 _ l1 => zT_le ?_ (Nat.le_of_lt l1)) (fun g1 _ l1 => zT_le ?_ (Nat.le_of_lt l1))
  · refine tL x2 0 rfl rfl rfl ?_
    refine tI1 rfl (fun g2 _ l2 => zT_le ?_ (Nat.le_of_lt l2)) (fun g2 _ l2 => zT_le ?_ (Nat.le_of_lt l2))
    · refine tL x3 0 rfl rfl rfl ?_
      exact tR rfl (h0 g1 g2)
    · refine tL x4 0 rfl rfl rfl ?_
      refine tG rfl ?_
      exact tR rfl (h1 g1 g2)
  · refine tL x3 0 rfl rfl rfl ?_
    refine tS [((172 : Nat) : Int), x1, x2, x3, x4, x5, x3, x7, x8] rfl rfl ?_
    refine tK rfl ?_
    refine tS [((172 : Nat) : Int), x1, x2, x3, x4, x5, x3, 0, x8] rfl rfl ?_
    exact zT_le (h2 g1) (Nat.le_refl n)

theorem b_X11_post_45 {n : Nat} {Q : Zr → Prop} (x1 x2 x3 x4 x5 x6 x7 x8 : Int) (s : Zs) 
    (h0 : ∀ (g1 : s 174 3 ≤ x7), ∀ (g2 : x6 = x3), ∀ m, m < n → zT (zE 1491) (Pt PX11_post) m (34, [((172 : Nat) : Int), x1, x2, x6, w32 (x4 + 0), 0, x6, x7, x8], [], s) Q)
    (h1 : ∀ (g1 : s 174 3 ≤ x7), ∀ (g2 : x6 ≠ x3), ∀ m, m < n → zT (zE 1491) (Pt PX11_post) m (34, [((172 : Nat) : Int), x1, x2, x6, w32 (x4 + 1), 1, x6, x7, x8], [], s) Q)
    (h2 : ∀ (g1 : x7 < s 174 3), zT (zE 1491) (Pt PX11_post) n (59, [((172 : Nat) : Int), x1, x2, x3, x4, x5, x6, x7, 0], [], s) Q) : zT (zE 1491) (Pt PX11_post) n (45, [((172 : Nat) : Int), x1, x2, x3, x4, x5, x6, x7, x8], [], s) Q := by
  refine tL x7 0 rfl rfl rfl ?_
  refine tL ((172 : Nat) : Int) 0 rfl rfl rfl ?_
  refine tFR (c := 172) 174 rfl rfl rfl rfl rfl ?_
  refine tK rfl ?_
  refine tAv 174 3 (s 174 3) 0 rfl rfl rfl (by decide) rfl rfl ?_
  refine tJ3 rfl (fun g1 _ l1 => zT_le ?_ (Nat.le_of_lt l1)) (fun g1 _ l1 => zT_le ?_ (Nat.le_of_lt l1))
  · refine tL x6 0 rfl rfl rfl ?_
    refine tL x3 0 rfl rfl rfl ?_
    refine tJ0 rfl (fun g2 _ l2 => zT_le ?_ (Nat.le_of_lt l2)) (fun g2 _ l2 => zT_le ?_ (Nat.le_of_lt l2))
    · refine tK rfl ?_
      refine tS [((172 : Nat) : Int), x1, x2, x3, x4, 0, x6, x7, x8] rfl rfl ?_
      refine tL x4 0 rfl rfl rfl ?_
      refine tL 0 0 rfl rfl rfl ?_
      refine tI0 rfl (fun g _ l => zT_le ?_ (Nat.le_of_lt l)) (fun g _ l => (absurd g (by decide)))
      refine tK rfl ?_
      refine tB (v := w32 (x4 + 0)) rfl rfl ?_
      refine tS [((172 : Nat) : Int), x1, x2, x3, w32 (x4 + 0), 0, x6, x7, x8] rfl rfl ?_
      refine tL x6 0 rfl rfl rfl ?_
      refine tS [((172 : Nat) : Int), x1, x2, x6, w32 (x4 + 0), 0, x6, x7, x8] rfl rfl ?_
      exact tGb rfl (fun m2 l2 => h0 g1 g2 m2 (Nat.lt_of_lt_of_le l2 (Nat.le_refl n)))
    · refine tK rfl ?_
      refine tG rfl ?_
      refine tS [((172 : Nat) : Int), x1, x2, x3, x4, 1, x6, x7, x8] rfl rfl ?_
      refine tL x4 0 rfl rfl rfl ?_
      refine tL 1 0 rfl rfl rfl ?_
      refine tI0 rfl (fun g _ l => (absurd g (by decide))) (fun g _ l => zT_le ?_ (Nat.le_of_lt l))
      refine tK rfl ?_
      refine tG rfl ?_
      refine tB (v := w32 (x4 + 1)) rfl rfl ?_
      refine tS [((172 : Nat) : Int), x1, x2, x3, w32 (x4 + 1), 1, x6, x7, x8] rfl rfl ?_
      refine tL x6 0 rfl rfl rfl ?_
      refine tS [((172 : Nat) : Int), x1, x2, x6, w32 (x4 + 1), 1, x6, x7, x8] rfl rfl ?_
      exact tGb rfl (fun m2 l2 => h1 g1 g2 m2 (Nat.lt_of_lt_of_le l2 (Nat.le_refl n)))
  · refine tK rfl ?_
    refine tS [((172 : Nat) : Int), x1, x2, x3, x4, x5, x6, x7, 0] rfl rfl ?_
    exact zT_le (h2 g1) (Nat.le_refl n)

theorem b_X11_post_59 {n : Nat} {Q : Zr → Prop} (x1 x2 x3 x4 x5 x6 x7 x8 : Int) (s : Zs) 
    (h0 : ∀ (g1 : s 174 3 ≤ x8), ∀ m, m < n → zT (zE 1491) (Pt PX11_post) m (45, [((172 : Nat) : Int), x1, x2, x3, x4, x5, x6, w32 (x7 + 1), x8], [], s) Q)
    (h1 : ∀ (g1 : x8 < s 174 3), ∀ (g2 : zand (zshr x3 x7) 1 ≠ 1), ∀ m, m < n → zT (zE 1491) (Pt PX11_post) m (59, [((172 : Nat) : Int), x1, x2, x3, x4, x5, x6, x7, w32 (x8 + 1)], [], s) Q)
    (h2 : ∀ (g1 : x8 < s 174 3), ∀ (g2 : zand (zshr x3 x7) 1 = 1), ∀ m, m < n → zC m 1439 [(s 216 ((w32 (1 + x7)).toNat), 0), (s 216 ((w32 (1 + x8)).toNat), 0)] s (fun p => zT (zE 1491) (Pt PX11_post) m (101, [((172 : Nat) : Int), x1, x2, x3, x4, x5, x6, x7, x8], p.1 ++ [], p.2) Q)) : zT (zE 1491) (Pt PX11_post) n (59, [((172 : Nat) : Int), x1, x2, x3, x4, x5, x6, x7, x8], [], s) Q := by
  refine tL x8 0 rfl rfl rfl ?_
  refine tL ((172 : Nat) : Int) 0 rfl rfl rfl ?_
  refine tFR (c := 172) 174 rfl rfl rfl rfl rfl ?_
  refine tK rfl ?_
  refine tAv 174 3 (s 174 3) 0 rfl rfl rfl (by decide) rfl rfl ?_
  refine tJ3 rfl (fun g1 _ l1 => zT_le ?_ (Nat.le_of_lt l1)) (fun g1 _ l1 => zT_le ?_ (Nat.le_of_lt l1))
  · refine tInc [((172 : Nat) : Int), x1, x2, x3, x4, x5, x6, w32 (x7 + 1), x8] rfl rfl ?_
    exact tGb rfl (fun m2 l2 => h0 g1 m2 (Nat.lt_of_lt_of_le l2 (Nat.le_refl n)))
  · refine tL x3 0 rfl rfl rfl ?_
    refine tL x7 0 rfl rfl rfl ?_
    refine tB (v := zshr x3 x7) rfl rfl ?_
    refine tK rfl ?_
    refine tB (v := zand (zshr x3 x7) 1) rfl rfl ?_
    refine tK rfl ?_
    refine tJ1 rfl (fun g2 _ l2 => zT_le ?_ (Nat.le_of_lt l2)) (fun g2 _ l2 => zT_le ?_ (Nat.le_of_lt l2))
    · refine tInc [((172 : Nat) : Int), x1, x2, x3, x4, x5, x6, x7, w32 (x8 + 1)] rfl rfl ?_
      exact tGb rfl (fun m2 l2 => h1 g1 g2 m2 (Nat.lt_of_lt_of_le l2 (Nat.le_refl n)))
    · refine tL ((172 : Nat) : Int) 0 rfl rfl rfl ?_
      refine tFR (c := 172) 216 rfl rfl rfl rfl rfl ?_
      refine tK rfl ?_
      refine tL x7 0 rfl rfl rfl ?_
      refine tB (v := w32 (1 + x7)) rfl rfl ?_
      refine tAv 216 ((w32 (1 + x7)).toNat) (s 216 ((w32 (1 + x7)).toNat)) 0 rfl rfl rfl (by decide) rfl rfl ?_
      refine tL ((172 : Nat) : Int) 0 rfl rfl rfl ?_
      refine tFR (c := 172) 216 rfl rfl rfl rfl rfl ?_
      refine tK rfl ?_
      refine tL x8 0 rfl rfl rfl ?_
      refine tB (v := w32 (1 + x8)) rfl rfl ?_
      refine tAv 216 ((w32 (1 + x8)).toNat) (s 216 ((w32 (1 + x8)).toNat)) 0 rfl rfl rfl (by decide) rfl rfl ?_
      exact tCall [(s 216 ((w32 (1 + x7)).toNat), 0), (s 216 ((w32 (1 + x8)).toNat), 0)] [] rfl rfl rfl (fun m l => h2 g1 g2 m (Nat.lt_of_lt_of_le l (Nat.le_refl n)))

theorem b_X11_post_101 {n : Nat} {Q : Zr → Prop} (x1 x2 x3 x4 x5 x6 x7 x8 v0 : Int) (s : Zs) 
    (h0 : ∀ (g1 : s 188 x7.toNat < v0), ∀ m, m < n → zT (zE 1491) (Pt PX11_post) m (59, [((172 : Nat) : Int), x1, x2, x3, x4, x5, x6, x7, w32 (x8 + 1)], [], s) Q)
    (h1 : ∀ (g1 : v0 ≤ s 188 x7.toNat), ∀ m, m < n → zT (zE 1491) (Pt PX11_post) m (59, [((172 : Nat) : Int), x1, x2, x3, x4, x5, zor x6 (zshl 1 x8), x7, w32 (x8 + 1)], [], s) Q) : zT (zE 1491) (Pt PX11_post) n (101, [((172 : Nat) : Int), x1, x2, x3, x4, x5, x6, x7, x8], [(v0, 0)], s) Q := by
  refine tL ((172 : Nat) : Int) 0 rfl rfl rfl ?_
  refine tFR (c := 172) 188 rfl rfl rfl rfl rfl ?_
  refine tL x7 0 rfl rfl rfl ?_
  refine tAv 188 x7.toNat (s 188 x7.toNat) 0 rfl rfl rfl (by decide) rfl rfl ?_
  refine tJ4 rfl (fun g1 _ l1 => zT_le ?_ (Nat.le_of_lt l1)) (fun g1 _ l1 => zT_le ?_ (Nat.le_of_lt l1))
  · refine tInc [((172 : Nat) : Int), x1, x2, x3, x4, x5, x6, x7, w32 (x8 + 1)] rfl rfl ?_
    exact tGb rfl (fun m2 l2 => h0 g1 m2 (Nat.lt_of_lt_of_le l2 (Nat.le_refl n)))
  · refine tL x6 0 rfl rfl rfl ?_
    refine tK rfl ?_
    refine tL x8 0 rfl rfl rfl ?_
    refine tB (v := zshl 1 x8) rfl rfl ?_
    refine tB (v := zor x6 (zshl 1 x8)) rfl rfl ?_
    refine tS [((172 : Nat) : Int), x1, x2, x3, x4, x5, zor x6 (zshl 1 x8), x7, x8] rfl rfl ?_
    refine tInc [((172 : Nat) : Int), x1, x2, x3, x4, x5, zor x6 (zshl 1 x8), x7, w32 (x8 + 1)] rfl rfl ?_
    exact tGb rfl (fun m2 l2 => h1 g1 m2 (Nat.lt_of_lt_of_le l2 (Nat.le_refl n)))

theorem c_X11_post {n : Nat} {Q : Zr → Prop} {a0 a1 a2 : Int} {s : Zs} (h : zT (zE 1491) (Pt PX11_post) n (0, [a0, a1, a2, 0, 0, 0, 0, 0, 0], [], s) Q) : zC n 1491 [(a0, 0), (a1, 0), (a2, 0)] s Q := h

theorem b_X11_watches_0 {n : Nat} {Q : Zr → Prop} (x1 x2 x3 : Int) (s : Zs) 
    (h0 : ∀ m, m < n → zC m 1471 [(((172 : Nat) : Int), 0), (x2, 0)] s (fun p => zT (zE 1524) (Pt PX11_watches) m (15, [((172 : Nat) : Int), x1, x2, s 216 ((w32 (1 + x1)).toNat)], p.1 ++ [(s 216 ((w32 (1 + x1)).toNat), 0)], p.2) Q)) : zT (zE 1524) (Pt PX11_watches) n (0, [((172 : Nat) : Int), x1, x2, x3], [], s) Q := by
  refine tL ((172 : Nat) : Int) 0 rfl rfl rfl ?_
  refine tFR (c := 172) 216 rfl rfl rfl rfl rfl ?_
  refine tK rfl ?_
  refine tL x1 0 rfl rfl rfl ?_
  refine tB (v := w32 (1 + x1)) rfl rfl ?_
  refine tAv 216 ((w32 (1 + x1)).toNat) (s 216 ((w32 (1 + x1)).toNat)) 0 rfl rfl rfl (by decide) rfl rfl ?_
  refine tS [((172 : Nat) : Int), x1, x2, s 216 ((w32 (1 + x1)).toNat)] rfl rfl ?_
  refine tL (s 216 ((w32 (1 + x1)).toNat)) 0 rfl rfl rfl ?_
  refine tL ((172 : Nat) : Int) 0 rfl rfl rfl ?_
  refine tL x2 0 rfl rfl rfl ?_
  exact tCall [(((172 : Nat) : Int), 0), (x2, 0)] [(s 216 ((w32 (1 + x1)).toNat), 0)] rfl rfl rfl (fun m l => h0 m (Nat.lt_of_lt_of_le l (Nat.le_refl n)))

theorem b_X11_watches_15 {n : Nat} {Q : Zr → Prop} (x1 x2 x3 v0 y0 : Int) (s : Zs) 
    (h0 : ∀ (g1 : y0 = v0), Q ([(1, 0)], s))
    (h1 : ∀ (g1 : y0 ≠ v0), ∀ m, m < n → zC m 1471 [(((172 : Nat) : Int), 0), (x2, 0)] s (fun p => zT (zE 1524) (Pt PX11_watches) m (24, [((172 : Nat) : Int), x1, x2, x3], p.1 ++ [(x3, 0)], p.2) Q)) : zT (zE 1524) (Pt PX11_watches) n (15, [((172 : Nat) : Int), x1, x2, x3], [(v0, 0), (y0, 0)], s) Q := by
  refine tJ0 rfl (fun g1 _ l1 => zT_le ?_ (Nat.le_of_lt l1)) (fun g1 _ l1 => zT_le ?_ (Nat.le_of_lt l1))
  · refine tK rfl ?_
    refine tG rfl ?_
    exact tR rfl (h0 g1)
  · refine tL x3 0 rfl rfl rfl ?_
    refine tL ((172 : Nat) : Int) 0 rfl rfl rfl ?_
    refine tL x2 0 rfl rfl rfl ?_
    exact tCall [(((172 : Nat) : Int), 0), (x2, 0)] [(x3, 0)] rfl rfl rfl (fun m l => h1 g1 m (Nat.lt_of_lt_of_le l (Nat.le_refl n)))

theorem b_X11_watches_24 {n : Nat} {Q : Zr → Prop} (x1 x2 x3 v0 y0 : Int) (s : Zs) 
    (h0 : ∀ (g1 : y0 = w32 (v0 + 1)), Q ([(1, 0)], s))
    (h1 : ∀ (g1 : y0 ≠ w32 (v0 + 1)), ∀ (g2 : s 181 x2.toNat ≠ 0), Q ([(0, 0)], s))
    (h2 : ∀ (g1 : y0 ≠ w32 (v0 + 1)), ∀ (g2 : s 181 x2.toNat = 0), ∀ (g3 : zrem x3 6 ≠ 0), Q ([(0, 0)], s))
    (h3 : ∀ (g1 : y0 ≠ w32 (v0 + 1)), ∀ (g2 : s 181 x2.toNat = 0), ∀ (g3 : zrem x3 6 = 0), Q ([(1, 0)], s)) : zT (zE 1524) (Pt PX11_watches) n (24, [((172 : Nat) : Int), x1, x2, x3], [(v0, 0), (y0, 0)], s) Q := by
  refine tK rfl ?_
  refine tB (v := w32 (v0 + 1)) rfl rfl ?_
  refine tJ0 rfl (fun g1 _ l1 => zT_le ?_ (Nat.le_of_lt l1)) (fun g1 _ l1 => zT_le ?_ (Nat.le_of_lt l1))
  · refine tK rfl ?_
    refine tG rfl ?_
    exact tR rfl (h0 g1)
  · refine tL ((172 : Nat) : Int) 0 rfl rfl rfl ?_
    refine tFR (c := 172) 181 rfl rfl rfl rfl rfl ?_
    refine tL x2 0 rfl rfl rfl ?_
    refine tAv 181 x2.toNat (s 181 x2.toNat) 0 rfl rfl rfl (by decide) rfl rfl ?_
    refine tI1 rfl (fun g2 _ l2 => zT_le ?_ (Nat.le_of_lt l2)) (fun g2 _ l2 => zT_le ?_ (Nat.le_of_lt l2))
    · refine tK rfl ?_
      exact tR rfl (h1 g1 g2)
    · refine tL x3 0 rfl rfl rfl ?_
      refine tK rfl ?_
      refine tB (v := zrem x3 6) rfl rfl ?_
      refine tI1 rfl (fun g3 _ l3 => zT_le ?_ (Nat.le_of_lt l3)) (fun g3 _ l3 => zT_le ?_ (Nat.le_of_lt l3))
      · refine tK rfl ?_
        exact tR rfl (h2 g1 g2 g3)
      · refine tK rfl ?_
        refine tG rfl ?_
        exact tR rfl (h3 g1 g2 g3)

theorem c_X11_watches {n : Nat} {Q : Zr → Prop} {a0 a1 a2 : Int} {s : Zs} (h : zT (zE 1524) (Pt PX11_watches) n (0, [a0, a1, a2, 0], [], s) Q) : zC n 1524 [(a0, 0), (a1, 0), (a2, 0)] s Q := h

theorem b_X11_isWatched_0 {n : Nat} {Q : Zr → Prop} (x1 x2 x3 x4 : Int) (s : Zs) 
    (h0 : zT (zE 1458) (Pt PX11_isWatched) n (2, [((172 : Nat) : Int), x1, 0, x3, x4], [], s) Q) : zT (zE 1458) (Pt PX11_isWatched) n (0, [((172 : Nat) : Int), x1, x2, x3, x4], [], s) Q := by
  refine tK rfl ?_
  refine tS [((172 : Nat) : Int), x1, 0, x3, x4] rfl rfl ?_
  exact zT_le (h0) (Nat.le_refl n)

theorem b_X11_isWatched_2 {n : Nat} {Q : Zr → Prop} (x1 x2 x3 x4 : Int) (s : Zs) 
    (h0 : ∀ (g1 : s 174 1 ≤ x2), Q ([(1, 0)], s))
    (h1 : ∀ (g1 : x2 < s 174 1), ∀ (g2 : zand (zshr (s 216 0) x2) 1 ≠ 0), zT (zE 1458) (Pt PX11_isWatched) n (33, [((172 : Nat) : Int), x1, x2, 0, 0], [], s) Q)
    (h2 : ∀ (g1 : x2 < s 174 1), ∀ (g2 : zand (zshr (s 216 0) x2) 1 = 0), ∀ m, m < n → zT (zE 1458) (Pt PX11_isWatched) m (2, [((172 : Nat) : Int), x1, w32 (x2 + 1), x3, x4], [], s) Q) : zT (zE 1458) (Pt PX11_isWatched) n (2, [((172 : Nat) : Int), x1, x2, x3, x4], [], s) Q := by
  refine tL x2 0 rfl rfl rfl ?_
  refine tL ((172 : Nat) : Int) 0 rfl rfl rfl ?_
  refine tFR (c := 172) 174 rfl rfl rfl rfl rfl ?_
  refine tK rfl ?_
  refine tAv 174 1 (s 174 1) 0 rfl rfl rfl (by decide) rfl rfl ?_
  refine tJ3 rfl (fun g1 _ l1 => zT_le ?_ (Nat.le_of_lt l1)) (fun g1 _ l1 => zT_le ?_ (Nat.le_of_lt l1))
  · refine tK rfl ?_
    exact tR rfl (h0 g1)
  · refine tL ((172 : Nat) : Int) 0 rfl rfl rfl ?_
    refine tFR (c := 172) 216 rfl rfl rfl rfl rfl ?_
    refine tK rfl ?_
    refine tAv 216 0 (s 216 0) 0 rfl rfl rfl (by decide) rfl rfl ?_
    refine tL x2 0 rfl rfl rfl ?_
    refine tB (v := zshr (s 216 0) x2) rfl rfl ?_
    refine tK rfl ?_
    refine tB (v := zand (zshr (s 216 0) x2) 1) rfl rfl ?_
    refine tI1 rfl (fun g2 _ l2 => zT_le ?_ (Nat.le_of_lt l2)) (fun g2 _ l2 => zT_le ?_ (Nat.le_of_lt l2))
    · refine tK rfl ?_
      refine tS [((172 : Nat) : Int), x1, x2, 0, x4] rfl rfl ?_
      refine tK rfl ?_
      refine tS [((172 : Nat) : Int), x1, x2, 0, 0] rfl rfl ?_
      exact zT_le (h1 g1 g2) (Nat.le_refl n)
    · refine tG rfl ?_
      refine tInc [((172 : Nat) : Int), x1, w32 (x2 + 1), x3, x4] rfl rfl ?_
      exact tGb rfl (fun m2 l2 => h2 g1 g2 m2 (Nat.lt_of_lt_of_le l2 (Nat.le_refl n)))

theorem b_X11_isWatched_33 {n : Nat} {Q : Zr → Prop} (x1 x2 x3 x4 : Int) (s : Zs) 
    (h0 : ∀ (g1 : s 174 3 ≤ x4), ∀ (g2 : 2 ≤ x3), ∀ m, m < n → zT (zE 1458) (Pt PX11_isWatched) m (2, [((172 : Nat) : Int), x1, w32 (x2 + 1), x3, x4], [], s) Q)
    (h1 : ∀ (g1 : s 174 3 ≤ x4), ∀ (g2 : x3 < 2), Q ([(0, 0)], s))
    (h2 : ∀ (g1 : x4 < s 174 3), ∀ (g3 : zand (zshr x1 x4) 1 ≠ 1), ∀ m, m < n → zT (zE 1458) (Pt PX11_isWatched) m (33, [((172 : Nat) : Int), x1, x2, w32 (x3 + 0), w32 (x4 + 1)], [], s) Q)
    (h3 : ∀ (g1 : x4 < s 174 3), ∀ (g3 : zand (zshr x1 x4) 1 = 1), ∀ m, m < n → zC m 1524 [(((172 : Nat) : Int), 0), (x4, 0), (x2, 0)] s (fun p => zT (zE 1458) (Pt PX11_isWatched) m (62, [((172 : Nat) : Int), x1, x2, x3, x4], p.1 ++ [(x3, 0)], p.2) Q)) : zT (zE 1458) (Pt PX11_isWatched) n (33, [((172 : Nat) : Int), x1, x2, x3, x4], [], s) Q := by
  refine tL x4 0 rfl rfl rfl ?_
  refine tL ((172 : Nat) : Int) 0 rfl rfl rfl ?_
  refine tFR (c := 172) 174 rfl rfl rfl rfl rfl ?_
  refine tK rfl ?_
  refine tAv 174 3 (s 174 3) 0 rfl rfl rfl (by decide) rfl rfl ?_
  refine tJ3 rfl (fun g1 _ l1 => zT_le ?_ (Nat.le_of_lt l1)) (fun g1 _ l1 => zT_le ?_ (Nat.le_of_lt l1))
  · refine tL x3 0 rfl rfl rfl ?_
    refine tK rfl ?_
    refine tJ3 rfl (fun g2 _ l2 => zT_le ?_ (Nat.le_of_lt l2)) (fun g2 _ l2 => zT_le ?_ (Nat.le_of_lt l2))
    · refine tInc [((172 : Nat) : Int), x1, w32 (x2 + 1), x3, x4] rfl rfl ?_
      exact tGb rfl (fun m2 l2 => h0 g1 g2 m2 (Nat.lt_of_lt_of_le l2 (Nat.le_refl n)))
    · refine tK rfl ?_
      exact tR rfl (h1 g1 g2)
  · refine tL x3 0 rfl rfl rfl ?_
    refine tL x1 0 rfl rfl rfl ?_
    refine tL x4 0 rfl rfl rfl ?_
    refine tB (v := zshr x1 x4) rfl rfl ?_
    refine tK rfl ?_
    refine tB (v := zand (zshr x1 x4) 1) rfl rfl ?_
    refine tK rfl ?_
    refine tJ1 rfl (fun g3 _ l3 => zT_le ?_ (Nat.le_of_lt l3)) (fun g3 _ l3 => zT_le ?_ (Nat.le_of_lt l3))
    · refine tK rfl ?_
      refine tB (v := w32 (x3 + 0)) rfl rfl ?_
      refine tS [((172 : Nat) : Int), x1, x2, w32 (x3 + 0), x4] rfl rfl ?_
      refine tInc [((172 : Nat) : Int), x1, x2, w32 (x3 + 0), w32 (x4 + 1)] rfl rfl ?_
      exact tGb rfl (fun m2 l2 => h2 g1 g3 m2 (Nat.lt_of_lt_of_le l2 (Nat.le_refl n)))
    · refine tL ((172 : Nat) : Int) 0 rfl rfl rfl ?_
      refine tL x4 0 rfl rfl rfl ?_
      refine tL x2 0 rfl rfl rfl ?_
      exact tCall [(((172 : Nat) : Int), 0), (x4, 0), (x2, 0)] [(x3, 0)] rfl rfl rfl (fun m l => h3 g1 g3 m (Nat.lt_of_lt_of_le l (Nat.le_refl n)))

theorem b_X11_isWatched_62 {n : Nat} {Q : Zr → Prop} (x1 x2 x3 x4 v0 y0 : Int) (s : Zs) 
    (h0 : ∀ (g1 : v0 = 0), ∀ m, m < n → zT (zE 1458) (Pt PX11_isWatched) m (33, [((172 : Nat) : Int), x1, x2, w32 (y0 + 0), w32 (x4 + 1)], [], s) Q)
    (h1 : ∀ (g1 : v0 ≠ 0), ∀ m, m < n → zT (zE 1458) (Pt PX11_isWatched) m (33, [((172 : Nat) : Int), x1, x2, w32 (y0 + 1), w32 (x4 + 1)], [], s) Q) : zT (zE 1458) (Pt PX11_isWatched) n (62, [((172 : Nat) : Int), x1, x2, x3, x4], [(v0, 0), (y0, 0)], s) Q := by
  refine tI0 rfl (fun g1 _ l1 => zT_le ?_ (Nat.le_of_lt l1)) (fun g1 _ l1 => zT_le ?_ (Nat.le_of_lt l1))
  · refine tK rfl ?_
    refine tB (v := w32 (y0 + 0)) rfl rfl ?_
    refine tS [((172 : Nat) : Int), x1, x2, w32 (y0 + 0), x4] rfl rfl ?_
    refine tInc [((172 : Nat) : Int), x1, x2, w32 (y0 + 0), w32 (x4 + 1)] rfl rfl ?_
    exact tGb rfl (fun m2 l2 => h0 g1 m2 (Nat.lt_of_lt_of_le l2 (Nat.le_refl n)))
  · refine tK rfl ?_
    refine tG rfl ?_
    refine tB (v := w32 (y0 + 1)) rfl rfl ?_
    refine tS [((172 : Nat) : Int), x1, x2, w32 (y0 + 1), x4] rfl rfl ?_
    refine tInc [((172 : Nat) : Int), x1, x2, w32 (y0 + 1), w32 (x4 + 1)] rfl rfl ?_
    exact tGb rfl (fun m2 l2 => h1 g1 m2 (Nat.lt_of_lt_of_le l2 (Nat.le_refl n)))

theorem c_X11_isWatched {n : Nat} {Q : Zr → Prop} {a0 a1 : Int} {s : Zs} (h : zT (zE 1458) (Pt PX11_isWatched) n (0, [a0, a1, 0, 0, 0], [], s) Q) : zC n 1458 [(a0, 0), (a1, 0)] s Q := h

theorem b_X11_watch_0 {n : Nat} {Q : Zr → Prop} (x1 x2 : Int) (s : Zs) 
    (h0 : zT (zE 1523) (Pt PX11_watch) n (9, [((172 : Nat) : Int), (-1), 0], [], zu s 172 0 0) Q) : zT (zE 1523) (Pt PX11_watch) n (0, [((172 : Nat) : Int), x1, x2], [], s) Q := by
  refine tL ((172 : Nat) : Int) 0 rfl rfl rfl ?_
  refine tK rfl ?_
  refine tPut 172 rfl rfl ?_
  refine tK rfl ?_
  refine tS [((172 : Nat) : Int), (-1), x2] rfl rfl ?_
  refine tK rfl ?_
  refine tS [((172 : Nat) : Int), (-1), 0] rfl rfl ?_
  exact zT_le (h0) (Nat.le_refl n)

theorem b_X11_watch_9 {n : Nat} {Q : Zr → Prop} (x1 x2 : Int) (s : Zs) 
    (h0 : ∀ (g1 : zshl 1 (s 174 3) ≤ x2), Q ([(x1, 0)], s))
    (h1 : ∀ (g1 : x2 < zshl 1 (s 174 3)), ∀ (g2 : x1 < 0), ∀ m, m < n → zC m 1458 [(((172 : Nat) : Int), 0), (x2, 0)] s (fun p => zT (zE 1523) (Pt PX11_watch) m (41, [((172 : Nat) : Int), x1, x2], p.1 ++ [], p.2) Q))
    (h2 : ∀ (g1 : x2 < zshl 1 (s 174 3)), ∀ (g2 : 0 ≤ x1), ∀ m, m < n → zC m 1414 [(x2, 0)] s (fun p => zT (zE 1523) (Pt PX11_watch) m (29, [((172 : Nat) : Int), x1, x2], p.1 ++ [], p.2) Q)) : zT (zE 1523) (Pt PX11_watch) n (9, [((172 : Nat) : Int), x1, x2], [], s) Q := by
  refine tL x2 0 rfl rfl rfl ?_
  refine tK rfl ?_
  refine tL ((172 : Nat) : Int) 0 rfl rfl rfl ?_
  refine tFR (c := 172) 174 rfl rfl rfl rfl rfl ?_
  refine tK rfl ?_
  refine tAv 174 3 (s 174 3) 0 rfl rfl rfl (by decide) rfl rfl ?_
  refine tB (v := zshl 1 (s 174 3)) rfl rfl ?_
  refine tJ3 rfl (fun g1 _ l1 => zT_le ?_ (Nat.le_of_lt l1)) (fun g1 _ l1 => zT_le ?_ (Nat.le_of_lt l1))
  · refine tL x1 0 rfl rfl rfl ?_
    exact tR rfl (h0 g1)
  · refine tL x1 0 rfl rfl rfl ?_
    refine tI2 rfl (fun g2 _ l2 => zT_le ?_ (Nat.le_of_lt l2)) (fun g2 _ l2 => zT_le ?_ (Nat.le_of_lt l2))
    · refine tL ((172 : Nat) : Int) 0 rfl rfl rfl ?_
      refine tL x2 0 rfl rfl rfl ?_
      exact tCall [(((172 : Nat) : Int), 0), (x2, 0)] [] rfl rfl rfl (fun m l => h1 g1 g2 m (Nat.lt_of_lt_of_le l (Nat.le_refl n)))
    · refine tL x2 0 rfl rfl rfl ?_
      exact tCall [(x2, 0)] [] rfl rfl rfl (fun m l => h2 g1 g2 m (Nat.lt_of_lt_of_le l (Nat.le_refl n)))

theorem b_X11_watch_41 {n : Nat} {Q : Zr → Prop} (x1 x2 v0 : Int) (s : Zs) 
    (h0 : ∀ (g1 : v0 = 0), ∀ m, m < n → zT (zE 1523) (Pt PX11_watch) m (9, [((172 : Nat) : Int), x1, w32 (x2 + 1)], [], s) Q)
    (h1 : ∀ (g1 : v0 ≠ 0), ∀ m, m < n → zT (zE 1523) (Pt PX11_watch) m (9, [((172 : Nat) : Int), x2, w32 (x2 + 1)], [], s) Q) : zT (zE 1523) (Pt PX11_watch) n (41, [((172 : Nat) : Int), x1, x2], [(v0, 0)], s) Q := by
  refine tI0 rfl (fun g1 _ l1 => zT_le ?_ (Nat.le_of_lt l1)) (fun g1 _ l1 => zT_le ?_ (Nat.le_of_lt l1))
  · refine tInc [((172 : Nat) : Int), x1, w32 (x2 + 1)] rfl rfl ?_
    exact tGb rfl (fun m2 l2 => h0 g1 m2 (Nat.lt_of_lt_of_le l2 (Nat.le_refl n)))
  · refine tL x2 0 rfl rfl rfl ?_
    refine tS [((172 : Nat) : Int), x2, x2] rfl rfl ?_
    refine tInc [((172 : Nat) : Int), x2, w32 (x2 + 1)] rfl rfl ?_
    exact tGb rfl (fun m2 l2 => h1 g1 m2 (Nat.lt_of_lt_of_le l2 (Nat.le_refl n)))

theorem b_X11_watch_29 {n : Nat} {Q : Zr → Prop} (x1 x2 v0 : Int) (s : Zs) 
    (h0 : ∀ m, m < n → zC m 1414 [(x1, 0)] s (fun p => zT (zE 1523) (Pt PX11_watch) m (33, [((172 : Nat) : Int), x1, x2], p.1 ++ [(v0, 0)], p.2) Q)) : zT (zE 1523) (Pt PX11_watch) n (29, [((172 : Nat) : Int), x1, x2], [(v0, 0)], s) Q := by
  refine tL x1 0 rfl rfl rfl ?_
  exact tCall [(x1, 0)] [(v0, 0)] rfl rfl rfl (fun m l => h0 m (Nat.lt_of_lt_of_le l (Nat.le_refl n)))

theorem b_X11_watch_33 {n : Nat} {Q : Zr → Prop} (x1 x2 v0 y0 : Int) (s : Zs) 
    (h0 : ∀ (g1 : v0 ≤ y0), ∀ m, m < n → zT (zE 1523) (Pt PX11_watch) m (9, [((172 : Nat) : Int), x1, w32 (x2 + 1)], [], s) Q)
    (h1 : ∀ (g1 : y0 < v0), ∀ m, m < n → zC m 1458 [(((172 : Nat) : Int), 0), (x2, 0)] s (fun p => zT (zE 1523) (Pt PX11_watch) m (41, [((172 : Nat) : Int), x1, x2], p.1 ++ [], p.2) Q)) : zT (zE 1523) (Pt PX11_watch) n (33, [((172 : Nat) : Int), x1, x2], [(v0, 0), (y0, 0)], s) Q := by
  refine tJ3 rfl (fun g1 _ l1 => zT_le ?_ (Nat.le_of_lt l1)) (fun g1 _ l1 => zT_le ?_ (Nat.le_of_lt l1))
  · refine tInc [((172 : Nat) : Int), x1, w32 (x2 + 1)] rfl rfl ?_
    exact tGb rfl (fun m2 l2 => h0 g1 m2 (Nat.lt_of_lt_of_le l2 (Nat.le_refl n)))
  · refine tL ((172 : Nat) : Int) 0 rfl rfl rfl ?_
    refine tL x2 0 rfl rfl rfl ?_
    exact tCall [(((172 : Nat) : Int), 0), (x2, 0)] [] rfl rfl rfl (fun m l => h1 g1 m (Nat.lt_of_lt_of_le l (Nat.le_refl n)))

theorem c_X11_watch {n : Nat} {Q : Zr → Prop} {a0 : Int} {s : Zs} (h : zT (zE 1523) (Pt PX11_watch) n (0, [a0, 0, 0], [], s) Q) : zC n 1523 [(a0, 0)] s Q := h

noncomputable def dstI (x y : Int) : Int := if x / 6 = y / 6 then (if y ≤ x then x - y else y - x) else x % 6 + y % 6 + 1
noncomputable def rnI (D : ZD) (S : ZS) (H a v : Nat) : Nat → Nat
  | 0 => v
  | b + 1 => if dcP (H.testBit a = true ∧ dstI (sPe S a) (sPe S b) ≤ colD D 32 a) = true then rnI D S H a v b ||| 2 ^ b else rnI D S H a v b
noncomputable def rnO (D : ZD) (S : ZS) (H : Nat) : Nat → Nat
  | 0 => H
  | a + 1 => rnI D S H a (rnO D S H a) (cnt D 3)
noncomputable def nxV (D : ZD) (S : ZS) (H : Nat) : Nat := rnO D S H (cnt D 3)
noncomputable def poN (D : ZD) (S : ZS) : Nat → Nat → Nat → Nat × Nat
  | 0, i, H => (i, H)
  | f + 1, i, H => if nxV D S H = H then (i, H) else poN D S f (i + 1) (nxV D S H)
noncomputable def poA (D : ZD) (S : ZS) (x w : Int) : Int := if dcP (0 ≤ x ∧ x < cnt D 3 ∧ 0 ≤ w ∧ w ≤ 1) = true then (if w = 0 then (((poN D S 5 0 (2 ^ x.toNat)).1 : Nat) : Int) else (((poN D S 5 0 (2 ^ x.toNat)).2 : Nat) : Int)) else -1
theorem bcn_sub : ((List.range 32).all fun a => (List.range 32).all fun b => !(a ||| b == b) || a == b || decide (bcn a < bcn b)) = true := by decide +kernel
theorem bcn_lt {a b : Nat} (ha : a < 32) (hb : b < 32) (h : a ||| b = b) (hn : a ≠ b) : bcn a < bcn b := by
  have q := List.all_eq_true.mp (List.all_eq_true.mp bcn_sub a (List.mem_range.mpr ha)) b (List.mem_range.mpr hb)
  rw [Bool.or_eq_true, Bool.or_eq_true] at q
  rcases q with (q | q) | q
  · rw [h, beq_self_eq_true] at q; cases q
  · exact absurd (beq_iff_eq.mp q) hn
  · exact of_decide_eq_true q
theorem bcn_5 : ((List.range 32).all fun a => decide (bcn a ≤ 5)) = true := by decide +kernel
theorem bcn_le5 {a : Nat} (ha : a < 32) : bcn a ≤ 5 := of_decide_eq_true (List.all_eq_true.mp bcn_5 a (List.mem_range.mpr ha))
theorem bcn_pw : ((List.range 5).all fun a => decide (bcn (2 ^ a) = 1)) = true := by decide +kernel
section Zpo
variable {N t : Nat} {s : Zs} {D : ZD} {S : ZS}
theorem rnI_lt (hw : wD D) {H a v : Nat} (hv : v < 32) : ∀ b, b ≤ cnt D 3 → rnI D S H a v b < 32 ∧ v ||| rnI D S H a v b = rnI D S H a v b
  | 0, _ => ⟨hv, Nat.or_self v⟩
  | b + 1, hb => by
    have h5 : cnt D 3 ≤ 5 := hw.1 3 (by omega)
    have ih := rnI_lt hw hv (H := H) (a := a) b (by omega)
    have p1 : 2 ^ b < 2 ^ 5 := Nat.pow_lt_pow_right (by decide) (by omega)
    have e : rnI D S H a v (b + 1) = if dcP (H.testBit a = true ∧ dstI (sPe S a) (sPe S b) ≤ colD D 32 a) = true then rnI D S H a v b ||| 2 ^ b else rnI D S H a v b := rfl
    rw [e]
    by_cases c : dcP (H.testBit a = true ∧ dstI (sPe S a) (sPe S b) ≤ colD D 32 a) = true
    · rw [if_pos c]
      exact ⟨Nat.or_lt_two_pow (n := 5) ih.1 p1, by rw [← Nat.or_assoc, ih.2]⟩
    · rw [if_neg c]
      exact ih
theorem rnO_lt (hw : wD D) {H : Nat} (hH : H < 32) : ∀ a, a ≤ cnt D 3 → rnO D S H a < 32 ∧ H ||| rnO D S H a = rnO D S H a
  | 0, _ => ⟨hH, Nat.or_self H⟩
  | a + 1, ha => by
    have ih := rnO_lt hw hH a (by omega)
    have e : rnO D S H (a + 1) = rnI D S H a (rnO D S H a) (cnt D 3) := rfl
    have q := rnI_lt (S := S) hw (H := H) (a := a) ih.1 (cnt D 3) (Nat.le_refl _)
    rw [e]
    refine ⟨q.1, ?_⟩
    rw [← q.2, ← Nat.or_assoc, ih.2]
theorem nxV_lt (hw : wD D) {H : Nat} (hH : H < 32) : nxV D S H < 32 ∧ H ||| nxV D S H = nxV D S H := rnO_lt hw hH (cnt D 3) (Nat.le_refl _)
theorem zor_p {v b : Nat} (hv : v < 1024) (hb : b < 10) : zor (v : Int) (zshl 1 (b : Int)) = ((v ||| 2 ^ b : Nat) : Int) := by
  have p1 : 2 ^ b < 2 ^ 10 := Nat.pow_lt_pow_right (by decide) (by omega)
  have p2 : (2 : Nat) ^ 10 = 1024 := by decide
  rw [zshl_1 b (by omega), zor_nat (by omega) (by omega)]
theorem floors_c (ht : t = 7 ∨ t = 43) {x y : Int} (hx : 0 ≤ x ∧ x < 30) (hy : 0 ≤ y ∧ y < 30) : zC N 1298 [(x, 0), (y, 0)] s (fun r => r = ([(dstI x y, 0)], s)) := by
  have e1 : zdiv x 6 = x / 6 := zdiv_pos hx.1 (by omega) (by decide) (by decide)
  have e2 : zdiv y 6 = y / 6 := zdiv_pos hy.1 (by omega) (by decide) (by decide)
  have e3 : zrem x 6 = x % 6 := zrem_pos hx.1 (by omega) (by decide) (by decide)
  have e4 : zrem y 6 = y % 6 := zrem_pos hy.1 (by omega) (by decide) (by decide)
  refine c_X10_floorsBetween (b_X10_floorsBetween_0 _ _ s ht (fun g => ?_) (fun g => ?_))
  all_goals rw [e1, e2] at g
  · have ev : w32 (w32 (zrem x 6 + zrem y 6) + 1) = dstI x y := by
      rw [e3, e4, w32_id (z := x % 6 + y % 6) (by omega) (by omega), w32_id (by omega) (by omega)]
      unfold dstI
      rw [if_neg g]
    show ([(w32 (w32 (zrem x 6 + zrem y 6) + 1), 0)], s) = _
    rw [ev]
  · have ew : w32 (x - y) = x - y := w32_id (by omega) (by omega)
    have ev : (if 0 ≤ w32 (x - y) then w32 (x - y) else w32 (0 - w32 (x - y))) = dstI x y := by
      rw [ew, w32_id (z := 0 - (x - y)) (by omega) (by omega)]
      unfold dstI
      rw [if_pos g]
      by_cases c : y ≤ x
      · rw [if_pos c, if_pos (by omega)]
      · rw [if_neg c, if_neg (by omega)]; omega
    show ([(if 0 ≤ w32 (x - y) then w32 (x - y) else w32 (0 - w32 (x - y)), 0)], s) = _
    rw [ev]
theorem floors_m {x y : Int} (hx : 0 ≤ x ∧ x < 30) (hy : 0 ≤ y ∧ y < 30) : zC N 1439 [(x, 0), (y, 0)] s (fun r => r = ([(dstI x y, 0)], s)) := by
  have e1 : zdiv x 6 = x / 6 := zdiv_pos hx.1 (by omega) (by decide) (by decide)
  have e2 : zdiv y 6 = y / 6 := zdiv_pos hy.1 (by omega) (by decide) (by decide)
  have e3 : zrem x 6 = x % 6 := zrem_pos hx.1 (by omega) (by decide) (by decide)
  have e4 : zrem y 6 = y % 6 := zrem_pos hy.1 (by omega) (by decide) (by decide)
  refine c_X11_floorsAway (b_X11_floorsAway_0 _ _ s (fun g => ?_) (fun g m _ => ?_))
  all_goals rw [e1, e2] at g
  · have ev : w32 (w32 (zrem x 6 + zrem y 6) + 1) = dstI x y := by
      rw [e3, e4, w32_id (z := x % 6 + y % 6) (by omega) (by omega), w32_id (by omega) (by omega)]
      unfold dstI
      rw [if_neg g]
    show ([(w32 (w32 (zrem x 6 + zrem y 6) + 1), 0)], s) = _
    rw [ev]
  · rw [e3, e4]
    have aw : zC m 1411 [(x % 6, 0), (y % 6, 0)] s (fun r => r = ([(dstI x y, 0)], s)) := by
      refine c_X11_away (b_X11_away_0 _ _ s (fun g2 => ?_) (fun g2 => ?_))
      · have ev : w32 (x % 6 - y % 6) = dstI x y := by
          rw [w32_id (by omega) (by omega)]
          unfold dstI
          rw [if_pos g, if_pos (by omega)]
          omega
        show ([(w32 (x % 6 - y % 6), 0)], s) = _
        rw [ev]
      · have ev : w32 (y % 6 - x % 6) = dstI x y := by
          rw [w32_id (by omega) (by omega)]
          unfold dstI
          rw [if_pos g, if_neg (by omega)]
          omega
        show ([(w32 (y % 6 - x % 6), 0)], s) = _
        rw [ev]
    refine zC_q aw (fun r hr => ?_)
    subst hr
    exact b_X11_floorsAway_22 _ _ _ s rfl
theorem pe_30 (hw : wD D) (hs : wS D S) {p : Nat} (hp : p < cnt D 3) : 0 ≤ sPe S p ∧ sPe S p < 30 := by
  have np := plI_nat hw (hs.2.1 p hp)
  omega
theorem afterRound_ok (ht : t = 7 ∨ t = 43) (e3 : s 0 3 = ((t : Nat) : Int)) (hd : cDn s t D) (hw : wD D) (hS : cSt s 79 D S) (hs : wS D S) {H : Nat} (hH : H < 32) : zC N 1280 [(((0 : Nat) : Int), 0), ((H : Int), 0)] s (fun r => r = ([(((nxV D S H : Nat) : Int), 0)], s)) := by
  have h5 : cnt D 3 ≤ 5 := hw.1 3 (by omega)
  have hc : s (zrho ((s 0 3).toNat) 0) 3 = ((cnt D 3 : Nat) : Int) := by
    rw [e3, Int.toNat_natCast]
    have e1 : zrho t 0 = t + 1 := zt8_0 ht
    rw [e1]
    exact hd.1 3 (by omega)
  have ep : ∀ p, p < cnt D 3 → s 80 (p : Int).toNat = sPe S p := fun p hp => by rw [Int.toNat_natCast]; exact hS.2.1 p hp
  have er : ∀ p, p < cnt D 3 → s (zrho (zrho ((s 0 3).toNat) 3) (p : Int).toNat) 2 = colD D 32 p := fun p hp => by
    rw [e3, Int.toNat_natCast, Int.toNat_natCast]
    have e1 : zrho t 3 = t + 23 := zt8_3 ht
    rw [e1, zrow3 ht (by omega)]
    exact cDn_col hd hw (k := 3) (j := 2) (by omega) (by omega) (by decide) hp
  have inner : ∀ (M a b : Nat) (x5 : Int), a < cnt D 3 → b ≤ cnt D 3 → (∀ (m : Nat) (x4 x5 : Int), m < M → zT (zE 1280) (Pt PX10_afterRound) m (4, [((0 : Nat) : Int), (H : Int), ((rnO D S H (a + 1) : Nat) : Int), ((a + 1 : Nat) : Int), x4, x5], [], s) (fun r => r = ([(((nxV D S H : Nat) : Int), 0)], s))) → zT (zE 1280) (Pt PX10_afterRound) M (20, [((0 : Nat) : Int), (H : Int), ((rnI D S H a (rnO D S H a) b : Nat) : Int), (a : Int), (b : Int), x5], [], s) (fun r => r = ([(((nxV D S H : Nat) : Int), 0)], s)) := by
    intro M
    induction M using Nat.strongRecOn with
    | ind M ih =>
      intro a b x5 ha hb out
      have ro := rnO_lt (S := S) hw hH a (by omega)
      have ri := rnI_lt (S := S) hw (H := H) (a := a) ro.1 b hb
      have on : ∀ (m : Nat) (v x5 : Int), m < M → b < cnt D 3 → v = ((rnI D S H a (rnO D S H a) (b + 1) : Nat) : Int) → zT (zE 1280) (Pt PX10_afterRound) m (20, [((0 : Nat) : Int), (H : Int), v, (a : Int), w32 ((b : Int) + 1), x5], [], s) (fun r => r = ([(((nxV D S H : Nat) : Int), 0)], s)) := fun m v x5 hm hb2 hv => by
        rw [hv, w32_id (by omega) (by omega), show (b : Int) + 1 = ((b + 1 : Nat) : Int) from by omega]
        exact ih m hm a (b + 1) x5 ha (by omega) (fun m' x4 x6 hm' => out m' x4 x6 (by omega))
      have yes : (H.testBit a = true ∧ dstI (sPe S a) (sPe S b) ≤ colD D 32 a) → rnI D S H a (rnO D S H a) b ||| 2 ^ b = rnI D S H a (rnO D S H a) (b + 1) := fun q => (if_pos (dcP_yes q)).symm
      have nos : ¬ (H.testBit a = true ∧ dstI (sPe S a) (sPe S b) ≤ colD D 32 a) → rnI D S H a (rnO D S H a) b = rnI D S H a (rnO D S H a) (b + 1) := fun q => (if_neg (by rw [dcP_no q]; decide)).symm
      refine b_X10_afterRound_20 _ _ _ _ _ s ht (fun g m hm => ?_) (fun g m hm => ?_)
      all_goals rw [hc] at g
      · have : b = cnt D 3 := by omega
        subst this
        rw [w32_id (by omega) (by omega), show (a : Int) + 1 = ((a + 1 : Nat) : Int) from by omega]
        exact out m _ _ hm
      · have hb2 : b < cnt D 3 := by omega
        rw [ep a ha, ep b hb2]
        refine zC_q (floors_c ht (pe_30 hw hs ha) (pe_30 hw hs hb2)) (fun r hr => ?_)
        subst hr
        refine b_X10_afterRound_56 _ _ _ _ _ _ s ht (fun g2 m2 hm2 => ?_) (fun g2 g3 m2 hm2 => ?_) (fun g2 g3 m2 hm2 => ?_)
        all_goals rw [er a ha] at g2
        · exact on m2 _ _ (by omega) hb2 (by rw [nos (fun q => by have := q.2; omega)])
        · exact on m2 _ _ (by omega) hb2 (by rw [nos (fun q => g3 ((zbit1 (by omega) (by omega)).mpr q.1))])
        · exact on m2 _ _ (by omega) hb2 (by rw [zor_p (by omega) (by omega), yes ⟨(zbit1 (by omega) (by omega)).mp g3, g2⟩])
  have outer : ∀ (M a : Nat) (x4 x5 : Int), a ≤ cnt D 3 → zT (zE 1280) (Pt PX10_afterRound) M (4, [((0 : Nat) : Int), (H : Int), ((rnO D S H a : Nat) : Int), (a : Int), x4, x5], [], s) (fun r => r = ([(((nxV D S H : Nat) : Int), 0)], s)) := by
    intro M
    induction M using Nat.strongRecOn with
    | ind M ih =>
      intro a x4 x5 ha
      refine b_X10_afterRound_4 _ _ _ _ _ s ht (fun g => ?_) (fun g => ?_)
      all_goals rw [hc] at g
      · have : a = cnt D 3 := by omega
        subst this
        rfl
      · exact inner M a 0 _ (by omega) (by omega) (fun m x4 x5 hm => ih m hm (a + 1) x4 x5 (by omega))
  exact c_X10_afterRound (b_X10_afterRound_0 _ _ _ _ _ s ht (outer N 0 _ _ (by omega)))
theorem post_c (hM : zM s) (ht : t = 7 ∨ t = 43) (e3 : s 0 3 = ((t : Nat) : Int)) (hd : cDn s t D) (hw : wD D) (hS : cSt s 79 D S) (hs : wS D S) {x w : Int} : zC N 1309 [(((0 : Nat) : Int), 0), (x, 0), (w, 0)] s (fun r => r.1 = [(poA D S x w, 0)]) := by
  have no : ¬ (0 ≤ x ∧ x < cnt D 3 ∧ 0 ≤ w ∧ w ≤ 1) → [((-1 : Int), 0)] = [(poA D S x w, 0)] := fun q => by
    unfold poA; rw [if_neg (by rw [dcP_no q]; decide)]
  have m3 : s 1000 3 = 5 := (hM 3).trans (by decide +kernel)
  have h5 : cnt D 3 ≤ 5 := hw.1 3 (by omega)
  refine c_X10_post (b_X10_post_0 _ _ _ _ _ _ s ht (fun m _ => ?_))
  rw [e3]
  refine zC_q (has_ok ht hd (k := 3) (by omega)) (fun r hr => ?_)
  subst hr
  refine b_X10_post_9 _ _ _ _ _ _ _ s ht (fun g => no (fun q => by rw [if_pos (dcP_yes ⟨q.1, q.2.1⟩)] at g; omega)) (fun g g2 => no (fun q => by omega)) (fun g g2 g3 => ?_) (fun g g2 g3 => no (fun q => by omega))
  have c : 0 ≤ x ∧ x < cnt D 3 := Classical.byContradiction fun c => g (if_neg (by rw [dcP_no c]; decide))
  obtain ⟨k, rfl⟩ := Int.eq_ofNat_of_zero_le c.1
  have fin : poA D S (k : Int) w = if w = 0 then (((poN D S 5 0 (2 ^ k)).1 : Nat) : Int) else (((poN D S 5 0 (2 ^ k)).2 : Nat) : Int) := by
    unfold poA
    rw [if_pos (dcP_yes ⟨c.1, c.2, g2, g3⟩), Int.toNat_natCast]
  have loop : ∀ (M i H : Nat) (x6 : Int), i ≤ 5 → H < 32 → poN D S (5 - i) i H = poN D S 5 0 (2 ^ k) → zT (zE 1309) (Pt PX10_post) M (33, [((0 : Nat) : Int), (k : Int), w, (i : Int), (H : Int), (i : Int), x6], [], s) (fun r => r.1 = [(poA D S (k : Int) w, 0)]) := by
    intro M
    induction M using Nat.strongRecOn with
    | ind M ih =>
      intro i H x6 hi hH hp
      have y1 : ∀ p : Nat × Nat, p = poN D S 5 0 (2 ^ k) → w ≠ 0 → [(((p.2 : Nat) : Int), 0)] = [(poA D S (k : Int) w, 0)] := fun p ep q => by rw [fin, if_neg q, ep]
      have y0 : ∀ p : Nat × Nat, p = poN D S 5 0 (2 ^ k) → w = 0 → [(((p.1 : Nat) : Int), 0)] = [(poA D S (k : Int) w, 0)] := fun p ep q => by rw [fin, if_pos q, ep]
      refine b_X10_post_33 _ _ _ _ _ _ s ht (fun j1 j2 => ?_) (fun j1 j2 => ?_) (fun j1 m2 hm2 => ?_)
      all_goals rw [m3] at j1
      · have : i = 5 := by omega
        subst this
        exact y1 (5, H) hp j2
      · have : i = 5 := by omega
        subst this
        exact y0 (5, H) hp j2
      · refine zC_q (afterRound_ok ht e3 hd hw hS hs hH) (fun r hr => ?_)
        subst hr
        have nl := nxV_lt (S := S) hw hH
        have e5 : 5 - i = (5 - (i + 1)) + 1 := by omega
        rw [e5] at hp
        have st : poN D S ((5 - (i + 1)) + 1) i H = if nxV D S H = H then (i, H) else poN D S (5 - (i + 1)) (i + 1) (nxV D S H) := rfl
        rw [st] at hp
        refine b_X10_post_49 _ _ _ _ _ _ _ s ht (fun j2 m3 hm3 => ?_) (fun j2 j3 => ?_) (fun j2 j3 => ?_)
        · rw [if_neg (fun q => j2 (by rw [q]))] at hp
          rw [w32_id (by omega) (by omega), show (i : Int) + 1 = ((i + 1 : Nat) : Int) from by omega]
          exact ih m3 (by omega) (i + 1) (nxV D S H) _ (by omega) nl.1 hp
        · rw [if_pos (by omega)] at hp
          exact y1 (i, H) hp j3
        · rw [if_pos (by omega)] at hp
          exact y0 (i, H) hp j3
  have p1 : 2 ^ k < 2 ^ 5 := Nat.pow_lt_pow_right (by decide) (by omega)
  rw [zshl_1 k (by omega)]
  exact loop m 0 (2 ^ k) _ (by omega) p1 rfl
theorem post_m (hm : mT s D) (hw : wD D) (hS : mSt s 216 0 D S) (hs : wS D S) {x w : Int} : zC N 1491 [(((172 : Nat) : Int), 0), (x, 0), (w, 0)] s (fun r => r.1 = [(poA D S x w, 0)]) := by
  have hc : s 174 3 = ((cnt D 3 : Nat) : Int) := hm.1 3 (by omega)
  have no : ¬ (0 ≤ x ∧ x < cnt D 3 ∧ 0 ≤ w ∧ w ≤ 1) → [((-1 : Int), 0)] = [(poA D S x w, 0)] := fun q => by
    unfold poA; rw [if_neg (by rw [dcP_no q]; decide)]
  have h5 : cnt D 3 ≤ 5 := hw.1 3 (by omega)
  refine c_X11_post (b_X11_post_0 _ _ _ _ _ _ _ _ s (fun g => no (fun q => by omega)) (fun g g2 => no (fun q => by omega)) (fun g g2 g3 => no (fun q => by omega)) (fun g g2 g3 g4 => no (fun q => by omega)) (fun g g2 g3 g4 => ?_))
  obtain ⟨k, rfl⟩ := Int.eq_ofNat_of_zero_le g
  have hk : k < cnt D 3 := by omega
  have fin : poA D S (k : Int) w = if w = 0 then (((poN D S 5 0 (2 ^ k)).1 : Nat) : Int) else (((poN D S 5 0 (2 ^ k)).2 : Nat) : Int) := by
    unfold poA
    rw [if_pos (dcP_yes ⟨g, by omega, g3, g4⟩), Int.toNat_natCast]
  clear hc
  have hm1 : mT (zu s 172 0 0) D := mT_e (fun c j a b => zu_n (by omega)) hm
  have hS1 : mSt (zu s 172 0 0) 216 0 D S := mSt_e hS (fun j => zu_n (by omega))
  clear g2
  generalize zu s 172 0 0 = s1 at hm1 hS1 ⊢
  have hc1 : s1 174 3 = ((cnt D 3 : Nat) : Int) := hm1.1 3 (by omega)
  have ep : ∀ p, p < cnt D 3 → s1 216 ((w32 (1 + (p : Int))).toNat) = sPe S p := fun p hp => by
    rw [w32_id (by omega) (by omega), show (1 + (p : Int)).toNat = 1 + p from by omega]
    have := hS1.2.1 p hp
    rw [Nat.zero_add] at this
    exact this
  have er : ∀ p, p < cnt D 3 → s1 188 (p : Int).toNat = colD D 32 p := fun p hp => by rw [Int.toNat_natCast]; exact mcol hm1 hw (k := 3) (j := 2) (by omega) (by omega) (by decide) (by decide) hp
  have inner : ∀ (M i H a b : Nat) (x5 : Int), H < 32 → a < cnt D 3 → b ≤ cnt D 3 → (∀ (m : Nat) (x8 : Int), m < M → zT (zE 1491) (Pt PX11_post) m (45, [((172 : Nat) : Int), (k : Int), w, (H : Int), (i : Int), x5, ((rnO D S H (a + 1) : Nat) : Int), ((a + 1 : Nat) : Int), x8], [], s1) (fun r => r.1 = [(poA D S (k : Int) w, 0)])) → zT (zE 1491) (Pt PX11_post) M (59, [((172 : Nat) : Int), (k : Int), w, (H : Int), (i : Int), x5, ((rnI D S H a (rnO D S H a) b : Nat) : Int), (a : Int), (b : Int)], [], s1) (fun r => r.1 = [(poA D S (k : Int) w, 0)]) := by
    intro M
    induction M using Nat.strongRecOn with
    | ind M ih =>
      intro i H a b x5 hH ha hb out
      have ro := rnO_lt (S := S) hw hH a (by omega)
      have ri := rnI_lt (S := S) hw (H := H) (a := a) ro.1 b hb
      have on : ∀ (m : Nat) (v : Int), m < M → b < cnt D 3 → v = ((rnI D S H a (rnO D S H a) (b + 1) : Nat) : Int) → zT (zE 1491) (Pt PX11_post) m (59, [((172 : Nat) : Int), (k : Int), w, (H : Int), (i : Int), x5, v, (a : Int), w32 ((b : Int) + 1)], [], s1) (fun r => r.1 = [(poA D S (k : Int) w, 0)]) := fun m v hm' hb2 hv => by
        rw [hv, w32_id (by omega) (by omega), show (b : Int) + 1 = ((b + 1 : Nat) : Int) from by omega]
        exact ih m hm' i H a (b + 1) x5 hH ha (by omega) (fun m' x8 hm'' => out m' x8 (by omega))
      have yes : (H.testBit a = true ∧ dstI (sPe S a) (sPe S b) ≤ colD D 32 a) → rnI D S H a (rnO D S H a) b ||| 2 ^ b = rnI D S H a (rnO D S H a) (b + 1) := fun q => (if_pos (dcP_yes q)).symm
      have nos : ¬ (H.testBit a = true ∧ dstI (sPe S a) (sPe S b) ≤ colD D 32 a) → rnI D S H a (rnO D S H a) b = rnI D S H a (rnO D S H a) (b + 1) := fun q => (if_neg (by rw [dcP_no q]; decide)).symm
      refine b_X11_post_59 _ _ _ _ _ _ _ _ s1 (fun j1 m2 hm2 => ?_) (fun j1 j2 m2 hm2 => ?_) (fun j1 j2 m2 hm2 => ?_)
      all_goals rw [hc1] at j1
      · have : b = cnt D 3 := by omega
        subst this
        rw [w32_id (by omega) (by omega), show (a : Int) + 1 = ((a + 1 : Nat) : Int) from by omega]
        exact out m2 _ hm2
      · exact on m2 _ hm2 (by omega) (by rw [nos (fun q => j2 ((zbit1 (by omega) (by omega)).mpr q.1))])
      · have hb2 : b < cnt D 3 := by omega
        have bt := (zbit1 (by omega) (by omega)).mp j2
        rw [ep a ha, ep b hb2]
        refine zC_q (floors_m (pe_30 hw hs ha) (pe_30 hw hs hb2)) (fun r hr => ?_)
        subst hr
        refine b_X11_post_101 _ _ _ _ _ _ _ _ _ s1 (fun j3 m3 hm3 => ?_) (fun j3 m3 hm3 => ?_)
        all_goals rw [er a ha] at j3
        · exact on m3 _ (by omega) hb2 (by rw [nos (fun q => by have := q.2; omega)])
        · exact on m3 _ (by omega) hb2 (by rw [zor_p (by omega) (by omega), yes ⟨bt, j3⟩])
  have outer : ∀ (M i H a : Nat) (x5 x8 : Int), H < 32 → a ≤ cnt D 3 → (∀ (m : Nat) (x7 x8 : Int), m < M → nxV D S H = H → zT (zE 1491) (Pt PX11_post) m (34, [((172 : Nat) : Int), (k : Int), w, (H : Int), (i : Int), 0, (H : Int), x7, x8], [], s1) (fun r => r.1 = [(poA D S (k : Int) w, 0)])) → (∀ (m : Nat) (x7 x8 : Int), m < M → nxV D S H ≠ H → zT (zE 1491) (Pt PX11_post) m (34, [((172 : Nat) : Int), (k : Int), w, ((nxV D S H : Nat) : Int), ((i + 1 : Nat) : Int), 1, ((nxV D S H : Nat) : Int), x7, x8], [], s1) (fun r => r.1 = [(poA D S (k : Int) w, 0)])) → i < 100 → zT (zE 1491) (Pt PX11_post) M (45, [((172 : Nat) : Int), (k : Int), w, (H : Int), (i : Int), x5, ((rnO D S H a : Nat) : Int), (a : Int), x8], [], s1) (fun r => r.1 = [(poA D S (k : Int) w, 0)]) := by
    intro M
    induction M using Nat.strongRecOn with
    | ind M ih =>
      intro i H a x5 x8 hH ha f1 f2 hi
      refine b_X11_post_45 _ _ _ _ _ _ _ _ s1 (fun j1 j2 m2 hm2 => ?_) (fun j1 j2 m2 hm2 => ?_) (fun j1 => ?_)
      all_goals rw [hc1] at j1
      · have : a = cnt D 3 := by omega
        subst this
        have e : nxV D S H = H := by unfold nxV; omega
        have e2 : rnO D S H (cnt D 3) = H := e
        rw [e2, w32_id (by omega) (by omega), Int.add_zero]
        exact f1 m2 _ _ hm2 e
      · have : a = cnt D 3 := by omega
        subst this
        have e : nxV D S H ≠ H := by unfold nxV; omega
        rw [w32_id (z := (i : Int) + 1) (by omega) (by omega), show (i : Int) + 1 = ((i + 1 : Nat) : Int) from by omega]
        exact f2 m2 _ _ hm2 e
      · exact inner M i H a 0 _ hH (by omega) (by omega) (fun m x8 hm' => ih m hm' i H (a + 1) _ x8 hH (by omega) (fun m' x7 x8 hm'' => f1 m' x7 x8 (by omega)) (fun m' x7 x8 hm'' => f2 m' x7 x8 (by omega)) hi)
  have loop : ∀ (M i H : Nat) (x6 x7 x8 : Int), i ≤ 4 → H < 32 → i + 1 ≤ bcn H → poN D S (5 - i) i H = poN D S 5 0 (2 ^ k) → zT (zE 1491) (Pt PX11_post) M (34, [((172 : Nat) : Int), (k : Int), w, (H : Int), (i : Int), 1, x6, x7, x8], [], s1) (fun r => r.1 = [(poA D S (k : Int) w, 0)]) := by
    intro M
    induction M using Nat.strongRecOn with
    | ind M ih =>
      intro i H x6 x7 x8 hi hH hb hp
      have e5 : 5 - i = (5 - (i + 1)) + 1 := by omega
      rw [e5] at hp
      have st : poN D S ((5 - (i + 1)) + 1) i H = if nxV D S H = H then (i, H) else poN D S (5 - (i + 1)) (i + 1) (nxV D S H) := rfl
      rw [st] at hp
      have nl := nxV_lt (S := S) hw hH
      refine b_X11_post_34 _ _ _ _ _ _ _ _ s1 (fun j1 _ => absurd j1 (by decide)) (fun j1 _ => absurd j1 (by decide)) (fun _ => ?_)
      refine outer M i H 0 _ _ hH (by omega) (fun m x7 x8 hm' e => ?_) (fun m x7 x8 hm' e => ?_) (by omega)
      · rw [if_pos e] at hp
        refine b_X11_post_34 _ _ _ _ _ _ _ _ s1 (fun _ j2 => ?_) (fun _ j2 => ?_) (fun j1 => absurd rfl j1)
        · show [((H : Int), 0)] = _
          rw [fin, if_neg j2, ← hp]
        · show [((i : Int), 0)] = _
          rw [fin, if_pos j2, ← hp]
      · rw [if_neg e] at hp
        have lt := bcn_lt hH nl.1 nl.2 (fun q => e q.symm)
        have l5 := bcn_le5 nl.1
        exact ih m hm' (i + 1) (nxV D S H) _ _ _ (by omega) nl.1 (by omega) hp
  have p1 : 2 ^ k < 2 ^ 5 := Nat.pow_lt_pow_right (by decide) (by omega)
  have pb : bcn (2 ^ k) = 1 := of_decide_eq_true (List.all_eq_true.mp bcn_pw k (List.mem_range.mpr (by omega)))
  rw [zshl_1 k (by omega)]
  exact loop N 0 (2 ^ k) _ _ _ (by omega) p1 (by omega) rfl
/-- who sees a flight -/
def seB (D : ZD) (S : ZS) (f p : Nat) : Bool := decide (sPe S p = ((lowN D f : Nat) : Int) ∨ sPe S p = ((lowN D f : Nat) : Int) + 1 ∨ (lowN D f % 6 = 0 ∧ sPe S p % 6 = 0))
def seV (D : ZD) (S : ZS) (f : Nat) : Nat := bset (seB D S f) (cnt D 3)
def asT (D : ZD) (S : ZS) (k : Nat) : Prop := ∀ f, f < cnt D 1 → (sTh S).testBit f = true → 2 ≤ bcn (k &&& seV D S f)
def waC (D : ZD) (S : ZS) (k : Nat) (b : Int) : Prop := (b < 0 ∨ bcn k < bcn b.toNat) ∧ asT D S k
noncomputable def waA (D : ZD) (S : ZS) : Int := bsS (waC D S) (2 ^ cnt D 3)
theorem seV_lt (hw : wD D) {f : Nat} : seV D S f < 32 := by
  have h5 : cnt D 3 ≤ 5 := hw.1 3 (by omega)
  have b2 := bset_lt (seB D S f) (cnt D 3)
  have b3 : 2 ^ cnt D 3 ≤ 2 ^ 5 := Nat.pow_le_pow_right (by decide) h5
  have b4 : (2 : Nat) ^ 5 = 32 := by decide
  unfold seV
  omega
theorem seersOf_ok (ht : t = 7 ∨ t = 43) (e3 : s 0 3 = ((t : Nat) : Int)) (hd : cDn s t D) (hw : wD D) (hF : wF D) (hS : cSt s 79 D S) (hs : wS D S) {f : Nat} (hf : f < cnt D 1) : zC N 1314 [(((0 : Nat) : Int), 0), ((f : Int), 0)] s (fun r => r = ([(((seV D S f : Nat) : Int), 0)], s)) := by
  have h5 : cnt D 3 ≤ 5 := hw.1 3 (by omega)
  have hc : s (zrho ((s 0 3).toNat) 0) 3 = ((cnt D 3 : Nat) : Int) := by
    rw [e3, Int.toNat_natCast]
    have e1 : zrho t 0 = t + 1 := zt8_0 ht
    rw [e1]
    exact hd.1 3 (by omega)
  have l30 := (pl_h hw (low_pl hw hF hf).1).2
  have el : zrem ((lowN D f : Nat) : Int) 6 = ((lowN D f : Nat) : Int) % 6 := zrem_pos (by omega) (by omega) (by decide) (by decide)
  have e1 : w32 (((lowN D f : Nat) : Int) + 1) = ((lowN D f : Nat) : Int) + 1 := w32_id (by omega) (by omega)
  have loop : ∀ (M k : Nat) (x5 x6 : Int), k ≤ cnt D 3 → zT (zE 1314) (Pt PX10_seersOf) M (14, [((0 : Nat) : Int), (f : Int), ((lowN D f : Nat) : Int), ((bset (seB D S f) k : Nat) : Int), (k : Int), x5, x6], [], s) (fun r => r = ([(((seV D S f : Nat) : Int), 0)], s)) := by
    intro M
    induction M using Nat.strongRecOn with
    | ind M ih =>
      intro k x5 x6 hk
      have on : ∀ (m : Nat) (v x5 x6 : Int), m < M → k < cnt D 3 → v = ((bset (seB D S f) (k + 1) : Nat) : Int) → zT (zE 1314) (Pt PX10_seersOf) m (14, [((0 : Nat) : Int), (f : Int), ((lowN D f : Nat) : Int), v, w32 ((k : Int) + 1), x5, x6], [], s) (fun r => r = ([(((seV D S f : Nat) : Int), 0)], s)) := fun m v x5 x6 hm hk2 hv => by
        rw [hv, w32_id (by omega) (by omega), show (k : Int) + 1 = ((k + 1 : Nat) : Int) from by omega]
        exact ih m hm (k + 1) x5 x6 (by omega)
      have ep : k < cnt D 3 → s 80 (k : Int).toNat = sPe S k := fun hk2 => by rw [Int.toNat_natCast]; exact hS.2.1 k hk2
      have em : k < cnt D 3 → zrem (sPe S k) 6 = sPe S k % 6 := fun hk2 => by
        have := pe_30 hw hs hk2
        exact zrem_pos this.1 (by omega) (by decide) (by decide)
      have ys : ∀ (m : Nat) (x5 x6 : Int), m < M → k < cnt D 3 → seB D S f k = true → zT (zE 1314) (Pt PX10_seersOf) m (14, [((0 : Nat) : Int), (f : Int), ((lowN D f : Nat) : Int), zor ((bset (seB D S f) k : Nat) : Int) (zshl 1 (k : Int)), w32 ((k : Int) + 1), x5, x6], [], s) (fun r => r = ([(((seV D S f : Nat) : Int), 0)], s)) := fun m x5 x6 hm hk2 q => on m _ _ _ hm hk2 (bset_zor q (by omega))
      have ns : ∀ (m : Nat) (x5 x6 : Int), m < M → k < cnt D 3 → seB D S f k = false → zT (zE 1314) (Pt PX10_seersOf) m (14, [((0 : Nat) : Int), (f : Int), ((lowN D f : Nat) : Int), ((bset (seB D S f) k : Nat) : Int), w32 ((k : Int) + 1), x5, x6], [], s) (fun r => r = ([(((seV D S f : Nat) : Int), 0)], s)) := fun m x5 x6 hm hk2 q => on m _ _ _ hm hk2 (by rw [bset_no q])
      refine b_X10_seersOf_14 _ _ _ _ _ _ s ht (fun g => ?_) (fun g g2 g3 m hm => ?_) (fun g g2 g3 g4 m hm => ?_) (fun g g2 g3 g4 m hm => ?_) (fun g g2 g5 g6 m hm => ?_) (fun g g2 g5 g6 g7 m hm => ?_) (fun g g2 g5 g6 g7 m hm => ?_) (fun g g2 g5 g8 m hm => ?_) (fun g g2 g5 g8 g9 m hm => ?_) (fun g g2 g5 g8 g9 m hm => ?_)
      all_goals rw [hc] at g
      · have : k = cnt D 3 := by omega
        subst this
        rfl
      all_goals
        have hk2 : k < cnt D 3 := by omega
        rw [el] at g2
      · rw [ep hk2] at g3
        exact ys m _ _ hm hk2 (decide_eq_true (Or.inl g3))
      · rw [ep hk2, e1] at g4
        exact ys m _ _ hm hk2 (decide_eq_true (Or.inr (Or.inl g4)))
      · rw [ep hk2] at g3
        rw [ep hk2, e1] at g4
        exact ns m _ _ hm hk2 (decide_eq_false (fun q => q.elim g3 (fun q => q.elim g4 (fun q => by omega))))
      all_goals rw [ep hk2, em hk2] at g5
      · rw [ep hk2] at g6
        exact ys m _ _ hm hk2 (decide_eq_true (Or.inl g6))
      · rw [ep hk2, e1] at g7
        exact ys m _ _ hm hk2 (decide_eq_true (Or.inr (Or.inl g7)))
      · rw [ep hk2] at g6
        rw [ep hk2, e1] at g7
        exact ns m _ _ hm hk2 (decide_eq_false (fun q => q.elim g6 (fun q => q.elim g7 (fun q => g5 q.2))))
      · exact ys m _ _ hm hk2 (decide_eq_true (Or.inr (Or.inr ⟨by omega, g5⟩)))
      · exact ys m _ _ hm hk2 (decide_eq_true (Or.inr (Or.inr ⟨by omega, g5⟩)))
      · exact ys m _ _ hm hk2 (decide_eq_true (Or.inr (Or.inr ⟨by omega, g5⟩)))
  refine c_X10_seersOf (b_X10_seersOf_0 _ _ _ _ _ _ s ht (fun m _ => ?_))
  rw [e3]
  refine zC_q (lowerOf_ok ht hd hw hf) (fun r hr => ?_)
  subst hr
  exact b_X10_seersOf_8 _ _ _ _ _ _ _ s ht (loop m 0 _ _ (by omega))
theorem allSeen_ok (ht : t = 7 ∨ t = 43) (e3 : s 0 3 = ((t : Nat) : Int)) (hd : cDn s t D) (hw : wD D) (hF : wF D) (hS : cSt s 79 D S) (hs : wS D S) {k : Nat} (hk : k < 1024) : zC N 1281 [(((0 : Nat) : Int), 0), ((k : Int), 0)] s (fun r => r = ([(if dcP (asT D S k) = true then 1 else 0, 0)], s)) := by
  have h10 : cnt D 1 ≤ 10 := hw.1 1 (by omega)
  have hc : s (zrho ((s 0 3).toNat) 0) 1 = ((cnt D 1 : Nat) : Int) := by
    rw [e3, Int.toNat_natCast]
    have e1 : zrho t 0 = t + 1 := zt8_0 ht
    rw [e1]
    exact hd.1 1 (by omega)
  have loop : ∀ (M i : Nat), i ≤ cnt D 1 → (∀ f, f < i → (sTh S).testBit f = true → 2 ≤ bcn (k &&& seV D S f)) → zT (zE 1281) (Pt PX10_allSeenByTwo) M (2, [((0 : Nat) : Int), (k : Int), (i : Int)], [], s) (fun r => r = ([(if dcP (asT D S k) = true then 1 else 0, 0)], s)) := by
    intro M
    induction M using Nat.strongRecOn with
    | ind M ih =>
      intro i hi hf
      have on : ∀ m, m < M → i < cnt D 1 → ((sTh S).testBit i = true → 2 ≤ bcn (k &&& seV D S i)) → zT (zE 1281) (Pt PX10_allSeenByTwo) m (2, [((0 : Nat) : Int), (k : Int), w32 ((i : Int) + 1)], [], s) (fun r => r = ([(if dcP (asT D S k) = true then 1 else 0, 0)], s)) := fun m hm hi2 hv => by
        rw [w32_id (by omega) (by omega), show (i : Int) + 1 = ((i + 1 : Nat) : Int) from by omega]
        refine ih m hm (i + 1) (by omega) (fun f hf2 => ?_)
        by_cases e : f = i
        · rw [e]; exact hv
        · exact hf f (by omega)
      refine b_X10_allSeenByTwo_2 _ _ s ht (fun g => ?_) (fun g m hm => ?_)
      all_goals rw [hc] at g
      · have : i = cnt D 1 := by omega
        subst this
        show ([((1 : Int), 0)], s) = _
        rw [if_pos (dcP_yes (show asT D S k from hf))]
      · have hi2 : i < cnt D 1 := by omega
        rw [e3]
        refine zC_q (isThere_ok ht (b := 79) rfl hd hw hS hs) (fun r hr => ?_)
        subst hr
        refine b_X10_allSeenByTwo_27 _ _ _ s ht (fun g2 m2 hm2 => ?_) (fun g2 m2 hm2 => ?_)
        · refine on m2 (by omega) hi2 (fun q => ?_)
          rw [if_pos (dcP_yes ⟨by omega, by omega, by rw [Int.toNat_natCast]; exact q⟩)] at g2
          exact absurd g2 (by decide)
        have th : (sTh S).testBit i = true := Classical.byContradiction fun c => g2 (if_neg (by rw [dcP_no (fun q => c (by have := q.2.2; rwa [Int.toNat_natCast] at this))]; decide))
        refine zC_q (seersOf_ok ht e3 hd hw hF hS hs hi2) (fun r hr => ?_)
        subst hr
        have sl := seV_lt (S := S) hw (f := i)
        refine b_X10_allSeenByTwo_36 _ _ _ _ s ht (fun m3 hm3 => ?_)
        rw [zand_nat (by omega) (by omega)]
        refine zC_q (bits_ok (Nat.lt_of_le_of_lt Nat.and_le_left hk)) (fun r hr => ?_)
        subst hr
        refine b_X10_allSeenByTwo_40 _ _ _ s ht (fun g3 m4 hm4 => ?_) (fun g3 => ?_)
        · exact on m4 (by omega) hi2 (fun _ => by omega)
        · show ([((0 : Int), 0)], s) = _
          rw [if_neg (by rw [dcP_no (fun q => by have := q i hi2 th; omega)]; decide)]
  exact c_X10_allSeenByTwo (b_X10_allSeenByTwo_0 _ _ s ht (loop N 0 (by omega) (fun f hf => absurd hf (Nat.not_lt_zero f))))
theorem watch_c (ht : t = 7 ∨ t = 43) (e3 : s 0 3 = ((t : Nat) : Int)) (hd : cDn s t D) (hw : wD D) (hF : wF D) (hS : cSt s 79 D S) (hs : wS D S) : zC N 1320 [(((0 : Nat) : Int), 0)] s (fun r => r.1 = [(waA D S, 0)]) := by
  have h5 : cnt D 3 ≤ 5 := hw.1 3 (by omega)
  have b3 : 2 ^ cnt D 3 ≤ 2 ^ 5 := Nat.pow_le_pow_right (by decide) h5
  have b4 : (2 : Nat) ^ 5 = 32 := by decide
  have hc : zshl 1 (s (zrho ((s 0 3).toNat) 0) 3) = ((2 ^ cnt D 3 : Nat) : Int) := by
    rw [e3, Int.toNat_natCast]
    have e1 : zrho t 0 = t + 1 := zt8_0 ht
    have e2 : s (t + 1) 3 = ((cnt D 3 : Nat) : Int) := hd.1 3 (by omega)
    rw [e1, e2]
    exact zshl_1 _ (by omega)
  have loop : ∀ (M k : Nat) (x3 : Int), k ≤ 2 ^ cnt D 3 → zT (zE 1320) (Pt PX10_watch) M (4, [((0 : Nat) : Int), bsS (waC D S) k, (k : Int), x3], [], s) (fun r => r.1 = [(waA D S, 0)]) := by
    intro M
    induction M using Nat.strongRecOn with
    | ind M ih =>
      intro k x3 hk
      have bb := bs_bd (C := waC D S) k
      have on : ∀ (m : Nat) (b x3 : Int), m < M → k < 2 ^ cnt D 3 → b = bsS (waC D S) (k + 1) → zT (zE 1320) (Pt PX10_watch) m (4, [((0 : Nat) : Int), b, w32 ((k : Int) + 1), x3], [], s) (fun r => r.1 = [(waA D S, 0)]) := fun m b x3 hm hk2 hb => by
        rw [hb, w32_id (by omega) (by omega), show (k : Int) + 1 = ((k + 1 : Nat) : Int) from by omega]
        exact ih m hm (k + 1) x3 (by omega)
      have go : ∀ (m : Nat), m < M → k < 2 ^ cnt D 3 → (bsS (waC D S) k < 0 ∨ bcn k < bcn (bsS (waC D S) k).toNat) → zC m 1281 [(((0 : Nat) : Int), 0), ((k : Int), 0)] s (fun p => zT (zE 1320) (Pt PX10_watch) m (50, [((0 : Nat) : Int), bsS (waC D S) k, (k : Int), 1], p.1 ++ [], p.2) (fun r => r.1 = [(waA D S, 0)])) := fun m hm hk2 hor => by
        refine zC_q (allSeen_ok ht e3 hd hw hF hS hs (by omega)) (fun r hr => ?_)
        subst hr
        refine b_X10_watch_50 _ _ _ _ s ht (fun g m2 hm2 => ?_) (fun g m2 hm2 => ?_)
        · refine on m2 _ _ (by omega) hk2 (bs_n (fun q => ?_)).symm
          rw [if_pos (dcP_yes q.2)] at g
          exact absurd g (by decide)
        · exact on m2 _ _ (by omega) hk2 (bs_y ⟨hor, Classical.byContradiction fun c => g (if_neg (by rw [dcP_no c]; decide))⟩).symm
      refine b_X10_watch_4 _ _ _ s ht (fun g => ?_) (fun g g2 m hm => ?_) (fun g g2 m hm => ?_)
      all_goals rw [hc] at g
      · have : k = 2 ^ cnt D 3 := by omega
        subst this
        rfl
      · exact go m hm (by omega) (Or.inl (by omega))
      · have hk2 : k < 2 ^ cnt D 3 := by omega
        have c : ¬ bsS (waC D S) k < 0 := by omega
        refine zC_q (bits_ok (by omega)) (fun r hr => ?_)
        subst hr
        refine b_X10_watch_28 _ _ _ _ s ht (fun m2 hm2 => ?_)
        have eb : bsS (waC D S) k = (((bsS (waC D S) k).toNat : Nat) : Int) := by omega
        have bt : zC m2 1536 [(bsS (waC D S) k, 0)] s (fun r => r = ([(((bcn (bsS (waC D S) k).toNat : Nat) : Int), 0)], s)) := by
          have := bits_ok (N := m2) (s := s) (x := (bsS (waC D S) k).toNat) (by omega)
          rwa [← eb] at this
        refine zC_q bt (fun r hr => ?_)
        subst hr
        refine b_X10_watch_32 _ _ _ _ _ s ht (fun g3 m3 hm3 => ?_) (fun g3 m3 hm3 => ?_)
        · exact on m3 _ _ (by omega) hk2 (bs_n (fun q => q.1.elim c (fun z => by omega))).symm
        · exact go m3 (by omega) hk2 (Or.inr (by omega))
  exact c_X10_watch (b_X10_watch_0 _ _ _ s ht (loop N 0 _ (Nat.zero_le _)))
/-- counts -/
theorem cnB_ext {p q : Nat → Bool} : ∀ n, (∀ i, i < n → p i = q i) → cnB p n = cnB q n
  | 0, _ => rfl
  | n + 1, h => by
    have e1 : cnB p (n + 1) = cnB p n + (if p n = true then 1 else 0) := rfl
    have e2 : cnB q (n + 1) = cnB q n + (if q n = true then 1 else 0) := rfl
    rw [e1, e2, cnB_ext n (fun i hi => h i (by omega)), h n (by omega)]
theorem cnB_st {p : Nat → Bool} {n : Nat} : ∀ d, (∀ i, n ≤ i → p i = false) → cnB p (n + d) = cnB p n
  | 0, _ => rfl
  | d + 1, h => by
    have e1 : cnB p (n + (d + 1)) = cnB p (n + d) + (if p (n + d) = true then 1 else 0) := rfl
    rw [e1, cnB_st d h, h (n + d) (by omega)]
    rfl
theorem see_cn (hw : wD D) {k f : Nat} : bcn (k &&& seV D S f) = cnB (fun p => k.testBit p && seB D S f p) (cnt D 3) := by
  have h5 : cnt D 3 ≤ 5 := hw.1 3 (by omega)
  have tb : ∀ i, (k &&& seV D S f).testBit i = (k.testBit i && (decide (i < cnt D 3) && seB D S f i)) := fun i => by
    unfold seV
    rw [Nat.testBit_and, bset_tb]
  rw [bcn_cnB, show 10 = cnt D 3 + (10 - cnt D 3) from by omega, cnB_st _ (fun i hi => by rw [tb, decide_eq_false (by omega), Bool.false_and, Bool.and_false])]
  exact cnB_ext _ (fun i hi => by rw [tb, decide_eq_true hi, Bool.true_and])
theorem nat0 {a : Nat} (h : ((a : Nat) : Int) = 0) : a = 0 := by omega
theorem watches_m (hm : mT s D) (hw : wD D) (hF : wF D) (hS : mSt s 216 0 D S) (hs : wS D S) {p f : Nat} (hp : p < cnt D 3) (hf : f < cnt D 1) : zC N 1524 [(((172 : Nat) : Int), 0), ((p : Int), 0), ((f : Int), 0)] s (fun r => r = ([(if seB D S f p = true then 1 else 0, 0)], s)) := by
  have h5 : cnt D 3 ≤ 5 := hw.1 3 (by omega)
  have ep : ∀ _ : Unit, s 216 ((w32 (1 + (p : Int))).toNat) = sPe S p := fun _ => by
    rw [w32_id (by omega) (by omega), show (1 + (p : Int)).toNat = 1 + p from by omega]
    have := hS.2.1 p hp
    rw [Nat.zero_add] at this
    exact this
  have pb := pe_30 hw hs hp
  have l30 := (pl_h hw (low_pl hw hF hf).1).2
  have ld := low_dm hw hf
  have r1 : s 181 (f : Int).toNat = colD D 11 f := by rw [Int.toNat_natCast]; exact mcol hm hw (k := 1) (j := 1) (by omega) (by omega) (by decide) (by decide) hf
  have em : zrem (sPe S p) 6 = sPe S p % 6 := zrem_pos pb.1 (by omega) (by decide) (by decide)
  have e1 : w32 (((lowN D f : Nat) : Int) + 1) = ((lowN D f : Nat) : Int) + 1 := w32_id (by omega) (by omega)
  have ys : seB D S f p = true → ([((1 : Int), 0)], s) = (([(if seB D S f p = true then 1 else 0, 0)], s) : Zr) := fun q => by rw [if_pos q]
  have ns : seB D S f p = false → ([((0 : Int), 0)], s) = (([(if seB D S f p = true then 1 else 0, 0)], s) : Zr) := fun q => by rw [if_neg (by rw [q]; decide)]
  refine c_X11_watches (b_X11_watches_0 _ _ _ s (fun m _ => ?_))
  rw [ep ()]
  refine zC_q (lowerOf_m hm hw hf) (fun r hr => ?_)
  subst hr
  refine b_X11_watches_15 _ _ _ _ _ s (fun g => ys (decide_eq_true (Or.inl g))) (fun g m2 _ => ?_)
  refine zC_q (lowerOf_m hm hw hf) (fun r hr => ?_)
  subst hr
  refine b_X11_watches_24 _ _ _ _ _ s (fun g2 => ?_) (fun g2 g3 => ?_) (fun g2 g3 g4 => ?_) (fun g2 g3 g4 => ?_)
  all_goals rw [e1] at g2
  · exact ys (decide_eq_true (Or.inr (Or.inl g2)))
  all_goals rw [r1] at g3
  · exact ns (decide_eq_false (fun q => q.elim g (fun q => q.elim g2 (fun q => g3 (by rw [← ld.2.1, q.1]; rfl)))))
  all_goals rw [em] at g4
  · exact ns (decide_eq_false (fun q => q.elim g (fun q => q.elim g2 (fun q => g4 q.2))))
  · have h6 : lowN D f % 6 = 0 := nat0 (ld.2.1.trans g3)
    exact ys (decide_eq_true (Or.inr (Or.inr ⟨h6, g4⟩)))
theorem isWatched_m (hm : mT s D) (hw : wD D) (hF : wF D) (hS : mSt s 216 0 D S) (hs : wS D S) {k : Nat} (hk : k < 1024) : zC N 1458 [(((172 : Nat) : Int), 0), ((k : Int), 0)] s (fun r => r = ([(if dcP (asT D S k) = true then 1 else 0, 0)], s)) := by
  have h10 : cnt D 1 ≤ 10 := hw.1 1 (by omega)
  have h5 : cnt D 3 ≤ 5 := hw.1 3 (by omega)
  have hc : s 174 1 = ((cnt D 1 : Nat) : Int) := hm.1 1 (by omega)
  have hc3 : s 174 3 = ((cnt D 3 : Nat) : Int) := hm.1 3 (by omega)
  have e0 : s 216 0 = ((sTh S : Nat) : Int) := hS.1
  have b1 := wS_lt hw hs
  have inner : ∀ (M i p : Nat), i < cnt D 1 → (sTh S).testBit i = true → p ≤ cnt D 3 → (∀ (m : Nat) (x3 x4 : Int), m < M → 2 ≤ bcn (k &&& seV D S i) → zT (zE 1458) (Pt PX11_isWatched) m (2, [((172 : Nat) : Int), (k : Int), ((i + 1 : Nat) : Int), x3, x4], [], s) (fun r => r = ([(if dcP (asT D S k) = true then 1 else 0, 0)], s))) → zT (zE 1458) (Pt PX11_isWatched) M (33, [((172 : Nat) : Int), (k : Int), (i : Int), ((cnB (fun p => k.testBit p && seB D S i p) p : Nat) : Int), (p : Int)], [], s) (fun r => r = ([(if dcP (asT D S k) = true then 1 else 0, 0)], s)) := by
    intro M
    induction M using Nat.strongRecOn with
    | ind M ih =>
      intro i p hi th hp out
      have cb := cnB_le (fun p => k.testBit p && seB D S i p) p
      have e2 : cnB (fun p => k.testBit p && seB D S i p) (p + 1) = cnB (fun p => k.testBit p && seB D S i p) p + (if (k.testBit p && seB D S i p) = true then 1 else 0) := rfl
      have on : ∀ (m : Nat) (v : Int), m < M → p < cnt D 3 → v = ((cnB (fun p => k.testBit p && seB D S i p) (p + 1) : Nat) : Int) → zT (zE 1458) (Pt PX11_isWatched) m (33, [((172 : Nat) : Int), (k : Int), (i : Int), v, w32 ((p : Int) + 1)], [], s) (fun r => r = ([(if dcP (asT D S k) = true then 1 else 0, 0)], s)) := fun m v hm' hp2 hv => by
        rw [hv, w32_id (by omega) (by omega), show (p : Int) + 1 = ((p + 1 : Nat) : Int) from by omega]
        exact ih m hm' i (p + 1) hi th (by omega) (fun m' x3 x4 hm'' => out m' x3 x4 (by omega))
      have nn : (k.testBit p && seB D S i p) = false → w32 (((cnB (fun p => k.testBit p && seB D S i p) p : Nat) : Int) + 0) = ((cnB (fun p => k.testBit p && seB D S i p) (p + 1) : Nat) : Int) := fun q => by
        rw [Int.add_zero, w32_id (by omega) (by omega), e2, if_neg (by rw [q]; decide), Nat.add_zero]
      have yy : (k.testBit p && seB D S i p) = true → w32 (((cnB (fun p => k.testBit p && seB D S i p) p : Nat) : Int) + 1) = ((cnB (fun p => k.testBit p && seB D S i p) (p + 1) : Nat) : Int) := fun q => by
        rw [w32_id (by omega) (by omega), e2, if_pos q]
        omega
      refine b_X11_isWatched_33 _ _ _ _ s (fun g g2 m hm' => ?_) (fun g g2 => ?_) (fun g g2 m hm' => ?_) (fun g g2 m hm' => ?_)
      all_goals rw [hc3] at g
      · have : p = cnt D 3 := by omega
        subst this
        rw [← see_cn hw] at g2
        rw [w32_id (by omega) (by omega), show (i : Int) + 1 = ((i + 1 : Nat) : Int) from by omega]
        exact out m _ _ hm' (by omega)
      · have : p = cnt D 3 := by omega
        subst this
        rw [← see_cn hw] at g2
        show ([((0 : Int), 0)], s) = _
        rw [if_neg (by rw [dcP_no (fun q => by have := q i hi th; omega)]; decide)]
      · exact on m _ hm' (by omega) (nn (by rw [Bool.eq_false_iff.mpr (fun q => g2 ((zbit1 (by omega) (by omega)).mpr q)), Bool.false_and]))
      · have hp2 : p < cnt D 3 := by omega
        have bt := (zbit1 (by omega) (by omega)).mp g2
        refine zC_q (watches_m hm hw hF hS hs hp2 hi) (fun r hr => ?_)
        subst hr
        refine b_X11_isWatched_62 _ _ _ _ _ _ s (fun g3 m2 hm2 => ?_) (fun g3 m2 hm2 => ?_)
        · refine on m2 _ (by omega) hp2 (nn ?_)
          cases c : seB D S i p with
          | false => rw [Bool.and_false]
          | true => rw [if_pos c] at g3; exact absurd g3 (by decide)
        · refine on m2 _ (by omega) hp2 (yy ?_)
          cases c : seB D S i p with
          | true => rw [bt]; rfl
          | false => exact absurd (if_neg (by rw [c]; decide)) g3
  have loop : ∀ (M i : Nat) (x3 x4 : Int), i ≤ cnt D 1 → (∀ f, f < i → (sTh S).testBit f = true → 2 ≤ bcn (k &&& seV D S f)) → zT (zE 1458) (Pt PX11_isWatched) M (2, [((172 : Nat) : Int), (k : Int), (i : Int), x3, x4], [], s) (fun r => r = ([(if dcP (asT D S k) = true then 1 else 0, 0)], s)) := by
    intro M
    induction M using Nat.strongRecOn with
    | ind M ih =>
      intro i x3 x4 hi hf
      have nxt : ((sTh S).testBit i = true → 2 ≤ bcn (k &&& seV D S i)) → ∀ f, f < i + 1 → (sTh S).testBit f = true → 2 ≤ bcn (k &&& seV D S f) := fun hv f hf2 => by
        by_cases e : f = i
        · rw [e]; exact hv
        · exact hf f (by omega)
      refine b_X11_isWatched_2 _ _ _ _ s (fun g => ?_) (fun g g2 => ?_) (fun g g2 m hm' => ?_)
      all_goals rw [hc] at g
      · have : i = cnt D 1 := by omega
        subst this
        show ([((1 : Int), 0)], s) = _
        rw [if_pos (dcP_yes (show asT D S k from hf))]
      all_goals rw [e0] at g2
      · have th : (sTh S).testBit i = true := Classical.byContradiction fun c => g2 ((zbit0 (by omega) (by omega)).mpr c)
        exact inner M i 0 (by omega) th (by omega) (fun m x3 x4 hm' h2 => ih m hm' (i + 1) x3 x4 (by omega) (nxt (fun _ => h2)))
      · rw [w32_id (by omega) (by omega), show (i : Int) + 1 = ((i + 1 : Nat) : Int) from by omega]
        exact ih m hm' (i + 1) _ _ (by omega) (nxt (fun q => absurd q ((zbit0 (by omega) (by omega)).mp g2)))
  exact c_X11_isWatched (b_X11_isWatched_0 _ _ _ _ s (loop N 0 _ _ (by omega) (fun f hf => absurd hf (Nat.not_lt_zero f))))
theorem watch_m (hm : mT s D) (hw : wD D) (hF : wF D) (hS : mSt s 216 0 D S) (hs : wS D S) : zC N 1523 [(((172 : Nat) : Int), 0)] s (fun r => r.1 = [(waA D S, 0)]) := by
  have hm1 : mT (zu s 172 0 0) D := mT_e (fun c j a b => zu_n (by omega)) hm
  have hS1 : mSt (zu s 172 0 0) 216 0 D S := mSt_e hS (fun j => zu_n (by omega))
  refine c_X11_watch (b_X11_watch_0 _ _ s ?_)
  generalize zu s 172 0 0 = s1 at hm1 hS1 ⊢
  have h5 : cnt D 3 ≤ 5 := hw.1 3 (by omega)
  have b3 : 2 ^ cnt D 3 ≤ 2 ^ 5 := Nat.pow_le_pow_right (by decide) h5
  have b4 : (2 : Nat) ^ 5 = 32 := by decide
  have hc : zshl 1 (s1 174 3) = ((2 ^ cnt D 3 : Nat) : Int) := by
    have e2 : s1 174 3 = ((cnt D 3 : Nat) : Int) := hm1.1 3 (by omega)
    rw [e2]
    exact zshl_1 _ (by omega)
  have loop : ∀ (M k : Nat), k ≤ 2 ^ cnt D 3 → zT (zE 1523) (Pt PX11_watch) M (9, [((172 : Nat) : Int), bsS (waC D S) k, (k : Int)], [], s1) (fun r => r.1 = [(waA D S, 0)]) := by
    intro M
    induction M using Nat.strongRecOn with
    | ind M ih =>
      intro k hk
      have bb := bs_bd (C := waC D S) k
      have on : ∀ (m : Nat) (b : Int), m < M → k < 2 ^ cnt D 3 → b = bsS (waC D S) (k + 1) → zT (zE 1523) (Pt PX11_watch) m (9, [((172 : Nat) : Int), b, w32 ((k : Int) + 1)], [], s1) (fun r => r.1 = [(waA D S, 0)]) := fun m b hm' hk2 hb => by
        rw [hb, w32_id (by omega) (by omega), show (k : Int) + 1 = ((k + 1 : Nat) : Int) from by omega]
        exact ih m hm' (k + 1) (by omega)
      have go : ∀ (m : Nat), m < M → k < 2 ^ cnt D 3 → (bsS (waC D S) k < 0 ∨ bcn k < bcn (bsS (waC D S) k).toNat) → zC m 1458 [(((172 : Nat) : Int), 0), ((k : Int), 0)] s1 (fun p => zT (zE 1523) (Pt PX11_watch) m (41, [((172 : Nat) : Int), bsS (waC D S) k, (k : Int)], p.1 ++ [], p.2) (fun r => r.1 = [(waA D S, 0)])) := fun m hm' hk2 hor => by
        refine zC_q (isWatched_m hm1 hw hF hS1 hs (by omega)) (fun r hr => ?_)
        subst hr
        refine b_X11_watch_41 _ _ _ s1 (fun g m2 hm2 => ?_) (fun g m2 hm2 => ?_)
        · refine on m2 _ (by omega) hk2 (bs_n (fun q => ?_)).symm
          rw [if_pos (dcP_yes q.2)] at g
          exact absurd g (by decide)
        · exact on m2 _ (by omega) hk2 (bs_y ⟨hor, Classical.byContradiction fun c => g (if_neg (by rw [dcP_no c]; decide))⟩).symm
      refine b_X11_watch_9 _ _ s1 (fun g => ?_) (fun g g2 m hm' => ?_) (fun g g2 m hm' => ?_)
      all_goals rw [hc] at g
      · have : k = 2 ^ cnt D 3 := by omega
        subst this
        rfl
      · exact go m hm' (by omega) (Or.inl g2)
      · have hk2 : k < 2 ^ cnt D 3 := by omega
        refine zC_q (bits_m (by omega)) (fun r hr => ?_)
        subst hr
        refine b_X11_watch_29 _ _ _ s1 (fun m2 hm2 => ?_)
        have eb : bsS (waC D S) k = (((bsS (waC D S) k).toNat : Nat) : Int) := by omega
        have bt : zC m2 1414 [(bsS (waC D S) k, 0)] s1 (fun r => r = ([(((bcn (bsS (waC D S) k).toNat : Nat) : Int), 0)], s1)) := by
          have := bits_m (N := m2) (s := s1) (x := (bsS (waC D S) k).toNat) (by omega)
          rwa [← eb] at this
        refine zC_q bt (fun r hr => ?_)
        subst hr
        refine b_X11_watch_33 _ _ _ _ s1 (fun g3 m3 hm3 => ?_) (fun g3 m3 hm3 => ?_)
        · exact on m3 _ (by omega) hk2 (bs_n (fun q => q.1.elim (fun z => by omega) (fun z => by omega))).symm
        · exact go m3 (by omega) hk2 (Or.inr (by omega))
  exact loop N 0 (Nat.zero_le _)
end Zpo
