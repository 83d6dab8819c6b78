/-! states and ways: the model -/
theorem b_X11_isPlace_0 {n : Nat} {Q : Zr → Prop} (x1 : Int) (s : Zs) 
    (h0 : ∀ (g1 : x1 < 0), Q ([(0, 0)], s))
    (h1 : ∀ (g1 : 0 ≤ x1), ∀ (g2 : w32 (6 * (s 174 0)) ≤ x1), Q ([(0, 0)], s))
    (h2 : ∀ (g1 : 0 ≤ x1), ∀ (g2 : x1 < w32 (6 * (s 174 0))), ∀ (g3 : s 179 ((zdiv x1 6).toNat) < zrem x1 6), Q ([(0, 0)], s))
    (h3 : ∀ (g1 : 0 ≤ x1), ∀ (g2 : x1 < w32 (6 * (s 174 0))), ∀ (g3 : zrem x1 6 ≤ s 179 ((zdiv x1 6).toNat)), Q ([(1, 0)], s)) : zT (zE 1453) (Pt PX11_isPlace) n (0, [((172 : Nat) : Int), x1], [], s) Q := by
  refine tL x1 0 rfl rfl rfl ?_
  refine tI2 rfl (fun g1 _ l1 => zT_le ?_ (Nat.le_of_lt l1)) (fun g1 _ l1 => zT_le ?_ (Nat.le_of_lt l1))
  · refine tK rfl ?_
    exact tR rfl (h0 g1)
  · refine tL x1 0 rfl rfl rfl ?_
    refine tK rfl ?_
    refine tL ((172 : Nat) : Int) 0 rfl rfl rfl ?_
    refine tFR (c := 172) 174 rfl rfl rfl rfl rfl ?_
    refine tK rfl ?_
    refine tAv 174 0 (s 174 0) 0 rfl rfl rfl (by decide) rfl rfl ?_
    refine tM (v := w32 (6 * (s 174 0))) rfl rfl ?_
    refine tJ3 rfl (fun g2 _ l2 => zT_le ?_ (Nat.le_of_lt l2)) (fun g2 _ l2 => zT_le ?_ (Nat.le_of_lt l2))
    · refine tK rfl ?_
      exact tR rfl (h1 g1 g2)
    · refine tL x1 0 rfl rfl rfl ?_
      refine tK rfl ?_
      refine tB (v := zrem x1 6) rfl rfl ?_
      refine tL ((172 : Nat) : Int) 0 rfl rfl rfl ?_
      refine tFR (c := 172) 179 rfl rfl rfl rfl rfl ?_
      refine tL x1 0 rfl rfl rfl ?_
      refine tK rfl ?_
      refine tB (v := zdiv x1 6) rfl rfl ?_
      refine tAv 179 ((zdiv x1 6).toNat) (s 179 ((zdiv x1 6).toNat)) 0 rfl rfl rfl (by decide) rfl rfl ?_
      refine tJ4 rfl (fun g3 _ l3 => zT_le ?_ (Nat.le_of_lt l3)) (fun g3 _ l3 => zT_le ?_ (Nat.le_of_lt l3))
      · refine tK rfl ?_
        exact tR rfl (h2 g1 g2 g3)
      · refine tK rfl ?_
        refine tG rfl ?_
        exact tR rfl (h3 g1 g2 g3)

theorem c_X11_isPlace {n : Nat} {Q : Zr → Prop} {a0 a1 : Int} {s : Zs} (h : zT (zE 1453) (Pt PX11_isPlace) n (0, [a0, a1], [], s) Q) : zC n 1453 [(a0, 0), (a1, 0)] s Q := h

theorem b_X11_lowerOf_0 {n : Nat} {Q : Zr → Prop} (x1 : Int) (s : Zs) 
    (h0 : Q ([(w32 ((w32 (6 * (s 180 x1.toNat))) + (s 181 x1.toNat)), 0)], s)) : zT (zE 1471) (Pt PX11_lowerOf) n (0, [((172 : Nat) : Int), x1], [], s) Q := by
  refine tK rfl ?_
  refine tL ((172 : Nat) : Int) 0 rfl rfl rfl ?_
  refine tFR (c := 172) 180 rfl rfl rfl rfl rfl ?_
  refine tL x1 0 rfl rfl rfl ?_
  refine tAv 180 x1.toNat (s 180 x1.toNat) 0 rfl rfl rfl (by decide) rfl rfl ?_
  refine tM (v := w32 (6 * (s 180 x1.toNat))) rfl rfl ?_
  refine tL ((172 : Nat) : Int) 0 rfl rfl rfl ?_
  refine tFR (c := 172) 181 rfl rfl rfl rfl rfl ?_
  refine tL x1 0 rfl rfl rfl ?_
  refine tAv 181 x1.toNat (s 181 x1.toNat) 0 rfl rfl rfl (by decide) rfl rfl ?_
  refine tB (v := w32 ((w32 (6 * (s 180 x1.toNat))) + (s 181 x1.toNat))) rfl rfl ?_
  exact tR rfl (h0)

theorem c_X11_lowerOf {n : Nat} {Q : Zr → Prop} {a0 a1 : Int} {s : Zs} (h : zT (zE 1471) (Pt PX11_lowerOf) n (0, [a0, a1], [], s) Q) : zC n 1471 [(a0, 0), (a1, 0)] s Q := h

theorem b_X11_climbs_0 {n : Nat} {Q : Zr → Prop} (x1 x2 x3 x4 x5 x6 x7 : Int) (s : Zs) 
    (h0 : zT (zE 1424) (Pt PX11_climbs) n (6, [((172 : Nat) : Int), x1, x2, x3, 0, 0, x6, x7], [], s) Q) : zT (zE 1424) (Pt PX11_climbs) n (0, [((172 : Nat) : Int), x1, x2, x3, x4, x5, x6, x7], [], s) Q := by
  refine tK rfl ?_
  refine tS [((172 : Nat) : Int), x1, x2, x3, 0, x5, x6, x7] rfl rfl ?_
  refine tK rfl ?_
  refine tS [((172 : Nat) : Int), x1, x2, x3, 0, 0, x6, x7] rfl rfl ?_
  exact zT_le (h0) (Nat.le_refl n)

theorem b_X11_climbs_6 {n : Nat} {Q : Zr → Prop} (x1 x2 x3 x4 x5 x6 x7 : Int) (s : Zs) 
    (h0 : ∀ (g1 : s 174 1 ≤ x5), Q ([(x4, 0)], s))
    (h1 : ∀ (g1 : x5 < s 174 1), zT (zE 1424) (Pt PX11_climbs) n (23, [((172 : Nat) : Int), x1, x2, x3, x4, x5, x1, 0], [], s) Q) : zT (zE 1424) (Pt PX11_climbs) n (6, [((172 : Nat) : Int), x1, x2, x3, x4, x5, x6, x7], [], s) Q := by
  refine tL x5 0 rfl rfl rfl ?_
  refine tL ((172 : Nat) : Int) 0 rfl rfl rfl ?_
  refine tFR (c := 172) 174 rfl rfl rfl rfl rfl ?_
  refine tK rfl ?_
  refine tAv 174 1 (s 174 1) 0 rfl rfl rfl (by decide) rfl rfl ?_
  refine tJ3 rfl (fun g1 _ l1 => zT_le ?_ (Nat.le_of_lt l1)) (fun g1 _ l1 => zT_le ?_ (Nat.le_of_lt l1))
  · refine tL x4 0 rfl rfl rfl ?_
    exact tR rfl (h0 g1)
  · refine tL x1 0 rfl rfl rfl ?_
    refine tS [((172 : Nat) : Int), x1, x2, x3, x4, x5, x1, x7] rfl rfl ?_
    refine tK rfl ?_
    refine tS [((172 : Nat) : Int), x1, x2, x3, x4, x5, x1, 0] rfl rfl ?_
    exact zT_le (h1 g1) (Nat.le_refl n)

theorem b_X11_climbs_23 {n : Nat} {Q : Zr → Prop} (x1 x2 x3 x4 x5 x6 x7 : Int) (s : Zs) 
    (h0 : ∀ (g1 : s 174 2 ≤ x7), ∀ (g2 : zand (zshr x2 x5) 1 = 1), ∀ m, m < n → zT (zE 1424) (Pt PX11_climbs) m (6, [((172 : Nat) : Int), x1, x2, x3, zor x4 (zshl 1 x5), w32 (x5 + 1), x6, x7], [], s) Q)
    (h1 : ∀ (g1 : s 174 2 ≤ x7), ∀ (g2 : zand (zshr x2 x5) 1 ≠ 1), ∀ (g3 : x6 < s 182 x5.toNat), ∀ m, m < n → zT (zE 1424) (Pt PX11_climbs) m (6, [((172 : Nat) : Int), x1, x2, x3, zor x4 0, w32 (x5 + 1), x6, x7], [], s) Q)
    (h2 : ∀ (g1 : s 174 2 ≤ x7), ∀ (g2 : zand (zshr x2 x5) 1 ≠ 1), ∀ (g3 : s 182 x5.toNat ≤ x6), ∀ m, m < n → zT (zE 1424) (Pt PX11_climbs) m (6, [((172 : Nat) : Int), x1, x2, x3, zor x4 (zshl 1 x5), w32 (x5 + 1), x6, x7], [], s) Q)
    (h3 : ∀ (g1 : x7 < s 174 2), ∀ (g4 : x7 = x3), ∀ m, m < n → zT (zE 1424) (Pt PX11_climbs) m (23, [((172 : Nat) : Int), x1, x2, x3, x4, x5, w32 (x6 + 0), w32 (x7 + 1)], [], s) Q)
    (h4 : ∀ (g1 : x7 < s 174 2), ∀ (g4 : x7 ≠ x3), ∀ m, m < n → zC m 1471 [(((172 : Nat) : Int), 0), (x5, 0)] s (fun p => zT (zE 1424) (Pt PX11_climbs) m (58, [((172 : Nat) : Int), x1, x2, x3, x4, x5, x6, x7], p.1 ++ [(s 216 ((w32 (6 + x7)).toNat), 0), (x6, 0)], p.2) Q)) : zT (zE 1424) (Pt PX11_climbs) n (23, [((172 : Nat) : Int), x1, x2, x3, x4, x5, x6, x7], [], s) Q := by
  refine tL x7 0 rfl rfl rfl ?_
  refine tL ((172 : Nat) : Int) 0 rfl rfl rfl ?_
  refine tFR (c := 172) 174 rfl rfl rfl rfl rfl ?_
  refine tK rfl ?_
  refine tAv 174 2 (s 174 2) 0 rfl rfl rfl (by decide) rfl rfl ?_
  refine tJ3 rfl (fun g1 _ l1 => zT_le ?_ (Nat.le_of_lt l1)) (fun g1 _ l1 => zT_le ?_ (Nat.le_of_lt l1))
  · refine tL x4 0 rfl rfl rfl ?_
    refine tL x2 0 rfl rfl rfl ?_
    refine tL x5 0 rfl rfl rfl ?_
    refine tB (v := zshr x2 x5) rfl rfl ?_
    refine tK rfl ?_
    refine tB (v := zand (zshr x2 x5) 1) rfl rfl ?_
    refine tK rfl ?_
    refine tJ0 rfl (fun g2 _ l2 => zT_le ?_ (Nat.le_of_lt l2)) (fun g2 _ l2 => zT_le ?_ (Nat.le_of_lt l2))
    · refine tK rfl ?_
      refine tL x5 0 rfl rfl rfl ?_
      refine tB (v := zshl 1 x5) rfl rfl ?_
      refine tG rfl ?_
      refine tB (v := zor x4 (zshl 1 x5)) rfl rfl ?_
      refine tS [((172 : Nat) : Int), x1, x2, x3, zor x4 (zshl 1 x5), x5, x6, x7] rfl rfl ?_
      refine tInc [((172 : Nat) : Int), x1, x2, x3, zor x4 (zshl 1 x5), w32 (x5 + 1), x6, x7] rfl rfl ?_
      exact tGb rfl (fun m2 l2 => h0 g1 g2 m2 (Nat.lt_of_lt_of_le l2 (Nat.le_refl n)))
    · refine tL ((172 : Nat) : Int) 0 rfl rfl rfl ?_
      refine tFR (c := 172) 182 rfl rfl rfl rfl rfl ?_
      refine tL x5 0 rfl rfl rfl ?_
      refine tAv 182 x5.toNat (s 182 x5.toNat) 0 rfl rfl rfl (by decide) rfl rfl ?_
      refine tL x6 0 rfl rfl rfl ?_
      refine tJ4 rfl (fun g3 _ l3 => zT_le ?_ (Nat.le_of_lt l3)) (fun g3 _ l3 => zT_le ?_ (Nat.le_of_lt l3))
      · refine tK rfl ?_
        refine tB (v := zor x4 0) rfl rfl ?_
        refine tS [((172 : Nat) : Int), x1, x2, x3, zor x4 0, x5, x6, x7] rfl rfl ?_
        refine tInc [((172 : Nat) : Int), x1, x2, x3, zor x4 0, w32 (x5 + 1), x6, x7] rfl rfl ?_
        exact tGb rfl (fun m2 l2 => h1 g1 g2 g3 m2 (Nat.lt_of_lt_of_le l2 (Nat.le_refl n)))
      · refine tK rfl ?_
        refine tL x5 0 rfl rfl rfl ?_
        refine tB (v := zshl 1 x5) rfl rfl ?_
        refine tG rfl ?_
        refine tB (v := zor x4 (zshl 1 x5)) rfl rfl ?_
        refine tS [((172 : Nat) : Int), x1, x2, x3, zor x4 (zshl 1 x5), x5, x6, x7] rfl rfl ?_
        refine tInc [((172 : Nat) : Int), x1, x2, x3, zor x4 (zshl 1 x5), w32 (x5 + 1), x6, x7] rfl rfl ?_
        exact tGb rfl (fun m2 l2 => h2 g1 g2 g3 m2 (Nat.lt_of_lt_of_le l2 (Nat.le_refl n)))
  · refine tL x6 0 rfl rfl rfl ?_
    refine tL x7 0 rfl rfl rfl ?_
    refine tL x3 0 rfl rfl rfl ?_
    refine tJ0 rfl (fun g4 _ l4 => zT_le ?_ (Nat.le_of_lt l4)) (fun g4 _ l4 => zT_le ?_ (Nat.le_of_lt l4))
    · refine tK rfl ?_
      refine tB (v := w32 (x6 + 0)) rfl rfl ?_
      refine tS [((172 : Nat) : Int), x1, x2, x3, x4, x5, w32 (x6 + 0), x7] rfl rfl ?_
      refine tInc [((172 : Nat) : Int), x1, x2, x3, x4, x5, w32 (x6 + 0), w32 (x7 + 1)] rfl rfl ?_
      exact tGb rfl (fun m2 l2 => h3 g1 g4 m2 (Nat.lt_of_lt_of_le l2 (Nat.le_refl n)))
    · refine tL ((172 : Nat) : Int) 0 rfl rfl rfl ?_
      refine tFR (c := 172) 216 rfl rfl rfl rfl rfl ?_
      refine tK rfl ?_
      refine tL x7 0 rfl rfl rfl ?_
      refine tB (v := w32 (6 + x7)) rfl rfl ?_
      refine tAv 216 ((w32 (6 + x7)).toNat) (s 216 ((w32 (6 + x7)).toNat)) 0 rfl rfl rfl (by decide) rfl rfl ?_
      refine tL ((172 : Nat) : Int) 0 rfl rfl rfl ?_
      refine tL x5 0 rfl rfl rfl ?_
      exact tCall [(((172 : Nat) : Int), 0), (x5, 0)] [(s 216 ((w32 (6 + x7)).toNat), 0), (x6, 0)] rfl rfl rfl (fun m l => h4 g1 g4 m (Nat.lt_of_lt_of_le l (Nat.le_refl n)))

theorem b_X11_climbs_58 {n : Nat} {Q : Zr → Prop} (x1 x2 x3 x4 x5 x6 x7 v0 y0 y1 : Int) (s : Zs) 
    (h0 : ∀ (g1 : y0 ≠ v0), ∀ m, m < n → zT (zE 1424) (Pt PX11_climbs) m (23, [((172 : Nat) : Int), x1, x2, x3, x4, x5, w32 (y1 + 0), w32 (x7 + 1)], [], s) Q)
    (h1 : ∀ (g1 : y0 = v0), ∀ m, m < n → zT (zE 1424) (Pt PX11_climbs) m (23, [((172 : Nat) : Int), x1, x2, x3, x4, x5, w32 (y1 + (s 184 x7.toNat)), w32 (x7 + 1)], [], s) Q) : zT (zE 1424) (Pt PX11_climbs) n (58, [((172 : Nat) : Int), x1, x2, x3, x4, x5, x6, x7], [(v0, 0), (y0, 0), (y1, 0)], s) Q := by
  refine tJ1 rfl (fun g1 _ l1 => zT_le ?_ (Nat.le_of_lt l1)) (fun g1 _ l1 => zT_le ?_ (Nat.le_of_lt l1))
  · refine tK rfl ?_
    refine tB (v := w32 (y1 + 0)) rfl rfl ?_
    refine tS [((172 : Nat) : Int), x1, x2, x3, x4, x5, w32 (y1 + 0), x7] rfl rfl ?_
    refine tInc [((172 : Nat) : Int), x1, x2, x3, x4, x5, w32 (y1 + 0), w32 (x7 + 1)] rfl rfl ?_
    exact tGb rfl (fun m2 l2 => h0 g1 m2 (Nat.lt_of_lt_of_le l2 (Nat.le_refl n)))
  · refine tL ((172 : Nat) : Int) 0 rfl rfl rfl ?_
    refine tFR (c := 172) 184 rfl rfl rfl rfl rfl ?_
    refine tL x7 0 rfl rfl rfl ?_
    refine tAv 184 x7.toNat (s 184 x7.toNat) 0 rfl rfl rfl (by decide) rfl rfl ?_
    refine tG rfl ?_
    refine tB (v := w32 (y1 + (s 184 x7.toNat))) rfl rfl ?_
    refine tS [((172 : Nat) : Int), x1, x2, x3, x4, x5, w32 (y1 + (s 184 x7.toNat)), x7] rfl rfl ?_
    refine tInc [((172 : Nat) : Int), x1, x2, x3, x4, x5, w32 (y1 + (s 184 x7.toNat)), w32 (x7 + 1)] rfl rfl ?_
    exact tGb rfl (fun m2 l2 => h1 g1 m2 (Nat.lt_of_lt_of_le l2 (Nat.le_refl n)))

theorem c_X11_climbs {n : Nat} {Q : Zr → Prop} {a0 a1 a2 a3 : Int} {s : Zs} (h : zT (zE 1424) (Pt PX11_climbs) n (0, [a0, a1, a2, a3, 0, 0, 0, 0], [], s) Q) : zC n 1424 [(a0, 0), (a1, 0), (a2, 0), (a3, 0)] s Q := h

theorem b_X11_streets_0 {n : Nat} {Q : Zr → Prop} (x1 x2 : Int) (s : Zs) 
    (h0 : zT (zE 1515) (Pt PX11_streets) n (4, [((172 : Nat) : Int), 0, 0], [], s) Q) : zT (zE 1515) (Pt PX11_streets) n (0, [((172 : Nat) : Int), x1, x2], [], s) Q := by
  refine tK rfl ?_
  refine tS [((172 : Nat) : Int), 0, x2] rfl rfl ?_
  refine tK rfl ?_
  refine tS [((172 : Nat) : Int), 0, 0] rfl rfl ?_
  exact zT_le (h0) (Nat.le_refl n)

theorem b_X11_streets_4 {n : Nat} {Q : Zr → Prop} (x1 x2 : Int) (s : Zs) 
    (h0 : ∀ (g1 : s 174 0 ≤ x2), Q ([(x1, 0)], s))
    (h1 : ∀ (g1 : x2 < s 174 0), ∀ m, m < n → zT (zE 1515) (Pt PX11_streets) m (4, [((172 : Nat) : Int), zor x1 (zshl 1 (w32 (6 * x2))), w32 (x2 + 1)], [], s) Q) : zT (zE 1515) (Pt PX11_streets) n (4, [((172 : Nat) : Int), x1, x2], [], s) Q := by
  refine tL x2 0 rfl rfl rfl ?_
  refine tL ((172 : Nat) : Int) 0 rfl rfl rfl ?_
  refine tFR (c := 172) 174 rfl rfl rfl rfl rfl ?_
  refine tK rfl ?_
  refine tAv 174 0 (s 174 0) 0 rfl rfl rfl (by decide) rfl rfl ?_
  refine tJ3 rfl (fun g1 _ l1 => zT_le ?_ (Nat.le_of_lt l1)) (fun g1 _ l1 => zT_le ?_ (Nat.le_of_lt l1))
  · refine tL x1 0 rfl rfl rfl ?_
    exact tR rfl (h0 g1)
  · refine tL x1 0 rfl rfl rfl ?_
    refine tK rfl ?_
    refine tK rfl ?_
    refine tL x2 0 rfl rfl rfl ?_
    refine tM (v := w32 (6 * x2)) rfl rfl ?_
    refine tB (v := zshl 1 (w32 (6 * x2))) rfl rfl ?_
    refine tB (v := zor x1 (zshl 1 (w32 (6 * x2)))) rfl rfl ?_
    refine tS [((172 : Nat) : Int), zor x1 (zshl 1 (w32 (6 * x2))), x2] rfl rfl ?_
    refine tInc [((172 : Nat) : Int), zor x1 (zshl 1 (w32 (6 * x2))), w32 (x2 + 1)] rfl rfl ?_
    exact tGb rfl (fun m2 l2 => h1 g1 m2 (Nat.lt_of_lt_of_le l2 (Nat.le_refl n)))

theorem c_X11_streets {n : Nat} {Q : Zr → Prop} {a0 : Int} {s : Zs} (h : zT (zE 1515) (Pt PX11_streets) n (0, [a0, 0, 0], [], s) Q) : zC n 1515 [(a0, 0)] s Q := h

theorem b_X11_spreads_0 {n : Nat} {Q : Zr → Prop} (x1 x2 x3 x4 x5 x6 x7 : Int) (s : Zs) 
    (h0 : ∀ m, m < n → zC m 1515 [(((172 : Nat) : Int), 0)] s (fun p => zT (zE 1511) (Pt PX11_spreads) m (4, [((172 : Nat) : Int), x1, x2, x3, x4, x5, x6, x7], p.1 ++ [], p.2) Q)) : zT (zE 1511) (Pt PX11_spreads) n (0, [((172 : Nat) : Int), x1, x2, x3, x4, x5, x6, x7], [], s) Q := by
  refine tL ((172 : Nat) : Int) 0 rfl rfl rfl ?_
  exact tCall [(((172 : Nat) : Int), 0)] [] rfl rfl rfl (fun m l => h0 m (Nat.lt_of_lt_of_le l (Nat.le_refl n)))

theorem b_X11_spreads_13 {n : Nat} {Q : Zr → Prop} (x1 x2 x3 x4 x5 x6 x7 : Int) (s : Zs) 
    (h0 : ∀ (g1 : x4 = x5), Q ([(x4, 0)], s))
    (h1 : ∀ (g1 : x4 ≠ x5), ∀ (g2 : zand x4 x3 = 0), zT (zE 1511) (Pt PX11_spreads) n (40, [((172 : Nat) : Int), x1, x2, x3, x4, x4, 0, x7], [], s) Q)
    (h2 : ∀ (g1 : x4 ≠ x5), ∀ (g2 : zand x4 x3 ≠ 0), zT (zE 1511) (Pt PX11_spreads) n (40, [((172 : Nat) : Int), x1, x2, x3, zor x4 x3, x4, 0, x7], [], s) Q) : zT (zE 1511) (Pt PX11_spreads) n (13, [((172 : Nat) : Int), x1, x2, x3, x4, x5, x6, x7], [], s) Q := by
  refine tL x4 0 rfl rfl rfl ?_
  refine tL x5 0 rfl rfl rfl ?_
  refine tJ0 rfl (fun g1 _ l1 => zT_le ?_ (Nat.le_of_lt l1)) (fun g1 _ l1 => zT_le ?_ (Nat.le_of_lt l1))
  · refine tL x4 0 rfl rfl rfl ?_
    exact tR rfl (h0 g1)
  · refine tL x4 0 rfl rfl rfl ?_
    refine tS [((172 : Nat) : Int), x1, x2, x3, x4, x4, x6, x7] rfl rfl ?_
    refine tL x4 0 rfl rfl rfl ?_
    refine tL x3 0 rfl rfl rfl ?_
    refine tB (v := zand x4 x3) rfl rfl ?_
    refine tI0 rfl (fun g2 _ l2 => zT_le ?_ (Nat.le_of_lt l2)) (fun g2 _ l2 => zT_le ?_ (Nat.le_of_lt l2))
    · refine tK rfl ?_
      refine tS [((172 : Nat) : Int), x1, x2, x3, x4, x4, 0, x7] rfl rfl ?_
      exact zT_le (h1 g1 g2) (Nat.le_refl n)
    · refine tL x4 0 rfl rfl rfl ?_
      refine tL x3 0 rfl rfl rfl ?_
      refine tB (v := zor x4 x3) rfl rfl ?_
      refine tS [((172 : Nat) : Int), x1, x2, x3, zor x4 x3, x4, x6, x7] rfl rfl ?_
      refine tK rfl ?_
      refine tS [((172 : Nat) : Int), x1, x2, x3, zor x4 x3, x4, 0, x7] rfl rfl ?_
      exact zT_le (h2 g1 g2) (Nat.le_refl n)

theorem b_X11_spreads_40 {n : Nat} {Q : Zr → Prop} (x1 x2 x3 x4 x5 x6 x7 : Int) (s : Zs) 
    (h0 : ∀ (g1 : s 174 1 ≤ x6), ∀ m, m < n → zT (zE 1511) (Pt PX11_spreads) m (13, [((172 : Nat) : Int), x1, x2, x3, x4, x5, x6, x7], [], s) Q)
    (h1 : ∀ (g1 : x6 < s 174 1), ∀ m, m < n → zC m 1471 [(((172 : Nat) : Int), 0), (x6, 0)] s (fun p => zT (zE 1511) (Pt PX11_spreads) m (58, [((172 : Nat) : Int), x1, x2, x3, x4, x5, x6, x7], p.1 ++ [(3, 0)], p.2) Q)) : zT (zE 1511) (Pt PX11_spreads) n (40, [((172 : Nat) : Int), x1, x2, x3, x4, x5, x6, x7], [], s) Q := by
  refine tL x6 0 rfl rfl rfl ?_
  refine tL ((172 : Nat) : Int) 0 rfl rfl rfl ?_
  refine tFR (c := 172) 174 rfl rfl rfl rfl rfl ?_
  refine tK rfl ?_
  refine tAv 174 1 (s 174 1) 0 rfl rfl rfl (by decide) rfl rfl ?_
  refine tJ3 rfl (fun g1 _ l1 => zT_le ?_ (Nat.le_of_lt l1)) (fun g1 _ l1 => zT_le ?_ (Nat.le_of_lt l1))
  · exact tGb rfl (fun m2 l2 => h0 g1 m2 (Nat.lt_of_lt_of_le l2 (Nat.le_refl n)))
  · refine tK rfl ?_
    refine tL ((172 : Nat) : Int) 0 rfl rfl rfl ?_
    refine tL x6 0 rfl rfl rfl ?_
    exact tCall [(((172 : Nat) : Int), 0), (x6, 0)] [(3, 0)] rfl rfl rfl (fun m l => h1 g1 m (Nat.lt_of_lt_of_le l (Nat.le_refl n)))

theorem b_X11_spreads_4 {n : Nat} {Q : Zr → Prop} (x1 x2 x3 x4 x5 x6 x7 v0 : Int) (s : Zs) 
    (h0 : zT (zE 1511) (Pt PX11_spreads) n (13, [((172 : Nat) : Int), x1, x2, v0, zshl 1 x1, 0, x6, x7], [], s) Q) : zT (zE 1511) (Pt PX11_spreads) n (4, [((172 : Nat) : Int), x1, x2, x3, x4, x5, x6, x7], [(v0, 0)], s) Q := by
  refine tS [((172 : Nat) : Int), x1, x2, v0, x4, x5, x6, x7] rfl rfl ?_
  refine tK rfl ?_
  refine tL x1 0 rfl rfl rfl ?_
  refine tB (v := zshl 1 x1) rfl rfl ?_
  refine tS [((172 : Nat) : Int), x1, x2, v0, zshl 1 x1, x5, x6, x7] rfl rfl ?_
  refine tK rfl ?_
  refine tS [((172 : Nat) : Int), x1, x2, v0, zshl 1 x1, 0, x6, x7] rfl rfl ?_
  exact zT_le (h0) (Nat.le_refl n)

theorem b_X11_spreads_58 {n : Nat} {Q : Zr → Prop} (x1 x2 x3 x4 x5 x6 x7 v0 : Int) (s : Zs) 
    (h0 : ∀ (g1 : zand (zshr x2 x6) 1 ≠ 1), ∀ m, m < n → zT (zE 1511) (Pt PX11_spreads) m (40, [((172 : Nat) : Int), x1, x2, x3, x4, x5, w32 (x6 + 1), zshl 3 v0], [], s) Q)
    (h1 : ∀ (g1 : zand (zshr x2 x6) 1 = 1), ∀ (g2 : zand x4 (zshl 3 v0) = 0), ∀ m, m < n → zT (zE 1511) (Pt PX11_spreads) m (40, [((172 : Nat) : Int), x1, x2, x3, x4, x5, w32 (x6 + 1), zshl 3 v0], [], s) Q)
    (h2 : ∀ (g1 : zand (zshr x2 x6) 1 = 1), ∀ (g2 : zand x4 (zshl 3 v0) ≠ 0), ∀ m, m < n → zT (zE 1511) (Pt PX11_spreads) m (40, [((172 : Nat) : Int), x1, x2, x3, zor x4 (zshl 3 v0), x5, w32 (x6 + 1), zshl 3 v0], [], s) Q) : zT (zE 1511) (Pt PX11_spreads) n (58, [((172 : Nat) : Int), x1, x2, x3, x4, x5, x6, x7], [(v0, 0), (3, 0)], s) Q := by
  refine tB (v := zshl 3 v0) rfl rfl ?_
  refine tS [((172 : Nat) : Int), x1, x2, x3, x4, x5, x6, zshl 3 v0] rfl rfl ?_
  refine tL x2 0 rfl rfl rfl ?_
  refine tL x6 0 rfl rfl rfl ?_
  refine tB (v := zshr x2 x6) rfl rfl ?_
  refine tK rfl ?_
  refine tB (v := zand (zshr x2 x6) 1) rfl rfl ?_
  refine tK rfl ?_
  refine tJ1 rfl (fun g1 _ l1 => zT_le ?_ (Nat.le_of_lt l1)) (fun g1 _ l1 => zT_le ?_ (Nat.le_of_lt l1))
  · refine tInc [((172 : Nat) : Int), x1, x2, x3, x4, x5, w32 (x6 + 1), zshl 3 v0] rfl rfl ?_
    exact tGb rfl (fun m2 l2 => h0 g1 m2 (Nat.lt_of_lt_of_le l2 (Nat.le_refl n)))
  · refine tL x4 0 rfl rfl rfl ?_
    refine tL (zshl 3 v0) 0 rfl rfl rfl ?_
    refine tB (v := zand x4 (zshl 3 v0)) rfl rfl ?_
    refine tI0 rfl (fun g2 _ l2 => zT_le ?_ (Nat.le_of_lt l2)) (fun g2 _ l2 => zT_le ?_ (Nat.le_of_lt l2))
    · refine tInc [((172 : Nat) : Int), x1, x2, x3, x4, x5, w32 (x6 + 1), zshl 3 v0] rfl rfl ?_
      exact tGb rfl (fun m2 l2 => h1 g1 g2 m2 (Nat.lt_of_lt_of_le l2 (Nat.le_refl n)))
    · refine tL x4 0 rfl rfl rfl ?_
      refine tL (zshl 3 v0) 0 rfl rfl rfl ?_
      refine tB (v := zor x4 (zshl 3 v0)) rfl rfl ?_
      refine tS [((172 : Nat) : Int), x1, x2, x3, zor x4 (zshl 3 v0), x5, x6, zshl 3 v0] rfl rfl ?_
      refine tInc [((172 : Nat) : Int), x1, x2, x3, zor x4 (zshl 3 v0), x5, w32 (x6 + 1), zshl 3 v0] rfl rfl ?_
      exact tGb rfl (fun m2 l2 => h2 g1 g2 m2 (Nat.lt_of_lt_of_le l2 (Nat.le_refl n)))

theorem c_X11_spreads {n : Nat} {Q : Zr → Prop} {a0 a1 a2 : Int} {s : Zs} (h : zT (zE 1511) (Pt PX11_spreads) n (0, [a0, a1, a2, 0, 0, 0, 0, 0], [], s) Q) : zC n 1511 [(a0, 0), (a1, 0), (a2, 0)] s Q := h

theorem b_X11_reachOf_0 {n : Nat} {Q : Zr → Prop} (x1 : Int) (s : Zs) 
    (h0 : ∀ m, m < n → zC m 1424 [(((172 : Nat) : Int), 0), (s 187 x1.toNat, 0), (s 216 0, 0), ((-1), 0)] s (fun p => zT (zE 1495) (Pt PX11_reachOf) m (26, [((172 : Nat) : Int), x1], p.1 ++ [(s 216 ((w32 (1 + x1)).toNat), 0), (((172 : Nat) : Int), 0)], p.2) Q)) : zT (zE 1495) (Pt PX11_reachOf) n (0, [((172 : Nat) : Int), x1], [], s) Q := by
  refine tL ((172 : Nat) : Int) 0 rfl rfl rfl ?_
  refine tL ((172 : Nat) : Int) 0 rfl rfl rfl ?_
  refine tFR (c := 172) 216 rfl rfl rfl rfl rfl ?_
  refine tK rfl ?_
  refine tL x1 0 rfl rfl rfl ?_
  refine tB (v := w32 (1 + x1)) rfl rfl ?_
  refine tAv 216 ((w32 (1 + x1)).toNat) (s 216 ((w32 (1 + x1)).toNat)) 0 rfl rfl rfl (by decide) rfl rfl ?_
  refine tL ((172 : Nat) : Int) 0 rfl rfl rfl ?_
  refine tL ((172 : Nat) : Int) 0 rfl rfl rfl ?_
  refine tFR (c := 172) 187 rfl rfl rfl rfl rfl ?_
  refine tL x1 0 rfl rfl rfl ?_
  refine tAv 187 x1.toNat (s 187 x1.toNat) 0 rfl rfl rfl (by decide) rfl rfl ?_
  refine tL ((172 : Nat) : Int) 0 rfl rfl rfl ?_
  refine tFR (c := 172) 216 rfl rfl rfl rfl rfl ?_
  refine tK rfl ?_
  refine tAv 216 0 (s 216 0) 0 rfl rfl rfl (by decide) rfl rfl ?_
  refine tK rfl ?_
  exact tCall [(((172 : Nat) : Int), 0), (s 187 x1.toNat, 0), (s 216 0, 0), ((-1), 0)] [(s 216 ((w32 (1 + x1)).toNat), 0), (((172 : Nat) : Int), 0)] rfl rfl rfl (fun m l => h0 m (Nat.lt_of_lt_of_le l (Nat.le_refl n)))

theorem b_X11_reachOf_26 {n : Nat} {Q : Zr → Prop} (x1 v0 y0 : Int) (s : Zs) 
    (h0 : ∀ m, m < n → zC m 1511 [(((172 : Nat) : Int), 0), (y0, 0), (v0, 0)] s (fun p => zT (zE 1495) (Pt PX11_reachOf) m (29, [((172 : Nat) : Int), x1], p.1 ++ [], p.2) Q)) : zT (zE 1495) (Pt PX11_reachOf) n (26, [((172 : Nat) : Int), x1], [(v0, 0), (y0, 0), (((172 : Nat) : Int), 0)], s) Q := by
  exact tCall [(((172 : Nat) : Int), 0), (y0, 0), (v0, 0)] [] rfl rfl rfl (fun m l => h0 m (Nat.lt_of_lt_of_le l (Nat.le_refl n)))

theorem b_X11_reachOf_29 {n : Nat} {Q : Zr → Prop} (x1 v0 : Int) (s : Zs) 
    (h0 : Q ([(v0, 0)], s)) : zT (zE 1495) (Pt PX11_reachOf) n (29, [((172 : Nat) : Int), x1], [(v0, 0)], s) Q := by
  exact tR rfl (h0)

theorem c_X11_reachOf {n : Nat} {Q : Zr → Prop} {a0 a1 : Int} {s : Zs} (h : zT (zE 1495) (Pt PX11_reachOf) n (0, [a0, a1], [], s) Q) : zC n 1495 [(a0, 0), (a1, 0)] s Q := h

theorem b_X11_above_0 {n : Nat} {Q : Zr → Prop} (x1 x2 x3 : Int) (s : Zs) 
    (h0 : zT (zE 1408) (Pt PX11_above) n (4, [((172 : Nat) : Int), x1, 0, 0], [], s) Q) : zT (zE 1408) (Pt PX11_above) n (0, [((172 : Nat) : Int), x1, x2, x3], [], s) Q := by
  refine tK rfl ?_
  refine tS [((172 : Nat) : Int), x1, 0, x3] rfl rfl ?_
  refine tK rfl ?_
  refine tS [((172 : Nat) : Int), x1, 0, 0] rfl rfl ?_
  exact zT_le (h0) (Nat.le_refl n)

theorem b_X11_above_4 {n : Nat} {Q : Zr → Prop} (x1 x2 x3 : Int) (s : Zs) 
    (h0 : ∀ (g1 : s 174 1 ≤ x3), Q ([(x2, 0)], s))
    (h1 : ∀ (g1 : x3 < s 174 1), ∀ (g2 : s 180 x3.toNat ≠ s 180 x1.toNat), ∀ m, m < n → zT (zE 1408) (Pt PX11_above) m (4, [((172 : Nat) : Int), x1, zor x2 0, w32 (x3 + 1)], [], s) Q)
    (h2 : ∀ (g1 : x3 < s 174 1), ∀ (g2 : s 180 x3.toNat = s 180 x1.toNat), ∀ (g3 : s 181 x3.toNat ≤ s 181 x1.toNat), ∀ m, m < n → zT (zE 1408) (Pt PX11_above) m (4, [((172 : Nat) : Int), x1, zor x2 0, w32 (x3 + 1)], [], s) Q)
    (h3 : ∀ (g1 : x3 < s 174 1), ∀ (g2 : s 180 x3.toNat = s 180 x1.toNat), ∀ (g3 : s 181 x1.toNat < s 181 x3.toNat), ∀ m, m < n → zT (zE 1408) (Pt PX11_above) m (4, [((172 : Nat) : Int), x1, zor x2 (zshl 1 x3), w32 (x3 + 1)], [], s) Q) : zT (zE 1408) (Pt PX11_above) n (4, [((172 : Nat) : Int), x1, x2, x3], [], s) Q := by
  refine tL x3 0 rfl rfl rfl ?_
  refine tL ((172 : Nat) : Int) 0 rfl rfl rfl ?_
  refine tFR (c := 172) 174 rfl rfl rfl rfl rfl ?_
  refine tK rfl ?_
  refine tAv 174 1 (s 174 1) 0 rfl rfl rfl (by decide) rfl rfl ?_
  refine tJ3 rfl (fun g1 _ l1 => zT_le ?_ (Nat.le_of_lt l1)) (fun g1 _ l1 => zT_le ?_ (Nat.le_of_lt l1))
  · refine tL x2 0 rfl rfl rfl ?_
    exact tR rfl (h0 g1)
  · refine tL x2 0 rfl rfl rfl ?_
    refine tL ((172 : Nat) : Int) 0 rfl rfl rfl ?_
    refine tFR (c := 172) 180 rfl rfl rfl rfl rfl ?_
    refine tL x3 0 rfl rfl rfl ?_
    refine tAv 180 x3.toNat (s 180 x3.toNat) 0 rfl rfl rfl (by decide) rfl rfl ?_
    refine tL ((172 : Nat) : Int) 0 rfl rfl rfl ?_
    refine tFR (c := 172) 180 rfl rfl rfl rfl rfl ?_
    refine tL x1 0 rfl rfl rfl ?_
    refine tAv 180 x1.toNat (s 180 x1.toNat) 0 rfl rfl rfl (by decide) rfl rfl ?_
    refine tJ1 rfl (fun g2 _ l2 => zT_le ?_ (Nat.le_of_lt l2)) (fun g2 _ l2 => zT_le ?_ (Nat.le_of_lt l2))
    · refine tK rfl ?_
      refine tB (v := zor x2 0) rfl rfl ?_
      refine tS [((172 : Nat) : Int), x1, zor x2 0, x3] rfl rfl ?_
      refine tInc [((172 : Nat) : Int), x1, zor x2 0, w32 (x3 + 1)] rfl rfl ?_
      exact tGb rfl (fun m2 l2 => h1 g1 g2 m2 (Nat.lt_of_lt_of_le l2 (Nat.le_refl n)))
    · refine tL ((172 : Nat) : Int) 0 rfl rfl rfl ?_
      refine tFR (c := 172) 181 rfl rfl rfl rfl rfl ?_
      refine tL x3 0 rfl rfl rfl ?_
      refine tAv 181 x3.toNat (s 181 x3.toNat) 0 rfl rfl rfl (by decide) rfl rfl ?_
      refine tL ((172 : Nat) : Int) 0 rfl rfl rfl ?_
      refine tFR (c := 172) 181 rfl rfl rfl rfl rfl ?_
      refine tL x1 0 rfl rfl rfl ?_
      refine tAv 181 x1.toNat (s 181 x1.toNat) 0 rfl rfl rfl (by decide) rfl rfl ?_
      refine tJ5 rfl (fun g3 _ l3 => zT_le ?_ (Nat.le_of_lt l3)) (fun g3 _ l3 => zT_le ?_ (Nat.le_of_lt l3))
      · refine tK rfl ?_
        refine tB (v := zor x2 0) rfl rfl ?_
        refine tS [((172 : Nat) : Int), x1, zor x2 0, x3] rfl rfl ?_
        refine tInc [((172 : Nat) : Int), x1, zor x2 0, w32 (x3 + 1)] rfl rfl ?_
        exact tGb rfl (fun m2 l2 => h2 g1 g2 g3 m2 (Nat.lt_of_lt_of_le l2 (Nat.le_refl n)))
      · refine tK rfl ?_
        refine tL x3 0 rfl rfl rfl ?_
        refine tB (v := zshl 1 x3) rfl rfl ?_
        refine tG rfl ?_
        refine tB (v := zor x2 (zshl 1 x3)) rfl rfl ?_
        refine tS [((172 : Nat) : Int), x1, zor x2 (zshl 1 x3), x3] rfl rfl ?_
        refine tInc [((172 : Nat) : Int), x1, zor x2 (zshl 1 x3), w32 (x3 + 1)] rfl rfl ?_
        exact tGb rfl (fun m2 l2 => h3 g1 g2 g3 m2 (Nat.lt_of_lt_of_le l2 (Nat.le_refl n)))

theorem c_X11_above {n : Nat} {Q : Zr → Prop} {a0 a1 : Int} {s : Zs} (h : zT (zE 1408) (Pt PX11_above) n (0, [a0, a1, 0, 0], [], s) Q) : zC n 1408 [(a0, 0), (a1, 0)] s Q := h

theorem b_X11_canSteal_0 {n : Nat} {Q : Zr → Prop} (x1 : Int) (s : Zs) 
    (h0 : ∀ (g1 : zand (zshr (s 216 0) x1) 1 ≠ 1), Q ([(0, 0)], s))
    (h1 : ∀ (g1 : zand (zshr (s 216 0) x1) 1 = 1), ∀ m, m < n → zC m 1408 [(((172 : Nat) : Int), 0), (x1, 0)] s (fun p => zT (zE 1421) (Pt PX11_canSteal) m (19, [((172 : Nat) : Int), x1], p.1 ++ [], p.2) Q)) : zT (zE 1421) (Pt PX11_canSteal) n (0, [((172 : Nat) : Int), x1], [], s) Q := by
  refine tL ((172 : Nat) : Int) 0 rfl rfl rfl ?_
  refine tFR (c := 172) 216 rfl rfl rfl rfl rfl ?_
  refine tK rfl ?_
  refine tAv 216 0 (s 216 0) 0 rfl rfl rfl (by decide) rfl rfl ?_
  refine tL x1 0 rfl rfl rfl ?_
  refine tB (v := zshr (s 216 0) x1) rfl rfl ?_
  refine tK rfl ?_
  refine tB (v := zand (zshr (s 216 0) x1) 1) rfl rfl ?_
  refine tK rfl ?_
  refine tJ1 rfl (fun g1 _ l1 => zT_le ?_ (Nat.le_of_lt l1)) (fun g1 _ l1 => zT_le ?_ (Nat.le_of_lt l1))
  · refine tK rfl ?_
    exact tR rfl (h0 g1)
  · refine tL ((172 : Nat) : Int) 0 rfl rfl rfl ?_
    refine tL x1 0 rfl rfl rfl ?_
    exact tCall [(((172 : Nat) : Int), 0), (x1, 0)] [] rfl rfl rfl (fun m l => h1 g1 m (Nat.lt_of_lt_of_le l (Nat.le_refl n)))

theorem b_X11_canSteal_19 {n : Nat} {Q : Zr → Prop} (x1 v0 : Int) (s : Zs) 
    (h0 : ∀ (g1 : zand v0 (s 216 0) ≠ 0), Q ([(0, 0)], s))
    (h1 : ∀ (g1 : zand v0 (s 216 0) = 0), Q ([(1, 0)], s)) : zT (zE 1421) (Pt PX11_canSteal) n (19, [((172 : Nat) : Int), x1], [(v0, 0)], s) Q := by
  refine tL ((172 : Nat) : Int) 0 rfl rfl rfl ?_
  refine tFR (c := 172) 216 rfl rfl rfl rfl rfl ?_
  refine tK rfl ?_
  refine tAv 216 0 (s 216 0) 0 rfl rfl rfl (by decide) rfl rfl ?_
  refine tB (v := zand v0 (s 216 0)) rfl rfl ?_
  refine tI1 rfl (fun g1 _ l1 => zT_le ?_ (Nat.le_of_lt l1)) (fun g1 _ l1 => zT_le ?_ (Nat.le_of_lt l1))
  · refine tK rfl ?_
    exact tR rfl (h0 g1)
  · refine tK rfl ?_
    refine tG rfl ?_
    exact tR rfl (h1 g1)

theorem c_X11_canSteal {n : Nat} {Q : Zr → Prop} {a0 a1 : Int} {s : Zs} (h : zT (zE 1421) (Pt PX11_canSteal) n (0, [a0, a1], [], s) Q) : zC n 1421 [(a0, 0), (a1, 0)] s Q := h

theorem b_X11_isPerson_0 {n : Nat} {Q : Zr → Prop} (x1 : Int) (s : Zs) 
    (h0 : ∀ (g1 : x1 < 0), Q ([(0, 0)], s))
    (h1 : ∀ (g1 : 0 ≤ x1), ∀ (g2 : s 174 3 ≤ x1), Q ([(0, 0)], s))
    (h2 : ∀ (g1 : 0 ≤ x1), ∀ (g2 : x1 < s 174 3), Q ([(1, 0)], s)) : zT (zE 1452) (Pt PX11_isPerson) n (0, [((172 : Nat) : Int), x1], [], s) Q := by
  refine tL x1 0 rfl rfl rfl ?_
  refine tI2 rfl (fun g1 _ l1 => zT_le ?_ (Nat.le_of_lt l1)) (fun g1 _ l1 => zT_le ?_ (Nat.le_of_lt l1))
  · refine tK rfl ?_
    exact tR rfl (h0 g1)
  · refine tL x1 0 rfl rfl rfl ?_
    refine tL ((172 : Nat) : Int) 0 rfl rfl rfl ?_
    refine tFR (c := 172) 174 rfl rfl rfl rfl rfl ?_
    refine tK rfl ?_
    refine tAv 174 3 (s 174 3) 0 rfl rfl rfl (by decide) rfl rfl ?_
    refine tJ3 rfl (fun g2 _ l2 => zT_le ?_ (Nat.le_of_lt l2)) (fun g2 _ l2 => zT_le ?_ (Nat.le_of_lt l2))
    · refine tK rfl ?_
      exact tR rfl (h1 g1 g2)
    · refine tK rfl ?_
      refine tG rfl ?_
      exact tR rfl (h2 g1 g2)

theorem c_X11_isPerson {n : Nat} {Q : Zr → Prop} {a0 a1 : Int} {s : Zs} (h : zT (zE 1452) (Pt PX11_isPerson) n (0, [a0, a1], [], s) Q) : zC n 1452 [(a0, 0), (a1, 0)] s Q := h

theorem b_X11_isThing_0 {n : Nat} {Q : Zr → Prop} (x1 : Int) (s : Zs) 
    (h0 : ∀ (g1 : x1 < 0), Q ([(0, 0)], s))
    (h1 : ∀ (g1 : 0 ≤ x1), ∀ (g2 : s 174 2 ≤ x1), Q ([(0, 0)], s))
    (h2 : ∀ (g1 : 0 ≤ x1), ∀ (g2 : x1 < s 174 2), Q ([(1, 0)], s)) : zT (zE 1456) (Pt PX11_isThing) n (0, [((172 : Nat) : Int), x1], [], s) Q := by
  refine tL x1 0 rfl rfl rfl ?_
  refine tI2 rfl (fun g1 _ l1 => zT_le ?_ (Nat.le_of_lt l1)) (fun g1 _ l1 => zT_le ?_ (Nat.le_of_lt l1))
  · refine tK rfl ?_
    exact tR rfl (h0 g1)
  · refine tL x1 0 rfl rfl rfl ?_
    refine tL ((172 : Nat) : Int) 0 rfl rfl rfl ?_
    refine tFR (c := 172) 174 rfl rfl rfl rfl rfl ?_
    refine tK rfl ?_
    refine tAv 174 2 (s 174 2) 0 rfl rfl rfl (by decide) rfl rfl ?_
    refine tJ3 rfl (fun g2 _ l2 => zT_le ?_ (Nat.le_of_lt l2)) (fun g2 _ l2 => zT_le ?_ (Nat.le_of_lt l2))
    · refine tK rfl ?_
      exact tR rfl (h1 g1 g2)
    · refine tK rfl ?_
      refine tG rfl ?_
      exact tR rfl (h2 g1 g2)

theorem c_X11_isThing {n : Nat} {Q : Zr → Prop} {a0 a1 : Int} {s : Zs} (h : zT (zE 1456) (Pt PX11_isThing) n (0, [a0, a1], [], s) Q) : zC n 1456 [(a0, 0), (a1, 0)] s Q := h

theorem b_X11_isFlight_0 {n : Nat} {Q : Zr → Prop} (x1 : Int) (s : Zs) 
    (h0 : ∀ (g1 : x1 < 0), Q ([(0, 0)], s))
    (h1 : ∀ (g1 : 0 ≤ x1), ∀ (g2 : s 174 1 ≤ x1), Q ([(0, 0)], s))
    (h2 : ∀ (g1 : 0 ≤ x1), ∀ (g2 : x1 < s 174 1), Q ([(1, 0)], s)) : zT (zE 1447) (Pt PX11_isFlight) n (0, [((172 : Nat) : Int), x1], [], s) Q := by
  refine tL x1 0 rfl rfl rfl ?_
  refine tI2 rfl (fun g1 _ l1 => zT_le ?_ (Nat.le_of_lt l1)) (fun g1 _ l1 => zT_le ?_ (Nat.le_of_lt l1))
  · refine tK rfl ?_
    exact tR rfl (h0 g1)
  · refine tL x1 0 rfl rfl rfl ?_
    refine tL ((172 : Nat) : Int) 0 rfl rfl rfl ?_
    refine tFR (c := 172) 174 rfl rfl rfl rfl rfl ?_
    refine tK rfl ?_
    refine tAv 174 1 (s 174 1) 0 rfl rfl rfl (by decide) rfl rfl ?_
    refine tJ3 rfl (fun g2 _ l2 => zT_le ?_ (Nat.le_of_lt l2)) (fun g2 _ l2 => zT_le ?_ (Nat.le_of_lt l2))
    · refine tK rfl ?_
      exact tR rfl (h1 g1 g2)
    · refine tK rfl ?_
      refine tG rfl ?_
      exact tR rfl (h2 g1 g2)

theorem c_X11_isFlight {n : Nat} {Q : Zr → Prop} {a0 a1 : Int} {s : Zs} (h : zT (zE 1447) (Pt PX11_isFlight) n (0, [a0, a1], [], s) Q) : zC n 1447 [(a0, 0), (a1, 0)] s Q := h

/-- how it stands, as the model keeps it -/
def mSt (s : Zs) (c o : Nat) (D : ZD) (S : ZS) : Prop := s c o = (sTh S : Int) ∧ (∀ p, p < cnt D 3 → s c (o + 1 + p) = sPe S p) ∧ (∀ i, i < cnt D 2 → s c (o + 6 + i) = sTg S i) ∧ s c (o + 10) = sHp S ∧ s c (o + 11) = sNi S
theorem and_zero {a b : Nat} : a &&& b = 0 ↔ ∀ q, b.testBit q = true → ¬ a.testBit q = true := by
  constructor
  · intro h q hb ha
    have := Nat.testBit_and a b q
    rw [h, Nat.zero_testBit, ha, hb] at this
    cases this
  · intro h
    apply Nat.eq_of_testBit_eq
    intro q
    rw [Nat.testBit_and, Nat.zero_testBit]
    cases hb : b.testBit q with
    | false => simp
    | true =>
      cases ha : a.testBit q with
      | false => rfl
      | true => exact absurd ha (h q hb)
theorem zshl_3 : ∀ k : Nat, k < 29 → zshl 3 (k : Int) = ((2 ^ k ||| 2 ^ (k + 1) : Nat) : Int) := by decide +kernel
theorem both_tb {k q : Nat} : (2 ^ k ||| 2 ^ (k + 1)).testBit q = true ↔ q = k ∨ q = k + 1 := by
  rw [Nat.testBit_or, Nat.testBit_two_pow, Nat.testBit_two_pow, Bool.or_eq_true, decide_eq_true_eq, decide_eq_true_eq]
  omega
theorem both_lt {k : Nat} (hk : k < 29) : 2 ^ k ||| 2 ^ (k + 1) < 1073741824 := by
  have h30 : 2 ^ 30 = 1073741824 := by decide
  rw [← h30]
  exact Nat.or_lt_two_pow (Nat.pow_lt_pow_right (by decide) (by omega)) (Nat.pow_lt_pow_right (by decide) (by omega))
/-- the street -/
def strS (D : ZD) : Nat := bset (fun q => decide (q % 6 = 0)) (6 * cnt D 0)
theorem strS_tb {D : ZD} {q : Nat} : (strS D).testBit q = true ↔ q % 6 = 0 ∧ q / 6 < cnt D 0 := by
  unfold strS
  rw [bset_tb, Bool.and_eq_true, decide_eq_true_eq, decide_eq_true_eq]
  omega
section Zmw
variable {N : Nat} {s : Zs} {D : ZD} {S : ZS}
theorem mcol (hm : mT s D) (hw : wD D) {k j i : Nat} (h1 : 1 ≤ k) (h2 : k < 5) (h3 : j < wdt k) (h4 : j < wd2 k) (hi : i < cnt D k) : s (mcc k + j) i = colD D (10 * k + j) i := hm.2.2 k j i _ h2 h4 (col_at hw h1 h2 h3 hi)
theorem isPlace_m (hm : mT s D) (hw : wD D) {x : Int} (hx : x < 2147483648) : zC N 1453 [(((172 : Nat) : Int), 0), (x, 0)] s (fun r => r = ([(if dcP (plI D x) = true then 1 else 0, 0)], s)) := by
  have c5 : cnt D 0 ≤ 5 := hw.1 0 (by omega)
  have hc : s 174 0 = ((cnt D 0 : Nat) : Int) := hm.1 0 (by omega)
  have hl : (dC D 0).length = cnt D 0 := hw.2.2.2.1
  have hcl : cnt D 0 = (dN D 0).length := rfl
  have yes : plI D x → ([((1 : Int), 0)], s) = (([(if dcP (plI D x) = true then 1 else 0, 0)], s) : Zr) := fun q => by rw [if_pos (dcP_yes q)]
  have no : ¬ plI D x → ([((0 : Int), 0)], s) = (([(if dcP (plI D x) = true then 1 else 0, 0)], s) : Zr) := fun q => by rw [if_neg (by rw [dcP_no q]; decide)]
  have fl : 0 ≤ x → x / 6 < cnt D 0 → s 179 (x / 6).toNat = flr D (x / 6) := fun h0 h1 => by
    have hlt : (x / 6).toNat < (dC D 0).length := by omega
    have e : s 179 (x / 6).toNat = _ := hm.2.2 0 0 _ _ (by omega) (by decide) (List.getElem?_eq_getElem hlt)
    rw [e]
    unfold flr
    rw [if_pos ⟨by omega, by omega⟩, List.getElem?_eq_getElem hlt]
    rfl
  refine c_X11_isPlace (b_X11_isPlace_0 _ s (fun g => no (fun q => by have := q.1; omega)) (fun g g2 => ?_) (fun g g2 g3 => ?_) (fun g g2 g3 => ?_))
  all_goals rw [hc, w32_id (z := 6 * ((cnt D 0 : Nat) : Int)) (by omega) (by omega)] at g2
  · refine no (fun q => ?_)
    have q2 := q.2
    have := flr_in (D := D) (a := x / 6) (by omega)
    omega
  all_goals
    have e1 : zdiv x 6 = x / 6 := zdiv_pos g hx (by decide) (by decide)
    have e2 : zrem x 6 = x % 6 := zrem_pos g hx (by decide) (by decide)
    rw [e1, e2, fl g (by omega)] at g3
  · exact no (fun q => by have := q.2; omega)
  · exact yes ⟨g, g3⟩
theorem lowerOf_m (hm : mT s D) (hw : wD D) {f : Nat} (hf : f < cnt D 1) : zC N 1471 [(((172 : Nat) : Int), 0), ((f : Int), 0)] s (fun r => r = ([(((lowN D f : Nat) : Int), 0)], s)) := by
  have h10 : cnt D 1 ≤ 10 := hw.1 1 (by omega)
  have c0 : cnt D 0 ≤ 5 := hw.1 0 (by omega)
  have bd := fl_bd hw hf
  have r0 : s 180 f = colD D 10 f := mcol hm hw (k := 1) (j := 0) (by omega) (by omega) (by decide) (by decide) hf
  have r1 : s 181 f = colD D 11 f := mcol hm hw (k := 1) (j := 1) (by omega) (by omega) (by decide) (by decide) hf
  refine c_X11_lowerOf (b_X11_lowerOf_0 _ s ?_)
  rw [Int.toNat_natCast, r0, r1, w32_id (z := 6 * colD D 10 f) (by omega) (by omega), w32_id (by omega) (by omega)]
  have e : 6 * colD D 10 f + colD D 11 f = ((lowN D f : Nat) : Int) := by unfold lowN; omega
  rw [e]
theorem low_28 (hw : wD D) {f : Nat} (hf : f < cnt D 1) : lowN D f < 29 := by
  have c0 : cnt D 0 ≤ 5 := hw.1 0 (by omega)
  have bd := fl_bd hw hf
  unfold lowN
  omega
/-- what is open for a set of flights that is there -/
def opT (D : ZD) (S : ZS) (th p : Nat) (w : Int) : Nat := bset (fun f => th.testBit f || cliB D S p w f) (cnt D 1)
theorem opT_opn (hw : wD D) {p : Nat} {w : Int} (h : sTh S < 2 ^ cnt D 1) : opT D S (sTh S) p w = opn D S p w := by
  apply Nat.eq_of_testBit_eq
  intro i
  unfold opT opn cli
  rw [bset_tb, Nat.testBit_or, bset_tb]
  by_cases l : i < cnt D 1
  · rw [decide_eq_true l, Bool.true_and, Bool.true_and]
  · rw [decide_eq_false l, Bool.false_and, Bool.false_and, Bool.or_false]
    exact (Nat.testBit_lt_two_pow (Nat.lt_of_lt_of_le h (Nat.pow_le_pow_right (by decide) (by omega)))).symm
theorem climbs_m (hm : mT s D) (hw : wD D) (hX : wX D) (hS : ∀ i, i < cnt D 2 → s 216 (6 + i) = sTg S i) {p th : Nat} (hp : p < cnt D 3) (hth : th < 1024) {w : Int} : zC N 1424 [(((172 : Nat) : Int), 0), (colD D 31 p, 0), ((th : Int), 0), (w, 0)] s (fun r => r = ([(((opT D S th p w : Nat) : Int), 0)], s)) := by
  have h10 : cnt D 1 ≤ 10 := hw.1 1 (by omega)
  have h4 : cnt D 2 ≤ 4 := hw.1 2 (by omega)
  have hc1 : s 174 1 = ((cnt D 1 : Nat) : Int) := hm.1 1 (by omega)
  have hc2 : s 174 2 = ((cnt D 2 : Nat) : Int) := hm.1 2 (by omega)
  have cr := hX.2.2.2.2.2.2.1 _ (col_mem' hw (k := 3) (j := 1) (by omega) (by omega) (by decide) hp)
  have cr : 0 ≤ colD D 31 p ∧ colD D 31 p ≤ 40 := cr
  have loop : ∀ (M k : Nat) (x6 x7 : Int), k ≤ cnt D 1 → zT (zE 1424) (Pt PX11_climbs) M (6, [((172 : Nat) : Int), colD D 31 p, (th : Int), w, ((bset (fun f => th.testBit f || cliB D S p w f) k : Nat) : Int), (k : Int), x6, x7], [], s) (fun r => r = ([(((opT D S th p w : Nat) : Int), 0)], s)) := by
    intro M
    induction M using Nat.strongRecOn with
    | ind M ih =>
      intro k x6 x7 hk
      refine b_X11_climbs_6 _ _ _ _ _ _ _ s (fun g => ?_) (fun g => ?_)
      · have : k = cnt D 1 := by omega
        subst this
        rfl
      have hk2 : k < cnt D 1 := by omega
      have ri : s 182 (k : Int).toNat = colD D 12 k := by rw [Int.toNat_natCast]; exact mcol hm hw (k := 1) (j := 2) (by omega) (by omega) (by decide) (by decide) hk2
      have inner : ∀ (M2 i : Nat), M2 ≤ M → i ≤ cnt D 2 → zT (zE 1424) (Pt PX11_climbs) M2 (23, [((172 : Nat) : Int), colD D 31 p, (th : Int), w, ((bset (fun f => th.testBit f || cliB D S p w f) k : Nat) : Int), (k : Int), colD D 31 p + lfS D S w ((lowN D k : Nat) : Int) i, (i : Int)], [], s) (fun r => r = ([(((opT D S th p w : Nat) : Int), 0)], s)) := by
        intro M2
        induction M2 using Nat.strongRecOn with
        | ind M2 ih2 =>
          intro i hM2 hi
          have bl := lfS_bd (S := S) (w := w) (pl := ((lowN D k : Nat) : Int)) hw hX i hi
          have un : lfS D S w ((lowN D k : Nat) : Int) (i + 1) = lfS D S w ((lowN D k : Nat) : Int) i + (if sTg S i = ((lowN D k : Nat) : Int) ∧ (i : Int) ≠ w then colD D 20 i else 0) := rfl
          have nx : ∀ (m : Nat) (v : Int), m < M2 → i < cnt D 2 → v = colD D 31 p + lfS D S w ((lowN D k : Nat) : Int) (i + 1) → zT (zE 1424) (Pt PX11_climbs) m (23, [((172 : Nat) : Int), colD D 31 p, (th : Int), w, ((bset (fun f => th.testBit f || cliB D S p w f) k : Nat) : Int), (k : Int), v, w32 ((i : Int) + 1)], [], s) (fun r => r = ([(((opT D S th p w : Nat) : Int), 0)], s)) := fun m v hm' hi2 hv => by
            rw [hv, w32_id (by omega) (by omega), show (i : Int) + 1 = ((i + 1 : Nat) : Int) from by omega]
            exact ih2 m hm' (i + 1) (by omega) (by omega)
          have out : ∀ (m : Nat) (v : Int) (x6' x7' : Int), m < M2 → v = ((bset (fun f => th.testBit f || cliB D S p w f) (k + 1) : Nat) : Int) → zT (zE 1424) (Pt PX11_climbs) m (6, [((172 : Nat) : Int), colD D 31 p, (th : Int), w, v, w32 ((k : Int) + 1), x6', x7'], [], s) (fun r => r = ([(((opT D S th p w : Nat) : Int), 0)], s)) := fun m v x6' x7' hm' hv => by
            rw [hv, w32_id (by omega) (by omega), show (k : Int) + 1 = ((k + 1 : Nat) : Int) from by omega]
            exact ih m (by omega) (k + 1) _ _ (by omega)
          refine b_X11_climbs_23 _ _ _ _ _ _ _ s (fun g1 g2 m hm' => ?_) (fun g1 g2 g3 m hm' => ?_) (fun g1 g2 g3 m hm' => ?_) (fun g1 g4 m hm' => ?_) (fun g1 g4 m hm' => ?_)
          · have tb := (zbit1 (x := th) (k := k) (by omega) (by omega)).mp g2
            exact out m _ _ _ hm' (bset_zor (by rw [tb]; rfl) (by omega))
          · have hi2 : i = cnt D 2 := by omega
            have tb : th.testBit k = false := by
              cases q : th.testBit k with
              | false => rfl
              | true => exact absurd ((zbit1 (x := th) (k := k) (by omega) (by omega)).mpr q) g2
            rw [ri, hi2] at g3
            refine out m _ _ _ hm' ?_
            rw [bset_no (by rw [tb]; unfold cliB; rw [decide_eq_false (by omega)]; rfl)]
            have b2 := bset_lt (fun f => th.testBit f || cliB D S p w f) k
            have b3 : 2 ^ k ≤ 2 ^ 10 := Nat.pow_le_pow_right (by decide) (by omega)
            have b4 : 2 ^ 10 = 1024 := by decide
            exact (zor_nat (y := 0) (by omega) (by omega)).trans (by rw [Nat.or_zero])
          · have hi2 : i = cnt D 2 := by omega
            rw [ri, hi2] at g3
            exact out m _ _ _ hm' (bset_zor (by unfold cliB; rw [decide_eq_true g3, Bool.or_true]) (by omega))
          · refine nx m _ hm' (by omega) ?_
            rw [un, if_neg (fun q => q.2 g4), Int.add_zero, Int.add_zero]
            exact w32_id (by omega) (by omega)
          · have hi2 : i < cnt D 2 := by omega
            refine zC_q (lowerOf_m hm hw hk2) (fun r hr => ?_)
            subst hr
            have c := hX.2.2.2.1 _ (col_mem' hw (k := 2) (j := 0) (by omega) (by omega) (by decide) hi2)
            have c : 1 ≤ colD D 20 i ∧ colD D 20 i ≤ 40 := c
            have wid : w32 (colD D 31 p + lfS D S w ((lowN D k : Nat) : Int) i) = colD D 31 p + lfS D S w ((lowN D k : Nat) : Int) i := by
              clear un nx out ih ih2
              exact w32_id (by omega) (by omega)
            have wid2 : w32 (colD D 31 p + lfS D S w ((lowN D k : Nat) : Int) i + colD D 20 i) = colD D 31 p + (lfS D S w ((lowN D k : Nat) : Int) i + colD D 20 i) := by
              clear un nx out ih ih2
              rw [← Int.add_assoc]
              exact w32_id (by omega) (by omega)
            have e6 : (w32 (6 + (i : Int))).toNat = 6 + i := by rw [w32_id (by omega) (by omega)]; omega
            refine b_X11_climbs_58 _ _ _ _ _ _ _ _ _ _ s (fun g5 m2 hm2 => ?_) (fun g5 m2 hm2 => ?_)
            · rw [e6, hS i hi2] at g5
              refine nx m2 _ (by omega) hi2 ?_
              rw [un, if_neg (fun q => g5 q.1), Int.add_zero, Int.add_zero]
              exact wid
            · rw [e6, hS i hi2] at g5
              have rl : s 184 (i : Int).toNat = colD D 20 i := by rw [Int.toNat_natCast]; exact mcol hm hw (k := 2) (j := 0) (by omega) (by omega) (by decide) (by decide) hi2
              refine nx m2 _ (by omega) hi2 ?_
              rw [un, if_pos ⟨g5, g4⟩, rl]
              exact wid2
      have := inner M 0 (Nat.le_refl _) (by omega)
      rw [show lfS D S w ((lowN D k : Nat) : Int) 0 = 0 from rfl, Int.add_zero] at this
      exact this
  exact c_X11_climbs (b_X11_climbs_0 _ _ _ _ _ _ _ s (loop N 0 _ _ (by omega)))
theorem streets_m (hm : mT s D) (hw : wD D) : zC N 1515 [(((172 : Nat) : Int), 0)] s (fun r => r = ([(((strS D : Nat) : Int), 0)], s)) := by
  have c5 : cnt D 0 ≤ 5 := hw.1 0 (by omega)
  have hc : s 174 0 = ((cnt D 0 : Nat) : Int) := hm.1 0 (by omega)
  have loop : ∀ (M k : Nat), k ≤ cnt D 0 → zT (zE 1515) (Pt PX11_streets) M (4, [((172 : Nat) : Int), ((bset (fun q => decide (q % 6 = 0)) (6 * k) : Nat) : Int), (k : Int)], [], s) (fun r => r = ([(((strS D : Nat) : Int), 0)], s)) := by
    intro M
    induction M using Nat.strongRecOn with
    | ind M ih =>
      intro k hk
      refine b_X11_streets_4 _ _ s (fun g => ?_) (fun g m hm' => ?_)
      · have : k = cnt D 0 := by omega
        subst this
        rfl
      have e1 : zor ((bset (fun q => decide (q % 6 = 0)) (6 * k) : Nat) : Int) (zshl 1 (w32 (6 * (k : Int)))) = ((bset (fun q => decide (q % 6 = 0)) (6 * (k + 1)) : Nat) : Int) := by
        rw [w32_id (by omega) (by omega), show 6 * (k : Int) = ((6 * k : Nat) : Int) from by omega, bset_zor (decide_eq_true (by omega)) (by omega)]
        rw [show 6 * (k + 1) = 6 * k + 1 + 1 + 1 + 1 + 1 + 1 by omega, bset_no (p := fun q => decide (q % 6 = 0)) (k := 6 * k + 1 + 1 + 1 + 1 + 1) (decide_eq_false (by omega)), bset_no (p := fun q => decide (q % 6 = 0)) (k := 6 * k + 1 + 1 + 1 + 1) (decide_eq_false (by omega)), bset_no (p := fun q => decide (q % 6 = 0)) (k := 6 * k + 1 + 1 + 1) (decide_eq_false (by omega)), bset_no (p := fun q => decide (q % 6 = 0)) (k := 6 * k + 1 + 1) (decide_eq_false (by omega)), bset_no (p := fun q => decide (q % 6 = 0)) (k := 6 * k + 1) (decide_eq_false (by omega))]
      rw [e1, w32_id (by omega) (by omega), show (k : Int) + 1 = ((k + 1 : Nat) : Int) from by omega]
      exact ih m hm' (k + 1) (by omega)
  exact c_X11_streets (b_X11_streets_0 _ _ s (loop N 0 (by omega)))
/-- what is spread to -/
theorem spreads_m (hm : mT s D) (hw : wD D) (hF : wF D) (hX : wX D) {o a : Nat} (ho : o < 1024) (ha : isPN D a) : zC N 1511 [(((172 : Nat) : Int), 0), ((a : Int), 0), ((o : Int), 0)] s (fun r => ∃ X : Nat, r = ([((X : Int), 0)], s) ∧ X < 1073741824 ∧ ∀ q, X.testBit q = true ↔ wok D o a q) := by
  have c5 : cnt D 0 ≤ 5 := hw.1 0 (by omega)
  have h10 : cnt D 1 ≤ 10 := hw.1 1 (by omega)
  have hc1 : s 174 1 = ((cnt D 1 : Nat) : Int) := hm.1 1 (by omega)
  have hcl := wok_clo (o := o) (a := a) hw hF hX
  have ba := pl_h hw ha
  have lt30 : ∀ X : Nat, (∀ q, X.testBit q = true → wok D o a q) → X < 1073741824 := fun X h => by
    have e : (2 : Nat) ^ 30 = 1073741824 := by decide
    rw [← e]
    refine Nat.lt_pow_two_of_testBit X (fun i hi => ?_)
    cases q : X.testBit i with
    | false => rfl
    | true => have := (pl_h hw (h i q).2.1).2; omega
  have slt : strS D < 1073741824 := by
    have e : (2 : Nat) ^ 30 = 1073741824 := by decide
    rw [← e]
    exact Nat.lt_of_lt_of_le (bset_lt _ _) (Nat.pow_le_pow_right (by decide) (by omega))
  have loop : ∀ (M X W : Nat) (x6 x7 : Int), X.testBit a = true → (∀ q, X.testBit q = true → wok D o a q) → (X = W → clo D o (fun q => X.testBit q = true)) → zT (zE 1511) (Pt PX11_spreads) M (13, [((172 : Nat) : Int), (a : Int), (o : Int), ((strS D : Nat) : Int), (X : Int), (W : Int), x6, x7], [], s) (fun r => ∃ X : Nat, r = ([((X : Int), 0)], s) ∧ X < 1073741824 ∧ ∀ q, X.testBit q = true ↔ wok D o a q) := by
    intro M
    induction M using Nat.strongRecOn with
    | ind M ih =>
      intro X W x6 x7 hXa hXs hXc
      have inner : ∀ (M2 k Y : Nat) (x7' : Int), M2 ≤ M → k ≤ cnt D 1 → Y.testBit a = true → (∀ q, Y.testBit q = true → wok D o a q) → (∀ q, X.testBit q = true → Y.testBit q = true) → (Y = X → (∀ f, f < k → o.testBit f = true → (Y.testBit (lowN D f) = true ∨ Y.testBit (lowN D f + 1) = true) → Y.testBit (lowN D f) = true ∧ Y.testBit (lowN D f + 1) = true) ∧ ∀ h h' : Nat, h < cnt D 0 → h' < cnt D 0 → Y.testBit (h * 6) = true → Y.testBit (h' * 6) = true) → zT (zE 1511) (Pt PX11_spreads) M2 (40, [((172 : Nat) : Int), (a : Int), (o : Int), ((strS D : Nat) : Int), (Y : Int), (X : Int), (k : Int), x7'], [], s) (fun r => ∃ X : Nat, r = ([((X : Int), 0)], s) ∧ X < 1073741824 ∧ ∀ q, X.testBit q = true ↔ wok D o a q) := by
        intro M2
        induction M2 using Nat.strongRecOn with
        | ind M2 ih2 =>
          intro k Y x7' hM2 hk hYa hYs hXY hYc
          have yl := lt30 Y hYs
          refine b_X11_spreads_40 _ _ _ _ _ _ _ s (fun g m hm' => ?_) (fun g m hm' => ?_)
          · have : k = cnt D 1 := by omega
            subst this
            exact ih m (by omega) Y X _ _ hYa hYs (fun e => hYc e)
          have hk2 : k < cnt D 1 := by omega
          have l28 := low_28 hw hk2
          have bl := both_lt l28
          refine zC_q (lowerOf_m hm hw hk2) (fun r hr => ?_)
          subst hr
          have nx : ∀ (m2 Z : Nat) (x7'' : Int), m2 < m → Z.testBit a = true → (∀ q, Z.testBit q = true → wok D o a q) → (∀ q, Y.testBit q = true → Z.testBit q = true) → (o.testBit k = true → (Z.testBit (lowN D k) = true ∨ Z.testBit (lowN D k + 1) = true) → Z.testBit (lowN D k) = true ∧ Z.testBit (lowN D k + 1) = true) → zT (zE 1511) (Pt PX11_spreads) m2 (40, [((172 : Nat) : Int), (a : Int), (o : Int), ((strS D : Nat) : Int), (Z : Int), (X : Int), w32 ((k : Int) + 1), x7''], [], s) (fun r => ∃ X : Nat, r = ([((X : Int), 0)], s) ∧ X < 1073741824 ∧ ∀ q, X.testBit q = true ↔ wok D o a q) := fun m2 Z x7'' hm2 hZa hZs hYZ hZk => by
            rw [w32_id (by omega) (by omega), show (k : Int) + 1 = ((k + 1 : Nat) : Int) from by omega]
            refine ih2 m2 (by omega) (k + 1) Z _ (by omega) (by omega) hZa hZs (fun q h => hYZ q (hXY q h)) (fun e => ?_)
            have eYX : Y = X := by
              apply Nat.eq_of_testBit_eq
              intro q
              have a1 := hXY q
              have a2 := hYZ q
              rw [e] at a2
              cases u : X.testBit q with
              | true => exact a1 u
              | false =>
                cases v : Y.testBit q with
                | false => rfl
                | true => rw [a2 v] at u; cases u
            have eZY : Z = Y := e.trans eYX.symm
            have c := hYc eYX
            refine ⟨fun f hf h1 h2 => ?_, fun h h' a1 a2 a3 => ?_⟩
            · by_cases q : f = k
              · subst q
                exact hZk h1 h2
              · rw [eZY] at h2 ⊢
                exact c.1 f (by omega) h1 h2
            · rw [eZY] at a3 ⊢
              exact c.2 h h' a1 a2 a3
          refine b_X11_spreads_58 _ _ _ _ _ _ _ _ s (fun g1 m2 hm2 => ?_) (fun g1 g2 m2 hm2 => ?_) (fun g1 g2 m2 hm2 => ?_)
          · exact nx m2 Y _ hm2 hYa hYs (fun _ h => h) (fun h => absurd ((zbit1 (by omega) (by omega)).mpr h) g1)
          · rw [zshl_3 _ l28, zand_nat (by omega) (by omega)] at g2
            have z := and_zero.mp (show Y &&& (2 ^ lowN D k ||| 2 ^ (lowN D k + 1)) = 0 by omega)
            refine nx m2 Y _ hm2 hYa hYs (fun _ h => h) (fun _ h => ?_)
            rcases h with h | h
            · exact absurd h (z _ (both_tb.mpr (Or.inl rfl)))
            · exact absurd h (z _ (both_tb.mpr (Or.inr rfl)))
          · have ok := (zbit1 (by omega) (by omega)).mp g1
            rw [zshl_3 _ l28] at g2 ⊢
            rw [zand_nat (by omega) (by omega)] at g2
            rw [zor_nat (by omega) (by omega)]
            have some1 : wok D o a (lowN D k) ∨ wok D o a (lowN D k + 1) := by
              apply Classical.byContradiction
              intro no
              apply g2
              rw [and_zero.mpr (fun q hq hY => ?_)]
              · rfl
              rcases both_tb.mp hq with rfl | rfl
              · exact no (Or.inl (hYs _ hY))
              · exact no (Or.inr (hYs _ hY))
            have w2 := hcl.1 k hk2 ok some1
            have tb : ∀ q, (Y ||| (2 ^ lowN D k ||| 2 ^ (lowN D k + 1))).testBit q = true ↔ Y.testBit q = true ∨ q = lowN D k ∨ q = lowN D k + 1 := fun q => by rw [Nat.testBit_or, Bool.or_eq_true, both_tb]
            refine nx m2 _ _ hm2 ((tb _).mpr (Or.inl hYa)) (fun q h => ?_) (fun q h => (tb q).mpr (Or.inl h)) (fun _ _ => ⟨(tb _).mpr (Or.inr (Or.inl rfl)), (tb _).mpr (Or.inr (Or.inr rfl))⟩)
            rcases (tb q).mp h with h | rfl | rfl
            · exact hYs q h
            · exact w2.1
            · exact w2.2
      have xl := lt30 X hXs
      refine b_X11_spreads_13 _ _ _ _ _ _ _ s (fun g => ?_) (fun g g2 => ?_) (fun g g2 => ?_)
      · exact ⟨X, rfl, xl, fun q => rch_iff hw (hXc (by omega)) hXa hXs q⟩
      · rw [zand_nat (by omega) (by omega)] at g2
        have z := and_zero.mp (show X &&& strS D = 0 by omega)
        refine inner M 0 X _ (Nat.le_refl _) (by omega) hXa hXs (fun _ h => h) (fun _ => ⟨fun f hf => absurd hf (Nat.not_lt_zero f), fun h h' h1 h2 h3 => absurd h3 (z _ (strS_tb.mpr ⟨by omega, by omega⟩))⟩)
      · rw [zand_nat (by omega) (by omega)] at g2
        rw [zor_nat (by omega) (by omega)]
        have tb : ∀ q, (X ||| strS D).testBit q = true ↔ X.testBit q = true ∨ (q % 6 = 0 ∧ q / 6 < cnt D 0) := fun q => by rw [Nat.testBit_or, Bool.or_eq_true, strS_tb]
        have ex : ∃ h, h < cnt D 0 ∧ wok D o a (h * 6) := by
          apply Classical.byContradiction
          intro no
          apply g2
          rw [and_zero.mpr (fun q hq hY => ?_)]
          · rfl
          have := strS_tb.mp hq
          exact no ⟨q / 6, this.2, by rw [show q / 6 * 6 = q by omega]; exact hXs q hY⟩
        obtain ⟨h0, h01, h02⟩ := ex
        refine inner M 0 _ _ (Nat.le_refl _) (by omega) ((tb _).mpr (Or.inl hXa)) (fun q h => ?_) (fun q h => (tb q).mpr (Or.inl h)) (fun _ => ⟨fun f hf => absurd hf (Nat.not_lt_zero f), fun h h' h1 h2 h3 => (tb _).mpr (Or.inr ⟨by omega, by omega⟩)⟩)
        rcases (tb q).mp h with h | h
        · exact hXs q h
        · have := hcl.2 h0 (q / 6) h01 h.2 h02
          rwa [show q / 6 * 6 = q by omega] at this
  refine c_X11_spreads (b_X11_spreads_0 _ _ _ _ _ _ _ s (fun m _ => ?_))
  refine zC_q (streets_m hm hw) (fun r hr => ?_)
  subst hr
  refine b_X11_spreads_4 _ _ _ _ _ _ _ _ s ?_
  rw [zshl_1 a (by omega)]
  refine loop m (2 ^ a) 0 _ _ (by rw [Nat.testBit_two_pow]; exact decide_eq_true rfl) (fun q h => ?_) (fun h => ?_)
  · rw [Nat.testBit_two_pow] at h
    have h : a = q := of_decide_eq_true h
    subst h
    exact wok_self ha
  · have := Nat.two_pow_pos a
    omega
end Zmw
