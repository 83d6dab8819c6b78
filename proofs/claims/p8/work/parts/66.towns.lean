/-! town, of both -/
theorem b_X6_begin_0 {n : Nat} {Q : Zr → Prop} {t : Nat} (x2 : Int) (s : Zs) (ht : t = 7 ∨ t = 43)
    (h0 : ∀ m, m < n → zC m 1026 [(((t : Nat) : Int), 0)] s (fun p => zT (zE 768) (Pt PX6_begin) m (5, [((79 : Nat) : Int), ((t : Nat) : Int), x2], p.1 ++ [(((79 : Nat) : Int), 0)], p.2) Q)) : zT (zE 768) (Pt PX6_begin) n (0, [((79 : Nat) : Int), ((t : Nat) : Int), x2], [], s) Q := by
  refine tL ((79 : Nat) : Int) 0 rfl rfl rfl ?_
  refine tL ((t : Nat) : Int) 0 rfl rfl rfl ?_
  exact tCall [(((t : Nat) : Int), 0)] [(((79 : Nat) : Int), 0)] rfl rfl rfl (fun m l => h0 m (Nat.lt_of_lt_of_le l (Nat.le_refl n)))

theorem b_X6_begin_10 {n : Nat} {Q : Zr → Prop} {t : Nat} (x2 : Int) (s : Zs) (ht : t = 7 ∨ t = 43)
    (h0 : ∀ (g1 : 5 ≤ x2), zT (zE 768) (Pt PX6_begin) n (41, [((79 : Nat) : Int), ((t : Nat) : Int), 0], [], s) Q)
    (h1 : ∀ (g1 : x2 < 5), ∀ m, m < n → zT (zE 768) (Pt PX6_begin) m (10, [((79 : Nat) : Int), ((t : Nat) : Int), w32 (x2 + 1)], [], zu s 80 x2.toNat (s (zrho (t + 23) x2.toNat) 0)) Q) : zT (zE 768) (Pt PX6_begin) n (10, [((79 : Nat) : Int), ((t : Nat) : Int), x2], [], s) Q := by
  refine tL x2 0 rfl rfl rfl ?_
  refine tL ((79 : Nat) : Int) 0 rfl rfl rfl ?_
  refine tFR (c := 79) 80 rfl rfl rfl rfl rfl ?_
  refine tN 5 rfl rfl ?_
  refine tJ3 rfl (fun g1 _ l1 => zT_le ?_ (Nat.le_of_lt l1)) (fun g1 _ l1 => zT_le ?_ (Nat.le_of_lt l1))
  · refine tK rfl ?_
    refine tS [((79 : Nat) : Int), ((t : Nat) : Int), 0] rfl rfl ?_
    exact zT_le (h0 g1) (Nat.le_refl n)
  · refine tL ((79 : Nat) : Int) 0 rfl rfl rfl ?_
    refine tFR (c := 79) 80 rfl rfl rfl rfl rfl ?_
    refine tL x2 0 rfl rfl rfl ?_
    refine tL ((t : Nat) : Int) 0 rfl rfl rfl ?_
    refine tFR (c := t) (t + 23) rfl rfl rfl rfl (zt8_3 ht) ?_
    refine tL x2 0 rfl rfl rfl ?_
    refine tAR (zrho (t + 23) x2.toNat) rfl rfl ?_
    refine tK rfl ?_
    refine tAv (zrho (t + 23) x2.toNat) 0 (s (zrho (t + 23) x2.toNat) 0) 0 rfl rfl rfl (by decide) rfl rfl ?_
    refine tAS 80 x2.toNat rfl rfl rfl (by decide) ?_
    refine tInc [((79 : Nat) : Int), ((t : Nat) : Int), w32 (x2 + 1)] rfl rfl ?_
    exact tGb rfl (fun m2 l2 => h1 g1 m2 (Nat.lt_of_lt_of_le l2 (Nat.le_refl n)))

theorem b_X6_begin_41 {n : Nat} {Q : Zr → Prop} {t : Nat} (x2 : Int) (s : Zs) (ht : t = 7 ∨ t = 43)
    (h0 : ∀ (g1 : 4 ≤ x2), Q ([], zu (zu (zu s 79 3 (s t 5)) 79 4 0) 79 5 0))
    (h1 : ∀ (g1 : x2 < 4), ∀ m, m < n → zT (zE 768) (Pt PX6_begin) m (41, [((79 : Nat) : Int), ((t : Nat) : Int), w32 (x2 + 1)], [], zu s 81 x2.toNat (s (zrho (t + 17) x2.toNat) 1)) Q) : zT (zE 768) (Pt PX6_begin) n (41, [((79 : Nat) : Int), ((t : Nat) : Int), x2], [], s) Q := by
  refine tL x2 0 rfl rfl rfl ?_
  refine tL ((79 : Nat) : Int) 0 rfl rfl rfl ?_
  refine tFR (c := 79) 81 rfl rfl rfl rfl rfl ?_
  refine tN 4 rfl rfl ?_
  refine tJ3 rfl (fun g1 _ l1 => zT_le ?_ (Nat.le_of_lt l1)) (fun g1 _ l1 => zT_le ?_ (Nat.le_of_lt l1))
  · refine tL ((79 : Nat) : Int) 0 rfl rfl rfl ?_
    refine tL ((t : Nat) : Int) 0 rfl rfl rfl ?_
    refine tFv (c := t) (s t 5) 0 rfl rfl rfl rfl rfl ?_
    refine tPut 79 rfl rfl ?_
    refine tL ((79 : Nat) : Int) 0 rfl rfl rfl ?_
    refine tK rfl ?_
    refine tPut 79 rfl rfl ?_
    refine tL ((79 : Nat) : Int) 0 rfl rfl rfl ?_
    refine tK rfl ?_
    refine tPut 79 rfl rfl ?_
    exact tR rfl (h0 g1)
  · refine tL ((79 : Nat) : Int) 0 rfl rfl rfl ?_
    refine tFR (c := 79) 81 rfl rfl rfl rfl rfl ?_
    refine tL x2 0 rfl rfl rfl ?_
    refine tL ((t : Nat) : Int) 0 rfl rfl rfl ?_
    refine tFR (c := t) (t + 17) rfl rfl rfl rfl (zt8_2 ht) ?_
    refine tL x2 0 rfl rfl rfl ?_
    refine tAR (zrho (t + 17) x2.toNat) rfl rfl ?_
    refine tK rfl ?_
    refine tAv (zrho (t + 17) x2.toNat) 1 (s (zrho (t + 17) x2.toNat) 1) 0 rfl rfl rfl (by decide) rfl rfl ?_
    refine tAS 81 x2.toNat rfl rfl rfl (by decide) ?_
    refine tInc [((79 : Nat) : Int), ((t : Nat) : Int), w32 (x2 + 1)] rfl rfl ?_
    exact tGb rfl (fun m2 l2 => h1 g1 m2 (Nat.lt_of_lt_of_le l2 (Nat.le_refl n)))

theorem b_X6_begin_5 {n : Nat} {Q : Zr → Prop} {t : Nat} (x2 v0 : Int) (s : Zs) (ht : t = 7 ∨ t = 43)
    (h0 : zT (zE 768) (Pt PX6_begin) n (10, [((79 : Nat) : Int), ((t : Nat) : Int), 0], [], zu s 79 0 v0) Q) : zT (zE 768) (Pt PX6_begin) n (5, [((79 : Nat) : Int), ((t : Nat) : Int), x2], [(v0, 0), (((79 : Nat) : Int), 0)], s) Q := by
  refine tPut 79 rfl rfl ?_
  refine tK rfl ?_
  refine tS [((79 : Nat) : Int), ((t : Nat) : Int), 0] rfl rfl ?_
  exact zT_le (h0) (Nat.le_refl n)

theorem c_X6_begin {n : Nat} {Q : Zr → Prop} {a0 a1 : Int} {s : Zs} (h : zT (zE 768) (Pt PX6_begin) n (0, [a0, a1, 0], [], s) Q) : zC n 768 [(a0, 0), (a1, 0)] s Q := h

theorem b_X5_clear_0 {n : Nat} {Q : Zr → Prop} (s : Zs) 
    (h0 : Q ([], zu (zu (zu s 85 1 0) 85 2 0) 85 4 0)) : zT (zE 641) (Pt PX5_clear) n (0, [((85 : Nat) : Int)], [], s) Q := by
  refine tL ((85 : Nat) : Int) 0 rfl rfl rfl ?_
  refine tK rfl ?_
  refine tPut 85 rfl rfl ?_
  refine tL ((85 : Nat) : Int) 0 rfl rfl rfl ?_
  refine tK rfl ?_
  refine tPut 85 rfl rfl ?_
  refine tL ((85 : Nat) : Int) 0 rfl rfl rfl ?_
  refine tK rfl ?_
  refine tPut 85 rfl rfl ?_
  exact tR rfl (h0)

theorem c_X5_clear {n : Nat} {Q : Zr → Prop} {a0 : Int} {s : Zs} (h : zT (zE 641) (Pt PX5_clear) n (0, [a0], [], s) Q) : zC n 641 [(a0, 0)] s Q := h

theorem b_X1_clear_0 {n : Nat} {Q : Zr → Prop} (s : Zs) 
    (h0 : Q ([], zu s 88 0 0)) : zT (zE 128) (Pt PX1_clear) n (0, [((88 : Nat) : Int)], [], s) Q := by
  refine tL ((88 : Nat) : Int) 0 rfl rfl rfl ?_
  refine tK rfl ?_
  refine tPut 88 rfl rfl ?_
  exact tR rfl (h0)

theorem c_X1_clear {n : Nat} {Q : Zr → Prop} {a0 : Int} {s : Zs} (h : zT (zE 128) (Pt PX1_clear) n (0, [a0], [], s) Q) : zC n 128 [(a0, 0)] s Q := h

theorem b_X8_all_0 {n : Nat} {Q : Zr → Prop} {t : Nat} (s : Zs) (ht : t = 7 ∨ t = 43)
    (h0 : Q ([(w32 ((zshl 1 (s (t + 1) 1)) - 1), 0)], s)) : zT (zE 1026) (Pt PX8_all) n (0, [((t : Nat) : Int)], [], s) Q := by
  refine tK rfl ?_
  refine tL ((t : Nat) : Int) 0 rfl rfl rfl ?_
  refine tFR (c := t) (t + 1) rfl rfl rfl rfl (zt8_0 ht) ?_
  refine tK rfl ?_
  refine tAv (t + 1) 1 (s (t + 1) 1) 0 rfl rfl rfl (by decide) rfl rfl ?_
  refine tB (v := zshl 1 (s (t + 1) 1)) rfl rfl ?_
  refine tK rfl ?_
  refine tB (v := w32 ((zshl 1 (s (t + 1) 1)) - 1)) rfl rfl ?_
  exact tR rfl (h0)

theorem c_X8_all {n : Nat} {Q : Zr → Prop} {a0 : Int} {s : Zs} (h : zT (zE 1026) (Pt PX8_all) n (0, [a0], [], s) Q) : zC n 1026 [(a0, 0)] s Q := h

theorem b_X11_moves_0 {n : Nat} {Q : Zr → Prop} {c : Nat} (x1 x2 : Int) (s : Zs) 
    (h0 : zT (zE 1473) (Pt PX11_moves) n (2, [((c : Nat) : Int), x1, 0], [], s) Q) : zT (zE 1473) (Pt PX11_moves) n (0, [((c : Nat) : Int), x1, x2], [], s) Q := by
  refine tK rfl ?_
  refine tS [((c : Nat) : Int), x1, 0] rfl rfl ?_
  exact zT_le (h0) (Nat.le_refl n)

theorem b_X11_moves_2 {n : Nat} {Q : Zr → Prop} {c : Nat} (x1 x2 : Int) (s : Zs) 
    (h0 : ∀ (g1 : x1 ≤ x2), Q ([], s))
    (h1 : ∀ (g1 : x2 < x1), ∀ m, m < n → zT (zE 1473) (Pt PX11_moves) m (2, [((c : Nat) : Int), x1, w32 (x2 + 1)], [], zu s c x2.toNat (s c ((w32 (x1 + x2)).toNat))) Q) : zT (zE 1473) (Pt PX11_moves) n (2, [((c : Nat) : Int), x1, x2], [], s) Q := by
  refine tL x2 0 rfl rfl rfl ?_
  refine tL x1 0 rfl rfl rfl ?_
  refine tJ3 rfl (fun g1 _ l1 => zT_le ?_ (Nat.le_of_lt l1)) (fun g1 _ l1 => zT_le ?_ (Nat.le_of_lt l1))
  · exact tR rfl (h0 g1)
  · refine tL ((c : Nat) : Int) 0 rfl rfl rfl ?_
    refine tL x2 0 rfl rfl rfl ?_
    refine tL ((c : Nat) : Int) 0 rfl rfl rfl ?_
    refine tL x1 0 rfl rfl rfl ?_
    refine tL x2 0 rfl rfl rfl ?_
    refine tB (v := w32 (x1 + x2)) rfl rfl ?_
    refine tAv c ((w32 (x1 + x2)).toNat) (s c ((w32 (x1 + x2)).toNat)) 0 rfl rfl rfl (by decide) rfl rfl ?_
    refine tAS c x2.toNat rfl rfl rfl (by decide) ?_
    refine tInc [((c : Nat) : Int), x1, w32 (x2 + 1)] rfl rfl ?_
    exact tGb rfl (fun m2 l2 => h1 g1 m2 (Nat.lt_of_lt_of_le l2 (Nat.le_refl n)))

theorem c_X11_moves {n : Nat} {Q : Zr → Prop} {a0 a1 : Int} {s : Zs} (h : zT (zE 1473) (Pt PX11_moves) n (0, [a0, a1, 0], [], s) Q) : zC n 1473 [(a0, 0), (a1, 0)] s Q := h

theorem b_X11_movesNames_0 {n : Nat} {Q : Zr → Prop} {c : Nat} (x1 x2 : Int) (s : Zs) 
    (h0 : zT (zE 1474) (Pt PX11_movesNames) n (2, [((c : Nat) : Int), x1, 0], [], s) Q) : zT (zE 1474) (Pt PX11_movesNames) n (0, [((c : Nat) : Int), x1, x2], [], s) Q := by
  refine tK rfl ?_
  refine tS [((c : Nat) : Int), x1, 0] rfl rfl ?_
  exact zT_le (h0) (Nat.le_refl n)

theorem b_X11_movesNames_2 {n : Nat} {Q : Zr → Prop} {c : Nat} (x1 x2 : Int) (s : Zs) 
    (h0 : ∀ (g1 : x1 ≤ x2), Q ([], s))
    (h1 : ∀ (g1 : x2 < x1), ∀ m, m < n → zT (zE 1474) (Pt PX11_movesNames) m (2, [((c : Nat) : Int), x1, w32 (x2 + 1)], [], zu s c x2.toNat (s c ((w32 (x1 + x2)).toNat))) Q) : zT (zE 1474) (Pt PX11_movesNames) n (2, [((c : Nat) : Int), x1, x2], [], s) Q := by
  refine tL x2 0 rfl rfl rfl ?_
  refine tL x1 0 rfl rfl rfl ?_
  refine tJ3 rfl (fun g1 _ l1 => zT_le ?_ (Nat.le_of_lt l1)) (fun g1 _ l1 => zT_le ?_ (Nat.le_of_lt l1))
  · exact tR rfl (h0 g1)
  · refine tL ((c : Nat) : Int) 0 rfl rfl rfl ?_
    refine tL x2 0 rfl rfl rfl ?_
    refine tL ((c : Nat) : Int) 0 rfl rfl rfl ?_
    refine tL x1 0 rfl rfl rfl ?_
    refine tL x2 0 rfl rfl rfl ?_
    refine tB (v := w32 (x1 + x2)) rfl rfl ?_
    refine tAv c ((w32 (x1 + x2)).toNat) (s c ((w32 (x1 + x2)).toNat)) 1 rfl rfl rfl (by decide) rfl rfl ?_
    refine tAS c x2.toNat rfl rfl rfl (by decide) ?_
    refine tInc [((c : Nat) : Int), x1, w32 (x2 + 1)] rfl rfl ?_
    exact tGb rfl (fun m2 l2 => h1 g1 m2 (Nat.lt_of_lt_of_le l2 (Nat.le_refl n)))

theorem c_X11_movesNames {n : Nat} {Q : Zr → Prop} {a0 a1 : Int} {s : Zs} (h : zT (zE 1474) (Pt PX11_movesNames) n (0, [a0, a1, 0], [], s) Q) : zC n 1474 [(a0, 0), (a1, 0)] s Q := h

theorem b_X11_allFlights_0 {n : Nat} {Q : Zr → Prop} (s : Zs) 
    (h0 : Q ([(w32 ((zshl 1 (s 174 1)) - 1), 0)], s)) : zT (zE 1409) (Pt PX11_allFlights) n (0, [((172 : Nat) : Int)], [], s) Q := by
  refine tK rfl ?_
  refine tL ((172 : Nat) : Int) 0 rfl rfl rfl ?_
  refine tFR (c := 172) 174 rfl rfl rfl rfl rfl ?_
  refine tK rfl ?_
  refine tAv 174 1 (s 174 1) 0 rfl rfl rfl (by decide) rfl rfl ?_
  refine tB (v := zshl 1 (s 174 1)) rfl rfl ?_
  refine tK rfl ?_
  refine tB (v := w32 ((zshl 1 (s 174 1)) - 1)) rfl rfl ?_
  exact tR rfl (h0)

theorem c_X11_allFlights {n : Nat} {Q : Zr → Prop} {a0 : Int} {s : Zs} (h : zT (zE 1409) (Pt PX11_allFlights) n (0, [a0], [], s) Q) : zC n 1409 [(a0, 0)] s Q := h

theorem b_X11_town_0 {n : Nat} {Q : Zr → Prop} (x1 : Int) (s : Zs) 
    (h0 : ∀ m, m < n → zC m 1497 [(((172 : Nat) : Int), 0)] (zu s 172 0 0) (fun p => zT (zE 1521) (Pt PX11_town) m (9, [((172 : Nat) : Int), x1], p.1 ++ [], p.2) Q)) : zT (zE 1521) (Pt PX11_town) n (0, [((172 : Nat) : Int), x1], [], s) Q := by
  refine tL ((172 : Nat) : Int) 0 rfl rfl rfl ?_
  refine tK rfl ?_
  refine tPut 172 rfl rfl ?_
  refine tL ((172 : Nat) : Int) 0 rfl rfl rfl ?_
  exact tCall [(((172 : Nat) : Int), 0)] [] rfl rfl rfl (fun m l => h0 m (Nat.lt_of_lt_of_le l (Nat.le_refl n)))

theorem b_X11_town_46 {n : Nat} {Q : Zr → Prop} (x1 : Int) (s : Zs) 
    (h0 : ∀ (g1 : 4 ≤ x1), Q ([(0, 0)], s))
    (h1 : ∀ (g1 : x1 < 4), ∀ m, m < n → zT (zE 1521) (Pt PX11_town) m (46, [((172 : Nat) : Int), w32 (x1 + 1)], [], zu s 220 x1.toNat (zst3 0)) Q) : zT (zE 1521) (Pt PX11_town) n (46, [((172 : Nat) : Int), x1], [], s) Q := by
  refine tL x1 0 rfl rfl rfl ?_
  refine tK rfl ?_
  refine tJ3 rfl (fun g1 _ l1 => zT_le ?_ (Nat.le_of_lt l1)) (fun g1 _ l1 => zT_le ?_ (Nat.le_of_lt l1))
  · refine tK rfl ?_
    exact tR rfl (h0 g1)
  · refine tL ((172 : Nat) : Int) 0 rfl rfl rfl ?_
    refine tFR (c := 172) 220 rfl rfl rfl rfl rfl ?_
    refine tL x1 0 rfl rfl rfl ?_
    refine tK rfl ?_
    refine tAS3 220 x1.toNat rfl rfl rfl ?_
    refine tInc [((172 : Nat) : Int), w32 (x1 + 1)] rfl rfl ?_
    exact tGb rfl (fun m2 l2 => h1 g1 m2 (Nat.lt_of_lt_of_le l2 (Nat.le_refl n)))

theorem b_X11_town_9 {n : Nat} {Q : Zr → Prop} (x1 v0 : Int) (s : Zs) 
    (h0 : ∀ (g1 : v0 ≠ 0), ∀ m, m < n → zC m 1462 [(((172 : Nat) : Int), 0)] s (fun p => zT (zE 1521) (Pt PX11_town) m (21, [((172 : Nat) : Int), x1], p.1 ++ [], p.2) Q))
    (h1 : ∀ (g1 : v0 = 0), Q ([(s 172 9, 0)], s)) : zT (zE 1521) (Pt PX11_town) n (9, [((172 : Nat) : Int), x1], [(v0, 0)], s) Q := by
  refine tI1 rfl (fun g1 _ l1 => zT_le ?_ (Nat.le_of_lt l1)) (fun g1 _ l1 => zT_le ?_ (Nat.le_of_lt l1))
  · refine tL ((172 : Nat) : Int) 0 rfl rfl rfl ?_
    exact tCall [(((172 : Nat) : Int), 0)] [] rfl rfl rfl (fun m l => h0 g1 m (Nat.lt_of_lt_of_le l (Nat.le_refl n)))
  · refine tL ((172 : Nat) : Int) 0 rfl rfl rfl ?_
    refine tFv (c := 172) (s 172 9) 0 rfl rfl rfl rfl rfl ?_
    exact tR rfl (h1 g1)

theorem b_X11_town_21 {n : Nat} {Q : Zr → Prop} (x1 : Int) (s : Zs) 
    (h0 : ∀ m, m < n → zC m 1440 [(((172 : Nat) : Int), 0)] s (fun p => zT (zE 1521) (Pt PX11_town) m (25, [((172 : Nat) : Int), x1], p.1 ++ [], p.2) Q)) : zT (zE 1521) (Pt PX11_town) n (21, [((172 : Nat) : Int), x1], [], s) Q := by
  refine tL ((172 : Nat) : Int) 0 rfl rfl rfl ?_
  exact tCall [(((172 : Nat) : Int), 0)] [] rfl rfl rfl (fun m l => h0 m (Nat.lt_of_lt_of_le l (Nat.le_refl n)))

theorem b_X11_town_25 {n : Nat} {Q : Zr → Prop} (x1 : Int) (s : Zs) 
    (h0 : zT (zE 1521) (Pt PX11_town) n (46, [((172 : Nat) : Int), 0], [], zu (zu (zu s 207 0 0) 212 0 0) 172 60 0) Q) : zT (zE 1521) (Pt PX11_town) n (25, [((172 : Nat) : Int), x1], [], s) Q := by
  refine tL ((172 : Nat) : Int) 0 rfl rfl rfl ?_
  refine tFR (c := 172) 207 rfl rfl rfl rfl rfl ?_
  refine tK rfl ?_
  refine tK rfl ?_
  refine tAS 207 0 rfl rfl rfl (by decide) ?_
  refine tL ((172 : Nat) : Int) 0 rfl rfl rfl ?_
  refine tFR (c := 172) 212 rfl rfl rfl rfl rfl ?_
  refine tK rfl ?_
  refine tK rfl ?_
  refine tAS 212 0 rfl rfl rfl (by decide) ?_
  refine tL ((172 : Nat) : Int) 0 rfl rfl rfl ?_
  refine tK rfl ?_
  refine tPut 172 rfl rfl ?_
  refine tK rfl ?_
  refine tS [((172 : Nat) : Int), 0] rfl rfl ?_
  exact zT_le (h0) (Nat.le_refl n)

theorem c_X11_town {n : Nat} {Q : Zr → Prop} {a0 : Int} {s : Zs} (h : zT (zE 1521) (Pt PX11_town) n (0, [a0, 0], [], s) Q) : zC n 1521 [(a0, 0)] s Q := h

theorem b_X11_fresh_0 {n : Nat} {Q : Zr → Prop} (x1 : Int) (s : Zs) 
    (h0 : zT (zE 1440) (Pt PX11_fresh) n (2, [((172 : Nat) : Int), 0], [], s) Q) : zT (zE 1440) (Pt PX11_fresh) n (0, [((172 : Nat) : Int), x1], [], s) Q := by
  refine tK rfl ?_
  refine tS [((172 : Nat) : Int), 0] rfl rfl ?_
  exact zT_le (h0) (Nat.le_refl n)

theorem b_X11_fresh_2 {n : Nat} {Q : Zr → Prop} (x1 : Int) (s : Zs) 
    (h0 : ∀ (g1 : 13 ≤ x1), ∀ m, m < n → zC m 1409 [(((172 : Nat) : Int), 0)] s (fun p => zT (zE 1440) (Pt PX11_fresh) m (30, [((172 : Nat) : Int), x1], p.1 ++ [(0, 0), (((216 : Nat) : Int), 0)], p.2) Q))
    (h1 : ∀ (g1 : x1 < 13), ∀ m, m < n → zT (zE 1440) (Pt PX11_fresh) m (2, [((172 : Nat) : Int), w32 (x1 + 1)], [], zu s 216 x1.toNat 0) Q) : zT (zE 1440) (Pt PX11_fresh) n (2, [((172 : Nat) : Int), x1], [], s) Q := by
  refine tL x1 0 rfl rfl rfl ?_
  refine tK rfl ?_
  refine tJ3 rfl (fun g1 _ l1 => zT_le ?_ (Nat.le_of_lt l1)) (fun g1 _ l1 => zT_le ?_ (Nat.le_of_lt l1))
  · refine tL ((172 : Nat) : Int) 0 rfl rfl rfl ?_
    refine tFR (c := 172) 216 rfl rfl rfl rfl rfl ?_
    refine tK rfl ?_
    refine tL ((172 : Nat) : Int) 0 rfl rfl rfl ?_
    exact tCall [(((172 : Nat) : Int), 0)] [(0, 0), (((216 : Nat) : Int), 0)] rfl rfl rfl (fun m l => h0 g1 m (Nat.lt_of_lt_of_le l (Nat.le_refl n)))
  · refine tL ((172 : Nat) : Int) 0 rfl rfl rfl ?_
    refine tFR (c := 172) 216 rfl rfl rfl rfl rfl ?_
    refine tL x1 0 rfl rfl rfl ?_
    refine tK rfl ?_
    refine tAS 216 x1.toNat rfl rfl rfl (by decide) ?_
    refine tInc [((172 : Nat) : Int), w32 (x1 + 1)] rfl rfl ?_
    exact tGb rfl (fun m2 l2 => h1 g1 m2 (Nat.lt_of_lt_of_le l2 (Nat.le_refl n)))

theorem b_X11_fresh_33 {n : Nat} {Q : Zr → Prop} (x1 : Int) (s : Zs) 
    (h0 : ∀ (g1 : s 174 3 ≤ x1), zT (zE 1440) (Pt PX11_fresh) n (65, [((172 : Nat) : Int), 0], [], s) Q)
    (h1 : ∀ (g1 : x1 < s 174 3), ∀ m, m < n → zT (zE 1440) (Pt PX11_fresh) m (33, [((172 : Nat) : Int), w32 (x1 + 1)], [], zu s 216 ((w32 (1 + x1)).toNat) (s 186 x1.toNat)) Q) : zT (zE 1440) (Pt PX11_fresh) n (33, [((172 : Nat) : Int), x1], [], s) Q := by
  refine tL x1 0 rfl rfl rfl ?_
  refine tL ((172 : Nat) : Int) 0 rfl rfl rfl ?_
  refine tFR (c := 172) 174 rfl rfl rfl rfl rfl ?_
  refine tK rfl ?_
  refine tAv 174 3 (s 174 3) 0 rfl rfl rfl (by decide) rfl rfl ?_
  refine tJ3 rfl (fun g1 _ l1 => zT_le ?_ (Nat.le_of_lt l1)) (fun g1 _ l1 => zT_le ?_ (Nat.le_of_lt l1))
  · refine tK rfl ?_
    refine tS [((172 : Nat) : Int), 0] rfl rfl ?_
    exact zT_le (h0 g1) (Nat.le_refl n)
  · refine tL ((172 : Nat) : Int) 0 rfl rfl rfl ?_
    refine tFR (c := 172) 216 rfl rfl rfl rfl rfl ?_
    refine tK rfl ?_
    refine tL x1 0 rfl rfl rfl ?_
    refine tB (v := w32 (1 + x1)) rfl rfl ?_
    refine tL ((172 : Nat) : Int) 0 rfl rfl rfl ?_
    refine tFR (c := 172) 186 rfl rfl rfl rfl rfl ?_
    refine tL x1 0 rfl rfl rfl ?_
    refine tAv 186 x1.toNat (s 186 x1.toNat) 0 rfl rfl rfl (by decide) rfl rfl ?_
    refine tAS 216 ((w32 (1 + x1)).toNat) rfl rfl rfl (by decide) ?_
    refine tInc [((172 : Nat) : Int), w32 (x1 + 1)] rfl rfl ?_
    exact tGb rfl (fun m2 l2 => h1 g1 m2 (Nat.lt_of_lt_of_le l2 (Nat.le_refl n)))

theorem b_X11_fresh_65 {n : Nat} {Q : Zr → Prop} (x1 : Int) (s : Zs) 
    (h0 : ∀ (g1 : s 174 2 ≤ x1), Q ([], zu s 216 10 (s 174 5)))
    (h1 : ∀ (g1 : x1 < s 174 2), ∀ m, m < n → zT (zE 1440) (Pt PX11_fresh) m (65, [((172 : Nat) : Int), w32 (x1 + 1)], [], zu s 216 ((w32 (6 + x1)).toNat) (s 185 x1.toNat)) Q) : zT (zE 1440) (Pt PX11_fresh) n (65, [((172 : Nat) : Int), x1], [], s) Q := by
  refine tL x1 0 rfl rfl rfl ?_
  refine tL ((172 : Nat) : Int) 0 rfl rfl rfl ?_
  refine tFR (c := 172) 174 rfl rfl rfl rfl rfl ?_
  refine tK rfl ?_
  refine tAv 174 2 (s 174 2) 0 rfl rfl rfl (by decide) rfl rfl ?_
  refine tJ3 rfl (fun g1 _ l1 => zT_le ?_ (Nat.le_of_lt l1)) (fun g1 _ l1 => zT_le ?_ (Nat.le_of_lt l1))
  · refine tL ((172 : Nat) : Int) 0 rfl rfl rfl ?_
    refine tFR (c := 172) 216 rfl rfl rfl rfl rfl ?_
    refine tK rfl ?_
    refine tL ((172 : Nat) : Int) 0 rfl rfl rfl ?_
    refine tFR (c := 172) 174 rfl rfl rfl rfl rfl ?_
    refine tK rfl ?_
    refine tAv 174 5 (s 174 5) 0 rfl rfl rfl (by decide) rfl rfl ?_
    refine tAS 216 10 rfl rfl rfl (by decide) ?_
    exact tR rfl (h0 g1)
  · refine tL ((172 : Nat) : Int) 0 rfl rfl rfl ?_
    refine tFR (c := 172) 216 rfl rfl rfl rfl rfl ?_
    refine tK rfl ?_
    refine tL x1 0 rfl rfl rfl ?_
    refine tB (v := w32 (6 + x1)) rfl rfl ?_
    refine tL ((172 : Nat) : Int) 0 rfl rfl rfl ?_
    refine tFR (c := 172) 185 rfl rfl rfl rfl rfl ?_
    refine tL x1 0 rfl rfl rfl ?_
    refine tAv 185 x1.toNat (s 185 x1.toNat) 0 rfl rfl rfl (by decide) rfl rfl ?_
    refine tAS 216 ((w32 (6 + x1)).toNat) rfl rfl rfl (by decide) ?_
    refine tInc [((172 : Nat) : Int), w32 (x1 + 1)] rfl rfl ?_
    exact tGb rfl (fun m2 l2 => h1 g1 m2 (Nat.lt_of_lt_of_le l2 (Nat.le_refl n)))

theorem b_X11_fresh_30 {n : Nat} {Q : Zr → Prop} (x1 v0 : Int) (s : Zs) 
    (h0 : zT (zE 1440) (Pt PX11_fresh) n (33, [((172 : Nat) : Int), 0], [], zu s 216 0 v0) Q) : zT (zE 1440) (Pt PX11_fresh) n (30, [((172 : Nat) : Int), x1], [(v0, 0), (0, 0), (((216 : Nat) : Int), 0)], s) Q := by
  refine tAS 216 0 rfl rfl rfl (by decide) ?_
  refine tK rfl ?_
  refine tS [((172 : Nat) : Int), 0] rfl rfl ?_
  exact zT_le (h0) (Nat.le_refl n)

theorem c_X11_fresh {n : Nat} {Q : Zr → Prop} {a0 : Int} {s : Zs} (h : zT (zE 1440) (Pt PX11_fresh) n (0, [a0, 0], [], s) Q) : zC n 1440 [(a0, 0)] s Q := h

theorem b_X11_lays_0 {n : Nat} {Q : Zr → Prop} (s : Zs) 
    (h0 : ∀ m, m < n → zC m 1473 [(((174 : Nat) : Int), 0), (7, 0)] s (fun p => zT (zE 1462) (Pt PX11_lays) m (9, [((172 : Nat) : Int)], p.1 ++ [], p.2) Q)) : zT (zE 1462) (Pt PX11_lays) n (0, [((172 : Nat) : Int)], [], s) Q := by
  refine tL ((172 : Nat) : Int) 0 rfl rfl rfl ?_
  refine tFR (c := 172) 174 rfl rfl rfl rfl rfl ?_
  refine tK rfl ?_
  exact tCall [(((174 : Nat) : Int), 0), (7, 0)] [] rfl rfl rfl (fun m l => h0 m (Nat.lt_of_lt_of_le l (Nat.le_refl n)))

theorem b_X11_lays_9 {n : Nat} {Q : Zr → Prop} (s : Zs) 
    (h0 : ∀ m, m < n → zC m 1474 [(((175 : Nat) : Int), 0), (5, 0)] s (fun p => zT (zE 1462) (Pt PX11_lays) m (17, [((172 : Nat) : Int)], p.1 ++ [], p.2) Q)) : zT (zE 1462) (Pt PX11_lays) n (9, [((172 : Nat) : Int)], [], s) Q := by
  refine tL ((172 : Nat) : Int) 0 rfl rfl rfl ?_
  refine tFR (c := 172) 175 rfl rfl rfl rfl rfl ?_
  refine tK rfl ?_
  exact tCall [(((175 : Nat) : Int), 0), (5, 0)] [] rfl rfl rfl (fun m l => h0 m (Nat.lt_of_lt_of_le l (Nat.le_refl n)))

theorem b_X11_lays_17 {n : Nat} {Q : Zr → Prop} (s : Zs) 
    (h0 : ∀ m, m < n → zC m 1474 [(((176 : Nat) : Int), 0), (4, 0)] s (fun p => zT (zE 1462) (Pt PX11_lays) m (25, [((172 : Nat) : Int)], p.1 ++ [], p.2) Q)) : zT (zE 1462) (Pt PX11_lays) n (17, [((172 : Nat) : Int)], [], s) Q := by
  refine tL ((172 : Nat) : Int) 0 rfl rfl rfl ?_
  refine tFR (c := 172) 176 rfl rfl rfl rfl rfl ?_
  refine tK rfl ?_
  exact tCall [(((176 : Nat) : Int), 0), (4, 0)] [] rfl rfl rfl (fun m l => h0 m (Nat.lt_of_lt_of_le l (Nat.le_refl n)))

theorem b_X11_lays_25 {n : Nat} {Q : Zr → Prop} (s : Zs) 
    (h0 : ∀ m, m < n → zC m 1474 [(((177 : Nat) : Int), 0), (5, 0)] s (fun p => zT (zE 1462) (Pt PX11_lays) m (33, [((172 : Nat) : Int)], p.1 ++ [], p.2) Q)) : zT (zE 1462) (Pt PX11_lays) n (25, [((172 : Nat) : Int)], [], s) Q := by
  refine tL ((172 : Nat) : Int) 0 rfl rfl rfl ?_
  refine tFR (c := 172) 177 rfl rfl rfl rfl rfl ?_
  refine tK rfl ?_
  exact tCall [(((177 : Nat) : Int), 0), (5, 0)] [] rfl rfl rfl (fun m l => h0 m (Nat.lt_of_lt_of_le l (Nat.le_refl n)))

theorem b_X11_lays_33 {n : Nat} {Q : Zr → Prop} (s : Zs) 
    (h0 : ∀ m, m < n → zC m 1474 [(((178 : Nat) : Int), 0), (4, 0)] s (fun p => zT (zE 1462) (Pt PX11_lays) m (41, [((172 : Nat) : Int)], p.1 ++ [], p.2) Q)) : zT (zE 1462) (Pt PX11_lays) n (33, [((172 : Nat) : Int)], [], s) Q := by
  refine tL ((172 : Nat) : Int) 0 rfl rfl rfl ?_
  refine tFR (c := 172) 178 rfl rfl rfl rfl rfl ?_
  refine tK rfl ?_
  exact tCall [(((178 : Nat) : Int), 0), (4, 0)] [] rfl rfl rfl (fun m l => h0 m (Nat.lt_of_lt_of_le l (Nat.le_refl n)))

theorem b_X11_lays_41 {n : Nat} {Q : Zr → Prop} (s : Zs) 
    (h0 : ∀ m, m < n → zC m 1473 [(((179 : Nat) : Int), 0), (5, 0)] s (fun p => zT (zE 1462) (Pt PX11_lays) m (49, [((172 : Nat) : Int)], p.1 ++ [], p.2) Q)) : zT (zE 1462) (Pt PX11_lays) n (41, [((172 : Nat) : Int)], [], s) Q := by
  refine tL ((172 : Nat) : Int) 0 rfl rfl rfl ?_
  refine tFR (c := 172) 179 rfl rfl rfl rfl rfl ?_
  refine tK rfl ?_
  exact tCall [(((179 : Nat) : Int), 0), (5, 0)] [] rfl rfl rfl (fun m l => h0 m (Nat.lt_of_lt_of_le l (Nat.le_refl n)))

theorem b_X11_lays_49 {n : Nat} {Q : Zr → Prop} (s : Zs) 
    (h0 : ∀ m, m < n → zC m 1473 [(((180 : Nat) : Int), 0), (10, 0)] s (fun p => zT (zE 1462) (Pt PX11_lays) m (58, [((172 : Nat) : Int)], p.1 ++ [], p.2) Q)) : zT (zE 1462) (Pt PX11_lays) n (49, [((172 : Nat) : Int)], [], s) Q := by
  refine tL ((172 : Nat) : Int) 0 rfl rfl rfl ?_
  refine tFR (c := 172) 180 rfl rfl rfl rfl rfl ?_
  refine tK rfl ?_
  exact tCall [(((180 : Nat) : Int), 0), (10, 0)] [] rfl rfl rfl (fun m l => h0 m (Nat.lt_of_lt_of_le l (Nat.le_refl n)))

theorem b_X11_lays_58 {n : Nat} {Q : Zr → Prop} (s : Zs) 
    (h0 : ∀ m, m < n → zC m 1473 [(((181 : Nat) : Int), 0), (10, 0)] s (fun p => zT (zE 1462) (Pt PX11_lays) m (67, [((172 : Nat) : Int)], p.1 ++ [], p.2) Q)) : zT (zE 1462) (Pt PX11_lays) n (58, [((172 : Nat) : Int)], [], s) Q := by
  refine tL ((172 : Nat) : Int) 0 rfl rfl rfl ?_
  refine tFR (c := 172) 181 rfl rfl rfl rfl rfl ?_
  refine tK rfl ?_
  exact tCall [(((181 : Nat) : Int), 0), (10, 0)] [] rfl rfl rfl (fun m l => h0 m (Nat.lt_of_lt_of_le l (Nat.le_refl n)))

theorem b_X11_lays_67 {n : Nat} {Q : Zr → Prop} (s : Zs) 
    (h0 : ∀ m, m < n → zC m 1473 [(((182 : Nat) : Int), 0), (10, 0)] s (fun p => zT (zE 1462) (Pt PX11_lays) m (76, [((172 : Nat) : Int)], p.1 ++ [], p.2) Q)) : zT (zE 1462) (Pt PX11_lays) n (67, [((172 : Nat) : Int)], [], s) Q := by
  refine tL ((172 : Nat) : Int) 0 rfl rfl rfl ?_
  refine tFR (c := 172) 182 rfl rfl rfl rfl rfl ?_
  refine tK rfl ?_
  exact tCall [(((182 : Nat) : Int), 0), (10, 0)] [] rfl rfl rfl (fun m l => h0 m (Nat.lt_of_lt_of_le l (Nat.le_refl n)))

theorem b_X11_lays_76 {n : Nat} {Q : Zr → Prop} (s : Zs) 
    (h0 : ∀ m, m < n → zC m 1473 [(((183 : Nat) : Int), 0), (10, 0)] s (fun p => zT (zE 1462) (Pt PX11_lays) m (85, [((172 : Nat) : Int)], p.1 ++ [], p.2) Q)) : zT (zE 1462) (Pt PX11_lays) n (76, [((172 : Nat) : Int)], [], s) Q := by
  refine tL ((172 : Nat) : Int) 0 rfl rfl rfl ?_
  refine tFR (c := 172) 183 rfl rfl rfl rfl rfl ?_
  refine tK rfl ?_
  exact tCall [(((183 : Nat) : Int), 0), (10, 0)] [] rfl rfl rfl (fun m l => h0 m (Nat.lt_of_lt_of_le l (Nat.le_refl n)))

theorem b_X11_lays_85 {n : Nat} {Q : Zr → Prop} (s : Zs) 
    (h0 : ∀ m, m < n → zC m 1473 [(((184 : Nat) : Int), 0), (4, 0)] s (fun p => zT (zE 1462) (Pt PX11_lays) m (93, [((172 : Nat) : Int)], p.1 ++ [], p.2) Q)) : zT (zE 1462) (Pt PX11_lays) n (85, [((172 : Nat) : Int)], [], s) Q := by
  refine tL ((172 : Nat) : Int) 0 rfl rfl rfl ?_
  refine tFR (c := 172) 184 rfl rfl rfl rfl rfl ?_
  refine tK rfl ?_
  exact tCall [(((184 : Nat) : Int), 0), (4, 0)] [] rfl rfl rfl (fun m l => h0 m (Nat.lt_of_lt_of_le l (Nat.le_refl n)))

theorem b_X11_lays_93 {n : Nat} {Q : Zr → Prop} (s : Zs) 
    (h0 : ∀ m, m < n → zC m 1473 [(((185 : Nat) : Int), 0), (4, 0)] s (fun p => zT (zE 1462) (Pt PX11_lays) m (101, [((172 : Nat) : Int)], p.1 ++ [], p.2) Q)) : zT (zE 1462) (Pt PX11_lays) n (93, [((172 : Nat) : Int)], [], s) Q := by
  refine tL ((172 : Nat) : Int) 0 rfl rfl rfl ?_
  refine tFR (c := 172) 185 rfl rfl rfl rfl rfl ?_
  refine tK rfl ?_
  exact tCall [(((185 : Nat) : Int), 0), (4, 0)] [] rfl rfl rfl (fun m l => h0 m (Nat.lt_of_lt_of_le l (Nat.le_refl n)))

theorem b_X11_lays_101 {n : Nat} {Q : Zr → Prop} (s : Zs) 
    (h0 : ∀ m, m < n → zC m 1473 [(((186 : Nat) : Int), 0), (5, 0)] s (fun p => zT (zE 1462) (Pt PX11_lays) m (109, [((172 : Nat) : Int)], p.1 ++ [], p.2) Q)) : zT (zE 1462) (Pt PX11_lays) n (101, [((172 : Nat) : Int)], [], s) Q := by
  refine tL ((172 : Nat) : Int) 0 rfl rfl rfl ?_
  refine tFR (c := 172) 186 rfl rfl rfl rfl rfl ?_
  refine tK rfl ?_
  exact tCall [(((186 : Nat) : Int), 0), (5, 0)] [] rfl rfl rfl (fun m l => h0 m (Nat.lt_of_lt_of_le l (Nat.le_refl n)))

theorem b_X11_lays_109 {n : Nat} {Q : Zr → Prop} (s : Zs) 
    (h0 : ∀ m, m < n → zC m 1473 [(((187 : Nat) : Int), 0), (5, 0)] s (fun p => zT (zE 1462) (Pt PX11_lays) m (117, [((172 : Nat) : Int)], p.1 ++ [], p.2) Q)) : zT (zE 1462) (Pt PX11_lays) n (109, [((172 : Nat) : Int)], [], s) Q := by
  refine tL ((172 : Nat) : Int) 0 rfl rfl rfl ?_
  refine tFR (c := 172) 187 rfl rfl rfl rfl rfl ?_
  refine tK rfl ?_
  exact tCall [(((187 : Nat) : Int), 0), (5, 0)] [] rfl rfl rfl (fun m l => h0 m (Nat.lt_of_lt_of_le l (Nat.le_refl n)))

theorem b_X11_lays_117 {n : Nat} {Q : Zr → Prop} (s : Zs) 
    (h0 : ∀ m, m < n → zC m 1473 [(((188 : Nat) : Int), 0), (5, 0)] s (fun p => zT (zE 1462) (Pt PX11_lays) m (125, [((172 : Nat) : Int)], p.1 ++ [], p.2) Q)) : zT (zE 1462) (Pt PX11_lays) n (117, [((172 : Nat) : Int)], [], s) Q := by
  refine tL ((172 : Nat) : Int) 0 rfl rfl rfl ?_
  refine tFR (c := 172) 188 rfl rfl rfl rfl rfl ?_
  refine tK rfl ?_
  exact tCall [(((188 : Nat) : Int), 0), (5, 0)] [] rfl rfl rfl (fun m l => h0 m (Nat.lt_of_lt_of_le l (Nat.le_refl n)))

theorem b_X11_lays_125 {n : Nat} {Q : Zr → Prop} (s : Zs) 
    (h0 : ∀ m, m < n → zC m 1473 [(((189 : Nat) : Int), 0), (5, 0)] s (fun p => zT (zE 1462) (Pt PX11_lays) m (133, [((172 : Nat) : Int)], p.1 ++ [], p.2) Q)) : zT (zE 1462) (Pt PX11_lays) n (125, [((172 : Nat) : Int)], [], s) Q := by
  refine tL ((172 : Nat) : Int) 0 rfl rfl rfl ?_
  refine tFR (c := 172) 189 rfl rfl rfl rfl rfl ?_
  refine tK rfl ?_
  exact tCall [(((189 : Nat) : Int), 0), (5, 0)] [] rfl rfl rfl (fun m l => h0 m (Nat.lt_of_lt_of_le l (Nat.le_refl n)))

theorem b_X11_lays_133 {n : Nat} {Q : Zr → Prop} (s : Zs) 
    (h0 : ∀ m, m < n → zC m 1473 [(((190 : Nat) : Int), 0), (4, 0)] s (fun p => zT (zE 1462) (Pt PX11_lays) m (141, [((172 : Nat) : Int)], p.1 ++ [], p.2) Q)) : zT (zE 1462) (Pt PX11_lays) n (133, [((172 : Nat) : Int)], [], s) Q := by
  refine tL ((172 : Nat) : Int) 0 rfl rfl rfl ?_
  refine tFR (c := 172) 190 rfl rfl rfl rfl rfl ?_
  refine tK rfl ?_
  exact tCall [(((190 : Nat) : Int), 0), (4, 0)] [] rfl rfl rfl (fun m l => h0 m (Nat.lt_of_lt_of_le l (Nat.le_refl n)))

theorem b_X11_lays_141 {n : Nat} {Q : Zr → Prop} (s : Zs) 
    (h0 : ∀ m, m < n → zC m 1473 [(((191 : Nat) : Int), 0), (4, 0)] s (fun p => zT (zE 1462) (Pt PX11_lays) m (149, [((172 : Nat) : Int)], p.1 ++ [], p.2) Q)) : zT (zE 1462) (Pt PX11_lays) n (141, [((172 : Nat) : Int)], [], s) Q := by
  refine tL ((172 : Nat) : Int) 0 rfl rfl rfl ?_
  refine tFR (c := 172) 191 rfl rfl rfl rfl rfl ?_
  refine tK rfl ?_
  exact tCall [(((191 : Nat) : Int), 0), (4, 0)] [] rfl rfl rfl (fun m l => h0 m (Nat.lt_of_lt_of_le l (Nat.le_refl n)))

theorem b_X11_lays_149 {n : Nat} {Q : Zr → Prop} (s : Zs) 
    (h0 : ∀ m, m < n → zC m 1473 [(((194 : Nat) : Int), 0), (1000, 0)] s (fun p => zT (zE 1462) (Pt PX11_lays) m (159, [((172 : Nat) : Int)], p.1 ++ [], p.2) Q)) : zT (zE 1462) (Pt PX11_lays) n (149, [((172 : Nat) : Int)], [], s) Q := by
  refine tL ((172 : Nat) : Int) 0 rfl rfl rfl ?_
  refine tFR (c := 172) 194 rfl rfl rfl rfl rfl ?_
  refine tK rfl ?_
  exact tCall [(((194 : Nat) : Int), 0), (1000, 0)] [] rfl rfl rfl (fun m l => h0 m (Nat.lt_of_lt_of_le l (Nat.le_refl n)))

theorem b_X11_lays_159 {n : Nat} {Q : Zr → Prop} (s : Zs) 
    (h0 : Q ([], zu (zu s 192 0 (w32 ((s 192 1) - 1000))) 193 0 (w32 ((s 193 1) - 1000)))) : zT (zE 1462) (Pt PX11_lays) n (159, [((172 : Nat) : Int)], [], s) Q := by
  refine tL ((172 : Nat) : Int) 0 rfl rfl rfl ?_
  refine tFR (c := 172) 192 rfl rfl rfl rfl rfl ?_
  refine tK rfl ?_
  refine tL ((172 : Nat) : Int) 0 rfl rfl rfl ?_
  refine tFR (c := 172) 192 rfl rfl rfl rfl rfl ?_
  refine tK rfl ?_
  refine tAv 192 1 (s 192 1) 0 rfl rfl rfl (by decide) rfl rfl ?_
  refine tK rfl ?_
  refine tB (v := w32 ((s 192 1) - 1000)) rfl rfl ?_
  refine tAS 192 0 rfl rfl rfl (by decide) ?_
  refine tL ((172 : Nat) : Int) 0 rfl rfl rfl ?_
  refine tFR (c := 172) 193 rfl rfl rfl rfl rfl ?_
  refine tK rfl ?_
  refine tL ((172 : Nat) : Int) 0 rfl rfl rfl ?_
  refine tFR (c := 172) 193 rfl rfl rfl rfl rfl ?_
  refine tK rfl ?_
  refine tAv 193 1 (s 193 1) 0 rfl rfl rfl (by decide) rfl rfl ?_
  refine tK rfl ?_
  refine tB (v := w32 ((s 193 1) - 1000)) rfl rfl ?_
  refine tAS 193 0 rfl rfl rfl (by decide) ?_
  exact tR rfl (h0)

theorem c_X11_lays {n : Nat} {Q : Zr → Prop} {a0 : Int} {s : Zs} (h : zT (zE 1462) (Pt PX11_lays) n (0, [a0], [], s) Q) : zC n 1462 [(a0, 0)] s Q := h

theorem b_X10_town_0 {n : Nat} {Q : Zr → Prop} (x1 x2 : Int) (s : Zs) 
    (h0 : ∀ m, m < n → zC m 1153 [(((4 : Nat) : Int), 0), (s 0 4, 0)] s (fun p => zT (zE 1318) (Pt PX10_town) m (11, [((0 : Nat) : Int), x1, x2], p.1 ++ [], p.2) Q)) : zT (zE 1318) (Pt PX10_town) n (0, [((0 : Nat) : Int), x1, x2], [], s) Q := by
  refine tL ((0 : Nat) : Int) 0 rfl rfl rfl ?_
  refine tFR (c := 0) 4 rfl rfl rfl rfl rfl ?_
  refine tL ((0 : Nat) : Int) 0 rfl rfl rfl ?_
  refine tFv (c := 0) (s 0 4) 0 rfl rfl rfl rfl rfl ?_
  exact tCall [(((4 : Nat) : Int), 0), (s 0 4, 0)] [] rfl rfl rfl (fun m l => h0 m (Nat.lt_of_lt_of_le l (Nat.le_refl n)))

theorem b_X10_town_11 {n : Nat} {Q : Zr → Prop} (x1 x2 v0 : Int) (s : Zs) 
    (h0 : ∀ (g1 : v0 ≠ 0), Q ([(v0, 0)], zu s 1 0 0))
    (h1 : ∀ (g1 : v0 = 0), ∀ m, m < n → zC m 768 [(((79 : Nat) : Int), 0), (s 0 4, 0)] (zu (zu (zu s 1 0 0) 0 3 (s 0 4)) 0 4 (s 0 3)) (fun p => zT (zE 1318) (Pt PX10_town) m (53, [((0 : Nat) : Int), v0, s 0 3], p.1 ++ [], p.2) Q)) : zT (zE 1318) (Pt PX10_town) n (11, [((0 : Nat) : Int), x1, x2], [(v0, 0)], s) Q := by
  refine tS [((0 : Nat) : Int), v0, x2] rfl rfl ?_
  refine tL ((0 : Nat) : Int) 0 rfl rfl rfl ?_
  refine tFR (c := 0) 1 rfl rfl rfl rfl rfl ?_
  refine tK rfl ?_
  refine tPut 1 rfl rfl ?_
  refine tL v0 0 rfl rfl rfl ?_
  refine tI1 rfl (fun g1 _ l1 => zT_le ?_ (Nat.le_of_lt l1)) (fun g1 _ l1 => zT_le ?_ (Nat.le_of_lt l1))
  · refine tL v0 0 rfl rfl rfl ?_
    exact tR rfl (h0 g1)
  · refine tL ((0 : Nat) : Int) 0 rfl rfl rfl ?_
    refine tFv (c := 0) (s 0 3) 0 rfl rfl rfl rfl rfl ?_
    refine tS [((0 : Nat) : Int), v0, s 0 3] rfl rfl ?_
    refine tL ((0 : Nat) : Int) 0 rfl rfl rfl ?_
    refine tL ((0 : Nat) : Int) 0 rfl rfl rfl ?_
    refine tFv (c := 0) (s 0 4) 0 rfl rfl rfl rfl rfl ?_
    refine tPut 0 rfl rfl ?_
    refine tL ((0 : Nat) : Int) 0 rfl rfl rfl ?_
    refine tL (s 0 3) 0 rfl rfl rfl ?_
    refine tPut 0 rfl rfl ?_
    refine tL ((0 : Nat) : Int) 0 rfl rfl rfl ?_
    refine tFR (c := 0) 79 rfl rfl rfl rfl rfl ?_
    refine tL ((0 : Nat) : Int) 0 rfl rfl rfl ?_
    refine tFv (c := 0) (s 0 4) 0 rfl rfl rfl rfl rfl ?_
    exact tCall [(((79 : Nat) : Int), 0), (s 0 4, 0)] [] rfl rfl rfl (fun m l => h1 g1 m (Nat.lt_of_lt_of_le l (Nat.le_refl n)))

theorem b_X10_town_53 {n : Nat} {Q : Zr → Prop} (x1 x2 : Int) (s : Zs) 
    (h0 : ∀ m, m < n → zC m 641 [(((85 : Nat) : Int), 0)] s (fun p => zT (zE 1318) (Pt PX10_town) m (60, [((0 : Nat) : Int), x1, x2], p.1 ++ [], p.2) Q)) : zT (zE 1318) (Pt PX10_town) n (53, [((0 : Nat) : Int), x1, x2], [], s) Q := by
  refine tL ((0 : Nat) : Int) 0 rfl rfl rfl ?_
  refine tFR (c := 0) 85 rfl rfl rfl rfl rfl ?_
  exact tCall [(((85 : Nat) : Int), 0)] [] rfl rfl rfl (fun m l => h0 m (Nat.lt_of_lt_of_le l (Nat.le_refl n)))

theorem b_X10_town_60 {n : Nat} {Q : Zr → Prop} (x1 x2 : Int) (s : Zs) 
    (h0 : ∀ m, m < n → zC m 128 [(((88 : Nat) : Int), 0)] s (fun p => zT (zE 1318) (Pt PX10_town) m (67, [((0 : Nat) : Int), x1, x2], p.1 ++ [], p.2) Q)) : zT (zE 1318) (Pt PX10_town) n (60, [((0 : Nat) : Int), x1, x2], [], s) Q := by
  refine tL ((0 : Nat) : Int) 0 rfl rfl rfl ?_
  refine tFR (c := 0) 88 rfl rfl rfl rfl rfl ?_
  exact tCall [(((88 : Nat) : Int), 0)] [] rfl rfl rfl (fun m l => h0 m (Nat.lt_of_lt_of_le l (Nat.le_refl n)))

theorem b_X10_town_67 {n : Nat} {Q : Zr → Prop} (x1 x2 : Int) (s : Zs) 
    (h0 : Q ([(x1, 0)], zu s 0 11 0)) : zT (zE 1318) (Pt PX10_town) n (67, [((0 : Nat) : Int), x1, x2], [], s) Q := by
  refine tL ((0 : Nat) : Int) 0 rfl rfl rfl ?_
  refine tK rfl ?_
  refine tPut 0 rfl rfl ?_
  refine tL x1 0 rfl rfl rfl ?_
  exact tR rfl (h0)

theorem c_X10_town {n : Nat} {Q : Zr → Prop} {a0 : Int} {s : Zs} (h : zT (zE 1318) (Pt PX10_town) n (0, [a0, 0, 0], [], s) Q) : zC n 1318 [(a0, 0)] s Q := h

section Ztw
variable {N : Nat} {s : Zs} {T : Nat → Int} {n : Nat}
theorem moves_fr {c : Nat} {v : Int} : zC N 1473 [((c : Int), 0), (v, 0)] s (fun r => r.1 = [] ∧ ∀ d j, d ≠ c → r.2 d j = s d j) := by
  have loop : ∀ (M : Nat) (x2 : Int) (s1 : Zs), (∀ d j, d ≠ c → s1 d j = s d j) → zT (zE 1473) (Pt PX11_moves) M (2, [((c : Nat) : Int), v, x2], [], s1) (fun r => r.1 = [] ∧ ∀ d j, d ≠ c → r.2 d j = s d j) := by
    intro M
    induction M using Nat.strongRecOn with
    | ind M ih =>
      intro x2 s1 h
      exact b_X11_moves_2 _ _ s1 (fun _ => ⟨rfl, h⟩) (fun _ m hm => ih m hm _ _ (fun d j hd => by rw [zu_n (by omega)]; exact h d j hd))
  exact c_X11_moves (b_X11_moves_0 _ _ s (loop N 0 s (fun _ _ _ => rfl)))
theorem movesL_fr {c : Nat} {v : Int} : zC N 1474 [((c : Int), 0), (v, 0)] s (fun r => r.1 = [] ∧ ∀ d j, d ≠ c → r.2 d j = s d j) := by
  have loop : ∀ (M : Nat) (x2 : Int) (s1 : Zs), (∀ d j, d ≠ c → s1 d j = s d j) → zT (zE 1474) (Pt PX11_movesNames) M (2, [((c : Nat) : Int), v, x2], [], s1) (fun r => r.1 = [] ∧ ∀ d j, d ≠ c → r.2 d j = s d j) := by
    intro M
    induction M using Nat.strongRecOn with
    | ind M ih =>
      intro x2 s1 h
      exact b_X11_movesNames_2 _ _ s1 (fun _ => ⟨rfl, h⟩) (fun _ m hm => ih m hm _ _ (fun d j hd => by rw [zu_n (by omega)]; exact h d j hd))
  exact c_X11_movesNames (b_X11_movesNames_0 _ _ s (loop N 0 s (fun _ _ _ => rfl)))
theorem lays_fr : zC N 1462 [(((172 : Nat) : Int), 0)] s (fun r => r.1 = [] ∧ ∀ j, r.2 172 j = s 172 j) := by
  refine c_X11_lays (b_X11_lays_0 s (fun m0 _ => ?_))
  refine zC_q (moves_fr (c := 174)) (fun r hr => ?_)
  obtain ⟨r1, s1⟩ := r
  obtain ⟨e, f1⟩ := hr
  have e : r1 = [] := e
  subst e
  have f1 : ∀ d j, d ≠ 174 → s1 d j = s d j := f1
  refine b_X11_lays_9 s1 (fun m1 _ => ?_)
  refine zC_q (movesL_fr (c := 175)) (fun r hr => ?_)
  obtain ⟨r1, s2⟩ := r
  obtain ⟨e, f2⟩ := hr
  have e : r1 = [] := e
  subst e
  have f2 : ∀ d j, d ≠ 175 → s2 d j = s1 d j := f2
  refine b_X11_lays_17 s2 (fun m2 _ => ?_)
  refine zC_q (movesL_fr (c := 176)) (fun r hr => ?_)
  obtain ⟨r1, s3⟩ := r
  obtain ⟨e, f3⟩ := hr
  have e : r1 = [] := e
  subst e
  have f3 : ∀ d j, d ≠ 176 → s3 d j = s2 d j := f3
  refine b_X11_lays_25 s3 (fun m3 _ => ?_)
  refine zC_q (movesL_fr (c := 177)) (fun r hr => ?_)
  obtain ⟨r1, s4⟩ := r
  obtain ⟨e, f4⟩ := hr
  have e : r1 = [] := e
  subst e
  have f4 : ∀ d j, d ≠ 177 → s4 d j = s3 d j := f4
  refine b_X11_lays_33 s4 (fun m4 _ => ?_)
  refine zC_q (movesL_fr (c := 178)) (fun r hr => ?_)
  obtain ⟨r1, s5⟩ := r
  obtain ⟨e, f5⟩ := hr
  have e : r1 = [] := e
  subst e
  have f5 : ∀ d j, d ≠ 178 → s5 d j = s4 d j := f5
  refine b_X11_lays_41 s5 (fun m5 _ => ?_)
  refine zC_q (moves_fr (c := 179)) (fun r hr => ?_)
  obtain ⟨r1, s6⟩ := r
  obtain ⟨e, f6⟩ := hr
  have e : r1 = [] := e
  subst e
  have f6 : ∀ d j, d ≠ 179 → s6 d j = s5 d j := f6
  refine b_X11_lays_49 s6 (fun m6 _ => ?_)
  refine zC_q (moves_fr (c := 180)) (fun r hr => ?_)
  obtain ⟨r1, s7⟩ := r
  obtain ⟨e, f7⟩ := hr
  have e : r1 = [] := e
  subst e
  have f7 : ∀ d j, d ≠ 180 → s7 d j = s6 d j := f7
  refine b_X11_lays_58 s7 (fun m7 _ => ?_)
  refine zC_q (moves_fr (c := 181)) (fun r hr => ?_)
  obtain ⟨r1, s8⟩ := r
  obtain ⟨e, f8⟩ := hr
  have e : r1 = [] := e
  subst e
  have f8 : ∀ d j, d ≠ 181 → s8 d j = s7 d j := f8
  refine b_X11_lays_67 s8 (fun m8 _ => ?_)
  refine zC_q (moves_fr (c := 182)) (fun r hr => ?_)
  obtain ⟨r1, s9⟩ := r
  obtain ⟨e, f9⟩ := hr
  have e : r1 = [] := e
  subst e
  have f9 : ∀ d j, d ≠ 182 → s9 d j = s8 d j := f9
  refine b_X11_lays_76 s9 (fun m9 _ => ?_)
  refine zC_q (moves_fr (c := 183)) (fun r hr => ?_)
  obtain ⟨r1, s10⟩ := r
  obtain ⟨e, f10⟩ := hr
  have e : r1 = [] := e
  subst e
  have f10 : ∀ d j, d ≠ 183 → s10 d j = s9 d j := f10
  refine b_X11_lays_85 s10 (fun m10 _ => ?_)
  refine zC_q (moves_fr (c := 184)) (fun r hr => ?_)
  obtain ⟨r1, s11⟩ := r
  obtain ⟨e, f11⟩ := hr
  have e : r1 = [] := e
  subst e
  have f11 : ∀ d j, d ≠ 184 → s11 d j = s10 d j := f11
  refine b_X11_lays_93 s11 (fun m11 _ => ?_)
  refine zC_q (moves_fr (c := 185)) (fun r hr => ?_)
  obtain ⟨r1, s12⟩ := r
  obtain ⟨e, f12⟩ := hr
  have e : r1 = [] := e
  subst e
  have f12 : ∀ d j, d ≠ 185 → s12 d j = s11 d j := f12
  refine b_X11_lays_101 s12 (fun m12 _ => ?_)
  refine zC_q (moves_fr (c := 186)) (fun r hr => ?_)
  obtain ⟨r1, s13⟩ := r
  obtain ⟨e, f13⟩ := hr
  have e : r1 = [] := e
  subst e
  have f13 : ∀ d j, d ≠ 186 → s13 d j = s12 d j := f13
  refine b_X11_lays_109 s13 (fun m13 _ => ?_)
  refine zC_q (moves_fr (c := 187)) (fun r hr => ?_)
  obtain ⟨r1, s14⟩ := r
  obtain ⟨e, f14⟩ := hr
  have e : r1 = [] := e
  subst e
  have f14 : ∀ d j, d ≠ 187 → s14 d j = s13 d j := f14
  refine b_X11_lays_117 s14 (fun m14 _ => ?_)
  refine zC_q (moves_fr (c := 188)) (fun r hr => ?_)
  obtain ⟨r1, s15⟩ := r
  obtain ⟨e, f15⟩ := hr
  have e : r1 = [] := e
  subst e
  have f15 : ∀ d j, d ≠ 188 → s15 d j = s14 d j := f15
  refine b_X11_lays_125 s15 (fun m15 _ => ?_)
  refine zC_q (moves_fr (c := 189)) (fun r hr => ?_)
  obtain ⟨r1, s16⟩ := r
  obtain ⟨e, f16⟩ := hr
  have e : r1 = [] := e
  subst e
  have f16 : ∀ d j, d ≠ 189 → s16 d j = s15 d j := f16
  refine b_X11_lays_133 s16 (fun m16 _ => ?_)
  refine zC_q (moves_fr (c := 190)) (fun r hr => ?_)
  obtain ⟨r1, s17⟩ := r
  obtain ⟨e, f17⟩ := hr
  have e : r1 = [] := e
  subst e
  have f17 : ∀ d j, d ≠ 190 → s17 d j = s16 d j := f17
  refine b_X11_lays_141 s17 (fun m17 _ => ?_)
  refine zC_q (moves_fr (c := 191)) (fun r hr => ?_)
  obtain ⟨r1, s18⟩ := r
  obtain ⟨e, f18⟩ := hr
  have e : r1 = [] := e
  subst e
  have f18 : ∀ d j, d ≠ 191 → s18 d j = s17 d j := f18
  refine b_X11_lays_149 s18 (fun m18 _ => ?_)
  refine zC_q (moves_fr (c := 194)) (fun r hr => ?_)
  obtain ⟨r1, s19⟩ := r
  obtain ⟨e, f19⟩ := hr
  have e : r1 = [] := e
  subst e
  have f19 : ∀ d j, d ≠ 194 → s19 d j = s18 d j := f19
  refine b_X11_lays_159 s19 ⟨rfl, fun j => ?_⟩
  dsimp only
  rw [zu_n (by omega), zu_n (by omega), f19 172 _ (by decide), f18 172 _ (by decide), f17 172 _ (by decide), f16 172 _ (by decide), f15 172 _ (by decide), f14 172 _ (by decide), f13 172 _ (by decide), f12 172 _ (by decide), f11 172 _ (by decide), f10 172 _ (by decide), f9 172 _ (by decide), f8 172 _ (by decide), f7 172 _ (by decide), f6 172 _ (by decide), f5 172 _ (by decide), f4 172 _ (by decide), f3 172 _ (by decide), f2 172 _ (by decide), f1 172 _ (by decide)]
theorem fresh_fr : zC N 1440 [(((172 : Nat) : Int), 0)] s (fun r => r.1 = [] ∧ ∀ j, r.2 172 j = s 172 j) := by
  have l3 : ∀ (M : Nat) (x1 : Int) (s1 : Zs), (∀ j, s1 172 j = s 172 j) → zT (zE 1440) (Pt PX11_fresh) M (65, [((172 : Nat) : Int), x1], [], s1) (fun r => r.1 = [] ∧ ∀ j, r.2 172 j = s 172 j) := by
    intro M
    induction M using Nat.strongRecOn with
    | ind M ih =>
      intro x1 s1 h
      exact b_X11_fresh_65 _ s1 (fun _ => ⟨rfl, fun j => by dsimp only; rw [zu_n (by omega)]; exact h j⟩) (fun _ m hm => ih m hm _ _ (fun j => by rw [zu_n (by omega)]; exact h j))
  have l2 : ∀ (M : Nat) (x1 : Int) (s1 : Zs), (∀ j, s1 172 j = s 172 j) → zT (zE 1440) (Pt PX11_fresh) M (33, [((172 : Nat) : Int), x1], [], s1) (fun r => r.1 = [] ∧ ∀ j, r.2 172 j = s 172 j) := by
    intro M
    induction M using Nat.strongRecOn with
    | ind M ih =>
      intro x1 s1 h
      exact b_X11_fresh_33 _ s1 (fun _ => l3 _ _ s1 h) (fun _ m hm => ih m hm _ _ (fun j => by rw [zu_n (by omega)]; exact h j))
  have l1 : ∀ (M : Nat) (x1 : Int) (s1 : Zs), (∀ j, s1 172 j = s 172 j) → zT (zE 1440) (Pt PX11_fresh) M (2, [((172 : Nat) : Int), x1], [], s1) (fun r => r.1 = [] ∧ ∀ j, r.2 172 j = s 172 j) := by
    intro M
    induction M using Nat.strongRecOn with
    | ind M ih =>
      intro x1 s1 h
      refine b_X11_fresh_2 _ s1 (fun _ m hm => ?_) (fun _ m hm => ih m hm _ _ (fun j => by rw [zu_n (by omega)]; exact h j))
      refine c_X11_allFlights (b_X11_allFlights_0 s1 ?_)
      exact b_X11_fresh_30 _ _ s1 (l2 _ _ _ (fun j => by rw [zu_n (by omega)]; exact h j))
  exact c_X11_fresh (b_X11_fresh_0 _ s (l1 N 0 s (fun _ => rfl)))
/-- town of the model: its answer is the fault of the reading -/
theorem town_m (h1 : s 172 1 = (n : Int)) (hn : n ≤ 1000) (hT : ∀ i, i < n → s 173 i = T i) : zC N 1521 [(((172 : Nat) : Int), 0)] s (fun r => r.1 = [((pAll T n 1000 (0, 0) d0).1.1, 0)] ∧ r.2 172 1 = 0) := by
  refine c_X11_town (b_X11_town_0 _ s (fun m hm => ?_))
  refine zC_q (readsAll_ok (T := T) (n := n) (by rw [zu_n (by omega)]; exact h1) hn (fun i hi => by rw [zu_n (by omega)]; exact hT i hi)) (fun r hr => ?_)
  obtain ⟨r1, s1⟩ := r
  obtain ⟨e, t, -, b⟩ := hr
  generalize (pAll T n 1000 (0, 0) d0).1 = y at e b ⊢
  have e : r1 = [(if y.1 = 0 then 1 else 0, 0)] := e
  subst e
  have t : s1 172 1 = 0 := t.1.trans (zu_eq _ _ _ _)
  refine b_X11_town_9 _ _ s1 (fun g m1 hm1 => ?_) (fun g => ?_)
  · have hy : y.1 = 0 := Decidable.byContradiction fun c => g (if_neg c)
    rw [hy]
    refine zC_q lays_fr (fun r hr => ?_)
    obtain ⟨r1, s2⟩ := r
    obtain ⟨e, f2⟩ := hr
    have e : r1 = [] := e
    subst e
    refine b_X11_town_21 _ s2 (fun m2 hm2 => ?_)
    refine zC_q fresh_fr (fun r hr => ?_)
    obtain ⟨r1, s3⟩ := r
    obtain ⟨e, f3⟩ := hr
    have e : r1 = [] := e
    subst e
    have t3 : s3 172 1 = 0 := (f3 1).trans ((f2 1).trans t)
    have loop : ∀ (M : Nat) (x1 : Int) (s4 : Zs), s4 172 1 = 0 → zT (zE 1521) (Pt PX11_town) M (46, [((172 : Nat) : Int), x1], [], s4) (fun r => r.1 = [((0 : Int), 0)] ∧ r.2 172 1 = 0) := by
      intro M
      induction M using Nat.strongRecOn with
      | ind M ih =>
        intro x1 s4 h
        exact b_X11_town_46 _ s4 (fun _ => ⟨rfl, h⟩) (fun _ m hm => ih m hm _ _ (by rw [zu_n (by omega)]; exact h))
    exact b_X11_town_25 _ s3 (loop _ _ _ (by rw [zu_n (by omega), zu_n (by omega), zu_n (by omega)]; exact t3))
  · have hy : y.1 ≠ 0 := fun c => by rw [if_pos c] at g; exact absurd g (by decide)
    refine ⟨?_, t⟩
    show [(s1 172 9, 0)] = [(y.1, 0)]
    have b9 : s1 172 9 = y.1 := b hy
    rw [b9]
theorem begin_fr {t : Nat} (ht : t = 7 ∨ t = 43) : zC N 768 [(((79 : Nat) : Int), 0), (((t : Nat) : Int), 0)] s (fun r => r.1 = [] ∧ ∀ c j, ¬ (79 ≤ c ∧ c ≤ 81) → r.2 c j = s c j) := by
  have l2 : ∀ (M : Nat) (x2 : Int) (s1 : Zs), (∀ c j, ¬ (79 ≤ c ∧ c ≤ 81) → s1 c j = s c j) → zT (zE 768) (Pt PX6_begin) M (41, [((79 : Nat) : Int), ((t : Nat) : Int), x2], [], s1) (fun r => r.1 = [] ∧ ∀ c j, ¬ (79 ≤ c ∧ c ≤ 81) → r.2 c j = s c j) := by
    intro M
    induction M using Nat.strongRecOn with
    | ind M ih =>
      intro x2 s1 h
      exact b_X6_begin_41 _ s1 ht (fun _ => ⟨rfl, fun c j hc => by dsimp only; rw [zu_n (by omega), zu_n (by omega), zu_n (by omega)]; exact h c j hc⟩) (fun _ m hm => ih m hm _ _ (fun c j hc => by rw [zu_n (by omega)]; exact h c j hc))
  have l1 : ∀ (M : Nat) (x2 : Int) (s1 : Zs), (∀ c j, ¬ (79 ≤ c ∧ c ≤ 81) → s1 c j = s c j) → zT (zE 768) (Pt PX6_begin) M (10, [((79 : Nat) : Int), ((t : Nat) : Int), x2], [], s1) (fun r => r.1 = [] ∧ ∀ c j, ¬ (79 ≤ c ∧ c ≤ 81) → r.2 c j = s c j) := by
    intro M
    induction M using Nat.strongRecOn with
    | ind M ih =>
      intro x2 s1 h
      exact b_X6_begin_10 _ s1 ht (fun _ => l2 _ _ s1 h) (fun _ m hm => ih m hm _ _ (fun c j hc => by rw [zu_n (by omega)]; exact h c j hc))
  refine c_X6_begin (b_X6_begin_0 _ s ht (fun m hm => ?_))
  refine c_X8_all (b_X8_all_0 s ht ?_)
  exact b_X6_begin_5 _ _ s ht (l1 _ _ _ (fun c j hc => zu_n (by omega)))
/-- town of the class: its answer is the fault of the reading -/
theorem town_c (ht : s 0 4 = 7 ∨ s 0 4 = 43) (h : tkS s T n) (hz : zM s) : zC N 1318 [(((0 : Nat) : Int), 0)] s (fun r => r.1 = [((pAll T n 1000 (0, 0) d0).1.1, 0)] ∧ r.2 1 0 = 0 ∧ (∀ j, r.2 3 j = s 3 j) ∧ (∀ j, r.2 1000 j = s 1000 j) ∧ ((r.2 0 3 = s 0 3 ∧ r.2 0 4 = s 0 4) ∨ (r.2 0 3 = s 0 4 ∧ r.2 0 4 = s 0 3))) := by
  obtain ⟨t, ht', et⟩ : ∃ t : Nat, (t = 7 ∨ t = 43) ∧ s 0 4 = ((t : Nat) : Int) := by
    rcases ht with q | q
    · exact ⟨7, Or.inl rfl, q⟩
    · exact ⟨43, Or.inr rfl, q⟩
  refine c_X10_town (b_X10_town_0 _ _ s (fun m hm => ?_))
  rw [et]
  refine zC_q (read_ok (T := T) (n := n) ht' h hz) (fun r hr => ?_)
  obtain ⟨r1, s1⟩ := r
  obtain ⟨e, f1, -⟩ := hr
  generalize (pAll T n 1000 (0, 0) d0).1 = y at e ⊢
  have e : r1 = [(y.1, 0)] := e
  subst e
  have f1 : frT t s s1 := f1
  have z0 : ∀ j, s1 0 j = s 0 j := fun j => f1 0 j (by omega) (by omega)
  have z3 : ∀ j, s1 3 j = s 3 j := fun j => f1 3 j (by omega) (by omega)
  have zk : ∀ j, s1 1000 j = s 1000 j := fun j => f1 1000 j (by omega) (by omega)
  refine b_X10_town_11 _ _ _ s1 (fun g => ?_) (fun g m1 hm1 => ?_)
  · refine ⟨rfl, zu_eq s1 1 0 0, fun j => ?_, fun j => ?_, Or.inl ⟨?_, ?_⟩⟩
    · show zu s1 1 0 0 3 j = _; rw [zu_n (by omega)]; exact z3 j
    · show zu s1 1 0 0 1000 j = _; rw [zu_n (by omega)]; exact zk j
    · show zu s1 1 0 0 0 3 = _; rw [zu_n (by omega)]; exact z0 3
    · show zu s1 1 0 0 0 4 = _; rw [zu_n (by omega), z0 4]; exact et
  · rw [show s1 0 4 = ((t : Nat) : Int) from (z0 4).trans et]
    refine zC_q (begin_fr ht') (fun r hr => ?_)
    obtain ⟨r1, s2⟩ := r
    obtain ⟨e, f2⟩ := hr
    have e : r1 = [] := e
    subst e
    have f2 : ∀ c j, ¬ (79 ≤ c ∧ c ≤ 81) → s2 c j = zu (zu (zu s1 1 0 0) 0 3 ((t : Nat) : Int)) 0 4 (s1 0 3) c j := f2
    refine b_X10_town_53 _ _ s2 (fun m2 hm2 => ?_)
    refine c_X5_clear (b_X5_clear_0 s2 ?_)
    refine b_X10_town_60 _ _ _ (fun m3 hm3 => ?_)
    refine c_X1_clear (b_X1_clear_0 _ ?_)
    refine b_X10_town_67 _ _ _ ?_
    have w : ∀ c j, ¬ (79 ≤ c ∧ c ≤ 88) → ¬ (c = 0 ∧ j = 11) → zu (zu (zu (zu (zu s2 85 1 0) 85 2 0) 85 4 0) 88 0 0) 0 11 0 c j = zu (zu (zu s1 1 0 0) 0 3 ((t : Nat) : Int)) 0 4 (s1 0 3) c j := fun c j a b => by
      rw [zu_n (by omega), zu_n (by omega), zu_n (by omega), zu_n (by omega), zu_n (by omega)]
      exact f2 c j (by omega)
    refine ⟨rfl, ?_, fun j => ?_, fun j => ?_, Or.inr ⟨?_, ?_⟩⟩
    · refine (w 1 0 (by omega) (by omega)).trans ?_
      rw [zu_n (by omega), zu_n (by omega), zu_eq]
    · refine (w 3 j (by omega) (by omega)).trans ?_
      rw [zu_n (by omega), zu_n (by omega), zu_n (by omega)]; exact z3 j
    · refine (w 1000 j (by omega) (by omega)).trans ?_
      rw [zu_n (by omega), zu_n (by omega), zu_n (by omega)]; exact zk j
    · refine (w 0 3 (by omega) (by omega)).trans ?_
      rw [zu_n (by omega), zu_eq]
    · refine (w 0 4 (by omega) (by omega)).trans ?_
      rw [zu_eq]; exact z0 3
end Ztw
