/-! the lines of a town: the model -/
theorem b_X11_readsHouse_0 {n : Nat} {Q : Zr → Prop} (x1 x2 x3 : Int) (s : Zs) 
    (h0 : ∀ (g1 : w32 (5 + (s 174 7)) ≠ 10), ∀ m, m < n → zC m 1482 [(((172 : Nat) : Int), 0)] s (fun p => zT (zE 1500) (Pt PX11_readsHouse) m (26, [((172 : Nat) : Int), w32 (5 + (s 174 7)), x2, x3], p.1 ++ [], p.2) Q))
    (h1 : ∀ (g1 : w32 (5 + (s 174 7)) = 10), Q ([(0, 0)], zu s 172 9 (w32 (5 + (w32 (16 * (s 172 5))))))) : zT (zE 1500) (Pt PX11_readsHouse) n (0, [((172 : Nat) : Int), x1, x2, x3], [], s) Q := by
  refine tK rfl ?_
  refine tL ((172 : Nat) : Int) 0 rfl rfl rfl ?_
  refine tFR (c := 172) 174 rfl rfl rfl rfl rfl ?_
  refine tK rfl ?_
  refine tAv 174 7 (s 174 7) 0 rfl rfl rfl (by decide) rfl rfl ?_
  refine tB (v := w32 (5 + (s 174 7))) rfl rfl ?_
  refine tS [((172 : Nat) : Int), w32 (5 + (s 174 7)), x2, x3] rfl rfl ?_
  refine tL (w32 (5 + (s 174 7))) 0 rfl rfl rfl ?_
  refine tK rfl ?_
  refine tJ1 rfl (fun g1 _ l1 => zT_le ?_ (Nat.le_of_lt l1)) (fun g1 _ l1 => zT_le ?_ (Nat.le_of_lt l1))
  · refine tL ((172 : Nat) : Int) 0 rfl rfl rfl ?_
    exact tCall [(((172 : Nat) : Int), 0)] [] rfl rfl rfl (fun m l => h0 g1 m (Nat.lt_of_lt_of_le l (Nat.le_refl n)))
  · refine tL ((172 : Nat) : Int) 0 rfl rfl rfl ?_
    refine tK rfl ?_
    refine tCall [(((172 : Nat) : Int), 0), (5, 0)] [] rfl rfl rfl (fun m3 l3 => c_X11_fails (b_X11_fails_0 5 s ?_))
    · show zT (zE 1500) (Pt PX11_readsHouse) m3 (21, [((172 : Nat) : Int), w32 (5 + (s 174 7)), x2, x3], [(0, 0)], zu s 172 9 (w32 (5 + (w32 (16 * (s 172 5)))))) Q
      exact tR rfl (h1 g1)

theorem b_X11_readsHouse_26 {n : Nat} {Q : Zr → Prop} (x1 x2 x3 : Int) (s : Zs) 
    (h0 : ∀ m, m < n → zC m 1451 [(((172 : Nat) : Int), 0)] s (fun p => zT (zE 1500) (Pt PX11_readsHouse) m (30, [((172 : Nat) : Int), x1, x2, x3], p.1 ++ [], p.2) Q)) : zT (zE 1500) (Pt PX11_readsHouse) n (26, [((172 : Nat) : Int), x1, x2, x3], [], s) Q := by
  refine tL ((172 : Nat) : Int) 0 rfl rfl rfl ?_
  exact tCall [(((172 : Nat) : Int), 0)] [] rfl rfl rfl (fun m l => h0 m (Nat.lt_of_lt_of_le l (Nat.le_refl n)))

theorem b_X11_readsHouse_30 {n : Nat} {Q : Zr → Prop} (x1 x2 x3 v0 : Int) (s : Zs) 
    (h0 : ∀ (g1 : v0 ≠ 0), ∀ m, m < n → zC m 1482 [(((172 : Nat) : Int), 0)] s (fun p => zT (zE 1500) (Pt PX11_readsHouse) m (44, [((172 : Nat) : Int), x1, s 172 7, x3], p.1 ++ [], p.2) Q))
    (h1 : ∀ (g1 : v0 = 0), Q ([(0, 0)], s)) : zT (zE 1500) (Pt PX11_readsHouse) n (30, [((172 : Nat) : Int), x1, x2, x3], [(v0, 0)], s) Q := by
  refine tI1 rfl (fun g1 _ l1 => zT_le ?_ (Nat.le_of_lt l1)) (fun g1 _ l1 => zT_le ?_ (Nat.le_of_lt l1))
  · refine tL ((172 : Nat) : Int) 0 rfl rfl rfl ?_
    refine tFv (c := 172) (s 172 7) 1 rfl rfl rfl rfl rfl ?_
    refine tS [((172 : Nat) : Int), x1, s 172 7, x3] rfl rfl ?_
    refine tL ((172 : Nat) : Int) 0 rfl rfl rfl ?_
    exact tCall [(((172 : Nat) : Int), 0)] [] rfl rfl rfl (fun m l => h0 g1 m (Nat.lt_of_lt_of_le l (Nat.le_refl n)))
  · refine tK rfl ?_
    exact tR rfl (h1 g1)

theorem b_X11_readsHouse_44 {n : Nat} {Q : Zr → Prop} (x1 x2 x3 : Int) (s : Zs) 
    (h0 : ∀ m, m < n → zC m 1476 [(((172 : Nat) : Int), 0), (92777419, 1), (1, 0), (5, 0)] s (fun p => zT (zE 1500) (Pt PX11_readsHouse) m (53, [((172 : Nat) : Int), x1, x2, x3], p.1 ++ [], p.2) Q)) : zT (zE 1500) (Pt PX11_readsHouse) n (44, [((172 : Nat) : Int), x1, x2, x3], [], s) Q := by
  refine tL ((172 : Nat) : Int) 0 rfl rfl rfl ?_
  refine tKL rfl ?_
  refine tK rfl ?_
  refine tK rfl ?_
  exact tCall [(((172 : Nat) : Int), 0), (92777419, 1), (1, 0), (5, 0)] [] rfl rfl rfl (fun m l => h0 m (Nat.lt_of_lt_of_le l (Nat.le_refl n)))

theorem b_X11_readsHouse_53 {n : Nat} {Q : Zr → Prop} (x1 x2 x3 v0 : Int) (s : Zs) 
    (h0 : ∀ (g1 : v0 ≠ 0), ∀ m, m < n → zC m 1425 [(((172 : Nat) : Int), 0)] (zu (zu (zu s 179 x1.toNat (s 172 45)) 175 x1.toNat x2) 174 7 (w32 ((s 174 7) + 1))) (fun p => zT (zE 1500) (Pt PX11_readsHouse) m (90, [((172 : Nat) : Int), x1, x2, x3], p.1 ++ [], p.2) Q))
    (h1 : ∀ (g1 : v0 = 0), Q ([(0, 0)], s)) : zT (zE 1500) (Pt PX11_readsHouse) n (53, [((172 : Nat) : Int), x1, x2, x3], [(v0, 0)], s) Q := by
  refine tI1 rfl (fun g1 _ l1 => zT_le ?_ (Nat.le_of_lt l1)) (fun g1 _ l1 => zT_le ?_ (Nat.le_of_lt l1))
  · refine tL ((172 : Nat) : Int) 0 rfl rfl rfl ?_
    refine tFR (c := 172) 179 rfl rfl rfl rfl rfl ?_
    refine tL x1 0 rfl rfl rfl ?_
    refine tL ((172 : Nat) : Int) 0 rfl rfl rfl ?_
    refine tFv (c := 172) (s 172 45) 0 rfl rfl rfl rfl rfl ?_
    refine tAS 179 x1.toNat rfl rfl rfl (by decide) ?_
    refine tL ((172 : Nat) : Int) 0 rfl rfl rfl ?_
    refine tFR (c := 172) 175 rfl rfl rfl rfl rfl ?_
    refine tL x1 0 rfl rfl rfl ?_
    refine tL x2 1 rfl rfl rfl ?_
    refine tAS 175 x1.toNat rfl rfl rfl (by decide) ?_
    refine tL ((172 : Nat) : Int) 0 rfl rfl rfl ?_
    refine tFR (c := 172) 174 rfl rfl rfl rfl rfl ?_
    refine tK rfl ?_
    refine tD2 rfl ?_
    refine tAv 174 7 (s 174 7) 0 rfl rfl rfl (by decide) rfl rfl ?_
    refine tK rfl ?_
    refine tB (v := w32 ((s 174 7) + 1)) rfl rfl ?_
    refine tAS 174 7 rfl rfl rfl (by decide) ?_
    refine tL ((172 : Nat) : Int) 0 rfl rfl rfl ?_
    exact tCall [(((172 : Nat) : Int), 0)] [] rfl rfl rfl (fun m l => h0 g1 m (Nat.lt_of_lt_of_le l (Nat.le_refl n)))
  · refine tK rfl ?_
    exact tR rfl (h1 g1)

theorem b_X11_readsHouse_90 {n : Nat} {Q : Zr → Prop} (x1 x2 x3 v0 : Int) (s : Zs) 
    (h0 : Q ([(v0, 0)], s)) : zT (zE 1500) (Pt PX11_readsHouse) n (90, [((172 : Nat) : Int), x1, x2, x3], [(v0, 0)], s) Q := by
  exact tR rfl (h0)

theorem c_X11_readsHouse {n : Nat} {Q : Zr → Prop} {a0 : Int} {s : Zs} (h : zT (zE 1500) (Pt PX11_readsHouse) n (0, [a0, 0, 0, 0], [], s) Q) : zC n 1500 [(a0, 0)] s Q := h

theorem b_X11_readsFlight_0 {n : Nat} {Q : Zr → Prop} (x1 x2 : Int) (s : Zs) 
    (h0 : ∀ (g1 : w32 (10 + (s 174 8)) ≠ 20), ∀ m, m < n → zC m 1482 [(((172 : Nat) : Int), 0)] s (fun p => zT (zE 1498) (Pt PX11_readsFlight) m (27, [((172 : Nat) : Int), w32 (10 + (s 174 8)), x2], p.1 ++ [], p.2) Q))
    (h1 : ∀ (g1 : w32 (10 + (s 174 8)) = 20), Q ([(0, 0)], zu s 172 9 (w32 (5 + (w32 (16 * (s 172 5))))))) : zT (zE 1498) (Pt PX11_readsFlight) n (0, [((172 : Nat) : Int), x1, x2], [], s) Q := by
  refine tK rfl ?_
  refine tL ((172 : Nat) : Int) 0 rfl rfl rfl ?_
  refine tFR (c := 172) 174 rfl rfl rfl rfl rfl ?_
  refine tK rfl ?_
  refine tAv 174 8 (s 174 8) 0 rfl rfl rfl (by decide) rfl rfl ?_
  refine tB (v := w32 (10 + (s 174 8))) rfl rfl ?_
  refine tS [((172 : Nat) : Int), w32 (10 + (s 174 8)), x2] rfl rfl ?_
  refine tL (w32 (10 + (s 174 8))) 0 rfl rfl rfl ?_
  refine tK rfl ?_
  refine tJ1 rfl (fun g1 _ l1 => zT_le ?_ (Nat.le_of_lt l1)) (fun g1 _ l1 => zT_le ?_ (Nat.le_of_lt l1))
  · refine tL ((172 : Nat) : Int) 0 rfl rfl rfl ?_
    exact tCall [(((172 : Nat) : Int), 0)] [] rfl rfl rfl (fun m l => h0 g1 m (Nat.lt_of_lt_of_le l (Nat.le_refl n)))
  · refine tL ((172 : Nat) : Int) 0 rfl rfl rfl ?_
    refine tK rfl ?_
    refine tCall [(((172 : Nat) : Int), 0), (5, 0)] [] rfl rfl rfl (fun m3 l3 => c_X11_fails (b_X11_fails_0 5 s ?_))
    · show zT (zE 1498) (Pt PX11_readsFlight) m3 (22, [((172 : Nat) : Int), w32 (10 + (s 174 8)), x2], [(0, 0)], zu s 172 9 (w32 (5 + (w32 (16 * (s 172 5)))))) Q
      exact tR rfl (h1 g1)

theorem b_X11_readsFlight_27 {n : Nat} {Q : Zr → Prop} (x1 x2 : Int) (s : Zs) 
    (h0 : ∀ m, m < n → zC m 1480 [(((172 : Nat) : Int), 0), (1, 0), (0, 0)] s (fun p => zT (zE 1498) (Pt PX11_readsFlight) m (33, [((172 : Nat) : Int), x1, x2], p.1 ++ [], p.2) Q)) : zT (zE 1498) (Pt PX11_readsFlight) n (27, [((172 : Nat) : Int), x1, x2], [], s) Q := by
  refine tL ((172 : Nat) : Int) 0 rfl rfl rfl ?_
  refine tK rfl ?_
  refine tK rfl ?_
  exact tCall [(((172 : Nat) : Int), 0), (1, 0), (0, 0)] [] rfl rfl rfl (fun m l => h0 m (Nat.lt_of_lt_of_le l (Nat.le_refl n)))

theorem b_X11_readsFlight_33 {n : Nat} {Q : Zr → Prop} (x1 x2 v0 : Int) (s : Zs) 
    (h0 : ∀ (g1 : v0 ≠ 0), ∀ (g2 : s 172 6 ≠ 2), ∀ m, m < n → zC m 1478 [(((172 : Nat) : Int), 0), (0, 0), (w32 ((s 179 ((w32 (5 + (s 172 45))).toNat)) - 1), 0)] s (fun p => zT (zE 1498) (Pt PX11_readsFlight) m (106, [((172 : Nat) : Int), x1, s 172 45], p.1 ++ [], p.2) Q))
    (h1 : ∀ (g1 : v0 ≠ 0), ∀ (g2 : s 172 6 = 2), ∀ (g5 : s 172 8 < 0), ∀ m, m < n → zC m 1478 [(((172 : Nat) : Int), 0), (0, 0), (w32 ((s 179 ((w32 (5 + (s 172 45))).toNat)) - 1), 0)] s (fun p => zT (zE 1498) (Pt PX11_readsFlight) m (106, [((172 : Nat) : Int), x1, s 172 45], p.1 ++ [], p.2) Q))
    (h2 : ∀ (g1 : v0 ≠ 0), ∀ (g2 : s 172 6 = 2), ∀ (g7 : 0 ≤ s 172 8), ∀ (g8 : w32 ((s 179 ((w32 (5 + (s 172 45))).toNat)) - 1) < s 172 8), ∀ m, m < n → zC m 1478 [(((172 : Nat) : Int), 0), (0, 0), (w32 ((s 179 ((w32 (5 + (s 172 45))).toNat)) - 1), 0)] s (fun p => zT (zE 1498) (Pt PX11_readsFlight) m (106, [((172 : Nat) : Int), x1, s 172 45], p.1 ++ [], p.2) Q))
    (h3 : ∀ (g1 : v0 ≠ 0), ∀ (g2 : s 172 6 = 2), ∀ (g10 : 0 ≤ s 172 8), ∀ (g11 : s 172 8 ≤ w32 ((s 179 ((w32 (5 + (s 172 45))).toNat)) - 1)), ∀ m, m < n → zC m 1438 [(((172 : Nat) : Int), 0), (1, 0), (s 172 45, 0), (s 172 8, 0)] s (fun p => zT (zE 1498) (Pt PX11_readsFlight) m (82, [((172 : Nat) : Int), x1, s 172 45], p.1 ++ [], p.2) Q))
    (h4 : ∀ (g1 : v0 = 0), Q ([(0, 0)], s)) : zT (zE 1498) (Pt PX11_readsFlight) n (33, [((172 : Nat) : Int), x1, x2], [(v0, 0)], s) Q := by
  refine tI1 rfl (fun g1 _ l1 => zT_le ?_ (Nat.le_of_lt l1)) (fun g1 _ l1 => zT_le ?_ (Nat.le_of_lt l1))
  · refine tL ((172 : Nat) : Int) 0 rfl rfl rfl ?_
    refine tFv (c := 172) (s 172 45) 0 rfl rfl rfl rfl rfl ?_
    refine tS [((172 : Nat) : Int), x1, s 172 45] rfl rfl ?_
    refine tL ((172 : Nat) : Int) 0 rfl rfl rfl ?_
    refine tFv (c := 172) (s 172 6) 0 rfl rfl rfl rfl rfl ?_
    refine tK rfl ?_
    refine tJ1 rfl (fun g2 _ l2 => zT_le ?_ (Nat.le_of_lt l2)) (fun g2 _ l2 => zT_le ?_ (Nat.le_of_lt l2))
    · refine tL ((172 : Nat) : Int) 0 rfl rfl rfl ?_
      refine tK rfl ?_
      refine tL ((172 : Nat) : Int) 0 rfl rfl rfl ?_
      refine tFR (c := 172) 179 rfl rfl rfl rfl rfl ?_
      refine tK rfl ?_
      refine tL (s 172 45) 0 rfl rfl rfl ?_
      refine tB (v := w32 (5 + (s 172 45))) rfl rfl ?_
      refine tAv 179 ((w32 (5 + (s 172 45))).toNat) (s 179 ((w32 (5 + (s 172 45))).toNat)) 0 rfl rfl rfl (by decide) rfl rfl ?_
      refine tK rfl ?_
      refine tB (v := w32 ((s 179 ((w32 (5 + (s 172 45))).toNat)) - 1)) rfl rfl ?_
      exact tCall [(((172 : Nat) : Int), 0), (0, 0), (w32 ((s 179 ((w32 (5 + (s 172 45))).toNat)) - 1), 0)] [] rfl rfl rfl (fun m l => h0 g1 g2 m (Nat.lt_of_lt_of_le l (Nat.le_refl n)))
    · refine tL ((172 : Nat) : Int) 0 rfl rfl rfl ?_
      refine tFv (c := 172) (s 172 8) 0 rfl rfl rfl rfl rfl ?_
      refine tK rfl ?_
      refine tL ((172 : Nat) : Int) 0 rfl rfl rfl ?_
      refine tFR (c := 172) 179 rfl rfl rfl rfl rfl ?_
      refine tK rfl ?_
      refine tL (s 172 45) 0 rfl rfl rfl ?_
      refine tB (v := w32 (5 + (s 172 45))) rfl rfl ?_
      refine tAv 179 ((w32 (5 + (s 172 45))).toNat) (s 179 ((w32 (5 + (s 172 45))).toNat)) 0 rfl rfl rfl (by decide) rfl rfl ?_
      refine tK rfl ?_
      refine tB (v := w32 ((s 179 ((w32 (5 + (s 172 45))).toNat)) - 1)) rfl rfl ?_
      refine tCall [(s 172 8, 0), (0, 0), (w32 ((s 179 ((w32 (5 + (s 172 45))).toNat)) - 1), 0)] [] rfl rfl rfl (fun m4 l4 => c_X11_within (b_X11_within_0 (s 172 8) 0 (w32 ((s 179 ((w32 (5 + (s 172 45))).toNat)) - 1)) s ?_ ?_ ?_))
      · intro g5
        show zT (zE 1498) (Pt PX11_readsFlight) m4 (69, [((172 : Nat) : Int), x1, s 172 45], [(0, 0)], s) Q
        refine tI0 rfl (fun g _ l => zT_le ?_ (Nat.le_of_lt l)) (fun g _ l => (absurd g (by decide)))
        refine tL ((172 : Nat) : Int) 0 rfl rfl rfl ?_
        refine tK rfl ?_
        refine tL ((172 : Nat) : Int) 0 rfl rfl rfl ?_
        refine tFR (c := 172) 179 rfl rfl rfl rfl rfl ?_
        refine tK rfl ?_
        refine tL (s 172 45) 0 rfl rfl rfl ?_
        refine tB (v := w32 (5 + (s 172 45))) rfl rfl ?_
        refine tAv 179 ((w32 (5 + (s 172 45))).toNat) (s 179 ((w32 (5 + (s 172 45))).toNat)) 0 rfl rfl rfl (by decide) rfl rfl ?_
        refine tK rfl ?_
        refine tB (v := w32 ((s 179 ((w32 (5 + (s 172 45))).toNat)) - 1)) rfl rfl ?_
        exact tCall [(((172 : Nat) : Int), 0), (0, 0), (w32 ((s 179 ((w32 (5 + (s 172 45))).toNat)) - 1), 0)] [] rfl rfl rfl (fun m l => h1 g1 g2 g5 m (Nat.lt_of_lt_of_le l (Nat.le_trans (Nat.le_of_lt l4) (Nat.le_refl n))))
      · intro g7 g8
        show zT (zE 1498) (Pt PX11_readsFlight) m4 (69, [((172 : Nat) : Int), x1, s 172 45], [(0, 0)], s) Q
        refine tI0 rfl (fun g _ l => zT_le ?_ (Nat.le_of_lt l)) (fun g _ l => (absurd g (by decide)))
        refine tL ((172 : Nat) : Int) 0 rfl rfl rfl ?_
        refine tK rfl ?_
        refine tL ((172 : Nat) : Int) 0 rfl rfl rfl ?_
        refine tFR (c := 172) 179 rfl rfl rfl rfl rfl ?_
        refine tK rfl ?_
        refine tL (s 172 45) 0 rfl rfl rfl ?_
        refine tB (v := w32 (5 + (s 172 45))) rfl rfl ?_
        refine tAv 179 ((w32 (5 + (s 172 45))).toNat) (s 179 ((w32 (5 + (s 172 45))).toNat)) 0 rfl rfl rfl (by decide) rfl rfl ?_
        refine tK rfl ?_
        refine tB (v := w32 ((s 179 ((w32 (5 + (s 172 45))).toNat)) - 1)) rfl rfl ?_
        exact tCall [(((172 : Nat) : Int), 0), (0, 0), (w32 ((s 179 ((w32 (5 + (s 172 45))).toNat)) - 1), 0)] [] rfl rfl rfl (fun m l => h2 g1 g2 g7 g8 m (Nat.lt_of_lt_of_le l (Nat.le_trans (Nat.le_of_lt l4) (Nat.le_refl n))))
      · intro g10 g11
        show zT (zE 1498) (Pt PX11_readsFlight) m4 (69, [((172 : Nat) : Int), x1, s 172 45], [(1, 0)], s) Q
        refine tI0 rfl (fun g _ l => (absurd g (by decide))) (fun g _ l => zT_le ?_ (Nat.le_of_lt l))
        refine tL ((172 : Nat) : Int) 0 rfl rfl rfl ?_
        refine tK rfl ?_
        refine tL (s 172 45) 0 rfl rfl rfl ?_
        refine tL ((172 : Nat) : Int) 0 rfl rfl rfl ?_
        refine tFv (c := 172) (s 172 8) 0 rfl rfl rfl rfl rfl ?_
        exact tCall [(((172 : Nat) : Int), 0), (1, 0), (s 172 45, 0), (s 172 8, 0)] [] rfl rfl rfl (fun m l => h3 g1 g2 g10 g11 m (Nat.lt_of_lt_of_le l (Nat.le_trans (Nat.le_of_lt l4) (Nat.le_refl n))))
  · refine tK rfl ?_
    exact tR rfl (h4 g1)

theorem b_X11_readsFlight_106 {n : Nat} {Q : Zr → Prop} (x1 x2 v0 : Int) (s : Zs) 
    (h0 : ∀ (g1 : v0 ≠ 0), ∀ m, m < n → zC m 1476 [(((172 : Nat) : Int), 0), (361373, 1), (1, 0), (40, 0)] (zu (zu s 180 x1.toNat x2) 181 x1.toNat (s 172 45)) (fun p => zT (zE 1498) (Pt PX11_readsFlight) m (138, [((172 : Nat) : Int), x1, x2], p.1 ++ [], p.2) Q))
    (h1 : ∀ (g1 : v0 = 0), Q ([(0, 0)], s)) : zT (zE 1498) (Pt PX11_readsFlight) n (106, [((172 : Nat) : Int), x1, x2], [(v0, 0)], s) Q := by
  refine tI1 rfl (fun g1 _ l1 => zT_le ?_ (Nat.le_of_lt l1)) (fun g1 _ l1 => zT_le ?_ (Nat.le_of_lt l1))
  · refine tL ((172 : Nat) : Int) 0 rfl rfl rfl ?_
    refine tFR (c := 172) 180 rfl rfl rfl rfl rfl ?_
    refine tL x1 0 rfl rfl rfl ?_
    refine tL x2 0 rfl rfl rfl ?_
    refine tAS 180 x1.toNat rfl rfl rfl (by decide) ?_
    refine tL ((172 : Nat) : Int) 0 rfl rfl rfl ?_
    refine tFR (c := 172) 181 rfl rfl rfl rfl rfl ?_
    refine tL x1 0 rfl rfl rfl ?_
    refine tL ((172 : Nat) : Int) 0 rfl rfl rfl ?_
    refine tFv (c := 172) (s 172 45) 0 rfl rfl rfl rfl rfl ?_
    refine tAS 181 x1.toNat rfl rfl rfl (by decide) ?_
    refine tL ((172 : Nat) : Int) 0 rfl rfl rfl ?_
    refine tKL rfl ?_
    refine tK rfl ?_
    refine tK rfl ?_
    exact tCall [(((172 : Nat) : Int), 0), (361373, 1), (1, 0), (40, 0)] [] rfl rfl rfl (fun m l => h0 g1 m (Nat.lt_of_lt_of_le l (Nat.le_refl n)))
  · refine tK rfl ?_
    exact tR rfl (h1 g1)

theorem b_X11_readsFlight_82 {n : Nat} {Q : Zr → Prop} (x1 x2 v0 : Int) (s : Zs) 
    (h0 : ∀ (g1 : v0 < 0), ∀ m, m < n → zC m 1478 [(((172 : Nat) : Int), 0), (0, 0), (w32 ((s 179 ((w32 (5 + x2)).toNat)) - 1), 0)] s (fun p => zT (zE 1498) (Pt PX11_readsFlight) m (106, [((172 : Nat) : Int), x1, x2], p.1 ++ [], p.2) Q))
    (h1 : ∀ (g1 : 0 ≤ v0), Q ([(0, 0)], zu s 172 9 (w32 (3 + (w32 (16 * (s 172 5))))))) : zT (zE 1498) (Pt PX11_readsFlight) n (82, [((172 : Nat) : Int), x1, x2], [(v0, 0)], s) Q := by
  refine tI2 rfl (fun g1 _ l1 => zT_le ?_ (Nat.le_of_lt l1)) (fun g1 _ l1 => zT_le ?_ (Nat.le_of_lt l1))
  · refine tL ((172 : Nat) : Int) 0 rfl rfl rfl ?_
    refine tK rfl ?_
    refine tL ((172 : Nat) : Int) 0 rfl rfl rfl ?_
    refine tFR (c := 172) 179 rfl rfl rfl rfl rfl ?_
    refine tK rfl ?_
    refine tL x2 0 rfl rfl rfl ?_
    refine tB (v := w32 (5 + x2)) rfl rfl ?_
    refine tAv 179 ((w32 (5 + x2)).toNat) (s 179 ((w32 (5 + x2)).toNat)) 0 rfl rfl rfl (by decide) rfl rfl ?_
    refine tK rfl ?_
    refine tB (v := w32 ((s 179 ((w32 (5 + x2)).toNat)) - 1)) rfl rfl ?_
    exact tCall [(((172 : Nat) : Int), 0), (0, 0), (w32 ((s 179 ((w32 (5 + x2)).toNat)) - 1), 0)] [] rfl rfl rfl (fun m l => h0 g1 m (Nat.lt_of_lt_of_le l (Nat.le_refl n)))
  · refine tL ((172 : Nat) : Int) 0 rfl rfl rfl ?_
    refine tK rfl ?_
    refine tCall [(((172 : Nat) : Int), 0), (3, 0)] [] rfl rfl rfl (fun m3 l3 => c_X11_fails (b_X11_fails_0 3 s ?_))
    · show zT (zE 1498) (Pt PX11_readsFlight) m3 (90, [((172 : Nat) : Int), x1, x2], [(0, 0)], zu s 172 9 (w32 (3 + (w32 (16 * (s 172 5)))))) Q
      exact tR rfl (h1 g1)

theorem b_X11_readsFlight_138 {n : Nat} {Q : Zr → Prop} (x1 x2 v0 : Int) (s : Zs) 
    (h0 : ∀ (g1 : v0 ≠ 0), ∀ m, m < n → zC m 1476 [(((172 : Nat) : Int), 0), (298288, 1), (0, 0), (10, 0)] (zu s 182 x1.toNat (s 172 45)) (fun p => zT (zE 1498) (Pt PX11_readsFlight) m (163, [((172 : Nat) : Int), x1, x2], p.1 ++ [], p.2) Q))
    (h1 : ∀ (g1 : v0 = 0), Q ([(0, 0)], s)) : zT (zE 1498) (Pt PX11_readsFlight) n (138, [((172 : Nat) : Int), x1, x2], [(v0, 0)], s) Q := by
  refine tI1 rfl (fun g1 _ l1 => zT_le ?_ (Nat.le_of_lt l1)) (fun g1 _ l1 => zT_le ?_ (Nat.le_of_lt l1))
  · refine tL ((172 : Nat) : Int) 0 rfl rfl rfl ?_
    refine tFR (c := 172) 182 rfl rfl rfl rfl rfl ?_
    refine tL x1 0 rfl rfl rfl ?_
    refine tL ((172 : Nat) : Int) 0 rfl rfl rfl ?_
    refine tFv (c := 172) (s 172 45) 0 rfl rfl rfl rfl rfl ?_
    refine tAS 182 x1.toNat rfl rfl rfl (by decide) ?_
    refine tL ((172 : Nat) : Int) 0 rfl rfl rfl ?_
    refine tKL rfl ?_
    refine tK rfl ?_
    refine tK rfl ?_
    exact tCall [(((172 : Nat) : Int), 0), (298288, 1), (0, 0), (10, 0)] [] rfl rfl rfl (fun m l => h0 g1 m (Nat.lt_of_lt_of_le l (Nat.le_refl n)))
  · refine tK rfl ?_
    exact tR rfl (h1 g1)

theorem b_X11_readsFlight_163 {n : Nat} {Q : Zr → Prop} (x1 x2 v0 : Int) (s : Zs) 
    (h0 : ∀ (g1 : v0 ≠ 0), ∀ m, m < n → zC m 1425 [(((172 : Nat) : Int), 0)] (zu (zu s 183 x1.toNat (s 172 45)) 174 8 (w32 ((s 174 8) + 1))) (fun p => zT (zE 1498) (Pt PX11_readsFlight) m (193, [((172 : Nat) : Int), x1, x2], p.1 ++ [], p.2) Q))
    (h1 : ∀ (g1 : v0 = 0), Q ([(0, 0)], s)) : zT (zE 1498) (Pt PX11_readsFlight) n (163, [((172 : Nat) : Int), x1, x2], [(v0, 0)], s) Q := by
  refine tI1 rfl (fun g1 _ l1 => zT_le ?_ (Nat.le_of_lt l1)) (fun g1 _ l1 => zT_le ?_ (Nat.le_of_lt l1))
  · refine tL ((172 : Nat) : Int) 0 rfl rfl rfl ?_
    refine tFR (c := 172) 183 rfl rfl rfl rfl rfl ?_
    refine tL x1 0 rfl rfl rfl ?_
    refine tL ((172 : Nat) : Int) 0 rfl rfl rfl ?_
    refine tFv (c := 172) (s 172 45) 0 rfl rfl rfl rfl rfl ?_
    refine tAS 183 x1.toNat rfl rfl rfl (by decide) ?_
    refine tL ((172 : Nat) : Int) 0 rfl rfl rfl ?_
    refine tFR (c := 172) 174 rfl rfl rfl rfl rfl ?_
    refine tK rfl ?_
    refine tD2 rfl ?_
    refine tAv 174 8 (s 174 8) 0 rfl rfl rfl (by decide) rfl rfl ?_
    refine tK rfl ?_
    refine tB (v := w32 ((s 174 8) + 1)) rfl rfl ?_
    refine tAS 174 8 rfl rfl rfl (by decide) ?_
    refine tL ((172 : Nat) : Int) 0 rfl rfl rfl ?_
    exact tCall [(((172 : Nat) : Int), 0)] [] rfl rfl rfl (fun m l => h0 g1 m (Nat.lt_of_lt_of_le l (Nat.le_refl n)))
  · refine tK rfl ?_
    exact tR rfl (h1 g1)

theorem b_X11_readsFlight_193 {n : Nat} {Q : Zr → Prop} (x1 x2 v0 : Int) (s : Zs) 
    (h0 : Q ([(v0, 0)], s)) : zT (zE 1498) (Pt PX11_readsFlight) n (193, [((172 : Nat) : Int), x1, x2], [(v0, 0)], s) Q := by
  exact tR rfl (h0)

theorem c_X11_readsFlight {n : Nat} {Q : Zr → Prop} {a0 : Int} {s : Zs} (h : zT (zE 1498) (Pt PX11_readsFlight) n (0, [a0, 0, 0], [], s) Q) : zC n 1498 [(a0, 0)] s Q := h

theorem b_X11_readsThing_0 {n : Nat} {Q : Zr → Prop} (x1 x2 x3 : Int) (s : Zs) 
    (h0 : ∀ (g1 : w32 (4 + (s 174 9)) ≠ 8), ∀ m, m < n → zC m 1482 [(((172 : Nat) : Int), 0)] s (fun p => zT (zE 1505) (Pt PX11_readsThing) m (26, [((172 : Nat) : Int), w32 (4 + (s 174 9)), x2, x3], p.1 ++ [], p.2) Q))
    (h1 : ∀ (g1 : w32 (4 + (s 174 9)) = 8), Q ([(0, 0)], zu s 172 9 (w32 (5 + (w32 (16 * (s 172 5))))))) : zT (zE 1505) (Pt PX11_readsThing) n (0, [((172 : Nat) : Int), x1, x2, x3], [], s) Q := by
  refine tK rfl ?_
  refine tL ((172 : Nat) : Int) 0 rfl rfl rfl ?_
  refine tFR (c := 172) 174 rfl rfl rfl rfl rfl ?_
  refine tK rfl ?_
  refine tAv 174 9 (s 174 9) 0 rfl rfl rfl (by decide) rfl rfl ?_
  refine tB (v := w32 (4 + (s 174 9))) rfl rfl ?_
  refine tS [((172 : Nat) : Int), w32 (4 + (s 174 9)), x2, x3] rfl rfl ?_
  refine tL (w32 (4 + (s 174 9))) 0 rfl rfl rfl ?_
  refine tK rfl ?_
  refine tJ1 rfl (fun g1 _ l1 => zT_le ?_ (Nat.le_of_lt l1)) (fun g1 _ l1 => zT_le ?_ (Nat.le_of_lt l1))
  · refine tL ((172 : Nat) : Int) 0 rfl rfl rfl ?_
    exact tCall [(((172 : Nat) : Int), 0)] [] rfl rfl rfl (fun m l => h0 g1 m (Nat.lt_of_lt_of_le l (Nat.le_refl n)))
  · refine tL ((172 : Nat) : Int) 0 rfl rfl rfl ?_
    refine tK rfl ?_
    refine tCall [(((172 : Nat) : Int), 0), (5, 0)] [] rfl rfl rfl (fun m3 l3 => c_X11_fails (b_X11_fails_0 5 s ?_))
    · show zT (zE 1505) (Pt PX11_readsThing) m3 (21, [((172 : Nat) : Int), w32 (4 + (s 174 9)), x2, x3], [(0, 0)], zu s 172 9 (w32 (5 + (w32 (16 * (s 172 5)))))) Q
      exact tR rfl (h1 g1)

theorem b_X11_readsThing_26 {n : Nat} {Q : Zr → Prop} (x1 x2 x3 : Int) (s : Zs) 
    (h0 : ∀ m, m < n → zC m 1451 [(((172 : Nat) : Int), 0)] s (fun p => zT (zE 1505) (Pt PX11_readsThing) m (30, [((172 : Nat) : Int), x1, x2, x3], p.1 ++ [], p.2) Q)) : zT (zE 1505) (Pt PX11_readsThing) n (26, [((172 : Nat) : Int), x1, x2, x3], [], s) Q := by
  refine tL ((172 : Nat) : Int) 0 rfl rfl rfl ?_
  exact tCall [(((172 : Nat) : Int), 0)] [] rfl rfl rfl (fun m l => h0 m (Nat.lt_of_lt_of_le l (Nat.le_refl n)))

theorem b_X11_readsThing_30 {n : Nat} {Q : Zr → Prop} (x1 x2 x3 v0 : Int) (s : Zs) 
    (h0 : ∀ (g1 : v0 ≠ 0), ∀ m, m < n → zC m 1482 [(((172 : Nat) : Int), 0)] s (fun p => zT (zE 1505) (Pt PX11_readsThing) m (44, [((172 : Nat) : Int), x1, s 172 7, x3], p.1 ++ [], p.2) Q))
    (h1 : ∀ (g1 : v0 = 0), Q ([(0, 0)], s)) : zT (zE 1505) (Pt PX11_readsThing) n (30, [((172 : Nat) : Int), x1, x2, x3], [(v0, 0)], s) Q := by
  refine tI1 rfl (fun g1 _ l1 => zT_le ?_ (Nat.le_of_lt l1)) (fun g1 _ l1 => zT_le ?_ (Nat.le_of_lt l1))
  · refine tL ((172 : Nat) : Int) 0 rfl rfl rfl ?_
    refine tFv (c := 172) (s 172 7) 1 rfl rfl rfl rfl rfl ?_
    refine tS [((172 : Nat) : Int), x1, s 172 7, x3] rfl rfl ?_
    refine tL ((172 : Nat) : Int) 0 rfl rfl rfl ?_
    exact tCall [(((172 : Nat) : Int), 0)] [] rfl rfl rfl (fun m l => h0 g1 m (Nat.lt_of_lt_of_le l (Nat.le_refl n)))
  · refine tK rfl ?_
    exact tR rfl (h1 g1)

theorem b_X11_readsThing_44 {n : Nat} {Q : Zr → Prop} (x1 x2 x3 : Int) (s : Zs) 
    (h0 : ∀ m, m < n → zC m 1476 [(((172 : Nat) : Int), 0), (6559372, 1), (1, 0), (40, 0)] s (fun p => zT (zE 1505) (Pt PX11_readsThing) m (54, [((172 : Nat) : Int), x1, x2, x3], p.1 ++ [], p.2) Q)) : zT (zE 1505) (Pt PX11_readsThing) n (44, [((172 : Nat) : Int), x1, x2, x3], [], s) Q := by
  refine tL ((172 : Nat) : Int) 0 rfl rfl rfl ?_
  refine tKL rfl ?_
  refine tK rfl ?_
  refine tK rfl ?_
  exact tCall [(((172 : Nat) : Int), 0), (6559372, 1), (1, 0), (40, 0)] [] rfl rfl rfl (fun m l => h0 m (Nat.lt_of_lt_of_le l (Nat.le_refl n)))

theorem b_X11_readsThing_54 {n : Nat} {Q : Zr → Prop} (x1 x2 x3 v0 : Int) (s : Zs) 
    (h0 : ∀ (g1 : v0 ≠ 0), ∀ m, m < n → zC m 1481 [(((172 : Nat) : Int), 0), (47, 1)] (zu s 184 x1.toNat (s 172 45)) (fun p => zT (zE 1505) (Pt PX11_readsThing) m (76, [((172 : Nat) : Int), x1, x2, x3], p.1 ++ [], p.2) Q))
    (h1 : ∀ (g1 : v0 = 0), Q ([(0, 0)], s)) : zT (zE 1505) (Pt PX11_readsThing) n (54, [((172 : Nat) : Int), x1, x2, x3], [(v0, 0)], s) Q := by
  refine tI1 rfl (fun g1 _ l1 => zT_le ?_ (Nat.le_of_lt l1)) (fun g1 _ l1 => zT_le ?_ (Nat.le_of_lt l1))
  · refine tL ((172 : Nat) : Int) 0 rfl rfl rfl ?_
    refine tFR (c := 172) 184 rfl rfl rfl rfl rfl ?_
    refine tL x1 0 rfl rfl rfl ?_
    refine tL ((172 : Nat) : Int) 0 rfl rfl rfl ?_
    refine tFv (c := 172) (s 172 45) 0 rfl rfl rfl rfl rfl ?_
    refine tAS 184 x1.toNat rfl rfl rfl (by decide) ?_
    refine tL ((172 : Nat) : Int) 0 rfl rfl rfl ?_
    refine tKL rfl ?_
    exact tCall [(((172 : Nat) : Int), 0), (47, 1)] [] rfl rfl rfl (fun m l => h0 g1 m (Nat.lt_of_lt_of_le l (Nat.le_refl n)))
  · refine tK rfl ?_
    exact tR rfl (h1 g1)

theorem b_X11_readsThing_76 {n : Nat} {Q : Zr → Prop} (x1 x2 x3 v0 : Int) (s : Zs) 
    (h0 : ∀ (g1 : v0 = 0), Q ([(0, 0)], s))
    (h1 : ∀ (g1 : v0 ≠ 0), ∀ m, m < n → zC m 1479 [(((172 : Nat) : Int), 0), (1, 0)] s (fun p => zT (zE 1505) (Pt PX11_readsThing) m (84, [((172 : Nat) : Int), x1, x2, x3], p.1 ++ [], p.2) Q)) : zT (zE 1505) (Pt PX11_readsThing) n (76, [((172 : Nat) : Int), x1, x2, x3], [(v0, 0)], s) Q := by
  refine tI0 rfl (fun g1 _ l1 => zT_le ?_ (Nat.le_of_lt l1)) (fun g1 _ l1 => zT_le ?_ (Nat.le_of_lt l1))
  · refine tK rfl ?_
    exact tR rfl (h0 g1)
  · refine tL ((172 : Nat) : Int) 0 rfl rfl rfl ?_
    refine tK rfl ?_
    exact tCall [(((172 : Nat) : Int), 0), (1, 0)] [] rfl rfl rfl (fun m l => h1 g1 m (Nat.lt_of_lt_of_le l (Nat.le_refl n)))

theorem b_X11_readsThing_84 {n : Nat} {Q : Zr → Prop} (x1 x2 x3 v0 : Int) (s : Zs) 
    (h0 : ∀ (g1 : v0 ≠ 0), ∀ m, m < n → zC m 1425 [(((172 : Nat) : Int), 0)] (zu (zu (zu s 185 x1.toNat (s 172 45)) 176 x1.toNat x2) 174 9 (w32 ((s 174 9) + 1))) (fun p => zT (zE 1505) (Pt PX11_readsThing) m (121, [((172 : Nat) : Int), x1, x2, x3], p.1 ++ [], p.2) Q))
    (h1 : ∀ (g1 : v0 = 0), Q ([(0, 0)], s)) : zT (zE 1505) (Pt PX11_readsThing) n (84, [((172 : Nat) : Int), x1, x2, x3], [(v0, 0)], s) Q := by
  refine tI1 rfl (fun g1 _ l1 => zT_le ?_ (Nat.le_of_lt l1)) (fun g1 _ l1 => zT_le ?_ (Nat.le_of_lt l1))
  · refine tL ((172 : Nat) : Int) 0 rfl rfl rfl ?_
    refine tFR (c := 172) 185 rfl rfl rfl rfl rfl ?_
    refine tL x1 0 rfl rfl rfl ?_
    refine tL ((172 : Nat) : Int) 0 rfl rfl rfl ?_
    refine tFv (c := 172) (s 172 45) 0 rfl rfl rfl rfl rfl ?_
    refine tAS 185 x1.toNat rfl rfl rfl (by decide) ?_
    refine tL ((172 : Nat) : Int) 0 rfl rfl rfl ?_
    refine tFR (c := 172) 176 rfl rfl rfl rfl rfl ?_
    refine tL x1 0 rfl rfl rfl ?_
    refine tL x2 1 rfl rfl rfl ?_
    refine tAS 176 x1.toNat rfl rfl rfl (by decide) ?_
    refine tL ((172 : Nat) : Int) 0 rfl rfl rfl ?_
    refine tFR (c := 172) 174 rfl rfl rfl rfl rfl ?_
    refine tK rfl ?_
    refine tD2 rfl ?_
    refine tAv 174 9 (s 174 9) 0 rfl rfl rfl (by decide) rfl rfl ?_
    refine tK rfl ?_
    refine tB (v := w32 ((s 174 9) + 1)) rfl rfl ?_
    refine tAS 174 9 rfl rfl rfl (by decide) ?_
    refine tL ((172 : Nat) : Int) 0 rfl rfl rfl ?_
    exact tCall [(((172 : Nat) : Int), 0)] [] rfl rfl rfl (fun m l => h0 g1 m (Nat.lt_of_lt_of_le l (Nat.le_refl n)))
  · refine tK rfl ?_
    exact tR rfl (h1 g1)

theorem b_X11_readsThing_121 {n : Nat} {Q : Zr → Prop} (x1 x2 x3 v0 : Int) (s : Zs) 
    (h0 : Q ([(v0, 0)], s)) : zT (zE 1505) (Pt PX11_readsThing) n (121, [((172 : Nat) : Int), x1, x2, x3], [(v0, 0)], s) Q := by
  exact tR rfl (h0)

theorem c_X11_readsThing {n : Nat} {Q : Zr → Prop} {a0 : Int} {s : Zs} (h : zT (zE 1505) (Pt PX11_readsThing) n (0, [a0, 0, 0, 0], [], s) Q) : zC n 1505 [(a0, 0)] s Q := h

theorem b_X11_readsPerson_0 {n : Nat} {Q : Zr → Prop} (x1 x2 x3 : Int) (s : Zs) 
    (h0 : ∀ (g1 : w32 (5 + (s 174 10)) ≠ 10), ∀ m, m < n → zC m 1482 [(((172 : Nat) : Int), 0)] s (fun p => zT (zE 1503) (Pt PX11_readsPerson) m (26, [((172 : Nat) : Int), w32 (5 + (s 174 10)), x2, x3], p.1 ++ [], p.2) Q))
    (h1 : ∀ (g1 : w32 (5 + (s 174 10)) = 10), Q ([(0, 0)], zu s 172 9 (w32 (5 + (w32 (16 * (s 172 5))))))) : zT (zE 1503) (Pt PX11_readsPerson) n (0, [((172 : Nat) : Int), x1, x2, x3], [], s) Q := by
  refine tK rfl ?_
  refine tL ((172 : Nat) : Int) 0 rfl rfl rfl ?_
  refine tFR (c := 172) 174 rfl rfl rfl rfl rfl ?_
  refine tK rfl ?_
  refine tAv 174 10 (s 174 10) 0 rfl rfl rfl (by decide) rfl rfl ?_
  refine tB (v := w32 (5 + (s 174 10))) rfl rfl ?_
  refine tS [((172 : Nat) : Int), w32 (5 + (s 174 10)), x2, x3] rfl rfl ?_
  refine tL (w32 (5 + (s 174 10))) 0 rfl rfl rfl ?_
  refine tK rfl ?_
  refine tJ1 rfl (fun g1 _ l1 => zT_le ?_ (Nat.le_of_lt l1)) (fun g1 _ l1 => zT_le ?_ (Nat.le_of_lt l1))
  · refine tL ((172 : Nat) : Int) 0 rfl rfl rfl ?_
    exact tCall [(((172 : Nat) : Int), 0)] [] rfl rfl rfl (fun m l => h0 g1 m (Nat.lt_of_lt_of_le l (Nat.le_refl n)))
  · refine tL ((172 : Nat) : Int) 0 rfl rfl rfl ?_
    refine tK rfl ?_
    refine tCall [(((172 : Nat) : Int), 0), (5, 0)] [] rfl rfl rfl (fun m3 l3 => c_X11_fails (b_X11_fails_0 5 s ?_))
    · show zT (zE 1503) (Pt PX11_readsPerson) m3 (21, [((172 : Nat) : Int), w32 (5 + (s 174 10)), x2, x3], [(0, 0)], zu s 172 9 (w32 (5 + (w32 (16 * (s 172 5)))))) Q
      exact tR rfl (h1 g1)

theorem b_X11_readsPerson_26 {n : Nat} {Q : Zr → Prop} (x1 x2 x3 : Int) (s : Zs) 
    (h0 : ∀ m, m < n → zC m 1451 [(((172 : Nat) : Int), 0)] s (fun p => zT (zE 1503) (Pt PX11_readsPerson) m (30, [((172 : Nat) : Int), x1, x2, x3], p.1 ++ [], p.2) Q)) : zT (zE 1503) (Pt PX11_readsPerson) n (26, [((172 : Nat) : Int), x1, x2, x3], [], s) Q := by
  refine tL ((172 : Nat) : Int) 0 rfl rfl rfl ?_
  exact tCall [(((172 : Nat) : Int), 0)] [] rfl rfl rfl (fun m l => h0 m (Nat.lt_of_lt_of_le l (Nat.le_refl n)))

theorem b_X11_readsPerson_30 {n : Nat} {Q : Zr → Prop} (x1 x2 x3 v0 : Int) (s : Zs) 
    (h0 : ∀ (g1 : v0 ≠ 0), ∀ m, m < n → zC m 1482 [(((172 : Nat) : Int), 0)] s (fun p => zT (zE 1503) (Pt PX11_readsPerson) m (44, [((172 : Nat) : Int), x1, s 172 7, x3], p.1 ++ [], p.2) Q))
    (h1 : ∀ (g1 : v0 = 0), Q ([(0, 0)], s)) : zT (zE 1503) (Pt PX11_readsPerson) n (30, [((172 : Nat) : Int), x1, x2, x3], [(v0, 0)], s) Q := by
  refine tI1 rfl (fun g1 _ l1 => zT_le ?_ (Nat.le_of_lt l1)) (fun g1 _ l1 => zT_le ?_ (Nat.le_of_lt l1))
  · refine tL ((172 : Nat) : Int) 0 rfl rfl rfl ?_
    refine tFv (c := 172) (s 172 7) 1 rfl rfl rfl rfl rfl ?_
    refine tS [((172 : Nat) : Int), x1, s 172 7, x3] rfl rfl ?_
    refine tL ((172 : Nat) : Int) 0 rfl rfl rfl ?_
    exact tCall [(((172 : Nat) : Int), 0)] [] rfl rfl rfl (fun m l => h0 g1 m (Nat.lt_of_lt_of_le l (Nat.le_refl n)))
  · refine tK rfl ?_
    exact tR rfl (h1 g1)

theorem b_X11_readsPerson_44 {n : Nat} {Q : Zr → Prop} (x1 x2 x3 : Int) (s : Zs) 
    (h0 : ∀ m, m < n → zC m 1481 [(((172 : Nat) : Int), 0), (47, 1)] s (fun p => zT (zE 1503) (Pt PX11_readsPerson) m (51, [((172 : Nat) : Int), x1, x2, x3], p.1 ++ [], p.2) Q)) : zT (zE 1503) (Pt PX11_readsPerson) n (44, [((172 : Nat) : Int), x1, x2, x3], [], s) Q := by
  refine tL ((172 : Nat) : Int) 0 rfl rfl rfl ?_
  refine tKL rfl ?_
  exact tCall [(((172 : Nat) : Int), 0), (47, 1)] [] rfl rfl rfl (fun m l => h0 m (Nat.lt_of_lt_of_le l (Nat.le_refl n)))

theorem b_X11_readsPerson_51 {n : Nat} {Q : Zr → Prop} (x1 x2 x3 v0 : Int) (s : Zs) 
    (h0 : ∀ (g1 : v0 = 0), Q ([(0, 0)], s))
    (h1 : ∀ (g1 : v0 ≠ 0), ∀ m, m < n → zC m 1479 [(((172 : Nat) : Int), 0), (1, 0)] s (fun p => zT (zE 1503) (Pt PX11_readsPerson) m (59, [((172 : Nat) : Int), x1, x2, x3], p.1 ++ [], p.2) Q)) : zT (zE 1503) (Pt PX11_readsPerson) n (51, [((172 : Nat) : Int), x1, x2, x3], [(v0, 0)], s) Q := by
  refine tI0 rfl (fun g1 _ l1 => zT_le ?_ (Nat.le_of_lt l1)) (fun g1 _ l1 => zT_le ?_ (Nat.le_of_lt l1))
  · refine tK rfl ?_
    exact tR rfl (h0 g1)
  · refine tL ((172 : Nat) : Int) 0 rfl rfl rfl ?_
    refine tK rfl ?_
    exact tCall [(((172 : Nat) : Int), 0), (1, 0)] [] rfl rfl rfl (fun m l => h1 g1 m (Nat.lt_of_lt_of_le l (Nat.le_refl n)))

theorem b_X11_readsPerson_59 {n : Nat} {Q : Zr → Prop} (x1 x2 x3 v0 : Int) (s : Zs) 
    (h0 : ∀ (g1 : v0 ≠ 0), ∀ m, m < n → zC m 1476 [(((172 : Nat) : Int), 0), (9665171, 1), (0, 0), (40, 0)] (zu s 186 x1.toNat (s 172 45)) (fun p => zT (zE 1503) (Pt PX11_readsPerson) m (84, [((172 : Nat) : Int), x1, x2, x3], p.1 ++ [], p.2) Q))
    (h1 : ∀ (g1 : v0 = 0), Q ([(0, 0)], s)) : zT (zE 1503) (Pt PX11_readsPerson) n (59, [((172 : Nat) : Int), x1, x2, x3], [(v0, 0)], s) Q := by
  refine tI1 rfl (fun g1 _ l1 => zT_le ?_ (Nat.le_of_lt l1)) (fun g1 _ l1 => zT_le ?_ (Nat.le_of_lt l1))
  · refine tL ((172 : Nat) : Int) 0 rfl rfl rfl ?_
    refine tFR (c := 172) 186 rfl rfl rfl rfl rfl ?_
    refine tL x1 0 rfl rfl rfl ?_
    refine tL ((172 : Nat) : Int) 0 rfl rfl rfl ?_
    refine tFv (c := 172) (s 172 45) 0 rfl rfl rfl rfl rfl ?_
    refine tAS 186 x1.toNat rfl rfl rfl (by decide) ?_
    refine tL ((172 : Nat) : Int) 0 rfl rfl rfl ?_
    refine tKL rfl ?_
    refine tK rfl ?_
    refine tK rfl ?_
    exact tCall [(((172 : Nat) : Int), 0), (9665171, 1), (0, 0), (40, 0)] [] rfl rfl rfl (fun m l => h0 g1 m (Nat.lt_of_lt_of_le l (Nat.le_refl n)))
  · refine tK rfl ?_
    exact tR rfl (h1 g1)

theorem b_X11_readsPerson_84 {n : Nat} {Q : Zr → Prop} (x1 x2 x3 v0 : Int) (s : Zs) 
    (h0 : ∀ (g1 : v0 ≠ 0), ∀ m, m < n → zC m 1476 [(((172 : Nat) : Int), 0), (291595537, 1), (0, 0), (6, 0)] (zu s 187 x1.toNat (s 172 45)) (fun p => zT (zE 1503) (Pt PX11_readsPerson) m (109, [((172 : Nat) : Int), x1, x2, x3], p.1 ++ [], p.2) Q))
    (h1 : ∀ (g1 : v0 = 0), Q ([(0, 0)], s)) : zT (zE 1503) (Pt PX11_readsPerson) n (84, [((172 : Nat) : Int), x1, x2, x3], [(v0, 0)], s) Q := by
  refine tI1 rfl (fun g1 _ l1 => zT_le ?_ (Nat.le_of_lt l1)) (fun g1 _ l1 => zT_le ?_ (Nat.le_of_lt l1))
  · refine tL ((172 : Nat) : Int) 0 rfl rfl rfl ?_
    refine tFR (c := 172) 187 rfl rfl rfl rfl rfl ?_
    refine tL x1 0 rfl rfl rfl ?_
    refine tL ((172 : Nat) : Int) 0 rfl rfl rfl ?_
    refine tFv (c := 172) (s 172 45) 0 rfl rfl rfl rfl rfl ?_
    refine tAS 187 x1.toNat rfl rfl rfl (by decide) ?_
    refine tL ((172 : Nat) : Int) 0 rfl rfl rfl ?_
    refine tKL rfl ?_
    refine tK rfl ?_
    refine tK rfl ?_
    exact tCall [(((172 : Nat) : Int), 0), (291595537, 1), (0, 0), (6, 0)] [] rfl rfl rfl (fun m l => h0 g1 m (Nat.lt_of_lt_of_le l (Nat.le_refl n)))
  · refine tK rfl ?_
    exact tR rfl (h1 g1)

theorem b_X11_readsPerson_109 {n : Nat} {Q : Zr → Prop} (x1 x2 x3 v0 : Int) (s : Zs) 
    (h0 : ∀ (g1 : v0 ≠ 0), ∀ m, m < n → zC m 1481 [(((172 : Nat) : Int), 0), (12253591, 1)] (zu s 188 x1.toNat (s 172 45)) (fun p => zT (zE 1503) (Pt PX11_readsPerson) m (131, [((172 : Nat) : Int), x1, x2, x3], p.1 ++ [], p.2) Q))
    (h1 : ∀ (g1 : v0 = 0), Q ([(0, 0)], s)) : zT (zE 1503) (Pt PX11_readsPerson) n (109, [((172 : Nat) : Int), x1, x2, x3], [(v0, 0)], s) Q := by
  refine tI1 rfl (fun g1 _ l1 => zT_le ?_ (Nat.le_of_lt l1)) (fun g1 _ l1 => zT_le ?_ (Nat.le_of_lt l1))
  · refine tL ((172 : Nat) : Int) 0 rfl rfl rfl ?_
    refine tFR (c := 172) 188 rfl rfl rfl rfl rfl ?_
    refine tL x1 0 rfl rfl rfl ?_
    refine tL ((172 : Nat) : Int) 0 rfl rfl rfl ?_
    refine tFv (c := 172) (s 172 45) 0 rfl rfl rfl rfl rfl ?_
    refine tAS 188 x1.toNat rfl rfl rfl (by decide) ?_
    refine tL ((172 : Nat) : Int) 0 rfl rfl rfl ?_
    refine tKL rfl ?_
    exact tCall [(((172 : Nat) : Int), 0), (12253591, 1)] [] rfl rfl rfl (fun m l => h0 g1 m (Nat.lt_of_lt_of_le l (Nat.le_refl n)))
  · refine tK rfl ?_
    exact tR rfl (h1 g1)

theorem b_X11_readsPerson_131 {n : Nat} {Q : Zr → Prop} (x1 x2 x3 v0 : Int) (s : Zs) 
    (h0 : ∀ (g1 : v0 = 0), Q ([(0, 0)], s))
    (h1 : ∀ (g1 : v0 ≠ 0), ∀ m, m < n → zC m 1479 [(((172 : Nat) : Int), 0), (1, 0)] s (fun p => zT (zE 1503) (Pt PX11_readsPerson) m (139, [((172 : Nat) : Int), x1, x2, x3], p.1 ++ [], p.2) Q)) : zT (zE 1503) (Pt PX11_readsPerson) n (131, [((172 : Nat) : Int), x1, x2, x3], [(v0, 0)], s) Q := by
  refine tI0 rfl (fun g1 _ l1 => zT_le ?_ (Nat.le_of_lt l1)) (fun g1 _ l1 => zT_le ?_ (Nat.le_of_lt l1))
  · refine tK rfl ?_
    exact tR rfl (h0 g1)
  · refine tL ((172 : Nat) : Int) 0 rfl rfl rfl ?_
    refine tK rfl ?_
    exact tCall [(((172 : Nat) : Int), 0), (1, 0)] [] rfl rfl rfl (fun m l => h1 g1 m (Nat.lt_of_lt_of_le l (Nat.le_refl n)))

theorem b_X11_readsPerson_139 {n : Nat} {Q : Zr → Prop} (x1 x2 x3 v0 : Int) (s : Zs) 
    (h0 : ∀ (g1 : v0 ≠ 0), ∀ m, m < n → zC m 1425 [(((172 : Nat) : Int), 0)] (zu (zu (zu s 189 x1.toNat (s 172 45)) 177 x1.toNat x2) 174 10 (w32 ((s 174 10) + 1))) (fun p => zT (zE 1503) (Pt PX11_readsPerson) m (176, [((172 : Nat) : Int), x1, x2, x3], p.1 ++ [], p.2) Q))
    (h1 : ∀ (g1 : v0 = 0), Q ([(0, 0)], s)) : zT (zE 1503) (Pt PX11_readsPerson) n (139, [((172 : Nat) : Int), x1, x2, x3], [(v0, 0)], s) Q := by
  refine tI1 rfl (fun g1 _ l1 => zT_le ?_ (Nat.le_of_lt l1)) (fun g1 _ l1 => zT_le ?_ (Nat.le_of_lt l1))
  · refine tL ((172 : Nat) : Int) 0 rfl rfl rfl ?_
    refine tFR (c := 172) 189 rfl rfl rfl rfl rfl ?_
    refine tL x1 0 rfl rfl rfl ?_
    refine tL ((172 : Nat) : Int) 0 rfl rfl rfl ?_
    refine tFv (c := 172) (s 172 45) 0 rfl rfl rfl rfl rfl ?_
    refine tAS 189 x1.toNat rfl rfl rfl (by decide) ?_
    refine tL ((172 : Nat) : Int) 0 rfl rfl rfl ?_
    refine tFR (c := 172) 177 rfl rfl rfl rfl rfl ?_
    refine tL x1 0 rfl rfl rfl ?_
    refine tL x2 1 rfl rfl rfl ?_
    refine tAS 177 x1.toNat rfl rfl rfl (by decide) ?_
    refine tL ((172 : Nat) : Int) 0 rfl rfl rfl ?_
    refine tFR (c := 172) 174 rfl rfl rfl rfl rfl ?_
    refine tK rfl ?_
    refine tD2 rfl ?_
    refine tAv 174 10 (s 174 10) 0 rfl rfl rfl (by decide) rfl rfl ?_
    refine tK rfl ?_
    refine tB (v := w32 ((s 174 10) + 1)) rfl rfl ?_
    refine tAS 174 10 rfl rfl rfl (by decide) ?_
    refine tL ((172 : Nat) : Int) 0 rfl rfl rfl ?_
    exact tCall [(((172 : Nat) : Int), 0)] [] rfl rfl rfl (fun m l => h0 g1 m (Nat.lt_of_lt_of_le l (Nat.le_refl n)))
  · refine tK rfl ?_
    exact tR rfl (h1 g1)

theorem b_X11_readsPerson_176 {n : Nat} {Q : Zr → Prop} (x1 x2 x3 v0 : Int) (s : Zs) 
    (h0 : Q ([(v0, 0)], s)) : zT (zE 1503) (Pt PX11_readsPerson) n (176, [((172 : Nat) : Int), x1, x2, x3], [(v0, 0)], s) Q := by
  exact tR rfl (h0)

theorem c_X11_readsPerson {n : Nat} {Q : Zr → Prop} {a0 : Int} {s : Zs} (h : zT (zE 1503) (Pt PX11_readsPerson) n (0, [a0, 0, 0, 0], [], s) Q) : zC n 1503 [(a0, 0)] s Q := h

theorem b_X11_readsHill_0 {n : Nat} {Q : Zr → Prop} (x1 x2 x3 : Int) (s : Zs) 
    (h0 : ∀ (g1 : w32 (4 + (s 174 11)) ≠ 8), ∀ m, m < n → zC m 1482 [(((172 : Nat) : Int), 0)] s (fun p => zT (zE 1499) (Pt PX11_readsHill) m (26, [((172 : Nat) : Int), w32 (4 + (s 174 11)), x2, x3], p.1 ++ [], p.2) Q))
    (h1 : ∀ (g1 : w32 (4 + (s 174 11)) = 8), Q ([(0, 0)], zu s 172 9 (w32 (5 + (w32 (16 * (s 172 5))))))) : zT (zE 1499) (Pt PX11_readsHill) n (0, [((172 : Nat) : Int), x1, x2, x3], [], s) Q := by
  refine tK rfl ?_
  refine tL ((172 : Nat) : Int) 0 rfl rfl rfl ?_
  refine tFR (c := 172) 174 rfl rfl rfl rfl rfl ?_
  refine tK rfl ?_
  refine tAv 174 11 (s 174 11) 0 rfl rfl rfl (by decide) rfl rfl ?_
  refine tB (v := w32 (4 + (s 174 11))) rfl rfl ?_
  refine tS [((172 : Nat) : Int), w32 (4 + (s 174 11)), x2, x3] rfl rfl ?_
  refine tL (w32 (4 + (s 174 11))) 0 rfl rfl rfl ?_
  refine tK rfl ?_
  refine tJ1 rfl (fun g1 _ l1 => zT_le ?_ (Nat.le_of_lt l1)) (fun g1 _ l1 => zT_le ?_ (Nat.le_of_lt l1))
  · refine tL ((172 : Nat) : Int) 0 rfl rfl rfl ?_
    exact tCall [(((172 : Nat) : Int), 0)] [] rfl rfl rfl (fun m l => h0 g1 m (Nat.lt_of_lt_of_le l (Nat.le_refl n)))
  · refine tL ((172 : Nat) : Int) 0 rfl rfl rfl ?_
    refine tK rfl ?_
    refine tCall [(((172 : Nat) : Int), 0), (5, 0)] [] rfl rfl rfl (fun m3 l3 => c_X11_fails (b_X11_fails_0 5 s ?_))
    · show zT (zE 1499) (Pt PX11_readsHill) m3 (21, [((172 : Nat) : Int), w32 (4 + (s 174 11)), x2, x3], [(0, 0)], zu s 172 9 (w32 (5 + (w32 (16 * (s 172 5)))))) Q
      exact tR rfl (h1 g1)

theorem b_X11_readsHill_26 {n : Nat} {Q : Zr → Prop} (x1 x2 x3 : Int) (s : Zs) 
    (h0 : ∀ m, m < n → zC m 1451 [(((172 : Nat) : Int), 0)] s (fun p => zT (zE 1499) (Pt PX11_readsHill) m (30, [((172 : Nat) : Int), x1, x2, x3], p.1 ++ [], p.2) Q)) : zT (zE 1499) (Pt PX11_readsHill) n (26, [((172 : Nat) : Int), x1, x2, x3], [], s) Q := by
  refine tL ((172 : Nat) : Int) 0 rfl rfl rfl ?_
  exact tCall [(((172 : Nat) : Int), 0)] [] rfl rfl rfl (fun m l => h0 m (Nat.lt_of_lt_of_le l (Nat.le_refl n)))

theorem b_X11_readsHill_30 {n : Nat} {Q : Zr → Prop} (x1 x2 x3 v0 : Int) (s : Zs) 
    (h0 : ∀ (g1 : v0 ≠ 0), ∀ m, m < n → zC m 1482 [(((172 : Nat) : Int), 0)] s (fun p => zT (zE 1499) (Pt PX11_readsHill) m (44, [((172 : Nat) : Int), x1, s 172 7, x3], p.1 ++ [], p.2) Q))
    (h1 : ∀ (g1 : v0 = 0), Q ([(0, 0)], s)) : zT (zE 1499) (Pt PX11_readsHill) n (30, [((172 : Nat) : Int), x1, x2, x3], [(v0, 0)], s) Q := by
  refine tI1 rfl (fun g1 _ l1 => zT_le ?_ (Nat.le_of_lt l1)) (fun g1 _ l1 => zT_le ?_ (Nat.le_of_lt l1))
  · refine tL ((172 : Nat) : Int) 0 rfl rfl rfl ?_
    refine tFv (c := 172) (s 172 7) 1 rfl rfl rfl rfl rfl ?_
    refine tS [((172 : Nat) : Int), x1, s 172 7, x3] rfl rfl ?_
    refine tL ((172 : Nat) : Int) 0 rfl rfl rfl ?_
    exact tCall [(((172 : Nat) : Int), 0)] [] rfl rfl rfl (fun m l => h0 g1 m (Nat.lt_of_lt_of_le l (Nat.le_refl n)))
  · refine tK rfl ?_
    exact tR rfl (h1 g1)

theorem b_X11_readsHill_44 {n : Nat} {Q : Zr → Prop} (x1 x2 x3 : Int) (s : Zs) 
    (h0 : ∀ m, m < n → zC m 1476 [(((172 : Nat) : Int), 0), (361373, 1), (1, 0), (99, 0)] s (fun p => zT (zE 1499) (Pt PX11_readsHill) m (54, [((172 : Nat) : Int), x1, x2, x3], p.1 ++ [], p.2) Q)) : zT (zE 1499) (Pt PX11_readsHill) n (44, [((172 : Nat) : Int), x1, x2, x3], [], s) Q := by
  refine tL ((172 : Nat) : Int) 0 rfl rfl rfl ?_
  refine tKL rfl ?_
  refine tK rfl ?_
  refine tK rfl ?_
  exact tCall [(((172 : Nat) : Int), 0), (361373, 1), (1, 0), (99, 0)] [] rfl rfl rfl (fun m l => h0 m (Nat.lt_of_lt_of_le l (Nat.le_refl n)))

theorem b_X11_readsHill_54 {n : Nat} {Q : Zr → Prop} (x1 x2 x3 v0 : Int) (s : Zs) 
    (h0 : ∀ (g1 : v0 ≠ 0), ∀ m, m < n → zC m 1476 [(((172 : Nat) : Int), 0), (316351, 1), (0, 0), (99, 0)] (zu s 190 x1.toNat (s 172 45)) (fun p => zT (zE 1499) (Pt PX11_readsHill) m (79, [((172 : Nat) : Int), x1, x2, x3], p.1 ++ [], p.2) Q))
    (h1 : ∀ (g1 : v0 = 0), Q ([(0, 0)], s)) : zT (zE 1499) (Pt PX11_readsHill) n (54, [((172 : Nat) : Int), x1, x2, x3], [(v0, 0)], s) Q := by
  refine tI1 rfl (fun g1 _ l1 => zT_le ?_ (Nat.le_of_lt l1)) (fun g1 _ l1 => zT_le ?_ (Nat.le_of_lt l1))
  · refine tL ((172 : Nat) : Int) 0 rfl rfl rfl ?_
    refine tFR (c := 172) 190 rfl rfl rfl rfl rfl ?_
    refine tL x1 0 rfl rfl rfl ?_
    refine tL ((172 : Nat) : Int) 0 rfl rfl rfl ?_
    refine tFv (c := 172) (s 172 45) 0 rfl rfl rfl rfl rfl ?_
    refine tAS 190 x1.toNat rfl rfl rfl (by decide) ?_
    refine tL ((172 : Nat) : Int) 0 rfl rfl rfl ?_
    refine tKL rfl ?_
    refine tK rfl ?_
    refine tK rfl ?_
    exact tCall [(((172 : Nat) : Int), 0), (316351, 1), (0, 0), (99, 0)] [] rfl rfl rfl (fun m l => h0 g1 m (Nat.lt_of_lt_of_le l (Nat.le_refl n)))
  · refine tK rfl ?_
    exact tR rfl (h1 g1)

theorem b_X11_readsHill_79 {n : Nat} {Q : Zr → Prop} (x1 x2 x3 v0 : Int) (s : Zs) 
    (h0 : ∀ (g1 : v0 ≠ 0), ∀ m, m < n → zC m 1425 [(((172 : Nat) : Int), 0)] (zu (zu (zu s 191 x1.toNat (s 172 45)) 178 x1.toNat x2) 174 11 (w32 ((s 174 11) + 1))) (fun p => zT (zE 1499) (Pt PX11_readsHill) m (116, [((172 : Nat) : Int), x1, x2, x3], p.1 ++ [], p.2) Q))
    (h1 : ∀ (g1 : v0 = 0), Q ([(0, 0)], s)) : zT (zE 1499) (Pt PX11_readsHill) n (79, [((172 : Nat) : Int), x1, x2, x3], [(v0, 0)], s) Q := by
  refine tI1 rfl (fun g1 _ l1 => zT_le ?_ (Nat.le_of_lt l1)) (fun g1 _ l1 => zT_le ?_ (Nat.le_of_lt l1))
  · refine tL ((172 : Nat) : Int) 0 rfl rfl rfl ?_
    refine tFR (c := 172) 191 rfl rfl rfl rfl rfl ?_
    refine tL x1 0 rfl rfl rfl ?_
    refine tL ((172 : Nat) : Int) 0 rfl rfl rfl ?_
    refine tFv (c := 172) (s 172 45) 0 rfl rfl rfl rfl rfl ?_
    refine tAS 191 x1.toNat rfl rfl rfl (by decide) ?_
    refine tL ((172 : Nat) : Int) 0 rfl rfl rfl ?_
    refine tFR (c := 172) 178 rfl rfl rfl rfl rfl ?_
    refine tL x1 0 rfl rfl rfl ?_
    refine tL x2 1 rfl rfl rfl ?_
    refine tAS 178 x1.toNat rfl rfl rfl (by decide) ?_
    refine tL ((172 : Nat) : Int) 0 rfl rfl rfl ?_
    refine tFR (c := 172) 174 rfl rfl rfl rfl rfl ?_
    refine tK rfl ?_
    refine tD2 rfl ?_
    refine tAv 174 11 (s 174 11) 0 rfl rfl rfl (by decide) rfl rfl ?_
    refine tK rfl ?_
    refine tB (v := w32 ((s 174 11) + 1)) rfl rfl ?_
    refine tAS 174 11 rfl rfl rfl (by decide) ?_
    refine tL ((172 : Nat) : Int) 0 rfl rfl rfl ?_
    exact tCall [(((172 : Nat) : Int), 0)] [] rfl rfl rfl (fun m l => h0 g1 m (Nat.lt_of_lt_of_le l (Nat.le_refl n)))
  · refine tK rfl ?_
    exact tR rfl (h1 g1)

theorem b_X11_readsHill_116 {n : Nat} {Q : Zr → Prop} (x1 x2 x3 v0 : Int) (s : Zs) 
    (h0 : Q ([(v0, 0)], s)) : zT (zE 1499) (Pt PX11_readsHill) n (116, [((172 : Nat) : Int), x1, x2, x3], [(v0, 0)], s) Q := by
  exact tR rfl (h0)

theorem c_X11_readsHill {n : Nat} {Q : Zr → Prop} {a0 : Int} {s : Zs} (h : zT (zE 1499) (Pt PX11_readsHill) n (0, [a0, 0, 0, 0], [], s) Q) : zC n 1499 [(a0, 0)] s Q := h

theorem b_X11_readsOne_0 {n : Nat} {Q : Zr → Prop} (x1 x2 : Int) (s : Zs) 
    (h0 : ∀ m, m < n → zC m 1457 [(((172 : Nat) : Int), 0), (x1, 0)] s (fun p => zT (zE 1502) (Pt PX11_readsOne) m (5, [((172 : Nat) : Int), x1, x2], p.1 ++ [], p.2) Q)) : zT (zE 1502) (Pt PX11_readsOne) n (0, [((172 : Nat) : Int), x1, x2], [], s) Q := by
  refine tL ((172 : Nat) : Int) 0 rfl rfl rfl ?_
  refine tL x1 0 rfl rfl rfl ?_
  exact tCall [(((172 : Nat) : Int), 0), (x1, 0)] [] rfl rfl rfl (fun m l => h0 m (Nat.lt_of_lt_of_le l (Nat.le_refl n)))

theorem b_X11_readsOne_5 {n : Nat} {Q : Zr → Prop} (x1 x2 v0 : Int) (s : Zs) 
    (h0 : ∀ (g1 : v0 = 0), ∀ m, m < n → zC m 1482 [(((172 : Nat) : Int), 0)] s (fun p => zT (zE 1502) (Pt PX11_readsOne) m (18, [((172 : Nat) : Int), x1, x2], p.1 ++ [], p.2) Q))
    (h1 : ∀ (g1 : v0 ≠ 0), Q ([(0, 0)], zu s 172 9 (w32 (3 + (w32 (16 * (s 172 5))))))) : zT (zE 1502) (Pt PX11_readsOne) n (5, [((172 : Nat) : Int), x1, x2], [(v0, 0)], s) Q := by
  refine tI0 rfl (fun g1 _ l1 => zT_le ?_ (Nat.le_of_lt l1)) (fun g1 _ l1 => zT_le ?_ (Nat.le_of_lt l1))
  · refine tL ((172 : Nat) : Int) 0 rfl rfl rfl ?_
    exact tCall [(((172 : Nat) : Int), 0)] [] rfl rfl rfl (fun m l => h0 g1 m (Nat.lt_of_lt_of_le l (Nat.le_refl n)))
  · refine tL ((172 : Nat) : Int) 0 rfl rfl rfl ?_
    refine tK rfl ?_
    refine tCall [(((172 : Nat) : Int), 0), (3, 0)] [] rfl rfl rfl (fun m3 l3 => c_X11_fails (b_X11_fails_0 3 s ?_))
    · show zT (zE 1502) (Pt PX11_readsOne) m3 (13, [((172 : Nat) : Int), x1, x2], [(0, 0)], zu s 172 9 (w32 (3 + (w32 (16 * (s 172 5)))))) Q
      exact tR rfl (h1 g1)

theorem b_X11_readsOne_18 {n : Nat} {Q : Zr → Prop} (x1 x2 : Int) (s : Zs) 
    (h0 : ∀ m, m < n → zC m 1478 [(((172 : Nat) : Int), 0), (0, 0), (x2, 0)] s (fun p => zT (zE 1502) (Pt PX11_readsOne) m (24, [((172 : Nat) : Int), x1, x2], p.1 ++ [], p.2) Q)) : zT (zE 1502) (Pt PX11_readsOne) n (18, [((172 : Nat) : Int), x1, x2], [], s) Q := by
  refine tL ((172 : Nat) : Int) 0 rfl rfl rfl ?_
  refine tK rfl ?_
  refine tL x2 0 rfl rfl rfl ?_
  exact tCall [(((172 : Nat) : Int), 0), (0, 0), (x2, 0)] [] rfl rfl rfl (fun m l => h0 m (Nat.lt_of_lt_of_le l (Nat.le_refl n)))

theorem b_X11_readsOne_24 {n : Nat} {Q : Zr → Prop} (x1 x2 v0 : Int) (s : Zs) 
    (h0 : ∀ (g1 : v0 ≠ 0), ∀ m, m < n → zC m 1425 [(((172 : Nat) : Int), 0)] (zu s 174 ((w32 (7 + x1)).toNat) (s 172 45)) (fun p => zT (zE 1502) (Pt PX11_readsOne) m (46, [((172 : Nat) : Int), x1, x2], p.1 ++ [], p.2) Q))
    (h1 : ∀ (g1 : v0 = 0), Q ([(0, 0)], s)) : zT (zE 1502) (Pt PX11_readsOne) n (24, [((172 : Nat) : Int), x1, x2], [(v0, 0)], s) Q := by
  refine tI1 rfl (fun g1 _ l1 => zT_le ?_ (Nat.le_of_lt l1)) (fun g1 _ l1 => zT_le ?_ (Nat.le_of_lt l1))
  · refine tL ((172 : Nat) : Int) 0 rfl rfl rfl ?_
    refine tFR (c := 172) 174 rfl rfl rfl rfl rfl ?_
    refine tK rfl ?_
    refine tL x1 0 rfl rfl rfl ?_
    refine tB (v := w32 (7 + x1)) rfl rfl ?_
    refine tL ((172 : Nat) : Int) 0 rfl rfl rfl ?_
    refine tFv (c := 172) (s 172 45) 0 rfl rfl rfl rfl rfl ?_
    refine tAS 174 ((w32 (7 + x1)).toNat) rfl rfl rfl (by decide) ?_
    refine tL ((172 : Nat) : Int) 0 rfl rfl rfl ?_
    exact tCall [(((172 : Nat) : Int), 0)] [] rfl rfl rfl (fun m l => h0 g1 m (Nat.lt_of_lt_of_le l (Nat.le_refl n)))
  · refine tK rfl ?_
    exact tR rfl (h1 g1)

theorem b_X11_readsOne_46 {n : Nat} {Q : Zr → Prop} (x1 x2 v0 : Int) (s : Zs) 
    (h0 : Q ([(v0, 0)], s)) : zT (zE 1502) (Pt PX11_readsOne) n (46, [((172 : Nat) : Int), x1, x2], [(v0, 0)], s) Q := by
  exact tR rfl (h0)

theorem c_X11_readsOne {n : Nat} {Q : Zr → Prop} {a0 a1 a2 : Int} {s : Zs} (h : zT (zE 1502) (Pt PX11_readsOne) n (0, [a0, a1, a2], [], s) Q) : zC n 1502 [(a0, 0), (a1, 0), (a2, 0)] s Q := h

section Zmr
variable {N : Nat} {s : Zs} {T : Nat → Int} {n p : Nat} {D : ZD}
theorem mcc_inj {k j k' j' : Nat} (hk : k < 5) (hk' : k' < 5) (hj : j < wd2 k) (hj' : j' < wd2 k') (e : mcc k + j = mcc k' + j') : k = k' ∧ j = j' := by
  have h1 : k = 0 ∨ k = 1 ∨ k = 2 ∨ k = 3 ∨ k = 4 := by omega
  have h2 : k' = 0 ∨ k' = 1 ∨ k' = 2 ∨ k' = 3 ∨ k' = 4 := by omega
  rcases h1 with rfl | rfl | rfl | rfl | rfl <;> rcases h2 with rfl | rfl | rfl | rfl | rfl <;> (simp [mcc, wd2, wdt] at e hj hj' ⊢; omega)
theorem mnc_inj {k k' : Nat} (hk : k < 5) (hk' : k' < 5) (h1 : k ≠ 1) (h1' : k' ≠ 1) (e : mnc k = mnc k') : k = k' := by
  have a : k = 0 ∨ k = 2 ∨ k = 3 ∨ k = 4 := by omega
  have b : k' = 0 ∨ k' = 2 ∨ k' = 3 ∨ k' = 4 := by omega
  rcases a with rfl | rfl | rfl | rfl <;> rcases b with rfl | rfl | rfl | rfl <;> (simp [mnc] at e ⊢)
theorem dC_len (hD : wD D) {k j : Nat} (hk : k < 5) (hj : j < wd2 k) : (dC D (10 * k + j)).length = cnt D k := by
  by_cases e : k = 0
  · subst e
    have : j = 0 := by simp [wd2] at hj; omega
    subst this
    exact hD.2.2.2.1
  · exact hD.2.2.2.2.1 k j (by omega) hk (by unfold wd2 at hj; rw [if_neg e] at hj; exact hj)
/-- a number laid where no row is told yet -/
theorem mP_w (h : mP s T n p D) {k j : Nat} {v : Int} (hk : k < 5) (hj : j < wd2 k) : mP (zu s (mcc k + j) (mnb k + cnt D k) v) T n p D := by
  obtain ⟨hst, ⟨h1, h2, h3⟩, hw, hf, d1, d2, d3, d4, d5, d6⟩ := h
  have hm := mcc_b hk hj
  have z : ∀ {c i : Nat}, ¬ (179 ≤ c ∧ c ≤ 191) → zu s (mcc k + j) (mnb k + cnt D k) v c i = s c i := fun hc => zu_n (by omega)
  have e173 : ∀ i, i < n → zu s (mcc k + j) (mnb k + cnt D k) v 173 i = T i := fun i hi => by rw [z (by omega)]; exact hst.1.2.2 i hi
  have hst' : mst (zu s (mcc k + j) (mnb k + cnt D k) v) T n p := by
    obtain ⟨⟨a1, a2, a3⟩, b1, c1, c2, c3, c4, c5⟩ := hst
    exact ⟨⟨by rw [z (by omega)]; exact a1, a2, e173⟩, b1, by rw [z (by omega)]; exact c1, by rw [z (by omega)]; exact c2, by rw [z (by omega)]; exact c3, fun q => by rw [z (by omega)]; exact c4 q, fun q => by rw [z (by omega)]; exact c5 q⟩
  refine ⟨hst', ⟨fun k' hk' => by rw [z (by omega)]; exact h1 k' hk', fun k' i w a b c => ?_, fun k' j' i u a b c => ?_⟩, hw, hf, by rw [z (by omega)]; exact d1, by rw [z (by omega)]; exact d2, by rw [z (by omega)]; exact d3, by rw [z (by omega), z (by omega)]; exact d4, by rw [z (by omega)]; exact d5, by rw [z (by omega)]; exact d6⟩
  · have := mnc_b k'
    rw [z (by omega)]
    exact h2 k' i w a b c
  · have hi := (List.getElem?_eq_some_iff.mp c).1
    rw [dC_len hw a b] at hi
    rw [zu_n (fun q => by
      obtain ⟨q1, q2⟩ := mcc_inj a hk b hj q.1
      subst q1
      omega)]
    exact h3 k' j' i u a b c
theorem flr_row {k : Nat} (hk1 : k ≠ 1) {w : List Int} {vs : List Int} (hw : wD D) {a : Int} (h0 : 0 ≤ a) (h1 : a < (dN D 0).length) : flr (addR (addN D k w) k vs) a = flr D a := by
  have hl : (dC D 0).length = (dN D 0).length := by rw [hw.2.2.2.1]; unfold cnt; rw [if_neg (by decide)]
  unfold flr
  rw [dN_addR, dN_addN]
  by_cases e : 0 = k
  · subst e
    rw [if_pos rfl, if_pos ⟨h0, by rw [List.length_append]; simp; omega⟩, if_pos ⟨h0, h1⟩, dC_row, if_pos rfl]
    cases vs[0 % 10]? with
    | none => rfl
    | some v => show ((dC D 0 ++ [v])[a.toNat]?).getD 0 = _; rw [List.getElem?_append_left (by omega)]
  · rw [if_neg e, if_pos ⟨h0, h1⟩, if_pos ⟨h0, h1⟩, dC_row, if_neg (by omega)]
theorem mP_row {s' : Zs} (h : mP s T n p D) {k : Nat} (hk1 : k ≠ 1) (hk5 : k < 5) {w : List Int} (hw : okW w ∧ w ≠ []) {vs : List Int} (hvs : vs.length = if k = 0 then 1 else wdt k) (hc : cnt D k < most k) (hf : k = 0 → ∀ v ∈ vs, 1 ≤ v ∧ v ≤ 5)
    (e1 : s' 174 (7 + k) = ((cnt D k + 1 : Nat) : Int)) (e2 : s' (mnc k) (mnb k + cnt D k) = enc 27 w) (e3 : ∀ j v, vs[j]? = some v → s' (mcc k + j) (mnb k + cnt D k) = v)
    (f : ∀ c j, ¬ (c = 174 ∧ j = 7 + k) → ¬ (c = mnc k ∧ j = mnb k + cnt D k) → ¬ (mcc k ≤ c ∧ c < mcc k + wd2 k ∧ j = mnb k + cnt D k) → s' c j = s c j) : mP s' T n p (addR (addN D k w) k vs) := by
  obtain ⟨hst, ⟨h1, h2, h3⟩, hwd, hF, d1, d2, d3, d4, d5, d6⟩ := h
  have hn := mnc_b k
  have hcc : 0 < wd2 k → 179 ≤ mcc k ∧ mcc k + wd2 k ≤ 192 := fun q => by
    have a := mcc_b hk5 (j := 0) q
    have b := mcc_b hk5 (j := wd2 k - 1) (by omega)
    omega
  have hcl : (dN D k).length = cnt D k := by unfold cnt; rw [if_neg hk1]
  have z : ∀ {c i : Nat}, ¬ (175 ≤ c ∧ c ≤ 191) → ¬ (c = 174 ∧ i = 7 + k) → s' c i = s c i := fun {c i} a b => f c i b (by omega) (fun q => by have := hcc (by omega); omega)
  have hst' : mst s' T n p := by
    obtain ⟨⟨a1, a2, a3⟩, b1, c1, c2, c3, c4, c5⟩ := hst
    exact ⟨⟨by rw [z (by omega) (by omega)]; exact a1, a2, fun i hi => by rw [z (by omega) (by omega)]; exact a3 i hi⟩, b1, by rw [z (by omega) (by omega)]; exact c1, by rw [z (by omega) (by omega)]; exact c2, by rw [z (by omega) (by omega)]; exact c3, fun q => by rw [z (by omega) (by omega)]; exact c4 q, fun q => by rw [z (by omega) (by omega)]; exact c5 q⟩
  refine ⟨hst', ⟨fun k' hk' => ?_, fun k' i u a b c => ?_, fun k' j' i u a b c => ?_⟩, wD_row hwd hk1 hk5 hw hvs hc hf, fun i a b ha hb => ?_, by rw [z (by omega) (by omega)]; exact d1, by rw [z (by omega) (by omega)]; exact d2, by rw [z (by omega) (by omega)]; exact d3, by rw [z (by omega) (by omega), z (by omega) (by omega)]; exact d4, by rw [z (by omega) (by omega)]; exact d5, by rw [z (by omega) (by omega)]; exact d6⟩
  · rw [cnt_row hk1]
    by_cases e : k' = k
    · rw [if_pos e, e]; exact e1
    · rw [if_neg e, f 174 (7 + k') (by omega) (by omega) (fun q => by have := hcc (by omega); omega)]
      exact h1 k' hk'
  · rw [dN_addR, dN_addN] at c
    have hn' := mnc_b k'
    have out : ∀ {i : Nat}, ¬ (k' = k ∧ i = cnt D k) → s' (mnc k') (mnb k' + i) = s (mnc k') (mnb k' + i) := fun {i} q => f _ _ (by omega) (fun q2 => by
      have := mnc_inj a hk5 b hk1 q2.1
      subst this
      exact q ⟨rfl, by omega⟩) (fun q2 => by have := hcc (by omega); omega)
    by_cases e : k' = k
    · rw [if_pos e] at c
      subst e
      rcases app_get c with ⟨l1, l2⟩ | ⟨l1, l2⟩
      · rw [out (by omega)]
        exact h2 k' i u a b l2
      · rw [l1, hcl, l2]; exact e2
    · rw [if_neg e] at c
      rw [out (fun q => e q.1)]
      exact h2 k' i u a b c
  · have hc' := mcc_b a b
    have w10 : wd2 k' ≤ 4 := by unfold wd2; split; omega; exact wdt_le k'
    have out : ∀ {i : Nat}, ¬ (k' = k ∧ i = cnt D k) → s' (mcc k' + j') (mnb k' + i) = s (mcc k' + j') (mnb k' + i) := fun {i} q => f _ _ (by omega) (by omega) (fun q2 => by
      obtain ⟨j2, hj2⟩ : ∃ j2, mcc k' + j' = mcc k + j2 := ⟨mcc k' + j' - mcc k, by omega⟩
      obtain ⟨q3, q4⟩ := mcc_inj a hk5 b (by omega) hj2
      subst q3
      exact q ⟨rfl, by omega⟩)
    rw [dC_row] at c
    by_cases e : k' = k
    · subst e
      rw [if_pos (by omega)] at c
      have hjm : (10 * k' + j') % 10 = j' := by omega
      rw [hjm] at c
      split at c
      · rename_i v hv
        rcases app_get c with ⟨l1, l2⟩ | ⟨l1, l2⟩
        · rw [dC_len hwd a b] at l1
          rw [out (by omega)]
          exact h3 k' j' i u a b l2
        · rw [l1, dC_len hwd a b, l2]
          exact e3 j' v hv
      · rename_i hv
        exfalso
        have : vs.length ≤ j' := List.getElem?_eq_none_iff.mp hv
        rw [hvs] at this
        unfold wd2 at b
        omega
    · rw [if_neg (by omega)] at c
      rw [out (fun q => e q.1)]
      exact h3 k' j' i u a b c
  · rw [dC_row, if_neg (by omega)] at ha hb
    have l1 := hF i a b ha hb
    have a1 := hwd.2.2.2.2.2.2.1 a (List.mem_of_getElem? ha)
    have l0 : (dN D 0).length = cnt D 0 := by unfold cnt; rw [if_neg (by decide)]
    rw [flr_row hk1 hwd a1.1 (by omega)]
    exact l1
/-- a frame: the tape's length, and the first halves of what a town tells -/
def hbf (c : Nat) : Nat := if c = 174 then 7 else if c = 176 ∨ c = 178 ∨ c = 184 ∨ c = 185 ∨ c = 190 ∨ c = 191 then 4 else if 180 ≤ c ∧ c ≤ 183 then 10 else 5
def frH (s s' : Zs) : Prop := s' 172 1 = s 172 1 ∧ (∀ c j, 174 ≤ c → c ≤ 191 → j < hbf c → s' c j = s c j) ∧ (∀ c j, 207 ≤ c → s' c j = s c j) ∧ s' 172 60 = s 172 60
theorem frH_N {s s' : Zs} (f : frN s s') : frH s s' := ⟨f 172 1 (by omega), fun c j a b _ => f c j (by omega), fun c j a => f c j (by omega), f 172 60 (by omega)⟩
theorem frH.trans {s s' s'' : Zs} (h2 : frH s' s'') (h1 : frH s s') : frH s s'' := ⟨h2.1.trans h1.1, fun c j a b d => (h2.2.1 c j a b d).trans (h1.2.1 c j a b d), fun c j a => (h2.2.2.1 c j a).trans (h1.2.2.1 c j a), h2.2.2.2.trans h1.2.2.2⟩
theorem frH_rf (s : Zs) : frH s s := ⟨rfl, fun _ _ _ _ _ => rfl, fun _ _ _ => rfl, rfl⟩
theorem frH_u {s : Zs} {c j : Nat} {v : Int} (h : ¬ (174 ≤ c ∧ c ≤ 191 ∧ j < hbf c)) (h2 : ¬ (c = 172 ∧ (j = 1 ∨ j = 60)) ∧ c < 207) : frH s (zu s c j v) := ⟨zu_n (by omega), fun c' j' a b d => zu_n (fun q => h ⟨by omega, by omega, by rw [← q.1, ← q.2]; exact d⟩), fun c' j' a => zu_n (by omega), zu_n (by omega)⟩
/-- how a line ends, the model's side -/
def qLn (s : Zs) (T : Nat → Int) (n : Nat) (a : PS × ZD) (r : Zr) : Prop := r.1 = [(if a.1.1 = 0 then 1 else 0, 0)] ∧ frH s r.2 ∧ (a.1.1 = 0 → mP r.2 T n a.1.2 a.2) ∧ (a.1.1 ≠ 0 → r.2 172 9 = a.1.1)
theorem qLn_bad {a : PS × ZD} {Y : PS} {s' : Zs} (e : a.1 = Y) (hY : Y.1 ≠ 0) (h1 : frH s s') (h9 : s' 172 9 = Y.1) : qLn s T n a ([(0, 0)], s') := by
  refine ⟨?_, h1, fun q => absurd (by rw [← e]; exact q) hY, fun _ => by rw [e]; exact h9⟩
  rw [if_neg (by rw [e]; exact hY)]
theorem qLn_good {a : PS × ZD} {p' : Nat} {D' : ZD} {s' : Zs} (e : a = ((0, p'), D')) (h1 : frH s s') (h : mP s' T n p' D') : qLn s T n a ([(1, 0)], s') := by
  subst e
  exact ⟨rfl, h1, fun _ => h, fun q => absurd rfl q⟩
theorem gFi_nz {k : Nat} {x : PS} (h : x.1 ≠ 0) : gFi T n D k x = x := by unfold gFi; rw [gF_nz h, gNx_nz h]; split <;> rfl
theorem gNew_nz {x : PS} (h : x.1 ≠ 0) : gNew T n D x = x := by unfold gNew; rw [gNm_nz h, gNx_nz h, gF_nz h]; split <;> rfl
theorem gPl_nz {x : PS} (h : x.1 ≠ 0) : gPl T n D x = x := by unfold gPl; rw [gTo_nz h, gN_nz h]

theorem mHouse_ok (h : mP s T n p D) : zC N 1500 [(((172 : Nat) : Int), 0)] s (qLn s T n (pHouse T n (0, p) D)) := by
  have hc : s 174 7 = ((cnt D 0 : Nat) : Int) := h.2.1.1 0 (by omega)
  have hm : cnt D 0 ≤ 5 := h.2.2.1.1 0 (by omega)
  have hx : w32 (5 + s 174 7) = ((5 + cnt D 0 : Nat) : Int) := by rw [hc, w32_id (by omega) (by omega)]; omega
  have hp := h.1.2.1
  refine c_X11_readsHouse (b_X11_readsHouse_0 _ _ _ s (fun g m0 hm0 => ?_) (fun g => ?_))
  rotate_left
  · rw [hx] at g
    have e1 : gFi T n D 0 (0, p) = gF T n 5 (0, p) := if_pos (by show most 0 ≤ cnt D 0; unfold most; simp; omega)
    refine mfail_q (k' := 5) (by decide) h.1 rfl (fun s' a f b => qLn_bad (Y := gF T n 5 (0, p)) ?_ a (by first | exact frH_N f | exact frH_N (frN_M f) : frH _ _) b)
    unfold pHouse; dsimp only; rw [e1, gNew_nz a, gW_nz a, gN_nz a, gS_nz a]
  rw [hx] at g ⊢
  have hlt : cnt D 0 < 5 := by omega
  have e0 : gFi T n D 0 (0, p) = (0, kE T n p) := if_neg (by show ¬ most 0 ≤ cnt D 0; unfold most; simp; omega)
  refine mst_next h.1 (fun s1 f1 p1 => ?_)
  have h1 := mP_N (frN_M f1) h p1 (by have := kE_bd (T := T) hp; omega)
  have t1 : frH s s1 := (by first | exact frH_N f1 | exact frH_N (frN_M f1))
  refine b_X11_readsHouse_26 _ _ _ s1 (fun m1 hm1 => isNew_q h1 (fun s2 a f b => ?_) (fun e1 hn => ?_))
  · refine b_X11_readsHouse_30 _ _ _ _ s2 (fun q => absurd rfl q) (fun _ => qLn_bad (Y := gNew T n D (0, kE T n p)) ?_ a ((by first | exact frH_N f | exact frH_N (frN_M f) : frH _ _).trans t1) b)
    unfold pHouse; dsimp only; rw [e0, gW_nz a, gN_nz a, gS_nz a]
  have hq := (isNm_iff.mp hn).1
  have hW := isNm_w (kB_bd h1.1.2.1) hn
  have ew : s1 172 7 = enc 27 (eW T n (kB T n (kE T n p))) := h1.1.2.2.2.2.2.1 hq
  refine b_X11_readsHouse_30 _ _ _ _ s1 (fun _ m2 hm2 => ?_) (fun q => absurd q (by decide))
  rw [ew]
  refine mst_next h1.1 (fun s2 f2 p2 => ?_)
  have h2 := mP_N (frN_M f2) h1 p2 (by have := kE_bd (T := T) h1.1.2.1; omega)
  have t2 : frH s s2 := (by first | exact frH_N f2 | exact frH_N (frN_M f2) : frH _ _).trans t1
  refine b_X11_readsHouse_44 _ _ _ s2 (fun n2 hn2 => ?_)
  refine needsBoth_q (i := 1) (by omega) (by decide) h2 (fun s3 a f b => ?_) (fun s3 e2 e3 f3 h3 v3 l3 l3' => ?_)
  · refine b_X11_readsHouse_53 _ _ _ _ s3 (fun q => absurd rfl q) (fun _ => qLn_bad (Y := gN T n 1 5 (gW T n 1 (0, (kE T n (kE T n p))))) ?_ a ((by first | exact frH_N f | exact frH_N (frN_M f) : frH _ _).trans t2) b)
    unfold pHouse; dsimp only; rw [e0, e1, gS_nz a]
  have t3 : frH s s3 := (by first | exact frH_N f3 | exact frH_N (frN_M f3) : frH _ _).trans t2
  refine b_X11_readsHouse_53 _ _ _ _ s3 (fun _ n3 hn3 => ?_) (fun q => absurd q (by decide))
  rw [Int.toNat_natCast]
  have hcc : s3 174 7 = ((cnt D 0 : Nat) : Int) := h3.2.1.1 0 (by omega)
  have hr : mP (zu (zu (zu s3 179 (5 + cnt D 0) (s3 172 45)) 175 (5 + cnt D 0) (enc 27 (eW T n (kB T n (kE T n p))))) 174 7 (w32 (s3 174 7 + 1))) T n (kE T n (kE T n (kE T n (kE T n p)))) (addR (addN D 0 (eW T n (kB T n (kE T n p)))) 0 [eM T n (kB T n (kE T n (kE T n (kE T n p))))]) := by
    refine mP_row h3 (k := 0) (by decide) (by decide) hW rfl (by show cnt D 0 < most 0; unfold most; simp; omega) (fun _ v hv => by simp at hv; subst hv; exact ⟨l3, l3'⟩) ?_ ?_ (fun j v hv => ?_) (fun c j a b d => ?_)
    · show zu _ 174 7 _ 174 7 = _; rw [zu_eq, hcc, w32_id (by omega) (by omega)]; omega
    · show zu (zu _ 175 (5 + cnt D 0) _) 174 7 _ 175 (5 + cnt D 0) = _; rw [zu_n (by omega), zu_eq]
    · match j, hv with
      | 0, hv => cases hv; show zu (zu (zu _ 179 (5 + cnt D 0) _) 175 (5 + cnt D 0) _) 174 7 _ 179 (5 + cnt D 0) = _; rw [zu_n (by omega), zu_n (by omega), zu_eq, v3]
      | _ + 1, hv => simp at hv
    · have b : ¬ (c = 175 ∧ j = 5 + cnt D 0) := b
      have d : ¬ (179 ≤ c ∧ c < 180 ∧ j = 5 + cnt D 0) := d
      rw [zu_n (by omega), zu_n (by omega), zu_n (by omega)]
  have tr : frH s (zu (zu (zu s3 179 (5 + cnt D 0) (s3 172 45)) 175 (5 + cnt D 0) (enc 27 (eW T n (kB T n (kE T n p))))) 174 7 (w32 (s3 174 7 + 1))) := (frH_u (by have h9 : hbf 174 = 7 := rfl; omega) (by omega)).trans ((frH_u (by have h9 : hbf 175 = 5 := rfl; omega) (by omega)).trans ((frH_u (by have h9 : hbf 179 = 5 := rfl; omega) (by omega)).trans t3))
  generalize zu (zu (zu s3 179 (5 + cnt D 0) (s3 172 45)) 175 (5 + cnt D 0) (enc 27 (eW T n (kB T n (kE T n p))))) 174 7 (w32 (s3 174 7 + 1)) = sr at hr tr ⊢
  refine closes_q hr (fun s' a f b => ?_) (fun s' ez f h' => ?_)
  · refine b_X11_readsHouse_90 _ _ _ _ s' (qLn_bad (Y := gS T n 59 (0, (kE T n (kE T n (kE T n (kE T n p)))))) ?_ a ((by first | exact frH_N f | exact frH_N (frN_M f) : frH _ _).trans tr) b)
    unfold pHouse; dsimp only; rw [e0, e1, e2, e3]
  · refine b_X11_readsHouse_90 _ _ _ _ s' (qLn_good ?_ ((by first | exact frH_N f | exact frH_N (frN_M f) : frH _ _).trans tr) h')
    unfold pHouse; dsimp only; rw [e0, e1, e2, e3, ez]; rfl
theorem mThing_ok (h : mP s T n p D) : zC N 1505 [(((172 : Nat) : Int), 0)] s (qLn s T n (pThing T n (0, p) D)) := by
  have hc : s 174 9 = ((cnt D 2 : Nat) : Int) := h.2.1.1 2 (by omega)
  have hm : cnt D 2 ≤ 4 := h.2.2.1.1 2 (by omega)
  have hx : w32 (4 + s 174 9) = ((4 + cnt D 2 : Nat) : Int) := by rw [hc, w32_id (by omega) (by omega)]; omega
  have hp := h.1.2.1
  refine c_X11_readsThing (b_X11_readsThing_0 _ _ _ s (fun g m0 hm0 => ?_) (fun g => ?_))
  rotate_left
  · rw [hx] at g
    have e1 : gFi T n D 2 (0, p) = gF T n 5 (0, p) := if_pos (by show most 2 ≤ cnt D 2; unfold most; simp; omega)
    refine mfail_q (k' := 5) (by decide) h.1 rfl (fun s' a f b => qLn_bad (Y := gF T n 5 (0, p)) ?_ a (by first | exact frH_N f | exact frH_N (frN_M f) : frH _ _) b)
    unfold pThing; dsimp only; rw [e1, gNew_nz a, gW_nz a, gN_nz a, gW_nz a, gPl_nz a, gS_nz a]
  rw [hx] at g ⊢
  have hlt : cnt D 2 < 4 := by omega
  have e0 : gFi T n D 2 (0, p) = (0, kE T n p) := if_neg (by show ¬ most 2 ≤ cnt D 2; unfold most; simp; omega)
  refine mst_next h.1 (fun s1 f1 p1 => ?_)
  have h1 := mP_N (frN_M f1) h p1 (by have := kE_bd (T := T) hp; omega)
  have t1 : frH s s1 := (by first | exact frH_N f1 | exact frH_N (frN_M f1))
  refine b_X11_readsThing_26 _ _ _ s1 (fun m1 hm1 => isNew_q h1 (fun s2 a f b => ?_) (fun e1 hn => ?_))
  · refine b_X11_readsThing_30 _ _ _ _ s2 (fun q => absurd rfl q) (fun _ => qLn_bad (Y := gNew T n D (0, kE T n p)) ?_ a ((by first | exact frH_N f | exact frH_N (frN_M f) : frH _ _).trans t1) b)
    unfold pThing; dsimp only; rw [e0, gW_nz a, gN_nz a, gW_nz a, gPl_nz a, gS_nz a]
  have hq := (isNm_iff.mp hn).1
  have hW := isNm_w (kB_bd h1.1.2.1) hn
  have ew : s1 172 7 = enc 27 (eW T n (kB T n (kE T n p))) := h1.1.2.2.2.2.2.1 hq
  refine b_X11_readsThing_30 _ _ _ _ s1 (fun _ m2 hm2 => ?_) (fun q => absurd q (by decide))
  rw [ew]
  refine mst_next h1.1 (fun s2 f2 p2 => ?_)
  have h2 := mP_N (frN_M f2) h1 p2 (by have := kE_bd (T := T) h1.1.2.1; omega)
  have t2 : frH s s2 := (by first | exact frH_N f2 | exact frH_N (frN_M f2) : frH _ _).trans t1
  refine b_X11_readsThing_44 _ _ _ s2 (fun n2 hn2 => ?_)
  refine needsBoth_q (i := 6) (by omega) (by decide) h2 (fun s3 a f b => ?_) (fun s3 e2 e3 f3 h3 v3 l3 l3' => ?_)
  · refine b_X11_readsThing_54 _ _ _ _ s3 (fun q => absurd rfl q) (fun _ => qLn_bad (Y := gN T n 1 40 (gW T n 6 (0, (kE T n (kE T n p))))) ?_ a ((by first | exact frH_N f | exact frH_N (frN_M f) : frH _ _).trans t2) b)
    unfold pThing; dsimp only; rw [e0, e1, gW_nz a, gPl_nz a, gS_nz a]
  have t3 : frH s s3 := (by first | exact frH_N f3 | exact frH_N (frN_M f3) : frH _ _).trans t2
  refine b_X11_readsThing_54 _ _ _ _ s3 (fun _ n3 hn3 => ?_) (fun q => absurd q (by decide))
  rw [Int.toNat_natCast]
  have hw3 : mP (zu s3 184 (4 + cnt D 2) (s3 172 45)) T n (kE T n (kE T n (kE T n (kE T n p)))) D := mP_w (k := 2) (j := 0) h3 (by omega) (by decide)
  have c3 : (zu s3 184 (4 + cnt D 2) (s3 172 45)) 184 (4 + cnt D 2) = eM T n (kB T n (kE T n (kE T n (kE T n p)))) := by rw [zu_eq, v3]
  have tt3 : frH s (zu s3 184 (4 + cnt D 2) (s3 172 45)) := (frH_u (by have h9 : hbf 184 = 4 := rfl; omega) (by omega)).trans t3
  generalize zu s3 184 (4 + cnt D 2) (s3 172 45) = u3 at hw3 tt3 c3 ⊢
  refine needsWord_q (i := 7) (by omega) (by decide) hw3 (fun s4 a f b => ?_) (fun s4 e4 f4 h4 => ?_)
  · refine b_X11_readsThing_76 _ _ _ _ s4 (fun _ => qLn_bad (Y := gW T n 7 (0, (kE T n (kE T n (kE T n (kE T n p)))))) ?_ a ((by first | exact frH_N f | exact frH_N (frN_M f) : frH _ _).trans tt3) b) (fun q => absurd rfl q)
    unfold pThing; dsimp only; rw [e0, e1, e2, e3, gPl_nz a, gS_nz a]
  have c3' : s4 184 (4 + cnt D 2) = _ := (f4 184 _ (by omega)).trans c3
  have t4 : frH s s4 := (by first | exact frH_N f4 | exact frH_N (frN_M f4) : frH _ _).trans tt3
  refine b_X11_readsThing_76 _ _ _ _ s4 (fun q => absurd q (by decide)) (fun _ n4 hn4 => ?_)
  refine needsPlace_q h4 (fun s5 a f b => ?_) (fun s5 e5 f5 h5 v5 => ?_)
  · refine b_X11_readsThing_84 _ _ _ _ s5 (fun q => absurd rfl q) (fun _ => qLn_bad (Y := gPl T n D (0, (kE T n (kE T n (kE T n (kE T n (kE T n p))))))) ?_ a ((by first | exact frH_N f | exact frH_N (frN_M f) : frH _ _).trans t4) b)
    unfold pThing; dsimp only; rw [e0, e1, e2, e3, e4, gS_nz a]
  have c3'' : s5 184 (4 + cnt D 2) = _ := (f5 184 _ (by omega)).trans c3'
  have t5 : frH s s5 := (by first | exact frH_N f5 | exact frH_N (frN_M f5) : frH _ _).trans t4
  refine b_X11_readsThing_84 _ _ _ _ s5 (fun _ n5 hn5 => ?_) (fun q => absurd q (by decide))
  rw [Int.toNat_natCast]
  have hcc : s5 174 9 = ((cnt D 2 : Nat) : Int) := h5.2.1.1 2 (by omega)
  have hr : mP (zu (zu (zu s5 185 (4 + cnt D 2) (s5 172 45)) 176 (4 + cnt D 2) (enc 27 (eW T n (kB T n (kE T n p))))) 174 9 (w32 (s5 174 9 + 1))) T n (kE T n (kE T n (kE T n (kE T n (kE T n (kE T n (kE T n p))))))) (addR (addN D 2 (eW T n (kB T n (kE T n p)))) 2 [eM T n (kB T n (kE T n (kE T n (kE T n p)))), vPl T n D (0, (kE T n (kE T n (kE T n (kE T n (kE T n p))))))]) := by
    refine mP_row h5 (k := 2) (by decide) (by decide) hW rfl (by show cnt D 2 < most 2; unfold most; simp; omega) (fun q => absurd q (by decide)) ?_ ?_ (fun j v hv => ?_) (fun c j a b d => ?_)
    · show zu _ 174 9 _ 174 9 = _; rw [zu_eq, hcc, w32_id (by omega) (by omega)]; omega
    · show zu (zu _ 176 (4 + cnt D 2) _) 174 9 _ 176 (4 + cnt D 2) = _; rw [zu_n (by omega), zu_eq]
    · match j, hv with
      | 0, hv => cases hv; show zu (zu (zu _ 185 (4 + cnt D 2) _) 176 (4 + cnt D 2) _) 174 9 _ 184 (4 + cnt D 2) = _; rw [zu_n (by omega), zu_n (by omega), zu_n (by omega), c3'']
      | 1, hv => cases hv; show zu (zu (zu _ 185 (4 + cnt D 2) _) 176 (4 + cnt D 2) _) 174 9 _ 185 (4 + cnt D 2) = _; rw [zu_n (by omega), zu_n (by omega), zu_eq, v5]
      | _ + 2, hv => simp at hv
    · have b : ¬ (c = 176 ∧ j = 4 + cnt D 2) := b
      have d : ¬ (184 ≤ c ∧ c < 186 ∧ j = 4 + cnt D 2) := d
      rw [zu_n (by omega), zu_n (by omega), zu_n (by omega)]
  have tr : frH s (zu (zu (zu s5 185 (4 + cnt D 2) (s5 172 45)) 176 (4 + cnt D 2) (enc 27 (eW T n (kB T n (kE T n p))))) 174 9 (w32 (s5 174 9 + 1))) := (frH_u (by have h9 : hbf 174 = 7 := rfl; omega) (by omega)).trans ((frH_u (by have h9 : hbf 176 = 4 := rfl; omega) (by omega)).trans ((frH_u (by have h9 : hbf 185 = 4 := rfl; omega) (by omega)).trans t5))
  generalize zu (zu (zu s5 185 (4 + cnt D 2) (s5 172 45)) 176 (4 + cnt D 2) (enc 27 (eW T n (kB T n (kE T n p))))) 174 9 (w32 (s5 174 9 + 1)) = sr at hr tr ⊢
  refine closes_q hr (fun s' a f b => ?_) (fun s' ez f h' => ?_)
  · refine b_X11_readsThing_121 _ _ _ _ s' (qLn_bad (Y := gS T n 59 (0, (kE T n (kE T n (kE T n (kE T n (kE T n (kE T n (kE T n p))))))))) ?_ a ((by first | exact frH_N f | exact frH_N (frN_M f) : frH _ _).trans tr) b)
    unfold pThing; dsimp only; rw [e0, e1, e2, e3, e4, e5]
  · refine b_X11_readsThing_121 _ _ _ _ s' (qLn_good ?_ ((by first | exact frH_N f | exact frH_N (frN_M f) : frH _ _).trans tr) h')
    unfold pThing; dsimp only; rw [e0, e1, e2, e3, e4, e5, ez]; rfl
theorem mPerson_ok (h : mP s T n p D) : zC N 1503 [(((172 : Nat) : Int), 0)] s (qLn s T n (pPerson T n (0, p) D)) := by
  have hc : s 174 10 = ((cnt D 3 : Nat) : Int) := h.2.1.1 3 (by omega)
  have hm : cnt D 3 ≤ 5 := h.2.2.1.1 3 (by omega)
  have hx : w32 (5 + s 174 10) = ((5 + cnt D 3 : Nat) : Int) := by rw [hc, w32_id (by omega) (by omega)]; omega
  have hp := h.1.2.1
  refine c_X11_readsPerson (b_X11_readsPerson_0 _ _ _ s (fun g m0 hm0 => ?_) (fun g => ?_))
  rotate_left
  · rw [hx] at g
    have e1 : gFi T n D 3 (0, p) = gF T n 5 (0, p) := if_pos (by show most 3 ≤ cnt D 3; unfold most; simp; omega)
    refine mfail_q (k' := 5) (by decide) h.1 rfl (fun s' a f b => qLn_bad (Y := gF T n 5 (0, p)) ?_ a (by first | exact frH_N f | exact frH_N (frN_M f) : frH _ _) b)
    unfold pPerson; dsimp only; rw [e1, gNew_nz a, gW_nz a, gPl_nz a, gW_nz a, gN_nz a, gW_nz a, gN_nz a, gW_nz a, gPl_nz a, gS_nz a]
  rw [hx] at g ⊢
  have hlt : cnt D 3 < 5 := by omega
  have e0 : gFi T n D 3 (0, p) = (0, kE T n p) := if_neg (by show ¬ most 3 ≤ cnt D 3; unfold most; simp; omega)
  refine mst_next h.1 (fun s1 f1 p1 => ?_)
  have h1 := mP_N (frN_M f1) h p1 (by have := kE_bd (T := T) hp; omega)
  have t1 : frH s s1 := (by first | exact frH_N f1 | exact frH_N (frN_M f1))
  refine b_X11_readsPerson_26 _ _ _ s1 (fun m1 hm1 => isNew_q h1 (fun s2 a f b => ?_) (fun e1 hn => ?_))
  · refine b_X11_readsPerson_30 _ _ _ _ s2 (fun q => absurd rfl q) (fun _ => qLn_bad (Y := gNew T n D (0, kE T n p)) ?_ a ((by first | exact frH_N f | exact frH_N (frN_M f) : frH _ _).trans t1) b)
    unfold pPerson; dsimp only; rw [e0, gW_nz a, gPl_nz a, gW_nz a, gN_nz a, gW_nz a, gN_nz a, gW_nz a, gPl_nz a, gS_nz a]
  have hq := (isNm_iff.mp hn).1
  have hW := isNm_w (kB_bd h1.1.2.1) hn
  have ew : s1 172 7 = enc 27 (eW T n (kB T n (kE T n p))) := h1.1.2.2.2.2.2.1 hq
  refine b_X11_readsPerson_30 _ _ _ _ s1 (fun _ m2 hm2 => ?_) (fun q => absurd q (by decide))
  rw [ew]
  refine mst_next h1.1 (fun s2 f2 p2 => ?_)
  have h2 := mP_N (frN_M f2) h1 p2 (by have := kE_bd (T := T) h1.1.2.1; omega)
  have t2 : frH s s2 := (by first | exact frH_N f2 | exact frH_N (frN_M f2) : frH _ _).trans t1
  refine b_X11_readsPerson_44 _ _ _ s2 (fun n2 hn2 => ?_)
  refine needsWord_q (i := 7) (by omega) (by decide) h2 (fun s3 a f b => ?_) (fun s3 e2 f3 h3 => ?_)
  · refine b_X11_readsPerson_51 _ _ _ _ s3 (fun _ => qLn_bad (Y := gW T n 7 (0, (kE T n (kE T n p)))) ?_ a ((by first | exact frH_N f | exact frH_N (frN_M f) : frH _ _).trans t2) b) (fun q => absurd rfl q)
    unfold pPerson; dsimp only; rw [e0, e1, gPl_nz a, gW_nz a, gN_nz a, gW_nz a, gN_nz a, gW_nz a, gPl_nz a, gS_nz a]
  have t3 : frH s s3 := (by first | exact frH_N f3 | exact frH_N (frN_M f3) : frH _ _).trans t2
  refine b_X11_readsPerson_51 _ _ _ _ s3 (fun q => absurd q (by decide)) (fun _ n3 hn3 => ?_)
  refine needsPlace_q h3 (fun s4 a f b => ?_) (fun s4 e3 f4 h4 v4 => ?_)
  · refine b_X11_readsPerson_59 _ _ _ _ s4 (fun q => absurd rfl q) (fun _ => qLn_bad (Y := gPl T n D (0, (kE T n (kE T n (kE T n p))))) ?_ a ((by first | exact frH_N f | exact frH_N (frN_M f) : frH _ _).trans t3) b)
    unfold pPerson; dsimp only; rw [e0, e1, e2, gW_nz a, gN_nz a, gW_nz a, gN_nz a, gW_nz a, gPl_nz a, gS_nz a]
  have t4 : frH s s4 := (by first | exact frH_N f4 | exact frH_N (frN_M f4) : frH _ _).trans t3
  refine b_X11_readsPerson_59 _ _ _ _ s4 (fun _ n4 hn4 => ?_) (fun q => absurd q (by decide))
  rw [Int.toNat_natCast]
  have hw4 : mP (zu s4 186 (5 + cnt D 3) (s4 172 45)) T n (kE T n (kE T n (kE T n (kE T n (kE T n p))))) D := mP_w (k := 3) (j := 0) h4 (by omega) (by decide)
  have c4 : (zu s4 186 (5 + cnt D 3) (s4 172 45)) 186 (5 + cnt D 3) = vPl T n D (0, (kE T n (kE T n (kE T n p)))) := by rw [zu_eq, v4]
  have tt4 : frH s (zu s4 186 (5 + cnt D 3) (s4 172 45)) := (frH_u (by have h9 : hbf 186 = 5 := rfl; omega) (by omega)).trans t4
  generalize zu s4 186 (5 + cnt D 3) (s4 172 45) = u4 at hw4 tt4 c4 ⊢
  refine needsBoth_q (i := 9) (by omega) (by decide) hw4 (fun s5 a f b => ?_) (fun s5 e4 e5 f5 h5 v5 l5 l5' => ?_)
  · refine b_X11_readsPerson_84 _ _ _ _ s5 (fun q => absurd rfl q) (fun _ => qLn_bad (Y := gN T n 0 40 (gW T n 9 (0, (kE T n (kE T n (kE T n (kE T n (kE T n p)))))))) ?_ a ((by first | exact frH_N f | exact frH_N (frN_M f) : frH _ _).trans tt4) b)
    unfold pPerson; dsimp only; rw [e0, e1, e2, e3, gW_nz a, gN_nz a, gW_nz a, gPl_nz a, gS_nz a]
  have c4' : s5 186 (5 + cnt D 3) = _ := (f5 186 _ (by omega)).trans c4
  have t5 : frH s s5 := (by first | exact frH_N f5 | exact frH_N (frN_M f5) : frH _ _).trans tt4
  refine b_X11_readsPerson_84 _ _ _ _ s5 (fun _ n5 hn5 => ?_) (fun q => absurd q (by decide))
  rw [Int.toNat_natCast]
  have hw5 : mP (zu s5 187 (5 + cnt D 3) (s5 172 45)) T n (kE T n (kE T n (kE T n (kE T n (kE T n (kE T n (kE T n p))))))) D := mP_w (k := 3) (j := 1) h5 (by omega) (by decide)
  have c5 : (zu s5 187 (5 + cnt D 3) (s5 172 45)) 187 (5 + cnt D 3) = eM T n (kB T n (kE T n (kE T n (kE T n (kE T n (kE T n (kE T n p))))))) := by rw [zu_eq, v5]
  have c4'' : (zu s5 187 (5 + cnt D 3) (s5 172 45)) 186 (5 + cnt D 3) = _ := (zu_n (by omega)).trans c4'
  have tt5 : frH s (zu s5 187 (5 + cnt D 3) (s5 172 45)) := (frH_u (by have h9 : hbf 187 = 5 := rfl; omega) (by omega)).trans t5
  generalize zu s5 187 (5 + cnt D 3) (s5 172 45) = u5 at hw5 tt5 c5 c4'' ⊢
  refine needsBoth_q (i := 10) (by omega) (by decide) hw5 (fun s6 a f b => ?_) (fun s6 e6 e7 f6 h6 v6 l6 l6' => ?_)
  · refine b_X11_readsPerson_109 _ _ _ _ s6 (fun q => absurd rfl q) (fun _ => qLn_bad (Y := gN T n 0 6 (gW T n 10 (0, (kE T n (kE T n (kE T n (kE T n (kE T n (kE T n (kE T n p)))))))))) ?_ a ((by first | exact frH_N f | exact frH_N (frN_M f) : frH _ _).trans tt5) b)
    unfold pPerson; dsimp only; rw [e0, e1, e2, e3, e4, e5, gW_nz a, gPl_nz a, gS_nz a]
  have c5' : s6 187 (5 + cnt D 3) = _ := (f6 187 _ (by omega)).trans c5
  have c4''' : s6 186 (5 + cnt D 3) = _ := (f6 186 _ (by omega)).trans c4''
  have t6 : frH s s6 := (by first | exact frH_N f6 | exact frH_N (frN_M f6) : frH _ _).trans tt5
  refine b_X11_readsPerson_109 _ _ _ _ s6 (fun _ n6 hn6 => ?_) (fun q => absurd q (by decide))
  rw [Int.toNat_natCast]
  have hw6 : mP (zu s6 188 (5 + cnt D 3) (s6 172 45)) T n (kE T n (kE T n (kE T n (kE T n (kE T n (kE T n (kE T n (kE T n (kE T n p))))))))) D := mP_w (k := 3) (j := 2) h6 (by omega) (by decide)
  have c6 : (zu s6 188 (5 + cnt D 3) (s6 172 45)) 188 (5 + cnt D 3) = eM T n (kB T n (kE T n (kE T n (kE T n (kE T n (kE T n (kE T n (kE T n (kE T n p))))))))) := by rw [zu_eq, v6]
  have c5'' : (zu s6 188 (5 + cnt D 3) (s6 172 45)) 187 (5 + cnt D 3) = _ := (zu_n (by omega)).trans c5'
  have c4'''' : (zu s6 188 (5 + cnt D 3) (s6 172 45)) 186 (5 + cnt D 3) = _ := (zu_n (by omega)).trans c4'''
  have tt6 : frH s (zu s6 188 (5 + cnt D 3) (s6 172 45)) := (frH_u (by have h9 : hbf 188 = 5 := rfl; omega) (by omega)).trans t6
  generalize zu s6 188 (5 + cnt D 3) (s6 172 45) = u6 at hw6 tt6 c6 c5'' c4'''' ⊢
  refine needsWord_q (i := 11) (by omega) (by decide) hw6 (fun s7 a f b => ?_) (fun s7 e8 f7 h7 => ?_)
  · refine b_X11_readsPerson_131 _ _ _ _ s7 (fun _ => qLn_bad (Y := gW T n 11 (0, (kE T n (kE T n (kE T n (kE T n (kE T n (kE T n (kE T n (kE T n (kE T n p))))))))))) ?_ a ((by first | exact frH_N f | exact frH_N (frN_M f) : frH _ _).trans tt6) b) (fun q => absurd rfl q)
    unfold pPerson; dsimp only; rw [e0, e1, e2, e3, e4, e5, e6, e7, gPl_nz a, gS_nz a]
  have c6' : s7 188 (5 + cnt D 3) = _ := (f7 188 _ (by omega)).trans c6
  have c5''' : s7 187 (5 + cnt D 3) = _ := (f7 187 _ (by omega)).trans c5''
  have c4''''' : s7 186 (5 + cnt D 3) = _ := (f7 186 _ (by omega)).trans c4''''
  have t7 : frH s s7 := (by first | exact frH_N f7 | exact frH_N (frN_M f7) : frH _ _).trans tt6
  refine b_X11_readsPerson_131 _ _ _ _ s7 (fun q => absurd q (by decide)) (fun _ n7 hn7 => ?_)
  refine needsPlace_q h7 (fun s8 a f b => ?_) (fun s8 e9 f8 h8 v8 => ?_)
  · refine b_X11_readsPerson_139 _ _ _ _ s8 (fun q => absurd rfl q) (fun _ => qLn_bad (Y := gPl T n D (0, (kE T n (kE T n (kE T n (kE T n (kE T n (kE T n (kE T n (kE T n (kE T n (kE T n p)))))))))))) ?_ a ((by first | exact frH_N f | exact frH_N (frN_M f) : frH _ _).trans t7) b)
    unfold pPerson; dsimp only; rw [e0, e1, e2, e3, e4, e5, e6, e7, e8, gS_nz a]
  have c6'' : s8 188 (5 + cnt D 3) = _ := (f8 188 _ (by omega)).trans c6'
  have c5'''' : s8 187 (5 + cnt D 3) = _ := (f8 187 _ (by omega)).trans c5'''
  have c4'''''' : s8 186 (5 + cnt D 3) = _ := (f8 186 _ (by omega)).trans c4'''''
  have t8 : frH s s8 := (by first | exact frH_N f8 | exact frH_N (frN_M f8) : frH _ _).trans t7
  refine b_X11_readsPerson_139 _ _ _ _ s8 (fun _ n8 hn8 => ?_) (fun q => absurd q (by decide))
  rw [Int.toNat_natCast]
  have hcc : s8 174 10 = ((cnt D 3 : Nat) : Int) := h8.2.1.1 3 (by omega)
  have hr : mP (zu (zu (zu s8 189 (5 + cnt D 3) (s8 172 45)) 177 (5 + cnt D 3) (enc 27 (eW T n (kB T n (kE T n p))))) 174 10 (w32 (s8 174 10 + 1))) T n (kE T n (kE T n (kE T n (kE T n (kE T n (kE T n (kE T n (kE T n (kE T n (kE T n (kE T n (kE T n p)))))))))))) (addR (addN D 3 (eW T n (kB T n (kE T n p)))) 3 [vPl T n D (0, (kE T n (kE T n (kE T n p)))), eM T n (kB T n (kE T n (kE T n (kE T n (kE T n (kE T n (kE T n p))))))), eM T n (kB T n (kE T n (kE T n (kE T n (kE T n (kE T n (kE T n (kE T n (kE T n p))))))))), vPl T n D (0, (kE T n (kE T n (kE T n (kE T n (kE T n (kE T n (kE T n (kE T n (kE T n (kE T n p)))))))))))]) := by
    refine mP_row h8 (k := 3) (by decide) (by decide) hW rfl (by show cnt D 3 < most 3; unfold most; simp; omega) (fun q => absurd q (by decide)) ?_ ?_ (fun j v hv => ?_) (fun c j a b d => ?_)
    · show zu _ 174 10 _ 174 10 = _; rw [zu_eq, hcc, w32_id (by omega) (by omega)]; omega
    · show zu (zu _ 177 (5 + cnt D 3) _) 174 10 _ 177 (5 + cnt D 3) = _; rw [zu_n (by omega), zu_eq]
    · match j, hv with
      | 0, hv => cases hv; show zu (zu (zu _ 189 (5 + cnt D 3) _) 177 (5 + cnt D 3) _) 174 10 _ 186 (5 + cnt D 3) = _; rw [zu_n (by omega), zu_n (by omega), zu_n (by omega), c4'''''']
      | 1, hv => cases hv; show zu (zu (zu _ 189 (5 + cnt D 3) _) 177 (5 + cnt D 3) _) 174 10 _ 187 (5 + cnt D 3) = _; rw [zu_n (by omega), zu_n (by omega), zu_n (by omega), c5'''']
      | 2, hv => cases hv; show zu (zu (zu _ 189 (5 + cnt D 3) _) 177 (5 + cnt D 3) _) 174 10 _ 188 (5 + cnt D 3) = _; rw [zu_n (by omega), zu_n (by omega), zu_n (by omega), c6'']
      | 3, hv => cases hv; show zu (zu (zu _ 189 (5 + cnt D 3) _) 177 (5 + cnt D 3) _) 174 10 _ 189 (5 + cnt D 3) = _; rw [zu_n (by omega), zu_n (by omega), zu_eq, v8]
      | _ + 4, hv => simp at hv
    · have b : ¬ (c = 177 ∧ j = 5 + cnt D 3) := b
      have d : ¬ (186 ≤ c ∧ c < 190 ∧ j = 5 + cnt D 3) := d
      rw [zu_n (by omega), zu_n (by omega), zu_n (by omega)]
  have tr : frH s (zu (zu (zu s8 189 (5 + cnt D 3) (s8 172 45)) 177 (5 + cnt D 3) (enc 27 (eW T n (kB T n (kE T n p))))) 174 10 (w32 (s8 174 10 + 1))) := (frH_u (by have h9 : hbf 174 = 7 := rfl; omega) (by omega)).trans ((frH_u (by have h9 : hbf 177 = 5 := rfl; omega) (by omega)).trans ((frH_u (by have h9 : hbf 189 = 5 := rfl; omega) (by omega)).trans t8))
  generalize zu (zu (zu s8 189 (5 + cnt D 3) (s8 172 45)) 177 (5 + cnt D 3) (enc 27 (eW T n (kB T n (kE T n p))))) 174 10 (w32 (s8 174 10 + 1)) = sr at hr tr ⊢
  refine closes_q hr (fun s' a f b => ?_) (fun s' ez f h' => ?_)
  · refine b_X11_readsPerson_176 _ _ _ _ s' (qLn_bad (Y := gS T n 59 (0, (kE T n (kE T n (kE T n (kE T n (kE T n (kE T n (kE T n (kE T n (kE T n (kE T n (kE T n (kE T n p)))))))))))))) ?_ a ((by first | exact frH_N f | exact frH_N (frN_M f) : frH _ _).trans tr) b)
    unfold pPerson; dsimp only; rw [e0, e1, e2, e3, e4, e5, e6, e7, e8, e9]
  · refine b_X11_readsPerson_176 _ _ _ _ s' (qLn_good ?_ ((by first | exact frH_N f | exact frH_N (frN_M f) : frH _ _).trans tr) h')
    unfold pPerson; dsimp only; rw [e0, e1, e2, e3, e4, e5, e6, e7, e8, e9, ez]; rfl
theorem mHill_ok (h : mP s T n p D) : zC N 1499 [(((172 : Nat) : Int), 0)] s (qLn s T n (pHill T n (0, p) D)) := by
  have hc : s 174 11 = ((cnt D 4 : Nat) : Int) := h.2.1.1 4 (by omega)
  have hm : cnt D 4 ≤ 4 := h.2.2.1.1 4 (by omega)
  have hx : w32 (4 + s 174 11) = ((4 + cnt D 4 : Nat) : Int) := by rw [hc, w32_id (by omega) (by omega)]; omega
  have hp := h.1.2.1
  refine c_X11_readsHill (b_X11_readsHill_0 _ _ _ s (fun g m0 hm0 => ?_) (fun g => ?_))
  rotate_left
  · rw [hx] at g
    have e1 : gFi T n D 4 (0, p) = gF T n 5 (0, p) := if_pos (by show most 4 ≤ cnt D 4; unfold most; simp; omega)
    refine mfail_q (k' := 5) (by decide) h.1 rfl (fun s' a f b => qLn_bad (Y := gF T n 5 (0, p)) ?_ a (by first | exact frH_N f | exact frH_N (frN_M f) : frH _ _) b)
    unfold pHill; dsimp only; rw [e1, gNew_nz a, gW_nz a, gN_nz a, gW_nz a, gN_nz a, gS_nz a]
  rw [hx] at g ⊢
  have hlt : cnt D 4 < 4 := by omega
  have e0 : gFi T n D 4 (0, p) = (0, kE T n p) := if_neg (by show ¬ most 4 ≤ cnt D 4; unfold most; simp; omega)
  refine mst_next h.1 (fun s1 f1 p1 => ?_)
  have h1 := mP_N (frN_M f1) h p1 (by have := kE_bd (T := T) hp; omega)
  have t1 : frH s s1 := (by first | exact frH_N f1 | exact frH_N (frN_M f1))
  refine b_X11_readsHill_26 _ _ _ s1 (fun m1 hm1 => isNew_q h1 (fun s2 a f b => ?_) (fun e1 hn => ?_))
  · refine b_X11_readsHill_30 _ _ _ _ s2 (fun q => absurd rfl q) (fun _ => qLn_bad (Y := gNew T n D (0, kE T n p)) ?_ a ((by first | exact frH_N f | exact frH_N (frN_M f) : frH _ _).trans t1) b)
    unfold pHill; dsimp only; rw [e0, gW_nz a, gN_nz a, gW_nz a, gN_nz a, gS_nz a]
  have hq := (isNm_iff.mp hn).1
  have hW := isNm_w (kB_bd h1.1.2.1) hn
  have ew : s1 172 7 = enc 27 (eW T n (kB T n (kE T n p))) := h1.1.2.2.2.2.2.1 hq
  refine b_X11_readsHill_30 _ _ _ _ s1 (fun _ m2 hm2 => ?_) (fun q => absurd q (by decide))
  rw [ew]
  refine mst_next h1.1 (fun s2 f2 p2 => ?_)
  have h2 := mP_N (frN_M f2) h1 p2 (by have := kE_bd (T := T) h1.1.2.1; omega)
  have t2 : frH s s2 := (by first | exact frH_N f2 | exact frH_N (frN_M f2) : frH _ _).trans t1
  refine b_X11_readsHill_44 _ _ _ s2 (fun n2 hn2 => ?_)
  refine needsBoth_q (i := 3) (by omega) (by decide) h2 (fun s3 a f b => ?_) (fun s3 e2 e3 f3 h3 v3 l3 l3' => ?_)
  · refine b_X11_readsHill_54 _ _ _ _ s3 (fun q => absurd rfl q) (fun _ => qLn_bad (Y := gN T n 1 99 (gW T n 3 (0, (kE T n (kE T n p))))) ?_ a ((by first | exact frH_N f | exact frH_N (frN_M f) : frH _ _).trans t2) b)
    unfold pHill; dsimp only; rw [e0, e1, gW_nz a, gN_nz a, gS_nz a]
  have t3 : frH s s3 := (by first | exact frH_N f3 | exact frH_N (frN_M f3) : frH _ _).trans t2
  refine b_X11_readsHill_54 _ _ _ _ s3 (fun _ n3 hn3 => ?_) (fun q => absurd q (by decide))
  rw [Int.toNat_natCast]
  have hw3 : mP (zu s3 190 (4 + cnt D 4) (s3 172 45)) T n (kE T n (kE T n (kE T n (kE T n p)))) D := mP_w (k := 4) (j := 0) h3 (by omega) (by decide)
  have c3 : (zu s3 190 (4 + cnt D 4) (s3 172 45)) 190 (4 + cnt D 4) = eM T n (kB T n (kE T n (kE T n (kE T n p)))) := by rw [zu_eq, v3]
  have tt3 : frH s (zu s3 190 (4 + cnt D 4) (s3 172 45)) := (frH_u (by have h9 : hbf 190 = 4 := rfl; omega) (by omega)).trans t3
  generalize zu s3 190 (4 + cnt D 4) (s3 172 45) = u3 at hw3 tt3 c3 ⊢
  refine needsBoth_q (i := 13) (by omega) (by decide) hw3 (fun s4 a f b => ?_) (fun s4 e4 e5 f4 h4 v4 l4 l4' => ?_)
  · refine b_X11_readsHill_79 _ _ _ _ s4 (fun q => absurd rfl q) (fun _ => qLn_bad (Y := gN T n 0 99 (gW T n 13 (0, (kE T n (kE T n (kE T n (kE T n p))))))) ?_ a ((by first | exact frH_N f | exact frH_N (frN_M f) : frH _ _).trans tt3) b)
    unfold pHill; dsimp only; rw [e0, e1, e2, e3, gS_nz a]
  have c3' : s4 190 (4 + cnt D 4) = _ := (f4 190 _ (by omega)).trans c3
  have t4 : frH s s4 := (by first | exact frH_N f4 | exact frH_N (frN_M f4) : frH _ _).trans tt3
  refine b_X11_readsHill_79 _ _ _ _ s4 (fun _ n4 hn4 => ?_) (fun q => absurd q (by decide))
  rw [Int.toNat_natCast]
  have hcc : s4 174 11 = ((cnt D 4 : Nat) : Int) := h4.2.1.1 4 (by omega)
  have hr : mP (zu (zu (zu s4 191 (4 + cnt D 4) (s4 172 45)) 178 (4 + cnt D 4) (enc 27 (eW T n (kB T n (kE T n p))))) 174 11 (w32 (s4 174 11 + 1))) T n (kE T n (kE T n (kE T n (kE T n (kE T n (kE T n p)))))) (addR (addN D 4 (eW T n (kB T n (kE T n p)))) 4 [eM T n (kB T n (kE T n (kE T n (kE T n p)))), eM T n (kB T n (kE T n (kE T n (kE T n (kE T n (kE T n p))))))]) := by
    refine mP_row h4 (k := 4) (by decide) (by decide) hW rfl (by show cnt D 4 < most 4; unfold most; simp; omega) (fun q => absurd q (by decide)) ?_ ?_ (fun j v hv => ?_) (fun c j a b d => ?_)
    · show zu _ 174 11 _ 174 11 = _; rw [zu_eq, hcc, w32_id (by omega) (by omega)]; omega
    · show zu (zu _ 178 (4 + cnt D 4) _) 174 11 _ 178 (4 + cnt D 4) = _; rw [zu_n (by omega), zu_eq]
    · match j, hv with
      | 0, hv => cases hv; show zu (zu (zu _ 191 (4 + cnt D 4) _) 178 (4 + cnt D 4) _) 174 11 _ 190 (4 + cnt D 4) = _; rw [zu_n (by omega), zu_n (by omega), zu_n (by omega), c3']
      | 1, hv => cases hv; show zu (zu (zu _ 191 (4 + cnt D 4) _) 178 (4 + cnt D 4) _) 174 11 _ 191 (4 + cnt D 4) = _; rw [zu_n (by omega), zu_n (by omega), zu_eq, v4]
      | _ + 2, hv => simp at hv
    · have b : ¬ (c = 178 ∧ j = 4 + cnt D 4) := b
      have d : ¬ (190 ≤ c ∧ c < 192 ∧ j = 4 + cnt D 4) := d
      rw [zu_n (by omega), zu_n (by omega), zu_n (by omega)]
  have tr : frH s (zu (zu (zu s4 191 (4 + cnt D 4) (s4 172 45)) 178 (4 + cnt D 4) (enc 27 (eW T n (kB T n (kE T n p))))) 174 11 (w32 (s4 174 11 + 1))) := (frH_u (by have h9 : hbf 174 = 7 := rfl; omega) (by omega)).trans ((frH_u (by have h9 : hbf 178 = 4 := rfl; omega) (by omega)).trans ((frH_u (by have h9 : hbf 191 = 4 := rfl; omega) (by omega)).trans t4))
  generalize zu (zu (zu s4 191 (4 + cnt D 4) (s4 172 45)) 178 (4 + cnt D 4) (enc 27 (eW T n (kB T n (kE T n p))))) 174 11 (w32 (s4 174 11 + 1)) = sr at hr tr ⊢
  refine closes_q hr (fun s' a f b => ?_) (fun s' ez f h' => ?_)
  · refine b_X11_readsHill_116 _ _ _ _ s' (qLn_bad (Y := gS T n 59 (0, (kE T n (kE T n (kE T n (kE T n (kE T n (kE T n p)))))))) ?_ a ((by first | exact frH_N f | exact frH_N (frN_M f) : frH _ _).trans tr) b)
    unfold pHill; dsimp only; rw [e0, e1, e2, e3, e4, e5]
  · refine b_X11_readsHill_116 _ _ _ _ s' (qLn_good ?_ ((by first | exact frH_N f | exact frH_N (frN_M f) : frH _ _).trans tr) h')
    unfold pHill; dsimp only; rw [e0, e1, e2, e3, e4, e5, ez]; rfl
end Zmr
