/-! judged and years of the model bring back how it stands -/
theorem b_X11_isCut_0 {n : Nat} {Q : Zr → Prop} (x1 x2 x3 : Int) (s : Zs) 
    (h0 : ∀ m, m < n → zC m 1424 [(((172 : Nat) : Int), 0), (s 187 x1.toNat, 0), (x3, 0), ((-1), 0)] s (fun p => zT (zE 1445) (Pt PX11_isCut) m (14, [((172 : Nat) : Int), x1, x2, x3], p.1 ++ [(x2, 0), (((172 : Nat) : Int), 0)], p.2) Q)) : zT (zE 1445) (Pt PX11_isCut) n (0, [((172 : Nat) : Int), x1, x2, x3], [], s) Q := by
  refine tL ((172 : Nat) : Int) 0 rfl rfl rfl ?_
  refine tL x2 0 rfl rfl rfl ?_
  refine tL ((172 : Nat) : Int) 0 rfl rfl rfl ?_
  refine tL ((172 : Nat) : Int) 0 rfl rfl rfl ?_
  refine tFR (c := 172) 187 rfl rfl rfl rfl rfl ?_
  refine tL x1 0 rfl rfl rfl ?_
  refine tAv 187 x1.toNat (s 187 x1.toNat) 0 rfl rfl rfl (by decide) rfl rfl ?_
  refine tL x3 0 rfl rfl rfl ?_
  refine tK rfl ?_
  exact tCall [(((172 : Nat) : Int), 0), (s 187 x1.toNat, 0), (x3, 0), ((-1), 0)] [(x2, 0), (((172 : Nat) : Int), 0)] rfl rfl rfl (fun m l => h0 m (Nat.lt_of_lt_of_le l (Nat.le_refl n)))

theorem b_X11_isCut_14 {n : Nat} {Q : Zr → Prop} (x1 x2 x3 v0 y0 : Int) (s : Zs) 
    (h0 : ∀ m, m < n → zC m 1511 [(((172 : Nat) : Int), 0), (y0, 0), (v0, 0)] s (fun p => zT (zE 1445) (Pt PX11_isCut) m (17, [((172 : Nat) : Int), x1, x2, x3], p.1 ++ [], p.2) Q)) : zT (zE 1445) (Pt PX11_isCut) n (14, [((172 : Nat) : Int), x1, x2, x3], [(v0, 0), (y0, 0), (((172 : Nat) : Int), 0)], s) Q := by
  exact tCall [(((172 : Nat) : Int), 0), (y0, 0), (v0, 0)] [] rfl rfl rfl (fun m l => h0 m (Nat.lt_of_lt_of_le l (Nat.le_refl n)))

theorem b_X11_isCut_17 {n : Nat} {Q : Zr → Prop} (x1 x2 x3 v0 : Int) (s : Zs) 
    (h0 : ∀ (g1 : zand (zshr v0 (s 189 x1.toNat)) 1 ≠ 0), Q ([(0, 0)], s))
    (h1 : ∀ (g1 : zand (zshr v0 (s 189 x1.toNat)) 1 = 0), Q ([(1, 0)], s)) : zT (zE 1445) (Pt PX11_isCut) n (17, [((172 : Nat) : Int), x1, x2, x3], [(v0, 0)], s) Q := by
  refine tL ((172 : Nat) : Int) 0 rfl rfl rfl ?_
  refine tFR (c := 172) 189 rfl rfl rfl rfl rfl ?_
  refine tL x1 0 rfl rfl rfl ?_
  refine tAv 189 x1.toNat (s 189 x1.toNat) 0 rfl rfl rfl (by decide) rfl rfl ?_
  refine tB (v := zshr v0 (s 189 x1.toNat)) rfl rfl ?_
  refine tK rfl ?_
  refine tB (v := zand (zshr v0 (s 189 x1.toNat)) 1) rfl rfl ?_
  refine tI1 rfl (fun g1 _ l1 => zT_le ?_ (Nat.le_of_lt l1)) (fun g1 _ l1 => zT_le ?_ (Nat.le_of_lt l1))
  · refine tK rfl ?_
    exact tR rfl (h0 g1)
  · refine tK rfl ?_
    refine tG rfl ?_
    exact tR rfl (h1 g1)

theorem c_X11_isCut {n : Nat} {Q : Zr → Prop} {a0 a1 a2 a3 : Int} {s : Zs} (h : zT (zE 1445) (Pt PX11_isCut) n (0, [a0, a1, a2, a3], [], s) Q) : zC n 1445 [(a0, 0), (a1, 0), (a2, 0), (a3, 0)] s Q := h

theorem b_X11_cutBy_0 {n : Nat} {Q : Zr → Prop} (x1 x2 x3 : Int) (s : Zs) 
    (h0 : zT (zE 1430) (Pt PX11_cutBy) n (4, [((172 : Nat) : Int), x1, 0, 0], [], s) Q) : zT (zE 1430) (Pt PX11_cutBy) n (0, [((172 : Nat) : Int), x1, x2, x3], [], s) Q := by
  refine tK rfl ?_
  refine tS [((172 : Nat) : Int), x1, 0, x3] rfl rfl ?_
  refine tK rfl ?_
  refine tS [((172 : Nat) : Int), x1, 0, 0] rfl rfl ?_
  exact zT_le (h0) (Nat.le_refl n)

theorem b_X11_cutBy_4 {n : Nat} {Q : Zr → Prop} (x1 x2 x3 : Int) (s : Zs) 
    (h0 : ∀ (g1 : s 174 3 ≤ x3), Q ([(x2, 0)], s))
    (h1 : ∀ (g1 : x3 < s 174 3), ∀ m, m < n → zC m 1445 [(((172 : Nat) : Int), 0), (x3, 0), (s 216 ((w32 (1 + x3)).toNat), 0), (x1, 0)] s (fun p => zT (zE 1430) (Pt PX11_cutBy) m (29, [((172 : Nat) : Int), x1, x2, x3], p.1 ++ [(x2, 0)], p.2) Q)) : zT (zE 1430) (Pt PX11_cutBy) n (4, [((172 : Nat) : Int), x1, x2, x3], [], s) Q := by
  refine tL x3 0 rfl rfl rfl ?_
  refine tL ((172 : Nat) : Int) 0 rfl rfl rfl ?_
  refine tFR (c := 172) 174 rfl rfl rfl rfl rfl ?_
  refine tK rfl ?_
  refine tAv 174 3 (s 174 3) 0 rfl rfl rfl (by decide) rfl rfl ?_
  refine tJ3 rfl (fun g1 _ l1 => zT_le ?_ (Nat.le_of_lt l1)) (fun g1 _ l1 => zT_le ?_ (Nat.le_of_lt l1))
  · refine tL x2 0 rfl rfl rfl ?_
    exact tR rfl (h0 g1)
  · refine tL x2 0 rfl rfl rfl ?_
    refine tL ((172 : Nat) : Int) 0 rfl rfl rfl ?_
    refine tL x3 0 rfl rfl rfl ?_
    refine tL ((172 : Nat) : Int) 0 rfl rfl rfl ?_
    refine tFR (c := 172) 216 rfl rfl rfl rfl rfl ?_
    refine tK rfl ?_
    refine tL x3 0 rfl rfl rfl ?_
    refine tB (v := w32 (1 + x3)) rfl rfl ?_
    refine tAv 216 ((w32 (1 + x3)).toNat) (s 216 ((w32 (1 + x3)).toNat)) 0 rfl rfl rfl (by decide) rfl rfl ?_
    refine tL x1 0 rfl rfl rfl ?_
    exact tCall [(((172 : Nat) : Int), 0), (x3, 0), (s 216 ((w32 (1 + x3)).toNat), 0), (x1, 0)] [(x2, 0)] rfl rfl rfl (fun m l => h1 g1 m (Nat.lt_of_lt_of_le l (Nat.le_refl n)))

theorem b_X11_cutBy_29 {n : Nat} {Q : Zr → Prop} (x1 x2 x3 v0 y0 : Int) (s : Zs) 
    (h0 : ∀ (g1 : v0 = 0), ∀ m, m < n → zT (zE 1430) (Pt PX11_cutBy) m (4, [((172 : Nat) : Int), x1, zor y0 0, w32 (x3 + 1)], [], s) Q)
    (h1 : ∀ (g1 : v0 ≠ 0), ∀ m, m < n → zT (zE 1430) (Pt PX11_cutBy) m (4, [((172 : Nat) : Int), x1, zor y0 (zshl 1 x3), w32 (x3 + 1)], [], s) Q) : zT (zE 1430) (Pt PX11_cutBy) n (29, [((172 : Nat) : Int), x1, x2, x3], [(v0, 0), (y0, 0)], s) Q := by
  refine tI0 rfl (fun g1 _ l1 => zT_le ?_ (Nat.le_of_lt l1)) (fun g1 _ l1 => zT_le ?_ (Nat.le_of_lt l1))
  · refine tK rfl ?_
    refine tB (v := zor y0 0) rfl rfl ?_
    refine tS [((172 : Nat) : Int), x1, zor y0 0, x3] rfl rfl ?_
    refine tInc [((172 : Nat) : Int), x1, zor y0 0, w32 (x3 + 1)] rfl rfl ?_
    exact tGb rfl (fun m2 l2 => h0 g1 m2 (Nat.lt_of_lt_of_le l2 (Nat.le_refl n)))
  · refine tK rfl ?_
    refine tL x3 0 rfl rfl rfl ?_
    refine tB (v := zshl 1 x3) rfl rfl ?_
    refine tG rfl ?_
    refine tB (v := zor y0 (zshl 1 x3)) rfl rfl ?_
    refine tS [((172 : Nat) : Int), x1, zor y0 (zshl 1 x3), x3] rfl rfl ?_
    refine tInc [((172 : Nat) : Int), x1, zor y0 (zshl 1 x3), w32 (x3 + 1)] rfl rfl ?_
    exact tGb rfl (fun m2 l2 => h1 g1 m2 (Nat.lt_of_lt_of_le l2 (Nat.le_refl n)))

theorem c_X11_cutBy {n : Nat} {Q : Zr → Prop} {a0 a1 : Int} {s : Zs} (h : zT (zE 1430) (Pt PX11_cutBy) n (0, [a0, a1, 0, 0], [], s) Q) : zC n 1430 [(a0, 0), (a1, 0)] s Q := h

theorem b_X11_goes_0 {n : Nat} {Q : Zr → Prop} (x1 x2 x3 : Int) (s : Zs) 
    (h0 : ∀ (g1 : s 208 x1.toNat ≠ 0), ∀ (g2 : s 208 x1.toNat ≠ 1), ∀ (g3 : s 208 x1.toNat ≠ 2), ∀ (g4 : s 208 x1.toNat ≠ 3), Q ([(1, 0)], zu s 216 11 (w32 ((s 216 11) + 1))))
    (h1 : ∀ (g1 : s 208 x1.toNat ≠ 0), ∀ (g2 : s 208 x1.toNat ≠ 1), ∀ (g3 : s 208 x1.toNat ≠ 2), ∀ (g4 : s 208 x1.toNat = 3), ∀ m, m < n → zC m 1418 [(((172 : Nat) : Int), 0), (s 209 x1.toNat, 0), (s 211 x1.toNat, 0), (s 210 x1.toNat, 0)] s (fun p => zT (zE 1442) (Pt PX11_goes) m (120, [((172 : Nat) : Int), x1, s 208 x1.toNat, s 209 x1.toNat], p.1 ++ [], p.2) Q))
    (h2 : ∀ (g1 : s 208 x1.toNat ≠ 0), ∀ (g2 : s 208 x1.toNat ≠ 1), ∀ (g3 : s 208 x1.toNat = 2), ∀ m, m < n → zC m 1419 [(((172 : Nat) : Int), 0), (s 209 x1.toNat, 0), (s 210 x1.toNat, 0)] s (fun p => zT (zE 1442) (Pt PX11_goes) m (76, [((172 : Nat) : Int), x1, s 208 x1.toNat, s 209 x1.toNat], p.1 ++ [], p.2) Q))
    (h3 : ∀ (g1 : s 208 x1.toNat ≠ 0), ∀ (g2 : s 208 x1.toNat = 1), ∀ m, m < n → zC m 1417 [(((172 : Nat) : Int), 0), (s 209 x1.toNat, 0)] s (fun p => zT (zE 1442) (Pt PX11_goes) m (47, [((172 : Nat) : Int), x1, s 208 x1.toNat, s 209 x1.toNat], p.1 ++ [], p.2) Q))
    (h4 : ∀ (g1 : s 208 x1.toNat = 0), ∀ m, m < n → zC m 1421 [(((172 : Nat) : Int), 0), (s 209 x1.toNat, 0)] s (fun p => zT (zE 1442) (Pt PX11_goes) m (23, [((172 : Nat) : Int), x1, s 208 x1.toNat, s 209 x1.toNat], p.1 ++ [], p.2) Q)) : zT (zE 1442) (Pt PX11_goes) n (0, [((172 : Nat) : Int), x1, x2, x3], [], s) Q := by
  refine tL ((172 : Nat) : Int) 0 rfl rfl rfl ?_
  refine tFR (c := 172) 208 rfl rfl rfl rfl rfl ?_
  refine tL x1 0 rfl rfl rfl ?_
  refine tAv 208 x1.toNat (s 208 x1.toNat) 0 rfl rfl rfl (by decide) rfl rfl ?_
  refine tS [((172 : Nat) : Int), x1, s 208 x1.toNat, x3] rfl rfl ?_
  refine tL ((172 : Nat) : Int) 0 rfl rfl rfl ?_
  refine tFR (c := 172) 209 rfl rfl rfl rfl rfl ?_
  refine tL x1 0 rfl rfl rfl ?_
  refine tAv 209 x1.toNat (s 209 x1.toNat) 0 rfl rfl rfl (by decide) rfl rfl ?_
  refine tS [((172 : Nat) : Int), x1, s 208 x1.toNat, s 209 x1.toNat] rfl rfl ?_
  refine tL (s 208 x1.toNat) 0 rfl rfl rfl ?_
  refine tI1 rfl (fun g1 _ l1 => zT_le ?_ (Nat.le_of_lt l1)) (fun g1 _ l1 => zT_le ?_ (Nat.le_of_lt l1))
  · refine tL (s 208 x1.toNat) 0 rfl rfl rfl ?_
    refine tK rfl ?_
    refine tJ1 rfl (fun g2 _ l2 => zT_le ?_ (Nat.le_of_lt l2)) (fun g2 _ l2 => zT_le ?_ (Nat.le_of_lt l2))
    · refine tL (s 208 x1.toNat) 0 rfl rfl rfl ?_
      refine tK rfl ?_
      refine tJ1 rfl (fun g3 _ l3 => zT_le ?_ (Nat.le_of_lt l3)) (fun g3 _ l3 => zT_le ?_ (Nat.le_of_lt l3))
      · refine tL (s 208 x1.toNat) 0 rfl rfl rfl ?_
        refine tK rfl ?_
        refine tJ1 rfl (fun g4 _ l4 => zT_le ?_ (Nat.le_of_lt l4)) (fun g4 _ l4 => zT_le ?_ (Nat.le_of_lt l4))
        · refine tL ((172 : Nat) : Int) 0 rfl rfl rfl ?_
          refine tFR (c := 172) 216 rfl rfl rfl rfl rfl ?_
          refine tK rfl ?_
          refine tD2 rfl ?_
          refine tAv 216 11 (s 216 11) 0 rfl rfl rfl (by decide) rfl rfl ?_
          refine tK rfl ?_
          refine tB (v := w32 ((s 216 11) + 1)) rfl rfl ?_
          refine tAS 216 11 rfl rfl rfl (by decide) ?_
          refine tK rfl ?_
          exact tR rfl (h0 g1 g2 g3 g4)
        · refine tL ((172 : Nat) : Int) 0 rfl rfl rfl ?_
          refine tL (s 209 x1.toNat) 0 rfl rfl rfl ?_
          refine tL ((172 : Nat) : Int) 0 rfl rfl rfl ?_
          refine tFR (c := 172) 211 rfl rfl rfl rfl rfl ?_
          refine tL x1 0 rfl rfl rfl ?_
          refine tAv 211 x1.toNat (s 211 x1.toNat) 0 rfl rfl rfl (by decide) rfl rfl ?_
          refine tL ((172 : Nat) : Int) 0 rfl rfl rfl ?_
          refine tFR (c := 172) 210 rfl rfl rfl rfl rfl ?_
          refine tL x1 0 rfl rfl rfl ?_
          refine tAv 210 x1.toNat (s 210 x1.toNat) 0 rfl rfl rfl (by decide) rfl rfl ?_
          exact tCall [(((172 : Nat) : Int), 0), (s 209 x1.toNat, 0), (s 211 x1.toNat, 0), (s 210 x1.toNat, 0)] [] rfl rfl rfl (fun m l => h1 g1 g2 g3 g4 m (Nat.lt_of_lt_of_le l (Nat.le_refl n)))
      · refine tL ((172 : Nat) : Int) 0 rfl rfl rfl ?_
        refine tL (s 209 x1.toNat) 0 rfl rfl rfl ?_
        refine tL ((172 : Nat) : Int) 0 rfl rfl rfl ?_
        refine tFR (c := 172) 210 rfl rfl rfl rfl rfl ?_
        refine tL x1 0 rfl rfl rfl ?_
        refine tAv 210 x1.toNat (s 210 x1.toNat) 0 rfl rfl rfl (by decide) rfl rfl ?_
        exact tCall [(((172 : Nat) : Int), 0), (s 209 x1.toNat, 0), (s 210 x1.toNat, 0)] [] rfl rfl rfl (fun m l => h2 g1 g2 g3 m (Nat.lt_of_lt_of_le l (Nat.le_refl n)))
    · refine tL ((172 : Nat) : Int) 0 rfl rfl rfl ?_
      refine tL (s 209 x1.toNat) 0 rfl rfl rfl ?_
      exact tCall [(((172 : Nat) : Int), 0), (s 209 x1.toNat, 0)] [] rfl rfl rfl (fun m l => h3 g1 g2 m (Nat.lt_of_lt_of_le l (Nat.le_refl n)))
  · refine tL ((172 : Nat) : Int) 0 rfl rfl rfl ?_
    refine tL (s 209 x1.toNat) 0 rfl rfl rfl ?_
    exact tCall [(((172 : Nat) : Int), 0), (s 209 x1.toNat, 0)] [] rfl rfl rfl (fun m l => h4 g1 m (Nat.lt_of_lt_of_le l (Nat.le_refl n)))

theorem b_X11_goes_120 {n : Nat} {Q : Zr → Prop} (x1 x2 x3 v0 : Int) (s : Zs) 
    (h0 : ∀ (g1 : v0 ≠ 0), ∀ m, m < n → zC m 1422 [(((172 : Nat) : Int), 0), (x3, 0), (s 211 x1.toNat, 0), (s 210 x1.toNat, 0)] s (fun p => zT (zE 1442) (Pt PX11_goes) m (142, [((172 : Nat) : Int), x1, x2, x3], p.1 ++ [], p.2) Q))
    (h1 : ∀ (g1 : v0 = 0), Q ([(0, 0)], s)) : zT (zE 1442) (Pt PX11_goes) n (120, [((172 : Nat) : Int), x1, x2, x3], [(v0, 0)], s) Q := by
  refine tI1 rfl (fun g1 _ l1 => zT_le ?_ (Nat.le_of_lt l1)) (fun g1 _ l1 => zT_le ?_ (Nat.le_of_lt l1))
  · refine tL ((172 : Nat) : Int) 0 rfl rfl rfl ?_
    refine tL x3 0 rfl rfl rfl ?_
    refine tL ((172 : Nat) : Int) 0 rfl rfl rfl ?_
    refine tFR (c := 172) 211 rfl rfl rfl rfl rfl ?_
    refine tL x1 0 rfl rfl rfl ?_
    refine tAv 211 x1.toNat (s 211 x1.toNat) 0 rfl rfl rfl (by decide) rfl rfl ?_
    refine tL ((172 : Nat) : Int) 0 rfl rfl rfl ?_
    refine tFR (c := 172) 210 rfl rfl rfl rfl rfl ?_
    refine tL x1 0 rfl rfl rfl ?_
    refine tAv 210 x1.toNat (s 210 x1.toNat) 0 rfl rfl rfl (by decide) rfl rfl ?_
    exact tCall [(((172 : Nat) : Int), 0), (x3, 0), (s 211 x1.toNat, 0), (s 210 x1.toNat, 0)] [] rfl rfl rfl (fun m l => h0 g1 m (Nat.lt_of_lt_of_le l (Nat.le_refl n)))
  · refine tK rfl ?_
    exact tR rfl (h1 g1)

theorem b_X11_goes_76 {n : Nat} {Q : Zr → Prop} (x1 x2 x3 v0 : Int) (s : Zs) 
    (h0 : ∀ (g1 : v0 ≠ 0), Q ([(1, 0)], zu s 216 ((w32 (1 + x3)).toNat) (s 210 x1.toNat)))
    (h1 : ∀ (g1 : v0 = 0), Q ([(0, 0)], s)) : zT (zE 1442) (Pt PX11_goes) n (76, [((172 : Nat) : Int), x1, x2, x3], [(v0, 0)], s) Q := by
  refine tI1 rfl (fun g1 _ l1 => zT_le ?_ (Nat.le_of_lt l1)) (fun g1 _ l1 => zT_le ?_ (Nat.le_of_lt l1))
  · refine tL ((172 : Nat) : Int) 0 rfl rfl rfl ?_
    refine tFR (c := 172) 216 rfl rfl rfl rfl rfl ?_
    refine tK rfl ?_
    refine tL x3 0 rfl rfl rfl ?_
    refine tB (v := w32 (1 + x3)) rfl rfl ?_
    refine tL ((172 : Nat) : Int) 0 rfl rfl rfl ?_
    refine tFR (c := 172) 210 rfl rfl rfl rfl rfl ?_
    refine tL x1 0 rfl rfl rfl ?_
    refine tAv 210 x1.toNat (s 210 x1.toNat) 0 rfl rfl rfl (by decide) rfl rfl ?_
    refine tAS 216 ((w32 (1 + x3)).toNat) rfl rfl rfl (by decide) ?_
    refine tG rfl ?_
    refine tK rfl ?_
    exact tR rfl (h0 g1)
  · refine tK rfl ?_
    exact tR rfl (h1 g1)

theorem b_X11_goes_47 {n : Nat} {Q : Zr → Prop} (x1 x2 x3 v0 : Int) (s : Zs) 
    (h0 : ∀ (g1 : v0 ≠ 0), ∀ m, m < n → zC m 1416 [(((172 : Nat) : Int), 0), (x3, 0)] s (fun p => zT (zE 1442) (Pt PX11_goes) m (57, [((172 : Nat) : Int), x1, x2, x3], p.1 ++ [], p.2) Q))
    (h1 : ∀ (g1 : v0 = 0), Q ([(0, 0)], s)) : zT (zE 1442) (Pt PX11_goes) n (47, [((172 : Nat) : Int), x1, x2, x3], [(v0, 0)], s) Q := by
  refine tI1 rfl (fun g1 _ l1 => zT_le ?_ (Nat.le_of_lt l1)) (fun g1 _ l1 => zT_le ?_ (Nat.le_of_lt l1))
  · refine tL ((172 : Nat) : Int) 0 rfl rfl rfl ?_
    refine tL x3 0 rfl rfl rfl ?_
    exact tCall [(((172 : Nat) : Int), 0), (x3, 0)] [] rfl rfl rfl (fun m l => h0 g1 m (Nat.lt_of_lt_of_le l (Nat.le_refl n)))
  · refine tK rfl ?_
    exact tR rfl (h1 g1)

theorem b_X11_goes_23 {n : Nat} {Q : Zr → Prop} (x1 x2 x3 v0 : Int) (s : Zs) 
    (h0 : ∀ (g1 : v0 ≠ 0), ∀ m, m < n → zC m 1514 [(((172 : Nat) : Int), 0), (x3, 0)] s (fun p => zT (zE 1442) (Pt PX11_goes) m (33, [((172 : Nat) : Int), x1, x2, x3], p.1 ++ [], p.2) Q))
    (h1 : ∀ (g1 : v0 = 0), Q ([(0, 0)], s)) : zT (zE 1442) (Pt PX11_goes) n (23, [((172 : Nat) : Int), x1, x2, x3], [(v0, 0)], s) Q := by
  refine tI1 rfl (fun g1 _ l1 => zT_le ?_ (Nat.le_of_lt l1)) (fun g1 _ l1 => zT_le ?_ (Nat.le_of_lt l1))
  · refine tL ((172 : Nat) : Int) 0 rfl rfl rfl ?_
    refine tL x3 0 rfl rfl rfl ?_
    exact tCall [(((172 : Nat) : Int), 0), (x3, 0)] [] rfl rfl rfl (fun m l => h0 g1 m (Nat.lt_of_lt_of_le l (Nat.le_refl n)))
  · refine tK rfl ?_
    exact tR rfl (h1 g1)

theorem b_X11_goes_142 {n : Nat} {Q : Zr → Prop} (x1 x2 x3 : Int) (s : Zs) 
    (h0 : Q ([(1, 0)], s)) : zT (zE 1442) (Pt PX11_goes) n (142, [((172 : Nat) : Int), x1, x2, x3], [], s) Q := by
  refine tG rfl ?_
  refine tK rfl ?_
  exact tR rfl (h0)

theorem b_X11_goes_57 {n : Nat} {Q : Zr → Prop} (x1 x2 x3 : Int) (s : Zs) 
    (h0 : Q ([(1, 0)], s)) : zT (zE 1442) (Pt PX11_goes) n (57, [((172 : Nat) : Int), x1, x2, x3], [], s) Q := by
  refine tG rfl ?_
  refine tK rfl ?_
  exact tR rfl (h0)

theorem b_X11_goes_33 {n : Nat} {Q : Zr → Prop} (x1 x2 x3 v0 : Int) (s : Zs) 
    (h0 : Q ([(1, 0)], s)) : zT (zE 1442) (Pt PX11_goes) n (33, [((172 : Nat) : Int), x1, x2, x3], [(v0, 0)], s) Q := by
  refine tPop rfl ?_
  refine tG rfl ?_
  refine tK rfl ?_
  exact tR rfl (h0)

theorem c_X11_goes {n : Nat} {Q : Zr → Prop} {a0 a1 : Int} {s : Zs} (h : zT (zE 1442) (Pt PX11_goes) n (0, [a0, a1, 0, 0], [], s) Q) : zC n 1442 [(a0, 0), (a1, 0)] s Q := h

theorem b_X11_judged_0 {n : Nat} {Q : Zr → Prop} (x1 x2 x3 x4 x5 : Int) (s : Zs) 
    (h0 : ∀ m, m < n → zC m 1525 [(x1, 0), (0, 0), (2, 0)] (zu s 172 0 0) (fun p => zT (zE 1460) (Pt PX11_judged) m (11, [((172 : Nat) : Int), x1, x2, x3, x4, x5], p.1 ++ [], p.2) Q)) : zT (zE 1460) (Pt PX11_judged) n (0, [((172 : Nat) : Int), x1, x2, x3, x4, x5], [], s) Q := by
  refine tL ((172 : Nat) : Int) 0 rfl rfl rfl ?_
  refine tK rfl ?_
  refine tPut 172 rfl rfl ?_
  refine tL x1 0 rfl rfl rfl ?_
  refine tK rfl ?_
  refine tK rfl ?_
  exact tCall [(x1, 0), (0, 0), (2, 0)] [] rfl rfl rfl (fun m l => h0 m (Nat.lt_of_lt_of_le l (Nat.le_refl n)))

theorem b_X11_judged_41 {n : Nat} {Q : Zr → Prop} (x1 x2 x3 x4 x5 : Int) (s : Zs) 
    (h0 : ∀ (g1 : s 207 0 ≤ x4), ∀ m, m < n → zC m 1426 [(((217 : Nat) : Int), 0), (0, 0), (((216 : Nat) : Int), 0), (0, 0)] s (fun p => zT (zE 1460) (Pt PX11_judged) m (125, [((172 : Nat) : Int), x1, x2, x3, s 216 12, x5], p.1 ++ [], p.2) Q))
    (h1 : ∀ (g1 : x4 < s 207 0), ∀ m, m < n → zC m 1442 [(((172 : Nat) : Int), 0), (x4, 0)] s (fun p => zT (zE 1460) (Pt PX11_judged) m (58, [((172 : Nat) : Int), x1, x2, x3, x4, x5], p.1 ++ [], p.2) Q)) : zT (zE 1460) (Pt PX11_judged) n (41, [((172 : Nat) : Int), x1, x2, x3, x4, x5], [], s) Q := by
  refine tL x4 0 rfl rfl rfl ?_
  refine tL ((172 : Nat) : Int) 0 rfl rfl rfl ?_
  refine tFR (c := 172) 207 rfl rfl rfl rfl rfl ?_
  refine tK rfl ?_
  refine tAv 207 0 (s 207 0) 0 rfl rfl rfl (by decide) rfl rfl ?_
  refine tJ3 rfl (fun g1 _ l1 => zT_le ?_ (Nat.le_of_lt l1)) (fun g1 _ l1 => zT_le ?_ (Nat.le_of_lt l1))
  · refine tL ((172 : Nat) : Int) 0 rfl rfl rfl ?_
    refine tFR (c := 172) 216 rfl rfl rfl rfl rfl ?_
    refine tK rfl ?_
    refine tAv 216 12 (s 216 12) 0 rfl rfl rfl (by decide) rfl rfl ?_
    refine tS [((172 : Nat) : Int), x1, x2, x3, s 216 12, x5] rfl rfl ?_
    refine tL ((172 : Nat) : Int) 0 rfl rfl rfl ?_
    refine tFR (c := 172) 217 rfl rfl rfl rfl rfl ?_
    refine tK rfl ?_
    refine tL ((172 : Nat) : Int) 0 rfl rfl rfl ?_
    refine tFR (c := 172) 216 rfl rfl rfl rfl rfl ?_
    refine tK rfl ?_
    exact tCall [(((217 : Nat) : Int), 0), (0, 0), (((216 : Nat) : Int), 0), (0, 0)] [] rfl rfl rfl (fun m l => h0 g1 m (Nat.lt_of_lt_of_le l (Nat.le_refl n)))
  · refine tL ((172 : Nat) : Int) 0 rfl rfl rfl ?_
    refine tL x4 0 rfl rfl rfl ?_
    exact tCall [(((172 : Nat) : Int), 0), (x4, 0)] [] rfl rfl rfl (fun m l => h1 g1 m (Nat.lt_of_lt_of_le l (Nat.le_refl n)))

theorem b_X11_judged_11 {n : Nat} {Q : Zr → Prop} (x1 x2 x3 x4 x5 v0 : Int) (s : Zs) 
    (h0 : ∀ (g1 : v0 ≠ 0), ∀ m, m < n → zC m 1426 [(((216 : Nat) : Int), 0), (0, 0), (((217 : Nat) : Int), 0), (0, 0)] s (fun p => zT (zE 1460) (Pt PX11_judged) m (30, [((172 : Nat) : Int), x1, x2, x3, x4, x5], p.1 ++ [], p.2) Q))
    (h1 : ∀ (g1 : v0 = 0), Q ([((-2), 0)], s)) : zT (zE 1460) (Pt PX11_judged) n (11, [((172 : Nat) : Int), x1, x2, x3, x4, x5], [(v0, 0)], s) Q := by
  refine tI1 rfl (fun g1 _ l1 => zT_le ?_ (Nat.le_of_lt l1)) (fun g1 _ l1 => zT_le ?_ (Nat.le_of_lt l1))
  · refine tL ((172 : Nat) : Int) 0 rfl rfl rfl ?_
    refine tFR (c := 172) 216 rfl rfl rfl rfl rfl ?_
    refine tK rfl ?_
    refine tL ((172 : Nat) : Int) 0 rfl rfl rfl ?_
    refine tFR (c := 172) 217 rfl rfl rfl rfl rfl ?_
    refine tK rfl ?_
    exact tCall [(((216 : Nat) : Int), 0), (0, 0), (((217 : Nat) : Int), 0), (0, 0)] [] rfl rfl rfl (fun m l => h0 g1 m (Nat.lt_of_lt_of_le l (Nat.le_refl n)))
  · refine tK rfl ?_
    exact tR rfl (h1 g1)

theorem b_X11_judged_125 {n : Nat} {Q : Zr → Prop} (x1 x2 x3 x4 x5 : Int) (s : Zs) 
    (h0 : ∀ (g1 : x1 ≠ 0), ∀ (g2 : x1 ≠ 1), Q ([(x4, 0)], s))
    (h1 : ∀ (g1 : x1 ≠ 0), ∀ (g2 : x1 = 1), Q ([(x3, 0)], s))
    (h2 : ∀ (g1 : x1 = 0), Q ([(x2, 0)], s)) : zT (zE 1460) (Pt PX11_judged) n (125, [((172 : Nat) : Int), x1, x2, x3, x4, x5], [], s) Q := by
  refine tL x1 0 rfl rfl rfl ?_
  refine tI1 rfl (fun g1 _ l1 => zT_le ?_ (Nat.le_of_lt l1)) (fun g1 _ l1 => zT_le ?_ (Nat.le_of_lt l1))
  · refine tL x1 0 rfl rfl rfl ?_
    refine tK rfl ?_
    refine tJ1 rfl (fun g2 _ l2 => zT_le ?_ (Nat.le_of_lt l2)) (fun g2 _ l2 => zT_le ?_ (Nat.le_of_lt l2))
    · refine tL x4 0 rfl rfl rfl ?_
      exact tR rfl (h0 g1 g2)
    · refine tL x3 0 rfl rfl rfl ?_
      refine tG rfl ?_
      exact tR rfl (h1 g1 g2)
  · refine tL x2 0 rfl rfl rfl ?_
    refine tG rfl ?_
    exact tR rfl (h2 g1)

theorem b_X11_judged_58 {n : Nat} {Q : Zr → Prop} (x1 x2 x3 x4 x5 v0 : Int) (s : Zs) 
    (h0 : ∀ (g1 : v0 ≠ 0), ∀ (g2 : 0 ≤ x3), ∀ m, m < n → zT (zE 1460) (Pt PX11_judged) m (41, [((172 : Nat) : Int), x1, x2, x3, w32 (x4 + 1), v0], [], s) Q)
    (h1 : ∀ (g1 : v0 ≠ 0), ∀ (g2 : x3 < 0), ∀ m, m < n → zC m 1430 [(((172 : Nat) : Int), 0), (s 216 0, 0)] s (fun p => zT (zE 1460) (Pt PX11_judged) m (91, [((172 : Nat) : Int), x1, x2, x3, x4, v0], p.1 ++ [], p.2) Q))
    (h2 : ∀ (g1 : v0 = 0), ∀ (g4 : 0 ≤ x2), ∀ m, m < n → zT (zE 1460) (Pt PX11_judged) m (41, [((172 : Nat) : Int), x1, x2, x3, w32 (x4 + 1), v0], [], s) Q)
    (h3 : ∀ (g1 : v0 = 0), ∀ (g4 : x2 < 0), ∀ m, m < n → zT (zE 1460) (Pt PX11_judged) m (41, [((172 : Nat) : Int), x1, x4, x3, w32 (x4 + 1), v0], [], s) Q) : zT (zE 1460) (Pt PX11_judged) n (58, [((172 : Nat) : Int), x1, x2, x3, x4, x5], [(v0, 0)], s) Q := by
  refine tS [((172 : Nat) : Int), x1, x2, x3, x4, v0] rfl rfl ?_
  refine tL v0 0 rfl rfl rfl ?_
  refine tI1 rfl (fun g1 _ l1 => zT_le ?_ (Nat.le_of_lt l1)) (fun g1 _ l1 => zT_le ?_ (Nat.le_of_lt l1))
  · refine tL v0 0 rfl rfl rfl ?_
    refine tI0 rfl (fun g _ l => False.elim (by omega)) (fun g _ l => zT_le ?_ (Nat.le_of_lt l))
    refine tL x3 0 rfl rfl rfl ?_
    refine tI3 rfl (fun g2 _ l2 => zT_le ?_ (Nat.le_of_lt l2)) (fun g2 _ l2 => zT_le ?_ (Nat.le_of_lt l2))
    · refine tInc [((172 : Nat) : Int), x1, x2, x3, w32 (x4 + 1), v0] rfl rfl ?_
      exact tGb rfl (fun m2 l2 => h0 g1 g2 m2 (Nat.lt_of_lt_of_le l2 (Nat.le_refl n)))
    · refine tL ((172 : Nat) : Int) 0 rfl rfl rfl ?_
      refine tL ((172 : Nat) : Int) 0 rfl rfl rfl ?_
      refine tFR (c := 172) 216 rfl rfl rfl rfl rfl ?_
      refine tK rfl ?_
      refine tAv 216 0 (s 216 0) 0 rfl rfl rfl (by decide) rfl rfl ?_
      exact tCall [(((172 : Nat) : Int), 0), (s 216 0, 0)] [] rfl rfl rfl (fun m l => h1 g1 g2 m (Nat.lt_of_lt_of_le l (Nat.le_refl n)))
  · refine tL x2 0 rfl rfl rfl ?_
    refine tI3 rfl (fun g4 _ l4 => zT_le ?_ (Nat.le_of_lt l4)) (fun g4 _ l4 => zT_le ?_ (Nat.le_of_lt l4))
    · refine tL v0 0 rfl rfl rfl ?_
      refine tI0 rfl (fun g _ l => zT_le ?_ (Nat.le_of_lt l)) (fun g _ l => False.elim (by omega))
      refine tInc [((172 : Nat) : Int), x1, x2, x3, w32 (x4 + 1), v0] rfl rfl ?_
      exact tGb rfl (fun m2 l2 => h2 g1 g4 m2 (Nat.lt_of_lt_of_le l2 (Nat.le_refl n)))
    · refine tL x4 0 rfl rfl rfl ?_
      refine tS [((172 : Nat) : Int), x1, x4, x3, x4, v0] rfl rfl ?_
      refine tL v0 0 rfl rfl rfl ?_
      refine tI0 rfl (fun g _ l => zT_le ?_ (Nat.le_of_lt l)) (fun g _ l => False.elim (by omega))
      refine tInc [((172 : Nat) : Int), x1, x4, x3, w32 (x4 + 1), v0] rfl rfl ?_
      exact tGb rfl (fun m2 l2 => h3 g1 g4 m2 (Nat.lt_of_lt_of_le l2 (Nat.le_refl n)))

theorem b_X11_judged_30 {n : Nat} {Q : Zr → Prop} (x1 x2 x3 x4 x5 : Int) (s : Zs) 
    (h0 : ∀ m, m < n → zC m 1440 [(((172 : Nat) : Int), 0)] s (fun p => zT (zE 1460) (Pt PX11_judged) m (34, [((172 : Nat) : Int), x1, x2, x3, x4, x5], p.1 ++ [], p.2) Q)) : zT (zE 1460) (Pt PX11_judged) n (30, [((172 : Nat) : Int), x1, x2, x3, x4, x5], [], s) Q := by
  refine tL ((172 : Nat) : Int) 0 rfl rfl rfl ?_
  exact tCall [(((172 : Nat) : Int), 0)] [] rfl rfl rfl (fun m l => h0 m (Nat.lt_of_lt_of_le l (Nat.le_refl n)))

theorem b_X11_judged_91 {n : Nat} {Q : Zr → Prop} (x1 x2 x3 x4 x5 v0 : Int) (s : Zs) 
    (h0 : ∀ (g1 : v0 = 0), ∀ m, m < n → zT (zE 1460) (Pt PX11_judged) m (41, [((172 : Nat) : Int), x1, x2, x3, w32 (x4 + 1), x5], [], s) Q)
    (h1 : ∀ (g1 : v0 ≠ 0), ∀ m, m < n → zT (zE 1460) (Pt PX11_judged) m (41, [((172 : Nat) : Int), x1, x2, x4, w32 (x4 + 1), x5], [], s) Q) : zT (zE 1460) (Pt PX11_judged) n (91, [((172 : Nat) : Int), x1, x2, x3, x4, x5], [(v0, 0)], s) Q := by
  refine tI0 rfl (fun g1 _ l1 => zT_le ?_ (Nat.le_of_lt l1)) (fun g1 _ l1 => zT_le ?_ (Nat.le_of_lt l1))
  · refine tInc [((172 : Nat) : Int), x1, x2, x3, w32 (x4 + 1), x5] rfl rfl ?_
    exact tGb rfl (fun m2 l2 => h0 g1 m2 (Nat.lt_of_lt_of_le l2 (Nat.le_refl n)))
  · refine tL x4 0 rfl rfl rfl ?_
    refine tS [((172 : Nat) : Int), x1, x2, x4, x4, x5] rfl rfl ?_
    refine tInc [((172 : Nat) : Int), x1, x2, x4, w32 (x4 + 1), x5] rfl rfl ?_
    exact tGb rfl (fun m2 l2 => h1 g1 m2 (Nat.lt_of_lt_of_le l2 (Nat.le_refl n)))

theorem b_X11_judged_34 {n : Nat} {Q : Zr → Prop} (x1 x2 x3 x4 x5 : Int) (s : Zs) 
    (h0 : zT (zE 1460) (Pt PX11_judged) n (41, [((172 : Nat) : Int), x1, (-1), (-1), 0, x5], [], s) Q) : zT (zE 1460) (Pt PX11_judged) n (34, [((172 : Nat) : Int), x1, x2, x3, x4, x5], [], s) Q := by
  refine tK rfl ?_
  refine tS [((172 : Nat) : Int), x1, (-1), x3, x4, x5] rfl rfl ?_
  refine tK rfl ?_
  refine tS [((172 : Nat) : Int), x1, (-1), (-1), x4, x5] rfl rfl ?_
  refine tK rfl ?_
  refine tS [((172 : Nat) : Int), x1, (-1), (-1), 0, x5] rfl rfl ?_
  exact zT_le (h0) (Nat.le_refl n)

theorem c_X11_judged {n : Nat} {Q : Zr → Prop} {a0 a1 : Int} {s : Zs} (h : zT (zE 1460) (Pt PX11_judged) n (0, [a0, a1, 0, 0, 0, 0], [], s) Q) : zC n 1460 [(a0, 0), (a1, 0)] s Q := h

theorem tBLr {E : Nat → Option Nat} {P : Nat → Option Op0} {n pc : Nat} {L : List Int} {st : List Zv} {s : Zs} {Q : Zr → Prop} {w : Nat} {z x y : Int} {nx : Nat} {ls : List Nat} {g g' : Nat} (hP : P pc = some (6, w, 7, z, nx, ls)) (h : zT E P n (nx, L, (zremL x y, 1) :: st, s) Q) : zT E P n (pc, L, (y, g) :: (x, g') :: st, s) Q := tBL hP rfl h
theorem tBLd {E : Nat → Option Nat} {P : Nat → Option Op0} {n pc : Nat} {L : List Int} {st : List Zv} {s : Zs} {Q : Zr → Prop} {w : Nat} {z x y : Int} {nx : Nat} {ls : List Nat} {g g' : Nat} (hP : P pc = some (6, w, 6, z, nx, ls)) (h : zT E P n (nx, L, (zdivL x y, 1) :: st, s) Q) : zT E P n (pc, L, (y, g) :: (x, g') :: st, s) Q := tBL hP rfl h
theorem b_X11_draws_0 {n : Nat} {Q : Zr → Prop} (x1 : Int) (s : Zs) 
    (h0 : Q ([(zl2i (zremL (zdivL (zremL (w64 ((w64 ((s 172 73) * 1103515245)) + 12345)) 2147483648) 65536) x1), 0)], zu s 172 73 (zremL (w64 ((w64 ((s 172 73) * 1103515245)) + 12345)) 2147483648))) : zT (zE 1431) (Pt PX11_draws) n (0, [((172 : Nat) : Int), x1], [], s) Q := by
  refine tL ((172 : Nat) : Int) 0 rfl rfl rfl ?_
  refine tL ((172 : Nat) : Int) 0 rfl rfl rfl ?_
  refine tFv (c := 172) (s 172 73) 1 rfl rfl rfl rfl rfl ?_
  refine tKL rfl ?_
  refine tBL (v := w64 ((s 172 73) * 1103515245)) rfl rfl ?_
  refine tKL rfl ?_
  refine tBL (v := w64 ((w64 ((s 172 73) * 1103515245)) + 12345)) rfl rfl ?_
  refine tKL rfl ?_
  refine tBLr rfl ?_
  refine tPut 172 rfl rfl ?_
  refine tL ((172 : Nat) : Int) 0 rfl rfl rfl ?_
  refine tFv (c := 172) (zremL (w64 ((w64 ((s 172 73) * 1103515245)) + 12345)) 2147483648) 1 rfl rfl rfl rfl (zu_eq _ _ _ _) ?_
  refine tKL rfl ?_
  refine tBLd rfl ?_
  refine tL x1 0 rfl rfl rfl ?_
  refine tU1 rfl ?_
  refine tBLr rfl ?_
  refine tLI rfl ?_
  exact tR rfl (h0)

theorem c_X11_draws {n : Nat} {Q : Zr → Prop} {a0 a1 : Int} {s : Zs} (h : zT (zE 1431) (Pt PX11_draws) n (0, [a0, a1], [], s) Q) : zC n 1431 [(a0, 0), (a1, 0)] s Q := h

theorem b_X11_livesNight_0 {n : Nat} {Q : Zr → Prop} (x1 x2 : Int) (s : Zs) 
    (h0 : zT (zE 1470) (Pt PX11_livesNight) n (2, [((172 : Nat) : Int), 0, x2], [], s) Q) : zT (zE 1470) (Pt PX11_livesNight) n (0, [((172 : Nat) : Int), x1, x2], [], s) Q := by
  refine tK rfl ?_
  refine tS [((172 : Nat) : Int), 0, x2] rfl rfl ?_
  exact zT_le (h0) (Nat.le_refl n)

theorem b_X11_livesNight_2 {n : Nat} {Q : Zr → Prop} (x1 x2 : Int) (s : Zs) 
    (h0 : ∀ (g1 : s 174 1 ≤ x1), ∀ m, m < n → zC m 1431 [(((172 : Nat) : Int), 0), (4, 0)] s (fun p => zT (zE 1470) (Pt PX11_livesNight) m (52, [((172 : Nat) : Int), x1, x2], p.1 ++ [], p.2) Q))
    (h1 : ∀ (g1 : x1 < s 174 1), ∀ m, m < n → zC m 1431 [(((172 : Nat) : Int), 0), (10, 0)] s (fun p => zT (zE 1470) (Pt PX11_livesNight) m (18, [((172 : Nat) : Int), x1, x2], p.1 ++ [], p.2) Q)) : zT (zE 1470) (Pt PX11_livesNight) n (2, [((172 : Nat) : Int), x1, x2], [], s) Q := by
  refine tL x1 0 rfl rfl rfl ?_
  refine tL ((172 : Nat) : Int) 0 rfl rfl rfl ?_
  refine tFR (c := 172) 174 rfl rfl rfl rfl rfl ?_
  refine tK rfl ?_
  refine tAv 174 1 (s 174 1) 0 rfl rfl rfl (by decide) rfl rfl ?_
  refine tJ3 rfl (fun g1 _ l1 => zT_le ?_ (Nat.le_of_lt l1)) (fun g1 _ l1 => zT_le ?_ (Nat.le_of_lt l1))
  · refine tL ((172 : Nat) : Int) 0 rfl rfl rfl ?_
    refine tK rfl ?_
    exact tCall [(((172 : Nat) : Int), 0), (4, 0)] [] rfl rfl rfl (fun m l => h0 g1 m (Nat.lt_of_lt_of_le l (Nat.le_refl n)))
  · refine tL ((172 : Nat) : Int) 0 rfl rfl rfl ?_
    refine tK rfl ?_
    exact tCall [(((172 : Nat) : Int), 0), (10, 0)] [] rfl rfl rfl (fun m l => h1 g1 m (Nat.lt_of_lt_of_le l (Nat.le_refl n)))

theorem b_X11_livesNight_63 {n : Nat} {Q : Zr → Prop} (x1 x2 : Int) (s : Zs) 
    (h0 : ∀ (g1 : s 174 1 ≤ x2), ∀ (g2 : x1 = 0), Q ([], zu s 216 11 (w32 ((s 216 11) + 1))))
    (h1 : ∀ (g1 : s 174 1 ≤ x2), ∀ (g2 : x1 ≠ 0), Q ([], zu s 216 11 (w32 ((s 216 11) + 1))))
    (h2 : ∀ (g1 : x2 < s 174 1), ∀ (g3 : zand (zshr (s 216 0) x2) 1 ≠ 1), ∀ (g4 : x1 = 0), Q ([], zu s 216 11 (w32 ((s 216 11) + 1))))
    (h3 : ∀ (g1 : x2 < s 174 1), ∀ (g3 : zand (zshr (s 216 0) x2) 1 ≠ 1), ∀ (g4 : x1 ≠ 0), ∀ m, m < n → zC m 1417 [(((172 : Nat) : Int), 0), (x2, 0)] s (fun p => zT (zE 1470) (Pt PX11_livesNight) m (112, [((172 : Nat) : Int), x1, x2], p.1 ++ [], p.2) Q))
    (h4 : ∀ (g1 : x2 < s 174 1), ∀ (g3 : zand (zshr (s 216 0) x2) 1 = 1), ∀ m, m < n → zT (zE 1470) (Pt PX11_livesNight) m (63, [((172 : Nat) : Int), x1, w32 (x2 + 1)], [], s) Q) : zT (zE 1470) (Pt PX11_livesNight) n (63, [((172 : Nat) : Int), x1, x2], [], s) Q := by
  refine tL x2 0 rfl rfl rfl ?_
  refine tL ((172 : Nat) : Int) 0 rfl rfl rfl ?_
  refine tFR (c := 172) 174 rfl rfl rfl rfl rfl ?_
  refine tK rfl ?_
  refine tAv 174 1 (s 174 1) 0 rfl rfl rfl (by decide) rfl rfl ?_
  refine tJ3 rfl (fun g1 _ l1 => zT_le ?_ (Nat.le_of_lt l1)) (fun g1 _ l1 => zT_le ?_ (Nat.le_of_lt l1))
  · refine tL x1 0 rfl rfl rfl ?_
    refine tI0 rfl (fun g2 _ l2 => zT_le ?_ (Nat.le_of_lt l2)) (fun g2 _ l2 => zT_le ?_ (Nat.le_of_lt l2))
    · refine tL ((172 : Nat) : Int) 0 rfl rfl rfl ?_
      refine tFR (c := 172) 216 rfl rfl rfl rfl rfl ?_
      refine tK rfl ?_
      refine tD2 rfl ?_
      refine tAv 216 11 (s 216 11) 0 rfl rfl rfl (by decide) rfl rfl ?_
      refine tK rfl ?_
      refine tB (v := w32 ((s 216 11) + 1)) rfl rfl ?_
      refine tAS 216 11 rfl rfl rfl (by decide) ?_
      exact tR rfl (h0 g1 g2)
    · refine tL x2 0 rfl rfl rfl ?_
      refine tL ((172 : Nat) : Int) 0 rfl rfl rfl ?_
      refine tFR (c := 172) 174 rfl rfl rfl rfl rfl ?_
      refine tK rfl ?_
      refine tAv 174 1 (s 174 1) 0 rfl rfl rfl (by decide) rfl rfl ?_
      refine tJ3 rfl (fun g _ l => zT_le ?_ (Nat.le_of_lt l)) (fun g _ l => False.elim (by omega))
      refine tL ((172 : Nat) : Int) 0 rfl rfl rfl ?_
      refine tFR (c := 172) 216 rfl rfl rfl rfl rfl ?_
      refine tK rfl ?_
      refine tD2 rfl ?_
      refine tAv 216 11 (s 216 11) 0 rfl rfl rfl (by decide) rfl rfl ?_
      refine tK rfl ?_
      refine tB (v := w32 ((s 216 11) + 1)) rfl rfl ?_
      refine tAS 216 11 rfl rfl rfl (by decide) ?_
      exact tR rfl (h1 g1 g2)
  · refine tL ((172 : Nat) : Int) 0 rfl rfl rfl ?_
    refine tFR (c := 172) 216 rfl rfl rfl rfl rfl ?_
    refine tK rfl ?_
    refine tAv 216 0 (s 216 0) 0 rfl rfl rfl (by decide) rfl rfl ?_
    refine tL x2 0 rfl rfl rfl ?_
    refine tB (v := zshr (s 216 0) x2) rfl rfl ?_
    refine tK rfl ?_
    refine tB (v := zand (zshr (s 216 0) x2) 1) rfl rfl ?_
    refine tK rfl ?_
    refine tJ1 rfl (fun g3 _ l3 => zT_le ?_ (Nat.le_of_lt l3)) (fun g3 _ l3 => zT_le ?_ (Nat.le_of_lt l3))
    · refine tL x1 0 rfl rfl rfl ?_
      refine tI0 rfl (fun g4 _ l4 => zT_le ?_ (Nat.le_of_lt l4)) (fun g4 _ l4 => zT_le ?_ (Nat.le_of_lt l4))
      · refine tL ((172 : Nat) : Int) 0 rfl rfl rfl ?_
        refine tFR (c := 172) 216 rfl rfl rfl rfl rfl ?_
        refine tK rfl ?_
        refine tD2 rfl ?_
        refine tAv 216 11 (s 216 11) 0 rfl rfl rfl (by decide) rfl rfl ?_
        refine tK rfl ?_
        refine tB (v := w32 ((s 216 11) + 1)) rfl rfl ?_
        refine tAS 216 11 rfl rfl rfl (by decide) ?_
        exact tR rfl (h2 g1 g3 g4)
      · refine tL x2 0 rfl rfl rfl ?_
        refine tL ((172 : Nat) : Int) 0 rfl rfl rfl ?_
        refine tFR (c := 172) 174 rfl rfl rfl rfl rfl ?_
        refine tK rfl ?_
        refine tAv 174 1 (s 174 1) 0 rfl rfl rfl (by decide) rfl rfl ?_
        refine tJ3 rfl (fun g _ l => False.elim (by omega)) (fun g _ l => zT_le ?_ (Nat.le_of_lt l))
        refine tL ((172 : Nat) : Int) 0 rfl rfl rfl ?_
        refine tL x2 0 rfl rfl rfl ?_
        exact tCall [(((172 : Nat) : Int), 0), (x2, 0)] [] rfl rfl rfl (fun m l => h3 g1 g3 g4 m (Nat.lt_of_lt_of_le l (Nat.le_refl n)))
    · refine tInc [((172 : Nat) : Int), x1, w32 (x2 + 1)] rfl rfl ?_
      exact tGb rfl (fun m2 l2 => h4 g1 g3 m2 (Nat.lt_of_lt_of_le l2 (Nat.le_refl n)))

theorem b_X11_livesNight_52 {n : Nat} {Q : Zr → Prop} (x1 x2 v0 : Int) (s : Zs) 
    (h0 : ∀ (g1 : v0 ≠ 0), zT (zE 1470) (Pt PX11_livesNight) n (63, [((172 : Nat) : Int), 0, 0], [], s) Q)
    (h1 : ∀ (g1 : v0 = 0), zT (zE 1470) (Pt PX11_livesNight) n (63, [((172 : Nat) : Int), 1, 0], [], s) Q) : zT (zE 1470) (Pt PX11_livesNight) n (52, [((172 : Nat) : Int), x1, x2], [(v0, 0)], s) Q := by
  refine tI1 rfl (fun g1 _ l1 => zT_le ?_ (Nat.le_of_lt l1)) (fun g1 _ l1 => zT_le ?_ (Nat.le_of_lt l1))
  · refine tK rfl ?_
    refine tS [((172 : Nat) : Int), 0, x2] rfl rfl ?_
    refine tK rfl ?_
    refine tS [((172 : Nat) : Int), 0, 0] rfl rfl ?_
    exact zT_le (h0 g1) (Nat.le_refl n)
  · refine tK rfl ?_
    refine tG rfl ?_
    refine tS [((172 : Nat) : Int), 1, x2] rfl rfl ?_
    refine tK rfl ?_
    refine tS [((172 : Nat) : Int), 1, 0] rfl rfl ?_
    exact zT_le (h1 g1) (Nat.le_refl n)

theorem b_X11_livesNight_18 {n : Nat} {Q : Zr → Prop} (x1 x2 v0 : Int) (s : Zs) 
    (h0 : ∀ (g1 : s 183 x1.toNat ≤ v0), ∀ m, m < n → zT (zE 1470) (Pt PX11_livesNight) m (2, [((172 : Nat) : Int), w32 (x1 + 1), x2], [], s) Q)
    (h1 : ∀ (g1 : v0 < s 183 x1.toNat), ∀ m, m < n → zC m 1421 [(((172 : Nat) : Int), 0), (x1, 0)] s (fun p => zT (zE 1470) (Pt PX11_livesNight) m (32, [((172 : Nat) : Int), x1, x2], p.1 ++ [], p.2) Q)) : zT (zE 1470) (Pt PX11_livesNight) n (18, [((172 : Nat) : Int), x1, x2], [(v0, 0)], s) Q := by
  refine tL ((172 : Nat) : Int) 0 rfl rfl rfl ?_
  refine tFR (c := 172) 183 rfl rfl rfl rfl rfl ?_
  refine tL x1 0 rfl rfl rfl ?_
  refine tAv 183 x1.toNat (s 183 x1.toNat) 0 rfl rfl rfl (by decide) rfl rfl ?_
  refine tJ3 rfl (fun g1 _ l1 => zT_le ?_ (Nat.le_of_lt l1)) (fun g1 _ l1 => zT_le ?_ (Nat.le_of_lt l1))
  · refine tInc [((172 : Nat) : Int), w32 (x1 + 1), x2] rfl rfl ?_
    exact tGb rfl (fun m2 l2 => h0 g1 m2 (Nat.lt_of_lt_of_le l2 (Nat.le_refl n)))
  · refine tL ((172 : Nat) : Int) 0 rfl rfl rfl ?_
    refine tL x1 0 rfl rfl rfl ?_
    exact tCall [(((172 : Nat) : Int), 0), (x1, 0)] [] rfl rfl rfl (fun m l => h1 g1 m (Nat.lt_of_lt_of_le l (Nat.le_refl n)))

theorem b_X11_livesNight_112 {n : Nat} {Q : Zr → Prop} (x1 x2 v0 : Int) (s : Zs) 
    (h0 : ∀ (g1 : v0 = 0), Q ([], zu s 216 11 (w32 ((s 216 11) + 1))))
    (h1 : ∀ (g1 : v0 ≠ 0), ∀ m, m < n → zC m 1416 [(((172 : Nat) : Int), 0), (x2, 0)] s (fun p => zT (zE 1470) (Pt PX11_livesNight) m (120, [((172 : Nat) : Int), x1, x2], p.1 ++ [], p.2) Q)) : zT (zE 1470) (Pt PX11_livesNight) n (112, [((172 : Nat) : Int), x1, x2], [(v0, 0)], s) Q := by
  refine tI0 rfl (fun g1 _ l1 => zT_le ?_ (Nat.le_of_lt l1)) (fun g1 _ l1 => zT_le ?_ (Nat.le_of_lt l1))
  · refine tL ((172 : Nat) : Int) 0 rfl rfl rfl ?_
    refine tFR (c := 172) 216 rfl rfl rfl rfl rfl ?_
    refine tK rfl ?_
    refine tD2 rfl ?_
    refine tAv 216 11 (s 216 11) 0 rfl rfl rfl (by decide) rfl rfl ?_
    refine tK rfl ?_
    refine tB (v := w32 ((s 216 11) + 1)) rfl rfl ?_
    refine tAS 216 11 rfl rfl rfl (by decide) ?_
    exact tR rfl (h0 g1)
  · refine tL ((172 : Nat) : Int) 0 rfl rfl rfl ?_
    refine tL x2 0 rfl rfl rfl ?_
    exact tCall [(((172 : Nat) : Int), 0), (x2, 0)] [] rfl rfl rfl (fun m l => h1 g1 m (Nat.lt_of_lt_of_le l (Nat.le_refl n)))

theorem b_X11_livesNight_32 {n : Nat} {Q : Zr → Prop} (x1 x2 v0 : Int) (s : Zs) 
    (h0 : ∀ (g1 : v0 = 0), ∀ m, m < n → zT (zE 1470) (Pt PX11_livesNight) m (2, [((172 : Nat) : Int), w32 (x1 + 1), x2], [], s) Q)
    (h1 : ∀ (g1 : v0 ≠ 0), ∀ m, m < n → zC m 1514 [(((172 : Nat) : Int), 0), (x1, 0)] s (fun p => zT (zE 1470) (Pt PX11_livesNight) m (40, [((172 : Nat) : Int), x1, x2], p.1 ++ [], p.2) Q)) : zT (zE 1470) (Pt PX11_livesNight) n (32, [((172 : Nat) : Int), x1, x2], [(v0, 0)], s) Q := by
  refine tI0 rfl (fun g1 _ l1 => zT_le ?_ (Nat.le_of_lt l1)) (fun g1 _ l1 => zT_le ?_ (Nat.le_of_lt l1))
  · refine tInc [((172 : Nat) : Int), w32 (x1 + 1), x2] rfl rfl ?_
    exact tGb rfl (fun m2 l2 => h0 g1 m2 (Nat.lt_of_lt_of_le l2 (Nat.le_refl n)))
  · refine tL ((172 : Nat) : Int) 0 rfl rfl rfl ?_
    refine tL x1 0 rfl rfl rfl ?_
    exact tCall [(((172 : Nat) : Int), 0), (x1, 0)] [] rfl rfl rfl (fun m l => h1 g1 m (Nat.lt_of_lt_of_le l (Nat.le_refl n)))

theorem b_X11_livesNight_120 {n : Nat} {Q : Zr → Prop} (x1 x2 : Int) (s : Zs) 
    (h0 : Q ([], zu s 216 11 (w32 ((s 216 11) + 1)))) : zT (zE 1470) (Pt PX11_livesNight) n (120, [((172 : Nat) : Int), x1, x2], [], s) Q := by
  refine tL ((172 : Nat) : Int) 0 rfl rfl rfl ?_
  refine tFR (c := 172) 216 rfl rfl rfl rfl rfl ?_
  refine tK rfl ?_
  refine tD2 rfl ?_
  refine tAv 216 11 (s 216 11) 0 rfl rfl rfl (by decide) rfl rfl ?_
  refine tK rfl ?_
  refine tB (v := w32 ((s 216 11) + 1)) rfl rfl ?_
  refine tAS 216 11 rfl rfl rfl (by decide) ?_
  exact tR rfl (h0)

theorem b_X11_livesNight_40 {n : Nat} {Q : Zr → Prop} (x1 x2 v0 : Int) (s : Zs) 
    (h0 : ∀ m, m < n → zT (zE 1470) (Pt PX11_livesNight) m (2, [((172 : Nat) : Int), w32 (x1 + 1), x2], [], s) Q) : zT (zE 1470) (Pt PX11_livesNight) n (40, [((172 : Nat) : Int), x1, x2], [(v0, 0)], s) Q := by
  refine tPop rfl ?_
  refine tInc [((172 : Nat) : Int), w32 (x1 + 1), x2] rfl rfl ?_
  exact tGb rfl (fun m2 l2 => h0 m2 (Nat.lt_of_lt_of_le l2 (Nat.le_refl n)))

theorem c_X11_livesNight {n : Nat} {Q : Zr → Prop} {a0 : Int} {s : Zs} (h : zT (zE 1470) (Pt PX11_livesNight) n (0, [a0, 0, 0], [], s) Q) : zC n 1470 [(a0, 0)] s Q := h

theorem b_X11_years_0 {n : Nat} {Q : Zr → Prop} (x1 x2 x3 x4 x5 : Int) (s : Zs) 
    (h0 : ∀ m, m < n → zC m 1525 [(x1, 0), (0, 0), (9999, 0)] (zu s 172 0 0) (fun p => zT (zE 1528) (Pt PX11_years) m (13, [((172 : Nat) : Int), x1, x2, x3, x4, x5], p.1 ++ [], p.2) Q)) : zT (zE 1528) (Pt PX11_years) n (0, [((172 : Nat) : Int), x1, x2, x3, x4, x5], [], s) Q := by
  refine tL ((172 : Nat) : Int) 0 rfl rfl rfl ?_
  refine tK rfl ?_
  refine tPut 172 rfl rfl ?_
  refine tL x1 0 rfl rfl rfl ?_
  refine tK rfl ?_
  refine tK rfl ?_
  exact tCall [(x1, 0), (0, 0), (9999, 0)] [] rfl rfl rfl (fun m l => h0 m (Nat.lt_of_lt_of_le l (Nat.le_refl n)))

theorem b_X11_years_62 {n : Nat} {Q : Zr → Prop} (x1 x2 x3 x4 x5 : Int) (s : Zs) 
    (h0 : ∀ (g1 : x2 ≤ x5), ∀ (g2 : x3 ≠ 0), ∀ (g3 : x3 ≠ 1), ∀ m, m < n → zC m 1426 [(((217 : Nat) : Int), 0), (0, 0), (((216 : Nat) : Int), 0), (0, 0)] s (fun p => zT (zE 1528) (Pt PX11_years) m (152, [((172 : Nat) : Int), x1, x2, x3, x4, x4], p.1 ++ [], p.2) Q))
    (h1 : ∀ (g1 : x2 ≤ x5), ∀ (g2 : x3 ≠ 0), ∀ (g3 : x3 = 1), ∀ m, m < n → zC m 1414 [(s 216 0, 0)] s (fun p => zT (zE 1528) (Pt PX11_years) m (132, [((172 : Nat) : Int), x1, x2, x3, x4, x5], p.1 ++ [], p.2) Q))
    (h2 : ∀ (g1 : x2 ≤ x5), ∀ (g2 : x3 = 0), ∀ m, m < n → zC m 1426 [(((217 : Nat) : Int), 0), (0, 0), (((216 : Nat) : Int), 0), (0, 0)] s (fun p => zT (zE 1528) (Pt PX11_years) m (152, [((172 : Nat) : Int), x1, x2, x3, x4, w32 ((s 216 12) - (s 217 12))], p.1 ++ [], p.2) Q))
    (h3 : ∀ (g1 : x5 < x2), ∀ m, m < n → zC m 1470 [(((172 : Nat) : Int), 0)] s (fun p => zT (zE 1528) (Pt PX11_years) m (72, [((172 : Nat) : Int), x1, x2, x3, x4, x5], p.1 ++ [], p.2) Q)) : zT (zE 1528) (Pt PX11_years) n (62, [((172 : Nat) : Int), x1, x2, x3, x4, x5], [], s) Q := by
  refine tL x5 0 rfl rfl rfl ?_
  refine tL x2 0 rfl rfl rfl ?_
  refine tJ3 rfl (fun g1 _ l1 => zT_le ?_ (Nat.le_of_lt l1)) (fun g1 _ l1 => zT_le ?_ (Nat.le_of_lt l1))
  · refine tL x3 0 rfl rfl rfl ?_
    refine tI1 rfl (fun g2 _ l2 => zT_le ?_ (Nat.le_of_lt l2)) (fun g2 _ l2 => zT_le ?_ (Nat.le_of_lt l2))
    · refine tL x3 0 rfl rfl rfl ?_
      refine tK rfl ?_
      refine tJ1 rfl (fun g3 _ l3 => zT_le ?_ (Nat.le_of_lt l3)) (fun g3 _ l3 => zT_le ?_ (Nat.le_of_lt l3))
      · refine tL x4 0 rfl rfl rfl ?_
        refine tS [((172 : Nat) : Int), x1, x2, x3, x4, x4] rfl rfl ?_
        refine tL ((172 : Nat) : Int) 0 rfl rfl rfl ?_
        refine tFR (c := 172) 217 rfl rfl rfl rfl rfl ?_
        refine tK rfl ?_
        refine tL ((172 : Nat) : Int) 0 rfl rfl rfl ?_
        refine tFR (c := 172) 216 rfl rfl rfl rfl rfl ?_
        refine tK rfl ?_
        exact tCall [(((217 : Nat) : Int), 0), (0, 0), (((216 : Nat) : Int), 0), (0, 0)] [] rfl rfl rfl (fun m l => h0 g1 g2 g3 m (Nat.lt_of_lt_of_le l (Nat.le_refl n)))
      · refine tL ((172 : Nat) : Int) 0 rfl rfl rfl ?_
        refine tFR (c := 172) 216 rfl rfl rfl rfl rfl ?_
        refine tK rfl ?_
        refine tAv 216 0 (s 216 0) 0 rfl rfl rfl (by decide) rfl rfl ?_
        exact tCall [(s 216 0, 0)] [] rfl rfl rfl (fun m l => h1 g1 g2 g3 m (Nat.lt_of_lt_of_le l (Nat.le_refl n)))
    · refine tL ((172 : Nat) : Int) 0 rfl rfl rfl ?_
      refine tFR (c := 172) 216 rfl rfl rfl rfl rfl ?_
      refine tK rfl ?_
      refine tAv 216 12 (s 216 12) 0 rfl rfl rfl (by decide) rfl rfl ?_
      refine tL ((172 : Nat) : Int) 0 rfl rfl rfl ?_
      refine tFR (c := 172) 217 rfl rfl rfl rfl rfl ?_
      refine tK rfl ?_
      refine tAv 217 12 (s 217 12) 0 rfl rfl rfl (by decide) rfl rfl ?_
      refine tB (v := w32 ((s 216 12) - (s 217 12))) rfl rfl ?_
      refine tG rfl ?_
      refine tS [((172 : Nat) : Int), x1, x2, x3, x4, w32 ((s 216 12) - (s 217 12))] rfl rfl ?_
      refine tL ((172 : Nat) : Int) 0 rfl rfl rfl ?_
      refine tFR (c := 172) 217 rfl rfl rfl rfl rfl ?_
      refine tK rfl ?_
      refine tL ((172 : Nat) : Int) 0 rfl rfl rfl ?_
      refine tFR (c := 172) 216 rfl rfl rfl rfl rfl ?_
      refine tK rfl ?_
      exact tCall [(((217 : Nat) : Int), 0), (0, 0), (((216 : Nat) : Int), 0), (0, 0)] [] rfl rfl rfl (fun m l => h2 g1 g2 m (Nat.lt_of_lt_of_le l (Nat.le_refl n)))
  · refine tL ((172 : Nat) : Int) 0 rfl rfl rfl ?_
    exact tCall [(((172 : Nat) : Int), 0)] [] rfl rfl rfl (fun m l => h3 g1 m (Nat.lt_of_lt_of_le l (Nat.le_refl n)))

theorem b_X11_years_13 {n : Nat} {Q : Zr → Prop} (x1 x2 x3 x4 x5 v0 : Int) (s : Zs) 
    (h0 : ∀ (g1 : v0 = 0), Q ([((-1), 0)], s))
    (h1 : ∀ (g1 : v0 ≠ 0), ∀ m, m < n → zC m 1525 [(x2, 0), (1, 0), (100, 0)] s (fun p => zT (zE 1528) (Pt PX11_years) m (23, [((172 : Nat) : Int), x1, x2, x3, x4, x5], p.1 ++ [], p.2) Q)) : zT (zE 1528) (Pt PX11_years) n (13, [((172 : Nat) : Int), x1, x2, x3, x4, x5], [(v0, 0)], s) Q := by
  refine tI0 rfl (fun g1 _ l1 => zT_le ?_ (Nat.le_of_lt l1)) (fun g1 _ l1 => zT_le ?_ (Nat.le_of_lt l1))
  · refine tK rfl ?_
    exact tR rfl (h0 g1)
  · refine tL x2 0 rfl rfl rfl ?_
    refine tK rfl ?_
    refine tK rfl ?_
    exact tCall [(x2, 0), (1, 0), (100, 0)] [] rfl rfl rfl (fun m l => h1 g1 m (Nat.lt_of_lt_of_le l (Nat.le_refl n)))

theorem b_X11_years_152 {n : Nat} {Q : Zr → Prop} (x1 x2 x3 x4 x5 : Int) (s : Zs) 
    (h0 : Q ([(x5, 0)], s)) : zT (zE 1528) (Pt PX11_years) n (152, [((172 : Nat) : Int), x1, x2, x3, x4, x5], [], s) Q := by
  refine tL x5 0 rfl rfl rfl ?_
  exact tR rfl (h0)

theorem b_X11_years_132 {n : Nat} {Q : Zr → Prop} (x1 x2 x3 x4 x5 v0 : Int) (s : Zs) 
    (h0 : ∀ m, m < n → zC m 1426 [(((217 : Nat) : Int), 0), (0, 0), (((216 : Nat) : Int), 0), (0, 0)] s (fun p => zT (zE 1528) (Pt PX11_years) m (152, [((172 : Nat) : Int), x1, x2, x3, x4, v0], p.1 ++ [], p.2) Q)) : zT (zE 1528) (Pt PX11_years) n (132, [((172 : Nat) : Int), x1, x2, x3, x4, x5], [(v0, 0)], s) Q := by
  refine tG rfl ?_
  refine tS [((172 : Nat) : Int), x1, x2, x3, x4, v0] rfl rfl ?_
  refine tL ((172 : Nat) : Int) 0 rfl rfl rfl ?_
  refine tFR (c := 172) 217 rfl rfl rfl rfl rfl ?_
  refine tK rfl ?_
  refine tL ((172 : Nat) : Int) 0 rfl rfl rfl ?_
  refine tFR (c := 172) 216 rfl rfl rfl rfl rfl ?_
  refine tK rfl ?_
  exact tCall [(((217 : Nat) : Int), 0), (0, 0), (((216 : Nat) : Int), 0), (0, 0)] [] rfl rfl rfl (fun m l => h0 m (Nat.lt_of_lt_of_le l (Nat.le_refl n)))

theorem b_X11_years_72 {n : Nat} {Q : Zr → Prop} (x1 x2 x3 x4 x5 : Int) (s : Zs) 
    (h0 : ∀ m, m < n → zC m 1430 [(((172 : Nat) : Int), 0), (s 216 0, 0)] s (fun p => zT (zE 1528) (Pt PX11_years) m (84, [((172 : Nat) : Int), x1, x2, x3, x4, x5], p.1 ++ [(x4, 0)], p.2) Q)) : zT (zE 1528) (Pt PX11_years) n (72, [((172 : Nat) : Int), x1, x2, x3, x4, x5], [], s) Q := by
  refine tL x4 0 rfl rfl rfl ?_
  refine tL ((172 : Nat) : Int) 0 rfl rfl rfl ?_
  refine tL ((172 : Nat) : Int) 0 rfl rfl rfl ?_
  refine tFR (c := 172) 216 rfl rfl rfl rfl rfl ?_
  refine tK rfl ?_
  refine tAv 216 0 (s 216 0) 0 rfl rfl rfl (by decide) rfl rfl ?_
  exact tCall [(((172 : Nat) : Int), 0), (s 216 0, 0)] [(x4, 0)] rfl rfl rfl (fun m l => h0 m (Nat.lt_of_lt_of_le l (Nat.le_refl n)))

theorem b_X11_years_23 {n : Nat} {Q : Zr → Prop} (x1 x2 x3 x4 x5 v0 : Int) (s : Zs) 
    (h0 : ∀ (g1 : v0 = 0), Q ([((-1), 0)], s))
    (h1 : ∀ (g1 : v0 ≠ 0), ∀ m, m < n → zC m 1525 [(x3, 0), (0, 0), (2, 0)] s (fun p => zT (zE 1528) (Pt PX11_years) m (32, [((172 : Nat) : Int), x1, x2, x3, x4, x5], p.1 ++ [], p.2) Q)) : zT (zE 1528) (Pt PX11_years) n (23, [((172 : Nat) : Int), x1, x2, x3, x4, x5], [(v0, 0)], s) Q := by
  refine tI0 rfl (fun g1 _ l1 => zT_le ?_ (Nat.le_of_lt l1)) (fun g1 _ l1 => zT_le ?_ (Nat.le_of_lt l1))
  · refine tK rfl ?_
    exact tR rfl (h0 g1)
  · refine tL x3 0 rfl rfl rfl ?_
    refine tK rfl ?_
    refine tK rfl ?_
    exact tCall [(x3, 0), (0, 0), (2, 0)] [] rfl rfl rfl (fun m l => h1 g1 m (Nat.lt_of_lt_of_le l (Nat.le_refl n)))

theorem b_X11_years_84 {n : Nat} {Q : Zr → Prop} (x1 x2 x3 x4 x5 v0 y0 : Int) (s : Zs) 
    (h0 : ∀ m, m < n → zC m 1414 [(v0, 0)] s (fun p => zT (zE 1528) (Pt PX11_years) m (87, [((172 : Nat) : Int), x1, x2, x3, x4, x5], p.1 ++ [(y0, 0)], p.2) Q)) : zT (zE 1528) (Pt PX11_years) n (84, [((172 : Nat) : Int), x1, x2, x3, x4, x5], [(v0, 0), (y0, 0)], s) Q := by
  exact tCall [(v0, 0)] [(y0, 0)] rfl rfl rfl (fun m l => h0 m (Nat.lt_of_lt_of_le l (Nat.le_refl n)))

theorem b_X11_years_32 {n : Nat} {Q : Zr → Prop} (x1 x2 x3 x4 x5 v0 : Int) (s : Zs) 
    (h0 : ∀ (g1 : v0 ≠ 0), ∀ m, m < n → zC m 1426 [(((216 : Nat) : Int), 0), (0, 0), (((217 : Nat) : Int), 0), (0, 0)] (zu s 172 73 x1) (fun p => zT (zE 1528) (Pt PX11_years) m (56, [((172 : Nat) : Int), x1, x2, x3, x4, x5], p.1 ++ [], p.2) Q))
    (h1 : ∀ (g1 : v0 = 0), Q ([((-1), 0)], s)) : zT (zE 1528) (Pt PX11_years) n (32, [((172 : Nat) : Int), x1, x2, x3, x4, x5], [(v0, 0)], s) Q := by
  refine tI1 rfl (fun g1 _ l1 => zT_le ?_ (Nat.le_of_lt l1)) (fun g1 _ l1 => zT_le ?_ (Nat.le_of_lt l1))
  · refine tL ((172 : Nat) : Int) 0 rfl rfl rfl ?_
    refine tL x1 0 rfl rfl rfl ?_
    refine tU1 rfl ?_
    refine tPut 172 rfl rfl ?_
    refine tL ((172 : Nat) : Int) 0 rfl rfl rfl ?_
    refine tFR (c := 172) 216 rfl rfl rfl rfl rfl ?_
    refine tK rfl ?_
    refine tL ((172 : Nat) : Int) 0 rfl rfl rfl ?_
    refine tFR (c := 172) 217 rfl rfl rfl rfl rfl ?_
    refine tK rfl ?_
    exact tCall [(((216 : Nat) : Int), 0), (0, 0), (((217 : Nat) : Int), 0), (0, 0)] [] rfl rfl rfl (fun m l => h0 g1 m (Nat.lt_of_lt_of_le l (Nat.le_refl n)))
  · refine tK rfl ?_
    exact tR rfl (h1 g1)

theorem b_X11_years_87 {n : Nat} {Q : Zr → Prop} (x1 x2 x3 x4 x5 v0 y0 : Int) (s : Zs) 
    (h0 : ∀ m, m < n → zT (zE 1528) (Pt PX11_years) m (62, [((172 : Nat) : Int), x1, x2, x3, w32 (y0 + v0), w32 (x5 + 1)], [], s) Q) : zT (zE 1528) (Pt PX11_years) n (87, [((172 : Nat) : Int), x1, x2, x3, x4, x5], [(v0, 0), (y0, 0)], s) Q := by
  refine tB (v := w32 (y0 + v0)) rfl rfl ?_
  refine tS [((172 : Nat) : Int), x1, x2, x3, w32 (y0 + v0), x5] rfl rfl ?_
  refine tInc [((172 : Nat) : Int), x1, x2, x3, w32 (y0 + v0), w32 (x5 + 1)] rfl rfl ?_
  exact tGb rfl (fun m2 l2 => h0 m2 (Nat.lt_of_lt_of_le l2 (Nat.le_refl n)))

theorem b_X11_years_56 {n : Nat} {Q : Zr → Prop} (x1 x2 x3 x4 x5 : Int) (s : Zs) 
    (h0 : zT (zE 1528) (Pt PX11_years) n (62, [((172 : Nat) : Int), x1, x2, x3, 0, 0], [], s) Q) : zT (zE 1528) (Pt PX11_years) n (56, [((172 : Nat) : Int), x1, x2, x3, x4, x5], [], s) Q := by
  refine tK rfl ?_
  refine tS [((172 : Nat) : Int), x1, x2, x3, 0, x5] rfl rfl ?_
  refine tK rfl ?_
  refine tS [((172 : Nat) : Int), x1, x2, x3, 0, 0] rfl rfl ?_
  exact zT_le (h0) (Nat.le_refl n)

theorem c_X11_years {n : Nat} {Q : Zr → Prop} {a0 a1 a2 a3 : Int} {s : Zs} (h : zT (zE 1528) (Pt PX11_years) n (0, [a0, a1, a2, a3, 0, 0], [], s) Q) : zC n 1528 [(a0, 0), (a1, 0), (a2, 0), (a3, 0)] s Q := h

abbrev pu (N k : Nat) (as : List Zv) (s : Zs) : Prop := zC N k as s (fun r => ∃ v, r = ([(v, 0)], s))
section Zpu
variable {N : Nat} {s : Zs}
theorem puQ {N k : Nat} {as : List Zv} {s : Zs} {G : Zr → Prop} (h : pu N k as s) (g : ∀ v, G ([(v, 0)], s)) : zC N k as s G := zC_q h (fun r hr => by
  obtain ⟨v, rfl⟩ := hr
  exact g v)
theorem lowerOf_pu {x : Int} : pu N 1471 [(((172 : Nat) : Int), 0), (x, 0)] s := c_X11_lowerOf (b_X11_lowerOf_0 _ s ⟨_, rfl⟩)
theorem climbs_pu {x1 x2 x3 : Int} : pu N 1424 [(((172 : Nat) : Int), 0), (x1, 0), (x2, 0), (x3, 0)] s := by
  have loop : ∀ (M : Nat), (∀ (x4 x5 x6 x7 : Int), zT (zE 1424) (Pt PX11_climbs) M (23, [((172 : Nat) : Int), x1, x2, x3, x4, x5, x6, x7], [], s) (fun r => ∃ v, r = ([(v, 0)], s))) ∧ (∀ (x4 x5 x6 x7 : Int), zT (zE 1424) (Pt PX11_climbs) M (6, [((172 : Nat) : Int), x1, x2, x3, x4, x5, x6, x7], [], s) (fun r => ∃ v, r = ([(v, 0)], s))) := by
    intro M
    induction M using Nat.strongRecOn with
    | ind M ih =>
      have A : ∀ (x4 x5 x6 x7 : Int), zT (zE 1424) (Pt PX11_climbs) M (23, [((172 : Nat) : Int), x1, x2, x3, x4, x5, x6, x7], [], s) (fun r => ∃ v, r = ([(v, 0)], s)) := fun x4 x5 x6 x7 => by
        refine b_X11_climbs_23 _ _ _ _ _ _ _ s (fun _ _ m hm => (ih m hm).2 _ _ _ _) (fun _ _ _ m hm => (ih m hm).2 _ _ _ _) (fun _ _ _ m hm => (ih m hm).2 _ _ _ _) (fun _ _ m hm => (ih m hm).1 _ _ _ _) (fun _ _ m hm => ?_)
        refine puQ lowerOf_pu (fun v => ?_)
        exact b_X11_climbs_58 _ _ _ _ _ _ _ _ _ _ s (fun _ m2 hm2 => (ih m2 (by omega)).1 _ _ _ _) (fun _ m2 hm2 => (ih m2 (by omega)).1 _ _ _ _)
      exact ⟨A, fun x4 x5 x6 x7 => b_X11_climbs_6 _ _ _ _ _ _ _ s (fun _ => ⟨_, rfl⟩) (fun _ => A _ _ _ _)⟩
  exact c_X11_climbs (b_X11_climbs_0 _ _ _ _ _ _ _ s ((loop N).2 _ _ _ _))
theorem streets_pu : pu N 1515 [(((172 : Nat) : Int), 0)] s := by
  have loop : ∀ (M : Nat) (x1 x2 : Int), zT (zE 1515) (Pt PX11_streets) M (4, [((172 : Nat) : Int), x1, x2], [], s) (fun r => ∃ v, r = ([(v, 0)], s)) := by
    intro M
    induction M using Nat.strongRecOn with
    | ind M ih => exact fun x1 x2 => b_X11_streets_4 _ _ s (fun _ => ⟨_, rfl⟩) (fun _ m hm => ih m hm _ _)
  exact c_X11_streets (b_X11_streets_0 _ _ s (loop N _ _))
theorem spreads_pu {x1 x2 : Int} : pu N 1511 [(((172 : Nat) : Int), 0), (x1, 0), (x2, 0)] s := by
  have loop : ∀ (M : Nat), (∀ (x3 x4 x5 x6 x7 : Int), zT (zE 1511) (Pt PX11_spreads) M (40, [((172 : Nat) : Int), x1, x2, x3, x4, x5, x6, x7], [], s) (fun r => ∃ v, r = ([(v, 0)], s))) ∧ (∀ (x3 x4 x5 x6 x7 : Int), zT (zE 1511) (Pt PX11_spreads) M (13, [((172 : Nat) : Int), x1, x2, x3, x4, x5, x6, x7], [], s) (fun r => ∃ v, r = ([(v, 0)], s))) := by
    intro M
    induction M using Nat.strongRecOn with
    | ind M ih =>
      have A : ∀ (x3 x4 x5 x6 x7 : Int), zT (zE 1511) (Pt PX11_spreads) M (40, [((172 : Nat) : Int), x1, x2, x3, x4, x5, x6, x7], [], s) (fun r => ∃ v, r = ([(v, 0)], s)) := fun x3 x4 x5 x6 x7 => by
        refine b_X11_spreads_40 _ _ _ _ _ _ _ s (fun _ m hm => (ih m hm).2 _ _ _ _ _) (fun _ m hm => ?_)
        refine puQ lowerOf_pu (fun v => ?_)
        exact b_X11_spreads_58 _ _ _ _ _ _ _ _ s (fun _ m2 hm2 => (ih m2 (by omega)).1 _ _ _ _ _) (fun _ _ m2 hm2 => (ih m2 (by omega)).1 _ _ _ _ _) (fun _ _ m2 hm2 => (ih m2 (by omega)).1 _ _ _ _ _)
      exact ⟨A, fun x3 x4 x5 x6 x7 => b_X11_spreads_13 _ _ _ _ _ _ _ s (fun _ => ⟨_, rfl⟩) (fun _ _ => A _ _ _ _ _) (fun _ _ => A _ _ _ _ _)⟩
  refine c_X11_spreads (b_X11_spreads_0 _ _ _ _ _ _ _ s (fun m _ => puQ streets_pu (fun v => ?_)))
  exact b_X11_spreads_4 _ _ _ _ _ _ _ _ s ((loop m).2 _ _ _ _ _)
theorem reachOf_pu {x : Int} : pu N 1495 [(((172 : Nat) : Int), 0), (x, 0)] s :=
  c_X11_reachOf (b_X11_reachOf_0 _ s (fun _ _ => puQ climbs_pu (fun _ => b_X11_reachOf_26 _ _ _ s (fun _ _ => puQ spreads_pu (fun _ => b_X11_reachOf_29 _ _ s ⟨_, rfl⟩)))))
theorem isCut_pu {x y z : Int} : pu N 1445 [(((172 : Nat) : Int), 0), (x, 0), (y, 0), (z, 0)] s :=
  c_X11_isCut (b_X11_isCut_0 _ _ _ s (fun _ _ => puQ climbs_pu (fun _ => b_X11_isCut_14 _ _ _ _ _ s (fun _ _ => puQ spreads_pu (fun _ => b_X11_isCut_17 _ _ _ _ s (fun _ => ⟨_, rfl⟩) (fun _ => ⟨_, rfl⟩))))))
theorem cutBy_pu {x : Int} : pu N 1430 [(((172 : Nat) : Int), 0), (x, 0)] s := by
  have loop : ∀ (M : Nat) (x2 x3 : Int), zT (zE 1430) (Pt PX11_cutBy) M (4, [((172 : Nat) : Int), x, x2, x3], [], s) (fun r => ∃ v, r = ([(v, 0)], s)) := by
    intro M
    induction M using Nat.strongRecOn with
    | ind M ih => exact fun x2 x3 => b_X11_cutBy_4 _ _ _ s (fun _ => ⟨_, rfl⟩) (fun _ m hm => puQ isCut_pu (fun _ => b_X11_cutBy_29 _ _ _ _ _ s (fun _ m2 hm2 => ih m2 (by omega) _ _) (fun _ m2 hm2 => ih m2 (by omega) _ _)))
  exact c_X11_cutBy (b_X11_cutBy_0 _ _ _ s (loop N _ _))
theorem above_pu {x : Int} : pu N 1408 [(((172 : Nat) : Int), 0), (x, 0)] s := by
  have loop : ∀ (M : Nat) (x2 x3 : Int), zT (zE 1408) (Pt PX11_above) M (4, [((172 : Nat) : Int), x, x2, x3], [], s) (fun r => ∃ v, r = ([(v, 0)], s)) := by
    intro M
    induction M using Nat.strongRecOn with
    | ind M ih => exact fun x2 x3 => b_X11_above_4 _ _ _ s (fun _ => ⟨_, rfl⟩) (fun _ _ m hm => ih m hm _ _) (fun _ _ _ m hm => ih m hm _ _) (fun _ _ _ m hm => ih m hm _ _)
  exact c_X11_above (b_X11_above_0 _ _ _ s (loop N _ _))
theorem canSteal_pu {x : Int} : pu N 1421 [(((172 : Nat) : Int), 0), (x, 0)] s :=
  c_X11_canSteal (b_X11_canSteal_0 _ s (fun _ => ⟨_, rfl⟩) (fun _ _ _ => puQ above_pu (fun _ => b_X11_canSteal_19 _ _ s (fun _ => ⟨_, rfl⟩) (fun _ => ⟨_, rfl⟩))))
theorem canBuild_pu {x : Int} : pu N 1417 [(((172 : Nat) : Int), 0), (x, 0)] s :=
  c_X11_canBuild (b_X11_canBuild_0 _ s (fun _ => ⟨_, rfl⟩) (fun _ _ => ⟨_, rfl⟩) (fun _ _ => ⟨_, rfl⟩))
theorem canGo_pu {x y : Int} : pu N 1419 [(((172 : Nat) : Int), 0), (x, 0), (y, 0)] s :=
  c_X11_canGo (b_X11_canGo_0 _ _ s (fun _ _ => puQ reachOf_pu (fun _ => b_X11_canGo_5 _ _ _ s (fun _ => ⟨_, rfl⟩) (fun _ => ⟨_, rfl⟩))))
theorem canCarry_pu {x y z : Int} : pu N 1418 [(((172 : Nat) : Int), 0), (x, 0), (y, 0), (z, 0)] s :=
  c_X11_canCarry (b_X11_canCarry_0 _ _ _ s (fun _ => ⟨_, rfl⟩) (fun _ _ _ => puQ climbs_pu (fun _ => b_X11_canCarry_46 _ _ _ _ _ s (fun _ _ => puQ spreads_pu (fun _ => b_X11_canCarry_49 _ _ _ _ s (fun _ => ⟨_, rfl⟩) (fun _ => ⟨_, rfl⟩))))))
/-- what a trial may write -/
def frG (s s' : Zs) : Prop := ∀ c j, c ≠ 216 → ¬ (195 ≤ c ∧ c ≤ 206) → ¬ (c = 172 ∧ j = 73) → s' c j = s c j
theorem frG_rf : frG s s := fun _ _ _ _ _ => rfl
theorem frG_u {s' : Zs} {j : Nat} {v : Int} (h : frG s s') : frG s (zu s' 216 j v) := fun c k a b d => by rw [zu_n (by omega)]; exact h c k a b d
theorem frG_W {s' s'' : Zs} (h : frG s s') (f : frW s' s'') : frG s s'' := fun c j a b d => (f c j b).trans (h c j a b d)
theorem frG_tr {s' s'' : Zs} (h : frG s s') (f : frG s' s'') : frG s s'' := fun c j a b d => (f c j a b d).trans (h c j a b d)
theorem steals_G {x : Int} : zC N 1514 [(((172 : Nat) : Int), 0), (x, 0)] s (fun r => (∃ v, r.1 = [(v, 0)]) ∧ frG s r.2) := by
  refine c_X11_steals (b_X11_steals_0 _ _ s (fun m _ => zC_q priceOf_fr (fun r hr => ?_)))
  obtain ⟨r1, s1⟩ := r
  obtain ⟨⟨v, e, -⟩, f1⟩ := hr
  have e : r1 = [(v, 0)] := e
  subst e
  exact b_X11_steals_5 _ _ _ s1 ⟨⟨_, rfl⟩, frG_u (frG_u (frG_W frG_rf f1))⟩
theorem goes_G {x : Int} : zC N 1442 [(((172 : Nat) : Int), 0), (x, 0)] s (fun r => (∃ v, r.1 = [(v, 0)]) ∧ frG s r.2) := by
  refine c_X11_goes (b_X11_goes_0 _ _ _ s (fun _ _ _ _ => ⟨⟨_, rfl⟩, frG_u frG_rf⟩) (fun _ _ _ _ m _ => puQ canCarry_pu (fun v => ?_)) (fun _ _ _ m _ => puQ canGo_pu (fun v => ?_)) (fun _ _ m _ => puQ canBuild_pu (fun v => ?_)) (fun _ m _ => puQ canSteal_pu (fun v => ?_)))
  · refine b_X11_goes_120 _ _ _ _ s (fun _ m2 _ => ?_) (fun _ => ⟨⟨_, rfl⟩, frG_rf⟩)
    exact c_X11_carries (b_X11_carries_0 _ _ _ s (b_X11_goes_142 _ _ _ _ ⟨⟨_, rfl⟩, frG_u (frG_u frG_rf)⟩))
  · exact b_X11_goes_76 _ _ _ _ s (fun _ => ⟨⟨_, rfl⟩, frG_u frG_rf⟩) (fun _ => ⟨⟨_, rfl⟩, frG_rf⟩)
  · refine b_X11_goes_47 _ _ _ _ s (fun _ m2 _ => ?_) (fun _ => ⟨⟨_, rfl⟩, frG_rf⟩)
    exact c_X11_builds (b_X11_builds_0 _ s (b_X11_goes_57 _ _ _ _ ⟨⟨_, rfl⟩, frG_u (frG_u frG_rf)⟩))
  · refine b_X11_goes_23 _ _ _ _ s (fun _ m2 _ => zC_q steals_G (fun r hr => ?_)) (fun _ => ⟨⟨_, rfl⟩, frG_rf⟩)
    obtain ⟨r1, s1⟩ := r
    obtain ⟨⟨v2, e⟩, f1⟩ := hr
    have e : r1 = [(v2, 0)] := e
    subst e
    exact b_X11_goes_33 _ _ _ _ s1 ⟨⟨_, rfl⟩, f1⟩
/-- what was put aside comes back -/
theorem back_G {m : Nat} {s0 s1 : Zs} {G : Zr → Prop} (f : ∀ c j, c ≠ 216 → c ≠ 217 → ¬ (195 ≤ c ∧ c ≤ 206) → ¬ (c = 172 ∧ (j = 0 ∨ j = 73)) → s1 c j = s0 c j) (a : ∀ k, k < 13 → s1 217 k = s0 216 k) (g : ∀ s2, (∀ c j, c ≠ 217 → ¬ (c = 216 ∧ 13 ≤ j) → ¬ (195 ≤ c ∧ c ≤ 206) → ¬ (c = 172 ∧ (j = 0 ∨ j = 73)) → s2 c j = s0 c j) → G ([], s2)) : zC m 1426 [(((217 : Nat) : Int), 0), (0, 0), (((216 : Nat) : Int), 0), (0, 0)] s1 G := by
  refine zC_q (copies_ok (f := 217) (e := 216) (a := 0) (b := 0) (by omega) (by omega) (by omega)) (fun r hr => ?_)
  obtain ⟨r1, s2⟩ := r
  obtain ⟨e, c1, c2⟩ := hr
  have e : r1 = [] := e
  subst e
  have c1 : ∀ k, k < 13 → s2 216 (0 + k) = s1 217 (0 + k) := c1
  have c2 : ∀ c j, ¬ (c = 216 ∧ 0 ≤ j ∧ j < 0 + 13) → s2 c j = s1 c j := c2
  refine g s2 (fun c j h1 h2 h3 h4 => ?_)
  by_cases q : c = 216
  · subst q
    have := c1 j (by omega)
    rw [Nat.zero_add] at this
    rw [this]
    exact a j (by omega)
  · rw [c2 _ _ (by omega)]; exact f c j q h1 h3 h4
def frB (s s' : Zs) : Prop := ∀ c j, c ≠ 217 → ¬ (c = 216 ∧ 13 ≤ j) → ¬ (195 ≤ c ∧ c ≤ 206) → ¬ (c = 172 ∧ (j = 0 ∨ j = 73)) → s' c j = s c j
theorem judged_G {x : Int} : zC N 1460 [(((172 : Nat) : Int), 0), (x, 0)] s (fun r => frB s r.2) := by
  have z0 : frB s (zu s 172 0 0) := fun c j _ _ _ h => zu_n (by omega)
  refine c_X11_judged (b_X11_judged_0 _ _ _ _ _ s (fun m _ => ?_))
  have main : ∀ v : Int, zT (zE 1460) (Pt PX11_judged) m (11, [((172 : Nat) : Int), x, 0, 0, 0, 0], [(v, 0)] ++ [], zu s 172 0 0) (fun r => frB s r.2) := fun v => by
    refine b_X11_judged_11 _ _ _ _ _ _ _ (fun _ m2 _ => ?_) (fun _ => z0)
    refine zC_q (copies_ok (f := 216) (e := 217) (a := 0) (b := 0) (by omega) (by omega) (by omega)) (fun r hr => ?_)
    obtain ⟨r1, s1⟩ := r
    obtain ⟨e, c1, c2⟩ := hr
    have e : r1 = [] := e
    subst e
    have c1 : ∀ k, k < 13 → s1 217 (0 + k) = zu s 172 0 0 216 (0 + k) := c1
    have c2 : ∀ c j, ¬ (c = 217 ∧ 0 ≤ j ∧ j < 0 + 13) → s1 c j = zu s 172 0 0 c j := c2
    refine b_X11_judged_30 _ _ _ _ _ s1 (fun m3 _ => ?_)
    refine zC_q freshF (fun r hr => ?_)
    obtain ⟨r1, s2⟩ := r
    obtain ⟨e, f2⟩ := hr
    have e : r1 = [] := e
    subst e
    have f2 : ∀ c j, c ≠ 216 → s2 c j = s1 c j := f2
    have base : ∀ s4, frG s2 s4 → (∀ c j, c ≠ 216 → c ≠ 217 → ¬ (195 ≤ c ∧ c ≤ 206) → ¬ (c = 172 ∧ (j = 0 ∨ j = 73)) → s4 c j = s c j) ∧ ∀ k, k < 13 → s4 217 k = s 216 k := fun s4 g => by
      refine ⟨fun c j h1 h2 h3 h4 => ?_, fun k hk => ?_⟩
      · rw [g c j h1 h3 (by omega), f2 c j h1, c2 c j (by omega), zu_n (by omega)]
      · rw [g _ _ (by omega) (by omega) (by omega), f2 _ _ (by omega)]
        have := c1 k hk
        rw [Nat.zero_add] at this
        rw [this, zu_n (by omega)]
    have loop : ∀ (M : Nat) (x2 x3 x4 x5 : Int) (s4 : Zs), frG s2 s4 → zT (zE 1460) (Pt PX11_judged) M (41, [((172 : Nat) : Int), x, x2, x3, x4, x5], [], s4) (fun r => frB s r.2) := by
      intro M
      induction M using Nat.strongRecOn with
      | ind M ih =>
        intro x2 x3 x4 x5 s4 g
        refine b_X11_judged_41 _ _ _ _ _ s4 (fun _ m4 _ => ?_) (fun _ m4 hm4 => ?_)
        · have b := base s4 g
          exact back_G (s0 := s) b.1 b.2 (fun s5 h5 => b_X11_judged_125 _ _ _ _ _ s5 (fun _ _ => h5) (fun _ _ => h5) (fun _ => h5))
        · refine zC_q goes_G (fun r hr => ?_)
          obtain ⟨r1, s5⟩ := r
          obtain ⟨⟨v2, e⟩, f5⟩ := hr
          have e : r1 = [(v2, 0)] := e
          subst e
          have g5 : frG s2 s5 := frG_tr g f5
          refine b_X11_judged_58 _ _ _ _ _ _ s5 (fun _ _ m5 h5 => ih m5 (by omega) _ _ _ _ _ g5) (fun _ _ m5 h5 => puQ cutBy_pu (fun v3 => ?_)) (fun _ _ m5 h5 => ih m5 (by omega) _ _ _ _ _ g5) (fun _ _ m5 h5 => ih m5 (by omega) _ _ _ _ _ g5)
          exact b_X11_judged_91 _ _ _ _ _ _ s5 (fun _ m6 h6 => ih m6 (by omega) _ _ _ _ _ g5) (fun _ m6 h6 => ih m6 (by omega) _ _ _ _ _ g5)
    exact b_X11_judged_34 _ _ _ _ _ s2 (loop _ _ _ _ _ s2 frG_rf)
  exact c_X11_within (b_X11_within_0 _ _ _ _ (fun _ => main _) (fun _ _ => main _) (fun _ _ => main _))
theorem draws_G {x : Int} : zC N 1431 [(((172 : Nat) : Int), 0), (x, 0)] s (fun r => (∃ v, r.1 = [(v, 0)]) ∧ frG s r.2) :=
  c_X11_draws (b_X11_draws_0 _ s ⟨⟨_, rfl⟩, fun c j _ _ h => zu_n (by omega)⟩)
theorem lives_G : zC N 1470 [(((172 : Nat) : Int), 0)] s (fun r => r.1 = [] ∧ frG s r.2) := by
  have l2 : ∀ (M : Nat) (x1 x2 : Int) (s1 : Zs), frG s s1 → zT (zE 1470) (Pt PX11_livesNight) M (63, [((172 : Nat) : Int), x1, x2], [], s1) (fun r => r.1 = [] ∧ frG s r.2) := by
    intro M
    induction M using Nat.strongRecOn with
    | ind M ih =>
      intro x1 x2 s1 g
      refine b_X11_livesNight_63 _ _ s1 (fun _ _ => ⟨rfl, frG_u g⟩) (fun _ _ => ⟨rfl, frG_u g⟩) (fun _ _ _ => ⟨rfl, frG_u g⟩) (fun _ _ _ m _ => puQ canBuild_pu (fun v => ?_)) (fun _ _ m hm => ih m hm _ _ _ g)
      refine b_X11_livesNight_112 _ _ _ s1 (fun _ => ⟨rfl, frG_u g⟩) (fun _ m2 _ => ?_)
      exact c_X11_builds (b_X11_builds_0 _ s1 (b_X11_livesNight_120 _ _ _ ⟨rfl, frG_u (frG_u (frG_u g))⟩))
  have l1 : ∀ (M : Nat) (x1 x2 : Int) (s1 : Zs), frG s s1 → zT (zE 1470) (Pt PX11_livesNight) M (2, [((172 : Nat) : Int), x1, x2], [], s1) (fun r => r.1 = [] ∧ frG s r.2) := by
    intro M
    induction M using Nat.strongRecOn with
    | ind M ih =>
      intro x1 x2 s1 g
      refine b_X11_livesNight_2 _ _ s1 (fun _ m _ => zC_q draws_G (fun r hr => ?_)) (fun _ m hm => zC_q draws_G (fun r hr => ?_))
      all_goals
        obtain ⟨r1, s2⟩ := r
        obtain ⟨⟨v2, e⟩, f5⟩ := hr
        have e : r1 = [(v2, 0)] := e
        subst e
        have g5 : frG s s2 := frG_tr g f5
      · exact b_X11_livesNight_52 _ _ _ s2 (fun _ => l2 _ _ _ _ g5) (fun _ => l2 _ _ _ _ g5)
      · refine b_X11_livesNight_18 _ _ _ s2 (fun _ m2 hm2 => ih m2 (by omega) _ _ _ g5) (fun _ m2 hm2 => puQ canSteal_pu (fun v => ?_))
        refine b_X11_livesNight_32 _ _ _ s2 (fun _ m3 hm3 => ih m3 (by omega) _ _ _ g5) (fun _ m3 hm3 => zC_q steals_G (fun r hr => ?_))
        obtain ⟨r1, s3⟩ := r
        obtain ⟨⟨v3, e⟩, f6⟩ := hr
        have e : r1 = [(v3, 0)] := e
        subst e
        exact b_X11_livesNight_40 _ _ _ s3 (fun m4 hm4 => ih m4 (by omega) _ _ _ (frG_tr g5 f6))
  exact c_X11_livesNight (b_X11_livesNight_0 _ _ s (l1 N _ _ s frG_rf))
theorem bits_pu {x : Int} : pu N 1414 [(x, 0)] s := bits_fr
theorem years_G {x y z : Int} : zC N 1528 [(((172 : Nat) : Int), 0), (x, 0), (y, 0), (z, 0)] s (fun r => frB s r.2) := by
  have z0 : frB s (zu s 172 0 0) := fun c j _ _ _ h => zu_n (by omega)
  refine c_X11_years (b_X11_years_0 _ _ _ _ _ s (fun m _ => ?_))
  have main3 : ∀ (m : Nat) (v : Int), zT (zE 1528) (Pt PX11_years) m (32, [((172 : Nat) : Int), x, y, z, 0, 0], [(v, 0)] ++ [], zu s 172 0 0) (fun r => frB s r.2) := fun m v => by
    refine b_X11_years_32 _ _ _ _ _ _ _ (fun _ m2 _ => ?_) (fun _ => z0)
    refine zC_q (copies_ok (f := 216) (e := 217) (a := 0) (b := 0) (by omega) (by omega) (by omega)) (fun r hr => ?_)
    obtain ⟨r1, s1⟩ := r
    obtain ⟨e, c1, c2⟩ := hr
    have e : r1 = [] := e
    subst e
    have c1 : ∀ k, k < 13 → s1 217 (0 + k) = zu (zu s 172 0 0) 172 73 x 216 (0 + k) := c1
    have c2 : ∀ c j, ¬ (c = 217 ∧ 0 ≤ j ∧ j < 0 + 13) → s1 c j = zu (zu s 172 0 0) 172 73 x c j := c2
    have base : ∀ s4, frG s1 s4 → (∀ c j, c ≠ 216 → c ≠ 217 → ¬ (195 ≤ c ∧ c ≤ 206) → ¬ (c = 172 ∧ (j = 0 ∨ j = 73)) → s4 c j = s c j) ∧ ∀ k, k < 13 → s4 217 k = s 216 k := fun s4 g => by
      refine ⟨fun c j h1 h2 h3 h4 => ?_, fun k hk => ?_⟩
      · rw [g c j h1 h3 (by omega), c2 c j (by omega), zu_n (by omega), zu_n (by omega)]
      · rw [g _ _ (by omega) (by omega) (by omega)]
        have := c1 k hk
        rw [Nat.zero_add] at this
        rw [this, zu_n (by omega), zu_n (by omega)]
    have fin : ∀ (m : Nat) (x5 x4 : Int) (s4 : Zs), frG s1 s4 → zC m 1426 [(((217 : Nat) : Int), 0), (0, 0), (((216 : Nat) : Int), 0), (0, 0)] s4 (fun p => zT (zE 1528) (Pt PX11_years) m (152, [((172 : Nat) : Int), x, y, z, x4, x5], p.1 ++ [], p.2) (fun r => frB s r.2)) := fun m x5 x4 s4 g => by
      have b := base s4 g
      exact back_G (s0 := s) b.1 b.2 (fun s5 h5 => b_X11_years_152 _ _ _ _ _ s5 h5)
    have loop : ∀ (M : Nat) (x4 x5 : Int) (s4 : Zs), frG s1 s4 → zT (zE 1528) (Pt PX11_years) M (62, [((172 : Nat) : Int), x, y, z, x4, x5], [], s4) (fun r => frB s r.2) := by
      intro M
      induction M using Nat.strongRecOn with
      | ind M ih =>
        intro x4 x5 s4 g
        refine b_X11_years_62 _ _ _ _ _ s4 (fun _ _ _ m3 _ => fin _ _ _ _ g) (fun _ _ _ m3 _ => puQ bits_pu (fun v => ?_)) (fun _ _ m3 _ => fin _ _ _ _ g) (fun _ m3 hm3 => ?_)
        · exact b_X11_years_132 _ _ _ _ _ _ s4 (fun m4 _ => fin _ _ _ _ g)
        · refine zC_q lives_G (fun r hr => ?_)
          obtain ⟨r1, s5⟩ := r
          obtain ⟨e, f5⟩ := hr
          have e : r1 = [] := e
          subst e
          have g5 : frG s1 s5 := frG_tr g f5
          refine b_X11_years_72 _ _ _ _ _ s5 (fun m4 hm4 => puQ cutBy_pu (fun v => ?_))
          refine b_X11_years_84 _ _ _ _ _ _ _ s5 (fun m5 hm5 => puQ bits_pu (fun v2 => ?_))
          exact b_X11_years_87 _ _ _ _ _ _ _ s5 (fun m6 hm6 => ih m6 (by omega) _ _ _ g5)
    exact b_X11_years_56 _ _ _ _ _ s1 (loop _ _ _ s1 frG_rf)
  have main2 : ∀ (m : Nat) (v : Int), zT (zE 1528) (Pt PX11_years) m (23, [((172 : Nat) : Int), x, y, z, 0, 0], [(v, 0)] ++ [], zu s 172 0 0) (fun r => frB s r.2) := fun m v =>
    b_X11_years_23 _ _ _ _ _ _ _ (fun _ => z0) (fun _ m2 _ => c_X11_within (b_X11_within_0 _ _ _ _ (fun _ => main3 _ _) (fun _ _ => main3 _ _) (fun _ _ => main3 _ _)))
  have main1 : ∀ (m : Nat) (v : Int), zT (zE 1528) (Pt PX11_years) m (13, [((172 : Nat) : Int), x, y, z, 0, 0], [(v, 0)] ++ [], zu s 172 0 0) (fun r => frB s r.2) := fun m v =>
    b_X11_years_13 _ _ _ _ _ _ _ (fun _ => z0) (fun _ m2 _ => c_X11_within (b_X11_within_0 _ _ _ _ (fun _ => main2 _ _) (fun _ _ => main2 _ _) (fun _ _ => main2 _ _)))
  exact c_X11_within (b_X11_within_0 _ _ _ _ (fun _ => main1 _ _) (fun _ _ => main1 _ _) (fun _ _ => main1 _ _))
end Zpu
