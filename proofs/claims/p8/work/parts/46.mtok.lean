/-! the tokens of the model -/
theorem b_X11_signAt_0 {n : Nat} {Q : Zr → Prop} (x1 : Int) (s : Zs) 
    (h0 : ∀ (g1 : s 172 3 ≤ x1), Q ([(0, 0)], s))
    (h1 : ∀ (g1 : x1 < s 172 3), Q ([(s 173 x1.toNat, 0)], s)) : zT (zE 1510) (Pt PX11_signAt) n (0, [((172 : Nat) : Int), x1], [], s) Q := by
  refine tL x1 0 rfl rfl rfl ?_
  refine tL ((172 : Nat) : Int) 0 rfl rfl rfl ?_
  refine tFv (c := 172) (s 172 3) 0 rfl rfl rfl rfl rfl ?_
  refine tJ3 rfl (fun g1 _ l1 => zT_le ?_ (Nat.le_of_lt l1)) (fun g1 _ l1 => zT_le ?_ (Nat.le_of_lt l1))
  · refine tK rfl ?_
    exact tR rfl (h0 g1)
  · refine tL ((172 : Nat) : Int) 0 rfl rfl rfl ?_
    refine tFR (c := 172) 173 rfl rfl rfl rfl rfl ?_
    refine tL x1 0 rfl rfl rfl ?_
    refine tAv 173 x1.toNat (s 173 x1.toNat) 0 rfl rfl rfl (by decide) rfl rfl ?_
    refine tG rfl ?_
    exact tR rfl (h1 g1)

theorem c_X11_signAt {n : Nat} {Q : Zr → Prop} {a0 a1 : Int} {s : Zs} (h : zT (zE 1510) (Pt PX11_signAt) n (0, [a0, a1], [], s) Q) : zC n 1510 [(a0, 0), (a1, 0)] s Q := h

theorem b_X11_isWord_0 {n : Nat} {Q : Zr → Prop} (x1 x2 : Int) (s : Zs) 
    (h0 : ∀ (g1 : s 172 6 ≠ 1), Q ([(0, 0)], s))
    (h1 : ∀ (g1 : s 172 6 = 1), ∀ (g2 : zcmpL (s 172 7) x1 ≠ 0), Q ([(0, 0)], s))
    (h2 : ∀ (g1 : s 172 6 = 1), ∀ (g2 : zcmpL (s 172 7) x1 = 0), Q ([(1, 0)], s)) : zT (zE 1459) (Pt PX11_isWord) n (0, [((172 : Nat) : Int), x1, x2], [], s) Q := by
  refine tL ((172 : Nat) : Int) 0 rfl rfl rfl ?_
  refine tFv (c := 172) (s 172 6) 0 rfl rfl rfl rfl rfl ?_
  refine tK rfl ?_
  refine tJ1 rfl (fun g1 _ l1 => zT_le ?_ (Nat.le_of_lt l1)) (fun g1 _ l1 => zT_le ?_ (Nat.le_of_lt l1))
  · refine tK rfl ?_
    exact tR rfl (h0 g1)
  · refine tL ((172 : Nat) : Int) 0 rfl rfl rfl ?_
    refine tFv (c := 172) (s 172 7) 1 rfl rfl rfl rfl rfl ?_
    refine tL x1 1 rfl rfl rfl ?_
    refine tC rfl ?_
    refine tI1 rfl (fun g2 _ l2 => zT_le ?_ (Nat.le_of_lt l2)) (fun g2 _ l2 => zT_le ?_ (Nat.le_of_lt l2))
    · refine tK rfl ?_
      exact tR rfl (h1 g1 g2)
    · refine tK rfl ?_
      refine tG rfl ?_
      exact tR rfl (h2 g1 g2)

theorem c_X11_isWord {n : Nat} {Q : Zr → Prop} {a0 a1 : Int} {s : Zs} (h : zT (zE 1459) (Pt PX11_isWord) n (0, [a0, a1, 0], [], s) Q) : zC n 1459 [(a0, 0), (a1, 1)] s Q := h

theorem b_X11_isSign_0 {n : Nat} {Q : Zr → Prop} (x1 : Int) (s : Zs) 
    (h0 : ∀ (g1 : s 172 6 ≠ 3), Q ([(0, 0)], s))
    (h1 : ∀ (g1 : s 172 6 = 3), ∀ (g2 : s 173 ((s 172 5).toNat) ≠ x1), Q ([(0, 0)], s))
    (h2 : ∀ (g1 : s 172 6 = 3), ∀ (g2 : s 173 ((s 172 5).toNat) = x1), Q ([(1, 0)], s)) : zT (zE 1455) (Pt PX11_isSign) n (0, [((172 : Nat) : Int), x1], [], s) Q := by
  refine tL ((172 : Nat) : Int) 0 rfl rfl rfl ?_
  refine tFv (c := 172) (s 172 6) 0 rfl rfl rfl rfl rfl ?_
  refine tK rfl ?_
  refine tJ1 rfl (fun g1 _ l1 => zT_le ?_ (Nat.le_of_lt l1)) (fun g1 _ l1 => zT_le ?_ (Nat.le_of_lt l1))
  · refine tK rfl ?_
    exact tR rfl (h0 g1)
  · refine tL ((172 : Nat) : Int) 0 rfl rfl rfl ?_
    refine tFR (c := 172) 173 rfl rfl rfl rfl rfl ?_
    refine tL ((172 : Nat) : Int) 0 rfl rfl rfl ?_
    refine tFv (c := 172) (s 172 5) 0 rfl rfl rfl rfl rfl ?_
    refine tAv 173 ((s 172 5).toNat) (s 173 ((s 172 5).toNat)) 0 rfl rfl rfl (by decide) rfl rfl ?_
    refine tL x1 0 rfl rfl rfl ?_
    refine tJ1 rfl (fun g2 _ l2 => zT_le ?_ (Nat.le_of_lt l2)) (fun g2 _ l2 => zT_le ?_ (Nat.le_of_lt l2))
    · refine tK rfl ?_
      exact tR rfl (h1 g1 g2)
    · refine tK rfl ?_
      refine tG rfl ?_
      exact tR rfl (h2 g1 g2)

theorem c_X11_isSign {n : Nat} {Q : Zr → Prop} {a0 a1 : Int} {s : Zs} (h : zT (zE 1455) (Pt PX11_isSign) n (0, [a0, a1], [], s) Q) : zC n 1455 [(a0, 0), (a1, 0)] s Q := h

theorem b_X11_fails_0 {n : Nat} {Q : Zr → Prop} (x1 : Int) (s : Zs) 
    (h0 : Q ([(0, 0)], zu s 172 9 (w32 (x1 + (w32 (16 * (s 172 5))))))) : zT (zE 1433) (Pt PX11_fails) n (0, [((172 : Nat) : Int), x1], [], s) Q := by
  refine tL ((172 : Nat) : Int) 0 rfl rfl rfl ?_
  refine tL x1 0 rfl rfl rfl ?_
  refine tK rfl ?_
  refine tL ((172 : Nat) : Int) 0 rfl rfl rfl ?_
  refine tFv (c := 172) (s 172 5) 0 rfl rfl rfl rfl rfl ?_
  refine tM (v := w32 (16 * (s 172 5))) rfl rfl ?_
  refine tB (v := w32 (x1 + (w32 (16 * (s 172 5))))) rfl rfl ?_
  refine tPut 172 rfl rfl ?_
  refine tK rfl ?_
  exact tR rfl (h0)

theorem c_X11_fails {n : Nat} {Q : Zr → Prop} {a0 a1 : Int} {s : Zs} (h : zT (zE 1433) (Pt PX11_fails) n (0, [a0, a1], [], s) Q) : zC n 1433 [(a0, 0), (a1, 0)] s Q := h

theorem b_X11_within_0 {n : Nat} {Q : Zr → Prop} (x0 x1 x2 : Int) (s : Zs) 
    (h0 : ∀ (g1 : x0 < x1), Q ([(0, 0)], s))
    (h1 : ∀ (g1 : x1 ≤ x0), ∀ (g2 : x2 < x0), Q ([(0, 0)], s))
    (h2 : ∀ (g1 : x1 ≤ x0), ∀ (g2 : x0 ≤ x2), Q ([(1, 0)], s)) : zT (zE 1525) (Pt PX11_within) n (0, [x0, x1, x2], [], s) Q := by
  refine tL x0 0 rfl rfl rfl ?_
  refine tL x1 0 rfl rfl rfl ?_
  refine tJ2 rfl (fun g1 _ l1 => zT_le ?_ (Nat.le_of_lt l1)) (fun g1 _ l1 => zT_le ?_ (Nat.le_of_lt l1))
  · refine tK rfl ?_
    exact tR rfl (h0 g1)
  · refine tL x0 0 rfl rfl rfl ?_
    refine tL x2 0 rfl rfl rfl ?_
    refine tJ4 rfl (fun g2 _ l2 => zT_le ?_ (Nat.le_of_lt l2)) (fun g2 _ l2 => zT_le ?_ (Nat.le_of_lt l2))
    · refine tK rfl ?_
      exact tR rfl (h1 g1 g2)
    · refine tK rfl ?_
      refine tG rfl ?_
      exact tR rfl (h2 g1 g2)

theorem c_X11_within {n : Nat} {Q : Zr → Prop} {a0 a1 a2 : Int} {s : Zs} (h : zT (zE 1525) (Pt PX11_within) n (0, [a0, a1, a2], [], s) Q) : zC n 1525 [(a0, 0), (a1, 0), (a2, 0)] s Q := h

theorem b_X11_nextToken_0 {n : Nat} {Q : Zr → Prop} (x1 : Int) (s : Zs) 
    (h0 : ∀ (g1 : s 172 3 ≤ s 172 4), zT (zE 1482) (Pt PX11_nextToken) n (52, [((172 : Nat) : Int), x1], [], s) Q)
    (h1 : ∀ (g1 : s 172 4 < s 172 3), ∀ (g2 : s 173 ((s 172 4).toNat) = 32), ∀ m, m < n → zT (zE 1482) (Pt PX11_nextToken) m (0, [((172 : Nat) : Int), x1], [], zu s 172 4 (w32 ((s 172 4) + 1))) Q)
    (h2 : ∀ (g1 : s 172 4 < s 172 3), ∀ (g2 : s 173 ((s 172 4).toNat) ≠ 32), ∀ (g3 : s 173 ((s 172 4).toNat) ≠ 10), zT (zE 1482) (Pt PX11_nextToken) n (52, [((172 : Nat) : Int), x1], [], s) Q)
    (h3 : ∀ (g1 : s 172 4 < s 172 3), ∀ (g2 : s 173 ((s 172 4).toNat) ≠ 32), ∀ (g3 : s 173 ((s 172 4).toNat) = 10), ∀ m, m < n → zT (zE 1482) (Pt PX11_nextToken) m (0, [((172 : Nat) : Int), x1], [], zu s 172 4 (w32 ((s 172 4) + 1))) Q) : zT (zE 1482) (Pt PX11_nextToken) n (0, [((172 : Nat) : Int), x1], [], s) Q := by
  refine tL ((172 : Nat) : Int) 0 rfl rfl rfl ?_
  refine tFv (c := 172) (s 172 4) 0 rfl rfl rfl rfl rfl ?_
  refine tL ((172 : Nat) : Int) 0 rfl rfl rfl ?_
  refine tFv (c := 172) (s 172 3) 0 rfl rfl rfl rfl rfl ?_
  refine tJ3 rfl (fun g1 _ l1 => zT_le ?_ (Nat.le_of_lt l1)) (fun g1 _ l1 => zT_le ?_ (Nat.le_of_lt l1))
  · exact zT_le (h0 g1) (Nat.le_refl n)
  · refine tL ((172 : Nat) : Int) 0 rfl rfl rfl ?_
    refine tFR (c := 172) 173 rfl rfl rfl rfl rfl ?_
    refine tL ((172 : Nat) : Int) 0 rfl rfl rfl ?_
    refine tFv (c := 172) (s 172 4) 0 rfl rfl rfl rfl rfl ?_
    refine tAv 173 ((s 172 4).toNat) (s 173 ((s 172 4).toNat)) 0 rfl rfl rfl (by decide) rfl rfl ?_
    refine tK rfl ?_
    refine tJ0 rfl (fun g2 _ l2 => zT_le ?_ (Nat.le_of_lt l2)) (fun g2 _ l2 => zT_le ?_ (Nat.le_of_lt l2))
    · refine tL ((172 : Nat) : Int) 0 rfl rfl rfl ?_
      refine tD rfl ?_
      refine tFv (c := 172) (s 172 4) 0 rfl rfl rfl rfl rfl ?_
      refine tK rfl ?_
      refine tB (v := w32 ((s 172 4) + 1)) rfl rfl ?_
      refine tPut 172 rfl rfl ?_
      exact tGb rfl (fun m2 l2 => h1 g1 g2 m2 (Nat.lt_of_lt_of_le l2 (Nat.le_refl n)))
    · refine tL ((172 : Nat) : Int) 0 rfl rfl rfl ?_
      refine tFR (c := 172) 173 rfl rfl rfl rfl rfl ?_
      refine tL ((172 : Nat) : Int) 0 rfl rfl rfl ?_
      refine tFv (c := 172) (s 172 4) 0 rfl rfl rfl rfl rfl ?_
      refine tAv 173 ((s 172 4).toNat) (s 173 ((s 172 4).toNat)) 0 rfl rfl rfl (by decide) rfl rfl ?_
      refine tK rfl ?_
      refine tJ1 rfl (fun g3 _ l3 => zT_le ?_ (Nat.le_of_lt l3)) (fun g3 _ l3 => zT_le ?_ (Nat.le_of_lt l3))
      · exact zT_le (h2 g1 g2 g3) (Nat.le_refl n)
      · refine tL ((172 : Nat) : Int) 0 rfl rfl rfl ?_
        refine tD rfl ?_
        refine tFv (c := 172) (s 172 4) 0 rfl rfl rfl rfl rfl ?_
        refine tK rfl ?_
        refine tB (v := w32 ((s 172 4) + 1)) rfl rfl ?_
        refine tPut 172 rfl rfl ?_
        exact tGb rfl (fun m2 l2 => h3 g1 g2 g3 m2 (Nat.lt_of_lt_of_le l2 (Nat.le_refl n)))

theorem b_X11_nextToken_52 {n : Nat} {Q : Zr → Prop} (x1 : Int) (s : Zs) 
    (h0 : ∀ (g1 : s 172 4 ≠ s 172 3), ∀ (g2 : s 173 ((s 172 4).toNat) < 97), ∀ (g3 : s 173 ((s 172 4).toNat) < 48), zT (zE 1482) (Pt PX11_nextToken) n (322, [((172 : Nat) : Int), s 173 ((s 172 4).toNat)], [], zu (zu (zu s 172 5 (s 172 4)) 172 7 0) 172 8 0) Q)
    (h1 : ∀ (g1 : s 172 4 ≠ s 172 3), ∀ (g2 : s 173 ((s 172 4).toNat) < 97), ∀ (g3 : 48 ≤ s 173 ((s 172 4).toNat)), ∀ (g4 : 57 < s 173 ((s 172 4).toNat)), zT (zE 1482) (Pt PX11_nextToken) n (322, [((172 : Nat) : Int), s 173 ((s 172 4).toNat)], [], zu (zu (zu s 172 5 (s 172 4)) 172 7 0) 172 8 0) Q)
    (h2 : ∀ (g1 : s 172 4 ≠ s 172 3), ∀ (g2 : s 173 ((s 172 4).toNat) < 97), ∀ (g3 : 48 ≤ s 173 ((s 172 4).toNat)), ∀ (g4 : s 173 ((s 172 4).toNat) ≤ 57), zT (zE 1482) (Pt PX11_nextToken) n (224, [((172 : Nat) : Int), s 173 ((s 172 4).toNat)], [], zu (zu (zu s 172 5 (s 172 4)) 172 7 0) 172 8 0) Q)
    (h3 : ∀ (g1 : s 172 4 ≠ s 172 3), ∀ (g2 : 97 ≤ s 173 ((s 172 4).toNat)), ∀ (g5 : 122 < s 173 ((s 172 4).toNat)), ∀ (g6 : s 173 ((s 172 4).toNat) < 48), zT (zE 1482) (Pt PX11_nextToken) n (322, [((172 : Nat) : Int), s 173 ((s 172 4).toNat)], [], zu (zu (zu s 172 5 (s 172 4)) 172 7 0) 172 8 0) Q)
    (h4 : ∀ (g1 : s 172 4 ≠ s 172 3), ∀ (g2 : 97 ≤ s 173 ((s 172 4).toNat)), ∀ (g5 : 122 < s 173 ((s 172 4).toNat)), ∀ (g6 : 48 ≤ s 173 ((s 172 4).toNat)), ∀ (g7 : 57 < s 173 ((s 172 4).toNat)), zT (zE 1482) (Pt PX11_nextToken) n (322, [((172 : Nat) : Int), s 173 ((s 172 4).toNat)], [], zu (zu (zu s 172 5 (s 172 4)) 172 7 0) 172 8 0) Q)
    (h5 : ∀ (g1 : s 172 4 ≠ s 172 3), ∀ (g2 : 97 ≤ s 173 ((s 172 4).toNat)), ∀ (g5 : 122 < s 173 ((s 172 4).toNat)), ∀ (g6 : 48 ≤ s 173 ((s 172 4).toNat)), ∀ (g7 : s 173 ((s 172 4).toNat) ≤ 57), zT (zE 1482) (Pt PX11_nextToken) n (224, [((172 : Nat) : Int), s 173 ((s 172 4).toNat)], [], zu (zu (zu s 172 5 (s 172 4)) 172 7 0) 172 8 0) Q)
    (h6 : ∀ (g1 : s 172 4 ≠ s 172 3), ∀ (g2 : 97 ≤ s 173 ((s 172 4).toNat)), ∀ (g5 : s 173 ((s 172 4).toNat) ≤ 122), zT (zE 1482) (Pt PX11_nextToken) n (109, [((172 : Nat) : Int), s 173 ((s 172 4).toNat)], [], zu (zu (zu s 172 5 (s 172 4)) 172 7 0) 172 8 0) Q)
    (h7 : ∀ (g1 : s 172 4 = s 172 3), Q ([], zu (zu (zu (zu s 172 5 (s 172 4)) 172 7 0) 172 8 0) 172 6 0)) : zT (zE 1482) (Pt PX11_nextToken) n (52, [((172 : Nat) : Int), x1], [], s) Q := by
  refine tL ((172 : Nat) : Int) 0 rfl rfl rfl ?_
  refine tL ((172 : Nat) : Int) 0 rfl rfl rfl ?_
  refine tFv (c := 172) (s 172 4) 0 rfl rfl rfl rfl rfl ?_
  refine tPut 172 rfl rfl ?_
  refine tL ((172 : Nat) : Int) 0 rfl rfl rfl ?_
  refine tKL rfl ?_
  refine tPut 172 rfl rfl ?_
  refine tL ((172 : Nat) : Int) 0 rfl rfl rfl ?_
  refine tK rfl ?_
  refine tPut 172 rfl rfl ?_
  refine tL ((172 : Nat) : Int) 0 rfl rfl rfl ?_
  refine tFv (c := 172) (s 172 4) 0 rfl rfl rfl rfl rfl ?_
  refine tL ((172 : Nat) : Int) 0 rfl rfl rfl ?_
  refine tFv (c := 172) (s 172 3) 0 rfl rfl rfl rfl rfl ?_
  refine tJ1 rfl (fun g1 _ l1 => zT_le ?_ (Nat.le_of_lt l1)) (fun g1 _ l1 => zT_le ?_ (Nat.le_of_lt l1))
  · refine tL ((172 : Nat) : Int) 0 rfl rfl rfl ?_
    refine tFR (c := 172) 173 rfl rfl rfl rfl rfl ?_
    refine tL ((172 : Nat) : Int) 0 rfl rfl rfl ?_
    refine tFv (c := 172) (s 172 4) 0 rfl rfl rfl rfl rfl ?_
    refine tAv 173 ((s 172 4).toNat) (s 173 ((s 172 4).toNat)) 0 rfl rfl rfl (by decide) rfl rfl ?_
    refine tS [((172 : Nat) : Int), s 173 ((s 172 4).toNat)] rfl rfl ?_
    refine tL (s 173 ((s 172 4).toNat)) 0 rfl rfl rfl ?_
    refine tK rfl ?_
    refine tJ2 rfl (fun g2 _ l2 => zT_le ?_ (Nat.le_of_lt l2)) (fun g2 _ l2 => zT_le ?_ (Nat.le_of_lt l2))
    · refine tL (s 173 ((s 172 4).toNat)) 0 rfl rfl rfl ?_
      refine tK rfl ?_
      refine tJ2 rfl (fun g3 _ l3 => zT_le ?_ (Nat.le_of_lt l3)) (fun g3 _ l3 => zT_le ?_ (Nat.le_of_lt l3))
      · exact zT_le (h0 g1 g2 g3) (Nat.le_refl n)
      · refine tL (s 173 ((s 172 4).toNat)) 0 rfl rfl rfl ?_
        refine tK rfl ?_
        refine tJ4 rfl (fun g4 _ l4 => zT_le ?_ (Nat.le_of_lt l4)) (fun g4 _ l4 => zT_le ?_ (Nat.le_of_lt l4))
        · exact zT_le (h1 g1 g2 g3 g4) (Nat.le_refl n)
        · exact zT_le (h2 g1 g2 g3 g4) (Nat.le_refl n)
    · refine tL (s 173 ((s 172 4).toNat)) 0 rfl rfl rfl ?_
      refine tK rfl ?_
      refine tJ4 rfl (fun g5 _ l5 => zT_le ?_ (Nat.le_of_lt l5)) (fun g5 _ l5 => zT_le ?_ (Nat.le_of_lt l5))
      · refine tL (s 173 ((s 172 4).toNat)) 0 rfl rfl rfl ?_
        refine tK rfl ?_
        refine tJ2 rfl (fun g6 _ l6 => zT_le ?_ (Nat.le_of_lt l6)) (fun g6 _ l6 => zT_le ?_ (Nat.le_of_lt l6))
        · exact zT_le (h3 g1 g2 g5 g6) (Nat.le_refl n)
        · refine tL (s 173 ((s 172 4).toNat)) 0 rfl rfl rfl ?_
          refine tK rfl ?_
          refine tJ4 rfl (fun g7 _ l7 => zT_le ?_ (Nat.le_of_lt l7)) (fun g7 _ l7 => zT_le ?_ (Nat.le_of_lt l7))
          · exact zT_le (h4 g1 g2 g5 g6 g7) (Nat.le_refl n)
          · exact zT_le (h5 g1 g2 g5 g6 g7) (Nat.le_refl n)
      · exact zT_le (h6 g1 g2 g5) (Nat.le_refl n)
  · refine tL ((172 : Nat) : Int) 0 rfl rfl rfl ?_
    refine tK rfl ?_
    refine tPut 172 rfl rfl ?_
    exact tR rfl (h7 g1)

theorem b_X11_nextToken_109 {n : Nat} {Q : Zr → Prop} (x1 : Int) (s : Zs) 
    (h0 : ∀ (g2 : s 172 3 ≤ s 172 4), zT (zE 1482) (Pt PX11_nextToken) n (188, [((172 : Nat) : Int), x1], [], s) Q)
    (h1 : ∀ (g3 : s 172 4 < s 172 3), ∀ (g4 : s 173 ((s 172 4).toNat) < 97), zT (zE 1482) (Pt PX11_nextToken) n (188, [((172 : Nat) : Int), x1], [], s) Q)
    (h2 : ∀ (g3 : s 172 4 < s 172 3), ∀ (g4 : 97 ≤ s 173 ((s 172 4).toNat)), ∀ (g8 : 122 < s 173 ((s 172 4).toNat)), zT (zE 1482) (Pt PX11_nextToken) n (188, [((172 : Nat) : Int), x1], [], s) Q)
    (h3 : ∀ (g3 : s 172 4 < s 172 3), ∀ (g4 : 97 ≤ s 173 ((s 172 4).toNat)), ∀ (g8 : s 173 ((s 172 4).toNat) ≤ 122), ∀ (g9 : 8 ≤ w32 ((s 172 4) - (s 172 5))), ∀ m, m < n → zT (zE 1482) (Pt PX11_nextToken) m (109, [((172 : Nat) : Int), x1], [], zu s 172 4 (w32 ((s 172 4) + 1))) Q)
    (h4 : ∀ (g3 : s 172 4 < s 172 3), ∀ (g4 : 97 ≤ s 173 ((s 172 4).toNat)), ∀ (g8 : s 173 ((s 172 4).toNat) ≤ 122), ∀ (g9 : w32 ((s 172 4) - (s 172 5)) < 8), ∀ m, m < n → zT (zE 1482) (Pt PX11_nextToken) m (109, [((172 : Nat) : Int), x1], [], zu (zu s 172 7 (w64 ((w64 ((w64 ((s 172 7) * 27)) + (s 173 ((s 172 4).toNat)))) - 96))) 172 4 (w32 ((s 172 4) + 1))) Q) : zT (zE 1482) (Pt PX11_nextToken) n (109, [((172 : Nat) : Int), x1], [], s) Q := by
  refine tL ((172 : Nat) : Int) 0 rfl rfl rfl ?_
  refine tL ((172 : Nat) : Int) 0 rfl rfl rfl ?_
  refine tFv (c := 172) (s 172 4) 0 rfl rfl rfl rfl rfl ?_
  refine tCall [(((172 : Nat) : Int), 0), (s 172 4, 0)] [] rfl rfl rfl (fun m1 l1 => c_X11_signAt (b_X11_signAt_0 (s 172 4) s ?_ ?_))
  · intro g2
    show zT (zE 1482) (Pt PX11_nextToken) m1 (117, [((172 : Nat) : Int), x1], [(0, 0)], s) Q
    refine tK rfl ?_
    refine tJ2 rfl (fun g _ l => zT_le ?_ (Nat.le_of_lt l)) (fun g _ l => (absurd g (by decide)))
    exact zT_le (h0 g2) (Nat.le_trans (Nat.le_of_lt l1) (Nat.le_refl n))
  · intro g3
    show zT (zE 1482) (Pt PX11_nextToken) m1 (117, [((172 : Nat) : Int), x1], [(s 173 ((s 172 4).toNat), 0)], s) Q
    refine tK rfl ?_
    refine tJ2 rfl (fun g4 _ l4 => zT_le ?_ (Nat.le_of_lt l4)) (fun g4 _ l4 => zT_le ?_ (Nat.le_of_lt l4))
    · exact zT_le (h1 g3 g4) (Nat.le_trans (Nat.le_of_lt l1) (Nat.le_refl n))
    · refine tL ((172 : Nat) : Int) 0 rfl rfl rfl ?_
      refine tL ((172 : Nat) : Int) 0 rfl rfl rfl ?_
      refine tFv (c := 172) (s 172 4) 0 rfl rfl rfl rfl rfl ?_
      refine tCall [(((172 : Nat) : Int), 0), (s 172 4, 0)] [] rfl rfl rfl (fun m5 l5 => c_X11_signAt (b_X11_signAt_0 (s 172 4) s ?_ ?_))
      · exact fun (g6 : s 172 3 ≤ s 172 4)  => False.elim (by omega)
      · intro g7
        show zT (zE 1482) (Pt PX11_nextToken) m5 (130, [((172 : Nat) : Int), x1], [(s 173 ((s 172 4).toNat), 0)], s) Q
        refine tK rfl ?_
        refine tJ4 rfl (fun g8 _ l8 => zT_le ?_ (Nat.le_of_lt l8)) (fun g8 _ l8 => zT_le ?_ (Nat.le_of_lt l8))
        · exact zT_le (h2 g3 g4 g8) (Nat.le_trans (Nat.le_of_lt l5) (Nat.le_trans (Nat.le_of_lt l1) (Nat.le_refl n)))
        · refine tL ((172 : Nat) : Int) 0 rfl rfl rfl ?_
          refine tFv (c := 172) (s 172 4) 0 rfl rfl rfl rfl rfl ?_
          refine tL ((172 : Nat) : Int) 0 rfl rfl rfl ?_
          refine tFv (c := 172) (s 172 5) 0 rfl rfl rfl rfl rfl ?_
          refine tB (v := w32 ((s 172 4) - (s 172 5))) rfl rfl ?_
          refine tK rfl ?_
          refine tJ3 rfl (fun g9 _ l9 => zT_le ?_ (Nat.le_of_lt l9)) (fun g9 _ l9 => zT_le ?_ (Nat.le_of_lt l9))
          · refine tL ((172 : Nat) : Int) 0 rfl rfl rfl ?_
            refine tD rfl ?_
            refine tFv (c := 172) (s 172 4) 0 rfl rfl rfl rfl rfl ?_
            refine tK rfl ?_
            refine tB (v := w32 ((s 172 4) + 1)) rfl rfl ?_
            refine tPut 172 rfl rfl ?_
            exact tGb rfl (fun m2 l2 => h3 g3 g4 g8 g9 m2 (Nat.lt_of_lt_of_le l2 (Nat.le_trans (Nat.le_of_lt l5) (Nat.le_trans (Nat.le_of_lt l1) (Nat.le_refl n)))))
          · refine tL ((172 : Nat) : Int) 0 rfl rfl rfl ?_
            refine tL ((172 : Nat) : Int) 0 rfl rfl rfl ?_
            refine tFv (c := 172) (s 172 7) 1 rfl rfl rfl rfl rfl ?_
            refine tKL rfl ?_
            refine tBL (v := w64 ((s 172 7) * 27)) rfl rfl ?_
            refine tL ((172 : Nat) : Int) 0 rfl rfl rfl ?_
            refine tL ((172 : Nat) : Int) 0 rfl rfl rfl ?_
            refine tFv (c := 172) (s 172 4) 0 rfl rfl rfl rfl rfl ?_
            refine tCall [(((172 : Nat) : Int), 0), (s 172 4, 0)] [(w64 ((s 172 7) * 27), 1), (((172 : Nat) : Int), 0)] rfl rfl rfl (fun m10 l10 => c_X11_signAt (b_X11_signAt_0 (s 172 4) s ?_ ?_))
            · exact fun (g11 : s 172 3 ≤ s 172 4)  => False.elim (by omega)
            · intro g12
              show zT (zE 1482) (Pt PX11_nextToken) m10 (166, [((172 : Nat) : Int), x1], [(s 173 ((s 172 4).toNat), 0), (w64 ((s 172 7) * 27), 1), (((172 : Nat) : Int), 0)], s) Q
              refine tU1 rfl ?_
              refine tBL (v := w64 ((w64 ((s 172 7) * 27)) + (s 173 ((s 172 4).toNat)))) rfl rfl ?_
              refine tKL rfl ?_
              refine tBL (v := w64 ((w64 ((w64 ((s 172 7) * 27)) + (s 173 ((s 172 4).toNat)))) - 96)) rfl rfl ?_
              refine tPut 172 rfl rfl ?_
              refine tL ((172 : Nat) : Int) 0 rfl rfl rfl ?_
              refine tD rfl ?_
              refine tFv (c := 172) (s 172 4) 0 rfl rfl rfl rfl rfl ?_
              refine tK rfl ?_
              refine tB (v := w32 ((s 172 4) + 1)) rfl rfl ?_
              refine tPut 172 rfl rfl ?_
              exact tGb rfl (fun m2 l2 => h4 g3 g4 g8 g9 m2 (Nat.lt_of_lt_of_le l2 (Nat.le_trans (Nat.le_of_lt l10) (Nat.le_trans (Nat.le_of_lt l5) (Nat.le_trans (Nat.le_of_lt l1) (Nat.le_refl n))))))

theorem b_X11_nextToken_188 {n : Nat} {Q : Zr → Prop} (x1 : Int) (s : Zs) 
    (h0 : ∀ (g1 : w32 ((s 172 4) - (s 172 5)) ≤ 8), Q ([], zu s 172 6 1))
    (h1 : ∀ (g1 : 8 < w32 ((s 172 4) - (s 172 5))), Q ([], zu s 172 6 4)) : zT (zE 1482) (Pt PX11_nextToken) n (188, [((172 : Nat) : Int), x1], [], s) Q := by
  refine tL ((172 : Nat) : Int) 0 rfl rfl rfl ?_
  refine tL ((172 : Nat) : Int) 0 rfl rfl rfl ?_
  refine tFv (c := 172) (s 172 4) 0 rfl rfl rfl rfl rfl ?_
  refine tL ((172 : Nat) : Int) 0 rfl rfl rfl ?_
  refine tFv (c := 172) (s 172 5) 0 rfl rfl rfl rfl rfl ?_
  refine tB (v := w32 ((s 172 4) - (s 172 5))) rfl rfl ?_
  refine tK rfl ?_
  refine tJ5 rfl (fun g1 _ l1 => zT_le ?_ (Nat.le_of_lt l1)) (fun g1 _ l1 => zT_le ?_ (Nat.le_of_lt l1))
  · refine tK rfl ?_
    refine tPut 172 rfl rfl ?_
    exact tR rfl (h0 g1)
  · refine tK rfl ?_
    refine tG rfl ?_
    refine tPut 172 rfl rfl ?_
    exact tR rfl (h1 g1)

theorem b_X11_nextToken_224 {n : Nat} {Q : Zr → Prop} (x1 : Int) (s : Zs) 
    (h0 : ∀ (g2 : s 172 3 ≤ s 172 4), zT (zE 1482) (Pt PX11_nextToken) n (299, [((172 : Nat) : Int), x1], [], s) Q)
    (h1 : ∀ (g3 : s 172 4 < s 172 3), ∀ (g4 : s 173 ((s 172 4).toNat) < 48), zT (zE 1482) (Pt PX11_nextToken) n (299, [((172 : Nat) : Int), x1], [], s) Q)
    (h2 : ∀ (g3 : s 172 4 < s 172 3), ∀ (g4 : 48 ≤ s 173 ((s 172 4).toNat)), ∀ (g8 : 57 < s 173 ((s 172 4).toNat)), zT (zE 1482) (Pt PX11_nextToken) n (299, [((172 : Nat) : Int), x1], [], s) Q)
    (h3 : ∀ (g3 : s 172 4 < s 172 3), ∀ (g4 : 48 ≤ s 173 ((s 172 4).toNat)), ∀ (g8 : s 173 ((s 172 4).toNat) ≤ 57), ∀ (g9 : 4 ≤ w32 ((s 172 4) - (s 172 5))), ∀ m, m < n → zT (zE 1482) (Pt PX11_nextToken) m (224, [((172 : Nat) : Int), x1], [], zu s 172 4 (w32 ((s 172 4) + 1))) Q)
    (h4 : ∀ (g3 : s 172 4 < s 172 3), ∀ (g4 : 48 ≤ s 173 ((s 172 4).toNat)), ∀ (g8 : s 173 ((s 172 4).toNat) ≤ 57), ∀ (g9 : w32 ((s 172 4) - (s 172 5)) < 4), ∀ m, m < n → zT (zE 1482) (Pt PX11_nextToken) m (224, [((172 : Nat) : Int), x1], [], zu (zu s 172 8 (w32 ((w32 ((w32 ((s 172 8) * 10)) + (s 173 ((s 172 4).toNat)))) - 48))) 172 4 (w32 ((s 172 4) + 1))) Q) : zT (zE 1482) (Pt PX11_nextToken) n (224, [((172 : Nat) : Int), x1], [], s) Q := by
  refine tL ((172 : Nat) : Int) 0 rfl rfl rfl ?_
  refine tL ((172 : Nat) : Int) 0 rfl rfl rfl ?_
  refine tFv (c := 172) (s 172 4) 0 rfl rfl rfl rfl rfl ?_
  refine tCall [(((172 : Nat) : Int), 0), (s 172 4, 0)] [] rfl rfl rfl (fun m1 l1 => c_X11_signAt (b_X11_signAt_0 (s 172 4) s ?_ ?_))
  · intro g2
    show zT (zE 1482) (Pt PX11_nextToken) m1 (232, [((172 : Nat) : Int), x1], [(0, 0)], s) Q
    refine tK rfl ?_
    refine tJ2 rfl (fun g _ l => zT_le ?_ (Nat.le_of_lt l)) (fun g _ l => (absurd g (by decide)))
    exact zT_le (h0 g2) (Nat.le_trans (Nat.le_of_lt l1) (Nat.le_refl n))
  · intro g3
    show zT (zE 1482) (Pt PX11_nextToken) m1 (232, [((172 : Nat) : Int), x1], [(s 173 ((s 172 4).toNat), 0)], s) Q
    refine tK rfl ?_
    refine tJ2 rfl (fun g4 _ l4 => zT_le ?_ (Nat.le_of_lt l4)) (fun g4 _ l4 => zT_le ?_ (Nat.le_of_lt l4))
    · exact zT_le (h1 g3 g4) (Nat.le_trans (Nat.le_of_lt l1) (Nat.le_refl n))
    · refine tL ((172 : Nat) : Int) 0 rfl rfl rfl ?_
      refine tL ((172 : Nat) : Int) 0 rfl rfl rfl ?_
      refine tFv (c := 172) (s 172 4) 0 rfl rfl rfl rfl rfl ?_
      refine tCall [(((172 : Nat) : Int), 0), (s 172 4, 0)] [] rfl rfl rfl (fun m5 l5 => c_X11_signAt (b_X11_signAt_0 (s 172 4) s ?_ ?_))
      · exact fun (g6 : s 172 3 ≤ s 172 4)  => False.elim (by omega)
      · intro g7
        show zT (zE 1482) (Pt PX11_nextToken) m5 (245, [((172 : Nat) : Int), x1], [(s 173 ((s 172 4).toNat), 0)], s) Q
        refine tK rfl ?_
        refine tJ4 rfl (fun g8 _ l8 => zT_le ?_ (Nat.le_of_lt l8)) (fun g8 _ l8 => zT_le ?_ (Nat.le_of_lt l8))
        · exact zT_le (h2 g3 g4 g8) (Nat.le_trans (Nat.le_of_lt l5) (Nat.le_trans (Nat.le_of_lt l1) (Nat.le_refl n)))
        · refine tL ((172 : Nat) : Int) 0 rfl rfl rfl ?_
          refine tFv (c := 172) (s 172 4) 0 rfl rfl rfl rfl rfl ?_
          refine tL ((172 : Nat) : Int) 0 rfl rfl rfl ?_
          refine tFv (c := 172) (s 172 5) 0 rfl rfl rfl rfl rfl ?_
          refine tB (v := w32 ((s 172 4) - (s 172 5))) rfl rfl ?_
          refine tK rfl ?_
          refine tJ3 rfl (fun g9 _ l9 => zT_le ?_ (Nat.le_of_lt l9)) (fun g9 _ l9 => zT_le ?_ (Nat.le_of_lt l9))
          · refine tL ((172 : Nat) : Int) 0 rfl rfl rfl ?_
            refine tD rfl ?_
            refine tFv (c := 172) (s 172 4) 0 rfl rfl rfl rfl rfl ?_
            refine tK rfl ?_
            refine tB (v := w32 ((s 172 4) + 1)) rfl rfl ?_
            refine tPut 172 rfl rfl ?_
            exact tGb rfl (fun m2 l2 => h3 g3 g4 g8 g9 m2 (Nat.lt_of_lt_of_le l2 (Nat.le_trans (Nat.le_of_lt l5) (Nat.le_trans (Nat.le_of_lt l1) (Nat.le_refl n)))))
          · refine tL ((172 : Nat) : Int) 0 rfl rfl rfl ?_
            refine tL ((172 : Nat) : Int) 0 rfl rfl rfl ?_
            refine tFv (c := 172) (s 172 8) 0 rfl rfl rfl rfl rfl ?_
            refine tK rfl ?_
            refine tM (v := w32 ((s 172 8) * 10)) rfl rfl ?_
            refine tL ((172 : Nat) : Int) 0 rfl rfl rfl ?_
            refine tL ((172 : Nat) : Int) 0 rfl rfl rfl ?_
            refine tFv (c := 172) (s 172 4) 0 rfl rfl rfl rfl rfl ?_
            refine tCall [(((172 : Nat) : Int), 0), (s 172 4, 0)] [(w32 ((s 172 8) * 10), 0), (((172 : Nat) : Int), 0)] rfl rfl rfl (fun m10 l10 => c_X11_signAt (b_X11_signAt_0 (s 172 4) s ?_ ?_))
            · exact fun (g11 : s 172 3 ≤ s 172 4)  => False.elim (by omega)
            · intro g12
              show zT (zE 1482) (Pt PX11_nextToken) m10 (279, [((172 : Nat) : Int), x1], [(s 173 ((s 172 4).toNat), 0), (w32 ((s 172 8) * 10), 0), (((172 : Nat) : Int), 0)], s) Q
              refine tB (v := w32 ((w32 ((s 172 8) * 10)) + (s 173 ((s 172 4).toNat)))) rfl rfl ?_
              refine tK rfl ?_
              refine tB (v := w32 ((w32 ((w32 ((s 172 8) * 10)) + (s 173 ((s 172 4).toNat)))) - 48)) rfl rfl ?_
              refine tPut 172 rfl rfl ?_
              refine tL ((172 : Nat) : Int) 0 rfl rfl rfl ?_
              refine tD rfl ?_
              refine tFv (c := 172) (s 172 4) 0 rfl rfl rfl rfl rfl ?_
              refine tK rfl ?_
              refine tB (v := w32 ((s 172 4) + 1)) rfl rfl ?_
              refine tPut 172 rfl rfl ?_
              exact tGb rfl (fun m2 l2 => h4 g3 g4 g8 g9 m2 (Nat.lt_of_lt_of_le l2 (Nat.le_trans (Nat.le_of_lt l10) (Nat.le_trans (Nat.le_of_lt l5) (Nat.le_trans (Nat.le_of_lt l1) (Nat.le_refl n))))))

theorem b_X11_nextToken_299 {n : Nat} {Q : Zr → Prop} (x1 : Int) (s : Zs) 
    (h0 : ∀ (g1 : w32 ((s 172 4) - (s 172 5)) ≤ 4), Q ([], zu s 172 6 2))
    (h1 : ∀ (g1 : 4 < w32 ((s 172 4) - (s 172 5))), Q ([], zu s 172 6 4)) : zT (zE 1482) (Pt PX11_nextToken) n (299, [((172 : Nat) : Int), x1], [], s) Q := by
  refine tL ((172 : Nat) : Int) 0 rfl rfl rfl ?_
  refine tL ((172 : Nat) : Int) 0 rfl rfl rfl ?_
  refine tFv (c := 172) (s 172 4) 0 rfl rfl rfl rfl rfl ?_
  refine tL ((172 : Nat) : Int) 0 rfl rfl rfl ?_
  refine tFv (c := 172) (s 172 5) 0 rfl rfl rfl rfl rfl ?_
  refine tB (v := w32 ((s 172 4) - (s 172 5))) rfl rfl ?_
  refine tK rfl ?_
  refine tJ5 rfl (fun g1 _ l1 => zT_le ?_ (Nat.le_of_lt l1)) (fun g1 _ l1 => zT_le ?_ (Nat.le_of_lt l1))
  · refine tK rfl ?_
    refine tPut 172 rfl rfl ?_
    exact tR rfl (h0 g1)
  · refine tK rfl ?_
    refine tG rfl ?_
    refine tPut 172 rfl rfl ?_
    exact tR rfl (h1 g1)

theorem b_X11_nextToken_322 {n : Nat} {Q : Zr → Prop} (x1 : Int) (s : Zs) 
    (h0 : ∀ (g1 : x1 < 40), ∀ (g2 : x1 = 45), Q ([], zu (zu s 172 4 (w32 ((s 172 4) + 1))) 172 6 3))
    (h1 : ∀ (g1 : x1 < 40), ∀ (g2 : x1 ≠ 45), ∀ (g3 : x1 < 59), Q ([], zu (zu s 172 4 (w32 ((s 172 4) + 1))) 172 6 4))
    (h2 : ∀ (g1 : x1 < 40), ∀ (g2 : x1 ≠ 45), ∀ (g3 : 59 ≤ x1), ∀ (g4 : 61 < x1), Q ([], zu (zu s 172 4 (w32 ((s 172 4) + 1))) 172 6 4))
    (h3 : ∀ (g1 : x1 < 40), ∀ (g2 : x1 ≠ 45), ∀ (g3 : 59 ≤ x1), ∀ (g4 : x1 ≤ 61), Q ([], zu (zu s 172 4 (w32 ((s 172 4) + 1))) 172 6 3))
    (h4 : ∀ (g1 : 40 ≤ x1), ∀ (g5 : x1 ≤ 43), Q ([], zu (zu s 172 4 (w32 ((s 172 4) + 1))) 172 6 3))
    (h5 : ∀ (g1 : 40 ≤ x1), ∀ (g5 : 43 < x1), ∀ (g6 : x1 = 45), Q ([], zu (zu s 172 4 (w32 ((s 172 4) + 1))) 172 6 3))
    (h6 : ∀ (g1 : 40 ≤ x1), ∀ (g5 : 43 < x1), ∀ (g6 : x1 ≠ 45), ∀ (g7 : x1 < 59), Q ([], zu (zu s 172 4 (w32 ((s 172 4) + 1))) 172 6 4))
    (h7 : ∀ (g1 : 40 ≤ x1), ∀ (g5 : 43 < x1), ∀ (g6 : x1 ≠ 45), ∀ (g7 : 59 ≤ x1), ∀ (g8 : 61 < x1), Q ([], zu (zu s 172 4 (w32 ((s 172 4) + 1))) 172 6 4))
    (h8 : ∀ (g1 : 40 ≤ x1), ∀ (g5 : 43 < x1), ∀ (g6 : x1 ≠ 45), ∀ (g7 : 59 ≤ x1), ∀ (g8 : x1 ≤ 61), Q ([], zu (zu s 172 4 (w32 ((s 172 4) + 1))) 172 6 3)) : zT (zE 1482) (Pt PX11_nextToken) n (322, [((172 : Nat) : Int), x1], [], s) Q := by
  refine tL ((172 : Nat) : Int) 0 rfl rfl rfl ?_
  refine tD rfl ?_
  refine tFv (c := 172) (s 172 4) 0 rfl rfl rfl rfl rfl ?_
  refine tK rfl ?_
  refine tB (v := w32 ((s 172 4) + 1)) rfl rfl ?_
  refine tPut 172 rfl rfl ?_
  refine tL ((172 : Nat) : Int) 0 rfl rfl rfl ?_
  refine tL x1 0 rfl rfl rfl ?_
  refine tK rfl ?_
  refine tJ2 rfl (fun g1 _ l1 => zT_le ?_ (Nat.le_of_lt l1)) (fun g1 _ l1 => zT_le ?_ (Nat.le_of_lt l1))
  · refine tL x1 0 rfl rfl rfl ?_
    refine tK rfl ?_
    refine tJ0 rfl (fun g2 _ l2 => zT_le ?_ (Nat.le_of_lt l2)) (fun g2 _ l2 => zT_le ?_ (Nat.le_of_lt l2))
    · refine tK rfl ?_
      refine tG rfl ?_
      refine tPut 172 rfl rfl ?_
      exact tR rfl (h0 g1 g2)
    · refine tL x1 0 rfl rfl rfl ?_
      refine tK rfl ?_
      refine tJ2 rfl (fun g3 _ l3 => zT_le ?_ (Nat.le_of_lt l3)) (fun g3 _ l3 => zT_le ?_ (Nat.le_of_lt l3))
      · refine tK rfl ?_
        refine tPut 172 rfl rfl ?_
        exact tR rfl (h1 g1 g2 g3)
      · refine tL x1 0 rfl rfl rfl ?_
        refine tK rfl ?_
        refine tJ4 rfl (fun g4 _ l4 => zT_le ?_ (Nat.le_of_lt l4)) (fun g4 _ l4 => zT_le ?_ (Nat.le_of_lt l4))
        · refine tK rfl ?_
          refine tPut 172 rfl rfl ?_
          exact tR rfl (h2 g1 g2 g3 g4)
        · refine tK rfl ?_
          refine tG rfl ?_
          refine tPut 172 rfl rfl ?_
          exact tR rfl (h3 g1 g2 g3 g4)
  · refine tL x1 0 rfl rfl rfl ?_
    refine tK rfl ?_
    refine tJ5 rfl (fun g5 _ l5 => zT_le ?_ (Nat.le_of_lt l5)) (fun g5 _ l5 => zT_le ?_ (Nat.le_of_lt l5))
    · refine tK rfl ?_
      refine tG rfl ?_
      refine tPut 172 rfl rfl ?_
      exact tR rfl (h4 g1 g5)
    · refine tL x1 0 rfl rfl rfl ?_
      refine tK rfl ?_
      refine tJ0 rfl (fun g6 _ l6 => zT_le ?_ (Nat.le_of_lt l6)) (fun g6 _ l6 => zT_le ?_ (Nat.le_of_lt l6))
      · refine tK rfl ?_
        refine tG rfl ?_
        refine tPut 172 rfl rfl ?_
        exact tR rfl (h5 g1 g5 g6)
      · refine tL x1 0 rfl rfl rfl ?_
        refine tK rfl ?_
        refine tJ2 rfl (fun g7 _ l7 => zT_le ?_ (Nat.le_of_lt l7)) (fun g7 _ l7 => zT_le ?_ (Nat.le_of_lt l7))
        · refine tK rfl ?_
          refine tPut 172 rfl rfl ?_
          exact tR rfl (h6 g1 g5 g6 g7)
        · refine tL x1 0 rfl rfl rfl ?_
          refine tK rfl ?_
          refine tJ4 rfl (fun g8 _ l8 => zT_le ?_ (Nat.le_of_lt l8)) (fun g8 _ l8 => zT_le ?_ (Nat.le_of_lt l8))
          · refine tK rfl ?_
            refine tPut 172 rfl rfl ?_
            exact tR rfl (h7 g1 g5 g6 g7 g8)
          · refine tK rfl ?_
            refine tG rfl ?_
            refine tPut 172 rfl rfl ?_
            exact tR rfl (h8 g1 g5 g6 g7 g8)

theorem c_X11_nextToken {n : Nat} {Q : Zr → Prop} {a0 : Int} {s : Zs} (h : zT (zE 1482) (Pt PX11_nextToken) n (0, [a0, 0], [], s) Q) : zC n 1482 [(a0, 0)] s Q := h

def mtS (s : Zs) (T : Nat → Int) (n : Nat) : Prop := s 172 3 = (n : Int) ∧ n ≤ 1000 ∧ ∀ i, i < n → s 173 i = T i
def mQ (q : Int) : Int := if q = 1 then 0 else if q = 2 then 1 else if q = 3 then 2 else if q = 4 then 3 else 4
def mtK (s : Zs) (T : Nat → Int) (n b : Nat) : Prop := s 172 5 = (b : Int) ∧ s 172 4 = (eE T n b : Int) ∧ s 172 6 = mQ (eQ T n b) ∧ (eQ T n b = 2 → s 172 7 = enc 27 (eW T n b)) ∧ (eQ T n b = 3 → s 172 8 = eM T n b)
def frM (s s' : Zs) : Prop := ∀ c j, ¬ (c = 172 ∧ 4 ≤ j ∧ j ≤ 8) → s' c j = s c j
theorem frM_rf (s : Zs) : frM s s := fun _ _ _ => rfl
theorem frM_tr {s s' s'' : Zs} (h1 : frM s s') (h2 : frM s' s'') : frM s s'' := fun c j h => (h2 c j h).trans (h1 c j h)
theorem frM_u {s s' : Zs} {j : Nat} {v : Int} (h : frM s s') (hj : 4 ≤ j ∧ j ≤ 8) : frM s (zu s' 172 j v) := fun c i hc => by
  rw [zu_n (fun e => hc ⟨e.1, by omega⟩)]
  exact h c i hc
theorem mtS_fr {s s' : Zs} {T : Nat → Int} {n : Nat} (t : mtS s T n) (f : frM s s') : mtS s' T n := by
  obtain ⟨h1, h2, h3⟩ := t
  exact ⟨by rw [f 172 3 (by omega)]; exact h1, h2, fun i hi => by rw [f 173 i (by omega)]; exact h3 i hi⟩
def qMt (s : Zs) (T : Nat → Int) (n b : Nat) (p : Zr) : Prop := p.1 = [] ∧ frM s p.2 ∧ mtK p.2 T n b
theorem enc_len27 : ∀ (l : List Int), okW l → enc 27 l < 27 ^ l.length
  | [], _ => by decide
  | x :: l, h => by
    have h1 := enc_len27 l (fun y hy => h y (List.mem_cons_of_mem _ hy))
    have h2 := h x List.mem_cons_self
    have e : enc 27 (x :: l) = enc 27 l * 27 + x := rfl
    rw [e, List.length_cons, Int.pow_succ]
    omega
theorem mt_word {T : Nat → Int} {n b : Nat} {s0 : Zs} (t0 : mtS s0 T n) (hb : b < n) (hL : zLt (T b) = true) (N : Nat) : ∀ (e : Nat) (s : Zs) (x1 : Int), frM s0 s → s 172 5 = (b : Int) → s 172 4 = (e : Int) → b ≤ e → e ≤ n → ze zLt T n b = ze zLt T n e → (∀ i, b ≤ i → i < e → zLt (T i) = true) → (e ≤ b + 8 → s 172 7 = enc 27 (wds T b (e - b))) → zT (zE 1482) (Pt PX11_nextToken) N (109, [((172 : Nat) : Int), x1], [], s) (qMt s0 T n b) := by
  induction N using Nat.strongRecOn with
  | ind N ih =>
    intro e s x1 hf h5 h6 hbe hen hze hall h9
    have t := mtS_fr t0 hf
    obtain ⟨t1, t2, t3⟩ := t
    have hT : e < n → s 173 (s 172 4).toNat = T e := fun h => by
      rw [h6, Int.toNat_natCast]
      exact t3 e h
    have hsub : w32 (s 172 4 - s 172 5) = (e : Int) - (b : Int) := by rw [h5, h6]; exact w32_id (by omega) (by omega)
    have fin : ¬ (e < n ∧ zLt (T e) = true) → ∀ m, m ≤ N → zT (zE 1482) (Pt PX11_nextToken) m (188, [((172 : Nat) : Int), x1], [], s) (qMt s0 T n b) := fun h m _ => by
      have he : ze zLt T n b = e := by rw [hze]; exact ze_no h
      have hE : eE T n b = e := by unfold eE; rw [if_neg (by omega), hL, if_pos rfl, he]
      have hQ : eQ T n b = if e ≤ b + 8 then 2 else 0 := by unfold eQ; rw [if_neg (by omega), hL, if_pos rfl, he]
      refine b_X11_nextToken_188 x1 s (fun g1 => ?_) (fun g1 => ?_)
      all_goals refine ⟨rfl, frM_u hf (by omega), h5, by rw [hE]; exact h6, ?_, fun hq => ?_, fun hq => ?_⟩
      · rw [hQ, if_pos (by omega)]; rfl
      · unfold eW
        rw [he]
        exact h9 (by omega)
      · rw [hQ, if_pos (by omega)] at hq; cases hq
      · rw [hQ, if_neg (by omega)]; rfl
      · rw [hQ, if_neg (by omega)] at hq; cases hq
      · rw [hQ, if_neg (by omega)] at hq; cases hq
    have lf : ∀ {x : Int}, x < 97 → ¬ zLt x = true := fun h q => by have := zLt_t.mp q; omega
    have lf2 : ∀ {x : Int}, 122 < x → ¬ zLt x = true := fun h q => by have := zLt_t.mp q; omega
    have nxt : ∀ m, m < N → e < n → zLt (T e) = true → ∀ s' : Zs, frM s0 s' → s' 172 5 = (b : Int) → s' 172 4 = w32 (s 172 4 + 1) → (e + 1 ≤ b + 8 → s' 172 7 = enc 27 (wds T b (e + 1 - b))) → zT (zE 1482) (Pt PX11_nextToken) m (109, [((172 : Nat) : Int), x1], [], s') (qMt s0 T n b) := fun m hm hlt hd s' f' q5 q4 q7 => by
      refine ih m hm (e + 1) s' x1 f' q5 ?_ (by omega) (by omega) (by rw [hze]; exact ze_go hlt hd) (fun i h1 h2 => ?_) q7
      · rw [q4, h6, w32_id (by omega) (by omega)]
        omega
      · by_cases hi : i = e
        · rw [hi]; exact hd
        · exact hall i h1 (by omega)
    refine b_X11_nextToken_109 x1 s (fun g2 => ?_) (fun g3 g4 => ?_) (fun g3 g4 g8 => ?_) (fun g3 g4 g8 g9 m hm => ?_) (fun g3 g4 g8 g9 m hm => ?_)
    · exact fin (by omega) _ (Nat.le_refl _)
    · rw [hT (by omega)] at g4
      exact fin (fun h => lf g4 h.2) _ (Nat.le_refl _)
    · rw [hT (by omega)] at g8
      exact fin (fun h => lf2 g8 h.2) _ (Nat.le_refl _)
    · have hlt : e < n := by omega
      rw [hT hlt] at g4 g8
      exact nxt m hm hlt (zLt_t.mpr ⟨g4, g8⟩) _ (frM_u hf (by omega)) h5 rfl (fun h8 => by omega)
    · have hlt : e < n := by omega
      rw [hT hlt] at g4 g8
      have hd : zLt (T e) = true := zLt_t.mpr ⟨g4, g8⟩
      refine nxt m hm hlt hd _ (frM_u (frM_u hf (by omega)) (by omega)) h5 rfl (fun h8 => ?_)
      show w64 (w64 (w64 (s 172 7 * 27) + s 173 (s 172 4).toNat) - 96) = _
      rw [hT hlt, h9 (by omega), show e + 1 - b = (e - b) + 1 from by omega]
      have hok := okW_wds (T := T) (b := b) (e - b) (fun i hi => hall (b + i) (by omega) (by omega))
      have h0 := (enc_pos (B := 27) (by omega) _ hok).1
      have h1 := enc_len27 _ hok
      rw [wds_len] at h1
      have hp : (27 : Int) ^ (e - b) ≤ 27 ^ 7 := pw_le (by omega) (by omega)
      have hp2 : (27 : Int) ^ 7 = 10460353203 := by decide
      rw [w64_id (z := enc 27 (wds T b (e - b)) * 27) (by omega) (by omega), w64_id (z := enc 27 (wds T b (e - b)) * 27 + T e) (by omega) (by omega), w64_id (by omega) (by omega)]
      show _ = enc 27 (wds T b (e - b)) * 27 + (T (b + (e - b)) - 96)
      rw [show b + (e - b) = e from by omega]
      omega
theorem mt_num {T : Nat → Int} {n b : Nat} {s0 : Zs} (t0 : mtS s0 T n) (hb : b < n) (hL : zLt (T b) = false) (hD : zDg (T b) = true) (N : Nat) : ∀ (e : Nat) (s : Zs) (x1 : Int), frM s0 s → s 172 5 = (b : Int) → s 172 4 = (e : Int) → b ≤ e → e ≤ n → ze zDg T n b = ze zDg T n e → (∀ i, b ≤ i → i < e → zDg (T i) = true) → (e ≤ b + 4 → s 172 8 = nbs T b (e - b)) → zT (zE 1482) (Pt PX11_nextToken) N (224, [((172 : Nat) : Int), x1], [], s) (qMt s0 T n b) := by
  induction N using Nat.strongRecOn with
  | ind N ih =>
    intro e s x1 hf h5 h6 hbe hen hze hall h9
    have t := mtS_fr t0 hf
    obtain ⟨t1, t2, t3⟩ := t
    have hT : e < n → s 173 (s 172 4).toNat = T e := fun h => by
      rw [h6, Int.toNat_natCast]
      exact t3 e h
    have hsub : w32 (s 172 4 - s 172 5) = (e : Int) - (b : Int) := by rw [h5, h6]; exact w32_id (by omega) (by omega)
    have fin : ¬ (e < n ∧ zDg (T e) = true) → ∀ m, m ≤ N → zT (zE 1482) (Pt PX11_nextToken) m (299, [((172 : Nat) : Int), x1], [], s) (qMt s0 T n b) := fun h m _ => by
      have he : ze zDg T n b = e := by rw [hze]; exact ze_no h
      have hE : eE T n b = e := by unfold eE; rw [if_neg (by omega), hL, hD, if_neg (by decide), if_pos rfl, he]
      have hQ : eQ T n b = if e ≤ b + 4 then 3 else 0 := by unfold eQ; rw [if_neg (by omega), hL, hD, if_neg (by decide), if_pos rfl, he]
      refine b_X11_nextToken_299 x1 s (fun g1 => ?_) (fun g1 => ?_)
      all_goals refine ⟨rfl, frM_u hf (by omega), h5, by rw [hE]; exact h6, ?_, fun hq => ?_, fun hq => ?_⟩
      · rw [hQ, if_pos (by omega)]; rfl
      · rw [hQ, if_pos (by omega)] at hq; cases hq
      · unfold eM
        rw [he]
        exact h9 (by omega)
      · rw [hQ, if_neg (by omega)]; rfl
      · rw [hQ, if_neg (by omega)] at hq; cases hq
      · rw [hQ, if_neg (by omega)] at hq; cases hq
    have lf : ∀ {x : Int}, x < 48 → ¬ zDg x = true := fun h q => by have := zDg_t.mp q; omega
    have lf2 : ∀ {x : Int}, 57 < x → ¬ zDg x = true := fun h q => by have := zDg_t.mp q; omega
    have nxt : ∀ m, m < N → e < n → zDg (T e) = true → ∀ s' : Zs, frM s0 s' → s' 172 5 = (b : Int) → s' 172 4 = w32 (s 172 4 + 1) → (e + 1 ≤ b + 4 → s' 172 8 = nbs T b (e + 1 - b)) → zT (zE 1482) (Pt PX11_nextToken) m (224, [((172 : Nat) : Int), x1], [], s') (qMt s0 T n b) := fun m hm hlt hd s' f' q5 q4 q7 => by
      refine ih m hm (e + 1) s' x1 f' q5 ?_ (by omega) (by omega) (by rw [hze]; exact ze_go hlt hd) (fun i h1 h2 => ?_) q7
      · rw [q4, h6, w32_id (by omega) (by omega)]
        omega
      · by_cases hi : i = e
        · rw [hi]; exact hd
        · exact hall i h1 (by omega)
    refine b_X11_nextToken_224 x1 s (fun g2 => ?_) (fun g3 g4 => ?_) (fun g3 g4 g8 => ?_) (fun g3 g4 g8 g9 m hm => ?_) (fun g3 g4 g8 g9 m hm => ?_)
    · exact fin (by omega) _ (Nat.le_refl _)
    · rw [hT (by omega)] at g4
      exact fin (fun h => lf g4 h.2) _ (Nat.le_refl _)
    · rw [hT (by omega)] at g8
      exact fin (fun h => lf2 g8 h.2) _ (Nat.le_refl _)
    · have hlt : e < n := by omega
      rw [hT hlt] at g4 g8
      exact nxt m hm hlt (zDg_t.mpr ⟨g4, g8⟩) _ (frM_u hf (by omega)) h5 rfl (fun h8 => by omega)
    · have hlt : e < n := by omega
      rw [hT hlt] at g4 g8
      have hd : zDg (T e) = true := zDg_t.mpr ⟨g4, g8⟩
      refine nxt m hm hlt hd _ (frM_u (frM_u hf (by omega)) (by omega)) h5 rfl (fun h8 => ?_)
      show w32 (w32 (w32 (s 172 8 * 10) + s 173 (s 172 4).toNat) - 48) = _
      rw [hT hlt, h9 (by omega), show e + 1 - b = (e - b) + 1 from by omega]
      have hb := nbs_bd (T := T) (b := b) (e - b) (fun i hi => hall (b + i) (by omega) (by omega))
      have hb2 := hb.2 (by omega)
      have hp : (10 : Int) ^ (e - b) ≤ 10 ^ 3 := pw_le (by omega) (by omega)
      have hp2 : (10 : Int) ^ 3 = 1000 := by decide
      rw [w32_id (z := nbs T b (e - b) * 10) (by omega) (by omega), w32_id (z := nbs T b (e - b) * 10 + T e) (by omega) (by omega), w32_id (by omega) (by omega)]
      show _ = nbs T b (e - b) * 10 + T (b + (e - b)) - 48
      rw [show b + (e - b) = e from by omega]

theorem sgM {x : Int} : zSg x = true ↔ (40 ≤ x ∧ x ≤ 43) ∨ x = 45 ∨ (59 ≤ x ∧ x ≤ 61) := by
  unfold zSg
  simp only [Bool.or_eq_true, decide_eq_true_eq]
  omega
theorem mt_sign {T : Nat → Int} {n b : Nat} {s0 s : Zs} {N : Nat} (hn : n ≤ 1000) (hb : b < n) (hL : zLt (T b) = false) (hD : zDg (T b) = false) (hf : frM s0 s) (h5 : s 172 5 = (b : Int)) (h4 : s 172 4 = (b : Int)) : zT (zE 1482) (Pt PX11_nextToken) N (322, [((172 : Nat) : Int), T b], [], s) (qMt s0 T n b) := by
  have hw : w32 (s 172 4 + 1) = ((b + 1 : Nat) : Int) := by rw [h4, w32_id (by omega) (by omega)]; omega
  have fin : ∀ kd : Int, kd = (if zSg (T b) = true then 3 else 4) → qMt s0 T n b ([], zu (zu s 172 4 (w32 (s 172 4 + 1))) 172 6 kd) := fun kd hk => by
    have hE : eE T n b = b + 1 := by unfold eE; rw [if_neg (by omega), hL, hD, if_neg (by decide), if_neg (by decide)]
    have hQ : eQ T n b = if zSg (T b) = true then 4 else 0 := by unfold eQ; rw [if_neg (by omega), hL, hD, if_neg (by decide), if_neg (by decide)]
    refine ⟨rfl, frM_u (frM_u hf (by omega)) (by omega), h5, by rw [hE]; exact hw, ?_, fun hq => ?_, fun hq => ?_⟩
    · show kd = _
      rw [hQ, hk]
      split <;> rfl
    · rw [hQ] at hq; split at hq <;> cases hq
    · rw [hQ] at hq; split at hq <;> cases hq
  refine b_X11_nextToken_322 (T b) s (fun g1 g2 => ?_) (fun g1 g2 g3 => ?_) (fun g1 g2 g3 g4 => ?_) (fun g1 g2 g3 g4 => ?_) (fun g1 g5 => ?_) (fun g1 g5 g6 => ?_) (fun g1 g5 g6 g7 => ?_) (fun g1 g5 g6 g7 g8 => ?_) (fun g1 g5 g6 g7 g8 => ?_)
  · exact fin 3 (by rw [if_pos (sgM.mpr (by omega))])
  · exact fin 4 (by rw [if_neg (fun q => by have := sgM.mp q; omega)])
  · exact fin 4 (by rw [if_neg (fun q => by have := sgM.mp q; omega)])
  · exact fin 3 (by rw [if_pos (sgM.mpr (by omega))])
  · exact fin 3 (by rw [if_pos (sgM.mpr (by omega))])
  · exact fin 3 (by rw [if_pos (sgM.mpr (by omega))])
  · exact fin 4 (by rw [if_neg (fun q => by have := sgM.mp q; omega)])
  · exact fin 4 (by rw [if_neg (fun q => by have := sgM.mp q; omega)])
  · exact fin 3 (by rw [if_pos (sgM.mpr (by omega))])
theorem mt_loop {T : Nat → Int} {n p : Nat} {s0 : Zs} (t0 : mtS s0 T n) (N : Nat) : ∀ (e : Nat) (s : Zs) (x1 : Int), frM s0 s → s 172 4 = (e : Int) → e ≤ n → ze zBl T n e = kB T n p → zT (zE 1482) (Pt PX11_nextToken) N (0, [((172 : Nat) : Int), x1], [], s) (qMt s0 T n (kB T n p)) := by
  induction N using Nat.strongRecOn with
  | ind N ih =>
    intro e s x1 hf h4 hen hze
    have t := mtS_fr t0 hf
    have t' := t
    obtain ⟨t1, t2, t3⟩ := t
    have hT : e < n → s 173 (s 172 4).toNat = T e := fun h => by
      rw [h4, Int.toNat_natCast]
      exact t3 e h
    have back : ∀ m, m < N → e < n → zBl (T e) = true → zT (zE 1482) (Pt PX11_nextToken) m (0, [((172 : Nat) : Int), x1], [], zu s 172 4 (w32 (s 172 4 + 1))) (qMt s0 T n (kB T n p)) := fun m hm hlt hb => by
      refine ih m hm (e + 1) _ x1 (frM_u hf (by omega)) ?_ (by omega) (by rw [← hze]; exact (ze_go hlt hb).symm)
      show w32 (s 172 4 + 1) = _
      rw [h4, w32_id (by omega) (by omega)]
      omega
    have go : ¬ (e < n ∧ zBl (T e) = true) → zT (zE 1482) (Pt PX11_nextToken) N (52, [((172 : Nat) : Int), x1], [], s) (qMt s0 T n (kB T n p)) := fun h => by
      have he : kB T n p = e := by rw [← hze]; exact ze_no h
      rw [he]
      have f3 : frM s0 (zu (zu (zu s 172 5 (s 172 4)) 172 7 0) 172 8 0) := frM_u (frM_u (frM_u hf (by omega)) (by omega)) (by omega)
      refine b_X11_nextToken_52 x1 s (fun g1 g2 g3 => ?_) (fun g1 g2 g3 g4 => ?_) (fun g1 g2 g3 g4 => ?_) (fun g1 g2 g5 g6 => ?_) (fun g1 g2 g5 g6 g7 => ?_) (fun g1 g2 g5 g6 g7 => ?_) (fun g1 g2 g5 => ?_) (fun g1 => ?_)
      · have hlt : e < n := by omega
        rw [hT hlt] at g2 g3 ⊢
        exact mt_sign t2 hlt (Bool.eq_false_iff.mpr (fun q => by have := zLt_t.mp q; omega)) (Bool.eq_false_iff.mpr (fun q => by have := zDg_t.mp q; omega)) f3 h4 h4
      · have hlt : e < n := by omega
        rw [hT hlt] at g2 g3 g4 ⊢
        exact mt_sign t2 hlt (Bool.eq_false_iff.mpr (fun q => by have := zLt_t.mp q; omega)) (Bool.eq_false_iff.mpr (fun q => by have := zDg_t.mp q; omega)) f3 h4 h4
      · have hlt : e < n := by omega
        rw [hT hlt] at g2 g3 g4 ⊢
        exact mt_num t0 hlt (Bool.eq_false_iff.mpr (fun q => by have := zLt_t.mp q; omega)) (zDg_t.mpr (by omega)) N e _ _ f3 h4 h4 (Nat.le_refl e) hen rfl (fun i h1 h2 => by omega) (fun _ => by rw [Nat.sub_self]; rfl)
      · have hlt : e < n := by omega
        rw [hT hlt] at g2 g5 g6 ⊢
        exact mt_sign t2 hlt (Bool.eq_false_iff.mpr (fun q => by have := zLt_t.mp q; omega)) (Bool.eq_false_iff.mpr (fun q => by have := zDg_t.mp q; omega)) f3 h4 h4
      · have hlt : e < n := by omega
        rw [hT hlt] at g2 g5 g6 g7 ⊢
        exact mt_sign t2 hlt (Bool.eq_false_iff.mpr (fun q => by have := zLt_t.mp q; omega)) (Bool.eq_false_iff.mpr (fun q => by have := zDg_t.mp q; omega)) f3 h4 h4
      · have hlt : e < n := by omega
        rw [hT hlt] at g2 g5 g6 g7 ⊢
        exact mt_num t0 hlt (Bool.eq_false_iff.mpr (fun q => by have := zLt_t.mp q; omega)) (zDg_t.mpr (by omega)) N e _ _ f3 h4 h4 (Nat.le_refl e) hen rfl (fun i h1 h2 => by omega) (fun _ => by rw [Nat.sub_self]; rfl)
      · have hlt : e < n := by omega
        rw [hT hlt] at g2 g5 ⊢
        exact mt_word t0 hlt (zLt_t.mpr (by omega)) N e _ _ f3 h4 h4 (Nat.le_refl e) hen rfl (fun i h1 h2 => by omega) (fun _ => by rw [Nat.sub_self]; rfl)
      · have hq : eQ T n e = 1 := by unfold eQ; rw [if_pos (by omega)]
        refine ⟨rfl, frM_u f3 (by omega), h4, ?_, by rw [hq]; rfl, fun h => absurd (hq.symm.trans h) (by decide), fun h => absurd (hq.symm.trans h) (by decide)⟩
        unfold eE
        rw [if_pos (by omega)]
        exact h4
    refine b_X11_nextToken_0 x1 s (fun g1 => ?_) (fun g1 g2 m hm => ?_) (fun g1 g2 g3 => ?_) (fun g1 g2 g3 m hm => ?_)
    · exact go (by omega)
    · have hlt : e < n := by omega
      rw [hT hlt] at g2
      exact back m hm hlt (zBl_t.mpr (Or.inr g2))
    · have hlt : e < n := by omega
      rw [hT hlt] at g2 g3
      exact go (fun h => by rcases zBl_t.mp h.2 with h | h <;> omega)
    · have hlt : e < n := by omega
      rw [hT hlt] at g3
      exact back m hm hlt (zBl_t.mpr (Or.inl g3))
theorem nextToken_ok {N : Nat} {s : Zs} {T : Nat → Int} {n p : Nat} (t : mtS s T n) (h4 : s 172 4 = (p : Int)) (hp : p ≤ n) : zC N 1482 [(((172 : Nat) : Int), 0)] s (qMt s T n (kB T n p)) :=
  c_X11_nextToken (mt_loop t N p s 0 (frM_rf s) h4 hp rfl)
