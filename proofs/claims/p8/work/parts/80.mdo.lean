/-! what a state does: the model -/
theorem b_X11_between_0 {n : Nat} {Q : Zr → Prop} (x0 x1 x2 : Int) (s : Zs) 
    (h0 : ∀ (g1 : x1 ≤ x0), ∀ (g2 : x0 ≤ x2), Q ([(x0, 0)], s))
    (h1 : ∀ (g1 : x1 ≤ x0), ∀ (g2 : x2 < x0), Q ([(x2, 0)], s))
    (h2 : ∀ (g1 : x0 < x1), Q ([(x1, 0)], s)) : zT (zE 1413) (Pt PX11_between) n (0, [x0, x1, x2], [], s) Q := by
  refine tL x0 0 rfl rfl rfl ?_
  refine tL x1 0 rfl rfl rfl ?_
  refine tJ3 rfl (fun g1 _ l1 => zT_le ?_ (Nat.le_of_lt l1)) (fun g1 _ l1 => zT_le ?_ (Nat.le_of_lt l1))
  · refine tL x0 0 rfl rfl rfl ?_
    refine tL x2 0 rfl rfl rfl ?_
    refine tJ5 rfl (fun g2 _ l2 => zT_le ?_ (Nat.le_of_lt l2)) (fun g2 _ l2 => zT_le ?_ (Nat.le_of_lt l2))
    · refine tL x0 0 rfl rfl rfl ?_
      exact tR rfl (h0 g1 g2)
    · refine tL x2 0 rfl rfl rfl ?_
      refine tG rfl ?_
      exact tR rfl (h1 g1 g2)
  · refine tL x1 0 rfl rfl rfl ?_
    refine tG rfl ?_
    exact tR rfl (h2 g1)

theorem c_X11_between {n : Nat} {Q : Zr → Prop} {a0 a1 a2 : Int} {s : Zs} (h : zT (zE 1413) (Pt PX11_between) n (0, [a0, a1, a2], [], s) Q) : zC n 1413 [(a0, 0), (a1, 0), (a2, 0)] s Q := h

theorem b_X11_copies_0 {n : Nat} {Q : Zr → Prop} {f e : Nat} (x1 x3 x4 : Int) (s : Zs) 
    (h0 : zT (zE 1426) (Pt PX11_copies) n (3, [((f : Nat) : Int), x1, ((e : Nat) : Int), x3, 0], [], s) Q) : zT (zE 1426) (Pt PX11_copies) n (0, [((f : Nat) : Int), x1, ((e : Nat) : Int), x3, x4], [], s) Q := by
  refine tK rfl ?_
  refine tS [((f : Nat) : Int), x1, ((e : Nat) : Int), x3, 0] rfl rfl ?_
  exact zT_le (h0) (Nat.le_refl n)

theorem b_X11_copies_3 {n : Nat} {Q : Zr → Prop} {f e : Nat} (x1 x3 x4 : Int) (s : Zs) 
    (h0 : ∀ (g1 : 13 ≤ x4), Q ([], s))
    (h1 : ∀ (g1 : x4 < 13), ∀ m, m < n → zT (zE 1426) (Pt PX11_copies) m (3, [((f : Nat) : Int), x1, ((e : Nat) : Int), x3, w32 (x4 + 1)], [], zu s e ((w32 (x3 + x4)).toNat) (s f ((w32 (x1 + x4)).toNat))) Q) : zT (zE 1426) (Pt PX11_copies) n (3, [((f : Nat) : Int), x1, ((e : Nat) : Int), x3, x4], [], s) Q := by
  refine tL x4 0 rfl rfl rfl ?_
  refine tK rfl ?_
  refine tJ3 rfl (fun g1 _ l1 => zT_le ?_ (Nat.le_of_lt l1)) (fun g1 _ l1 => zT_le ?_ (Nat.le_of_lt l1))
  · exact tR rfl (h0 g1)
  · refine tL ((e : Nat) : Int) 0 rfl rfl rfl ?_
    refine tL x3 0 rfl rfl rfl ?_
    refine tL x4 0 rfl rfl rfl ?_
    refine tB (v := w32 (x3 + x4)) rfl rfl ?_
    refine tL ((f : Nat) : Int) 0 rfl rfl rfl ?_
    refine tL x1 0 rfl rfl rfl ?_
    refine tL x4 0 rfl rfl rfl ?_
    refine tB (v := w32 (x1 + x4)) rfl rfl ?_
    refine tAv f ((w32 (x1 + x4)).toNat) (s f ((w32 (x1 + x4)).toNat)) 0 rfl rfl rfl (by decide) rfl rfl ?_
    refine tAS e ((w32 (x3 + x4)).toNat) rfl rfl rfl (by decide) ?_
    refine tInc [((f : Nat) : Int), x1, ((e : Nat) : Int), x3, w32 (x4 + 1)] rfl rfl ?_
    exact tGb rfl (fun m2 l2 => h1 g1 m2 (Nat.lt_of_lt_of_le l2 (Nat.le_refl n)))

theorem c_X11_copies {n : Nat} {Q : Zr → Prop} {a0 a1 a2 a3 : Int} {s : Zs} (h : zT (zE 1426) (Pt PX11_copies) n (0, [a0, a1, a2, a3, 0], [], s) Q) : zC n 1426 [(a0, 0), (a1, 0), (a2, 0), (a3, 0)] s Q := h

theorem b_X11_opens_0 {n : Nat} {Q : Zr → Prop} (x1 : Int) (s : Zs) 
    (h0 : Q ([], zu (zu (zu (zu (zu s 198 x1.toNat 0) 200 x1.toNat 0) 201 x1.toNat 0) 202 x1.toNat 20) 204 x1.toNat 0)) : zT (zE 1485) (Pt PX11_opens) n (0, [((172 : Nat) : Int), x1], [], s) Q := by
  refine tL ((172 : Nat) : Int) 0 rfl rfl rfl ?_
  refine tFR (c := 172) 198 rfl rfl rfl rfl rfl ?_
  refine tL x1 0 rfl rfl rfl ?_
  refine tK rfl ?_
  refine tAS 198 x1.toNat rfl rfl rfl (by decide) ?_
  refine tL ((172 : Nat) : Int) 0 rfl rfl rfl ?_
  refine tFR (c := 172) 200 rfl rfl rfl rfl rfl ?_
  refine tL x1 0 rfl rfl rfl ?_
  refine tK rfl ?_
  refine tAS 200 x1.toNat rfl rfl rfl (by decide) ?_
  refine tL ((172 : Nat) : Int) 0 rfl rfl rfl ?_
  refine tFR (c := 172) 201 rfl rfl rfl rfl rfl ?_
  refine tL x1 0 rfl rfl rfl ?_
  refine tK rfl ?_
  refine tAS 201 x1.toNat rfl rfl rfl (by decide) ?_
  refine tL ((172 : Nat) : Int) 0 rfl rfl rfl ?_
  refine tFR (c := 172) 202 rfl rfl rfl rfl rfl ?_
  refine tL x1 0 rfl rfl rfl ?_
  refine tK rfl ?_
  refine tAS 202 x1.toNat rfl rfl rfl (by decide) ?_
  refine tL ((172 : Nat) : Int) 0 rfl rfl rfl ?_
  refine tFR (c := 172) 204 rfl rfl rfl rfl rfl ?_
  refine tL x1 0 rfl rfl rfl ?_
  refine tK rfl ?_
  refine tAS 204 x1.toNat rfl rfl rfl (by decide) ?_
  exact tR rfl (h0)

theorem c_X11_opens {n : Nat} {Q : Zr → Prop} {a0 a1 : Int} {s : Zs} (h : zT (zE 1485) (Pt PX11_opens) n (0, [a0, a1], [], s) Q) : zC n 1485 [(a0, 0), (a1, 0)] s Q := h

theorem b_X11_sums_0 {n : Nat} {Q : Zr → Prop} (x1 : Int) (s : Zs) 
    (h0 : ∀ (g1 : s 202 x1.toNat ≠ 21), Q ([], zu (zu s 201 x1.toNat (w32 ((s 201 x1.toNat) + (s 203 x1.toNat)))) 204 x1.toNat 0))
    (h1 : ∀ (g1 : s 202 x1.toNat = 21), Q ([], zu (zu s 201 x1.toNat (w32 ((s 201 x1.toNat) - (s 203 x1.toNat)))) 204 x1.toNat 0)) : zT (zE 1516) (Pt PX11_sums) n (0, [((172 : Nat) : Int), x1], [], s) Q := by
  refine tL ((172 : Nat) : Int) 0 rfl rfl rfl ?_
  refine tFR (c := 172) 201 rfl rfl rfl rfl rfl ?_
  refine tL x1 0 rfl rfl rfl ?_
  refine tL ((172 : Nat) : Int) 0 rfl rfl rfl ?_
  refine tFR (c := 172) 202 rfl rfl rfl rfl rfl ?_
  refine tL x1 0 rfl rfl rfl ?_
  refine tAv 202 x1.toNat (s 202 x1.toNat) 0 rfl rfl rfl (by decide) rfl rfl ?_
  refine tK rfl ?_
  refine tJ1 rfl (fun g1 _ l1 => zT_le ?_ (Nat.le_of_lt l1)) (fun g1 _ l1 => zT_le ?_ (Nat.le_of_lt l1))
  · refine tL ((172 : Nat) : Int) 0 rfl rfl rfl ?_
    refine tFR (c := 172) 201 rfl rfl rfl rfl rfl ?_
    refine tL x1 0 rfl rfl rfl ?_
    refine tAv 201 x1.toNat (s 201 x1.toNat) 0 rfl rfl rfl (by decide) rfl rfl ?_
    refine tL ((172 : Nat) : Int) 0 rfl rfl rfl ?_
    refine tFR (c := 172) 203 rfl rfl rfl rfl rfl ?_
    refine tL x1 0 rfl rfl rfl ?_
    refine tAv 203 x1.toNat (s 203 x1.toNat) 0 rfl rfl rfl (by decide) rfl rfl ?_
    refine tB (v := w32 ((s 201 x1.toNat) + (s 203 x1.toNat))) rfl rfl ?_
    refine tAS 201 x1.toNat rfl rfl rfl (by decide) ?_
    refine tL ((172 : Nat) : Int) 0 rfl rfl rfl ?_
    refine tFR (c := 172) 204 rfl rfl rfl rfl rfl ?_
    refine tL x1 0 rfl rfl rfl ?_
    refine tK rfl ?_
    refine tAS 204 x1.toNat rfl rfl rfl (by decide) ?_
    exact tR rfl (h0 g1)
  · refine tL ((172 : Nat) : Int) 0 rfl rfl rfl ?_
    refine tFR (c := 172) 201 rfl rfl rfl rfl rfl ?_
    refine tL x1 0 rfl rfl rfl ?_
    refine tAv 201 x1.toNat (s 201 x1.toNat) 0 rfl rfl rfl (by decide) rfl rfl ?_
    refine tL ((172 : Nat) : Int) 0 rfl rfl rfl ?_
    refine tFR (c := 172) 203 rfl rfl rfl rfl rfl ?_
    refine tL x1 0 rfl rfl rfl ?_
    refine tAv 203 x1.toNat (s 203 x1.toNat) 0 rfl rfl rfl (by decide) rfl rfl ?_
    refine tB (v := w32 ((s 201 x1.toNat) - (s 203 x1.toNat))) rfl rfl ?_
    refine tG rfl ?_
    refine tAS 201 x1.toNat rfl rfl rfl (by decide) ?_
    refine tL ((172 : Nat) : Int) 0 rfl rfl rfl ?_
    refine tFR (c := 172) 204 rfl rfl rfl rfl rfl ?_
    refine tL x1 0 rfl rfl rfl ?_
    refine tK rfl ?_
    refine tAS 204 x1.toNat rfl rfl rfl (by decide) ?_
    exact tR rfl (h1 g1)

theorem c_X11_sums {n : Nat} {Q : Zr → Prop} {a0 a1 : Int} {s : Zs} (h : zT (zE 1516) (Pt PX11_sums) n (0, [a0, a1], [], s) Q) : zC n 1516 [(a0, 0), (a1, 0)] s Q := h

theorem b_X11_tests_0 {n : Nat} {Q : Zr → Prop} (x1 x2 : Int) (s : Zs) 
    (h0 : ∀ m, m < n → zC m 1516 [(((172 : Nat) : Int), 0), (x1, 0)] s (fun p => zT (zE 1517) (Pt PX11_tests) m (5, [((172 : Nat) : Int), x1, x2], p.1 ++ [], p.2) Q)) : zT (zE 1517) (Pt PX11_tests) n (0, [((172 : Nat) : Int), x1, x2], [], s) Q := by
  refine tL ((172 : Nat) : Int) 0 rfl rfl rfl ?_
  refine tL x1 0 rfl rfl rfl ?_
  exact tCall [(((172 : Nat) : Int), 0), (x1, 0)] [] rfl rfl rfl (fun m l => h0 m (Nat.lt_of_lt_of_le l (Nat.le_refl n)))

theorem b_X11_tests_5 {n : Nat} {Q : Zr → Prop} (x1 x2 : Int) (s : Zs) 
    (h0 : ∀ (g1 : s 200 x1.toNat ≠ 24), ∀ (g2 : s 200 x1.toNat ≠ 25), ∀ (g3 : s 198 x1.toNat ≠ 26), ∀ (g4 : s 198 x1.toNat ≠ 27), Q ([], zu (zu (zu (zu s 197 x1.toNat (s 201 x1.toNat)) 200 x1.toNat 0) 201 x1.toNat 0) 202 x1.toNat 20))
    (h1 : ∀ (g1 : s 200 x1.toNat ≠ 24), ∀ (g2 : s 200 x1.toNat ≠ 25), ∀ (g3 : s 198 x1.toNat ≠ 26), ∀ (g4 : s 198 x1.toNat = 27), ∀ (g5 : s 197 x1.toNat ≠ 0), Q ([], zu (zu (zu (zu s 197 x1.toNat 1) 200 x1.toNat 0) 201 x1.toNat 0) 202 x1.toNat 20))
    (h2 : ∀ (g1 : s 200 x1.toNat ≠ 24), ∀ (g2 : s 200 x1.toNat ≠ 25), ∀ (g3 : s 198 x1.toNat ≠ 26), ∀ (g4 : s 198 x1.toNat = 27), ∀ (g5 : s 197 x1.toNat = 0), ∀ (g6 : s 201 x1.toNat = 0), Q ([], zu (zu (zu (zu s 197 x1.toNat 0) 200 x1.toNat 0) 201 x1.toNat 0) 202 x1.toNat 20))
    (h3 : ∀ (g1 : s 200 x1.toNat ≠ 24), ∀ (g2 : s 200 x1.toNat ≠ 25), ∀ (g3 : s 198 x1.toNat ≠ 26), ∀ (g4 : s 198 x1.toNat = 27), ∀ (g5 : s 197 x1.toNat = 0), ∀ (g6 : s 201 x1.toNat ≠ 0), Q ([], zu (zu (zu (zu s 197 x1.toNat 1) 200 x1.toNat 0) 201 x1.toNat 0) 202 x1.toNat 20))
    (h4 : ∀ (g1 : s 200 x1.toNat ≠ 24), ∀ (g2 : s 200 x1.toNat ≠ 25), ∀ (g3 : s 198 x1.toNat = 26), ∀ (g7 : s 197 x1.toNat = 0), Q ([], zu (zu (zu (zu s 197 x1.toNat 0) 200 x1.toNat 0) 201 x1.toNat 0) 202 x1.toNat 20))
    (h5 : ∀ (g1 : s 200 x1.toNat ≠ 24), ∀ (g2 : s 200 x1.toNat ≠ 25), ∀ (g3 : s 198 x1.toNat = 26), ∀ (g7 : s 197 x1.toNat ≠ 0), ∀ (g8 : s 201 x1.toNat = 0), Q ([], zu (zu (zu (zu s 197 x1.toNat 0) 200 x1.toNat 0) 201 x1.toNat 0) 202 x1.toNat 20))
    (h6 : ∀ (g1 : s 200 x1.toNat ≠ 24), ∀ (g2 : s 200 x1.toNat ≠ 25), ∀ (g3 : s 198 x1.toNat = 26), ∀ (g7 : s 197 x1.toNat ≠ 0), ∀ (g8 : s 201 x1.toNat ≠ 0), Q ([], zu (zu (zu (zu s 197 x1.toNat 1) 200 x1.toNat 0) 201 x1.toNat 0) 202 x1.toNat 20))
    (h7 : ∀ (g1 : s 200 x1.toNat ≠ 24), ∀ (g2 : s 200 x1.toNat = 25), ∀ (g9 : s 199 x1.toNat ≠ s 201 x1.toNat), ∀ (g10 : s 198 x1.toNat ≠ 26), ∀ (g11 : s 198 x1.toNat ≠ 27), Q ([], zu (zu (zu (zu s 197 x1.toNat 0) 200 x1.toNat 0) 201 x1.toNat 0) 202 x1.toNat 20))
    (h8 : ∀ (g1 : s 200 x1.toNat ≠ 24), ∀ (g2 : s 200 x1.toNat = 25), ∀ (g9 : s 199 x1.toNat ≠ s 201 x1.toNat), ∀ (g10 : s 198 x1.toNat ≠ 26), ∀ (g11 : s 198 x1.toNat = 27), ∀ (g12 : s 197 x1.toNat ≠ 0), Q ([], zu (zu (zu (zu s 197 x1.toNat 1) 200 x1.toNat 0) 201 x1.toNat 0) 202 x1.toNat 20))
    (h9 : ∀ (g1 : s 200 x1.toNat ≠ 24), ∀ (g2 : s 200 x1.toNat = 25), ∀ (g9 : s 199 x1.toNat ≠ s 201 x1.toNat), ∀ (g10 : s 198 x1.toNat ≠ 26), ∀ (g11 : s 198 x1.toNat = 27), ∀ (g12 : s 197 x1.toNat = 0), Q ([], zu (zu (zu (zu s 197 x1.toNat 0) 200 x1.toNat 0) 201 x1.toNat 0) 202 x1.toNat 20))
    (h10 : ∀ (g1 : s 200 x1.toNat ≠ 24), ∀ (g2 : s 200 x1.toNat = 25), ∀ (g9 : s 199 x1.toNat ≠ s 201 x1.toNat), ∀ (g10 : s 198 x1.toNat = 26), ∀ (g13 : s 197 x1.toNat = 0), Q ([], zu (zu (zu (zu s 197 x1.toNat 0) 200 x1.toNat 0) 201 x1.toNat 0) 202 x1.toNat 20))
    (h11 : ∀ (g1 : s 200 x1.toNat ≠ 24), ∀ (g2 : s 200 x1.toNat = 25), ∀ (g9 : s 199 x1.toNat ≠ s 201 x1.toNat), ∀ (g10 : s 198 x1.toNat = 26), ∀ (g13 : s 197 x1.toNat ≠ 0), Q ([], zu (zu (zu (zu s 197 x1.toNat 0) 200 x1.toNat 0) 201 x1.toNat 0) 202 x1.toNat 20))
    (h12 : ∀ (g1 : s 200 x1.toNat ≠ 24), ∀ (g2 : s 200 x1.toNat = 25), ∀ (g9 : s 199 x1.toNat = s 201 x1.toNat), ∀ (g14 : s 198 x1.toNat ≠ 26), ∀ (g15 : s 198 x1.toNat ≠ 27), Q ([], zu (zu (zu (zu s 197 x1.toNat 1) 200 x1.toNat 0) 201 x1.toNat 0) 202 x1.toNat 20))
    (h13 : ∀ (g1 : s 200 x1.toNat ≠ 24), ∀ (g2 : s 200 x1.toNat = 25), ∀ (g9 : s 199 x1.toNat = s 201 x1.toNat), ∀ (g14 : s 198 x1.toNat ≠ 26), ∀ (g15 : s 198 x1.toNat = 27), ∀ (g16 : s 197 x1.toNat ≠ 0), Q ([], zu (zu (zu (zu s 197 x1.toNat 1) 200 x1.toNat 0) 201 x1.toNat 0) 202 x1.toNat 20))
    (h14 : ∀ (g1 : s 200 x1.toNat ≠ 24), ∀ (g2 : s 200 x1.toNat = 25), ∀ (g9 : s 199 x1.toNat = s 201 x1.toNat), ∀ (g14 : s 198 x1.toNat ≠ 26), ∀ (g15 : s 198 x1.toNat = 27), ∀ (g16 : s 197 x1.toNat = 0), Q ([], zu (zu (zu (zu s 197 x1.toNat 1) 200 x1.toNat 0) 201 x1.toNat 0) 202 x1.toNat 20))
    (h15 : ∀ (g1 : s 200 x1.toNat ≠ 24), ∀ (g2 : s 200 x1.toNat = 25), ∀ (g9 : s 199 x1.toNat = s 201 x1.toNat), ∀ (g14 : s 198 x1.toNat = 26), ∀ (g17 : s 197 x1.toNat = 0), Q ([], zu (zu (zu (zu s 197 x1.toNat 0) 200 x1.toNat 0) 201 x1.toNat 0) 202 x1.toNat 20))
    (h16 : ∀ (g1 : s 200 x1.toNat ≠ 24), ∀ (g2 : s 200 x1.toNat = 25), ∀ (g9 : s 199 x1.toNat = s 201 x1.toNat), ∀ (g14 : s 198 x1.toNat = 26), ∀ (g17 : s 197 x1.toNat ≠ 0), Q ([], zu (zu (zu (zu s 197 x1.toNat 1) 200 x1.toNat 0) 201 x1.toNat 0) 202 x1.toNat 20))
    (h17 : ∀ (g1 : s 200 x1.toNat = 24), ∀ (g18 : s 201 x1.toNat ≤ s 199 x1.toNat), ∀ (g19 : s 198 x1.toNat ≠ 26), ∀ (g20 : s 198 x1.toNat ≠ 27), Q ([], zu (zu (zu (zu s 197 x1.toNat 0) 200 x1.toNat 0) 201 x1.toNat 0) 202 x1.toNat 20))
    (h18 : ∀ (g1 : s 200 x1.toNat = 24), ∀ (g18 : s 201 x1.toNat ≤ s 199 x1.toNat), ∀ (g19 : s 198 x1.toNat ≠ 26), ∀ (g20 : s 198 x1.toNat = 27), ∀ (g21 : s 197 x1.toNat ≠ 0), Q ([], zu (zu (zu (zu s 197 x1.toNat 1) 200 x1.toNat 0) 201 x1.toNat 0) 202 x1.toNat 20))
    (h19 : ∀ (g1 : s 200 x1.toNat = 24), ∀ (g18 : s 201 x1.toNat ≤ s 199 x1.toNat), ∀ (g19 : s 198 x1.toNat ≠ 26), ∀ (g20 : s 198 x1.toNat = 27), ∀ (g21 : s 197 x1.toNat = 0), Q ([], zu (zu (zu (zu s 197 x1.toNat 0) 200 x1.toNat 0) 201 x1.toNat 0) 202 x1.toNat 20))
    (h20 : ∀ (g1 : s 200 x1.toNat = 24), ∀ (g18 : s 201 x1.toNat ≤ s 199 x1.toNat), ∀ (g19 : s 198 x1.toNat = 26), ∀ (g22 : s 197 x1.toNat = 0), Q ([], zu (zu (zu (zu s 197 x1.toNat 0) 200 x1.toNat 0) 201 x1.toNat 0) 202 x1.toNat 20))
    (h21 : ∀ (g1 : s 200 x1.toNat = 24), ∀ (g18 : s 201 x1.toNat ≤ s 199 x1.toNat), ∀ (g19 : s 198 x1.toNat = 26), ∀ (g22 : s 197 x1.toNat ≠ 0), Q ([], zu (zu (zu (zu s 197 x1.toNat 0) 200 x1.toNat 0) 201 x1.toNat 0) 202 x1.toNat 20))
    (h22 : ∀ (g1 : s 200 x1.toNat = 24), ∀ (g18 : s 199 x1.toNat < s 201 x1.toNat), ∀ (g23 : s 198 x1.toNat ≠ 26), ∀ (g24 : s 198 x1.toNat ≠ 27), Q ([], zu (zu (zu (zu s 197 x1.toNat 1) 200 x1.toNat 0) 201 x1.toNat 0) 202 x1.toNat 20))
    (h23 : ∀ (g1 : s 200 x1.toNat = 24), ∀ (g18 : s 199 x1.toNat < s 201 x1.toNat), ∀ (g23 : s 198 x1.toNat ≠ 26), ∀ (g24 : s 198 x1.toNat = 27), ∀ (g25 : s 197 x1.toNat ≠ 0), Q ([], zu (zu (zu (zu s 197 x1.toNat 1) 200 x1.toNat 0) 201 x1.toNat 0) 202 x1.toNat 20))
    (h24 : ∀ (g1 : s 200 x1.toNat = 24), ∀ (g18 : s 199 x1.toNat < s 201 x1.toNat), ∀ (g23 : s 198 x1.toNat ≠ 26), ∀ (g24 : s 198 x1.toNat = 27), ∀ (g25 : s 197 x1.toNat = 0), Q ([], zu (zu (zu (zu s 197 x1.toNat 1) 200 x1.toNat 0) 201 x1.toNat 0) 202 x1.toNat 20))
    (h25 : ∀ (g1 : s 200 x1.toNat = 24), ∀ (g18 : s 199 x1.toNat < s 201 x1.toNat), ∀ (g23 : s 198 x1.toNat = 26), ∀ (g26 : s 197 x1.toNat = 0), Q ([], zu (zu (zu (zu s 197 x1.toNat 0) 200 x1.toNat 0) 201 x1.toNat 0) 202 x1.toNat 20))
    (h26 : ∀ (g1 : s 200 x1.toNat = 24), ∀ (g18 : s 199 x1.toNat < s 201 x1.toNat), ∀ (g23 : s 198 x1.toNat = 26), ∀ (g26 : s 197 x1.toNat ≠ 0), Q ([], zu (zu (zu (zu s 197 x1.toNat 1) 200 x1.toNat 0) 201 x1.toNat 0) 202 x1.toNat 20)) : zT (zE 1517) (Pt PX11_tests) n (5, [((172 : Nat) : Int), x1, x2], [], s) Q := by
  refine tL ((172 : Nat) : Int) 0 rfl rfl rfl ?_
  refine tFR (c := 172) 201 rfl rfl rfl rfl rfl ?_
  refine tL x1 0 rfl rfl rfl ?_
  refine tAv 201 x1.toNat (s 201 x1.toNat) 0 rfl rfl rfl (by decide) rfl rfl ?_
  refine tS [((172 : Nat) : Int), x1, s 201 x1.toNat] rfl rfl ?_
  refine tL ((172 : Nat) : Int) 0 rfl rfl rfl ?_
  refine tFR (c := 172) 200 rfl rfl rfl rfl rfl ?_
  refine tL x1 0 rfl rfl rfl ?_
  refine tAv 200 x1.toNat (s 200 x1.toNat) 0 rfl rfl rfl (by decide) rfl rfl ?_
  refine tK rfl ?_
  refine tJ1 rfl (fun g1 _ l1 => zT_le ?_ (Nat.le_of_lt l1)) (fun g1 _ l1 => zT_le ?_ (Nat.le_of_lt l1))
  · refine tL ((172 : Nat) : Int) 0 rfl rfl rfl ?_
    refine tFR (c := 172) 200 rfl rfl rfl rfl rfl ?_
    refine tL x1 0 rfl rfl rfl ?_
    refine tAv 200 x1.toNat (s 200 x1.toNat) 0 rfl rfl rfl (by decide) rfl rfl ?_
    refine tK rfl ?_
    refine tJ1 rfl (fun g2 _ l2 => zT_le ?_ (Nat.le_of_lt l2)) (fun g2 _ l2 => zT_le ?_ (Nat.le_of_lt l2))
    · refine tL ((172 : Nat) : Int) 0 rfl rfl rfl ?_
      refine tFR (c := 172) 198 rfl rfl rfl rfl rfl ?_
      refine tL x1 0 rfl rfl rfl ?_
      refine tAv 198 x1.toNat (s 198 x1.toNat) 0 rfl rfl rfl (by decide) rfl rfl ?_
      refine tK rfl ?_
      refine tJ1 rfl (fun g3 _ l3 => zT_le ?_ (Nat.le_of_lt l3)) (fun g3 _ l3 => zT_le ?_ (Nat.le_of_lt l3))
      · refine tL ((172 : Nat) : Int) 0 rfl rfl rfl ?_
        refine tFR (c := 172) 198 rfl rfl rfl rfl rfl ?_
        refine tL x1 0 rfl rfl rfl ?_
        refine tAv 198 x1.toNat (s 198 x1.toNat) 0 rfl rfl rfl (by decide) rfl rfl ?_
        refine tK rfl ?_
        refine tJ1 rfl (fun g4 _ l4 => zT_le ?_ (Nat.le_of_lt l4)) (fun g4 _ l4 => zT_le ?_ (Nat.le_of_lt l4))
        · refine tL ((172 : Nat) : Int) 0 rfl rfl rfl ?_
          refine tFR (c := 172) 197 rfl rfl rfl rfl rfl ?_
          refine tL x1 0 rfl rfl rfl ?_
          refine tL (s 201 x1.toNat) 0 rfl rfl rfl ?_
          refine tAS 197 x1.toNat rfl rfl rfl (by decide) ?_
          refine tL ((172 : Nat) : Int) 0 rfl rfl rfl ?_
          refine tFR (c := 172) 200 rfl rfl rfl rfl rfl ?_
          refine tL x1 0 rfl rfl rfl ?_
          refine tK rfl ?_
          refine tAS 200 x1.toNat rfl rfl rfl (by decide) ?_
          refine tL ((172 : Nat) : Int) 0 rfl rfl rfl ?_
          refine tFR (c := 172) 201 rfl rfl rfl rfl rfl ?_
          refine tL x1 0 rfl rfl rfl ?_
          refine tK rfl ?_
          refine tAS 201 x1.toNat rfl rfl rfl (by decide) ?_
          refine tL ((172 : Nat) : Int) 0 rfl rfl rfl ?_
          refine tFR (c := 172) 202 rfl rfl rfl rfl rfl ?_
          refine tL x1 0 rfl rfl rfl ?_
          refine tK rfl ?_
          refine tAS 202 x1.toNat rfl rfl rfl (by decide) ?_
          exact tR rfl (h0 g1 g2 g3 g4)
        · refine tL ((172 : Nat) : Int) 0 rfl rfl rfl ?_
          refine tFR (c := 172) 197 rfl rfl rfl rfl rfl ?_
          refine tL x1 0 rfl rfl rfl ?_
          refine tAv 197 x1.toNat (s 197 x1.toNat) 0 rfl rfl rfl (by decide) rfl rfl ?_
          refine tI1 rfl (fun g5 _ l5 => zT_le ?_ (Nat.le_of_lt l5)) (fun g5 _ l5 => zT_le ?_ (Nat.le_of_lt l5))
          · refine tK rfl ?_
            refine tG rfl ?_
            refine tS [((172 : Nat) : Int), x1, 1] rfl rfl ?_
            refine tL ((172 : Nat) : Int) 0 rfl rfl rfl ?_
            refine tFR (c := 172) 197 rfl rfl rfl rfl rfl ?_
            refine tL x1 0 rfl rfl rfl ?_
            refine tL 1 0 rfl rfl rfl ?_
            refine tAS 197 x1.toNat rfl rfl rfl (by decide) ?_
            refine tL ((172 : Nat) : Int) 0 rfl rfl rfl ?_
            refine tFR (c := 172) 200 rfl rfl rfl rfl rfl ?_
            refine tL x1 0 rfl rfl rfl ?_
            refine tK rfl ?_
            refine tAS 200 x1.toNat rfl rfl rfl (by decide) ?_
            refine tL ((172 : Nat) : Int) 0 rfl rfl rfl ?_
            refine tFR (c := 172) 201 rfl rfl rfl rfl rfl ?_
            refine tL x1 0 rfl rfl rfl ?_
            refine tK rfl ?_
            refine tAS 201 x1.toNat rfl rfl rfl (by decide) ?_
            refine tL ((172 : Nat) : Int) 0 rfl rfl rfl ?_
            refine tFR (c := 172) 202 rfl rfl rfl rfl rfl ?_
            refine tL x1 0 rfl rfl rfl ?_
            refine tK rfl ?_
            refine tAS 202 x1.toNat rfl rfl rfl (by decide) ?_
            exact tR rfl (h1 g1 g2 g3 g4 g5)
          · refine tL (s 201 x1.toNat) 0 rfl rfl rfl ?_
            refine tI0 rfl (fun g6 _ l6 => zT_le ?_ (Nat.le_of_lt l6)) (fun g6 _ l6 => zT_le ?_ (Nat.le_of_lt l6))
            · refine tK rfl ?_
              refine tS [((172 : Nat) : Int), x1, 0] rfl rfl ?_
              refine tL ((172 : Nat) : Int) 0 rfl rfl rfl ?_
              refine tFR (c := 172) 197 rfl rfl rfl rfl rfl ?_
              refine tL x1 0 rfl rfl rfl ?_
              refine tL 0 0 rfl rfl rfl ?_
              refine tAS 197 x1.toNat rfl rfl rfl (by decide) ?_
              refine tL ((172 : Nat) : Int) 0 rfl rfl rfl ?_
              refine tFR (c := 172) 200 rfl rfl rfl rfl rfl ?_
              refine tL x1 0 rfl rfl rfl ?_
              refine tK rfl ?_
              refine tAS 200 x1.toNat rfl rfl rfl (by decide) ?_
              refine tL ((172 : Nat) : Int) 0 rfl rfl rfl ?_
              refine tFR (c := 172) 201 rfl rfl rfl rfl rfl ?_
              refine tL x1 0 rfl rfl rfl ?_
              refine tK rfl ?_
              refine tAS 201 x1.toNat rfl rfl rfl (by decide) ?_
              refine tL ((172 : Nat) : Int) 0 rfl rfl rfl ?_
              refine tFR (c := 172) 202 rfl rfl rfl rfl rfl ?_
              refine tL x1 0 rfl rfl rfl ?_
              refine tK rfl ?_
              refine tAS 202 x1.toNat rfl rfl rfl (by decide) ?_
              exact tR rfl (h2 g1 g2 g3 g4 g5 g6)
            · refine tK rfl ?_
              refine tG rfl ?_
              refine tS [((172 : Nat) : Int), x1, 1] rfl rfl ?_
              refine tL ((172 : Nat) : Int) 0 rfl rfl rfl ?_
              refine tFR (c := 172) 197 rfl rfl rfl rfl rfl ?_
              refine tL x1 0 rfl rfl rfl ?_
              refine tL 1 0 rfl rfl rfl ?_
              refine tAS 197 x1.toNat rfl rfl rfl (by decide) ?_
              refine tL ((172 : Nat) : Int) 0 rfl rfl rfl ?_
              refine tFR (c := 172) 200 rfl rfl rfl rfl rfl ?_
              refine tL x1 0 rfl rfl rfl ?_
              refine tK rfl ?_
              refine tAS 200 x1.toNat rfl rfl rfl (by decide) ?_
              refine tL ((172 : Nat) : Int) 0 rfl rfl rfl ?_
              refine tFR (c := 172) 201 rfl rfl rfl rfl rfl ?_
              refine tL x1 0 rfl rfl rfl ?_
              refine tK rfl ?_
              refine tAS 201 x1.toNat rfl rfl rfl (by decide) ?_
              refine tL ((172 : Nat) : Int) 0 rfl rfl rfl ?_
              refine tFR (c := 172) 202 rfl rfl rfl rfl rfl ?_
              refine tL x1 0 rfl rfl rfl ?_
              refine tK rfl ?_
              refine tAS 202 x1.toNat rfl rfl rfl (by decide) ?_
              exact tR rfl (h3 g1 g2 g3 g4 g5 g6)
      · refine tL ((172 : Nat) : Int) 0 rfl rfl rfl ?_
        refine tFR (c := 172) 197 rfl rfl rfl rfl rfl ?_
        refine tL x1 0 rfl rfl rfl ?_
        refine tAv 197 x1.toNat (s 197 x1.toNat) 0 rfl rfl rfl (by decide) rfl rfl ?_
        refine tI0 rfl (fun g7 _ l7 => zT_le ?_ (Nat.le_of_lt l7)) (fun g7 _ l7 => zT_le ?_ (Nat.le_of_lt l7))
        · refine tK rfl ?_
          refine tS [((172 : Nat) : Int), x1, 0] rfl rfl ?_
          refine tL ((172 : Nat) : Int) 0 rfl rfl rfl ?_
          refine tFR (c := 172) 198 rfl rfl rfl rfl rfl ?_
          refine tL x1 0 rfl rfl rfl ?_
          refine tAv 198 x1.toNat (s 198 x1.toNat) 0 rfl rfl rfl (by decide) rfl rfl ?_
          refine tK rfl ?_
          refine tJ1 rfl (fun g _ l => zT_le ?_ (Nat.le_of_lt l)) (fun g _ l => False.elim (by omega))
          refine tL ((172 : Nat) : Int) 0 rfl rfl rfl ?_
          refine tFR (c := 172) 197 rfl rfl rfl rfl rfl ?_
          refine tL x1 0 rfl rfl rfl ?_
          refine tL 0 0 rfl rfl rfl ?_
          refine tAS 197 x1.toNat rfl rfl rfl (by decide) ?_
          refine tL ((172 : Nat) : Int) 0 rfl rfl rfl ?_
          refine tFR (c := 172) 200 rfl rfl rfl rfl rfl ?_
          refine tL x1 0 rfl rfl rfl ?_
          refine tK rfl ?_
          refine tAS 200 x1.toNat rfl rfl rfl (by decide) ?_
          refine tL ((172 : Nat) : Int) 0 rfl rfl rfl ?_
          refine tFR (c := 172) 201 rfl rfl rfl rfl rfl ?_
          refine tL x1 0 rfl rfl rfl ?_
          refine tK rfl ?_
          refine tAS 201 x1.toNat rfl rfl rfl (by decide) ?_
          refine tL ((172 : Nat) : Int) 0 rfl rfl rfl ?_
          refine tFR (c := 172) 202 rfl rfl rfl rfl rfl ?_
          refine tL x1 0 rfl rfl rfl ?_
          refine tK rfl ?_
          refine tAS 202 x1.toNat rfl rfl rfl (by decide) ?_
          exact tR rfl (h4 g1 g2 g3 g7)
        · refine tL (s 201 x1.toNat) 0 rfl rfl rfl ?_
          refine tI0 rfl (fun g8 _ l8 => zT_le ?_ (Nat.le_of_lt l8)) (fun g8 _ l8 => zT_le ?_ (Nat.le_of_lt l8))
          · refine tK rfl ?_
            refine tS [((172 : Nat) : Int), x1, 0] rfl rfl ?_
            refine tL ((172 : Nat) : Int) 0 rfl rfl rfl ?_
            refine tFR (c := 172) 198 rfl rfl rfl rfl rfl ?_
            refine tL x1 0 rfl rfl rfl ?_
            refine tAv 198 x1.toNat (s 198 x1.toNat) 0 rfl rfl rfl (by decide) rfl rfl ?_
            refine tK rfl ?_
            refine tJ1 rfl (fun g _ l => zT_le ?_ (Nat.le_of_lt l)) (fun g _ l => False.elim (by omega))
            refine tL ((172 : Nat) : Int) 0 rfl rfl rfl ?_
            refine tFR (c := 172) 197 rfl rfl rfl rfl rfl ?_
            refine tL x1 0 rfl rfl rfl ?_
            refine tL 0 0 rfl rfl rfl ?_
            refine tAS 197 x1.toNat rfl rfl rfl (by decide) ?_
            refine tL ((172 : Nat) : Int) 0 rfl rfl rfl ?_
            refine tFR (c := 172) 200 rfl rfl rfl rfl rfl ?_
            refine tL x1 0 rfl rfl rfl ?_
            refine tK rfl ?_
            refine tAS 200 x1.toNat rfl rfl rfl (by decide) ?_
            refine tL ((172 : Nat) : Int) 0 rfl rfl rfl ?_
            refine tFR (c := 172) 201 rfl rfl rfl rfl rfl ?_
            refine tL x1 0 rfl rfl rfl ?_
            refine tK rfl ?_
            refine tAS 201 x1.toNat rfl rfl rfl (by decide) ?_
            refine tL ((172 : Nat) : Int) 0 rfl rfl rfl ?_
            refine tFR (c := 172) 202 rfl rfl rfl rfl rfl ?_
            refine tL x1 0 rfl rfl rfl ?_
            refine tK rfl ?_
            refine tAS 202 x1.toNat rfl rfl rfl (by decide) ?_
            exact tR rfl (h5 g1 g2 g3 g7 g8)
          · refine tK rfl ?_
            refine tG rfl ?_
            refine tS [((172 : Nat) : Int), x1, 1] rfl rfl ?_
            refine tL ((172 : Nat) : Int) 0 rfl rfl rfl ?_
            refine tFR (c := 172) 198 rfl rfl rfl rfl rfl ?_
            refine tL x1 0 rfl rfl rfl ?_
            refine tAv 198 x1.toNat (s 198 x1.toNat) 0 rfl rfl rfl (by decide) rfl rfl ?_
            refine tK rfl ?_
            refine tJ1 rfl (fun g _ l => zT_le ?_ (Nat.le_of_lt l)) (fun g _ l => False.elim (by omega))
            refine tL ((172 : Nat) : Int) 0 rfl rfl rfl ?_
            refine tFR (c := 172) 197 rfl rfl rfl rfl rfl ?_
            refine tL x1 0 rfl rfl rfl ?_
            refine tL 1 0 rfl rfl rfl ?_
            refine tAS 197 x1.toNat rfl rfl rfl (by decide) ?_
            refine tL ((172 : Nat) : Int) 0 rfl rfl rfl ?_
            refine tFR (c := 172) 200 rfl rfl rfl rfl rfl ?_
            refine tL x1 0 rfl rfl rfl ?_
            refine tK rfl ?_
            refine tAS 200 x1.toNat rfl rfl rfl (by decide) ?_
            refine tL ((172 : Nat) : Int) 0 rfl rfl rfl ?_
            refine tFR (c := 172) 201 rfl rfl rfl rfl rfl ?_
            refine tL x1 0 rfl rfl rfl ?_
            refine tK rfl ?_
            refine tAS 201 x1.toNat rfl rfl rfl (by decide) ?_
            refine tL ((172 : Nat) : Int) 0 rfl rfl rfl ?_
            refine tFR (c := 172) 202 rfl rfl rfl rfl rfl ?_
            refine tL x1 0 rfl rfl rfl ?_
            refine tK rfl ?_
            refine tAS 202 x1.toNat rfl rfl rfl (by decide) ?_
            exact tR rfl (h6 g1 g2 g3 g7 g8)
    · refine tL ((172 : Nat) : Int) 0 rfl rfl rfl ?_
      refine tFR (c := 172) 199 rfl rfl rfl rfl rfl ?_
      refine tL x1 0 rfl rfl rfl ?_
      refine tAv 199 x1.toNat (s 199 x1.toNat) 0 rfl rfl rfl (by decide) rfl rfl ?_
      refine tL ((172 : Nat) : Int) 0 rfl rfl rfl ?_
      refine tFR (c := 172) 201 rfl rfl rfl rfl rfl ?_
      refine tL x1 0 rfl rfl rfl ?_
      refine tAv 201 x1.toNat (s 201 x1.toNat) 0 rfl rfl rfl (by decide) rfl rfl ?_
      refine tJ1 rfl (fun g9 _ l9 => zT_le ?_ (Nat.le_of_lt l9)) (fun g9 _ l9 => zT_le ?_ (Nat.le_of_lt l9))
      · refine tK rfl ?_
        refine tS [((172 : Nat) : Int), x1, 0] rfl rfl ?_
        refine tL ((172 : Nat) : Int) 0 rfl rfl rfl ?_
        refine tFR (c := 172) 198 rfl rfl rfl rfl rfl ?_
        refine tL x1 0 rfl rfl rfl ?_
        refine tAv 198 x1.toNat (s 198 x1.toNat) 0 rfl rfl rfl (by decide) rfl rfl ?_
        refine tK rfl ?_
        refine tJ1 rfl (fun g10 _ l10 => zT_le ?_ (Nat.le_of_lt l10)) (fun g10 _ l10 => zT_le ?_ (Nat.le_of_lt l10))
        · refine tL ((172 : Nat) : Int) 0 rfl rfl rfl ?_
          refine tFR (c := 172) 198 rfl rfl rfl rfl rfl ?_
          refine tL x1 0 rfl rfl rfl ?_
          refine tAv 198 x1.toNat (s 198 x1.toNat) 0 rfl rfl rfl (by decide) rfl rfl ?_
          refine tK rfl ?_
          refine tJ1 rfl (fun g11 _ l11 => zT_le ?_ (Nat.le_of_lt l11)) (fun g11 _ l11 => zT_le ?_ (Nat.le_of_lt l11))
          · refine tL ((172 : Nat) : Int) 0 rfl rfl rfl ?_
            refine tFR (c := 172) 197 rfl rfl rfl rfl rfl ?_
            refine tL x1 0 rfl rfl rfl ?_
            refine tL 0 0 rfl rfl rfl ?_
            refine tAS 197 x1.toNat rfl rfl rfl (by decide) ?_
            refine tL ((172 : Nat) : Int) 0 rfl rfl rfl ?_
            refine tFR (c := 172) 200 rfl rfl rfl rfl rfl ?_
            refine tL x1 0 rfl rfl rfl ?_
            refine tK rfl ?_
            refine tAS 200 x1.toNat rfl rfl rfl (by decide) ?_
            refine tL ((172 : Nat) : Int) 0 rfl rfl rfl ?_
            refine tFR (c := 172) 201 rfl rfl rfl rfl rfl ?_
            refine tL x1 0 rfl rfl rfl ?_
            refine tK rfl ?_
            refine tAS 201 x1.toNat rfl rfl rfl (by decide) ?_
            refine tL ((172 : Nat) : Int) 0 rfl rfl rfl ?_
            refine tFR (c := 172) 202 rfl rfl rfl rfl rfl ?_
            refine tL x1 0 rfl rfl rfl ?_
            refine tK rfl ?_
            refine tAS 202 x1.toNat rfl rfl rfl (by decide) ?_
            exact tR rfl (h7 g1 g2 g9 g10 g11)
          · refine tL ((172 : Nat) : Int) 0 rfl rfl rfl ?_
            refine tFR (c := 172) 197 rfl rfl rfl rfl rfl ?_
            refine tL x1 0 rfl rfl rfl ?_
            refine tAv 197 x1.toNat (s 197 x1.toNat) 0 rfl rfl rfl (by decide) rfl rfl ?_
            refine tI1 rfl (fun g12 _ l12 => zT_le ?_ (Nat.le_of_lt l12)) (fun g12 _ l12 => zT_le ?_ (Nat.le_of_lt l12))
            · refine tK rfl ?_
              refine tG rfl ?_
              refine tS [((172 : Nat) : Int), x1, 1] rfl rfl ?_
              refine tL ((172 : Nat) : Int) 0 rfl rfl rfl ?_
              refine tFR (c := 172) 197 rfl rfl rfl rfl rfl ?_
              refine tL x1 0 rfl rfl rfl ?_
              refine tL 1 0 rfl rfl rfl ?_
              refine tAS 197 x1.toNat rfl rfl rfl (by decide) ?_
              refine tL ((172 : Nat) : Int) 0 rfl rfl rfl ?_
              refine tFR (c := 172) 200 rfl rfl rfl rfl rfl ?_
              refine tL x1 0 rfl rfl rfl ?_
              refine tK rfl ?_
              refine tAS 200 x1.toNat rfl rfl rfl (by decide) ?_
              refine tL ((172 : Nat) : Int) 0 rfl rfl rfl ?_
              refine tFR (c := 172) 201 rfl rfl rfl rfl rfl ?_
              refine tL x1 0 rfl rfl rfl ?_
              refine tK rfl ?_
              refine tAS 201 x1.toNat rfl rfl rfl (by decide) ?_
              refine tL ((172 : Nat) : Int) 0 rfl rfl rfl ?_
              refine tFR (c := 172) 202 rfl rfl rfl rfl rfl ?_
              refine tL x1 0 rfl rfl rfl ?_
              refine tK rfl ?_
              refine tAS 202 x1.toNat rfl rfl rfl (by decide) ?_
              exact tR rfl (h8 g1 g2 g9 g10 g11 g12)
            · refine tL 0 0 rfl rfl rfl ?_
              refine tI0 rfl (fun g _ l => zT_le ?_ (Nat.le_of_lt l)) (fun g _ l => (absurd g (by decide)))
              refine tK rfl ?_
              refine tS [((172 : Nat) : Int), x1, 0] rfl rfl ?_
              refine tL ((172 : Nat) : Int) 0 rfl rfl rfl ?_
              refine tFR (c := 172) 197 rfl rfl rfl rfl rfl ?_
              refine tL x1 0 rfl rfl rfl ?_
              refine tL 0 0 rfl rfl rfl ?_
              refine tAS 197 x1.toNat rfl rfl rfl (by decide) ?_
              refine tL ((172 : Nat) : Int) 0 rfl rfl rfl ?_
              refine tFR (c := 172) 200 rfl rfl rfl rfl rfl ?_
              refine tL x1 0 rfl rfl rfl ?_
              refine tK rfl ?_
              refine tAS 200 x1.toNat rfl rfl rfl (by decide) ?_
              refine tL ((172 : Nat) : Int) 0 rfl rfl rfl ?_
              refine tFR (c := 172) 201 rfl rfl rfl rfl rfl ?_
              refine tL x1 0 rfl rfl rfl ?_
              refine tK rfl ?_
              refine tAS 201 x1.toNat rfl rfl rfl (by decide) ?_
              refine tL ((172 : Nat) : Int) 0 rfl rfl rfl ?_
              refine tFR (c := 172) 202 rfl rfl rfl rfl rfl ?_
              refine tL x1 0 rfl rfl rfl ?_
              refine tK rfl ?_
              refine tAS 202 x1.toNat rfl rfl rfl (by decide) ?_
              exact tR rfl (h9 g1 g2 g9 g10 g11 g12)
        · refine tL ((172 : Nat) : Int) 0 rfl rfl rfl ?_
          refine tFR (c := 172) 197 rfl rfl rfl rfl rfl ?_
          refine tL x1 0 rfl rfl rfl ?_
          refine tAv 197 x1.toNat (s 197 x1.toNat) 0 rfl rfl rfl (by decide) rfl rfl ?_
          refine tI0 rfl (fun g13 _ l13 => zT_le ?_ (Nat.le_of_lt l13)) (fun g13 _ l13 => zT_le ?_ (Nat.le_of_lt l13))
          · refine tK rfl ?_
            refine tS [((172 : Nat) : Int), x1, 0] rfl rfl ?_
            refine tL ((172 : Nat) : Int) 0 rfl rfl rfl ?_
            refine tFR (c := 172) 198 rfl rfl rfl rfl rfl ?_
            refine tL x1 0 rfl rfl rfl ?_
            refine tAv 198 x1.toNat (s 198 x1.toNat) 0 rfl rfl rfl (by decide) rfl rfl ?_
            refine tK rfl ?_
            refine tJ1 rfl (fun g _ l => zT_le ?_ (Nat.le_of_lt l)) (fun g _ l => False.elim (by omega))
            refine tL ((172 : Nat) : Int) 0 rfl rfl rfl ?_
            refine tFR (c := 172) 197 rfl rfl rfl rfl rfl ?_
            refine tL x1 0 rfl rfl rfl ?_
            refine tL 0 0 rfl rfl rfl ?_
            refine tAS 197 x1.toNat rfl rfl rfl (by decide) ?_
            refine tL ((172 : Nat) : Int) 0 rfl rfl rfl ?_
            refine tFR (c := 172) 200 rfl rfl rfl rfl rfl ?_
            refine tL x1 0 rfl rfl rfl ?_
            refine tK rfl ?_
            refine tAS 200 x1.toNat rfl rfl rfl (by decide) ?_
            refine tL ((172 : Nat) : Int) 0 rfl rfl rfl ?_
            refine tFR (c := 172) 201 rfl rfl rfl rfl rfl ?_
            refine tL x1 0 rfl rfl rfl ?_
            refine tK rfl ?_
            refine tAS 201 x1.toNat rfl rfl rfl (by decide) ?_
            refine tL ((172 : Nat) : Int) 0 rfl rfl rfl ?_
            refine tFR (c := 172) 202 rfl rfl rfl rfl rfl ?_
            refine tL x1 0 rfl rfl rfl ?_
            refine tK rfl ?_
            refine tAS 202 x1.toNat rfl rfl rfl (by decide) ?_
            exact tR rfl (h10 g1 g2 g9 g10 g13)
          · refine tL 0 0 rfl rfl rfl ?_
            refine tI0 rfl (fun g _ l => zT_le ?_ (Nat.le_of_lt l)) (fun g _ l => (absurd g (by decide)))
            refine tK rfl ?_
            refine tS [((172 : Nat) : Int), x1, 0] rfl rfl ?_
            refine tL ((172 : Nat) : Int) 0 rfl rfl rfl ?_
            refine tFR (c := 172) 198 rfl rfl rfl rfl rfl ?_
            refine tL x1 0 rfl rfl rfl ?_
            refine tAv 198 x1.toNat (s 198 x1.toNat) 0 rfl rfl rfl (by decide) rfl rfl ?_
            refine tK rfl ?_
            refine tJ1 rfl (fun g _ l => zT_le ?_ (Nat.le_of_lt l)) (fun g _ l => False.elim (by omega))
            refine tL ((172 : Nat) : Int) 0 rfl rfl rfl ?_
            refine tFR (c := 172) 197 rfl rfl rfl rfl rfl ?_
            refine tL x1 0 rfl rfl rfl ?_
            refine tL 0 0 rfl rfl rfl ?_
            refine tAS 197 x1.toNat rfl rfl rfl (by decide) ?_
            refine tL ((172 : Nat) : Int) 0 rfl rfl rfl ?_
            refine tFR (c := 172) 200 rfl rfl rfl rfl rfl ?_
            refine tL x1 0 rfl rfl rfl ?_
            refine tK rfl ?_
            refine tAS 200 x1.toNat rfl rfl rfl (by decide) ?_
            refine tL ((172 : Nat) : Int) 0 rfl rfl rfl ?_
            refine tFR (c := 172) 201 rfl rfl rfl rfl rfl ?_
            refine tL x1 0 rfl rfl rfl ?_
            refine tK rfl ?_
            refine tAS 201 x1.toNat rfl rfl rfl (by decide) ?_
            refine tL ((172 : Nat) : Int) 0 rfl rfl rfl ?_
            refine tFR (c := 172) 202 rfl rfl rfl rfl rfl ?_
            refine tL x1 0 rfl rfl rfl ?_
            refine tK rfl ?_
            refine tAS 202 x1.toNat rfl rfl rfl (by decide) ?_
            exact tR rfl (h11 g1 g2 g9 g10 g13)
      · refine tK rfl ?_
        refine tG rfl ?_
        refine tS [((172 : Nat) : Int), x1, 1] rfl rfl ?_
        refine tL ((172 : Nat) : Int) 0 rfl rfl rfl ?_
        refine tFR (c := 172) 198 rfl rfl rfl rfl rfl ?_
        refine tL x1 0 rfl rfl rfl ?_
        refine tAv 198 x1.toNat (s 198 x1.toNat) 0 rfl rfl rfl (by decide) rfl rfl ?_
        refine tK rfl ?_
        refine tJ1 rfl (fun g14 _ l14 => zT_le ?_ (Nat.le_of_lt l14)) (fun g14 _ l14 => zT_le ?_ (Nat.le_of_lt l14))
        · refine tL ((172 : Nat) : Int) 0 rfl rfl rfl ?_
          refine tFR (c := 172) 198 rfl rfl rfl rfl rfl ?_
          refine tL x1 0 rfl rfl rfl ?_
          refine tAv 198 x1.toNat (s 198 x1.toNat) 0 rfl rfl rfl (by decide) rfl rfl ?_
          refine tK rfl ?_
          refine tJ1 rfl (fun g15 _ l15 => zT_le ?_ (Nat.le_of_lt l15)) (fun g15 _ l15 => zT_le ?_ (Nat.le_of_lt l15))
          · refine tL ((172 : Nat) : Int) 0 rfl rfl rfl ?_
            refine tFR (c := 172) 197 rfl rfl rfl rfl rfl ?_
            refine tL x1 0 rfl rfl rfl ?_
            refine tL 1 0 rfl rfl rfl ?_
            refine tAS 197 x1.toNat rfl rfl rfl (by decide) ?_
            refine tL ((172 : Nat) : Int) 0 rfl rfl rfl ?_
            refine tFR (c := 172) 200 rfl rfl rfl rfl rfl ?_
            refine tL x1 0 rfl rfl rfl ?_
            refine tK rfl ?_
            refine tAS 200 x1.toNat rfl rfl rfl (by decide) ?_
            refine tL ((172 : Nat) : Int) 0 rfl rfl rfl ?_
            refine tFR (c := 172) 201 rfl rfl rfl rfl rfl ?_
            refine tL x1 0 rfl rfl rfl ?_
            refine tK rfl ?_
            refine tAS 201 x1.toNat rfl rfl rfl (by decide) ?_
            refine tL ((172 : Nat) : Int) 0 rfl rfl rfl ?_
            refine tFR (c := 172) 202 rfl rfl rfl rfl rfl ?_
            refine tL x1 0 rfl rfl rfl ?_
            refine tK rfl ?_
            refine tAS 202 x1.toNat rfl rfl rfl (by decide) ?_
            exact tR rfl (h12 g1 g2 g9 g14 g15)
          · refine tL ((172 : Nat) : Int) 0 rfl rfl rfl ?_
            refine tFR (c := 172) 197 rfl rfl rfl rfl rfl ?_
            refine tL x1 0 rfl rfl rfl ?_
            refine tAv 197 x1.toNat (s 197 x1.toNat) 0 rfl rfl rfl (by decide) rfl rfl ?_
            refine tI1 rfl (fun g16 _ l16 => zT_le ?_ (Nat.le_of_lt l16)) (fun g16 _ l16 => zT_le ?_ (Nat.le_of_lt l16))
            · refine tK rfl ?_
              refine tG rfl ?_
              refine tS [((172 : Nat) : Int), x1, 1] rfl rfl ?_
              refine tL ((172 : Nat) : Int) 0 rfl rfl rfl ?_
              refine tFR (c := 172) 197 rfl rfl rfl rfl rfl ?_
              refine tL x1 0 rfl rfl rfl ?_
              refine tL 1 0 rfl rfl rfl ?_
              refine tAS 197 x1.toNat rfl rfl rfl (by decide) ?_
              refine tL ((172 : Nat) : Int) 0 rfl rfl rfl ?_
              refine tFR (c := 172) 200 rfl rfl rfl rfl rfl ?_
              refine tL x1 0 rfl rfl rfl ?_
              refine tK rfl ?_
              refine tAS 200 x1.toNat rfl rfl rfl (by decide) ?_
              refine tL ((172 : Nat) : Int) 0 rfl rfl rfl ?_
              refine tFR (c := 172) 201 rfl rfl rfl rfl rfl ?_
              refine tL x1 0 rfl rfl rfl ?_
              refine tK rfl ?_
              refine tAS 201 x1.toNat rfl rfl rfl (by decide) ?_
              refine tL ((172 : Nat) : Int) 0 rfl rfl rfl ?_
              refine tFR (c := 172) 202 rfl rfl rfl rfl rfl ?_
              refine tL x1 0 rfl rfl rfl ?_
              refine tK rfl ?_
              refine tAS 202 x1.toNat rfl rfl rfl (by decide) ?_
              exact tR rfl (h13 g1 g2 g9 g14 g15 g16)
            · refine tL 1 0 rfl rfl rfl ?_
              refine tI0 rfl (fun g _ l => (absurd g (by decide))) (fun g _ l => zT_le ?_ (Nat.le_of_lt l))
              refine tK rfl ?_
              refine tG rfl ?_
              refine tS [((172 : Nat) : Int), x1, 1] rfl rfl ?_
              refine tL ((172 : Nat) : Int) 0 rfl rfl rfl ?_
              refine tFR (c := 172) 197 rfl rfl rfl rfl rfl ?_
              refine tL x1 0 rfl rfl rfl ?_
              refine tL 1 0 rfl rfl rfl ?_
              refine tAS 197 x1.toNat rfl rfl rfl (by decide) ?_
              refine tL ((172 : Nat) : Int) 0 rfl rfl rfl ?_
              refine tFR (c := 172) 200 rfl rfl rfl rfl rfl ?_
              refine tL x1 0 rfl rfl rfl ?_
              refine tK rfl ?_
              refine tAS 200 x1.toNat rfl rfl rfl (by decide) ?_
              refine tL ((172 : Nat) : Int) 0 rfl rfl rfl ?_
              refine tFR (c := 172) 201 rfl rfl rfl rfl rfl ?_
              refine tL x1 0 rfl rfl rfl ?_
              refine tK rfl ?_
              refine tAS 201 x1.toNat rfl rfl rfl (by decide) ?_
              refine tL ((172 : Nat) : Int) 0 rfl rfl rfl ?_
              refine tFR (c := 172) 202 rfl rfl rfl rfl rfl ?_
              refine tL x1 0 rfl rfl rfl ?_
              refine tK rfl ?_
              refine tAS 202 x1.toNat rfl rfl rfl (by decide) ?_
              exact tR rfl (h14 g1 g2 g9 g14 g15 g16)
        · refine tL ((172 : Nat) : Int) 0 rfl rfl rfl ?_
          refine tFR (c := 172) 197 rfl rfl rfl rfl rfl ?_
          refine tL x1 0 rfl rfl rfl ?_
          refine tAv 197 x1.toNat (s 197 x1.toNat) 0 rfl rfl rfl (by decide) rfl rfl ?_
          refine tI0 rfl (fun g17 _ l17 => zT_le ?_ (Nat.le_of_lt l17)) (fun g17 _ l17 => zT_le ?_ (Nat.le_of_lt l17))
          · refine tK rfl ?_
            refine tS [((172 : Nat) : Int), x1, 0] rfl rfl ?_
            refine tL ((172 : Nat) : Int) 0 rfl rfl rfl ?_
            refine tFR (c := 172) 198 rfl rfl rfl rfl rfl ?_
            refine tL x1 0 rfl rfl rfl ?_
            refine tAv 198 x1.toNat (s 198 x1.toNat) 0 rfl rfl rfl (by decide) rfl rfl ?_
            refine tK rfl ?_
            refine tJ1 rfl (fun g _ l => zT_le ?_ (Nat.le_of_lt l)) (fun g _ l => False.elim (by omega))
            refine tL ((172 : Nat) : Int) 0 rfl rfl rfl ?_
            refine tFR (c := 172) 197 rfl rfl rfl rfl rfl ?_
            refine tL x1 0 rfl rfl rfl ?_
            refine tL 0 0 rfl rfl rfl ?_
            refine tAS 197 x1.toNat rfl rfl rfl (by decide) ?_
            refine tL ((172 : Nat) : Int) 0 rfl rfl rfl ?_
            refine tFR (c := 172) 200 rfl rfl rfl rfl rfl ?_
            refine tL x1 0 rfl rfl rfl ?_
            refine tK rfl ?_
            refine tAS 200 x1.toNat rfl rfl rfl (by decide) ?_
            refine tL ((172 : Nat) : Int) 0 rfl rfl rfl ?_
            refine tFR (c := 172) 201 rfl rfl rfl rfl rfl ?_
            refine tL x1 0 rfl rfl rfl ?_
            refine tK rfl ?_
            refine tAS 201 x1.toNat rfl rfl rfl (by decide) ?_
            refine tL ((172 : Nat) : Int) 0 rfl rfl rfl ?_
            refine tFR (c := 172) 202 rfl rfl rfl rfl rfl ?_
            refine tL x1 0 rfl rfl rfl ?_
            refine tK rfl ?_
            refine tAS 202 x1.toNat rfl rfl rfl (by decide) ?_
            exact tR rfl (h15 g1 g2 g9 g14 g17)
          · refine tL 1 0 rfl rfl rfl ?_
            refine tI0 rfl (fun g _ l => (absurd g (by decide))) (fun g _ l => zT_le ?_ (Nat.le_of_lt l))
            refine tK rfl ?_
            refine tG rfl ?_
            refine tS [((172 : Nat) : Int), x1, 1] rfl rfl ?_
            refine tL ((172 : Nat) : Int) 0 rfl rfl rfl ?_
            refine tFR (c := 172) 198 rfl rfl rfl rfl rfl ?_
            refine tL x1 0 rfl rfl rfl ?_
            refine tAv 198 x1.toNat (s 198 x1.toNat) 0 rfl rfl rfl (by decide) rfl rfl ?_
            refine tK rfl ?_
            refine tJ1 rfl (fun g _ l => zT_le ?_ (Nat.le_of_lt l)) (fun g _ l => False.elim (by omega))
            refine tL ((172 : Nat) : Int) 0 rfl rfl rfl ?_
            refine tFR (c := 172) 197 rfl rfl rfl rfl rfl ?_
            refine tL x1 0 rfl rfl rfl ?_
            refine tL 1 0 rfl rfl rfl ?_
            refine tAS 197 x1.toNat rfl rfl rfl (by decide) ?_
            refine tL ((172 : Nat) : Int) 0 rfl rfl rfl ?_
            refine tFR (c := 172) 200 rfl rfl rfl rfl rfl ?_
            refine tL x1 0 rfl rfl rfl ?_
            refine tK rfl ?_
            refine tAS 200 x1.toNat rfl rfl rfl (by decide) ?_
            refine tL ((172 : Nat) : Int) 0 rfl rfl rfl ?_
            refine tFR (c := 172) 201 rfl rfl rfl rfl rfl ?_
            refine tL x1 0 rfl rfl rfl ?_
            refine tK rfl ?_
            refine tAS 201 x1.toNat rfl rfl rfl (by decide) ?_
            refine tL ((172 : Nat) : Int) 0 rfl rfl rfl ?_
            refine tFR (c := 172) 202 rfl rfl rfl rfl rfl ?_
            refine tL x1 0 rfl rfl rfl ?_
            refine tK rfl ?_
            refine tAS 202 x1.toNat rfl rfl rfl (by decide) ?_
            exact tR rfl (h16 g1 g2 g9 g14 g17)
  · refine tL ((172 : Nat) : Int) 0 rfl rfl rfl ?_
    refine tFR (c := 172) 199 rfl rfl rfl rfl rfl ?_
    refine tL x1 0 rfl rfl rfl ?_
    refine tAv 199 x1.toNat (s 199 x1.toNat) 0 rfl rfl rfl (by decide) rfl rfl ?_
    refine tL ((172 : Nat) : Int) 0 rfl rfl rfl ?_
    refine tFR (c := 172) 201 rfl rfl rfl rfl rfl ?_
    refine tL x1 0 rfl rfl rfl ?_
    refine tAv 201 x1.toNat (s 201 x1.toNat) 0 rfl rfl rfl (by decide) rfl rfl ?_
    refine tJ3 rfl (fun g18 _ l18 => zT_le ?_ (Nat.le_of_lt l18)) (fun g18 _ l18 => zT_le ?_ (Nat.le_of_lt l18))
    · refine tK rfl ?_
      refine tS [((172 : Nat) : Int), x1, 0] rfl rfl ?_
      refine tL ((172 : Nat) : Int) 0 rfl rfl rfl ?_
      refine tFR (c := 172) 200 rfl rfl rfl rfl rfl ?_
      refine tL x1 0 rfl rfl rfl ?_
      refine tAv 200 x1.toNat (s 200 x1.toNat) 0 rfl rfl rfl (by decide) rfl rfl ?_
      refine tK rfl ?_
      refine tJ1 rfl (fun g _ l => zT_le ?_ (Nat.le_of_lt l)) (fun g _ l => False.elim (by omega))
      refine tL ((172 : Nat) : Int) 0 rfl rfl rfl ?_
      refine tFR (c := 172) 198 rfl rfl rfl rfl rfl ?_
      refine tL x1 0 rfl rfl rfl ?_
      refine tAv 198 x1.toNat (s 198 x1.toNat) 0 rfl rfl rfl (by decide) rfl rfl ?_
      refine tK rfl ?_
      refine tJ1 rfl (fun g19 _ l19 => zT_le ?_ (Nat.le_of_lt l19)) (fun g19 _ l19 => zT_le ?_ (Nat.le_of_lt l19))
      · refine tL ((172 : Nat) : Int) 0 rfl rfl rfl ?_
        refine tFR (c := 172) 198 rfl rfl rfl rfl rfl ?_
        refine tL x1 0 rfl rfl rfl ?_
        refine tAv 198 x1.toNat (s 198 x1.toNat) 0 rfl rfl rfl (by decide) rfl rfl ?_
        refine tK rfl ?_
        refine tJ1 rfl (fun g20 _ l20 => zT_le ?_ (Nat.le_of_lt l20)) (fun g20 _ l20 => zT_le ?_ (Nat.le_of_lt l20))
        · refine tL ((172 : Nat) : Int) 0 rfl rfl rfl ?_
          refine tFR (c := 172) 197 rfl rfl rfl rfl rfl ?_
          refine tL x1 0 rfl rfl rfl ?_
          refine tL 0 0 rfl rfl rfl ?_
          refine tAS 197 x1.toNat rfl rfl rfl (by decide) ?_
          refine tL ((172 : Nat) : Int) 0 rfl rfl rfl ?_
          refine tFR (c := 172) 200 rfl rfl rfl rfl rfl ?_
          refine tL x1 0 rfl rfl rfl ?_
          refine tK rfl ?_
          refine tAS 200 x1.toNat rfl rfl rfl (by decide) ?_
          refine tL ((172 : Nat) : Int) 0 rfl rfl rfl ?_
          refine tFR (c := 172) 201 rfl rfl rfl rfl rfl ?_
          refine tL x1 0 rfl rfl rfl ?_
          refine tK rfl ?_
          refine tAS 201 x1.toNat rfl rfl rfl (by decide) ?_
          refine tL ((172 : Nat) : Int) 0 rfl rfl rfl ?_
          refine tFR (c := 172) 202 rfl rfl rfl rfl rfl ?_
          refine tL x1 0 rfl rfl rfl ?_
          refine tK rfl ?_
          refine tAS 202 x1.toNat rfl rfl rfl (by decide) ?_
          exact tR rfl (h17 g1 g18 g19 g20)
        · refine tL ((172 : Nat) : Int) 0 rfl rfl rfl ?_
          refine tFR (c := 172) 197 rfl rfl rfl rfl rfl ?_
          refine tL x1 0 rfl rfl rfl ?_
          refine tAv 197 x1.toNat (s 197 x1.toNat) 0 rfl rfl rfl (by decide) rfl rfl ?_
          refine tI1 rfl (fun g21 _ l21 => zT_le ?_ (Nat.le_of_lt l21)) (fun g21 _ l21 => zT_le ?_ (Nat.le_of_lt l21))
          · refine tK rfl ?_
            refine tG rfl ?_
            refine tS [((172 : Nat) : Int), x1, 1] rfl rfl ?_
            refine tL ((172 : Nat) : Int) 0 rfl rfl rfl ?_
            refine tFR (c := 172) 197 rfl rfl rfl rfl rfl ?_
            refine tL x1 0 rfl rfl rfl ?_
            refine tL 1 0 rfl rfl rfl ?_
            refine tAS 197 x1.toNat rfl rfl rfl (by decide) ?_
            refine tL ((172 : Nat) : Int) 0 rfl rfl rfl ?_
            refine tFR (c := 172) 200 rfl rfl rfl rfl rfl ?_
            refine tL x1 0 rfl rfl rfl ?_
            refine tK rfl ?_
            refine tAS 200 x1.toNat rfl rfl rfl (by decide) ?_
            refine tL ((172 : Nat) : Int) 0 rfl rfl rfl ?_
            refine tFR (c := 172) 201 rfl rfl rfl rfl rfl ?_
            refine tL x1 0 rfl rfl rfl ?_
            refine tK rfl ?_
            refine tAS 201 x1.toNat rfl rfl rfl (by decide) ?_
            refine tL ((172 : Nat) : Int) 0 rfl rfl rfl ?_
            refine tFR (c := 172) 202 rfl rfl rfl rfl rfl ?_
            refine tL x1 0 rfl rfl rfl ?_
            refine tK rfl ?_
            refine tAS 202 x1.toNat rfl rfl rfl (by decide) ?_
            exact tR rfl (h18 g1 g18 g19 g20 g21)
          · refine tL 0 0 rfl rfl rfl ?_
            refine tI0 rfl (fun g _ l => zT_le ?_ (Nat.le_of_lt l)) (fun g _ l => (absurd g (by decide)))
            refine tK rfl ?_
            refine tS [((172 : Nat) : Int), x1, 0] rfl rfl ?_
            refine tL ((172 : Nat) : Int) 0 rfl rfl rfl ?_
            refine tFR (c := 172) 197 rfl rfl rfl rfl rfl ?_
            refine tL x1 0 rfl rfl rfl ?_
            refine tL 0 0 rfl rfl rfl ?_
            refine tAS 197 x1.toNat rfl rfl rfl (by decide) ?_
            refine tL ((172 : Nat) : Int) 0 rfl rfl rfl ?_
            refine tFR (c := 172) 200 rfl rfl rfl rfl rfl ?_
            refine tL x1 0 rfl rfl rfl ?_
            refine tK rfl ?_
            refine tAS 200 x1.toNat rfl rfl rfl (by decide) ?_
            refine tL ((172 : Nat) : Int) 0 rfl rfl rfl ?_
            refine tFR (c := 172) 201 rfl rfl rfl rfl rfl ?_
            refine tL x1 0 rfl rfl rfl ?_
            refine tK rfl ?_
            refine tAS 201 x1.toNat rfl rfl rfl (by decide) ?_
            refine tL ((172 : Nat) : Int) 0 rfl rfl rfl ?_
            refine tFR (c := 172) 202 rfl rfl rfl rfl rfl ?_
            refine tL x1 0 rfl rfl rfl ?_
            refine tK rfl ?_
            refine tAS 202 x1.toNat rfl rfl rfl (by decide) ?_
            exact tR rfl (h19 g1 g18 g19 g20 g21)
      · refine tL ((172 : Nat) : Int) 0 rfl rfl rfl ?_
        refine tFR (c := 172) 197 rfl rfl rfl rfl rfl ?_
        refine tL x1 0 rfl rfl rfl ?_
        refine tAv 197 x1.toNat (s 197 x1.toNat) 0 rfl rfl rfl (by decide) rfl rfl ?_
        refine tI0 rfl (fun g22 _ l22 => zT_le ?_ (Nat.le_of_lt l22)) (fun g22 _ l22 => zT_le ?_ (Nat.le_of_lt l22))
        · refine tK rfl ?_
          refine tS [((172 : Nat) : Int), x1, 0] rfl rfl ?_
          refine tL ((172 : Nat) : Int) 0 rfl rfl rfl ?_
          refine tFR (c := 172) 198 rfl rfl rfl rfl rfl ?_
          refine tL x1 0 rfl rfl rfl ?_
          refine tAv 198 x1.toNat (s 198 x1.toNat) 0 rfl rfl rfl (by decide) rfl rfl ?_
          refine tK rfl ?_
          refine tJ1 rfl (fun g _ l => zT_le ?_ (Nat.le_of_lt l)) (fun g _ l => False.elim (by omega))
          refine tL ((172 : Nat) : Int) 0 rfl rfl rfl ?_
          refine tFR (c := 172) 197 rfl rfl rfl rfl rfl ?_
          refine tL x1 0 rfl rfl rfl ?_
          refine tL 0 0 rfl rfl rfl ?_
          refine tAS 197 x1.toNat rfl rfl rfl (by decide) ?_
          refine tL ((172 : Nat) : Int) 0 rfl rfl rfl ?_
          refine tFR (c := 172) 200 rfl rfl rfl rfl rfl ?_
          refine tL x1 0 rfl rfl rfl ?_
          refine tK rfl ?_
          refine tAS 200 x1.toNat rfl rfl rfl (by decide) ?_
          refine tL ((172 : Nat) : Int) 0 rfl rfl rfl ?_
          refine tFR (c := 172) 201 rfl rfl rfl rfl rfl ?_
          refine tL x1 0 rfl rfl rfl ?_
          refine tK rfl ?_
          refine tAS 201 x1.toNat rfl rfl rfl (by decide) ?_
          refine tL ((172 : Nat) : Int) 0 rfl rfl rfl ?_
          refine tFR (c := 172) 202 rfl rfl rfl rfl rfl ?_
          refine tL x1 0 rfl rfl rfl ?_
          refine tK rfl ?_
          refine tAS 202 x1.toNat rfl rfl rfl (by decide) ?_
          exact tR rfl (h20 g1 g18 g19 g22)
        · refine tL 0 0 rfl rfl rfl ?_
          refine tI0 rfl (fun g _ l => zT_le ?_ (Nat.le_of_lt l)) (fun g _ l => (absurd g (by decide)))
          refine tK rfl ?_
          refine tS [((172 : Nat) : Int), x1, 0] rfl rfl ?_
          refine tL ((172 : Nat) : Int) 0 rfl rfl rfl ?_
          refine tFR (c := 172) 198 rfl rfl rfl rfl rfl ?_
          refine tL x1 0 rfl rfl rfl ?_
          refine tAv 198 x1.toNat (s 198 x1.toNat) 0 rfl rfl rfl (by decide) rfl rfl ?_
          refine tK rfl ?_
          refine tJ1 rfl (fun g _ l => zT_le ?_ (Nat.le_of_lt l)) (fun g _ l => False.elim (by omega))
          refine tL ((172 : Nat) : Int) 0 rfl rfl rfl ?_
          refine tFR (c := 172) 197 rfl rfl rfl rfl rfl ?_
          refine tL x1 0 rfl rfl rfl ?_
          refine tL 0 0 rfl rfl rfl ?_
          refine tAS 197 x1.toNat rfl rfl rfl (by decide) ?_
          refine tL ((172 : Nat) : Int) 0 rfl rfl rfl ?_
          refine tFR (c := 172) 200 rfl rfl rfl rfl rfl ?_
          refine tL x1 0 rfl rfl rfl ?_
          refine tK rfl ?_
          refine tAS 200 x1.toNat rfl rfl rfl (by decide) ?_
          refine tL ((172 : Nat) : Int) 0 rfl rfl rfl ?_
          refine tFR (c := 172) 201 rfl rfl rfl rfl rfl ?_
          refine tL x1 0 rfl rfl rfl ?_
          refine tK rfl ?_
          refine tAS 201 x1.toNat rfl rfl rfl (by decide) ?_
          refine tL ((172 : Nat) : Int) 0 rfl rfl rfl ?_
          refine tFR (c := 172) 202 rfl rfl rfl rfl rfl ?_
          refine tL x1 0 rfl rfl rfl ?_
          refine tK rfl ?_
          refine tAS 202 x1.toNat rfl rfl rfl (by decide) ?_
          exact tR rfl (h21 g1 g18 g19 g22)
    · refine tK rfl ?_
      refine tG rfl ?_
      refine tS [((172 : Nat) : Int), x1, 1] rfl rfl ?_
      refine tL ((172 : Nat) : Int) 0 rfl rfl rfl ?_
      refine tFR (c := 172) 200 rfl rfl rfl rfl rfl ?_
      refine tL x1 0 rfl rfl rfl ?_
      refine tAv 200 x1.toNat (s 200 x1.toNat) 0 rfl rfl rfl (by decide) rfl rfl ?_
      refine tK rfl ?_
      refine tJ1 rfl (fun g _ l => zT_le ?_ (Nat.le_of_lt l)) (fun g _ l => False.elim (by omega))
      refine tL ((172 : Nat) : Int) 0 rfl rfl rfl ?_
      refine tFR (c := 172) 198 rfl rfl rfl rfl rfl ?_
      refine tL x1 0 rfl rfl rfl ?_
      refine tAv 198 x1.toNat (s 198 x1.toNat) 0 rfl rfl rfl (by decide) rfl rfl ?_
      refine tK rfl ?_
      refine tJ1 rfl (fun g23 _ l23 => zT_le ?_ (Nat.le_of_lt l23)) (fun g23 _ l23 => zT_le ?_ (Nat.le_of_lt l23))
      · refine tL ((172 : Nat) : Int) 0 rfl rfl rfl ?_
        refine tFR (c := 172) 198 rfl rfl rfl rfl rfl ?_
        refine tL x1 0 rfl rfl rfl ?_
        refine tAv 198 x1.toNat (s 198 x1.toNat) 0 rfl rfl rfl (by decide) rfl rfl ?_
        refine tK rfl ?_
        refine tJ1 rfl (fun g24 _ l24 => zT_le ?_ (Nat.le_of_lt l24)) (fun g24 _ l24 => zT_le ?_ (Nat.le_of_lt l24))
        · refine tL ((172 : Nat) : Int) 0 rfl rfl rfl ?_
          refine tFR (c := 172) 197 rfl rfl rfl rfl rfl ?_
          refine tL x1 0 rfl rfl rfl ?_
          refine tL 1 0 rfl rfl rfl ?_
          refine tAS 197 x1.toNat rfl rfl rfl (by decide) ?_
          refine tL ((172 : Nat) : Int) 0 rfl rfl rfl ?_
          refine tFR (c := 172) 200 rfl rfl rfl rfl rfl ?_
          refine tL x1 0 rfl rfl rfl ?_
          refine tK rfl ?_
          refine tAS 200 x1.toNat rfl rfl rfl (by decide) ?_
          refine tL ((172 : Nat) : Int) 0 rfl rfl rfl ?_
          refine tFR (c := 172) 201 rfl rfl rfl rfl rfl ?_
          refine tL x1 0 rfl rfl rfl ?_
          refine tK rfl ?_
          refine tAS 201 x1.toNat rfl rfl rfl (by decide) ?_
          refine tL ((172 : Nat) : Int) 0 rfl rfl rfl ?_
          refine tFR (c := 172) 202 rfl rfl rfl rfl rfl ?_
          refine tL x1 0 rfl rfl rfl ?_
          refine tK rfl ?_
          refine tAS 202 x1.toNat rfl rfl rfl (by decide) ?_
          exact tR rfl (h22 g1 g18 g23 g24)
        · refine tL ((172 : Nat) : Int) 0 rfl rfl rfl ?_
          refine tFR (c := 172) 197 rfl rfl rfl rfl rfl ?_
          refine tL x1 0 rfl rfl rfl ?_
          refine tAv 197 x1.toNat (s 197 x1.toNat) 0 rfl rfl rfl (by decide) rfl rfl ?_
          refine tI1 rfl (fun g25 _ l25 => zT_le ?_ (Nat.le_of_lt l25)) (fun g25 _ l25 => zT_le ?_ (Nat.le_of_lt l25))
          · refine tK rfl ?_
            refine tG rfl ?_
            refine tS [((172 : Nat) : Int), x1, 1] rfl rfl ?_
            refine tL ((172 : Nat) : Int) 0 rfl rfl rfl ?_
            refine tFR (c := 172) 197 rfl rfl rfl rfl rfl ?_
            refine tL x1 0 rfl rfl rfl ?_
            refine tL 1 0 rfl rfl rfl ?_
            refine tAS 197 x1.toNat rfl rfl rfl (by decide) ?_
            refine tL ((172 : Nat) : Int) 0 rfl rfl rfl ?_
            refine tFR (c := 172) 200 rfl rfl rfl rfl rfl ?_
            refine tL x1 0 rfl rfl rfl ?_
            refine tK rfl ?_
            refine tAS 200 x1.toNat rfl rfl rfl (by decide) ?_
            refine tL ((172 : Nat) : Int) 0 rfl rfl rfl ?_
            refine tFR (c := 172) 201 rfl rfl rfl rfl rfl ?_
            refine tL x1 0 rfl rfl rfl ?_
            refine tK rfl ?_
            refine tAS 201 x1.toNat rfl rfl rfl (by decide) ?_
            refine tL ((172 : Nat) : Int) 0 rfl rfl rfl ?_
            refine tFR (c := 172) 202 rfl rfl rfl rfl rfl ?_
            refine tL x1 0 rfl rfl rfl ?_
            refine tK rfl ?_
            refine tAS 202 x1.toNat rfl rfl rfl (by decide) ?_
            exact tR rfl (h23 g1 g18 g23 g24 g25)
          · refine tL 1 0 rfl rfl rfl ?_
            refine tI0 rfl (fun g _ l => (absurd g (by decide))) (fun g _ l => zT_le ?_ (Nat.le_of_lt l))
            refine tK rfl ?_
            refine tG rfl ?_
            refine tS [((172 : Nat) : Int), x1, 1] rfl rfl ?_
            refine tL ((172 : Nat) : Int) 0 rfl rfl rfl ?_
            refine tFR (c := 172) 197 rfl rfl rfl rfl rfl ?_
            refine tL x1 0 rfl rfl rfl ?_
            refine tL 1 0 rfl rfl rfl ?_
            refine tAS 197 x1.toNat rfl rfl rfl (by decide) ?_
            refine tL ((172 : Nat) : Int) 0 rfl rfl rfl ?_
            refine tFR (c := 172) 200 rfl rfl rfl rfl rfl ?_
            refine tL x1 0 rfl rfl rfl ?_
            refine tK rfl ?_
            refine tAS 200 x1.toNat rfl rfl rfl (by decide) ?_
            refine tL ((172 : Nat) : Int) 0 rfl rfl rfl ?_
            refine tFR (c := 172) 201 rfl rfl rfl rfl rfl ?_
            refine tL x1 0 rfl rfl rfl ?_
            refine tK rfl ?_
            refine tAS 201 x1.toNat rfl rfl rfl (by decide) ?_
            refine tL ((172 : Nat) : Int) 0 rfl rfl rfl ?_
            refine tFR (c := 172) 202 rfl rfl rfl rfl rfl ?_
            refine tL x1 0 rfl rfl rfl ?_
            refine tK rfl ?_
            refine tAS 202 x1.toNat rfl rfl rfl (by decide) ?_
            exact tR rfl (h24 g1 g18 g23 g24 g25)
      · refine tL ((172 : Nat) : Int) 0 rfl rfl rfl ?_
        refine tFR (c := 172) 197 rfl rfl rfl rfl rfl ?_
        refine tL x1 0 rfl rfl rfl ?_
        refine tAv 197 x1.toNat (s 197 x1.toNat) 0 rfl rfl rfl (by decide) rfl rfl ?_
        refine tI0 rfl (fun g26 _ l26 => zT_le ?_ (Nat.le_of_lt l26)) (fun g26 _ l26 => zT_le ?_ (Nat.le_of_lt l26))
        · refine tK rfl ?_
          refine tS [((172 : Nat) : Int), x1, 0] rfl rfl ?_
          refine tL ((172 : Nat) : Int) 0 rfl rfl rfl ?_
          refine tFR (c := 172) 198 rfl rfl rfl rfl rfl ?_
          refine tL x1 0 rfl rfl rfl ?_
          refine tAv 198 x1.toNat (s 198 x1.toNat) 0 rfl rfl rfl (by decide) rfl rfl ?_
          refine tK rfl ?_
          refine tJ1 rfl (fun g _ l => zT_le ?_ (Nat.le_of_lt l)) (fun g _ l => False.elim (by omega))
          refine tL ((172 : Nat) : Int) 0 rfl rfl rfl ?_
          refine tFR (c := 172) 197 rfl rfl rfl rfl rfl ?_
          refine tL x1 0 rfl rfl rfl ?_
          refine tL 0 0 rfl rfl rfl ?_
          refine tAS 197 x1.toNat rfl rfl rfl (by decide) ?_
          refine tL ((172 : Nat) : Int) 0 rfl rfl rfl ?_
          refine tFR (c := 172) 200 rfl rfl rfl rfl rfl ?_
          refine tL x1 0 rfl rfl rfl ?_
          refine tK rfl ?_
          refine tAS 200 x1.toNat rfl rfl rfl (by decide) ?_
          refine tL ((172 : Nat) : Int) 0 rfl rfl rfl ?_
          refine tFR (c := 172) 201 rfl rfl rfl rfl rfl ?_
          refine tL x1 0 rfl rfl rfl ?_
          refine tK rfl ?_
          refine tAS 201 x1.toNat rfl rfl rfl (by decide) ?_
          refine tL ((172 : Nat) : Int) 0 rfl rfl rfl ?_
          refine tFR (c := 172) 202 rfl rfl rfl rfl rfl ?_
          refine tL x1 0 rfl rfl rfl ?_
          refine tK rfl ?_
          refine tAS 202 x1.toNat rfl rfl rfl (by decide) ?_
          exact tR rfl (h25 g1 g18 g23 g26)
        · refine tL 1 0 rfl rfl rfl ?_
          refine tI0 rfl (fun g _ l => (absurd g (by decide))) (fun g _ l => zT_le ?_ (Nat.le_of_lt l))
          refine tK rfl ?_
          refine tG rfl ?_
          refine tS [((172 : Nat) : Int), x1, 1] rfl rfl ?_
          refine tL ((172 : Nat) : Int) 0 rfl rfl rfl ?_
          refine tFR (c := 172) 198 rfl rfl rfl rfl rfl ?_
          refine tL x1 0 rfl rfl rfl ?_
          refine tAv 198 x1.toNat (s 198 x1.toNat) 0 rfl rfl rfl (by decide) rfl rfl ?_
          refine tK rfl ?_
          refine tJ1 rfl (fun g _ l => zT_le ?_ (Nat.le_of_lt l)) (fun g _ l => False.elim (by omega))
          refine tL ((172 : Nat) : Int) 0 rfl rfl rfl ?_
          refine tFR (c := 172) 197 rfl rfl rfl rfl rfl ?_
          refine tL x1 0 rfl rfl rfl ?_
          refine tL 1 0 rfl rfl rfl ?_
          refine tAS 197 x1.toNat rfl rfl rfl (by decide) ?_
          refine tL ((172 : Nat) : Int) 0 rfl rfl rfl ?_
          refine tFR (c := 172) 200 rfl rfl rfl rfl rfl ?_
          refine tL x1 0 rfl rfl rfl ?_
          refine tK rfl ?_
          refine tAS 200 x1.toNat rfl rfl rfl (by decide) ?_
          refine tL ((172 : Nat) : Int) 0 rfl rfl rfl ?_
          refine tFR (c := 172) 201 rfl rfl rfl rfl rfl ?_
          refine tL x1 0 rfl rfl rfl ?_
          refine tK rfl ?_
          refine tAS 201 x1.toNat rfl rfl rfl (by decide) ?_
          refine tL ((172 : Nat) : Int) 0 rfl rfl rfl ?_
          refine tFR (c := 172) 202 rfl rfl rfl rfl rfl ?_
          refine tL x1 0 rfl rfl rfl ?_
          refine tK rfl ?_
          refine tAS 202 x1.toNat rfl rfl rfl (by decide) ?_
          exact tR rfl (h26 g1 g18 g23 g26)

theorem c_X11_tests {n : Nat} {Q : Zr → Prop} {a0 a1 : Int} {s : Zs} (h : zT (zE 1517) (Pt PX11_tests) n (0, [a0, a1, 0], [], s) Q) : zC n 1517 [(a0, 0), (a1, 0)] s Q := h

theorem b_X11_keeps_0 {n : Nat} {Q : Zr → Prop} (x1 : Int) (s : Zs) 
    (h0 : ∀ (g1 : s 172 60 ≠ 16), ∀ m, m < n → zC m 1426 [(((216 : Nat) : Int), 0), (0, 0), (((219 : Nat) : Int), 0), (w32 (13 * (s 172 60)), 0)] s (fun p => zT (zE 1461) (Pt PX11_keeps) m (68, [((172 : Nat) : Int), x1], p.1 ++ [], p.2) Q))
    (h1 : ∀ (g1 : s 172 60 = 16), zT (zE 1461) (Pt PX11_keeps) n (11, [((172 : Nat) : Int), 0], [], s) Q) : zT (zE 1461) (Pt PX11_keeps) n (0, [((172 : Nat) : Int), x1], [], s) Q := by
  refine tL ((172 : Nat) : Int) 0 rfl rfl rfl ?_
  refine tFv (c := 172) (s 172 60) 0 rfl rfl rfl rfl rfl ?_
  refine tK rfl ?_
  refine tJ1 rfl (fun g1 _ l1 => zT_le ?_ (Nat.le_of_lt l1)) (fun g1 _ l1 => zT_le ?_ (Nat.le_of_lt l1))
  · refine tL ((172 : Nat) : Int) 0 rfl rfl rfl ?_
    refine tFR (c := 172) 216 rfl rfl rfl rfl rfl ?_
    refine tK rfl ?_
    refine tL ((172 : Nat) : Int) 0 rfl rfl rfl ?_
    refine tFR (c := 172) 219 rfl rfl rfl rfl rfl ?_
    refine tK rfl ?_
    refine tL ((172 : Nat) : Int) 0 rfl rfl rfl ?_
    refine tFv (c := 172) (s 172 60) 0 rfl rfl rfl rfl rfl ?_
    refine tM (v := w32 (13 * (s 172 60))) rfl rfl ?_
    exact tCall [(((216 : Nat) : Int), 0), (0, 0), (((219 : Nat) : Int), 0), (w32 (13 * (s 172 60)), 0)] [] rfl rfl rfl (fun m l => h0 g1 m (Nat.lt_of_lt_of_le l (Nat.le_refl n)))
  · refine tK rfl ?_
    refine tS [((172 : Nat) : Int), 0] rfl rfl ?_
    exact zT_le (h1 g1) (Nat.le_refl n)

theorem b_X11_keeps_11 {n : Nat} {Q : Zr → Prop} (x1 : Int) (s : Zs) 
    (h0 : ∀ (g1 : 195 ≤ x1), ∀ m, m < n → zC m 1426 [(((216 : Nat) : Int), 0), (0, 0), (((219 : Nat) : Int), 0), (w32 (13 * (w32 ((s 172 60) - 1))), 0)] (zu s 172 60 (w32 ((s 172 60) - 1))) (fun p => zT (zE 1461) (Pt PX11_keeps) m (68, [((172 : Nat) : Int), x1], p.1 ++ [], p.2) Q))
    (h1 : ∀ (g1 : x1 < 195), ∀ m, m < n → zT (zE 1461) (Pt PX11_keeps) m (11, [((172 : Nat) : Int), w32 (x1 + 1)], [], zu s 219 x1.toNat (s 219 ((w32 (x1 + 13)).toNat))) Q) : zT (zE 1461) (Pt PX11_keeps) n (11, [((172 : Nat) : Int), x1], [], s) Q := by
  refine tL x1 0 rfl rfl rfl ?_
  refine tK rfl ?_
  refine tJ3 rfl (fun g1 _ l1 => zT_le ?_ (Nat.le_of_lt l1)) (fun g1 _ l1 => zT_le ?_ (Nat.le_of_lt l1))
  · refine tL ((172 : Nat) : Int) 0 rfl rfl rfl ?_
    refine tD rfl ?_
    refine tFv (c := 172) (s 172 60) 0 rfl rfl rfl rfl rfl ?_
    refine tK rfl ?_
    refine tB (v := w32 ((s 172 60) - 1)) rfl rfl ?_
    refine tPut 172 rfl rfl ?_
    refine tL ((172 : Nat) : Int) 0 rfl rfl rfl ?_
    refine tFR (c := 172) 216 rfl rfl rfl rfl rfl ?_
    refine tK rfl ?_
    refine tL ((172 : Nat) : Int) 0 rfl rfl rfl ?_
    refine tFR (c := 172) 219 rfl rfl rfl rfl rfl ?_
    refine tK rfl ?_
    refine tL ((172 : Nat) : Int) 0 rfl rfl rfl ?_
    refine tFv (c := 172) (w32 ((s 172 60) - 1)) 0 rfl rfl rfl rfl rfl ?_
    refine tM (v := w32 (13 * (w32 ((s 172 60) - 1)))) rfl rfl ?_
    exact tCall [(((216 : Nat) : Int), 0), (0, 0), (((219 : Nat) : Int), 0), (w32 (13 * (w32 ((s 172 60) - 1))), 0)] [] rfl rfl rfl (fun m l => h0 g1 m (Nat.lt_of_lt_of_le l (Nat.le_refl n)))
  · refine tL ((172 : Nat) : Int) 0 rfl rfl rfl ?_
    refine tFR (c := 172) 219 rfl rfl rfl rfl rfl ?_
    refine tL x1 0 rfl rfl rfl ?_
    refine tL ((172 : Nat) : Int) 0 rfl rfl rfl ?_
    refine tFR (c := 172) 219 rfl rfl rfl rfl rfl ?_
    refine tL x1 0 rfl rfl rfl ?_
    refine tK rfl ?_
    refine tB (v := w32 (x1 + 13)) rfl rfl ?_
    refine tAv 219 ((w32 (x1 + 13)).toNat) (s 219 ((w32 (x1 + 13)).toNat)) 0 rfl rfl rfl (by decide) rfl rfl ?_
    refine tAS 219 x1.toNat rfl rfl rfl (by decide) ?_
    refine tInc [((172 : Nat) : Int), w32 (x1 + 1)] rfl rfl ?_
    exact tGb rfl (fun m2 l2 => h1 g1 m2 (Nat.lt_of_lt_of_le l2 (Nat.le_refl n)))

theorem b_X11_keeps_68 {n : Nat} {Q : Zr → Prop} (x1 : Int) (s : Zs) 
    (h0 : Q ([], zu s 172 60 (w32 ((s 172 60) + 1)))) : zT (zE 1461) (Pt PX11_keeps) n (68, [((172 : Nat) : Int), x1], [], s) Q := by
  refine tL ((172 : Nat) : Int) 0 rfl rfl rfl ?_
  refine tD rfl ?_
  refine tFv (c := 172) (s 172 60) 0 rfl rfl rfl rfl rfl ?_
  refine tK rfl ?_
  refine tB (v := w32 ((s 172 60) + 1)) rfl rfl ?_
  refine tPut 172 rfl rfl ?_
  exact tR rfl (h0)

theorem c_X11_keeps {n : Nat} {Q : Zr → Prop} {a0 : Int} {s : Zs} (h : zT (zE 1461) (Pt PX11_keeps) n (0, [a0, 0], [], s) Q) : zC n 1461 [(a0, 0)] s Q := h

theorem b_X11_bits_0 {n : Nat} {Q : Zr → Prop} (x0 x1 x2 : Int) (s : Zs) 
    (h0 : zT (zE 1414) (Pt PX11_bits) n (4, [x0, 0, 0], [], s) Q) : zT (zE 1414) (Pt PX11_bits) n (0, [x0, x1, x2], [], s) Q := by
  refine tK rfl ?_
  refine tS [x0, 0, x2] rfl rfl ?_
  refine tK rfl ?_
  refine tS [x0, 0, 0] rfl rfl ?_
  exact zT_le (h0) (Nat.le_refl n)

theorem b_X11_bits_4 {n : Nat} {Q : Zr → Prop} (x0 x1 x2 : Int) (s : Zs) 
    (h0 : ∀ (g1 : 10 ≤ x2), Q ([(x1, 0)], s))
    (h1 : ∀ (g1 : x2 < 10), ∀ m, m < n → zT (zE 1414) (Pt PX11_bits) m (4, [x0, w32 (x1 + (zand (zshr x0 x2) 1)), w32 (x2 + 1)], [], s) Q) : zT (zE 1414) (Pt PX11_bits) n (4, [x0, x1, x2], [], s) Q := by
  refine tL x2 0 rfl rfl rfl ?_
  refine tK rfl ?_
  refine tJ3 rfl (fun g1 _ l1 => zT_le ?_ (Nat.le_of_lt l1)) (fun g1 _ l1 => zT_le ?_ (Nat.le_of_lt l1))
  · refine tL x1 0 rfl rfl rfl ?_
    exact tR rfl (h0 g1)
  · refine tL x1 0 rfl rfl rfl ?_
    refine tL x0 0 rfl rfl rfl ?_
    refine tL x2 0 rfl rfl rfl ?_
    refine tB (v := zshr x0 x2) rfl rfl ?_
    refine tK rfl ?_
    refine tB (v := zand (zshr x0 x2) 1) rfl rfl ?_
    refine tB (v := w32 (x1 + (zand (zshr x0 x2) 1))) rfl rfl ?_
    refine tS [x0, w32 (x1 + (zand (zshr x0 x2) 1)), x2] rfl rfl ?_
    refine tInc [x0, w32 (x1 + (zand (zshr x0 x2) 1)), w32 (x2 + 1)] rfl rfl ?_
    exact tGb rfl (fun m2 l2 => h1 g1 m2 (Nat.lt_of_lt_of_le l2 (Nat.le_refl n)))

theorem c_X11_bits {n : Nat} {Q : Zr → Prop} {a0 : Int} {s : Zs} (h : zT (zE 1414) (Pt PX11_bits) n (0, [a0, 0, 0], [], s) Q) : zC n 1414 [(a0, 0)] s Q := h

theorem b_X11_worked_0 {n : Nat} {Q : Zr → Prop} (x1 x2 x3 x4 x5 : Int) (s : Zs) 
    (h0 : ∀ m, m < n → zC m 1485 [(((172 : Nat) : Int), 0), (0, 0)] s (fun p => zT (zE 1526) (Pt PX11_worked) m (7, [((172 : Nat) : Int), x1, 0, x3, x4, x5], p.1 ++ [], p.2) Q)) : zT (zE 1526) (Pt PX11_worked) n (0, [((172 : Nat) : Int), x1, x2, x3, x4, x5], [], s) Q := by
  refine tK rfl ?_
  refine tS [((172 : Nat) : Int), x1, 0, x3, x4, x5] rfl rfl ?_
  refine tL ((172 : Nat) : Int) 0 rfl rfl rfl ?_
  refine tK rfl ?_
  exact tCall [(((172 : Nat) : Int), 0), (0, 0)] [] rfl rfl rfl (fun m l => h0 m (Nat.lt_of_lt_of_le l (Nat.le_refl n)))

theorem b_X11_worked_14 {n : Nat} {Q : Zr → Prop} (x1 x2 x3 x4 x5 : Int) (s : Zs) 
    (h0 : ∀ (g1 : s 193 x1.toNat ≤ x3), ∀ m, m < n → zC m 1517 [(((172 : Nat) : Int), 0), (0, 0)] s (fun p => zT (zE 1526) (Pt PX11_worked) m (340, [((172 : Nat) : Int), x1, x2, x3, x4, x5], p.1 ++ [], p.2) Q))
    (h1 : ∀ (g1 : x3 < s 193 x1.toNat), ∀ (g3 : s 194 x3.toNat = 28), ∀ m, m < n → zC m 1485 [(((172 : Nat) : Int), 0), (w32 (x2 + 1), 0)] (zu s 205 ((w32 (x2 + 1)).toNat) 0) (fun p => zT (zE 1526) (Pt PX11_worked) m (72, [((172 : Nat) : Int), x1, w32 (x2 + 1), x3, s 194 x3.toNat, x5], p.1 ++ [], p.2) Q))
    (h2 : ∀ (g1 : x3 < s 193 x1.toNat), ∀ (g3 : s 194 x3.toNat ≠ 28), ∀ (g5 : s 194 x3.toNat ≠ 30), ∀ (g6 : s 194 x3.toNat = 20), ∀ m, m < n → zC m 1516 [(((172 : Nat) : Int), 0), (x2, 0)] s (fun p => zT (zE 1526) (Pt PX11_worked) m (94, [((172 : Nat) : Int), x1, x2, x3, s 194 x3.toNat, x5], p.1 ++ [], p.2) Q))
    (h3 : ∀ (g1 : x3 < s 193 x1.toNat), ∀ (g3 : s 194 x3.toNat ≠ 28), ∀ (g5 : s 194 x3.toNat ≠ 30), ∀ (g6 : s 194 x3.toNat ≠ 20), ∀ (g8 : s 194 x3.toNat ≠ 21), ∀ (g9 : s 194 x3.toNat ≠ 22), ∀ (g10 : s 194 x3.toNat = 24), ∀ m, m < n → zC m 1516 [(((172 : Nat) : Int), 0), (x2, 0)] s (fun p => zT (zE 1526) (Pt PX11_worked) m (142, [((172 : Nat) : Int), x1, x2, x3, s 194 x3.toNat, x5], p.1 ++ [], p.2) Q))
    (h4 : ∀ (g1 : x3 < s 193 x1.toNat), ∀ (g3 : s 194 x3.toNat ≠ 28), ∀ (g5 : s 194 x3.toNat ≠ 30), ∀ (g6 : s 194 x3.toNat ≠ 20), ∀ (g8 : s 194 x3.toNat ≠ 21), ∀ (g9 : s 194 x3.toNat ≠ 22), ∀ (g10 : s 194 x3.toNat ≠ 24), ∀ (g12 : s 194 x3.toNat ≠ 25), ∀ (g13 : s 194 x3.toNat = 26), ∀ m, m < n → zC m 1517 [(((172 : Nat) : Int), 0), (x2, 0)] s (fun p => zT (zE 1526) (Pt PX11_worked) m (199, [((172 : Nat) : Int), x1, x2, x3, s 194 x3.toNat, x5], p.1 ++ [], p.2) Q))
    (h5 : ∀ (g1 : x3 < s 193 x1.toNat), ∀ (g3 : s 194 x3.toNat ≠ 28), ∀ (g5 : s 194 x3.toNat ≠ 30), ∀ (g6 : s 194 x3.toNat ≠ 20), ∀ (g8 : s 194 x3.toNat ≠ 21), ∀ (g9 : s 194 x3.toNat ≠ 22), ∀ (g10 : s 194 x3.toNat ≠ 24), ∀ (g12 : s 194 x3.toNat ≠ 25), ∀ (g13 : s 194 x3.toNat ≠ 26), ∀ (g15 : s 194 x3.toNat ≠ 27), ∀ (g16 : s 194 x3.toNat < 100), ∀ (g17 : 20 ≤ s 194 x3.toNat), ∀ (g18 : s 194 x3.toNat ≠ 29), zT (zE 1526) (Pt PX11_worked) n (268, [((172 : Nat) : Int), x1, x2, x3, s 194 x3.toNat, 0], [], s) Q)
    (h6 : ∀ (g1 : x3 < s 193 x1.toNat), ∀ (g3 : s 194 x3.toNat ≠ 28), ∀ (g5 : s 194 x3.toNat ≠ 30), ∀ (g6 : s 194 x3.toNat ≠ 20), ∀ (g8 : s 194 x3.toNat ≠ 21), ∀ (g9 : s 194 x3.toNat ≠ 22), ∀ (g10 : s 194 x3.toNat ≠ 24), ∀ (g12 : s 194 x3.toNat ≠ 25), ∀ (g13 : s 194 x3.toNat ≠ 26), ∀ (g15 : s 194 x3.toNat ≠ 27), ∀ (g16 : s 194 x3.toNat < 100), ∀ (g17 : 20 ≤ s 194 x3.toNat), ∀ (g18 : s 194 x3.toNat = 29), ∀ m, m < n → zC m 1517 [(((172 : Nat) : Int), 0), (x2, 0)] s (fun p => zT (zE 1526) (Pt PX11_worked) m (257, [((172 : Nat) : Int), x1, x2, x3, s 194 x3.toNat, 0], p.1 ++ [], p.2) Q))
    (h7 : ∀ (g1 : x3 < s 193 x1.toNat), ∀ (g3 : s 194 x3.toNat ≠ 28), ∀ (g5 : s 194 x3.toNat ≠ 30), ∀ (g6 : s 194 x3.toNat ≠ 20), ∀ (g8 : s 194 x3.toNat ≠ 21), ∀ (g9 : s 194 x3.toNat ≠ 22), ∀ (g10 : s 194 x3.toNat ≠ 24), ∀ (g12 : s 194 x3.toNat ≠ 25), ∀ (g13 : s 194 x3.toNat ≠ 26), ∀ (g15 : s 194 x3.toNat ≠ 27), ∀ (g16 : s 194 x3.toNat < 100), ∀ (g17 : s 194 x3.toNat < 20), ∀ (g20 : s 194 x3.toNat ≠ 29), zT (zE 1526) (Pt PX11_worked) n (268, [((172 : Nat) : Int), x1, x2, x3, s 194 x3.toNat, s 206 ((s 194 x3.toNat).toNat)], [], s) Q)
    (h8 : ∀ (g1 : x3 < s 193 x1.toNat), ∀ (g3 : s 194 x3.toNat ≠ 28), ∀ (g5 : s 194 x3.toNat ≠ 30), ∀ (g6 : s 194 x3.toNat ≠ 20), ∀ (g8 : s 194 x3.toNat ≠ 21), ∀ (g9 : s 194 x3.toNat ≠ 22), ∀ (g10 : s 194 x3.toNat ≠ 24), ∀ (g12 : s 194 x3.toNat ≠ 25), ∀ (g13 : s 194 x3.toNat ≠ 26), ∀ (g15 : s 194 x3.toNat ≠ 27), ∀ (g16 : s 194 x3.toNat < 100), ∀ (g17 : s 194 x3.toNat < 20), ∀ (g20 : s 194 x3.toNat = 29), ∀ m, m < n → zC m 1517 [(((172 : Nat) : Int), 0), (x2, 0)] s (fun p => zT (zE 1526) (Pt PX11_worked) m (257, [((172 : Nat) : Int), x1, x2, x3, s 194 x3.toNat, s 206 ((s 194 x3.toNat).toNat)], p.1 ++ [], p.2) Q))
    (h9 : ∀ (g1 : x3 < s 193 x1.toNat), ∀ (g3 : s 194 x3.toNat ≠ 28), ∀ (g5 : s 194 x3.toNat ≠ 30), ∀ (g6 : s 194 x3.toNat ≠ 20), ∀ (g8 : s 194 x3.toNat ≠ 21), ∀ (g9 : s 194 x3.toNat ≠ 22), ∀ (g10 : s 194 x3.toNat ≠ 24), ∀ (g12 : s 194 x3.toNat ≠ 25), ∀ (g13 : s 194 x3.toNat ≠ 26), ∀ (g15 : s 194 x3.toNat ≠ 27), ∀ (g16 : 100 ≤ s 194 x3.toNat), ∀ (g22 : s 194 x3.toNat ≠ 29), zT (zE 1526) (Pt PX11_worked) n (268, [((172 : Nat) : Int), x1, x2, x3, s 194 x3.toNat, w32 ((s 194 x3.toNat) - 100)], [], s) Q)
    (h10 : ∀ (g1 : x3 < s 193 x1.toNat), ∀ (g3 : s 194 x3.toNat ≠ 28), ∀ (g5 : s 194 x3.toNat ≠ 30), ∀ (g6 : s 194 x3.toNat ≠ 20), ∀ (g8 : s 194 x3.toNat ≠ 21), ∀ (g9 : s 194 x3.toNat ≠ 22), ∀ (g10 : s 194 x3.toNat ≠ 24), ∀ (g12 : s 194 x3.toNat ≠ 25), ∀ (g13 : s 194 x3.toNat ≠ 26), ∀ (g15 : s 194 x3.toNat ≠ 27), ∀ (g16 : 100 ≤ s 194 x3.toNat), ∀ (g22 : s 194 x3.toNat = 29), ∀ m, m < n → zC m 1517 [(((172 : Nat) : Int), 0), (x2, 0)] s (fun p => zT (zE 1526) (Pt PX11_worked) m (257, [((172 : Nat) : Int), x1, x2, x3, s 194 x3.toNat, w32 ((s 194 x3.toNat) - 100)], p.1 ++ [], p.2) Q))
    (h11 : ∀ (g1 : x3 < s 193 x1.toNat), ∀ (g3 : s 194 x3.toNat ≠ 28), ∀ (g5 : s 194 x3.toNat ≠ 30), ∀ (g6 : s 194 x3.toNat ≠ 20), ∀ (g8 : s 194 x3.toNat ≠ 21), ∀ (g9 : s 194 x3.toNat ≠ 22), ∀ (g10 : s 194 x3.toNat ≠ 24), ∀ (g12 : s 194 x3.toNat ≠ 25), ∀ (g13 : s 194 x3.toNat ≠ 26), ∀ (g15 : s 194 x3.toNat = 27), ∀ m, m < n → zC m 1517 [(((172 : Nat) : Int), 0), (x2, 0)] s (fun p => zT (zE 1526) (Pt PX11_worked) m (199, [((172 : Nat) : Int), x1, x2, x3, s 194 x3.toNat, x5], p.1 ++ [], p.2) Q))
    (h12 : ∀ (g1 : x3 < s 193 x1.toNat), ∀ (g3 : s 194 x3.toNat ≠ 28), ∀ (g5 : s 194 x3.toNat ≠ 30), ∀ (g6 : s 194 x3.toNat ≠ 20), ∀ (g8 : s 194 x3.toNat ≠ 21), ∀ (g9 : s 194 x3.toNat ≠ 22), ∀ (g10 : s 194 x3.toNat ≠ 24), ∀ (g12 : s 194 x3.toNat = 25), ∀ m, m < n → zC m 1516 [(((172 : Nat) : Int), 0), (x2, 0)] s (fun p => zT (zE 1526) (Pt PX11_worked) m (142, [((172 : Nat) : Int), x1, x2, x3, s 194 x3.toNat, x5], p.1 ++ [], p.2) Q))
    (h13 : ∀ (g1 : x3 < s 193 x1.toNat), ∀ (g3 : s 194 x3.toNat ≠ 28), ∀ (g5 : s 194 x3.toNat ≠ 30), ∀ (g6 : s 194 x3.toNat ≠ 20), ∀ (g8 : s 194 x3.toNat ≠ 21), ∀ (g9 : s 194 x3.toNat = 22), ∀ m, m < n → zT (zE 1526) (Pt PX11_worked) m (14, [((172 : Nat) : Int), x1, x2, w32 (x3 + 1), s 194 x3.toNat, x5], [], zu s 204 x2.toNat (s 194 x3.toNat)) Q)
    (h14 : ∀ (g1 : x3 < s 193 x1.toNat), ∀ (g3 : s 194 x3.toNat ≠ 28), ∀ (g5 : s 194 x3.toNat ≠ 30), ∀ (g6 : s 194 x3.toNat ≠ 20), ∀ (g8 : s 194 x3.toNat = 21), ∀ m, m < n → zC m 1516 [(((172 : Nat) : Int), 0), (x2, 0)] s (fun p => zT (zE 1526) (Pt PX11_worked) m (94, [((172 : Nat) : Int), x1, x2, x3, s 194 x3.toNat, x5], p.1 ++ [], p.2) Q))
    (h15 : ∀ (g1 : x3 < s 193 x1.toNat), ∀ (g3 : s 194 x3.toNat ≠ 28), ∀ (g5 : s 194 x3.toNat = 30), ∀ m, m < n → zC m 1485 [(((172 : Nat) : Int), 0), (w32 (x2 + 1), 0)] (zu s 205 ((w32 (x2 + 1)).toNat) 1) (fun p => zT (zE 1526) (Pt PX11_worked) m (72, [((172 : Nat) : Int), x1, w32 (x2 + 1), x3, s 194 x3.toNat, x5], p.1 ++ [], p.2) Q)) : zT (zE 1526) (Pt PX11_worked) n (14, [((172 : Nat) : Int), x1, x2, x3, x4, x5], [], s) Q := by
  refine tL x3 0 rfl rfl rfl ?_
  refine tL ((172 : Nat) : Int) 0 rfl rfl rfl ?_
  refine tFR (c := 172) 193 rfl rfl rfl rfl rfl ?_
  refine tL x1 0 rfl rfl rfl ?_
  refine tAv 193 x1.toNat (s 193 x1.toNat) 0 rfl rfl rfl (by decide) rfl rfl ?_
  refine tJ3 rfl (fun g1 _ l1 => zT_le ?_ (Nat.le_of_lt l1)) (fun g1 _ l1 => zT_le ?_ (Nat.le_of_lt l1))
  · refine tL ((172 : Nat) : Int) 0 rfl rfl rfl ?_
    refine tK rfl ?_
    exact tCall [(((172 : Nat) : Int), 0), (0, 0)] [] rfl rfl rfl (fun m l => h0 g1 m (Nat.lt_of_lt_of_le l (Nat.le_refl n)))
  · refine tL ((172 : Nat) : Int) 0 rfl rfl rfl ?_
    refine tFR (c := 172) 194 rfl rfl rfl rfl rfl ?_
    refine tL x3 0 rfl rfl rfl ?_
    refine tAv 194 x3.toNat (s 194 x3.toNat) 0 rfl rfl rfl (by decide) rfl rfl ?_
    refine tS [((172 : Nat) : Int), x1, x2, x3, s 194 x3.toNat, x5] rfl rfl ?_
    refine tL (s 194 x3.toNat) 0 rfl rfl rfl ?_
    refine tK rfl ?_
    refine tJ0 rfl (fun g3 _ l3 => zT_le ?_ (Nat.le_of_lt l3)) (fun g3 _ l3 => zT_le ?_ (Nat.le_of_lt l3))
    · refine tInc [((172 : Nat) : Int), x1, w32 (x2 + 1), x3, s 194 x3.toNat, x5] rfl rfl ?_
      refine tL ((172 : Nat) : Int) 0 rfl rfl rfl ?_
      refine tFR (c := 172) 205 rfl rfl rfl rfl rfl ?_
      refine tL (w32 (x2 + 1)) 0 rfl rfl rfl ?_
      refine tL (s 194 x3.toNat) 0 rfl rfl rfl ?_
      refine tK rfl ?_
      refine tJ1 rfl (fun g _ l => zT_le ?_ (Nat.le_of_lt l)) (fun g _ l => False.elim (by omega))
      refine tK rfl ?_
      refine tAS 205 ((w32 (x2 + 1)).toNat) rfl rfl rfl (by decide) ?_
      refine tL ((172 : Nat) : Int) 0 rfl rfl rfl ?_
      refine tL (w32 (x2 + 1)) 0 rfl rfl rfl ?_
      exact tCall [(((172 : Nat) : Int), 0), (w32 (x2 + 1), 0)] [] rfl rfl rfl (fun m l => h1 g1 g3 m (Nat.lt_of_lt_of_le l (Nat.le_refl n)))
    · refine tL (s 194 x3.toNat) 0 rfl rfl rfl ?_
      refine tK rfl ?_
      refine tJ1 rfl (fun g5 _ l5 => zT_le ?_ (Nat.le_of_lt l5)) (fun g5 _ l5 => zT_le ?_ (Nat.le_of_lt l5))
      · refine tL (s 194 x3.toNat) 0 rfl rfl rfl ?_
        refine tK rfl ?_
        refine tJ0 rfl (fun g6 _ l6 => zT_le ?_ (Nat.le_of_lt l6)) (fun g6 _ l6 => zT_le ?_ (Nat.le_of_lt l6))
        · refine tL ((172 : Nat) : Int) 0 rfl rfl rfl ?_
          refine tL x2 0 rfl rfl rfl ?_
          exact tCall [(((172 : Nat) : Int), 0), (x2, 0)] [] rfl rfl rfl (fun m l => h2 g1 g3 g5 g6 m (Nat.lt_of_lt_of_le l (Nat.le_refl n)))
        · refine tL (s 194 x3.toNat) 0 rfl rfl rfl ?_
          refine tK rfl ?_
          refine tJ1 rfl (fun g8 _ l8 => zT_le ?_ (Nat.le_of_lt l8)) (fun g8 _ l8 => zT_le ?_ (Nat.le_of_lt l8))
          · refine tL (s 194 x3.toNat) 0 rfl rfl rfl ?_
            refine tK rfl ?_
            refine tJ1 rfl (fun g9 _ l9 => zT_le ?_ (Nat.le_of_lt l9)) (fun g9 _ l9 => zT_le ?_ (Nat.le_of_lt l9))
            · refine tL (s 194 x3.toNat) 0 rfl rfl rfl ?_
              refine tK rfl ?_
              refine tJ0 rfl (fun g10 _ l10 => zT_le ?_ (Nat.le_of_lt l10)) (fun g10 _ l10 => zT_le ?_ (Nat.le_of_lt l10))
              · refine tL ((172 : Nat) : Int) 0 rfl rfl rfl ?_
                refine tL x2 0 rfl rfl rfl ?_
                exact tCall [(((172 : Nat) : Int), 0), (x2, 0)] [] rfl rfl rfl (fun m l => h3 g1 g3 g5 g6 g8 g9 g10 m (Nat.lt_of_lt_of_le l (Nat.le_refl n)))
              · refine tL (s 194 x3.toNat) 0 rfl rfl rfl ?_
                refine tK rfl ?_
                refine tJ1 rfl (fun g12 _ l12 => zT_le ?_ (Nat.le_of_lt l12)) (fun g12 _ l12 => zT_le ?_ (Nat.le_of_lt l12))
                · refine tL (s 194 x3.toNat) 0 rfl rfl rfl ?_
                  refine tK rfl ?_
                  refine tJ0 rfl (fun g13 _ l13 => zT_le ?_ (Nat.le_of_lt l13)) (fun g13 _ l13 => zT_le ?_ (Nat.le_of_lt l13))
                  · refine tL ((172 : Nat) : Int) 0 rfl rfl rfl ?_
                    refine tL x2 0 rfl rfl rfl ?_
                    exact tCall [(((172 : Nat) : Int), 0), (x2, 0)] [] rfl rfl rfl (fun m l => h4 g1 g3 g5 g6 g8 g9 g10 g12 g13 m (Nat.lt_of_lt_of_le l (Nat.le_refl n)))
                  · refine tL (s 194 x3.toNat) 0 rfl rfl rfl ?_
                    refine tK rfl ?_
                    refine tJ1 rfl (fun g15 _ l15 => zT_le ?_ (Nat.le_of_lt l15)) (fun g15 _ l15 => zT_le ?_ (Nat.le_of_lt l15))
                    · refine tL (s 194 x3.toNat) 0 rfl rfl rfl ?_
                      refine tK rfl ?_
                      refine tJ2 rfl (fun g16 _ l16 => zT_le ?_ (Nat.le_of_lt l16)) (fun g16 _ l16 => zT_le ?_ (Nat.le_of_lt l16))
                      · refine tL (s 194 x3.toNat) 0 rfl rfl rfl ?_
                        refine tK rfl ?_
                        refine tJ3 rfl (fun g17 _ l17 => zT_le ?_ (Nat.le_of_lt l17)) (fun g17 _ l17 => zT_le ?_ (Nat.le_of_lt l17))
                        · refine tK rfl ?_
                          refine tS [((172 : Nat) : Int), x1, x2, x3, s 194 x3.toNat, 0] rfl rfl ?_
                          refine tL (s 194 x3.toNat) 0 rfl rfl rfl ?_
                          refine tK rfl ?_
                          refine tJ1 rfl (fun g18 _ l18 => zT_le ?_ (Nat.le_of_lt l18)) (fun g18 _ l18 => zT_le ?_ (Nat.le_of_lt l18))
                          · exact zT_le (h5 g1 g3 g5 g6 g8 g9 g10 g12 g13 g15 g16 g17 g18) (Nat.le_refl n)
                          · refine tL ((172 : Nat) : Int) 0 rfl rfl rfl ?_
                            refine tL x2 0 rfl rfl rfl ?_
                            exact tCall [(((172 : Nat) : Int), 0), (x2, 0)] [] rfl rfl rfl (fun m l => h6 g1 g3 g5 g6 g8 g9 g10 g12 g13 g15 g16 g17 g18 m (Nat.lt_of_lt_of_le l (Nat.le_refl n)))
                        · refine tL ((172 : Nat) : Int) 0 rfl rfl rfl ?_
                          refine tFR (c := 172) 206 rfl rfl rfl rfl rfl ?_
                          refine tL (s 194 x3.toNat) 0 rfl rfl rfl ?_
                          refine tAv 206 ((s 194 x3.toNat).toNat) (s 206 ((s 194 x3.toNat).toNat)) 0 rfl rfl rfl (by decide) rfl rfl ?_
                          refine tG rfl ?_
                          refine tS [((172 : Nat) : Int), x1, x2, x3, s 194 x3.toNat, s 206 ((s 194 x3.toNat).toNat)] rfl rfl ?_
                          refine tL (s 194 x3.toNat) 0 rfl rfl rfl ?_
                          refine tK rfl ?_
                          refine tJ1 rfl (fun g20 _ l20 => zT_le ?_ (Nat.le_of_lt l20)) (fun g20 _ l20 => zT_le ?_ (Nat.le_of_lt l20))
                          · exact zT_le (h7 g1 g3 g5 g6 g8 g9 g10 g12 g13 g15 g16 g17 g20) (Nat.le_refl n)
                          · refine tL ((172 : Nat) : Int) 0 rfl rfl rfl ?_
                            refine tL x2 0 rfl rfl rfl ?_
                            exact tCall [(((172 : Nat) : Int), 0), (x2, 0)] [] rfl rfl rfl (fun m l => h8 g1 g3 g5 g6 g8 g9 g10 g12 g13 g15 g16 g17 g20 m (Nat.lt_of_lt_of_le l (Nat.le_refl n)))
                      · refine tL (s 194 x3.toNat) 0 rfl rfl rfl ?_
                        refine tK rfl ?_
                        refine tB (v := w32 ((s 194 x3.toNat) - 100)) rfl rfl ?_
                        refine tG rfl ?_
                        refine tS [((172 : Nat) : Int), x1, x2, x3, s 194 x3.toNat, w32 ((s 194 x3.toNat) - 100)] rfl rfl ?_
                        refine tL (s 194 x3.toNat) 0 rfl rfl rfl ?_
                        refine tK rfl ?_
                        refine tJ1 rfl (fun g22 _ l22 => zT_le ?_ (Nat.le_of_lt l22)) (fun g22 _ l22 => zT_le ?_ (Nat.le_of_lt l22))
                        · exact zT_le (h9 g1 g3 g5 g6 g8 g9 g10 g12 g13 g15 g16 g22) (Nat.le_refl n)
                        · refine tL ((172 : Nat) : Int) 0 rfl rfl rfl ?_
                          refine tL x2 0 rfl rfl rfl ?_
                          exact tCall [(((172 : Nat) : Int), 0), (x2, 0)] [] rfl rfl rfl (fun m l => h10 g1 g3 g5 g6 g8 g9 g10 g12 g13 g15 g16 g22 m (Nat.lt_of_lt_of_le l (Nat.le_refl n)))
                    · refine tL ((172 : Nat) : Int) 0 rfl rfl rfl ?_
                      refine tL x2 0 rfl rfl rfl ?_
                      exact tCall [(((172 : Nat) : Int), 0), (x2, 0)] [] rfl rfl rfl (fun m l => h11 g1 g3 g5 g6 g8 g9 g10 g12 g13 g15 m (Nat.lt_of_lt_of_le l (Nat.le_refl n)))
                · refine tL ((172 : Nat) : Int) 0 rfl rfl rfl ?_
                  refine tL x2 0 rfl rfl rfl ?_
                  exact tCall [(((172 : Nat) : Int), 0), (x2, 0)] [] rfl rfl rfl (fun m l => h12 g1 g3 g5 g6 g8 g9 g10 g12 m (Nat.lt_of_lt_of_le l (Nat.le_refl n)))
            · refine tL ((172 : Nat) : Int) 0 rfl rfl rfl ?_
              refine tFR (c := 172) 204 rfl rfl rfl rfl rfl ?_
              refine tL x2 0 rfl rfl rfl ?_
              refine tL (s 194 x3.toNat) 0 rfl rfl rfl ?_
              refine tAS 204 x2.toNat rfl rfl rfl (by decide) ?_
              refine tG rfl ?_
              refine tInc [((172 : Nat) : Int), x1, x2, w32 (x3 + 1), s 194 x3.toNat, x5] rfl rfl ?_
              exact tGb rfl (fun m2 l2 => h13 g1 g3 g5 g6 g8 g9 m2 (Nat.lt_of_lt_of_le l2 (Nat.le_refl n)))
          · refine tL ((172 : Nat) : Int) 0 rfl rfl rfl ?_
            refine tL x2 0 rfl rfl rfl ?_
            exact tCall [(((172 : Nat) : Int), 0), (x2, 0)] [] rfl rfl rfl (fun m l => h14 g1 g3 g5 g6 g8 m (Nat.lt_of_lt_of_le l (Nat.le_refl n)))
      · refine tInc [((172 : Nat) : Int), x1, w32 (x2 + 1), x3, s 194 x3.toNat, x5] rfl rfl ?_
        refine tL ((172 : Nat) : Int) 0 rfl rfl rfl ?_
        refine tFR (c := 172) 205 rfl rfl rfl rfl rfl ?_
        refine tL (w32 (x2 + 1)) 0 rfl rfl rfl ?_
        refine tL (s 194 x3.toNat) 0 rfl rfl rfl ?_
        refine tK rfl ?_
        refine tJ1 rfl (fun g _ l => False.elim (by omega)) (fun g _ l => zT_le ?_ (Nat.le_of_lt l))
        refine tK rfl ?_
        refine tG rfl ?_
        refine tAS 205 ((w32 (x2 + 1)).toNat) rfl rfl rfl (by decide) ?_
        refine tL ((172 : Nat) : Int) 0 rfl rfl rfl ?_
        refine tL (w32 (x2 + 1)) 0 rfl rfl rfl ?_
        exact tCall [(((172 : Nat) : Int), 0), (w32 (x2 + 1), 0)] [] rfl rfl rfl (fun m l => h15 g1 g3 g5 m (Nat.lt_of_lt_of_le l (Nat.le_refl n)))

theorem b_X11_worked_268 {n : Nat} {Q : Zr → Prop} (x1 x2 x3 x4 x5 : Int) (s : Zs) 
    (h0 : ∀ (g1 : x2 ≤ 0), ∀ (g2 : s 204 x2.toNat ≠ 0), ∀ m, m < n → zT (zE 1526) (Pt PX11_worked) m (14, [((172 : Nat) : Int), x1, x2, w32 (x3 + 1), x4, x5], [], zu s 203 x2.toNat (w32 ((s 203 x2.toNat) * x5))) Q)
    (h1 : ∀ (g1 : x2 ≤ 0), ∀ (g2 : s 204 x2.toNat = 0), ∀ m, m < n → zT (zE 1526) (Pt PX11_worked) m (14, [((172 : Nat) : Int), x1, x2, w32 (x3 + 1), x4, x5], [], zu s 203 x2.toNat x5) Q)
    (h2 : ∀ (g1 : 0 < x2), ∀ (g3 : s 205 x2.toNat ≠ 1), ∀ (g4 : s 204 x2.toNat ≠ 0), ∀ m, m < n → zT (zE 1526) (Pt PX11_worked) m (14, [((172 : Nat) : Int), x1, x2, w32 (x3 + 1), x4, x5], [], zu s 203 x2.toNat (w32 ((s 203 x2.toNat) * x5))) Q)
    (h3 : ∀ (g1 : 0 < x2), ∀ (g3 : s 205 x2.toNat ≠ 1), ∀ (g4 : s 204 x2.toNat = 0), ∀ m, m < n → zT (zE 1526) (Pt PX11_worked) m (14, [((172 : Nat) : Int), x1, x2, w32 (x3 + 1), x4, x5], [], zu s 203 x2.toNat x5) Q)
    (h4 : ∀ (g1 : 0 < x2), ∀ (g3 : s 205 x2.toNat = 1), ∀ (g5 : x5 ≠ 0), ∀ m, m < n → zT (zE 1526) (Pt PX11_worked) m (268, [((172 : Nat) : Int), x1, w32 (x2 + (-1)), x3, x4, 0], [], s) Q)
    (h5 : ∀ (g1 : 0 < x2), ∀ (g3 : s 205 x2.toNat = 1), ∀ (g5 : x5 = 0), ∀ m, m < n → zT (zE 1526) (Pt PX11_worked) m (268, [((172 : Nat) : Int), x1, w32 (x2 + (-1)), x3, x4, 1], [], s) Q) : zT (zE 1526) (Pt PX11_worked) n (268, [((172 : Nat) : Int), x1, x2, x3, x4, x5], [], s) Q := by
  refine tL x2 0 rfl rfl rfl ?_
  refine tI5 rfl (fun g1 _ l1 => zT_le ?_ (Nat.le_of_lt l1)) (fun g1 _ l1 => zT_le ?_ (Nat.le_of_lt l1))
  · refine tL ((172 : Nat) : Int) 0 rfl rfl rfl ?_
    refine tFR (c := 172) 203 rfl rfl rfl rfl rfl ?_
    refine tL x2 0 rfl rfl rfl ?_
    refine tL ((172 : Nat) : Int) 0 rfl rfl rfl ?_
    refine tFR (c := 172) 204 rfl rfl rfl rfl rfl ?_
    refine tL x2 0 rfl rfl rfl ?_
    refine tAv 204 x2.toNat (s 204 x2.toNat) 0 rfl rfl rfl (by decide) rfl rfl ?_
    refine tI1 rfl (fun g2 _ l2 => zT_le ?_ (Nat.le_of_lt l2)) (fun g2 _ l2 => zT_le ?_ (Nat.le_of_lt l2))
    · refine tL ((172 : Nat) : Int) 0 rfl rfl rfl ?_
      refine tFR (c := 172) 203 rfl rfl rfl rfl rfl ?_
      refine tL x2 0 rfl rfl rfl ?_
      refine tAv 203 x2.toNat (s 203 x2.toNat) 0 rfl rfl rfl (by decide) rfl rfl ?_
      refine tL x5 0 rfl rfl rfl ?_
      refine tM (v := w32 ((s 203 x2.toNat) * x5)) rfl rfl ?_
      refine tAS 203 x2.toNat rfl rfl rfl (by decide) ?_
      refine tInc [((172 : Nat) : Int), x1, x2, w32 (x3 + 1), x4, x5] rfl rfl ?_
      exact tGb rfl (fun m2 l2 => h0 g1 g2 m2 (Nat.lt_of_lt_of_le l2 (Nat.le_refl n)))
    · refine tL x5 0 rfl rfl rfl ?_
      refine tG rfl ?_
      refine tAS 203 x2.toNat rfl rfl rfl (by decide) ?_
      refine tInc [((172 : Nat) : Int), x1, x2, w32 (x3 + 1), x4, x5] rfl rfl ?_
      exact tGb rfl (fun m2 l2 => h1 g1 g2 m2 (Nat.lt_of_lt_of_le l2 (Nat.le_refl n)))
  · refine tL ((172 : Nat) : Int) 0 rfl rfl rfl ?_
    refine tFR (c := 172) 205 rfl rfl rfl rfl rfl ?_
    refine tL x2 0 rfl rfl rfl ?_
    refine tAv 205 x2.toNat (s 205 x2.toNat) 0 rfl rfl rfl (by decide) rfl rfl ?_
    refine tK rfl ?_
    refine tJ1 rfl (fun g3 _ l3 => zT_le ?_ (Nat.le_of_lt l3)) (fun g3 _ l3 => zT_le ?_ (Nat.le_of_lt l3))
    · refine tL ((172 : Nat) : Int) 0 rfl rfl rfl ?_
      refine tFR (c := 172) 203 rfl rfl rfl rfl rfl ?_
      refine tL x2 0 rfl rfl rfl ?_
      refine tL ((172 : Nat) : Int) 0 rfl rfl rfl ?_
      refine tFR (c := 172) 204 rfl rfl rfl rfl rfl ?_
      refine tL x2 0 rfl rfl rfl ?_
      refine tAv 204 x2.toNat (s 204 x2.toNat) 0 rfl rfl rfl (by decide) rfl rfl ?_
      refine tI1 rfl (fun g4 _ l4 => zT_le ?_ (Nat.le_of_lt l4)) (fun g4 _ l4 => zT_le ?_ (Nat.le_of_lt l4))
      · refine tL ((172 : Nat) : Int) 0 rfl rfl rfl ?_
        refine tFR (c := 172) 203 rfl rfl rfl rfl rfl ?_
        refine tL x2 0 rfl rfl rfl ?_
        refine tAv 203 x2.toNat (s 203 x2.toNat) 0 rfl rfl rfl (by decide) rfl rfl ?_
        refine tL x5 0 rfl rfl rfl ?_
        refine tM (v := w32 ((s 203 x2.toNat) * x5)) rfl rfl ?_
        refine tAS 203 x2.toNat rfl rfl rfl (by decide) ?_
        refine tInc [((172 : Nat) : Int), x1, x2, w32 (x3 + 1), x4, x5] rfl rfl ?_
        exact tGb rfl (fun m2 l2 => h2 g1 g3 g4 m2 (Nat.lt_of_lt_of_le l2 (Nat.le_refl n)))
      · refine tL x5 0 rfl rfl rfl ?_
        refine tG rfl ?_
        refine tAS 203 x2.toNat rfl rfl rfl (by decide) ?_
        refine tInc [((172 : Nat) : Int), x1, x2, w32 (x3 + 1), x4, x5] rfl rfl ?_
        exact tGb rfl (fun m2 l2 => h3 g1 g3 g4 m2 (Nat.lt_of_lt_of_le l2 (Nat.le_refl n)))
    · refine tL x5 0 rfl rfl rfl ?_
      refine tI1 rfl (fun g5 _ l5 => zT_le ?_ (Nat.le_of_lt l5)) (fun g5 _ l5 => zT_le ?_ (Nat.le_of_lt l5))
      · refine tK rfl ?_
        refine tS [((172 : Nat) : Int), x1, x2, x3, x4, 0] rfl rfl ?_
        refine tInc [((172 : Nat) : Int), x1, w32 (x2 + (-1)), x3, x4, 0] rfl rfl ?_
        exact tGb rfl (fun m2 l2 => h4 g1 g3 g5 m2 (Nat.lt_of_lt_of_le l2 (Nat.le_refl n)))
      · refine tK rfl ?_
        refine tG rfl ?_
        refine tS [((172 : Nat) : Int), x1, x2, x3, x4, 1] rfl rfl ?_
        refine tInc [((172 : Nat) : Int), x1, w32 (x2 + (-1)), x3, x4, 1] rfl rfl ?_
        exact tGb rfl (fun m2 l2 => h5 g1 g3 g5 m2 (Nat.lt_of_lt_of_le l2 (Nat.le_refl n)))

theorem b_X11_worked_7 {n : Nat} {Q : Zr → Prop} (x1 x2 x3 x4 x5 : Int) (s : Zs) 
    (h0 : zT (zE 1526) (Pt PX11_worked) n (14, [((172 : Nat) : Int), x1, x2, s 192 x1.toNat, x4, x5], [], s) Q) : zT (zE 1526) (Pt PX11_worked) n (7, [((172 : Nat) : Int), x1, x2, x3, x4, x5], [], s) Q := by
  refine tL ((172 : Nat) : Int) 0 rfl rfl rfl ?_
  refine tFR (c := 172) 192 rfl rfl rfl rfl rfl ?_
  refine tL x1 0 rfl rfl rfl ?_
  refine tAv 192 x1.toNat (s 192 x1.toNat) 0 rfl rfl rfl (by decide) rfl rfl ?_
  refine tS [((172 : Nat) : Int), x1, x2, s 192 x1.toNat, x4, x5] rfl rfl ?_
  exact zT_le (h0) (Nat.le_refl n)

theorem b_X11_worked_340 {n : Nat} {Q : Zr → Prop} (x1 x2 x3 x4 x5 : Int) (s : Zs) 
    (h0 : Q ([(s 197 0, 0)], s)) : zT (zE 1526) (Pt PX11_worked) n (340, [((172 : Nat) : Int), x1, x2, x3, x4, x5], [], s) Q := by
  refine tL ((172 : Nat) : Int) 0 rfl rfl rfl ?_
  refine tFR (c := 172) 197 rfl rfl rfl rfl rfl ?_
  refine tK rfl ?_
  refine tAv 197 0 (s 197 0) 0 rfl rfl rfl (by decide) rfl rfl ?_
  exact tR rfl (h0)

theorem b_X11_worked_72 {n : Nat} {Q : Zr → Prop} (x1 x2 x3 x4 x5 : Int) (s : Zs) 
    (h0 : ∀ m, m < n → zT (zE 1526) (Pt PX11_worked) m (14, [((172 : Nat) : Int), x1, x2, w32 (x3 + 1), x4, x5], [], s) Q) : zT (zE 1526) (Pt PX11_worked) n (72, [((172 : Nat) : Int), x1, x2, x3, x4, x5], [], s) Q := by
  refine tG rfl ?_
  refine tInc [((172 : Nat) : Int), x1, x2, w32 (x3 + 1), x4, x5] rfl rfl ?_
  exact tGb rfl (fun m2 l2 => h0 m2 (Nat.lt_of_lt_of_le l2 (Nat.le_refl n)))

theorem b_X11_worked_94 {n : Nat} {Q : Zr → Prop} (x1 x2 x3 x4 x5 : Int) (s : Zs) 
    (h0 : ∀ m, m < n → zT (zE 1526) (Pt PX11_worked) m (14, [((172 : Nat) : Int), x1, x2, w32 (x3 + 1), x4, x5], [], zu s 202 x2.toNat x4) Q) : zT (zE 1526) (Pt PX11_worked) n (94, [((172 : Nat) : Int), x1, x2, x3, x4, x5], [], s) Q := by
  refine tL ((172 : Nat) : Int) 0 rfl rfl rfl ?_
  refine tFR (c := 172) 202 rfl rfl rfl rfl rfl ?_
  refine tL x2 0 rfl rfl rfl ?_
  refine tL x4 0 rfl rfl rfl ?_
  refine tAS 202 x2.toNat rfl rfl rfl (by decide) ?_
  refine tG rfl ?_
  refine tInc [((172 : Nat) : Int), x1, x2, w32 (x3 + 1), x4, x5] rfl rfl ?_
  exact tGb rfl (fun m2 l2 => h0 m2 (Nat.lt_of_lt_of_le l2 (Nat.le_refl n)))

theorem b_X11_worked_142 {n : Nat} {Q : Zr → Prop} (x1 x2 x3 x4 x5 : Int) (s : Zs) 
    (h0 : ∀ m, m < n → zT (zE 1526) (Pt PX11_worked) m (14, [((172 : Nat) : Int), x1, x2, w32 (x3 + 1), x4, x5], [], zu (zu (zu (zu s 199 x2.toNat (s 201 x2.toNat)) 200 x2.toNat x4) 201 x2.toNat 0) 202 x2.toNat 20) Q) : zT (zE 1526) (Pt PX11_worked) n (142, [((172 : Nat) : Int), x1, x2, x3, x4, x5], [], s) Q := by
  refine tL ((172 : Nat) : Int) 0 rfl rfl rfl ?_
  refine tFR (c := 172) 199 rfl rfl rfl rfl rfl ?_
  refine tL x2 0 rfl rfl rfl ?_
  refine tL ((172 : Nat) : Int) 0 rfl rfl rfl ?_
  refine tFR (c := 172) 201 rfl rfl rfl rfl rfl ?_
  refine tL x2 0 rfl rfl rfl ?_
  refine tAv 201 x2.toNat (s 201 x2.toNat) 0 rfl rfl rfl (by decide) rfl rfl ?_
  refine tAS 199 x2.toNat rfl rfl rfl (by decide) ?_
  refine tL ((172 : Nat) : Int) 0 rfl rfl rfl ?_
  refine tFR (c := 172) 200 rfl rfl rfl rfl rfl ?_
  refine tL x2 0 rfl rfl rfl ?_
  refine tL x4 0 rfl rfl rfl ?_
  refine tAS 200 x2.toNat rfl rfl rfl (by decide) ?_
  refine tL ((172 : Nat) : Int) 0 rfl rfl rfl ?_
  refine tFR (c := 172) 201 rfl rfl rfl rfl rfl ?_
  refine tL x2 0 rfl rfl rfl ?_
  refine tK rfl ?_
  refine tAS 201 x2.toNat rfl rfl rfl (by decide) ?_
  refine tL ((172 : Nat) : Int) 0 rfl rfl rfl ?_
  refine tFR (c := 172) 202 rfl rfl rfl rfl rfl ?_
  refine tL x2 0 rfl rfl rfl ?_
  refine tK rfl ?_
  refine tAS 202 x2.toNat rfl rfl rfl (by decide) ?_
  refine tG rfl ?_
  refine tInc [((172 : Nat) : Int), x1, x2, w32 (x3 + 1), x4, x5] rfl rfl ?_
  exact tGb rfl (fun m2 l2 => h0 m2 (Nat.lt_of_lt_of_le l2 (Nat.le_refl n)))

theorem b_X11_worked_199 {n : Nat} {Q : Zr → Prop} (x1 x2 x3 x4 x5 : Int) (s : Zs) 
    (h0 : ∀ m, m < n → zT (zE 1526) (Pt PX11_worked) m (14, [((172 : Nat) : Int), x1, x2, w32 (x3 + 1), x4, x5], [], zu s 198 x2.toNat x4) Q) : zT (zE 1526) (Pt PX11_worked) n (199, [((172 : Nat) : Int), x1, x2, x3, x4, x5], [], s) Q := by
  refine tL ((172 : Nat) : Int) 0 rfl rfl rfl ?_
  refine tFR (c := 172) 198 rfl rfl rfl rfl rfl ?_
  refine tL x2 0 rfl rfl rfl ?_
  refine tL x4 0 rfl rfl rfl ?_
  refine tAS 198 x2.toNat rfl rfl rfl (by decide) ?_
  refine tG rfl ?_
  refine tInc [((172 : Nat) : Int), x1, x2, w32 (x3 + 1), x4, x5] rfl rfl ?_
  exact tGb rfl (fun m2 l2 => h0 m2 (Nat.lt_of_lt_of_le l2 (Nat.le_refl n)))

theorem b_X11_worked_257 {n : Nat} {Q : Zr → Prop} (x1 x2 x3 x4 x5 : Int) (s : Zs) 
    (h0 : zT (zE 1526) (Pt PX11_worked) n (268, [((172 : Nat) : Int), x1, w32 (x2 + (-1)), x3, x4, s 197 x2.toNat], [], s) Q) : zT (zE 1526) (Pt PX11_worked) n (257, [((172 : Nat) : Int), x1, x2, x3, x4, x5], [], s) Q := by
  refine tL ((172 : Nat) : Int) 0 rfl rfl rfl ?_
  refine tFR (c := 172) 197 rfl rfl rfl rfl rfl ?_
  refine tL x2 0 rfl rfl rfl ?_
  refine tAv 197 x2.toNat (s 197 x2.toNat) 0 rfl rfl rfl (by decide) rfl rfl ?_
  refine tS [((172 : Nat) : Int), x1, x2, x3, x4, s 197 x2.toNat] rfl rfl ?_
  refine tInc [((172 : Nat) : Int), x1, w32 (x2 + (-1)), x3, x4, s 197 x2.toNat] rfl rfl ?_
  exact zT_le (h0) (Nat.le_refl n)

theorem c_X11_worked {n : Nat} {Q : Zr → Prop} {a0 a1 : Int} {s : Zs} (h : zT (zE 1526) (Pt PX11_worked) n (0, [a0, a1, 0, 0, 0, 0], [], s) Q) : zC n 1526 [(a0, 0), (a1, 0)] s Q := h

theorem b_X11_priceOf_0 {n : Nat} {Q : Zr → Prop} (x1 x2 : Int) (s : Zs) 
    (h0 : ∀ (g1 : s 193 0 ≤ s 192 0), ∀ (g3 : 0 ≤ s 182 x1.toNat), ∀ (g4 : s 182 x1.toNat ≤ 999), Q ([(s 182 x1.toNat, 0)], s))
    (h1 : ∀ (g1 : s 193 0 ≤ s 192 0), ∀ (g5 : 0 ≤ s 182 x1.toNat), ∀ (g6 : 999 < s 182 x1.toNat), Q ([(999, 0)], s))
    (h2 : ∀ (g1 : s 193 0 ≤ s 192 0), ∀ (g7 : s 182 x1.toNat < 0), Q ([(0, 0)], s))
    (h3 : ∀ (g1 : s 192 0 < s 193 0), ∀ m, m < n → zC m 1414 [(s 216 0, 0)] (zu (zu s 206 1 (s 182 x1.toNat)) 206 2 (s 216 11)) (fun p => zT (zE 1492) (Pt PX11_priceOf) m (67, [((172 : Nat) : Int), x1, s 182 x1.toNat], p.1 ++ [(s 174 1, 0), (3, 0), (((206 : Nat) : Int), 0)], p.2) Q)) : zT (zE 1492) (Pt PX11_priceOf) n (0, [((172 : Nat) : Int), x1, x2], [], s) Q := by
  refine tL ((172 : Nat) : Int) 0 rfl rfl rfl ?_
  refine tFR (c := 172) 182 rfl rfl rfl rfl rfl ?_
  refine tL x1 0 rfl rfl rfl ?_
  refine tAv 182 x1.toNat (s 182 x1.toNat) 0 rfl rfl rfl (by decide) rfl rfl ?_
  refine tS [((172 : Nat) : Int), x1, s 182 x1.toNat] rfl rfl ?_
  refine tL ((172 : Nat) : Int) 0 rfl rfl rfl ?_
  refine tFR (c := 172) 193 rfl rfl rfl rfl rfl ?_
  refine tK rfl ?_
  refine tAv 193 0 (s 193 0) 0 rfl rfl rfl (by decide) rfl rfl ?_
  refine tL ((172 : Nat) : Int) 0 rfl rfl rfl ?_
  refine tFR (c := 172) 192 rfl rfl rfl rfl rfl ?_
  refine tK rfl ?_
  refine tAv 192 0 (s 192 0) 0 rfl rfl rfl (by decide) rfl rfl ?_
  refine tJ5 rfl (fun g1 _ l1 => zT_le ?_ (Nat.le_of_lt l1)) (fun g1 _ l1 => zT_le ?_ (Nat.le_of_lt l1))
  · refine tL (s 182 x1.toNat) 0 rfl rfl rfl ?_
    refine tK rfl ?_
    refine tK rfl ?_
    refine tCall [(s 182 x1.toNat, 0), (0, 0), (999, 0)] [] rfl rfl rfl (fun m2 l2 => c_X11_between (b_X11_between_0 (s 182 x1.toNat) 0 999 s ?_ ?_ ?_))
    · intro g3 g4
      show zT (zE 1492) (Pt PX11_priceOf) m2 (83, [((172 : Nat) : Int), x1, s 182 x1.toNat], [(s 182 x1.toNat, 0)], s) Q
      exact tR rfl (h0 g1 g3 g4)
    · intro g5 g6
      show zT (zE 1492) (Pt PX11_priceOf) m2 (83, [((172 : Nat) : Int), x1, s 182 x1.toNat], [(999, 0)], s) Q
      exact tR rfl (h1 g1 g5 g6)
    · intro g7
      show zT (zE 1492) (Pt PX11_priceOf) m2 (83, [((172 : Nat) : Int), x1, s 182 x1.toNat], [(0, 0)], s) Q
      exact tR rfl (h2 g1 g7)
  · refine tL ((172 : Nat) : Int) 0 rfl rfl rfl ?_
    refine tFR (c := 172) 206 rfl rfl rfl rfl rfl ?_
    refine tK rfl ?_
    refine tL ((172 : Nat) : Int) 0 rfl rfl rfl ?_
    refine tFR (c := 172) 182 rfl rfl rfl rfl rfl ?_
    refine tL x1 0 rfl rfl rfl ?_
    refine tAv 182 x1.toNat (s 182 x1.toNat) 0 rfl rfl rfl (by decide) rfl rfl ?_
    refine tAS 206 1 rfl rfl rfl (by decide) ?_
    refine tL ((172 : Nat) : Int) 0 rfl rfl rfl ?_
    refine tFR (c := 172) 206 rfl rfl rfl rfl rfl ?_
    refine tK rfl ?_
    refine tL ((172 : Nat) : Int) 0 rfl rfl rfl ?_
    refine tFR (c := 172) 216 rfl rfl rfl rfl rfl ?_
    refine tK rfl ?_
    refine tAv 216 11 (s 216 11) 0 rfl rfl rfl (by decide) rfl rfl ?_
    refine tAS 206 2 rfl rfl rfl (by decide) ?_
    refine tL ((172 : Nat) : Int) 0 rfl rfl rfl ?_
    refine tFR (c := 172) 206 rfl rfl rfl rfl rfl ?_
    refine tK rfl ?_
    refine tL ((172 : Nat) : Int) 0 rfl rfl rfl ?_
    refine tFR (c := 172) 174 rfl rfl rfl rfl rfl ?_
    refine tK rfl ?_
    refine tAv 174 1 (s 174 1) 0 rfl rfl rfl (by decide) rfl rfl ?_
    refine tL ((172 : Nat) : Int) 0 rfl rfl rfl ?_
    refine tFR (c := 172) 216 rfl rfl rfl rfl rfl ?_
    refine tK rfl ?_
    refine tAv 216 0 (s 216 0) 0 rfl rfl rfl (by decide) rfl rfl ?_
    exact tCall [(s 216 0, 0)] [(s 174 1, 0), (3, 0), (((206 : Nat) : Int), 0)] rfl rfl rfl (fun m l => h3 g1 m (Nat.lt_of_lt_of_le l (Nat.le_refl n)))

theorem b_X11_priceOf_67 {n : Nat} {Q : Zr → Prop} (x1 x2 v0 y0 : Int) (s : Zs) 
    (h0 : ∀ m, m < n → zC m 1526 [(((172 : Nat) : Int), 0), (0, 0)] (zu s 206 3 (w32 (y0 - v0))) (fun p => zT (zE 1492) (Pt PX11_priceOf) m (74, [((172 : Nat) : Int), x1, x2], p.1 ++ [], p.2) Q)) : zT (zE 1492) (Pt PX11_priceOf) n (67, [((172 : Nat) : Int), x1, x2], [(v0, 0), (y0, 0), (3, 0), (((206 : Nat) : Int), 0)], s) Q := by
  refine tB (v := w32 (y0 - v0)) rfl rfl ?_
  refine tAS 206 3 rfl rfl rfl (by decide) ?_
  refine tL ((172 : Nat) : Int) 0 rfl rfl rfl ?_
  refine tK rfl ?_
  exact tCall [(((172 : Nat) : Int), 0), (0, 0)] [] rfl rfl rfl (fun m l => h0 m (Nat.lt_of_lt_of_le l (Nat.le_refl n)))

theorem b_X11_priceOf_74 {n : Nat} {Q : Zr → Prop} (x1 x2 v0 : Int) (s : Zs) 
    (h0 : ∀ (g2 : 0 ≤ v0), ∀ (g3 : v0 ≤ 999), Q ([(v0, 0)], s))
    (h1 : ∀ (g4 : 0 ≤ v0), ∀ (g5 : 999 < v0), Q ([(999, 0)], s))
    (h2 : ∀ (g6 : v0 < 0), Q ([(0, 0)], s)) : zT (zE 1492) (Pt PX11_priceOf) n (74, [((172 : Nat) : Int), x1, x2], [(v0, 0)], s) Q := by
  refine tS [((172 : Nat) : Int), x1, v0] rfl rfl ?_
  refine tL v0 0 rfl rfl rfl ?_
  refine tK rfl ?_
  refine tK rfl ?_
  refine tCall [(v0, 0), (0, 0), (999, 0)] [] rfl rfl rfl (fun m1 l1 => c_X11_between (b_X11_between_0 v0 0 999 s ?_ ?_ ?_))
  · intro g2 g3
    show zT (zE 1492) (Pt PX11_priceOf) m1 (83, [((172 : Nat) : Int), x1, v0], [(v0, 0)], s) Q
    exact tR rfl (h0 g2 g3)
  · intro g4 g5
    show zT (zE 1492) (Pt PX11_priceOf) m1 (83, [((172 : Nat) : Int), x1, v0], [(999, 0)], s) Q
    exact tR rfl (h1 g4 g5)
  · intro g6
    show zT (zE 1492) (Pt PX11_priceOf) m1 (83, [((172 : Nat) : Int), x1, v0], [(0, 0)], s) Q
    exact tR rfl (h2 g6)

theorem c_X11_priceOf {n : Nat} {Q : Zr → Prop} {a0 a1 : Int} {s : Zs} (h : zT (zE 1492) (Pt PX11_priceOf) n (0, [a0, a1, 0], [], s) Q) : zC n 1492 [(a0, 0), (a1, 0)] s Q := h

theorem b_X11_steals_0 {n : Nat} {Q : Zr → Prop} (x1 x2 : Int) (s : Zs) 
    (h0 : ∀ m, m < n → zC m 1492 [(((172 : Nat) : Int), 0), (x1, 0)] s (fun p => zT (zE 1514) (Pt PX11_steals) m (5, [((172 : Nat) : Int), x1, x2], p.1 ++ [], p.2) Q)) : zT (zE 1514) (Pt PX11_steals) n (0, [((172 : Nat) : Int), x1, x2], [], s) Q := by
  refine tL ((172 : Nat) : Int) 0 rfl rfl rfl ?_
  refine tL x1 0 rfl rfl rfl ?_
  exact tCall [(((172 : Nat) : Int), 0), (x1, 0)] [] rfl rfl rfl (fun m l => h0 m (Nat.lt_of_lt_of_le l (Nat.le_refl n)))

theorem b_X11_steals_5 {n : Nat} {Q : Zr → Prop} (x1 x2 v0 : Int) (s : Zs) 
    (h0 : Q ([(v0, 0)], zu (zu s 216 0 (zand (s 216 0) (zxor (zshl 1 x1) (-1)))) 216 12 (w32 ((s 216 12) + v0)))) : zT (zE 1514) (Pt PX11_steals) n (5, [((172 : Nat) : Int), x1, x2], [(v0, 0)], s) Q := by
  refine tS [((172 : Nat) : Int), x1, v0] rfl rfl ?_
  refine tL ((172 : Nat) : Int) 0 rfl rfl rfl ?_
  refine tFR (c := 172) 216 rfl rfl rfl rfl rfl ?_
  refine tK rfl ?_
  refine tD2 rfl ?_
  refine tAv 216 0 (s 216 0) 0 rfl rfl rfl (by decide) rfl rfl ?_
  refine tK rfl ?_
  refine tL x1 0 rfl rfl rfl ?_
  refine tB (v := zshl 1 x1) rfl rfl ?_
  refine tK rfl ?_
  refine tB (v := zxor (zshl 1 x1) (-1)) rfl rfl ?_
  refine tB (v := zand (s 216 0) (zxor (zshl 1 x1) (-1))) rfl rfl ?_
  refine tAS 216 0 rfl rfl rfl (by decide) ?_
  refine tL ((172 : Nat) : Int) 0 rfl rfl rfl ?_
  refine tFR (c := 172) 216 rfl rfl rfl rfl rfl ?_
  refine tK rfl ?_
  refine tD2 rfl ?_
  refine tAv 216 12 (s 216 12) 0 rfl rfl rfl (by decide) rfl rfl ?_
  refine tL v0 0 rfl rfl rfl ?_
  refine tB (v := w32 ((s 216 12) + v0)) rfl rfl ?_
  refine tAS 216 12 rfl rfl rfl (by decide) ?_
  refine tL v0 0 rfl rfl rfl ?_
  exact tR rfl (h0)

theorem c_X11_steals {n : Nat} {Q : Zr → Prop} {a0 a1 : Int} {s : Zs} (h : zT (zE 1514) (Pt PX11_steals) n (0, [a0, a1, 0], [], s) Q) : zC n 1514 [(a0, 0), (a1, 0)] s Q := h

theorem b_X11_canBuild_0 {n : Nat} {Q : Zr → Prop} (x1 : Int) (s : Zs) 
    (h0 : ∀ (g1 : zand (zshr (s 216 0) x1) 1 ≠ 0), Q ([(0, 0)], s))
    (h1 : ∀ (g1 : zand (zshr (s 216 0) x1) 1 = 0), ∀ (g2 : s 216 10 < s 182 x1.toNat), Q ([(0, 0)], s))
    (h2 : ∀ (g1 : zand (zshr (s 216 0) x1) 1 = 0), ∀ (g2 : s 182 x1.toNat ≤ s 216 10), Q ([(1, 0)], s)) : zT (zE 1417) (Pt PX11_canBuild) n (0, [((172 : Nat) : Int), x1], [], s) Q := by
  refine tL ((172 : Nat) : Int) 0 rfl rfl rfl ?_
  refine tFR (c := 172) 216 rfl rfl rfl rfl rfl ?_
  refine tK rfl ?_
  refine tAv 216 0 (s 216 0) 0 rfl rfl rfl (by decide) rfl rfl ?_
  refine tL x1 0 rfl rfl rfl ?_
  refine tB (v := zshr (s 216 0) x1) rfl rfl ?_
  refine tK rfl ?_
  refine tB (v := zand (zshr (s 216 0) x1) 1) rfl rfl ?_
  refine tI1 rfl (fun g1 _ l1 => zT_le ?_ (Nat.le_of_lt l1)) (fun g1 _ l1 => zT_le ?_ (Nat.le_of_lt l1))
  · refine tK rfl ?_
    exact tR rfl (h0 g1)
  · refine tL ((172 : Nat) : Int) 0 rfl rfl rfl ?_
    refine tFR (c := 172) 216 rfl rfl rfl rfl rfl ?_
    refine tK rfl ?_
    refine tAv 216 10 (s 216 10) 0 rfl rfl rfl (by decide) rfl rfl ?_
    refine tL ((172 : Nat) : Int) 0 rfl rfl rfl ?_
    refine tFR (c := 172) 182 rfl rfl rfl rfl rfl ?_
    refine tL x1 0 rfl rfl rfl ?_
    refine tAv 182 x1.toNat (s 182 x1.toNat) 0 rfl rfl rfl (by decide) rfl rfl ?_
    refine tJ2 rfl (fun g2 _ l2 => zT_le ?_ (Nat.le_of_lt l2)) (fun g2 _ l2 => zT_le ?_ (Nat.le_of_lt l2))
    · refine tK rfl ?_
      exact tR rfl (h1 g1 g2)
    · refine tK rfl ?_
      refine tG rfl ?_
      exact tR rfl (h2 g1 g2)

theorem c_X11_canBuild {n : Nat} {Q : Zr → Prop} {a0 a1 : Int} {s : Zs} (h : zT (zE 1417) (Pt PX11_canBuild) n (0, [a0, a1], [], s) Q) : zC n 1417 [(a0, 0), (a1, 0)] s Q := h

theorem b_X11_builds_0 {n : Nat} {Q : Zr → Prop} (x1 : Int) (s : Zs) 
    (h0 : Q ([], zu (zu s 216 0 (zor (s 216 0) (zshl 1 x1))) 216 10 (w32 ((s 216 10) - (s 182 x1.toNat))))) : zT (zE 1416) (Pt PX11_builds) n (0, [((172 : Nat) : Int), x1], [], s) Q := by
  refine tL ((172 : Nat) : Int) 0 rfl rfl rfl ?_
  refine tFR (c := 172) 216 rfl rfl rfl rfl rfl ?_
  refine tK rfl ?_
  refine tD2 rfl ?_
  refine tAv 216 0 (s 216 0) 0 rfl rfl rfl (by decide) rfl rfl ?_
  refine tK rfl ?_
  refine tL x1 0 rfl rfl rfl ?_
  refine tB (v := zshl 1 x1) rfl rfl ?_
  refine tB (v := zor (s 216 0) (zshl 1 x1)) rfl rfl ?_
  refine tAS 216 0 rfl rfl rfl (by decide) ?_
  refine tL ((172 : Nat) : Int) 0 rfl rfl rfl ?_
  refine tFR (c := 172) 216 rfl rfl rfl rfl rfl ?_
  refine tK rfl ?_
  refine tD2 rfl ?_
  refine tAv 216 10 (s 216 10) 0 rfl rfl rfl (by decide) rfl rfl ?_
  refine tL ((172 : Nat) : Int) 0 rfl rfl rfl ?_
  refine tFR (c := 172) 182 rfl rfl rfl rfl rfl ?_
  refine tL x1 0 rfl rfl rfl ?_
  refine tAv 182 x1.toNat (s 182 x1.toNat) 0 rfl rfl rfl (by decide) rfl rfl ?_
  refine tB (v := w32 ((s 216 10) - (s 182 x1.toNat))) rfl rfl ?_
  refine tAS 216 10 rfl rfl rfl (by decide) ?_
  exact tR rfl (h0)

theorem c_X11_builds {n : Nat} {Q : Zr → Prop} {a0 a1 : Int} {s : Zs} (h : zT (zE 1416) (Pt PX11_builds) n (0, [a0, a1], [], s) Q) : zC n 1416 [(a0, 0), (a1, 0)] s Q := h

theorem b_X11_canGo_0 {n : Nat} {Q : Zr → Prop} (x1 x2 : Int) (s : Zs) 
    (h0 : ∀ m, m < n → zC m 1495 [(((172 : Nat) : Int), 0), (x1, 0)] s (fun p => zT (zE 1419) (Pt PX11_canGo) m (5, [((172 : Nat) : Int), x1, x2], p.1 ++ [], p.2) Q)) : zT (zE 1419) (Pt PX11_canGo) n (0, [((172 : Nat) : Int), x1, x2], [], s) Q := by
  refine tL ((172 : Nat) : Int) 0 rfl rfl rfl ?_
  refine tL x1 0 rfl rfl rfl ?_
  exact tCall [(((172 : Nat) : Int), 0), (x1, 0)] [] rfl rfl rfl (fun m l => h0 m (Nat.lt_of_lt_of_le l (Nat.le_refl n)))

theorem b_X11_canGo_5 {n : Nat} {Q : Zr → Prop} (x1 x2 v0 : Int) (s : Zs) 
    (h0 : ∀ (g1 : zand (zshr v0 x2) 1 ≠ 1), Q ([(0, 0)], s))
    (h1 : ∀ (g1 : zand (zshr v0 x2) 1 = 1), Q ([(1, 0)], s)) : zT (zE 1419) (Pt PX11_canGo) n (5, [((172 : Nat) : Int), x1, x2], [(v0, 0)], s) Q := by
  refine tL x2 0 rfl rfl rfl ?_
  refine tB (v := zshr v0 x2) rfl rfl ?_
  refine tK rfl ?_
  refine tB (v := zand (zshr v0 x2) 1) rfl rfl ?_
  refine tK rfl ?_
  refine tJ1 rfl (fun g1 _ l1 => zT_le ?_ (Nat.le_of_lt l1)) (fun g1 _ l1 => zT_le ?_ (Nat.le_of_lt l1))
  · refine tK rfl ?_
    exact tR rfl (h0 g1)
  · refine tK rfl ?_
    refine tG rfl ?_
    exact tR rfl (h1 g1)

theorem c_X11_canGo {n : Nat} {Q : Zr → Prop} {a0 a1 a2 : Int} {s : Zs} (h : zT (zE 1419) (Pt PX11_canGo) n (0, [a0, a1, a2], [], s) Q) : zC n 1419 [(a0, 0), (a1, 0), (a2, 0)] s Q := h

theorem b_X11_canCarry_0 {n : Nat} {Q : Zr → Prop} (x1 x2 x3 : Int) (s : Zs) 
    (h0 : ∀ (g1 : s 216 ((w32 (6 + x2)).toNat) ≠ s 216 ((w32 (1 + x1)).toNat)), Q ([(0, 0)], s))
    (h1 : ∀ (g1 : s 216 ((w32 (6 + x2)).toNat) = s 216 ((w32 (1 + x1)).toNat)), ∀ m, m < n → zC m 1424 [(((172 : Nat) : Int), 0), (s 187 x1.toNat, 0), (s 216 0, 0), (x2, 0)] s (fun p => zT (zE 1418) (Pt PX11_canCarry) m (46, [((172 : Nat) : Int), x1, x2, x3], p.1 ++ [(s 216 ((w32 (1 + x1)).toNat), 0), (((172 : Nat) : Int), 0)], p.2) Q)) : zT (zE 1418) (Pt PX11_canCarry) n (0, [((172 : Nat) : Int), x1, x2, x3], [], s) Q := by
  refine tL ((172 : Nat) : Int) 0 rfl rfl rfl ?_
  refine tFR (c := 172) 216 rfl rfl rfl rfl rfl ?_
  refine tK rfl ?_
  refine tL x2 0 rfl rfl rfl ?_
  refine tB (v := w32 (6 + x2)) rfl rfl ?_
  refine tAv 216 ((w32 (6 + x2)).toNat) (s 216 ((w32 (6 + x2)).toNat)) 0 rfl rfl rfl (by decide) rfl rfl ?_
  refine tL ((172 : Nat) : Int) 0 rfl rfl rfl ?_
  refine tFR (c := 172) 216 rfl rfl rfl rfl rfl ?_
  refine tK rfl ?_
  refine tL x1 0 rfl rfl rfl ?_
  refine tB (v := w32 (1 + x1)) rfl rfl ?_
  refine tAv 216 ((w32 (1 + x1)).toNat) (s 216 ((w32 (1 + x1)).toNat)) 0 rfl rfl rfl (by decide) rfl rfl ?_
  refine tJ1 rfl (fun g1 _ l1 => zT_le ?_ (Nat.le_of_lt l1)) (fun g1 _ l1 => zT_le ?_ (Nat.le_of_lt l1))
  · refine tK rfl ?_
    exact tR rfl (h0 g1)
  · refine tL ((172 : Nat) : Int) 0 rfl rfl rfl ?_
    refine tL ((172 : Nat) : Int) 0 rfl rfl rfl ?_
    refine tFR (c := 172) 216 rfl rfl rfl rfl rfl ?_
    refine tK rfl ?_
    refine tL x1 0 rfl rfl rfl ?_
    refine tB (v := w32 (1 + x1)) rfl rfl ?_
    refine tAv 216 ((w32 (1 + x1)).toNat) (s 216 ((w32 (1 + x1)).toNat)) 0 rfl rfl rfl (by decide) rfl rfl ?_
    refine tL ((172 : Nat) : Int) 0 rfl rfl rfl ?_
    refine tL ((172 : Nat) : Int) 0 rfl rfl rfl ?_
    refine tFR (c := 172) 187 rfl rfl rfl rfl rfl ?_
    refine tL x1 0 rfl rfl rfl ?_
    refine tAv 187 x1.toNat (s 187 x1.toNat) 0 rfl rfl rfl (by decide) rfl rfl ?_
    refine tL ((172 : Nat) : Int) 0 rfl rfl rfl ?_
    refine tFR (c := 172) 216 rfl rfl rfl rfl rfl ?_
    refine tK rfl ?_
    refine tAv 216 0 (s 216 0) 0 rfl rfl rfl (by decide) rfl rfl ?_
    refine tL x2 0 rfl rfl rfl ?_
    exact tCall [(((172 : Nat) : Int), 0), (s 187 x1.toNat, 0), (s 216 0, 0), (x2, 0)] [(s 216 ((w32 (1 + x1)).toNat), 0), (((172 : Nat) : Int), 0)] rfl rfl rfl (fun m l => h1 g1 m (Nat.lt_of_lt_of_le l (Nat.le_refl n)))

theorem b_X11_canCarry_46 {n : Nat} {Q : Zr → Prop} (x1 x2 x3 v0 y0 : Int) (s : Zs) 
    (h0 : ∀ m, m < n → zC m 1511 [(((172 : Nat) : Int), 0), (y0, 0), (v0, 0)] s (fun p => zT (zE 1418) (Pt PX11_canCarry) m (49, [((172 : Nat) : Int), x1, x2, x3], p.1 ++ [], p.2) Q)) : zT (zE 1418) (Pt PX11_canCarry) n (46, [((172 : Nat) : Int), x1, x2, x3], [(v0, 0), (y0, 0), (((172 : Nat) : Int), 0)], s) Q := by
  exact tCall [(((172 : Nat) : Int), 0), (y0, 0), (v0, 0)] [] rfl rfl rfl (fun m l => h0 m (Nat.lt_of_lt_of_le l (Nat.le_refl n)))

theorem b_X11_canCarry_49 {n : Nat} {Q : Zr → Prop} (x1 x2 x3 v0 : Int) (s : Zs) 
    (h0 : ∀ (g1 : zand (zshr v0 x3) 1 ≠ 1), Q ([(0, 0)], s))
    (h1 : ∀ (g1 : zand (zshr v0 x3) 1 = 1), Q ([(1, 0)], s)) : zT (zE 1418) (Pt PX11_canCarry) n (49, [((172 : Nat) : Int), x1, x2, x3], [(v0, 0)], s) Q := by
  refine tL x3 0 rfl rfl rfl ?_
  refine tB (v := zshr v0 x3) rfl rfl ?_
  refine tK rfl ?_
  refine tB (v := zand (zshr v0 x3) 1) rfl rfl ?_
  refine tK rfl ?_
  refine tJ1 rfl (fun g1 _ l1 => zT_le ?_ (Nat.le_of_lt l1)) (fun g1 _ l1 => zT_le ?_ (Nat.le_of_lt l1))
  · refine tK rfl ?_
    exact tR rfl (h0 g1)
  · refine tK rfl ?_
    refine tG rfl ?_
    exact tR rfl (h1 g1)

theorem c_X11_canCarry {n : Nat} {Q : Zr → Prop} {a0 a1 a2 a3 : Int} {s : Zs} (h : zT (zE 1418) (Pt PX11_canCarry) n (0, [a0, a1, a2, a3], [], s) Q) : zC n 1418 [(a0, 0), (a1, 0), (a2, 0), (a3, 0)] s Q := h

theorem b_X11_carries_0 {n : Nat} {Q : Zr → Prop} (x1 x2 x3 : Int) (s : Zs) 
    (h0 : Q ([], zu (zu s 216 ((w32 (1 + x1)).toNat) x3) 216 ((w32 (6 + x2)).toNat) x3)) : zT (zE 1422) (Pt PX11_carries) n (0, [((172 : Nat) : Int), x1, x2, x3], [], s) Q := by
  refine tL ((172 : Nat) : Int) 0 rfl rfl rfl ?_
  refine tFR (c := 172) 216 rfl rfl rfl rfl rfl ?_
  refine tK rfl ?_
  refine tL x1 0 rfl rfl rfl ?_
  refine tB (v := w32 (1 + x1)) rfl rfl ?_
  refine tL x3 0 rfl rfl rfl ?_
  refine tAS 216 ((w32 (1 + x1)).toNat) rfl rfl rfl (by decide) ?_
  refine tL ((172 : Nat) : Int) 0 rfl rfl rfl ?_
  refine tFR (c := 172) 216 rfl rfl rfl rfl rfl ?_
  refine tK rfl ?_
  refine tL x2 0 rfl rfl rfl ?_
  refine tB (v := w32 (6 + x2)) rfl rfl ?_
  refine tL x3 0 rfl rfl rfl ?_
  refine tAS 216 ((w32 (6 + x2)).toNat) rfl rfl rfl (by decide) ?_
  exact tR rfl (h0)

theorem c_X11_carries {n : Nat} {Q : Zr → Prop} {a0 a1 a2 a3 : Int} {s : Zs} (h : zT (zE 1422) (Pt PX11_carries) n (0, [a0, a1, a2, a3], [], s) Q) : zC n 1422 [(a0, 0), (a1, 0), (a2, 0), (a3, 0)] s Q := h

theorem b_X11_steal_0 {n : Nat} {Q : Zr → Prop} (x1 : Int) (s : Zs) 
    (h0 : ∀ (g2 : x1 < 0), Q ([((-1), 0)], zu s 172 0 0))
    (h1 : ∀ (g3 : 0 ≤ x1), ∀ (g4 : s 174 1 ≤ x1), Q ([((-1), 0)], zu s 172 0 0))
    (h2 : ∀ (g5 : 0 ≤ x1), ∀ (g6 : x1 < s 174 1), ∀ m, m < n → zC m 1421 [(((172 : Nat) : Int), 0), (x1, 0)] (zu s 172 0 0) (fun p => zT (zE 1513) (Pt PX11_steal) m (18, [((172 : Nat) : Int), x1], p.1 ++ [], p.2) Q)) : zT (zE 1513) (Pt PX11_steal) n (0, [((172 : Nat) : Int), x1], [], s) Q := by
  refine tL ((172 : Nat) : Int) 0 rfl rfl rfl ?_
  refine tK rfl ?_
  refine tPut 172 rfl rfl ?_
  refine tL ((172 : Nat) : Int) 0 rfl rfl rfl ?_
  refine tL x1 0 rfl rfl rfl ?_
  refine tCall [(((172 : Nat) : Int), 0), (x1, 0)] [] rfl rfl rfl (fun m1 l1 => c_X11_isFlight (b_X11_isFlight_0 x1 (zu s 172 0 0) ?_ ?_ ?_))
  · intro g2
    show zT (zE 1513) (Pt PX11_steal) m1 (10, [((172 : Nat) : Int), x1], [(0, 0)], zu s 172 0 0) Q
    refine tI0 rfl (fun g _ l => zT_le ?_ (Nat.le_of_lt l)) (fun g _ l => (absurd g (by decide)))
    refine tK rfl ?_
    exact tR rfl (h0 g2)
  · intro g3 g4
    show zT (zE 1513) (Pt PX11_steal) m1 (10, [((172 : Nat) : Int), x1], [(0, 0)], zu s 172 0 0) Q
    refine tI0 rfl (fun g _ l => zT_le ?_ (Nat.le_of_lt l)) (fun g _ l => (absurd g (by decide)))
    refine tK rfl ?_
    exact tR rfl (h1 g3 g4)
  · intro g5 g6
    show zT (zE 1513) (Pt PX11_steal) m1 (10, [((172 : Nat) : Int), x1], [(1, 0)], zu s 172 0 0) Q
    refine tI0 rfl (fun g _ l => (absurd g (by decide))) (fun g _ l => zT_le ?_ (Nat.le_of_lt l))
    refine tL ((172 : Nat) : Int) 0 rfl rfl rfl ?_
    refine tL x1 0 rfl rfl rfl ?_
    exact tCall [(((172 : Nat) : Int), 0), (x1, 0)] [] rfl rfl rfl (fun m l => h2 g5 g6 m (Nat.lt_of_lt_of_le l (Nat.le_trans (Nat.le_of_lt l1) (Nat.le_refl n))))

theorem b_X11_steal_18 {n : Nat} {Q : Zr → Prop} (x1 v0 : Int) (s : Zs) 
    (h0 : ∀ (g1 : v0 ≠ 0), ∀ m, m < n → zC m 1461 [(((172 : Nat) : Int), 0)] s (fun p => zT (zE 1513) (Pt PX11_steal) m (27, [((172 : Nat) : Int), x1], p.1 ++ [], p.2) Q))
    (h1 : ∀ (g1 : v0 = 0), Q ([((-1), 0)], s)) : zT (zE 1513) (Pt PX11_steal) n (18, [((172 : Nat) : Int), x1], [(v0, 0)], s) Q := by
  refine tI1 rfl (fun g1 _ l1 => zT_le ?_ (Nat.le_of_lt l1)) (fun g1 _ l1 => zT_le ?_ (Nat.le_of_lt l1))
  · refine tL ((172 : Nat) : Int) 0 rfl rfl rfl ?_
    exact tCall [(((172 : Nat) : Int), 0)] [] rfl rfl rfl (fun m l => h0 g1 m (Nat.lt_of_lt_of_le l (Nat.le_refl n)))
  · refine tK rfl ?_
    exact tR rfl (h1 g1)

theorem b_X11_steal_27 {n : Nat} {Q : Zr → Prop} (x1 : Int) (s : Zs) 
    (h0 : ∀ m, m < n → zC m 1514 [(((172 : Nat) : Int), 0), (x1, 0)] s (fun p => zT (zE 1513) (Pt PX11_steal) m (32, [((172 : Nat) : Int), x1], p.1 ++ [], p.2) Q)) : zT (zE 1513) (Pt PX11_steal) n (27, [((172 : Nat) : Int), x1], [], s) Q := by
  refine tL ((172 : Nat) : Int) 0 rfl rfl rfl ?_
  refine tL x1 0 rfl rfl rfl ?_
  exact tCall [(((172 : Nat) : Int), 0), (x1, 0)] [] rfl rfl rfl (fun m l => h0 m (Nat.lt_of_lt_of_le l (Nat.le_refl n)))

theorem b_X11_steal_32 {n : Nat} {Q : Zr → Prop} (x1 v0 : Int) (s : Zs) 
    (h0 : Q ([(v0, 0)], s)) : zT (zE 1513) (Pt PX11_steal) n (32, [((172 : Nat) : Int), x1], [(v0, 0)], s) Q := by
  exact tR rfl (h0)

theorem c_X11_steal {n : Nat} {Q : Zr → Prop} {a0 a1 : Int} {s : Zs} (h : zT (zE 1513) (Pt PX11_steal) n (0, [a0, a1], [], s) Q) : zC n 1513 [(a0, 0), (a1, 0)] s Q := h

theorem b_X11_build_0 {n : Nat} {Q : Zr → Prop} (x1 : Int) (s : Zs) 
    (h0 : ∀ (g2 : x1 < 0), Q ([((-1), 0)], zu s 172 0 0))
    (h1 : ∀ (g3 : 0 ≤ x1), ∀ (g4 : s 174 1 ≤ x1), Q ([((-1), 0)], zu s 172 0 0))
    (h2 : ∀ (g5 : 0 ≤ x1), ∀ (g6 : x1 < s 174 1), ∀ m, m < n → zC m 1417 [(((172 : Nat) : Int), 0), (x1, 0)] (zu s 172 0 0) (fun p => zT (zE 1415) (Pt PX11_build) m (18, [((172 : Nat) : Int), x1], p.1 ++ [], p.2) Q)) : zT (zE 1415) (Pt PX11_build) n (0, [((172 : Nat) : Int), x1], [], s) Q := by
  refine tL ((172 : Nat) : Int) 0 rfl rfl rfl ?_
  refine tK rfl ?_
  refine tPut 172 rfl rfl ?_
  refine tL ((172 : Nat) : Int) 0 rfl rfl rfl ?_
  refine tL x1 0 rfl rfl rfl ?_
  refine tCall [(((172 : Nat) : Int), 0), (x1, 0)] [] rfl rfl rfl (fun m1 l1 => c_X11_isFlight (b_X11_isFlight_0 x1 (zu s 172 0 0) ?_ ?_ ?_))
  · intro g2
    show zT (zE 1415) (Pt PX11_build) m1 (10, [((172 : Nat) : Int), x1], [(0, 0)], zu s 172 0 0) Q
    refine tI0 rfl (fun g _ l => zT_le ?_ (Nat.le_of_lt l)) (fun g _ l => (absurd g (by decide)))
    refine tK rfl ?_
    exact tR rfl (h0 g2)
  · intro g3 g4
    show zT (zE 1415) (Pt PX11_build) m1 (10, [((172 : Nat) : Int), x1], [(0, 0)], zu s 172 0 0) Q
    refine tI0 rfl (fun g _ l => zT_le ?_ (Nat.le_of_lt l)) (fun g _ l => (absurd g (by decide)))
    refine tK rfl ?_
    exact tR rfl (h1 g3 g4)
  · intro g5 g6
    show zT (zE 1415) (Pt PX11_build) m1 (10, [((172 : Nat) : Int), x1], [(1, 0)], zu s 172 0 0) Q
    refine tI0 rfl (fun g _ l => (absurd g (by decide))) (fun g _ l => zT_le ?_ (Nat.le_of_lt l))
    refine tL ((172 : Nat) : Int) 0 rfl rfl rfl ?_
    refine tL x1 0 rfl rfl rfl ?_
    exact tCall [(((172 : Nat) : Int), 0), (x1, 0)] [] rfl rfl rfl (fun m l => h2 g5 g6 m (Nat.lt_of_lt_of_le l (Nat.le_trans (Nat.le_of_lt l1) (Nat.le_refl n))))

theorem b_X11_build_18 {n : Nat} {Q : Zr → Prop} (x1 v0 : Int) (s : Zs) 
    (h0 : ∀ (g1 : v0 ≠ 0), ∀ m, m < n → zC m 1461 [(((172 : Nat) : Int), 0)] s (fun p => zT (zE 1415) (Pt PX11_build) m (27, [((172 : Nat) : Int), x1], p.1 ++ [], p.2) Q))
    (h1 : ∀ (g1 : v0 = 0), Q ([((-1), 0)], s)) : zT (zE 1415) (Pt PX11_build) n (18, [((172 : Nat) : Int), x1], [(v0, 0)], s) Q := by
  refine tI1 rfl (fun g1 _ l1 => zT_le ?_ (Nat.le_of_lt l1)) (fun g1 _ l1 => zT_le ?_ (Nat.le_of_lt l1))
  · refine tL ((172 : Nat) : Int) 0 rfl rfl rfl ?_
    exact tCall [(((172 : Nat) : Int), 0)] [] rfl rfl rfl (fun m l => h0 g1 m (Nat.lt_of_lt_of_le l (Nat.le_refl n)))
  · refine tK rfl ?_
    exact tR rfl (h1 g1)

theorem b_X11_build_27 {n : Nat} {Q : Zr → Prop} (x1 : Int) (s : Zs) 
    (h0 : ∀ m, m < n → zC m 1416 [(((172 : Nat) : Int), 0), (x1, 0)] s (fun p => zT (zE 1415) (Pt PX11_build) m (32, [((172 : Nat) : Int), x1], p.1 ++ [], p.2) Q)) : zT (zE 1415) (Pt PX11_build) n (27, [((172 : Nat) : Int), x1], [], s) Q := by
  refine tL ((172 : Nat) : Int) 0 rfl rfl rfl ?_
  refine tL x1 0 rfl rfl rfl ?_
  exact tCall [(((172 : Nat) : Int), 0), (x1, 0)] [] rfl rfl rfl (fun m l => h0 m (Nat.lt_of_lt_of_le l (Nat.le_refl n)))

theorem b_X11_build_32 {n : Nat} {Q : Zr → Prop} (x1 : Int) (s : Zs) 
    (h0 : Q ([(s 216 10, 0)], s)) : zT (zE 1415) (Pt PX11_build) n (32, [((172 : Nat) : Int), x1], [], s) Q := by
  refine tL ((172 : Nat) : Int) 0 rfl rfl rfl ?_
  refine tFR (c := 172) 216 rfl rfl rfl rfl rfl ?_
  refine tK rfl ?_
  refine tAv 216 10 (s 216 10) 0 rfl rfl rfl (by decide) rfl rfl ?_
  exact tR rfl (h0)

theorem c_X11_build {n : Nat} {Q : Zr → Prop} {a0 a1 : Int} {s : Zs} (h : zT (zE 1415) (Pt PX11_build) n (0, [a0, a1], [], s) Q) : zC n 1415 [(a0, 0), (a1, 0)] s Q := h

theorem b_X11_go_0 {n : Nat} {Q : Zr → Prop} (x1 x2 : Int) (s : Zs) 
    (h0 : ∀ (g2 : x1 < 0), Q ([(0, 0)], zu s 172 0 0))
    (h1 : ∀ (g3 : 0 ≤ x1), ∀ (g4 : s 174 3 ≤ x1), Q ([(0, 0)], zu s 172 0 0))
    (h2 : ∀ (g5 : 0 ≤ x1), ∀ (g6 : x1 < s 174 3), ∀ m, m < n → zC m 1453 [(((172 : Nat) : Int), 0), (x2, 0)] (zu s 172 0 0) (fun p => zT (zE 1441) (Pt PX11_go) m (18, [((172 : Nat) : Int), x1, x2], p.1 ++ [], p.2) Q)) : zT (zE 1441) (Pt PX11_go) n (0, [((172 : Nat) : Int), x1, x2], [], s) Q := by
  refine tL ((172 : Nat) : Int) 0 rfl rfl rfl ?_
  refine tK rfl ?_
  refine tPut 172 rfl rfl ?_
  refine tL ((172 : Nat) : Int) 0 rfl rfl rfl ?_
  refine tL x1 0 rfl rfl rfl ?_
  refine tCall [(((172 : Nat) : Int), 0), (x1, 0)] [] rfl rfl rfl (fun m1 l1 => c_X11_isPerson (b_X11_isPerson_0 x1 (zu s 172 0 0) ?_ ?_ ?_))
  · intro g2
    show zT (zE 1441) (Pt PX11_go) m1 (10, [((172 : Nat) : Int), x1, x2], [(0, 0)], zu s 172 0 0) Q
    refine tI0 rfl (fun g _ l => zT_le ?_ (Nat.le_of_lt l)) (fun g _ l => (absurd g (by decide)))
    refine tK rfl ?_
    exact tR rfl (h0 g2)
  · intro g3 g4
    show zT (zE 1441) (Pt PX11_go) m1 (10, [((172 : Nat) : Int), x1, x2], [(0, 0)], zu s 172 0 0) Q
    refine tI0 rfl (fun g _ l => zT_le ?_ (Nat.le_of_lt l)) (fun g _ l => (absurd g (by decide)))
    refine tK rfl ?_
    exact tR rfl (h1 g3 g4)
  · intro g5 g6
    show zT (zE 1441) (Pt PX11_go) m1 (10, [((172 : Nat) : Int), x1, x2], [(1, 0)], zu s 172 0 0) Q
    refine tI0 rfl (fun g _ l => (absurd g (by decide))) (fun g _ l => zT_le ?_ (Nat.le_of_lt l))
    refine tL ((172 : Nat) : Int) 0 rfl rfl rfl ?_
    refine tL x2 0 rfl rfl rfl ?_
    exact tCall [(((172 : Nat) : Int), 0), (x2, 0)] [] rfl rfl rfl (fun m l => h2 g5 g6 m (Nat.lt_of_lt_of_le l (Nat.le_trans (Nat.le_of_lt l1) (Nat.le_refl n))))

theorem b_X11_go_18 {n : Nat} {Q : Zr → Prop} (x1 x2 v0 : Int) (s : Zs) 
    (h0 : ∀ (g1 : v0 = 0), Q ([(0, 0)], s))
    (h1 : ∀ (g1 : v0 ≠ 0), ∀ m, m < n → zC m 1419 [(((172 : Nat) : Int), 0), (x1, 0), (x2, 0)] s (fun p => zT (zE 1441) (Pt PX11_go) m (27, [((172 : Nat) : Int), x1, x2], p.1 ++ [], p.2) Q)) : zT (zE 1441) (Pt PX11_go) n (18, [((172 : Nat) : Int), x1, x2], [(v0, 0)], s) Q := by
  refine tI0 rfl (fun g1 _ l1 => zT_le ?_ (Nat.le_of_lt l1)) (fun g1 _ l1 => zT_le ?_ (Nat.le_of_lt l1))
  · refine tK rfl ?_
    exact tR rfl (h0 g1)
  · refine tL ((172 : Nat) : Int) 0 rfl rfl rfl ?_
    refine tL x1 0 rfl rfl rfl ?_
    refine tL x2 0 rfl rfl rfl ?_
    exact tCall [(((172 : Nat) : Int), 0), (x1, 0), (x2, 0)] [] rfl rfl rfl (fun m l => h1 g1 m (Nat.lt_of_lt_of_le l (Nat.le_refl n)))

theorem b_X11_go_27 {n : Nat} {Q : Zr → Prop} (x1 x2 v0 : Int) (s : Zs) 
    (h0 : ∀ (g1 : v0 ≠ 0), ∀ m, m < n → zC m 1461 [(((172 : Nat) : Int), 0)] s (fun p => zT (zE 1441) (Pt PX11_go) m (36, [((172 : Nat) : Int), x1, x2], p.1 ++ [], p.2) Q))
    (h1 : ∀ (g1 : v0 = 0), Q ([(0, 0)], s)) : zT (zE 1441) (Pt PX11_go) n (27, [((172 : Nat) : Int), x1, x2], [(v0, 0)], s) Q := by
  refine tI1 rfl (fun g1 _ l1 => zT_le ?_ (Nat.le_of_lt l1)) (fun g1 _ l1 => zT_le ?_ (Nat.le_of_lt l1))
  · refine tL ((172 : Nat) : Int) 0 rfl rfl rfl ?_
    exact tCall [(((172 : Nat) : Int), 0)] [] rfl rfl rfl (fun m l => h0 g1 m (Nat.lt_of_lt_of_le l (Nat.le_refl n)))
  · refine tK rfl ?_
    exact tR rfl (h1 g1)

theorem b_X11_go_36 {n : Nat} {Q : Zr → Prop} (x1 x2 : Int) (s : Zs) 
    (h0 : Q ([(1, 0)], zu s 216 ((w32 (1 + x1)).toNat) x2)) : zT (zE 1441) (Pt PX11_go) n (36, [((172 : Nat) : Int), x1, x2], [], s) Q := by
  refine tL ((172 : Nat) : Int) 0 rfl rfl rfl ?_
  refine tFR (c := 172) 216 rfl rfl rfl rfl rfl ?_
  refine tK rfl ?_
  refine tL x1 0 rfl rfl rfl ?_
  refine tB (v := w32 (1 + x1)) rfl rfl ?_
  refine tL x2 0 rfl rfl rfl ?_
  refine tAS 216 ((w32 (1 + x1)).toNat) rfl rfl rfl (by decide) ?_
  refine tK rfl ?_
  exact tR rfl (h0)

theorem c_X11_go {n : Nat} {Q : Zr → Prop} {a0 a1 a2 : Int} {s : Zs} (h : zT (zE 1441) (Pt PX11_go) n (0, [a0, a1, a2], [], s) Q) : zC n 1441 [(a0, 0), (a1, 0), (a2, 0)] s Q := h

theorem b_X11_carry_0 {n : Nat} {Q : Zr → Prop} (x1 x2 x3 : Int) (s : Zs) 
    (h0 : ∀ (g2 : x1 < 0), Q ([(0, 0)], zu s 172 0 0))
    (h1 : ∀ (g3 : 0 ≤ x1), ∀ (g4 : s 174 3 ≤ x1), Q ([(0, 0)], zu s 172 0 0))
    (h2 : ∀ (g5 : 0 ≤ x1), ∀ (g6 : x1 < s 174 3), ∀ (g8 : x2 < 0), Q ([(0, 0)], zu s 172 0 0))
    (h3 : ∀ (g5 : 0 ≤ x1), ∀ (g6 : x1 < s 174 3), ∀ (g9 : 0 ≤ x2), ∀ (g10 : s 174 2 ≤ x2), Q ([(0, 0)], zu s 172 0 0))
    (h4 : ∀ (g5 : 0 ≤ x1), ∀ (g6 : x1 < s 174 3), ∀ (g11 : 0 ≤ x2), ∀ (g12 : x2 < s 174 2), ∀ m, m < n → zC m 1453 [(((172 : Nat) : Int), 0), (x3, 0)] (zu s 172 0 0) (fun p => zT (zE 1423) (Pt PX11_carry) m (26, [((172 : Nat) : Int), x1, x2, x3], p.1 ++ [], p.2) Q)) : zT (zE 1423) (Pt PX11_carry) n (0, [((172 : Nat) : Int), x1, x2, x3], [], s) Q := by
  refine tL ((172 : Nat) : Int) 0 rfl rfl rfl ?_
  refine tK rfl ?_
  refine tPut 172 rfl rfl ?_
  refine tL ((172 : Nat) : Int) 0 rfl rfl rfl ?_
  refine tL x1 0 rfl rfl rfl ?_
  refine tCall [(((172 : Nat) : Int), 0), (x1, 0)] [] rfl rfl rfl (fun m1 l1 => c_X11_isPerson (b_X11_isPerson_0 x1 (zu s 172 0 0) ?_ ?_ ?_))
  · intro g2
    show zT (zE 1423) (Pt PX11_carry) m1 (10, [((172 : Nat) : Int), x1, x2, x3], [(0, 0)], zu s 172 0 0) Q
    refine tI0 rfl (fun g _ l => zT_le ?_ (Nat.le_of_lt l)) (fun g _ l => (absurd g (by decide)))
    refine tK rfl ?_
    exact tR rfl (h0 g2)
  · intro g3 g4
    show zT (zE 1423) (Pt PX11_carry) m1 (10, [((172 : Nat) : Int), x1, x2, x3], [(0, 0)], zu s 172 0 0) Q
    refine tI0 rfl (fun g _ l => zT_le ?_ (Nat.le_of_lt l)) (fun g _ l => (absurd g (by decide)))
    refine tK rfl ?_
    exact tR rfl (h1 g3 g4)
  · intro g5 g6
    show zT (zE 1423) (Pt PX11_carry) m1 (10, [((172 : Nat) : Int), x1, x2, x3], [(1, 0)], zu s 172 0 0) Q
    refine tI0 rfl (fun g _ l => (absurd g (by decide))) (fun g _ l => zT_le ?_ (Nat.le_of_lt l))
    refine tL ((172 : Nat) : Int) 0 rfl rfl rfl ?_
    refine tL x2 0 rfl rfl rfl ?_
    refine tCall [(((172 : Nat) : Int), 0), (x2, 0)] [] rfl rfl rfl (fun m7 l7 => c_X11_isThing (b_X11_isThing_0 x2 (zu s 172 0 0) ?_ ?_ ?_))
    · intro g8
      show zT (zE 1423) (Pt PX11_carry) m7 (18, [((172 : Nat) : Int), x1, x2, x3], [(0, 0)], zu s 172 0 0) Q
      refine tI0 rfl (fun g _ l => zT_le ?_ (Nat.le_of_lt l)) (fun g _ l => (absurd g (by decide)))
      refine tK rfl ?_
      exact tR rfl (h2 g5 g6 g8)
    · intro g9 g10
      show zT (zE 1423) (Pt PX11_carry) m7 (18, [((172 : Nat) : Int), x1, x2, x3], [(0, 0)], zu s 172 0 0) Q
      refine tI0 rfl (fun g _ l => zT_le ?_ (Nat.le_of_lt l)) (fun g _ l => (absurd g (by decide)))
      refine tK rfl ?_
      exact tR rfl (h3 g5 g6 g9 g10)
    · intro g11 g12
      show zT (zE 1423) (Pt PX11_carry) m7 (18, [((172 : Nat) : Int), x1, x2, x3], [(1, 0)], zu s 172 0 0) Q
      refine tI0 rfl (fun g _ l => (absurd g (by decide))) (fun g _ l => zT_le ?_ (Nat.le_of_lt l))
      refine tL ((172 : Nat) : Int) 0 rfl rfl rfl ?_
      refine tL x3 0 rfl rfl rfl ?_
      exact tCall [(((172 : Nat) : Int), 0), (x3, 0)] [] rfl rfl rfl (fun m l => h4 g5 g6 g11 g12 m (Nat.lt_of_lt_of_le l (Nat.le_trans (Nat.le_of_lt l7) (Nat.le_trans (Nat.le_of_lt l1) (Nat.le_refl n)))))

theorem b_X11_carry_26 {n : Nat} {Q : Zr → Prop} (x1 x2 x3 v0 : Int) (s : Zs) 
    (h0 : ∀ (g1 : v0 = 0), Q ([(0, 0)], s))
    (h1 : ∀ (g1 : v0 ≠ 0), ∀ m, m < n → zC m 1418 [(((172 : Nat) : Int), 0), (x1, 0), (x2, 0), (x3, 0)] s (fun p => zT (zE 1423) (Pt PX11_carry) m (36, [((172 : Nat) : Int), x1, x2, x3], p.1 ++ [], p.2) Q)) : zT (zE 1423) (Pt PX11_carry) n (26, [((172 : Nat) : Int), x1, x2, x3], [(v0, 0)], s) Q := by
  refine tI0 rfl (fun g1 _ l1 => zT_le ?_ (Nat.le_of_lt l1)) (fun g1 _ l1 => zT_le ?_ (Nat.le_of_lt l1))
  · refine tK rfl ?_
    exact tR rfl (h0 g1)
  · refine tL ((172 : Nat) : Int) 0 rfl rfl rfl ?_
    refine tL x1 0 rfl rfl rfl ?_
    refine tL x2 0 rfl rfl rfl ?_
    refine tL x3 0 rfl rfl rfl ?_
    exact tCall [(((172 : Nat) : Int), 0), (x1, 0), (x2, 0), (x3, 0)] [] rfl rfl rfl (fun m l => h1 g1 m (Nat.lt_of_lt_of_le l (Nat.le_refl n)))

theorem b_X11_carry_36 {n : Nat} {Q : Zr → Prop} (x1 x2 x3 v0 : Int) (s : Zs) 
    (h0 : ∀ (g1 : v0 ≠ 0), ∀ m, m < n → zC m 1461 [(((172 : Nat) : Int), 0)] s (fun p => zT (zE 1423) (Pt PX11_carry) m (45, [((172 : Nat) : Int), x1, x2, x3], p.1 ++ [], p.2) Q))
    (h1 : ∀ (g1 : v0 = 0), Q ([(0, 0)], s)) : zT (zE 1423) (Pt PX11_carry) n (36, [((172 : Nat) : Int), x1, x2, x3], [(v0, 0)], s) Q := by
  refine tI1 rfl (fun g1 _ l1 => zT_le ?_ (Nat.le_of_lt l1)) (fun g1 _ l1 => zT_le ?_ (Nat.le_of_lt l1))
  · refine tL ((172 : Nat) : Int) 0 rfl rfl rfl ?_
    exact tCall [(((172 : Nat) : Int), 0)] [] rfl rfl rfl (fun m l => h0 g1 m (Nat.lt_of_lt_of_le l (Nat.le_refl n)))
  · refine tK rfl ?_
    exact tR rfl (h1 g1)

theorem b_X11_carry_45 {n : Nat} {Q : Zr → Prop} (x1 x2 x3 : Int) (s : Zs) 
    (h0 : ∀ m, m < n → zC m 1422 [(((172 : Nat) : Int), 0), (x1, 0), (x2, 0), (x3, 0)] s (fun p => zT (zE 1423) (Pt PX11_carry) m (52, [((172 : Nat) : Int), x1, x2, x3], p.1 ++ [], p.2) Q)) : zT (zE 1423) (Pt PX11_carry) n (45, [((172 : Nat) : Int), x1, x2, x3], [], s) Q := by
  refine tL ((172 : Nat) : Int) 0 rfl rfl rfl ?_
  refine tL x1 0 rfl rfl rfl ?_
  refine tL x2 0 rfl rfl rfl ?_
  refine tL x3 0 rfl rfl rfl ?_
  exact tCall [(((172 : Nat) : Int), 0), (x1, 0), (x2, 0), (x3, 0)] [] rfl rfl rfl (fun m l => h0 m (Nat.lt_of_lt_of_le l (Nat.le_refl n)))

theorem b_X11_carry_52 {n : Nat} {Q : Zr → Prop} (x1 x2 x3 : Int) (s : Zs) 
    (h0 : Q ([(1, 0)], s)) : zT (zE 1423) (Pt PX11_carry) n (52, [((172 : Nat) : Int), x1, x2, x3], [], s) Q := by
  refine tK rfl ?_
  exact tR rfl (h0)

theorem c_X11_carry {n : Nat} {Q : Zr → Prop} {a0 a1 a2 a3 : Int} {s : Zs} (h : zT (zE 1423) (Pt PX11_carry) n (0, [a0, a1, a2, a3], [], s) Q) : zC n 1423 [(a0, 0), (a1, 0), (a2, 0), (a3, 0)] s Q := h

theorem b_X11_night_0 {n : Nat} {Q : Zr → Prop} (s : Zs) 
    (h0 : ∀ m, m < n → zC m 1461 [(((172 : Nat) : Int), 0)] (zu s 172 0 0) (fun p => zT (zE 1483) (Pt PX11_night) m (9, [((172 : Nat) : Int)], p.1 ++ [], p.2) Q)) : zT (zE 1483) (Pt PX11_night) n (0, [((172 : Nat) : Int)], [], s) Q := by
  refine tL ((172 : Nat) : Int) 0 rfl rfl rfl ?_
  refine tK rfl ?_
  refine tPut 172 rfl rfl ?_
  refine tL ((172 : Nat) : Int) 0 rfl rfl rfl ?_
  exact tCall [(((172 : Nat) : Int), 0)] [] rfl rfl rfl (fun m l => h0 m (Nat.lt_of_lt_of_le l (Nat.le_refl n)))

theorem b_X11_night_9 {n : Nat} {Q : Zr → Prop} (s : Zs) 
    (h0 : Q ([(w32 ((s 216 11) + 1), 0)], zu s 216 11 (w32 ((s 216 11) + 1)))) : zT (zE 1483) (Pt PX11_night) n (9, [((172 : Nat) : Int)], [], s) Q := by
  refine tL ((172 : Nat) : Int) 0 rfl rfl rfl ?_
  refine tFR (c := 172) 216 rfl rfl rfl rfl rfl ?_
  refine tK rfl ?_
  refine tD2 rfl ?_
  refine tAv 216 11 (s 216 11) 0 rfl rfl rfl (by decide) rfl rfl ?_
  refine tK rfl ?_
  refine tB (v := w32 ((s 216 11) + 1)) rfl rfl ?_
  refine tAS 216 11 rfl rfl rfl (by decide) ?_
  refine tL ((172 : Nat) : Int) 0 rfl rfl rfl ?_
  refine tFR (c := 172) 216 rfl rfl rfl rfl rfl ?_
  refine tK rfl ?_
  refine tAv 216 11 (w32 ((s 216 11) + 1)) 0 rfl rfl rfl (by decide) rfl rfl ?_
  exact tR rfl (h0)

theorem c_X11_night {n : Nat} {Q : Zr → Prop} {a0 : Int} {s : Zs} (h : zT (zE 1483) (Pt PX11_night) n (0, [a0], [], s) Q) : zC n 1483 [(a0, 0)] s Q := h

theorem b_X11_undo_0 {n : Nat} {Q : Zr → Prop} (s : Zs) 
    (h0 : ∀ (g1 : s 172 60 ≠ 0), ∀ m, m < n → zC m 1426 [(((219 : Nat) : Int), 0), (w32 (13 * (w32 ((s 172 60) - 1))), 0), (((216 : Nat) : Int), 0), (0, 0)] (zu (zu s 172 0 0) 172 60 (w32 ((s 172 60) - 1))) (fun p => zT (zE 1522) (Pt PX11_undo) m (43, [((172 : Nat) : Int)], p.1 ++ [], p.2) Q))
    (h1 : ∀ (g1 : s 172 60 = 0), Q ([(0, 0)], zu s 172 0 0)) : zT (zE 1522) (Pt PX11_undo) n (0, [((172 : Nat) : Int)], [], s) Q := by
  refine tL ((172 : Nat) : Int) 0 rfl rfl rfl ?_
  refine tK rfl ?_
  refine tPut 172 rfl rfl ?_
  refine tL ((172 : Nat) : Int) 0 rfl rfl rfl ?_
  refine tFv (c := 172) (s 172 60) 0 rfl rfl rfl rfl rfl ?_
  refine tI1 rfl (fun g1 _ l1 => zT_le ?_ (Nat.le_of_lt l1)) (fun g1 _ l1 => zT_le ?_ (Nat.le_of_lt l1))
  · refine tL ((172 : Nat) : Int) 0 rfl rfl rfl ?_
    refine tD rfl ?_
    refine tFv (c := 172) (s 172 60) 0 rfl rfl rfl rfl rfl ?_
    refine tK rfl ?_
    refine tB (v := w32 ((s 172 60) - 1)) rfl rfl ?_
    refine tPut 172 rfl rfl ?_
    refine tL ((172 : Nat) : Int) 0 rfl rfl rfl ?_
    refine tFR (c := 172) 219 rfl rfl rfl rfl rfl ?_
    refine tK rfl ?_
    refine tL ((172 : Nat) : Int) 0 rfl rfl rfl ?_
    refine tFv (c := 172) (w32 ((s 172 60) - 1)) 0 rfl rfl rfl rfl rfl ?_
    refine tM (v := w32 (13 * (w32 ((s 172 60) - 1)))) rfl rfl ?_
    refine tL ((172 : Nat) : Int) 0 rfl rfl rfl ?_
    refine tFR (c := 172) 216 rfl rfl rfl rfl rfl ?_
    refine tK rfl ?_
    exact tCall [(((219 : Nat) : Int), 0), (w32 (13 * (w32 ((s 172 60) - 1))), 0), (((216 : Nat) : Int), 0), (0, 0)] [] rfl rfl rfl (fun m l => h0 g1 m (Nat.lt_of_lt_of_le l (Nat.le_refl n)))
  · refine tK rfl ?_
    exact tR rfl (h1 g1)

theorem b_X11_undo_43 {n : Nat} {Q : Zr → Prop} (s : Zs) 
    (h0 : Q ([(1, 0)], s)) : zT (zE 1522) (Pt PX11_undo) n (43, [((172 : Nat) : Int)], [], s) Q := by
  refine tK rfl ?_
  exact tR rfl (h0)

theorem c_X11_undo {n : Nat} {Q : Zr → Prop} {a0 : Int} {s : Zs} (h : zT (zE 1522) (Pt PX11_undo) n (0, [a0], [], s) Q) : zC n 1522 [(a0, 0)] s Q := h

def frW (s s' : Zs) : Prop := ∀ c j, ¬ (195 ≤ c ∧ c ≤ 206) → s' c j = s c j
theorem frW_rf {s : Zs} : frW s s := fun _ _ _ => rfl
theorem frW_u {s s' : Zs} {c j : Nat} {v : Int} (h : frW s s') (hc : 195 ≤ c ∧ c ≤ 206) : frW s (zu s' c j v) := fun c' j' h' => by
  rw [zu_n (fun e => h' (by rw [e.1]; exact hc))]
  exact h c' j' h'
theorem frW_tr {s s' s'' : Zs} (h1 : frW s s') (h2 : frW s' s'') : frW s s'' := fun c j h => (h2 c j h).trans (h1 c j h)
theorem clF {s s1 : Zs} {m k : Nat} {as : List Zv} {G : Zr → Prop} (h : zC m k as s1 (fun r => r.1 = [] ∧ frW s1 r.2)) (g : ∀ s2, frW s s2 → G ([], s2)) (f : frW s s1) : zC m k as s1 G := zC_q h (fun r hr => by
  obtain ⟨r1, s2⟩ := r
  obtain ⟨e, f2⟩ := hr
  have e : r1 = [] := e
  subst e
  exact g s2 (frW_tr f f2))
theorem opens_fr {m : Nat} {s : Zs} {x : Int} : zC m 1485 [(((172 : Nat) : Int), 0), (x, 0)] s (fun r => r.1 = [] ∧ frW s r.2) :=
  c_X11_opens (b_X11_opens_0 _ s ⟨rfl, frW_u (frW_u (frW_u (frW_u (frW_u frW_rf (by decide)) (by decide)) (by decide)) (by decide)) (by decide)⟩)
theorem sums_fr {m : Nat} {s : Zs} {x : Int} : zC m 1516 [(((172 : Nat) : Int), 0), (x, 0)] s (fun r => r.1 = [] ∧ frW s r.2) :=
  c_X11_sums (b_X11_sums_0 _ s (fun _ => ⟨rfl, frW_u (frW_u frW_rf (by decide)) (by decide)⟩) (fun _ => ⟨rfl, frW_u (frW_u frW_rf (by decide)) (by decide)⟩))
theorem tests_fr {m : Nat} {s : Zs} {x : Int} : zC m 1517 [(((172 : Nat) : Int), 0), (x, 0)] s (fun r => r.1 = [] ∧ frW s r.2) := by
  refine c_X11_tests (b_X11_tests_0 _ _ s (fun m2 _ => clF sums_fr (fun s2 f2 => ?_) frW_rf))
  have L : ∀ (v1 v2 v3 v4 : Int) (a b c d : Nat), frW s (zu (zu (zu (zu s2 197 a v1) 200 b v2) 201 c v3) 202 d v4) := fun v1 v2 v3 v4 a b c d => frW_u (frW_u (frW_u (frW_u f2 (by decide)) (by decide)) (by decide)) (by decide)
  refine b_X11_tests_5 _ _ s2 ?_ ?_ ?_ ?_ ?_ ?_ ?_ ?_ ?_ ?_ ?_ ?_ ?_ ?_ ?_ ?_ ?_ ?_ ?_ ?_ ?_ ?_ ?_ ?_ ?_ ?_ ?_ <;> intros <;> exact ⟨rfl, L _ _ _ _ _ _ _ _⟩
theorem worked_fr {N : Nat} {s : Zs} {x : Int} : zC N 1526 [(((172 : Nat) : Int), 0), (x, 0)] s (fun r => (∃ v, r.1 = [(v, 0)]) ∧ frW s r.2) := by
  have loop : ∀ (M : Nat), (∀ (x1 x2 x3 x4 x5 : Int) (s1 : Zs), frW s s1 → zT (zE 1526) (Pt PX11_worked) M (14, [((172 : Nat) : Int), x1, x2, x3, x4, x5], [], s1) (fun r => (∃ v, r.1 = [(v, 0)]) ∧ frW s r.2)) ∧ (∀ (x1 x2 x3 x4 x5 : Int) (s1 : Zs), frW s s1 → zT (zE 1526) (Pt PX11_worked) M (268, [((172 : Nat) : Int), x1, x2, x3, x4, x5], [], s1) (fun r => (∃ v, r.1 = [(v, 0)]) ∧ frW s r.2)) := by
    intro M
    induction M using Nat.strongRecOn with
    | ind M ih =>
      have A : ∀ m, m < M → ∀ (x1 x2 x3 x4 x5 : Int) (s1 : Zs), frW s s1 → zT (zE 1526) (Pt PX11_worked) m (14, [((172 : Nat) : Int), x1, x2, x3, x4, x5], [], s1) (fun r => (∃ v, r.1 = [(v, 0)]) ∧ frW s r.2) := fun m hm => (ih m hm).1
      have B : ∀ (x1 x2 x3 x4 x5 : Int) (s1 : Zs), frW s s1 → zT (zE 1526) (Pt PX11_worked) M (268, [((172 : Nat) : Int), x1, x2, x3, x4, x5], [], s1) (fun r => (∃ v, r.1 = [(v, 0)]) ∧ frW s r.2) := fun x1 x2 x3 x4 x5 s1 f1 => by
        refine b_X11_worked_268 _ _ _ _ _ s1 ?_ ?_ ?_ ?_ ?_ ?_ <;> intros <;> first
          | exact A _ (by assumption) _ _ _ _ _ _ (frW_u f1 (by decide))
          | exact (ih _ (by assumption)).2 _ _ _ _ _ _ f1
      have Bm : ∀ m, m ≤ M → ∀ (x1 x2 x3 x4 x5 : Int) (s1 : Zs), frW s s1 → zT (zE 1526) (Pt PX11_worked) m (268, [((172 : Nat) : Int), x1, x2, x3, x4, x5], [], s1) (fun r => (∃ v, r.1 = [(v, 0)]) ∧ frW s r.2) := fun m hm => by
        by_cases e : m = M
        · rw [e]; exact B
        · exact (ih m (by omega)).2
      refine ⟨fun x1 x2 x3 x4 x5 s1 f1 => ?_, B⟩
      refine b_X11_worked_14 _ _ _ _ _ s1 ?_ ?_ ?_ ?_ ?_ ?_ ?_ ?_ ?_ ?_ ?_ ?_ ?_ ?_ ?_ ?_ <;> intros <;> first
        | exact clF tests_fr (fun s2 f2 => b_X11_worked_340 _ _ _ _ _ s2 ⟨⟨_, rfl⟩, f2⟩) f1
        | exact clF opens_fr (fun s2 f2 => b_X11_worked_72 _ _ _ _ _ s2 (fun m2 hm2 => A m2 (by omega) _ _ _ _ _ _ f2)) (frW_u f1 (by decide))
        | exact clF sums_fr (fun s2 f2 => b_X11_worked_94 _ _ _ _ _ s2 (fun m2 hm2 => A m2 (by omega) _ _ _ _ _ _ (frW_u f2 (by decide)))) f1
        | exact clF sums_fr (fun s2 f2 => b_X11_worked_142 _ _ _ _ _ s2 (fun m2 hm2 => A m2 (by omega) _ _ _ _ _ _ (frW_u (frW_u (frW_u (frW_u f2 (by decide)) (by decide)) (by decide)) (by decide)))) f1
        | exact clF tests_fr (fun s2 f2 => b_X11_worked_199 _ _ _ _ _ s2 (fun m2 hm2 => A m2 (by omega) _ _ _ _ _ _ (frW_u f2 (by decide)))) f1
        | exact clF tests_fr (fun s2 f2 => b_X11_worked_257 _ _ _ _ _ s2 (Bm _ (by omega) _ _ _ _ _ _ f2)) f1
        | exact B _ _ _ _ _ _ f1
        | exact A _ (by assumption) _ _ _ _ _ _ (frW_u f1 (by decide))
  refine c_X11_worked (b_X11_worked_0 _ _ _ _ _ s (fun m _ => clF opens_fr (fun s2 f2 => ?_) frW_rf))
  exact b_X11_worked_7 _ _ _ _ _ s2 ((loop m).1 _ _ _ _ _ _ f2)
theorem bits_fr {N : Nat} {s : Zs} {x : Int} : zC N 1414 [(x, 0)] s (fun r => ∃ v, r = ([(v, 0)], s)) := by
  have loop : ∀ (M : Nat) (x1 x2 : Int), zT (zE 1414) (Pt PX11_bits) M (4, [x, x1, x2], [], s) (fun r => ∃ v, r = ([(v, 0)], s)) := by
    intro M
    induction M using Nat.strongRecOn with
    | ind M ih => exact fun x1 x2 => b_X11_bits_4 _ _ _ s (fun _ => ⟨_, rfl⟩) (fun _ m hm => ih m hm _ _)
  exact c_X11_bits (b_X11_bits_0 _ _ _ s (loop N _ _))
theorem priceOf_fr {N : Nat} {s : Zs} {x : Int} : zC N 1492 [(((172 : Nat) : Int), 0), (x, 0)] s (fun r => (∃ v, r.1 = [(v, 0)] ∧ 0 ≤ v) ∧ frW s r.2) := by
  refine c_X11_priceOf (b_X11_priceOf_0 _ _ s (fun _ h _ => ⟨⟨_, rfl, h⟩, frW_rf⟩) (fun _ _ _ => ⟨⟨_, rfl, by decide⟩, frW_rf⟩) (fun _ _ => ⟨⟨_, rfl, by decide⟩, frW_rf⟩) (fun _ m _ => ?_))
  refine zC_q bits_fr (fun r hr => ?_)
  obtain ⟨v, rfl⟩ := hr
  refine b_X11_priceOf_67 _ _ _ _ _ (fun m2 _ => ?_)
  refine zC_q worked_fr (fun r hr => ?_)
  obtain ⟨r1, s2⟩ := r
  obtain ⟨⟨v2, e⟩, f2⟩ := hr
  have e : r1 = [(v2, 0)] := e
  subst e
  have f : frW s s2 := frW_tr (frW_u (frW_u (frW_u frW_rf (by decide)) (by decide)) (by decide)) f2
  exact b_X11_priceOf_74 _ _ _ s2 (fun h _ => ⟨⟨_, rfl, h⟩, f⟩) (fun _ _ => ⟨⟨_, rfl, by decide⟩, f⟩) (fun _ => ⟨⟨_, rfl, by decide⟩, f⟩)
/-! rows of thirteen -/
theorem copies_ok {N f e a b : Nat} {s : Zs} (hfe : f ≠ e) (ha : a ≤ 1000) (hb : b ≤ 1000) : zC N 1426 [((f : Int), 0), ((a : Int), 0), ((e : Int), 0), ((b : Int), 0)] s (fun r => r.1 = [] ∧ (∀ k, k < 13 → r.2 e (b + k) = s f (a + k)) ∧ ∀ c j, ¬ (c = e ∧ b ≤ j ∧ j < b + 13) → r.2 c j = s c j) := by
  have loop : ∀ (M i : Nat) (s1 : Zs), i ≤ 13 → (∀ k, k < i → s1 e (b + k) = s f (a + k)) → (∀ c j, ¬ (c = e ∧ b ≤ j ∧ j < b + 13) → s1 c j = s c j) → zT (zE 1426) (Pt PX11_copies) M (3, [((f : Nat) : Int), (a : Int), ((e : Nat) : Int), (b : Int), (i : Int)], [], s1) (fun r => r.1 = [] ∧ (∀ k, k < 13 → r.2 e (b + k) = s f (a + k)) ∧ ∀ c j, ¬ (c = e ∧ b ≤ j ∧ j < b + 13) → r.2 c j = s c j) := by
    intro M
    induction M using Nat.strongRecOn with
    | ind M ih =>
      intro i s1 hi h1 h2
      refine b_X11_copies_3 _ _ _ s1 (fun g => ⟨rfl, fun k hk => h1 k (by omega), h2⟩) (fun g m hm => ?_)
      have e1 : (w32 ((b : Int) + (i : Int))).toNat = b + i := by rw [w32_id (by omega) (by omega)]; omega
      have e2 : (w32 ((a : Int) + (i : Int))).toNat = a + i := by rw [w32_id (by omega) (by omega)]; omega
      rw [e1, e2, w32_id (z := (i : Int) + 1) (by omega) (by omega), show (i : Int) + 1 = ((i + 1 : Nat) : Int) from by omega]
      refine ih m hm (i + 1) _ (by omega) (fun k hk => ?_) (fun c j hc => by rw [zu_n (by omega)]; exact h2 c j hc)
      by_cases q : k = i
      · rw [q, zu_eq]; exact h2 _ _ (fun z => hfe z.1)
      · rw [zu_n (by omega)]; exact h1 k (by omega)
  exact c_X11_copies (b_X11_copies_0 _ _ _ s (loop N 0 s (by omega) (fun k hk => absurd hk (Nat.not_lt_zero k)) (fun _ _ _ => rfl)))
theorem mSt_mv {s s' : Zs} {c o c' o' : Nat} {D : ZD} {S : ZS} (hw : wD D) (h : mSt s c o D S) (e : ∀ k, k < 13 → s' c' (o' + k) = s c (o + k)) : mSt s' c' o' D S := by
  obtain ⟨a1, a2, a3, a4, a5⟩ := h
  have h5 : cnt D 3 ≤ 5 := hw.1 3 (by omega)
  have h4 : cnt D 2 ≤ 4 := hw.1 2 (by omega)
  refine ⟨?_, fun p hp => ?_, fun i hi => ?_, ?_, ?_⟩
  · have := e 0 (by omega)
    rw [Nat.add_zero, Nat.add_zero] at this
    rw [this]; exact a1
  · rw [Nat.add_assoc, e _ (by omega), ← Nat.add_assoc]; exact a2 p hp
  · rw [Nat.add_assoc, e _ (by omega), ← Nat.add_assoc]; exact a3 i hi
  · rw [e _ (by omega)]; exact a4
  · rw [e _ (by omega)]; exact a5
def mHi (s : Zs) (D : ZD) (H : List ZS) : Prop := H.length ≤ 16 ∧ s 172 60 = ((H.length : Nat) : Int) ∧ ∀ i S, H[i]? = some S → mSt s 219 (13 * (H.length - 1 - i)) D S
theorem mHi_e {s s' : Zs} {D : ZD} {H : List ZS} (hw : wD D) (h : mHi s D H) (e1 : s' 172 60 = s 172 60) (e2 : ∀ j, s' 219 j = s 219 j) : mHi s' D H := ⟨h.1, e1.trans h.2.1, fun i S hi => mSt_mv hw (h.2.2 i S hi) (fun k _ => e2 _)⟩
theorem keeps_ok {N : Nat} {s : Zs} {D : ZD} {S : ZS} {H : List ZS} (hw : wD D) (hH : mHi s D H) (hS : mSt s 216 0 D S) : zC N 1461 [(((172 : Nat) : Int), 0)] s (fun r => r.1 = [] ∧ mHi r.2 D ((S :: H).take 16) ∧ ∀ c j, ¬ (c = 172 ∧ j = 60) → c ≠ 219 → r.2 c j = s c j) := by
  obtain ⟨h1, h2, h3⟩ := hH
  have fin : ∀ (m : Nat) (x1 : Int) (s1 : Zs) (K : List ZS), K.length < 16 → (S :: K = (S :: H).take 16) → s1 172 60 = ((K.length : Nat) : Int) → (∀ i S, K[i]? = some S → mSt s1 219 (13 * (K.length - 1 - i)) D S) → mSt s1 216 0 D S → (∀ c j, ¬ (c = 172 ∧ j = 60) → c ≠ 219 → s1 c j = s c j) → zC m 1426 [(((216 : Nat) : Int), 0), (0, 0), (((219 : Nat) : Int), 0), (w32 (13 * ((K.length : Nat) : Int)), 0)] s1 (fun p => zT (zE 1461) (Pt PX11_keeps) m (68, [((172 : Nat) : Int), x1], p.1 ++ [], p.2) (fun r => r.1 = [] ∧ mHi r.2 D ((S :: H).take 16) ∧ ∀ c j, ¬ (c = 172 ∧ j = 60) → c ≠ 219 → r.2 c j = s c j)) := by
    intro m x1 s1 K hK eK k2 k3 k4 k5
    rw [w32_id (z := 13 * ((K.length : Nat) : Int)) (by omega) (by omega), show 13 * ((K.length : Nat) : Int) = ((13 * K.length : Nat) : Int) from by omega]
    refine zC_q (copies_ok (f := 216) (e := 219) (a := 0) (by omega) (by omega) (by omega)) (fun r hr => ?_)
    obtain ⟨r1, s2⟩ := r
    obtain ⟨e, c1, c2⟩ := hr
    have e : r1 = [] := e
    subst e
    have c1 : ∀ k, k < 13 → s2 219 (13 * K.length + k) = s1 216 (0 + k) := c1
    have c2 : ∀ c j, ¬ (c = 219 ∧ 13 * K.length ≤ j ∧ j < 13 * K.length + 13) → s2 c j = s1 c j := c2
    have W : ∀ s9 : Zs, s9 = zu s2 172 60 (w32 ((s2 172 60) + 1)) → (([], s9) : Zr).1 = [] ∧ mHi (([], s9) : Zr).2 D ((S :: H).take 16) ∧ ∀ c j, ¬ (c = 172 ∧ j = 60) → c ≠ 219 → (([], s9) : Zr).2 c j = s c j := fun s9 e9 => by
      have f9 : ∀ c j, ¬ (c = 172 ∧ j = 60) → s9 c j = s2 c j := fun c j hc => by rw [e9, zu_n hc]
      refine ⟨rfl, ?_, fun c j a b => (f9 c j a).trans ((c2 c j (by omega)).trans (k5 c j a b))⟩
      rw [← eK]
      refine ⟨by rw [List.length_cons]; omega, ?_, fun i S' hi => ?_⟩
      · show s9 172 60 = _
        rw [e9, zu_eq, c2 _ _ (by omega), k2, List.length_cons, w32_id (by omega) (by omega)]
        omega
      · show mSt s9 219 _ D S'
        rw [List.length_cons]
        cases i with
        | zero =>
          have hi : S = S' := by simpa using hi
          subst hi
          refine mSt_mv hw k4 (fun k hk => ?_)
          rw [f9 _ _ (by omega), show 13 * (K.length + 1 - 1 - 0) + k = 13 * K.length + k by omega]
          exact c1 k hk
        | succ i =>
          have hi : K[i]? = some S' := by simpa using hi
          have hl := (List.getElem?_eq_some_iff.mp hi).1
          refine mSt_mv hw (k3 i S' hi) (fun k hk => ?_)
          rw [f9 _ _ (by omega), show 13 * (K.length + 1 - 1 - (i + 1)) + k = 13 * (K.length - 1 - i) + k by omega]
          exact c2 _ _ (by omega)
    exact b_X11_keeps_68 _ s2 (W _ rfl)
  refine c_X11_keeps (b_X11_keeps_0 _ s (fun g m _ => ?_) (fun g => ?_))
  · have hl : H.length < 16 := by omega
    rw [h2]
    exact fin m _ s H hl (by rw [List.take_of_length_le (by rw [List.length_cons]; omega)]) h2 h3 hS (fun _ _ _ _ => rfl)
  · have hl : H.length = 16 := by omega
    have loop : ∀ (M i : Nat) (s1 : Zs), i ≤ 195 → (∀ j, j < i → s1 219 j = s 219 (j + 13)) → (∀ j, i ≤ j → s1 219 j = s 219 j) → (∀ c j, c ≠ 219 → s1 c j = s c j) → zT (zE 1461) (Pt PX11_keeps) M (11, [((172 : Nat) : Int), (i : Int)], [], s1) (fun r => r.1 = [] ∧ mHi r.2 D ((S :: H).take 16) ∧ ∀ c j, ¬ (c = 172 ∧ j = 60) → c ≠ 219 → r.2 c j = s c j) := by
      intro M
      induction M using Nat.strongRecOn with
      | ind M ih =>
        intro i s1 hi q1 q2 q3
        refine b_X11_keeps_11 _ s1 (fun g m _ => ?_) (fun g m hm => ?_)
        · have q4 : s1 172 60 = 16 := by rw [q3 _ _ (by omega), h2, hl]; rfl
          have lt : (H.take 15).length = 15 := by rw [List.length_take]; omega
          rw [q4]
          have e15 : w32 (16 - 1) = (((H.take 15).length : Nat) : Int) := by rw [lt]; rfl
          rw [e15]
          refine fin m _ _ (H.take 15) (by omega) ?_ (zu_eq _ _ _ _) (fun k S' hk => ?_) (mSt_mv hw hS (fun k hk => by rw [zu_n (by omega)]; exact q3 _ _ (by omega))) (fun c j a b => by rw [zu_n a]; exact q3 c j b)
          · rw [List.take_succ_cons]
          · have hk2 : k < 15 := by
              have := (List.getElem?_eq_some_iff.mp hk).1
              omega
            rw [List.getElem?_take_of_lt hk2] at hk
            refine mSt_mv hw (h3 k S' hk) (fun j hj => ?_)
            rw [zu_n (by omega), q1 _ (by omega), lt, hl, show 13 * (15 - 1 - k) + j + 13 = 13 * (16 - 1 - k) + j by omega]
        · have e1 : (w32 ((i : Int) + 13)).toNat = i + 13 := by rw [w32_id (by omega) (by omega)]; omega
          rw [e1, w32_id (z := (i : Int) + 1) (by omega) (by omega), show (i : Int) + 1 = ((i + 1 : Nat) : Int) from by omega, Int.toNat_natCast]
          refine ih m hm (i + 1) _ (by omega) (fun j hj => ?_) (fun j hj => by rw [zu_n (by omega)]; exact q2 j (by omega)) (fun c j hc => by rw [zu_n (by omega)]; exact q3 c j hc)
          by_cases q : j = i
          · rw [q, zu_eq]; exact q2 _ (by omega)
          · rw [zu_n (by omega)]; exact q1 j (by omega)
    exact loop N 0 s (by omega) (fun j hj => absurd hj (Nat.not_lt_zero j)) (fun _ _ => rfl) (fun _ _ _ => rfl)
def mFr (s s' : Zs) : Prop := ∀ c j, ¬ (c = 172 ∧ (j = 0 ∨ j = 60)) → c ≠ 216 → c ≠ 219 → ¬ (195 ≤ c ∧ c ≤ 206) → s' c j = s c j
theorem mSt_e {s s' : Zs} {c o : Nat} {D : ZD} {S : ZS} (h : mSt s c o D S) (e : ∀ j, s' c j = s c j) : mSt s' c o D S := by
  obtain ⟨a1, a2, a3, a4, a5⟩ := h
  exact ⟨by rw [e]; exact a1, fun p hp => by rw [e]; exact a2 p hp, fun p hp => by rw [e]; exact a3 p hp, by rw [e]; exact a4, by rw [e]; exact a5⟩
section Zmd
variable {N : Nat} {s : Zs} {D : ZD} {S : ZS} {H : List ZS}
/-- what is known of the model between calls -/
def mAll (s : Zs) (D : ZD) (S : ZS) (H : List ZS) : Prop := mT s D ∧ mSt s 216 0 D S ∧ mHi s D H
theorem mAll_e {s' : Zs} (hw : wD D) (h : mAll s D S H) (e1 : ∀ c j, 174 ≤ c → c ≤ 191 → s' c j = s c j) (e2 : ∀ j, s' 216 j = s 216 j) (e3 : s' 172 60 = s 172 60) (e4 : ∀ j, s' 219 j = s 219 j) : mAll s' D S H := ⟨mT_e e1 h.1, mSt_e h.2.1 e2, mHi_e hw h.2.2 e3 e4⟩
theorem mAll_0 (hw : wD D) (h : mAll s D S H) : mAll (zu s 172 0 0) D S H := mAll_e hw h (fun c j a b => zu_n (by omega)) (fun j => zu_n (by omega)) (zu_n (by omega)) (fun j => zu_n (by omega))
theorem mFr_0 : mFr s (zu s 172 0 0) := fun c j a _ _ _ => zu_n (by omega)
theorem mFr_tr {s' s'' : Zs} (h1 : mFr s s') (h2 : mFr s' s'') : mFr s s'' := fun c j a b d e => (h2 c j a b d e).trans (h1 c j a b d e)
theorem above_m (hm : mT s D) (hw : wD D) {a : Nat} (ha : a < cnt D 1) : zC N 1408 [(((172 : Nat) : Int), 0), ((a : Int), 0)] s (fun r => r = ([(((abv D a : Nat) : Int), 0)], s)) := by
  have h10 : cnt D 1 ≤ 10 := hw.1 1 (by omega)
  have hc : s 174 1 = ((cnt D 1 : Nat) : Int) := hm.1 1 (by omega)
  have r0 : ∀ i, i < cnt D 1 → s 180 i = colD D 10 i := fun i hi => mcol hm hw (k := 1) (j := 0) (by omega) (by omega) (by decide) (by decide) hi
  have r1 : ∀ i, i < cnt D 1 → s 181 i = colD D 11 i := fun i hi => mcol hm hw (k := 1) (j := 1) (by omega) (by omega) (by decide) (by decide) hi
  have loop : ∀ (M k : Nat), k ≤ cnt D 1 → zT (zE 1408) (Pt PX11_above) M (4, [((172 : Nat) : Int), (a : Int), ((bset (abvB D a) k : Nat) : Int), (k : Int)], [], s) (fun r => r = ([(((abv D a : Nat) : Int), 0)], s)) := by
    intro M
    induction M using Nat.strongRecOn with
    | ind M ih =>
      intro k hk
      have b2 := bset_lt (abvB D a) k
      have b3 : 2 ^ k ≤ 2 ^ 10 := Nat.pow_le_pow_right (by decide) (by omega)
      have b4 : 2 ^ 10 = 1024 := by decide
      have z0 : zor ((bset (abvB D a) k : Nat) : Int) 0 = ((bset (abvB D a) k : Nat) : Int) := (zor_nat (y := 0) (by omega) (by omega)).trans (by rw [Nat.or_zero])
      have on : ∀ (m : Nat) (v : Int), m < M → k < cnt D 1 → v = ((bset (abvB D a) (k + 1) : Nat) : Int) → zT (zE 1408) (Pt PX11_above) m (4, [((172 : Nat) : Int), (a : Int), v, w32 ((k : Int) + 1)], [], s) (fun r => r = ([(((abv D a : Nat) : Int), 0)], s)) := fun m v hm' hk2 hv => by
        rw [hv, w32_id (by omega) (by omega), show (k : Int) + 1 = ((k + 1 : Nat) : Int) from by omega]
        exact ih m hm' (k + 1) (by omega)
      refine b_X11_above_4 _ _ _ s (fun g => ?_) (fun g g2 m hm' => ?_) (fun g g2 g3 m hm' => ?_) (fun g g2 g3 m hm' => ?_)
      · have : k = cnt D 1 := by omega
        subst this
        rfl
      all_goals
        rw [hc] at g
        have hk2 : k < cnt D 1 := by omega
        rw [Int.toNat_natCast, Int.toNat_natCast, r0 k hk2, r0 a ha] at g2
      · exact on m _ hm' hk2 (by rw [z0, bset_no]; unfold abvB; rw [decide_eq_false g2]; rfl)
      · rw [Int.toNat_natCast, Int.toNat_natCast, r1 k hk2, r1 a ha] at g3
        exact on m _ hm' hk2 (by rw [z0, bset_no]; unfold abvB; rw [decide_eq_false (show ¬ colD D 11 a < colD D 11 k by omega), Bool.and_false])
      · rw [Int.toNat_natCast, Int.toNat_natCast, r1 k hk2, r1 a ha] at g3
        exact on m _ hm' hk2 (bset_zor (by unfold abvB; rw [decide_eq_true g2, decide_eq_true g3]; rfl) (by omega))
  exact c_X11_above (b_X11_above_0 _ _ _ s (loop N 0 (by omega)))
theorem canSteal_m (hm : mT s D) (hw : wD D) (hS : mSt s 216 0 D S) (hs : wS D S) {k : Nat} (hk : k < cnt D 1) : zC N 1421 [(((172 : Nat) : Int), 0), ((k : Int), 0)] s (fun r => r = ([(if dcP (canS D S (k : Int)) = true then 1 else 0, 0)], s)) := by
  have h10 : cnt D 1 ≤ 10 := hw.1 1 (by omega)
  have hl := wS_lt hw hs
  have e0 : s 216 0 = ((sTh S : Nat) : Int) := hS.1
  have b1 : abv D k < 1024 := bset_10 hw
  refine c_X11_canSteal (b_X11_canSteal_0 _ s (fun g => ?_) (fun g m _ => ?_))
  all_goals rw [e0] at g
  · rw [if_neg (by rw [dcP_no (fun q => g ((zbit1 (by omega) (by omega)).mpr q.2.2.1))]; decide)]
  have tb := (zbit1 (by omega) (by omega)).mp g
  refine zC_q (above_m hm hw hk) (fun r hr => ?_)
  subst hr
  refine b_X11_canSteal_19 _ _ s (fun g2 => ?_) (fun g2 => ?_)
  all_goals rw [e0, zand_nat (by omega) (by omega)] at g2
  · rw [if_neg (by rw [dcP_no (fun q => g2 (by have q4 : abv D k &&& sTh S = 0 := q.2.2.2; rw [q4]; rfl))]; decide)]
  · rw [if_pos (dcP_yes ⟨by omega, by omega, tb, show abv D k &&& sTh S = 0 by omega⟩)]
theorem steals_m (hw : wD D) (hS : mSt s 216 0 D S) (hs : wS D S) {k : Nat} (hk : k < cnt D 1) : zC N 1514 [(((172 : Nat) : Int), 0), ((k : Int), 0)] s (fun r => (∃ v, r.1 = [(v, 0)] ∧ 0 ≤ v) ∧ mSt r.2 216 0 D (stlT S k) ∧ ∀ c j, c ≠ 216 → ¬ (195 ≤ c ∧ c ≤ 206) → r.2 c j = s c j) := by
  have h10 : cnt D 1 ≤ 10 := hw.1 1 (by omega)
  have h5 : cnt D 3 ≤ 5 := hw.1 3 (by omega)
  have h4 : cnt D 2 ≤ 4 := hw.1 2 (by omega)
  have hl := wS_lt hw hs
  refine c_X11_steals (b_X11_steals_0 _ _ s (fun m _ => ?_))
  refine zC_q priceOf_fr (fun r hr => ?_)
  obtain ⟨r1, s1⟩ := r
  obtain ⟨⟨v, e, hv⟩, f1⟩ := hr
  have e : r1 = [(v, 0)] := e
  subst e
  have f1 : frW s s1 := f1
  have S1 : mSt s1 216 0 D S := mSt_e hS (fun j => f1 _ _ (by omega))
  have W : ∀ s9 : Zs, s9 = zu (zu s1 216 0 (zand (s1 216 0) (zxor (zshl 1 ((k : Nat) : Int)) (-1)))) 216 12 (w32 (((s1 216 12)) + v)) → (∃ v', (([(v, 0)], s9) : Zr).1 = [(v', 0)] ∧ 0 ≤ v') ∧ mSt (([(v, 0)], s9) : Zr).2 216 0 D (stlT S k) ∧ ∀ c j, c ≠ 216 → ¬ (195 ≤ c ∧ c ≤ 206) → (([(v, 0)], s9) : Zr).2 c j = s c j := fun s9 e9 => by
    have f9 : ∀ c j, ¬ (c = 216 ∧ (j = 0 ∨ j = 12)) → s9 c j = s1 c j := fun c j hc => by rw [e9, zu_n (by omega), zu_n (by omega)]
    obtain ⟨a1, a2, a3, a4, a5⟩ := S1
    refine ⟨⟨v, rfl, hv⟩, ⟨?_, fun p hp => (f9 _ _ (by omega)).trans (a2 p hp), fun p hp => (f9 _ _ (by omega)).trans (a3 p hp), (f9 _ _ (by omega)).trans a4, (f9 _ _ (by omega)).trans a5⟩, fun c j a b => (f9 c j (by omega)).trans (f1 c j b)⟩
    show s9 216 0 = _
    rw [e9, zu_n (by omega), zu_eq, a1, zshl_1 k (by omega), zandn (by omega)]
    rfl
  exact b_X11_steals_5 _ _ _ s1 (W _ (by first | rfl | rw [zu_n (by omega)]))
theorem steal_m (hw : wD D) (hA : mAll s D S H) (hs : wS D S) {x : Int} : zC N 1513 [(((172 : Nat) : Int), 0), (x, 0)] s (fun r => (canS D S x → (∃ v, r.1 = [(v, 0)] ∧ 0 ≤ v) ∧ mAll r.2 D (stlT S x.toNat) ((S :: H).take 16)) ∧ (¬ canS D S x → r.1 = [(-1, 0)] ∧ mAll r.2 D S H) ∧ mFr s r.2) := by
  have hc : s 174 1 = ((cnt D 1 : Nat) : Int) := hA.1.1 1 (by omega)
  have A0 := mAll_0 hw hA
  have no : ∀ s1, mAll s1 D S H → mFr s s1 → ¬ canS D S x → (canS D S x → (∃ v, (([(-1, 0)], s1) : Zr).1 = [(v, 0)] ∧ 0 ≤ v) ∧ mAll (([(-1, 0)], s1) : Zr).2 D (stlT S x.toNat) ((S :: H).take 16)) ∧ (¬ canS D S x → (([(-1, 0)], s1) : Zr).1 = [(-1, 0)] ∧ mAll (([(-1, 0)], s1) : Zr).2 D S H) ∧ mFr s (([(-1, 0)], s1) : Zr).2 := fun s1 a f h => ⟨fun q => absurd q h, fun _ => ⟨rfl, a⟩, f⟩
  refine c_X11_steal (b_X11_steal_0 _ s (fun g => no _ A0 mFr_0 (fun q => by have := q.1; omega)) (fun g g2 => no _ A0 mFr_0 (fun q => by have := q.2.1; omega)) (fun g g2 m _ => ?_))
  obtain ⟨k, rfl⟩ := Int.eq_ofNat_of_zero_le g
  have hk : k < cnt D 1 := by omega
  refine zC_q (canSteal_m A0.1 hw A0.2.1 hs hk) (fun r hr => ?_)
  subst hr
  refine b_X11_steal_18 _ _ _ (fun g3 m2 _ => ?_) (fun g3 => no _ A0 mFr_0 (fun q => by rw [if_pos (dcP_yes q)] at g3; omega))
  have can : canS D S ((k : Nat) : Int) := Classical.byContradiction fun c => g3 (if_neg (by rw [dcP_no c]; decide))
  refine zC_q (keeps_ok hw A0.2.2 A0.2.1) (fun r hr => ?_)
  obtain ⟨r1, s1⟩ := r
  obtain ⟨e, H1, f1⟩ := hr
  have e : r1 = [] := e
  subst e
  have f1 : ∀ c j, ¬ (c = 172 ∧ j = 60) → c ≠ 219 → s1 c j = zu s 172 0 0 c j := f1
  refine b_X11_steal_27 _ s1 (fun m3 _ => ?_)
  refine zC_q (steals_m hw (mSt_e A0.2.1 (fun j => f1 _ _ (by omega) (by omega))) hs hk) (fun r hr => ?_)
  obtain ⟨r1, s2⟩ := r
  obtain ⟨⟨v, e, hv⟩, S2, f2⟩ := hr
  have e : r1 = [(v, 0)] := e
  subst e
  have f2 : ∀ c j, c ≠ 216 → ¬ (195 ≤ c ∧ c ≤ 206) → s2 c j = s1 c j := f2
  exact b_X11_steal_32 _ _ s2 ⟨fun _ => ⟨⟨v, rfl, hv⟩, mT_e (fun c j a b => (f2 c j (by omega) (by omega)).trans (f1 c j (by omega) (by omega))) A0.1, S2, mHi_e hw H1 (f2 _ _ (by omega) (by omega)) (fun j => f2 _ _ (by omega) (by omega))⟩, fun q => absurd can q, fun c j a b d e => (f2 c j b e).trans ((f1 c j (by omega) d).trans (mFr_0 c j a b d e))⟩
theorem build_m (hw : wD D) (hA : mAll s D S H) (hs : wS D S) {x : Int} : zC N 1415 [(((172 : Nat) : Int), 0), (x, 0)] s (fun r => (canB D S x → r.1 = [(sHp (bldT D S x.toNat), 0)] ∧ mAll r.2 D (bldT D S x.toNat) ((S :: H).take 16)) ∧ (¬ canB D S x → r.1 = [(-1, 0)] ∧ mAll r.2 D S H) ∧ mFr s r.2) := by
  have h10 : cnt D 1 ≤ 10 := hw.1 1 (by omega)
  have h5 : cnt D 3 ≤ 5 := hw.1 3 (by omega)
  have h4 : cnt D 2 ≤ 4 := hw.1 2 (by omega)
  have hl := wS_lt hw hs
  have hc : s 174 1 = ((cnt D 1 : Nat) : Int) := hA.1.1 1 (by omega)
  have A0 := mAll_0 hw hA
  have no : ∀ s1, mAll s1 D S H → mFr s s1 → ¬ canB D S x → (canB D S x → (([(-1, 0)], s1) : Zr).1 = [(sHp (bldT D S x.toNat), 0)] ∧ mAll (([(-1, 0)], s1) : Zr).2 D (bldT D S x.toNat) ((S :: H).take 16)) ∧ (¬ canB D S x → (([(-1, 0)], s1) : Zr).1 = [(-1, 0)] ∧ mAll (([(-1, 0)], s1) : Zr).2 D S H) ∧ mFr s (([(-1, 0)], s1) : Zr).2 := fun s1 a f h => ⟨fun q => absurd q h, fun _ => ⟨rfl, a⟩, f⟩
  refine c_X11_build (b_X11_build_0 _ s (fun g => no _ A0 mFr_0 (fun q => by have := q.1; omega)) (fun g g2 => no _ A0 mFr_0 (fun q => by have := q.2.1; omega)) (fun g g2 m _ => ?_))
  obtain ⟨k, rfl⟩ := Int.eq_ofNat_of_zero_le g
  have hk : k < cnt D 1 := by omega
  have e0 : zu s 172 0 0 216 0 = ((sTh S : Nat) : Int) := A0.2.1.1
  have e10 : zu s 172 0 0 216 10 = sHp S := A0.2.1.2.2.2.1
  have r2 : ∀ s1, mT s1 D → s1 182 (k : Int).toNat = colD D 12 k := fun s1 h => by rw [Int.toNat_natCast]; exact mcol h hw (k := 1) (j := 2) (by omega) (by omega) (by decide) (by decide) hk
  refine c_X11_canBuild (b_X11_canBuild_0 _ _ (fun g3 => ?_) (fun g3 g4 => ?_) (fun g3 g4 => ?_))
  all_goals rw [e0] at g3
  · refine b_X11_build_18 _ _ _ (fun g5 => absurd rfl g5) (fun _ => no _ A0 mFr_0 (fun q => g3 ((zbit0 (by omega) (by omega)).mpr q.2.2.1)))
  · rw [e10, r2 _ A0.1] at g4
    refine b_X11_build_18 _ _ _ (fun g5 => absurd rfl g5) (fun _ => no _ A0 mFr_0 (fun q => by have q4 : colD D 12 k ≤ sHp S := q.2.2.2; omega))
  rw [e10, r2 _ A0.1] at g4
  have can : canB D S ((k : Nat) : Int) := ⟨g, by omega, (zbit0 (by omega) (by omega)).mp g3, g4⟩
  refine b_X11_build_18 _ _ _ (fun _ m2 _ => ?_) (fun g5 => absurd g5 (by decide))
  refine zC_q (keeps_ok hw A0.2.2 A0.2.1) (fun r hr => ?_)
  obtain ⟨r1, s1⟩ := r
  obtain ⟨e, H1, f1⟩ := hr
  have e : r1 = [] := e
  subst e
  have f1 : ∀ c j, ¬ (c = 172 ∧ j = 60) → c ≠ 219 → s1 c j = zu s 172 0 0 c j := f1
  have S1 : mSt s1 216 0 D S := mSt_e A0.2.1 (fun j => f1 _ _ (by omega) (by omega))
  have T1 : mT s1 D := mT_e (fun c j a b => f1 c j (by omega) (by omega)) A0.1
  refine b_X11_build_27 _ s1 (fun m3 _ => ?_)
  have W : ∀ s9 : Zs, s9 = zu (zu s1 216 0 (zor (s1 216 0) (zshl 1 ((k : Nat) : Int)))) 216 10 (w32 ((s1 216 10) - (s1 182 ((k : Nat) : Int).toNat))) → zT (zE 1415) (Pt PX11_build) m3 (32, [((172 : Nat) : Int), ((k : Nat) : Int)], [] ++ [], s9) (fun r => (canB D S ((k : Nat) : Int) → r.1 = [(sHp (bldT D S ((k : Nat) : Int).toNat), 0)] ∧ mAll r.2 D (bldT D S ((k : Nat) : Int).toNat) ((S :: H).take 16)) ∧ (¬ canB D S ((k : Nat) : Int) → r.1 = [(-1, 0)] ∧ mAll r.2 D S H) ∧ mFr s r.2) := fun s9 e9 => by
    have f9 : ∀ c j, ¬ (c = 216 ∧ (j = 0 ∨ j = 10)) → s9 c j = s1 c j := fun c j hc => by rw [e9, zu_n (by omega), zu_n (by omega)]
    obtain ⟨a1, a2, a3, a4, a5⟩ := S1
    have e3 : s9 216 10 = sHp (bldT D S k) := by
      rw [e9, zu_eq, r2 _ T1]
      have a4 : s1 216 10 = sHp S := a4
      rw [a4]
      rfl
    have S9 : mSt s9 216 0 D (bldT D S k) := by
      refine ⟨?_, fun p hp => (f9 _ _ (by omega)).trans (a2 p hp), fun p hp => (f9 _ _ (by omega)).trans (a3 p hp), e3, (f9 _ _ (by omega)).trans a5⟩
      rw [e9, zu_n (by omega), zu_eq, a1, zshl_1 k (by omega)]
      have bk : 2 ^ k ≤ 2 ^ 9 := Nat.pow_le_pow_right (by decide) (by omega)
      have bk9 : 2 ^ 9 = 512 := by decide
      rw [zor_nat (by omega) (by omega)]
      rfl
    exact b_X11_build_32 _ s9 ⟨fun _ => ⟨by rw [e3]; rfl, mT_e (fun c j a b => f9 c j (by omega)) T1, S9, mHi_e hw H1 (f9 _ _ (by omega)) (fun j => f9 _ _ (by omega))⟩, fun q => absurd can q, fun c j a b d e => (f9 c j (by omega)).trans ((f1 c j (by omega) d).trans (mFr_0 c j a b d e))⟩
  exact c_X11_builds (b_X11_builds_0 _ s1 (W _ (by first | rfl | rw [zu_n (by omega), zu_n (by omega)])))
theorem reachOf_m (hF : wF D) (hX : wX D) (hm : mT s D) (hw : wD D) (hS : mSt s 216 0 D S) (hs : wS D S) {p : Nat} (hp : p < cnt D 3) : zC N 1495 [(((172 : Nat) : Int), 0), ((p : Int), 0)] s (fun r => ∃ X : Nat, r = ([((X : Int), 0)], s) ∧ X < 1073741824 ∧ ∀ q, X.testBit q = true ↔ wok D (opn D S p (-1)) (sPe S p).toNat q) := by
  have h5 : cnt D 3 ≤ 5 := hw.1 3 (by omega)
  have hl := wS_lt hw hs
  have ep : (w32 (1 + (p : Int))).toNat = 1 + p := by rw [w32_id (by omega) (by omega)]; omega
  have rr : s 187 (p : Int).toNat = colD D 31 p := by rw [Int.toNat_natCast]; exact mcol hm hw (k := 3) (j := 1) (by omega) (by omega) (by decide) (by decide) hp
  have e0 : s 216 0 = ((sTh S : Nat) : Int) := hS.1
  have np := plI_nat hw (hs.2.1 p hp)
  have e1 : s 216 (1 + p) = (((sPe S p).toNat : Nat) : Int) := by
    have := hS.2.1 p hp
    rw [Nat.zero_add] at this
    rw [this]
    exact np.2.1
  refine c_X11_reachOf (b_X11_reachOf_0 _ s (fun m _ => ?_))
  rw [rr, e0, ep, e1]
  refine zC_q (climbs_m hm hw hX (fun i hi => by have := hS.2.2.1 i hi; rw [Nat.zero_add] at this; exact this) hp hl) (fun r hr => ?_)
  subst hr
  refine b_X11_reachOf_26 _ _ _ s (fun m2 _ => ?_)
  refine zC_q (spreads_m hm hw hF hX (bset_10 hw) np.1) (fun r hr => ?_)
  obtain ⟨X, rfl, hX2, hX3⟩ := hr
  refine b_X11_reachOf_29 _ _ s ⟨X, rfl, hX2, fun q => ?_⟩
  rw [hX3 q, opT_opn hw hs.1]
theorem canGo_m (hF : wF D) (hX : wX D) (hm : mT s D) (hw : wD D) (hS : mSt s 216 0 D S) (hs : wS D S) {p : Nat} (hp : p < cnt D 3) {y : Int} (hy : plI D y) : zC N 1419 [(((172 : Nat) : Int), 0), ((p : Int), 0), (y, 0)] s (fun r => r = ([(if dcP (wok D (opn D S p (-1)) (sPe S p).toNat y.toNat) = true then 1 else 0, 0)], s)) := by
  have ny := plI_nat hw hy
  refine c_X11_canGo (b_X11_canGo_0 _ _ s (fun m _ => ?_))
  refine zC_q (reachOf_m hF hX hm hw hS hs hp) (fun r hr => ?_)
  obtain ⟨X, rfl, h2, h3⟩ := hr
  refine b_X11_canGo_5 _ _ _ s (fun g => ?_) (fun g => ?_)
  all_goals rw [ny.2.1] at g
  · rw [if_neg (by rw [dcP_no (fun q => g ((zbit1 (by omega) (by omega)).mpr ((h3 _).mpr q)))]; decide)]
  · rw [if_pos (dcP_yes ((h3 _).mp ((zbit1 (by omega) (by omega)).mp g)))]
theorem go_m (hF : wF D) (hX : wX D) (hw : wD D) (hA : mAll s D S H) (hs : wS D S) {x y : Int} (hy : y < 2147483648) : zC N 1441 [(((172 : Nat) : Int), 0), (x, 0), (y, 0)] s (fun r => (canG D S x y → r.1 = [(1, 0)] ∧ mAll r.2 D (goT S x.toNat y) ((S :: H).take 16)) ∧ (¬ canG D S x y → r.1 = [(0, 0)] ∧ mAll r.2 D S H) ∧ mFr s r.2) := by
  have h5 : cnt D 3 ≤ 5 := hw.1 3 (by omega)
  have h4 : cnt D 2 ≤ 4 := hw.1 2 (by omega)
  have hc : s 174 3 = ((cnt D 3 : Nat) : Int) := hA.1.1 3 (by omega)
  have A0 := mAll_0 hw hA
  have no : ∀ s1, mAll s1 D S H → mFr s s1 → ¬ canG D S x y → (canG D S x y → (([(0, 0)], s1) : Zr).1 = [(1, 0)] ∧ mAll (([(0, 0)], s1) : Zr).2 D (goT S x.toNat y) ((S :: H).take 16)) ∧ (¬ canG D S x y → (([(0, 0)], s1) : Zr).1 = [(0, 0)] ∧ mAll (([(0, 0)], s1) : Zr).2 D S H) ∧ mFr s (([(0, 0)], s1) : Zr).2 := fun s1 a f h => ⟨fun q => absurd q h, fun _ => ⟨rfl, a⟩, f⟩
  refine c_X11_go (b_X11_go_0 _ _ s (fun g => no _ A0 mFr_0 (fun q => by have := q.1; omega)) (fun g g2 => no _ A0 mFr_0 (fun q => by have := q.2.1; omega)) (fun g g2 m _ => ?_))
  obtain ⟨k, rfl⟩ := Int.eq_ofNat_of_zero_le g
  have hk : k < cnt D 3 := by omega
  refine zC_q (isPlace_m A0.1 hw hy) (fun r hr => ?_)
  subst hr
  refine b_X11_go_18 _ _ _ _ (fun g3 => no _ A0 mFr_0 (fun q => by rw [if_pos (dcP_yes q.2.2.1)] at g3; omega)) (fun g3 m2 _ => ?_)
  have py : plI D y := Classical.byContradiction fun c => g3 (if_neg (by rw [dcP_no c]; decide))
  refine zC_q (canGo_m hF hX A0.1 hw A0.2.1 hs hk py) (fun r hr => ?_)
  subst hr
  refine b_X11_go_27 _ _ _ _ (fun g4 m3 _ => ?_) (fun g4 => no _ A0 mFr_0 (fun q => by have q2 : wok D (opn D S k (-1)) (sPe S k).toNat y.toNat := q.2.2.2; rw [if_pos (dcP_yes q2)] at g4; omega))
  have ww : wok D (opn D S k (-1)) (sPe S k).toNat y.toNat := Classical.byContradiction fun c => g4 (if_neg (by rw [dcP_no c]; decide))
  have can : canG D S ((k : Nat) : Int) y := ⟨g, by omega, py, ww⟩
  refine zC_q (keeps_ok hw A0.2.2 A0.2.1) (fun r hr => ?_)
  obtain ⟨r1, s1⟩ := r
  obtain ⟨e, H1, f1⟩ := hr
  have e : r1 = [] := e
  subst e
  have f1 : ∀ c j, ¬ (c = 172 ∧ j = 60) → c ≠ 219 → s1 c j = zu s 172 0 0 c j := f1
  have S1 : mSt s1 216 0 D S := mSt_e A0.2.1 (fun j => f1 _ _ (by omega) (by omega))
  have T1 : mT s1 D := mT_e (fun c j a b => f1 c j (by omega) (by omega)) A0.1
  have ek : (w32 (1 + ((k : Nat) : Int))).toNat = 1 + k := by rw [w32_id (by omega) (by omega)]; omega
  have W : ∀ s9 : Zs, s9 = zu s1 216 (w32 (1 + ((k : Nat) : Int))).toNat y → (canG D S ((k : Nat) : Int) y → (([(1, 0)], s9) : Zr).1 = [(1, 0)] ∧ mAll (([(1, 0)], s9) : Zr).2 D (goT S ((k : Nat) : Int).toNat y) ((S :: H).take 16)) ∧ (¬ canG D S ((k : Nat) : Int) y → (([(1, 0)], s9) : Zr).1 = [(0, 0)] ∧ mAll (([(1, 0)], s9) : Zr).2 D S H) ∧ mFr s (([(1, 0)], s9) : Zr).2 := fun s9 e9 => by
    rw [ek] at e9
    clear ek
    have f9 : ∀ c j, ¬ (c = 216 ∧ j = 1 + k) → s9 c j = s1 c j := fun c j hc => by rw [e9, zu_n hc]
    obtain ⟨a1, a2, a3, a4, a5⟩ := S1
    refine ⟨fun _ => ⟨rfl, mT_e (fun c j a b => f9 c j (by omega)) T1, ⟨(f9 _ _ (by omega)).trans a1, fun p hp => ?_, fun p hp => (f9 _ _ (by omega)).trans (a3 p hp), (f9 _ _ (by omega)).trans a4, (f9 _ _ (by omega)).trans a5⟩, mHi_e hw H1 (f9 _ _ (by omega)) (fun j => f9 _ _ (by omega))⟩, fun q => absurd can q, fun c j a b d e => (f9 c j (by omega)).trans ((f1 c j (by omega) d).trans (mFr_0 c j a b d e))⟩
    show s9 216 (0 + 1 + p) = if p = k then y else S.2.1 p
    by_cases q : p = k
    · rw [if_pos q, q, e9, Nat.zero_add, zu_eq]
    · rw [if_neg q, f9 _ _ (by omega)]; exact a2 p hp
  exact b_X11_go_36 _ _ s1 (W _ rfl)
theorem canCarry_m (hF : wF D) (hX : wX D) (hm : mT s D) (hw : wD D) (hS : mSt s 216 0 D S) (hs : wS D S) {p i : Nat} (hp : p < cnt D 3) (hi : i < cnt D 2) {y : Int} (hy : plI D y) : zC N 1418 [(((172 : Nat) : Int), 0), ((p : Int), 0), ((i : Int), 0), (y, 0)] s (fun r => r = ([(if dcP (sTg S i = sPe S p ∧ wok D (opn D S p (i : Int)) (sPe S p).toNat y.toNat) = true then 1 else 0, 0)], s)) := by
  have h5 : cnt D 3 ≤ 5 := hw.1 3 (by omega)
  have h4 : cnt D 2 ≤ 4 := hw.1 2 (by omega)
  have hl := wS_lt hw hs
  have ep : (w32 (1 + (p : Int))).toNat = 1 + p := by rw [w32_id (by omega) (by omega)]; omega
  have ei : (w32 (6 + (i : Int))).toNat = 6 + i := by rw [w32_id (by omega) (by omega)]; omega
  have rr : s 187 (p : Int).toNat = colD D 31 p := by rw [Int.toNat_natCast]; exact mcol hm hw (k := 3) (j := 1) (by omega) (by omega) (by decide) (by decide) hp
  have e0 : s 216 0 = ((sTh S : Nat) : Int) := hS.1
  have np := plI_nat hw (hs.2.1 p hp)
  have ny := plI_nat hw hy
  have e1 : s 216 (1 + p) = sPe S p := by
    have := hS.2.1 p hp
    rw [Nat.zero_add] at this
    exact this
  have e2 : ∀ i, i < cnt D 2 → s 216 (6 + i) = sTg S i := fun i hi => by
    have := hS.2.2.1 i hi
    rw [Nat.zero_add] at this
    exact this
  refine c_X11_canCarry (b_X11_canCarry_0 _ _ _ s (fun g => ?_) (fun g m _ => ?_))
  all_goals rw [ei, ep, e2 i hi, e1] at g
  · rw [if_neg (by rw [dcP_no (fun q => g q.1)]; decide)]
  rw [rr, e0, ep, e1]
  refine zC_q (climbs_m hm hw hX e2 hp hl) (fun r hr => ?_)
  subst hr
  refine b_X11_canCarry_46 _ _ _ _ _ s (fun m2 _ => ?_)
  rw [np.2.1]
  refine zC_q (spreads_m hm hw hF hX (bset_10 hw) np.1) (fun r hr => ?_)
  obtain ⟨X, rfl, h2, h3⟩ := hr
  rw [opT_opn hw hs.1] at h3
  rw [← np.2.1]
  refine b_X11_canCarry_49 _ _ _ _ s (fun g2 => ?_) (fun g2 => ?_)
  all_goals rw [ny.2.1] at g2
  · rw [if_neg (by rw [dcP_no (fun q => g2 ((zbit1 (by omega) (by omega)).mpr ((h3 _).mpr q.2)))]; decide)]
  · rw [if_pos (dcP_yes ⟨g, (h3 _).mp ((zbit1 (by omega) (by omega)).mp g2)⟩)]
theorem carry_m (hF : wF D) (hX : wX D) (hw : wD D) (hA : mAll s D S H) (hs : wS D S) {x i y : Int} (hy : y < 2147483648) : zC N 1423 [(((172 : Nat) : Int), 0), (x, 0), (i, 0), (y, 0)] s (fun r => (canC D S x i y → r.1 = [(1, 0)] ∧ mAll r.2 D (carT S x.toNat i.toNat y) ((S :: H).take 16)) ∧ (¬ canC D S x i y → r.1 = [(0, 0)] ∧ mAll r.2 D S H) ∧ mFr s r.2) := by
  have h5 : cnt D 3 ≤ 5 := hw.1 3 (by omega)
  have h4 : cnt D 2 ≤ 4 := hw.1 2 (by omega)
  have hc : s 174 3 = ((cnt D 3 : Nat) : Int) := hA.1.1 3 (by omega)
  have hc2 : s 174 2 = ((cnt D 2 : Nat) : Int) := hA.1.1 2 (by omega)
  have A0 := mAll_0 hw hA
  have no : ∀ s1, mAll s1 D S H → mFr s s1 → ¬ canC D S x i y → (canC D S x i y → (([(0, 0)], s1) : Zr).1 = [(1, 0)] ∧ mAll (([(0, 0)], s1) : Zr).2 D (carT S x.toNat i.toNat y) ((S :: H).take 16)) ∧ (¬ canC D S x i y → (([(0, 0)], s1) : Zr).1 = [(0, 0)] ∧ mAll (([(0, 0)], s1) : Zr).2 D S H) ∧ mFr s (([(0, 0)], s1) : Zr).2 := fun s1 a f h => ⟨fun q => absurd q h, fun _ => ⟨rfl, a⟩, f⟩
  refine c_X11_carry (b_X11_carry_0 _ _ _ s (fun g => no _ A0 mFr_0 (fun q => by have := q.1; omega)) (fun g g2 => no _ A0 mFr_0 (fun q => by have := q.2.1; omega)) (fun g g2 g3 => no _ A0 mFr_0 (fun q => by have := q.2.2.1; omega)) (fun g g2 g3 g4 => no _ A0 mFr_0 (fun q => by have := q.2.2.2.1; omega)) (fun g g2 g3 g4 m _ => ?_))
  obtain ⟨k, rfl⟩ := Int.eq_ofNat_of_zero_le g
  obtain ⟨l, rfl⟩ := Int.eq_ofNat_of_zero_le g3
  have hk : k < cnt D 3 := by omega
  have hl : l < cnt D 2 := by omega
  refine zC_q (isPlace_m A0.1 hw hy) (fun r hr => ?_)
  subst hr
  refine b_X11_carry_26 _ _ _ _ _ (fun g5 => no _ A0 mFr_0 (fun q => by rw [if_pos (dcP_yes q.2.2.2.2.2.1)] at g5; omega)) (fun g5 m2 _ => ?_)
  have py : plI D y := Classical.byContradiction fun c => g5 (if_neg (by rw [dcP_no c]; decide))
  refine zC_q (canCarry_m hF hX A0.1 hw A0.2.1 hs hk hl py) (fun r hr => ?_)
  subst hr
  refine b_X11_carry_36 _ _ _ _ _ (fun g6 m3 _ => ?_) (fun g6 => no _ A0 mFr_0 (fun q => by
    have q1 : sTg S l = sPe S k := q.2.2.2.2.1
    have q2 : wok D (opn D S k (l : Int)) (sPe S k).toNat y.toNat := q.2.2.2.2.2.2
    rw [if_pos (dcP_yes ⟨q1, q2⟩)] at g6
    omega))
  have cc : sTg S l = sPe S k ∧ wok D (opn D S k (l : Int)) (sPe S k).toNat y.toNat := Classical.byContradiction fun c => g6 (if_neg (by rw [dcP_no c]; decide))
  have can : canC D S ((k : Nat) : Int) ((l : Nat) : Int) y := ⟨g, by omega, g3, by omega, cc.1, py, cc.2⟩
  refine zC_q (keeps_ok hw A0.2.2 A0.2.1) (fun r hr => ?_)
  obtain ⟨r1, s1⟩ := r
  obtain ⟨e, H1, f1⟩ := hr
  have e : r1 = [] := e
  subst e
  have f1 : ∀ c j, ¬ (c = 172 ∧ j = 60) → c ≠ 219 → s1 c j = zu s 172 0 0 c j := f1
  have S1 : mSt s1 216 0 D S := mSt_e A0.2.1 (fun j => f1 _ _ (by omega) (by omega))
  have T1 : mT s1 D := mT_e (fun c j a b => f1 c j (by omega) (by omega)) A0.1
  have ek : (w32 (1 + ((k : Nat) : Int))).toNat = 1 + k := by rw [w32_id (by omega) (by omega)]; omega
  have el : (w32 (6 + ((l : Nat) : Int))).toNat = 6 + l := by rw [w32_id (by omega) (by omega)]; omega
  refine b_X11_carry_45 _ _ _ s1 (fun m4 _ => ?_)
  have W : ∀ s9 : Zs, s9 = zu (zu s1 216 (w32 (1 + ((k : Nat) : Int))).toNat y) 216 (w32 (6 + ((l : Nat) : Int))).toNat y → zT (zE 1423) (Pt PX11_carry) m4 (52, [((172 : Nat) : Int), ((k : Nat) : Int), ((l : Nat) : Int), y], [] ++ [], s9) (fun r => (canC D S ((k : Nat) : Int) ((l : Nat) : Int) y → r.1 = [(1, 0)] ∧ mAll r.2 D (carT S ((k : Nat) : Int).toNat ((l : Nat) : Int).toNat y) ((S :: H).take 16)) ∧ (¬ canC D S ((k : Nat) : Int) ((l : Nat) : Int) y → r.1 = [(0, 0)] ∧ mAll r.2 D S H) ∧ mFr s r.2) := fun s9 e9 => by
    rw [ek, el] at e9
    clear ek el
    have f9 : ∀ c j, ¬ (c = 216 ∧ (j = 1 + k ∨ j = 6 + l)) → s9 c j = s1 c j := fun c j hc => by rw [e9, zu_n (by omega), zu_n (by omega)]
    obtain ⟨a1, a2, a3, a4, a5⟩ := S1
    refine b_X11_carry_52 _ _ _ s9 ⟨fun _ => ⟨rfl, mT_e (fun c j a b => f9 c j (by omega)) T1, ⟨(f9 _ _ (by omega)).trans a1, fun p hp => ?_, fun p hp => ?_, (f9 _ _ (by omega)).trans a4, (f9 _ _ (by omega)).trans a5⟩, mHi_e hw H1 (f9 _ _ (by omega)) (fun j => f9 _ _ (by omega))⟩, fun q => absurd can q, fun c j a b d e => (f9 c j (by omega)).trans ((f1 c j (by omega) d).trans (mFr_0 c j a b d e))⟩
    · show s9 216 (0 + 1 + p) = if p = k then y else S.2.1 p
      by_cases q : p = k
      · rw [if_pos q, q, e9, Nat.zero_add, zu_n (by omega), zu_eq]
      · rw [if_neg q, f9 _ _ (by omega)]; exact a2 p hp
    · show s9 216 (0 + 6 + p) = if p = l then y else S.2.2.1 p
      by_cases q : p = l
      · rw [if_pos q, q, e9, Nat.zero_add, zu_eq]
      · rw [if_neg q, f9 _ _ (by omega)]; exact a3 p hp
  exact c_X11_carries (b_X11_carries_0 _ _ _ s1 (W _ rfl))
theorem night_m (hw : wD D) (hA : mAll s D S H) : zC N 1483 [(((172 : Nat) : Int), 0)] s (fun r => r.1 = [(sNi (nigT S), 0)] ∧ mAll r.2 D (nigT S) ((S :: H).take 16) ∧ mFr s r.2) := by
  have h5 : cnt D 3 ≤ 5 := hw.1 3 (by omega)
  have h4 : cnt D 2 ≤ 4 := hw.1 2 (by omega)
  have A0 := mAll_0 hw hA
  refine c_X11_night (b_X11_night_0 s (fun m _ => ?_))
  refine zC_q (keeps_ok hw A0.2.2 A0.2.1) (fun r hr => ?_)
  obtain ⟨r1, s1⟩ := r
  obtain ⟨e, H1, f1⟩ := hr
  have e : r1 = [] := e
  subst e
  have f1 : ∀ c j, ¬ (c = 172 ∧ j = 60) → c ≠ 219 → s1 c j = zu s 172 0 0 c j := f1
  have S1 : mSt s1 216 0 D S := mSt_e A0.2.1 (fun j => f1 _ _ (by omega) (by omega))
  have T1 : mT s1 D := mT_e (fun c j a b => f1 c j (by omega) (by omega)) A0.1
  obtain ⟨a1, a2, a3, a4, a5⟩ := S1
  have W : ∀ (s9 : Zs) (v9 : Int), s9 = zu s1 216 11 (w32 ((s1 216 11) + 1)) → v9 = w32 ((s1 216 11) + 1) → (([(v9, 0)], s9) : Zr).1 = [(sNi (nigT S), 0)] ∧ mAll (([(v9, 0)], s9) : Zr).2 D (nigT S) ((S :: H).take 16) ∧ mFr s (([(v9, 0)], s9) : Zr).2 := fun s9 v9 e9 ev => by
    have a5 : s1 216 11 = sNi S := a5
    rw [a5] at e9 ev
    have f9 : ∀ c j, ¬ (c = 216 ∧ j = 11) → s9 c j = s1 c j := fun c j hc => by rw [e9, zu_n hc]
    have e4 : s9 216 11 = sNi (nigT S) := by rw [e9, zu_eq]; rfl
    exact ⟨by rw [ev]; rfl, ⟨mT_e (fun c j a b => f9 c j (by omega)) T1, ⟨(f9 _ _ (by omega)).trans a1, fun p hp => (f9 _ _ (by omega)).trans (a2 p hp), fun p hp => (f9 _ _ (by omega)).trans (a3 p hp), (f9 _ _ (by omega)).trans a4, e4⟩, mHi_e hw H1 (f9 _ _ (by omega)) (fun j => f9 _ _ (by omega))⟩, fun c j a b d e => (f9 c j (by omega)).trans ((f1 c j (by omega) d).trans (mFr_0 c j a b d e))⟩
  exact b_X11_night_9 s1 (W _ _ rfl rfl)
theorem undo_m (hw : wD D) (hA : mAll s D S H) : zC N 1522 [(((172 : Nat) : Int), 0)] s (fun r => (∀ S' H', H = S' :: H' → r.1 = [(1, 0)] ∧ mAll r.2 D S' H') ∧ (H = [] → r.1 = [(0, 0)] ∧ mAll r.2 D S H) ∧ mFr s r.2) := by
  have A0 := mAll_0 hw hA
  obtain ⟨b1, b2, b3⟩ := hA.2.2
  refine c_X11_undo (b_X11_undo_0 s (fun g m _ => ?_) (fun g => ?_))
  rotate_left
  · cases H with
    | nil => exact ⟨fun S' H' q => (by cases q), fun _ => ⟨rfl, A0⟩, mFr_0⟩
    | cons S' H' =>
      rw [List.length_cons] at b2
      omega
  cases H with
  | nil => exact absurd b2 g
  | cons S' H' =>
    rw [List.length_cons] at b1 b2
    rw [b2, w32_id (z := ((H'.length + 1 : Nat) : Int) - 1) (by omega) (by omega), show ((H'.length + 1 : Nat) : Int) - 1 = ((H'.length : Nat) : Int) from by omega, w32_id (by omega) (by omega), show 13 * ((H'.length : Nat) : Int) = ((13 * H'.length : Nat) : Int) from by omega]
    refine zC_q (copies_ok (f := 219) (e := 216) (b := 0) (by omega) (by omega) (by omega)) (fun r hr => ?_)
    obtain ⟨r1, s1⟩ := r
    obtain ⟨e, c1, c2⟩ := hr
    have e : r1 = [] := e
    subst e
    have c1 : ∀ k, k < 13 → s1 216 (0 + k) = zu (zu s 172 0 0) 172 60 ((H'.length : Nat) : Int) 219 (13 * H'.length + k) := c1
    have c2 : ∀ c j, ¬ (c = 216 ∧ 0 ≤ j ∧ j < 0 + 13) → s1 c j = zu (zu s 172 0 0) 172 60 ((H'.length : Nat) : Int) c j := c2
    have g2 : ∀ c j, c ≠ 172 → c ≠ 216 → s1 c j = s c j := fun c j h1 h2 => by rw [c2 _ _ (by omega), zu_n (by omega), zu_n (by omega)]
    refine b_X11_undo_43 s1 ⟨fun S'' H'' q => ?_, (fun q => by cases q), fun c j a b d e => (c2 c j (by omega)).trans (by rw [zu_n (by omega), zu_n (by omega)])⟩
    cases q
    refine ⟨rfl, mT_e (fun c j a b => g2 c j (by omega) (by omega)) hA.1, ?_, by omega, ?_, fun i S2 hi => ?_⟩
    · have := b3 0 S' rfl
      rw [List.length_cons] at this
      refine mSt_mv hw this (fun k hk => ?_)
      show s1 216 (0 + k) = _
      rw [c1 k hk, zu_n (by omega), zu_n (by omega)]
      congr 1
    · show s1 172 60 = _
      rw [c2 _ _ (by omega), zu_eq]
    · have := b3 (i + 1) S2 (by simpa using hi)
      rw [List.length_cons] at this
      have hl := (List.getElem?_eq_some_iff.mp hi).1
      refine mSt_mv hw this (fun k hk => ?_)
      show s1 219 _ = _
      rw [g2 _ _ (by omega) (by omega)]
      congr 1
      omega
end Zmd
