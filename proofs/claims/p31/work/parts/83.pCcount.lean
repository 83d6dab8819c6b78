/-! count -/
theorem b_X10_count_0 {n : Nat} {Q : Zr → Prop} {t : Nat} (x1 : Int) (s : Zs) (ht : t = 7 ∨ t = 43)
    (h0 : ∀ (g1 : x1 < 0), ∀ (g2_0 : x1 = 5), Q ([(s 79 3, 0)], s))
    (h1 : ∀ (g1 : x1 < 0), ∀ (g2_1 : x1 = 6), Q ([(s 79 4, 0)], s))
    (h2 : ∀ (g1 : x1 < 0), ∀ (g2_2 : x1 = 7), Q ([(s 79 5, 0)], s))
    (h3 : ∀ (g1 : x1 < 0), ∀ (g2_3 : x1 = 8), ∀ m, m < n → zC m 1536 [(s 79 0, 0)] s (fun p => zT (zE 1287) (Pt PX10_count) m (102, [((0 : Nat) : Int), x1], p.1 ++ [], p.2) Q))
    (h4 : ∀ (g1 : x1 < 0), ∀ (g2_4 : x1 = 9), Q ([(s 85 1, 0)], s))
    (h5 : ∀ (g1 : x1 < 0), ∀ (g2_5 : x1 = 10), Q ([(s 85 2, 0)], s))
    (h6 : ∀ (g1 : x1 < 0), ∀ (g2_6 : x1 = 11), Q ([(s 88 0, 0)], s))
    (h7 : ∀ (g1 : x1 < 0), ∀ (g2_7 : x1 = 12), Q ([(s 1 0, 0)], s))
    (h8 : ∀ (g1 : x1 < 0), ∀ (g2_0 : ¬ x1 = 5), ∀ (g2_1 : ¬ x1 = 6), ∀ (g2_2 : ¬ x1 = 7), ∀ (g2_3 : ¬ x1 = 8), ∀ (g2_4 : ¬ x1 = 9), ∀ (g2_5 : ¬ x1 = 10), ∀ (g2_6 : ¬ x1 = 11), ∀ (g2_7 : ¬ x1 = 12), Q ([((-1), 0)], s))
    (h9 : ∀ (g1 : 0 ≤ x1), ∀ (g4 : 4 < x1), ∀ (g5_0 : x1 = 5), Q ([(s 79 3, 0)], s))
    (h10 : ∀ (g1 : 0 ≤ x1), ∀ (g4 : 4 < x1), ∀ (g5_1 : x1 = 6), Q ([(s 79 4, 0)], s))
    (h11 : ∀ (g1 : 0 ≤ x1), ∀ (g4 : 4 < x1), ∀ (g5_2 : x1 = 7), Q ([(s 79 5, 0)], s))
    (h12 : ∀ (g1 : 0 ≤ x1), ∀ (g4 : 4 < x1), ∀ (g5_3 : x1 = 8), ∀ m, m < n → zC m 1536 [(s 79 0, 0)] s (fun p => zT (zE 1287) (Pt PX10_count) m (102, [((0 : Nat) : Int), x1], p.1 ++ [], p.2) Q))
    (h13 : ∀ (g1 : 0 ≤ x1), ∀ (g4 : 4 < x1), ∀ (g5_4 : x1 = 9), Q ([(s 85 1, 0)], s))
    (h14 : ∀ (g1 : 0 ≤ x1), ∀ (g4 : 4 < x1), ∀ (g5_5 : x1 = 10), Q ([(s 85 2, 0)], s))
    (h15 : ∀ (g1 : 0 ≤ x1), ∀ (g4 : 4 < x1), ∀ (g5_6 : x1 = 11), Q ([(s 88 0, 0)], s))
    (h16 : ∀ (g1 : 0 ≤ x1), ∀ (g4 : 4 < x1), ∀ (g5_7 : x1 = 12), Q ([(s 1 0, 0)], s))
    (h17 : ∀ (g1 : 0 ≤ x1), ∀ (g4 : 4 < x1), ∀ (g5_0 : ¬ x1 = 5), ∀ (g5_1 : ¬ x1 = 6), ∀ (g5_2 : ¬ x1 = 7), ∀ (g5_3 : ¬ x1 = 8), ∀ (g5_4 : ¬ x1 = 9), ∀ (g5_5 : ¬ x1 = 10), ∀ (g5_6 : ¬ x1 = 11), ∀ (g5_7 : ¬ x1 = 12), Q ([((-1), 0)], s))
    (h18 : ∀ (g1 : 0 ≤ x1), ∀ (g4 : x1 ≤ 4), Q ([(s (zrho ((s 0 3).toNat) 0) x1.toNat, 0)], s)) : zT (zE 1287) (Pt PX10_count) n (0, [((0 : Nat) : Int), x1], [], s) Q := by
  refine tL x1 0 rfl rfl rfl ?_
  refine tI2 rfl (fun g1 _ l1 => zT_le ?_ (Nat.le_of_lt l1)) (fun g1 _ l1 => zT_le ?_ (Nat.le_of_lt l1))
  · refine tL x1 0 rfl rfl rfl ?_
    by_cases g2_0 : x1 = 5
    · refine zW_d (t := 68) rfl (fun go => by rw [g2_0]; rfl) (fun _ l => zT_le ?_ (Nat.le_of_lt l))
      refine tL ((0 : Nat) : Int) 0 rfl rfl rfl ?_
      refine tFR (c := 0) 79 rfl rfl rfl rfl rfl ?_
      refine tFv (c := 79) (s 79 3) 0 rfl rfl rfl rfl rfl ?_
      exact tR rfl (h0 g1 g2_0)
    by_cases g2_1 : x1 = 6
    · refine zW_d (t := 76) rfl (fun go => by rw [g2_1]; rfl) (fun _ l => zT_le ?_ (Nat.le_of_lt l))
      refine tL ((0 : Nat) : Int) 0 rfl rfl rfl ?_
      refine tFR (c := 0) 79 rfl rfl rfl rfl rfl ?_
      refine tFv (c := 79) (s 79 4) 0 rfl rfl rfl rfl rfl ?_
      exact tR rfl (h1 g1 g2_1)
    by_cases g2_2 : x1 = 7
    · refine zW_d (t := 84) rfl (fun go => by rw [g2_2]; rfl) (fun _ l => zT_le ?_ (Nat.le_of_lt l))
      refine tL ((0 : Nat) : Int) 0 rfl rfl rfl ?_
      refine tFR (c := 0) 79 rfl rfl rfl rfl rfl ?_
      refine tFv (c := 79) (s 79 5) 0 rfl rfl rfl rfl rfl ?_
      exact tR rfl (h2 g1 g2_2)
    by_cases g2_3 : x1 = 8
    · refine zW_d (t := 92) rfl (fun go => by rw [g2_3]; rfl) (fun _ l => zT_le ?_ (Nat.le_of_lt l))
      refine tL ((0 : Nat) : Int) 0 rfl rfl rfl ?_
      refine tFR (c := 0) 79 rfl rfl rfl rfl rfl ?_
      refine tFv (c := 79) (s 79 0) 0 rfl rfl rfl rfl rfl ?_
      exact tCall [(s 79 0, 0)] [] rfl rfl rfl (fun m l => h3 g1 g2_3 m (Nat.lt_of_lt_of_le l (Nat.le_refl n)))
    by_cases g2_4 : x1 = 9
    · refine zW_d (t := 103) rfl (fun go => by rw [g2_4]; rfl) (fun _ l => zT_le ?_ (Nat.le_of_lt l))
      refine tL ((0 : Nat) : Int) 0 rfl rfl rfl ?_
      refine tFR (c := 0) 85 rfl rfl rfl rfl rfl ?_
      refine tFv (c := 85) (s 85 1) 0 rfl rfl rfl rfl rfl ?_
      exact tR rfl (h4 g1 g2_4)
    by_cases g2_5 : x1 = 10
    · refine zW_d (t := 111) rfl (fun go => by rw [g2_5]; rfl) (fun _ l => zT_le ?_ (Nat.le_of_lt l))
      refine tL ((0 : Nat) : Int) 0 rfl rfl rfl ?_
      refine tFR (c := 0) 85 rfl rfl rfl rfl rfl ?_
      refine tFv (c := 85) (s 85 2) 0 rfl rfl rfl rfl rfl ?_
      exact tR rfl (h5 g1 g2_5)
    by_cases g2_6 : x1 = 11
    · refine zW_d (t := 119) rfl (fun go => by rw [g2_6]; rfl) (fun _ l => zT_le ?_ (Nat.le_of_lt l))
      refine tL ((0 : Nat) : Int) 0 rfl rfl rfl ?_
      refine tFR (c := 0) 88 rfl rfl rfl rfl rfl ?_
      refine tFv (c := 88) (s 88 0) 0 rfl rfl rfl rfl rfl ?_
      exact tR rfl (h6 g1 g2_6)
    by_cases g2_7 : x1 = 12
    · refine zW_d (t := 127) rfl (fun go => by rw [g2_7]; rfl) (fun _ l => zT_le ?_ (Nat.le_of_lt l))
      refine tL ((0 : Nat) : Int) 0 rfl rfl rfl ?_
      refine tFR (c := 0) 1 rfl rfl rfl rfl rfl ?_
      refine tFv (c := 1) (s 1 0) 0 rfl rfl rfl rfl rfl ?_
      exact tR rfl (h7 g1 g2_7)
    refine zW_d (t := 135) rfl (fun go => zsw_out _ _ (by simp only [List.length_cons, List.length_nil]; omega)) (fun _ l => zT_le ?_ (Nat.le_of_lt l))
    refine tK rfl ?_
    exact tR rfl (h8 g1 g2_0 g2_1 g2_2 g2_3 g2_4 g2_5 g2_6 g2_7)
  · refine tL x1 0 rfl rfl rfl ?_
    refine tK rfl ?_
    refine tJ4 rfl (fun g4 _ l4 => zT_le ?_ (Nat.le_of_lt l4)) (fun g4 _ l4 => zT_le ?_ (Nat.le_of_lt l4))
    · refine tL x1 0 rfl rfl rfl ?_
      by_cases g5_0 : x1 = 5
      · refine zW_d (t := 68) rfl (fun go => by rw [g5_0]; rfl) (fun _ l => zT_le ?_ (Nat.le_of_lt l))
        refine tL ((0 : Nat) : Int) 0 rfl rfl rfl ?_
        refine tFR (c := 0) 79 rfl rfl rfl rfl rfl ?_
        refine tFv (c := 79) (s 79 3) 0 rfl rfl rfl rfl rfl ?_
        exact tR rfl (h9 g1 g4 g5_0)
      by_cases g5_1 : x1 = 6
      · refine zW_d (t := 76) rfl (fun go => by rw [g5_1]; rfl) (fun _ l => zT_le ?_ (Nat.le_of_lt l))
        refine tL ((0 : Nat) : Int) 0 rfl rfl rfl ?_
        refine tFR (c := 0) 79 rfl rfl rfl rfl rfl ?_
        refine tFv (c := 79) (s 79 4) 0 rfl rfl rfl rfl rfl ?_
        exact tR rfl (h10 g1 g4 g5_1)
      by_cases g5_2 : x1 = 7
      · refine zW_d (t := 84) rfl (fun go => by rw [g5_2]; rfl) (fun _ l => zT_le ?_ (Nat.le_of_lt l))
        refine tL ((0 : Nat) : Int) 0 rfl rfl rfl ?_
        refine tFR (c := 0) 79 rfl rfl rfl rfl rfl ?_
        refine tFv (c := 79) (s 79 5) 0 rfl rfl rfl rfl rfl ?_
        exact tR rfl (h11 g1 g4 g5_2)
      by_cases g5_3 : x1 = 8
      · refine zW_d (t := 92) rfl (fun go => by rw [g5_3]; rfl) (fun _ l => zT_le ?_ (Nat.le_of_lt l))
        refine tL ((0 : Nat) : Int) 0 rfl rfl rfl ?_
        refine tFR (c := 0) 79 rfl rfl rfl rfl rfl ?_
        refine tFv (c := 79) (s 79 0) 0 rfl rfl rfl rfl rfl ?_
        exact tCall [(s 79 0, 0)] [] rfl rfl rfl (fun m l => h12 g1 g4 g5_3 m (Nat.lt_of_lt_of_le l (Nat.le_refl n)))
      by_cases g5_4 : x1 = 9
      · refine zW_d (t := 103) rfl (fun go => by rw [g5_4]; rfl) (fun _ l => zT_le ?_ (Nat.le_of_lt l))
        refine tL ((0 : Nat) : Int) 0 rfl rfl rfl ?_
        refine tFR (c := 0) 85 rfl rfl rfl rfl rfl ?_
        refine tFv (c := 85) (s 85 1) 0 rfl rfl rfl rfl rfl ?_
        exact tR rfl (h13 g1 g4 g5_4)
      by_cases g5_5 : x1 = 10
      · refine zW_d (t := 111) rfl (fun go => by rw [g5_5]; rfl) (fun _ l => zT_le ?_ (Nat.le_of_lt l))
        refine tL ((0 : Nat) : Int) 0 rfl rfl rfl ?_
        refine tFR (c := 0) 85 rfl rfl rfl rfl rfl ?_
        refine tFv (c := 85) (s 85 2) 0 rfl rfl rfl rfl rfl ?_
        exact tR rfl (h14 g1 g4 g5_5)
      by_cases g5_6 : x1 = 11
      · refine zW_d (t := 119) rfl (fun go => by rw [g5_6]; rfl) (fun _ l => zT_le ?_ (Nat.le_of_lt l))
        refine tL ((0 : Nat) : Int) 0 rfl rfl rfl ?_
        refine tFR (c := 0) 88 rfl rfl rfl rfl rfl ?_
        refine tFv (c := 88) (s 88 0) 0 rfl rfl rfl rfl rfl ?_
        exact tR rfl (h15 g1 g4 g5_6)
      by_cases g5_7 : x1 = 12
      · refine zW_d (t := 127) rfl (fun go => by rw [g5_7]; rfl) (fun _ l => zT_le ?_ (Nat.le_of_lt l))
        refine tL ((0 : Nat) : Int) 0 rfl rfl rfl ?_
        refine tFR (c := 0) 1 rfl rfl rfl rfl rfl ?_
        refine tFv (c := 1) (s 1 0) 0 rfl rfl rfl rfl rfl ?_
        exact tR rfl (h16 g1 g4 g5_7)
      refine zW_d (t := 135) rfl (fun go => zsw_out _ _ (by simp only [List.length_cons, List.length_nil]; omega)) (fun _ l => zT_le ?_ (Nat.le_of_lt l))
      refine tK rfl ?_
      exact tR rfl (h17 g1 g4 g5_0 g5_1 g5_2 g5_3 g5_4 g5_5 g5_6 g5_7)
    · refine tL ((0 : Nat) : Int) 0 rfl rfl rfl ?_
      refine tFv (c := 0) (s 0 3) 0 rfl rfl rfl rfl rfl ?_
      refine tFR (c := (s 0 3).toNat) (zrho ((s 0 3).toNat) 0) rfl rfl rfl rfl rfl ?_
      refine tL x1 0 rfl rfl rfl ?_
      refine tAv (zrho ((s 0 3).toNat) 0) x1.toNat (s (zrho ((s 0 3).toNat) 0) x1.toNat) 0 rfl rfl rfl (by decide) rfl rfl ?_
      exact tR rfl (h18 g1 g4)

theorem b_X10_count_102 {n : Nat} {Q : Zr → Prop} {t : Nat} (x1 v0 : Int) (s : Zs) (ht : t = 7 ∨ t = 43)
    (h0 : Q ([(v0, 0)], s)) : zT (zE 1287) (Pt PX10_count) n (102, [((0 : Nat) : Int), x1], [(v0, 0)], s) Q := by
  exact tR rfl (h0)

theorem c_X10_count {n : Nat} {Q : Zr → Prop} {a0 a1 : Int} {s : Zs} (h : zT (zE 1287) (Pt PX10_count) n (0, [a0, a1], [], s) Q) : zC n 1287 [(a0, 0), (a1, 0)] s Q := h

theorem b_X11_count_0 {n : Nat} {Q : Zr → Prop} (x1 : Int) (s : Zs) 
    (h0 : ∀ m, m < n → zC m 1525 [(x1, 0), (0, 0), (12, 0)] (zu s 172 0 0) (fun p => zT (zE 1428) (Pt PX11_count) m (12, [((172 : Nat) : Int), x1], p.1 ++ [], p.2) Q)) : zT (zE 1428) (Pt PX11_count) n (0, [((172 : Nat) : Int), x1], [], s) Q := by
  refine tL ((172 : Nat) : Int) 0 rfl rfl rfl ?_
  refine tK rfl ?_
  refine tPut 172 rfl rfl ?_
  refine tL x1 0 rfl rfl rfl ?_
  refine tK rfl ?_
  refine tK rfl ?_
  exact tCall [(x1, 0), (0, 0), (12, 0)] [] rfl rfl rfl (fun m l => h0 m (Nat.lt_of_lt_of_le l (Nat.le_refl n)))

theorem b_X11_count_12 {n : Nat} {Q : Zr → Prop} (x1 v0 : Int) (s : Zs) 
    (h0 : ∀ (g1 : v0 ≠ 0), ∀ (g2 : 5 ≤ x1), ∀ (g3 : 8 ≤ x1), ∀ (g4 : 10 ≤ x1), ∀ (g5 : x1 ≠ 10), ∀ (g6 : x1 ≠ 11), Q ([(s 172 1, 0)], s))
    (h1 : ∀ (g1 : v0 ≠ 0), ∀ (g2 : 5 ≤ x1), ∀ (g3 : 8 ≤ x1), ∀ (g4 : 10 ≤ x1), ∀ (g5 : x1 ≠ 10), ∀ (g6 : x1 = 11), Q ([(s 172 60, 0)], s))
    (h2 : ∀ (g1 : v0 ≠ 0), ∀ (g2 : 5 ≤ x1), ∀ (g3 : 8 ≤ x1), ∀ (g4 : 10 ≤ x1), ∀ (g5 : x1 = 10), Q ([(s 212 0, 0)], s))
    (h3 : ∀ (g1 : v0 ≠ 0), ∀ (g2 : 5 ≤ x1), ∀ (g3 : 8 ≤ x1), ∀ (g4 : x1 < 10), ∀ (g7 : x1 ≠ 8), Q ([(s 207 0, 0)], s))
    (h4 : ∀ (g1 : v0 ≠ 0), ∀ (g2 : 5 ≤ x1), ∀ (g3 : 8 ≤ x1), ∀ (g4 : x1 < 10), ∀ (g7 : x1 = 8), ∀ m, m < n → zC m 1414 [(s 216 0, 0)] s (fun p => zT (zE 1428) (Pt PX11_count) m (85, [((172 : Nat) : Int), x1], p.1 ++ [], p.2) Q))
    (h5 : ∀ (g1 : v0 ≠ 0), ∀ (g2 : 5 ≤ x1), ∀ (g3 : x1 < 8), ∀ (g9 : x1 ≠ 5), ∀ (g10 : x1 ≠ 6), Q ([(s 216 12, 0)], s))
    (h6 : ∀ (g1 : v0 ≠ 0), ∀ (g2 : 5 ≤ x1), ∀ (g3 : x1 < 8), ∀ (g9 : x1 ≠ 5), ∀ (g10 : x1 = 6), Q ([(s 216 11, 0)], s))
    (h7 : ∀ (g1 : v0 ≠ 0), ∀ (g2 : 5 ≤ x1), ∀ (g3 : x1 < 8), ∀ (g9 : x1 = 5), Q ([(s 216 10, 0)], s))
    (h8 : ∀ (g1 : v0 ≠ 0), ∀ (g2 : x1 < 5), Q ([(s 174 x1.toNat, 0)], s))
    (h9 : ∀ (g1 : v0 = 0), Q ([((-1), 0)], s)) : zT (zE 1428) (Pt PX11_count) n (12, [((172 : Nat) : Int), x1], [(v0, 0)], s) Q := by
  refine tI1 rfl (fun g1 _ l1 => zT_le ?_ (Nat.le_of_lt l1)) (fun g1 _ l1 => zT_le ?_ (Nat.le_of_lt l1))
  · refine tL x1 0 rfl rfl rfl ?_
    refine tK rfl ?_
    refine tJ3 rfl (fun g2 _ l2 => zT_le ?_ (Nat.le_of_lt l2)) (fun g2 _ l2 => zT_le ?_ (Nat.le_of_lt l2))
    · refine tL x1 0 rfl rfl rfl ?_
      refine tK rfl ?_
      refine tJ3 rfl (fun g3 _ l3 => zT_le ?_ (Nat.le_of_lt l3)) (fun g3 _ l3 => zT_le ?_ (Nat.le_of_lt l3))
      · refine tL x1 0 rfl rfl rfl ?_
        refine tK rfl ?_
        refine tJ3 rfl (fun g4 _ l4 => zT_le ?_ (Nat.le_of_lt l4)) (fun g4 _ l4 => zT_le ?_ (Nat.le_of_lt l4))
        · refine tL x1 0 rfl rfl rfl ?_
          refine tK rfl ?_
          refine tJ1 rfl (fun g5 _ l5 => zT_le ?_ (Nat.le_of_lt l5)) (fun g5 _ l5 => zT_le ?_ (Nat.le_of_lt l5))
          · refine tL x1 0 rfl rfl rfl ?_
            refine tK rfl ?_
            refine tJ1 rfl (fun g6 _ l6 => zT_le ?_ (Nat.le_of_lt l6)) (fun g6 _ l6 => zT_le ?_ (Nat.le_of_lt l6))
            · refine tL ((172 : Nat) : Int) 0 rfl rfl rfl ?_
              refine tFv (c := 172) (s 172 1) 0 rfl rfl rfl rfl rfl ?_
              exact tR rfl (h0 g1 g2 g3 g4 g5 g6)
            · refine tL ((172 : Nat) : Int) 0 rfl rfl rfl ?_
              refine tFv (c := 172) (s 172 60) 0 rfl rfl rfl rfl rfl ?_
              refine tG rfl ?_
              exact tR rfl (h1 g1 g2 g3 g4 g5 g6)
          · refine tL ((172 : Nat) : Int) 0 rfl rfl rfl ?_
            refine tFR (c := 172) 212 rfl rfl rfl rfl rfl ?_
            refine tK rfl ?_
            refine tAv 212 0 (s 212 0) 0 rfl rfl rfl (by decide) rfl rfl ?_
            refine tG rfl ?_
            exact tR rfl (h2 g1 g2 g3 g4 g5)
        · refine tL x1 0 rfl rfl rfl ?_
          refine tK rfl ?_
          refine tJ1 rfl (fun g7 _ l7 => zT_le ?_ (Nat.le_of_lt l7)) (fun g7 _ l7 => zT_le ?_ (Nat.le_of_lt l7))
          · refine tL ((172 : Nat) : Int) 0 rfl rfl rfl ?_
            refine tFR (c := 172) 207 rfl rfl rfl rfl rfl ?_
            refine tK rfl ?_
            refine tAv 207 0 (s 207 0) 0 rfl rfl rfl (by decide) rfl rfl ?_
            exact tR rfl (h3 g1 g2 g3 g4 g7)
          · refine tL ((172 : Nat) : Int) 0 rfl rfl rfl ?_
            refine tFR (c := 172) 216 rfl rfl rfl rfl rfl ?_
            refine tK rfl ?_
            refine tAv 216 0 (s 216 0) 0 rfl rfl rfl (by decide) rfl rfl ?_
            exact tCall [(s 216 0, 0)] [] rfl rfl rfl (fun m l => h4 g1 g2 g3 g4 g7 m (Nat.lt_of_lt_of_le l (Nat.le_refl n)))
      · refine tL ((172 : Nat) : Int) 0 rfl rfl rfl ?_
        refine tFR (c := 172) 216 rfl rfl rfl rfl rfl ?_
        refine tL x1 0 rfl rfl rfl ?_
        refine tK rfl ?_
        refine tJ1 rfl (fun g9 _ l9 => zT_le ?_ (Nat.le_of_lt l9)) (fun g9 _ l9 => zT_le ?_ (Nat.le_of_lt l9))
        · refine tL x1 0 rfl rfl rfl ?_
          refine tK rfl ?_
          refine tJ1 rfl (fun g10 _ l10 => zT_le ?_ (Nat.le_of_lt l10)) (fun g10 _ l10 => zT_le ?_ (Nat.le_of_lt l10))
          · refine tK rfl ?_
            refine tAv 216 12 (s 216 12) 0 rfl rfl rfl (by decide) rfl rfl ?_
            exact tR rfl (h5 g1 g2 g3 g9 g10)
          · refine tK rfl ?_
            refine tG rfl ?_
            refine tAv 216 11 (s 216 11) 0 rfl rfl rfl (by decide) rfl rfl ?_
            exact tR rfl (h6 g1 g2 g3 g9 g10)
        · refine tK rfl ?_
          refine tG rfl ?_
          refine tAv 216 10 (s 216 10) 0 rfl rfl rfl (by decide) rfl rfl ?_
          exact tR rfl (h7 g1 g2 g3 g9)
    · refine tL ((172 : Nat) : Int) 0 rfl rfl rfl ?_
      refine tFR (c := 172) 174 rfl rfl rfl rfl rfl ?_
      refine tL x1 0 rfl rfl rfl ?_
      refine tAv 174 x1.toNat (s 174 x1.toNat) 0 rfl rfl rfl (by decide) rfl rfl ?_
      exact tR rfl (h8 g1 g2)
  · refine tK rfl ?_
    exact tR rfl (h9 g1)

theorem b_X11_count_85 {n : Nat} {Q : Zr → Prop} (x1 v0 : Int) (s : Zs) 
    (h0 : Q ([(v0, 0)], s)) : zT (zE 1428) (Pt PX11_count) n (85, [((172 : Nat) : Int), x1], [(v0, 0)], s) Q := by
  refine tG rfl ?_
  exact tR rfl (h0)

theorem c_X11_count {n : Nat} {Q : Zr → Prop} {a0 a1 : Int} {s : Zs} (h : zT (zE 1428) (Pt PX11_count) n (0, [a0, a1], [], s) Q) : zC n 1428 [(a0, 0), (a1, 0)] s Q := h

section Zct
variable {N t : Nat} {s : Zs} {D : ZD} {S : ZS} {ln se un tp : Int}
def cqV (D : ZD) (S : ZS) (ln se un tp x : Int) : Int := if 0 ≤ x ∧ x ≤ 4 then ((cnt D x.toNat : Nat) : Int) else if x = 5 then sHp S else if x = 6 then sNi S else if x = 7 then sSo S else if x = 8 then ((bcn (sTh S) : Nat) : Int) else if x = 9 then ln else if x = 10 then se else if x = 11 then un else if x = 12 then tp else -1
theorem cq5 : cqV D S ln se un tp 5 = sHp S := (if_neg (show ¬ ((0 : Int) ≤ 5 ∧ (5 : Int) ≤ 4) by decide)).trans (if_pos rfl)
theorem cq6 : cqV D S ln se un tp 6 = sNi S := (if_neg (show ¬ ((0 : Int) ≤ 6 ∧ (6 : Int) ≤ 4) by decide)).trans ((if_neg (show ¬ (6 : Int) = 5 by decide)).trans (if_pos rfl))
theorem cq7 : cqV D S ln se un tp 7 = sSo S := (if_neg (show ¬ ((0 : Int) ≤ 7 ∧ (7 : Int) ≤ 4) by decide)).trans ((if_neg (show ¬ (7 : Int) = 5 by decide)).trans ((if_neg (show ¬ (7 : Int) = 6 by decide)).trans (if_pos rfl)))
theorem cq8 : cqV D S ln se un tp 8 = ((bcn (sTh S) : Nat) : Int) := (if_neg (show ¬ ((0 : Int) ≤ 8 ∧ (8 : Int) ≤ 4) by decide)).trans ((if_neg (show ¬ (8 : Int) = 5 by decide)).trans ((if_neg (show ¬ (8 : Int) = 6 by decide)).trans ((if_neg (show ¬ (8 : Int) = 7 by decide)).trans (if_pos rfl))))
theorem cq9 : cqV D S ln se un tp 9 = ln := (if_neg (show ¬ ((0 : Int) ≤ 9 ∧ (9 : Int) ≤ 4) by decide)).trans ((if_neg (show ¬ (9 : Int) = 5 by decide)).trans ((if_neg (show ¬ (9 : Int) = 6 by decide)).trans ((if_neg (show ¬ (9 : Int) = 7 by decide)).trans ((if_neg (show ¬ (9 : Int) = 8 by decide)).trans (if_pos rfl)))))
theorem cq10 : cqV D S ln se un tp 10 = se := (if_neg (show ¬ ((0 : Int) ≤ 10 ∧ (10 : Int) ≤ 4) by decide)).trans ((if_neg (show ¬ (10 : Int) = 5 by decide)).trans ((if_neg (show ¬ (10 : Int) = 6 by decide)).trans ((if_neg (show ¬ (10 : Int) = 7 by decide)).trans ((if_neg (show ¬ (10 : Int) = 8 by decide)).trans ((if_neg (show ¬ (10 : Int) = 9 by decide)).trans (if_pos rfl))))))
theorem cq11 : cqV D S ln se un tp 11 = un := (if_neg (show ¬ ((0 : Int) ≤ 11 ∧ (11 : Int) ≤ 4) by decide)).trans ((if_neg (show ¬ (11 : Int) = 5 by decide)).trans ((if_neg (show ¬ (11 : Int) = 6 by decide)).trans ((if_neg (show ¬ (11 : Int) = 7 by decide)).trans ((if_neg (show ¬ (11 : Int) = 8 by decide)).trans ((if_neg (show ¬ (11 : Int) = 9 by decide)).trans ((if_neg (show ¬ (11 : Int) = 10 by decide)).trans (if_pos rfl)))))))
theorem cq12 : cqV D S ln se un tp 12 = tp := (if_neg (show ¬ ((0 : Int) ≤ 12 ∧ (12 : Int) ≤ 4) by decide)).trans ((if_neg (show ¬ (12 : Int) = 5 by decide)).trans ((if_neg (show ¬ (12 : Int) = 6 by decide)).trans ((if_neg (show ¬ (12 : Int) = 7 by decide)).trans ((if_neg (show ¬ (12 : Int) = 8 by decide)).trans ((if_neg (show ¬ (12 : Int) = 9 by decide)).trans ((if_neg (show ¬ (12 : Int) = 10 by decide)).trans ((if_neg (show ¬ (12 : Int) = 11 by decide)).trans (if_pos rfl))))))))
theorem cq0 {x : Int} (h : 0 ≤ x) (h2 : x ≤ 4) : cqV D S ln se un tp x = ((cnt D x.toNat : Nat) : Int) := if_pos ⟨h, h2⟩
theorem cqn {x : Int} (h : x < 0 ∨ 12 < x) : cqV D S ln se un tp x = -1 := by
  unfold cqV
  rw [if_neg (by omega), if_neg (by omega), if_neg (by omega), if_neg (by omega), if_neg (by omega), if_neg (by omega), if_neg (by omega), if_neg (by omega), if_neg (by omega)]
theorem count_c (ht : t = 7 ∨ t = 43) (e3 : s 0 3 = ((t : Nat) : Int)) (hd : cDn s t D) (hw : wD D) (hS : cSt s 79 D S) (hs : wS D S) (h1 : s 85 1 = ln) (h2 : s 85 2 = se) (h3 : s 88 0 = un) (h4 : s 1 0 = tp) {x : Int} : zC N 1287 [(((0 : Nat) : Int), 0), (x, 0)] s (fun r => r.1 = [(cqV D S ln se un tp x, 0)]) := by
  have no : x < 0 ∨ 12 < x → (([((-1 : Int), 0)], s) : Zr).1 = [(cqV D S ln se un tp x, 0)] := fun h => by rw [cqn h]
  obtain ⟨a1, -, -, a4, a5, a6⟩ := hS
  have hl := wS_lt hw hs
  refine c_X10_count (b_X10_count_0 _ s ht (fun g e => absurd e (by omega)) (fun g e => absurd e (by omega)) (fun g e => absurd e (by omega)) (fun g e => absurd e (by omega)) (fun g e => absurd e (by omega)) (fun g e => absurd e (by omega)) (fun g e => absurd e (by omega)) (fun g e => absurd e (by omega)) (fun g _ _ _ _ _ _ _ _ => no (Or.inl g)) (fun _ _ e => ?_) (fun _ _ e => ?_) (fun _ _ e => ?_) (fun _ _ e m _ => ?_) (fun _ _ e => ?_) (fun _ _ e => ?_) (fun _ _ e => ?_) (fun _ _ e => ?_) (fun _ g _ _ _ _ _ _ _ _ => no (by omega)) (fun g g2 => ?_))
  · subst e; show [(_, _)] = [(_, _)]; rw [cq5, a4]
  · subst e; show [(_, _)] = [(_, _)]; rw [cq6, a5]
  · subst e; show [(_, _)] = [(_, _)]; rw [cq7, a6]
  · subst e
    rw [a1]
    refine zC_q (bits_ok hl) (fun r hr => ?_)
    subst hr
    refine b_X10_count_102 _ _ s ht ?_
    show [(_, _)] = [(_, _)]
    rw [cq8]
  · subst e; show [(_, _)] = [(_, _)]; rw [cq9, h1]
  · subst e; show [(_, _)] = [(_, _)]; rw [cq10, h2]
  · subst e; show [(_, _)] = [(_, _)]; rw [cq11, h3]
  · subst e; show [(_, _)] = [(_, _)]; rw [cq12, h4]
  · rw [e3, Int.toNat_natCast, zt8_0 ht]
    have e1 : zrho t 0 = t + 1 := zt8_0 ht
    show [(_, _)] = [(_, _)]
    rw [cq0 g g2, hd.1 x.toNat (by omega)]
theorem count_m (hm : mT s D) (hw : wD D) (hS : mSt s 216 0 D S) (hs : wS D S) (h1 : s 207 0 = ln) (h2 : s 212 0 = se) (h3 : s 172 60 = un) (h4 : s 172 1 = tp) {x : Int} : zC N 1428 [(((172 : Nat) : Int), 0), (x, 0)] s (fun r => r.1 = [(cqV D S ln se un tp x, 0)]) := by
  have no : x < 0 ∨ 12 < x → ∀ s1 : Zs, (([((-1 : Int), 0)], s1) : Zr).1 = [(cqV D S ln se un tp x, 0)] := fun h s1 => by rw [cqn h]
  obtain ⟨a1, -, -, a4, a5, a6⟩ := hS
  have a1 : s 216 0 = ((sTh S : Nat) : Int) := a1
  have a4 : s 216 10 = sHp S := a4
  have a5 : s 216 11 = sNi S := a5
  have a6 : s 216 12 = sSo S := a6
  have hl := wS_lt hw hs
  have z : ∀ c j, ¬ (c = 172 ∧ j = 0) → zu s 172 0 0 c j = s c j := fun c j h => zu_n h
  refine c_X11_count (b_X11_count_0 _ s (fun m _ => ?_))
  generalize zu s 172 0 0 = s1 at z ⊢
  refine c_X11_within (b_X11_within_0 _ _ _ _ (fun g => ?_) (fun g g2 => ?_) (fun g1 g2 => ?_))
  · refine b_X11_count_12 _ _ s1 (fun q => absurd rfl q) (fun q => absurd rfl q) (fun q => absurd rfl q) (fun q => absurd rfl q) (fun q => absurd rfl q) (fun q => absurd rfl q) (fun q => absurd rfl q) (fun q => absurd rfl q) (fun q => absurd rfl q) (fun _ => no (by omega) _)
  · refine b_X11_count_12 _ _ s1 (fun q => absurd rfl q) (fun q => absurd rfl q) (fun q => absurd rfl q) (fun q => absurd rfl q) (fun q => absurd rfl q) (fun q => absurd rfl q) (fun q => absurd rfl q) (fun q => absurd rfl q) (fun q => absurd rfl q) (fun _ => no (by omega) _)
  refine b_X11_count_12 _ _ s1 (fun _ _ _ u1 u2 u3 => ?_) (fun _ _ _ _ _ e => ?_) (fun _ _ _ _ e => ?_) (fun _ _ u1 u2 u3 => ?_) (fun _ _ _ _ e m2 _ => ?_) (fun _ u1 u2 u3 u4 => ?_) (fun _ _ _ _ e => ?_) (fun _ _ _ e => ?_) (fun _ u1 => ?_) (fun q => absurd q (by decide))
  · have e : x = 12 := by omega
    subst e; show [(_, _)] = [(_, _)]; rw [cq12, z _ _ (by omega), h4]
  · subst e; show [(_, _)] = [(_, _)]; rw [cq11, z _ _ (by omega), h3]
  · subst e; show [(_, _)] = [(_, _)]; rw [cq10, z _ _ (by omega), h2]
  · have e : x = 9 := by omega
    subst e; show [(_, _)] = [(_, _)]; rw [cq9, z _ _ (by omega), h1]
  · subst e
    rw [z _ _ (by omega), a1]
    refine zC_q (bits_m hl) (fun r hr => ?_)
    subst hr
    refine b_X11_count_85 _ _ s1 ?_
    show [(_, _)] = [(_, _)]
    rw [cq8]
  · have e : x = 7 := by omega
    subst e; show [(_, _)] = [(_, _)]; rw [cq7, z _ _ (by omega), a6]
  · subst e; show [(_, _)] = [(_, _)]; rw [cq6, z _ _ (by omega), a5]
  · subst e; show [(_, _)] = [(_, _)]; rw [cq5, z _ _ (by omega), a4]
  · show [(_, _)] = [(_, _)]
    rw [cq0 g1 (by omega), z _ _ (by omega), hm.1 x.toNat (by omega)]
end Zct
