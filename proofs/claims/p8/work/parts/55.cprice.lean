/-! the law of price: the class -/
theorem zp4_0 {u : Nat} (hu : u = 36 ∨ u = 72) : zrho u 0 = u + 1 := by rcases hu with rfl | rfl <;> rfl
theorem zp4_2 {u : Nat} (hu : u = 36 ∨ u = 72) : zrho u 2 = u + 2 := by rcases hu with rfl | rfl <;> rfl
theorem zp4_len {u : Nat} (hu : u = 36 ∨ u = 72) : zq_len (u + 1) = 1000 := by rcases hu with rfl | rfl <;> rfl
theorem b_X4_add_0 {n : Nat} {Q : Zr → Prop} {u : Nat} (x1 : Int) (s : Zs) (hu : u = 36 ∨ u = 72)
    (h0 : ∀ (g1 : zq_len (zrho u 0) ≤ s u 1), Q ([], s))
    (h1 : ∀ (g1 : s u 1 < zq_len (zrho u 0)), Q ([], zu (zu s (zrho u 0) ((s u 1).toNat) x1) u 1 (w32 (((zu s (zrho u 0) ((s u 1).toNat) x1) u 1) + 1)))) : zT (zE 512) (Pt PX4_add) n (0, [((u : Nat) : Int), x1], [], s) Q := by
  refine tL ((u : Nat) : Int) 0 rfl rfl rfl ?_
  refine tFv (c := u) (s u 1) 0 rfl rfl rfl rfl rfl ?_
  refine tL ((u : Nat) : Int) 0 rfl rfl rfl ?_
  refine tFR (c := u) (zrho u 0) rfl rfl rfl rfl rfl ?_
  refine tN (zq_len (zrho u 0)) rfl rfl ?_
  refine tJ3 rfl (fun g1 _ l1 => zT_le ?_ (Nat.le_of_lt l1)) (fun g1 _ l1 => zT_le ?_ (Nat.le_of_lt l1))
  · exact tR rfl (h0 g1)
  · refine tL ((u : Nat) : Int) 0 rfl rfl rfl ?_
    refine tFR (c := u) (zrho u 0) rfl rfl rfl rfl rfl ?_
    refine tL ((u : Nat) : Int) 0 rfl rfl rfl ?_
    refine tFv (c := u) (s u 1) 0 rfl rfl rfl rfl rfl ?_
    refine tL x1 0 rfl rfl rfl ?_
    refine tAS (zrho u 0) ((s u 1).toNat) rfl rfl rfl (by decide) ?_
    refine tL ((u : Nat) : Int) 0 rfl rfl rfl ?_
    refine tD rfl ?_
    refine tFv (c := u) ((zu s (zrho u 0) ((s u 1).toNat) x1) u 1) 0 rfl rfl rfl rfl rfl ?_
    refine tK rfl ?_
    refine tB (v := w32 (((zu s (zrho u 0) ((s u 1).toNat) x1) u 1) + 1)) rfl rfl ?_
    refine tPut u rfl rfl ?_
    exact tR rfl (h1 g1)

theorem c_X4_add {n : Nat} {Q : Zr → Prop} {a0 a1 : Int} {s : Zs} (h : zT (zE 512) (Pt PX4_add) n (0, [a0, a1], [], s) Q) : zC n 512 [(a0, 0), (a1, 0)] s Q := h

theorem b_X4_factOf_0 {n : Nat} {Q : Zr → Prop} (x0 : Int) (s : Zs) 
    (h0 : ∀ (g1_0 : x0 = 25), Q ([((-1), 0)], s))
    (h1 : ∀ (g1_1 : x0 = 26), Q ([((-2), 0)], s))
    (h2 : ∀ (g1_2 : x0 = 27), Q ([((-3), 0)], s))
    (h3 : ∀ (g1_0 : ¬ x0 = 25), ∀ (g1_1 : ¬ x0 = 26), ∀ (g1_2 : ¬ x0 = 27), Q ([(0, 0)], s)) : zT (zE 515) (Pt PX4_factOf) n (0, [x0], [], s) Q := by
  refine tL x0 0 rfl rfl rfl ?_
  by_cases g1_0 : x0 = 25
  · refine zW_d (t := 28) rfl (fun go => by rw [g1_0]; rfl) (fun _ l => zT_le ?_ (Nat.le_of_lt l))
    refine tK rfl ?_
    exact tR rfl (h0 g1_0)
  by_cases g1_1 : x0 = 26
  · refine zW_d (t := 30) rfl (fun go => by rw [g1_1]; rfl) (fun _ l => zT_le ?_ (Nat.le_of_lt l))
    refine tK rfl ?_
    exact tR rfl (h1 g1_1)
  by_cases g1_2 : x0 = 27
  · refine zW_d (t := 33) rfl (fun go => by rw [g1_2]; rfl) (fun _ l => zT_le ?_ (Nat.le_of_lt l))
    refine tK rfl ?_
    exact tR rfl (h2 g1_2)
  refine zW_d (t := 36) rfl (fun go => zsw_out _ _ (by simp only [List.length_cons, List.length_nil]; omega)) (fun _ l => zT_le ?_ (Nat.le_of_lt l))
  refine tK rfl ?_
  exact tR rfl (h3 g1_0 g1_1 g1_2)

theorem c_X4_factOf {n : Nat} {Q : Zr → Prop} {a0 : Int} {s : Zs} (h : zT (zE 515) (Pt PX4_factOf) n (0, [a0], [], s) Q) : zC n 515 [(a0, 0)] s Q := h

theorem b_X4_joinHere_0 {n : Nat} {Q : Zr → Prop} (x1 : Int) (s : Zs) 
    (h0 : ∀ (g1_0 : x1 = 0), ∀ m, m < n → zC m 906 [(((1 : Nat) : Int), 0), (23, 0)] s (fun p => zT (zE 517) (Pt PX4_joinHere) m (34, [((1 : Nat) : Int), x1], p.1 ++ [], p.2) Q))
    (h1 : ∀ (g1_1 : x1 = 1), ∀ m, m < n → zC m 905 [(((1 : Nat) : Int), 0), (60, 0)] s (fun p => zT (zE 517) (Pt PX4_joinHere) m (64, [((1 : Nat) : Int), x1], p.1 ++ [], p.2) Q))
    (h2 : ∀ (g1_2 : x1 = 2), ∀ m, m < n → zC m 905 [(((1 : Nat) : Int), 0), (43, 0)] s (fun p => zT (zE 517) (Pt PX4_joinHere) m (94, [((1 : Nat) : Int), x1], p.1 ++ [], p.2) Q))
    (h3 : ∀ (g1_0 : ¬ x1 = 0), ∀ (g1_1 : ¬ x1 = 1), ∀ (g1_2 : ¬ x1 = 2), ∀ m, m < n → zC m 905 [(((1 : Nat) : Int), 0), (42, 0)] s (fun p => zT (zE 517) (Pt PX4_joinHere) m (124, [((1 : Nat) : Int), x1], p.1 ++ [], p.2) Q)) : zT (zE 517) (Pt PX4_joinHere) n (0, [((1 : Nat) : Int), x1], [], s) Q := by
  refine tL x1 0 rfl rfl rfl ?_
  by_cases g1_0 : x1 = 0
  · refine zW_d (t := 28) rfl (fun go => by rw [g1_0]; rfl) (fun _ l => zT_le ?_ (Nat.le_of_lt l))
    refine tL ((1 : Nat) : Int) 0 rfl rfl rfl ?_
    refine tK rfl ?_
    exact tCall [(((1 : Nat) : Int), 0), (23, 0)] [] rfl rfl rfl (fun m l => h0 g1_0 m (Nat.lt_of_lt_of_le l (Nat.le_refl n)))
  by_cases g1_1 : x1 = 1
  · refine zW_d (t := 58) rfl (fun go => by rw [g1_1]; rfl) (fun _ l => zT_le ?_ (Nat.le_of_lt l))
    refine tL ((1 : Nat) : Int) 0 rfl rfl rfl ?_
    refine tK rfl ?_
    exact tCall [(((1 : Nat) : Int), 0), (60, 0)] [] rfl rfl rfl (fun m l => h1 g1_1 m (Nat.lt_of_lt_of_le l (Nat.le_refl n)))
  by_cases g1_2 : x1 = 2
  · refine zW_d (t := 88) rfl (fun go => by rw [g1_2]; rfl) (fun _ l => zT_le ?_ (Nat.le_of_lt l))
    refine tL ((1 : Nat) : Int) 0 rfl rfl rfl ?_
    refine tK rfl ?_
    exact tCall [(((1 : Nat) : Int), 0), (43, 0)] [] rfl rfl rfl (fun m l => h2 g1_2 m (Nat.lt_of_lt_of_le l (Nat.le_refl n)))
  refine zW_d (t := 118) rfl (fun go => zsw_out _ _ (by simp only [List.length_cons, List.length_nil]; omega)) (fun _ l => zT_le ?_ (Nat.le_of_lt l))
  refine tL ((1 : Nat) : Int) 0 rfl rfl rfl ?_
  refine tK rfl ?_
  exact tCall [(((1 : Nat) : Int), 0), (42, 0)] [] rfl rfl rfl (fun m l => h3 g1_0 g1_1 g1_2 m (Nat.lt_of_lt_of_le l (Nat.le_refl n)))

theorem b_X4_joinHere_34 {n : Nat} {Q : Zr → Prop} (x1 v0 : Int) (s : Zs) 
    (h0 : ∀ (g1 : v0 = 0), ∀ m, m < n → zC m 906 [(((1 : Nat) : Int), 0), (24, 0)] s (fun p => zT (zE 517) (Pt PX4_joinHere) m (48, [((1 : Nat) : Int), x1], p.1 ++ [], p.2) Q))
    (h1 : ∀ (g1 : v0 ≠ 0), Q ([((-5), 0)], s)) : zT (zE 517) (Pt PX4_joinHere) n (34, [((1 : Nat) : Int), x1], [(v0, 0)], s) Q := by
  refine tI0 rfl (fun g1 _ l1 => zT_le ?_ (Nat.le_of_lt l1)) (fun g1 _ l1 => zT_le ?_ (Nat.le_of_lt l1))
  · refine tL ((1 : Nat) : Int) 0 rfl rfl rfl ?_
    refine tK rfl ?_
    exact tCall [(((1 : Nat) : Int), 0), (24, 0)] [] rfl rfl rfl (fun m l => h0 g1 m (Nat.lt_of_lt_of_le l (Nat.le_refl n)))
  · refine tK rfl ?_
    refine tG rfl ?_
    exact tR rfl (h1 g1)

theorem b_X4_joinHere_64 {n : Nat} {Q : Zr → Prop} (x1 v0 : Int) (s : Zs) 
    (h0 : ∀ (g1 : v0 = 0), ∀ m, m < n → zC m 905 [(((1 : Nat) : Int), 0), (61, 0)] s (fun p => zT (zE 517) (Pt PX4_joinHere) m (78, [((1 : Nat) : Int), x1], p.1 ++ [], p.2) Q))
    (h1 : ∀ (g1 : v0 ≠ 0), Q ([((-7), 0)], s)) : zT (zE 517) (Pt PX4_joinHere) n (64, [((1 : Nat) : Int), x1], [(v0, 0)], s) Q := by
  refine tI0 rfl (fun g1 _ l1 => zT_le ?_ (Nat.le_of_lt l1)) (fun g1 _ l1 => zT_le ?_ (Nat.le_of_lt l1))
  · refine tL ((1 : Nat) : Int) 0 rfl rfl rfl ?_
    refine tK rfl ?_
    exact tCall [(((1 : Nat) : Int), 0), (61, 0)] [] rfl rfl rfl (fun m l => h0 g1 m (Nat.lt_of_lt_of_le l (Nat.le_refl n)))
  · refine tK rfl ?_
    refine tG rfl ?_
    exact tR rfl (h1 g1)

theorem b_X4_joinHere_94 {n : Nat} {Q : Zr → Prop} (x1 v0 : Int) (s : Zs) 
    (h0 : ∀ (g1 : v0 = 0), ∀ m, m < n → zC m 905 [(((1 : Nat) : Int), 0), (45, 0)] s (fun p => zT (zE 517) (Pt PX4_joinHere) m (108, [((1 : Nat) : Int), x1], p.1 ++ [], p.2) Q))
    (h1 : ∀ (g1 : v0 ≠ 0), Q ([((-9), 0)], s)) : zT (zE 517) (Pt PX4_joinHere) n (94, [((1 : Nat) : Int), x1], [(v0, 0)], s) Q := by
  refine tI0 rfl (fun g1 _ l1 => zT_le ?_ (Nat.le_of_lt l1)) (fun g1 _ l1 => zT_le ?_ (Nat.le_of_lt l1))
  · refine tL ((1 : Nat) : Int) 0 rfl rfl rfl ?_
    refine tK rfl ?_
    exact tCall [(((1 : Nat) : Int), 0), (45, 0)] [] rfl rfl rfl (fun m l => h0 g1 m (Nat.lt_of_lt_of_le l (Nat.le_refl n)))
  · refine tK rfl ?_
    refine tG rfl ?_
    exact tR rfl (h1 g1)

theorem b_X4_joinHere_124 {n : Nat} {Q : Zr → Prop} (x1 v0 : Int) (s : Zs) 
    (h0 : ∀ (g1 : v0 = 0), Q ([(0, 0)], s))
    (h1 : ∀ (g1 : v0 ≠ 0), Q ([((-11), 0)], s)) : zT (zE 517) (Pt PX4_joinHere) n (124, [((1 : Nat) : Int), x1], [(v0, 0)], s) Q := by
  refine tI0 rfl (fun g1 _ l1 => zT_le ?_ (Nat.le_of_lt l1)) (fun g1 _ l1 => zT_le ?_ (Nat.le_of_lt l1))
  · refine tK rfl ?_
    exact tR rfl (h0 g1)
  · refine tK rfl ?_
    refine tG rfl ?_
    exact tR rfl (h1 g1)

theorem b_X4_joinHere_48 {n : Nat} {Q : Zr → Prop} (x1 v0 : Int) (s : Zs) 
    (h0 : ∀ (g1 : v0 = 0), Q ([(0, 0)], s))
    (h1 : ∀ (g1 : v0 ≠ 0), Q ([((-6), 0)], s)) : zT (zE 517) (Pt PX4_joinHere) n (48, [((1 : Nat) : Int), x1], [(v0, 0)], s) Q := by
  refine tI0 rfl (fun g1 _ l1 => zT_le ?_ (Nat.le_of_lt l1)) (fun g1 _ l1 => zT_le ?_ (Nat.le_of_lt l1))
  · refine tK rfl ?_
    exact tR rfl (h0 g1)
  · refine tK rfl ?_
    refine tG rfl ?_
    exact tR rfl (h1 g1)

theorem b_X4_joinHere_78 {n : Nat} {Q : Zr → Prop} (x1 v0 : Int) (s : Zs) 
    (h0 : ∀ (g1 : v0 = 0), Q ([(0, 0)], s))
    (h1 : ∀ (g1 : v0 ≠ 0), Q ([((-8), 0)], s)) : zT (zE 517) (Pt PX4_joinHere) n (78, [((1 : Nat) : Int), x1], [(v0, 0)], s) Q := by
  refine tI0 rfl (fun g1 _ l1 => zT_le ?_ (Nat.le_of_lt l1)) (fun g1 _ l1 => zT_le ?_ (Nat.le_of_lt l1))
  · refine tK rfl ?_
    exact tR rfl (h0 g1)
  · refine tK rfl ?_
    refine tG rfl ?_
    exact tR rfl (h1 g1)

theorem b_X4_joinHere_108 {n : Nat} {Q : Zr → Prop} (x1 v0 : Int) (s : Zs) 
    (h0 : ∀ (g1 : v0 = 0), Q ([(0, 0)], s))
    (h1 : ∀ (g1 : v0 ≠ 0), Q ([((-10), 0)], s)) : zT (zE 517) (Pt PX4_joinHere) n (108, [((1 : Nat) : Int), x1], [(v0, 0)], s) Q := by
  refine tI0 rfl (fun g1 _ l1 => zT_le ?_ (Nat.le_of_lt l1)) (fun g1 _ l1 => zT_le ?_ (Nat.le_of_lt l1))
  · refine tK rfl ?_
    exact tR rfl (h0 g1)
  · refine tK rfl ?_
    refine tG rfl ?_
    exact tR rfl (h1 g1)

theorem c_X4_joinHere {n : Nat} {Q : Zr → Prop} {a0 a1 : Int} {s : Zs} (h : zT (zE 517) (Pt PX4_joinHere) n (0, [a0, a1], [], s) Q) : zC n 517 [(a0, 0), (a1, 0)] s Q := h

theorem b_X4_readPart_0 {n : Nat} {Q : Zr → Prop} {u : Nat} (x2 x3 x4 x5 : Int) (s : Zs) (hu : u = 36 ∨ u = 72)
    (h0 : ∀ m, m < n → zC m 907 [(((1 : Nat) : Int), 0)] s (fun p => zT (zE 520) (Pt PX4_readPart) m (4, [((u : Nat) : Int), ((1 : Nat) : Int), x2, x3, x4, x5], p.1 ++ [], p.2) Q)) : zT (zE 520) (Pt PX4_readPart) n (0, [((u : Nat) : Int), ((1 : Nat) : Int), x2, x3, x4, x5], [], s) Q := by
  refine tL ((1 : Nat) : Int) 0 rfl rfl rfl ?_
  exact tCall [(((1 : Nat) : Int), 0)] [] rfl rfl rfl (fun m l => h0 m (Nat.lt_of_lt_of_le l (Nat.le_refl n)))

theorem b_X4_readPart_4 {n : Nat} {Q : Zr → Prop} {u : Nat} (x2 x3 x4 x5 v0 : Int) (s : Zs) (hu : u = 36 ∨ u = 72)
    (h0 : ∀ m, m < n → zC m 515 [(v0, 0)] s (fun p => zT (zE 520) (Pt PX4_readPart) m (7, [((u : Nat) : Int), ((1 : Nat) : Int), x2, x3, x4, x5], p.1 ++ [], p.2) Q)) : zT (zE 520) (Pt PX4_readPart) n (4, [((u : Nat) : Int), ((1 : Nat) : Int), x2, x3, x4, x5], [(v0, 0)], s) Q := by
  exact tCall [(v0, 0)] [] rfl rfl rfl (fun m l => h0 m (Nat.lt_of_lt_of_le l (Nat.le_refl n)))

theorem b_X4_readPart_7 {n : Nat} {Q : Zr → Prop} {u : Nat} (x2 x3 x4 x5 v0 : Int) (s : Zs) (hu : u = 36 ∨ u = 72)
    (h0 : ∀ m, m < n → zC m 906 [(((1 : Nat) : Int), 0), (22, 0)] s (fun p => zT (zE 520) (Pt PX4_readPart) m (14, [((u : Nat) : Int), ((1 : Nat) : Int), x2, v0, x4, x5], p.1 ++ [], p.2) Q)) : zT (zE 520) (Pt PX4_readPart) n (7, [((u : Nat) : Int), ((1 : Nat) : Int), x2, x3, x4, x5], [(v0, 0)], s) Q := by
  refine tS [((u : Nat) : Int), ((1 : Nat) : Int), x2, v0, x4, x5] rfl rfl ?_
  refine tL ((1 : Nat) : Int) 0 rfl rfl rfl ?_
  refine tK rfl ?_
  exact tCall [(((1 : Nat) : Int), 0), (22, 0)] [] rfl rfl rfl (fun m l => h0 m (Nat.lt_of_lt_of_le l (Nat.le_refl n)))

theorem b_X4_readPart_14 {n : Nat} {Q : Zr → Prop} {u : Nat} (x2 x3 x4 x5 v0 : Int) (s : Zs) (hu : u = 36 ∨ u = 72)
    (h0 : ∀ m, m < n → zC m 905 [(((1 : Nat) : Int), 0), (40, 0)] s (fun p => zT (zE 520) (Pt PX4_readPart) m (22, [((u : Nat) : Int), ((1 : Nat) : Int), x2, x3, v0, x5], p.1 ++ [], p.2) Q)) : zT (zE 520) (Pt PX4_readPart) n (14, [((u : Nat) : Int), ((1 : Nat) : Int), x2, x3, x4, x5], [(v0, 0)], s) Q := by
  refine tS [((u : Nat) : Int), ((1 : Nat) : Int), x2, x3, v0, x5] rfl rfl ?_
  refine tL ((1 : Nat) : Int) 0 rfl rfl rfl ?_
  refine tK rfl ?_
  exact tCall [(((1 : Nat) : Int), 0), (40, 0)] [] rfl rfl rfl (fun m l => h0 m (Nat.lt_of_lt_of_le l (Nat.le_refl n)))

theorem b_X4_readPart_22 {n : Nat} {Q : Zr → Prop} {u : Nat} (x2 x3 x4 x5 v0 : Int) (s : Zs) (hu : u = 36 ∨ u = 72)
    (h0 : ∀ (g1 : x3 ≠ 0), ∀ (g2 : x2 < 5), ∀ (g3 : x4 = 0), ∀ (g4 : v0 = 0), ∀ m, m < n → zC m 910 [(((1 : Nat) : Int), 0)] s (fun p => zT (zE 520) (Pt PX4_readPart) m (127, [((u : Nat) : Int), ((1 : Nat) : Int), x2, x3, x4, v0], p.1 ++ [], p.2) Q))
    (h1 : ∀ (g1 : x3 ≠ 0), ∀ (g2 : x2 < 5), ∀ (g3 : x4 = 0), ∀ (g4 : v0 ≠ 0), ∀ m, m < n → zC m 910 [(((1 : Nat) : Int), 0)] s (fun p => zT (zE 520) (Pt PX4_readPart) m (101, [((u : Nat) : Int), ((1 : Nat) : Int), x2, x3, x4, v0], p.1 ++ [], p.2) Q))
    (h2 : ∀ (g1 : x3 ≠ 0), ∀ (g2 : x2 < 5), ∀ (g3 : x4 ≠ 0), ∀ m, m < n → zC m 910 [(((1 : Nat) : Int), 0)] s (fun p => zT (zE 520) (Pt PX4_readPart) m (75, [((u : Nat) : Int), ((1 : Nat) : Int), x2, x3, x4, v0], p.1 ++ [], p.2) Q))
    (h3 : ∀ (g1 : x3 ≠ 0), ∀ (g2 : 5 ≤ x2), ∀ m, m < n → zC m 899 [(((1 : Nat) : Int), 0), (5, 0)] s (fun p => zT (zE 520) (Pt PX4_readPart) m (63, [((u : Nat) : Int), ((1 : Nat) : Int), x2, x3, x4, v0], p.1 ++ [], p.2) Q))
    (h4 : ∀ (g1 : x3 = 0), ∀ (g9 : x4 ≠ 0), ∀ (g10 : x2 < 5), ∀ m, m < n → zC m 910 [(((1 : Nat) : Int), 0)] s (fun p => zT (zE 520) (Pt PX4_readPart) m (75, [((u : Nat) : Int), ((1 : Nat) : Int), x2, x3, x4, v0], p.1 ++ [], p.2) Q))
    (h5 : ∀ (g1 : x3 = 0), ∀ (g9 : x4 ≠ 0), ∀ (g10 : 5 ≤ x2), ∀ m, m < n → zC m 899 [(((1 : Nat) : Int), 0), (5, 0)] s (fun p => zT (zE 520) (Pt PX4_readPart) m (63, [((u : Nat) : Int), ((1 : Nat) : Int), x2, x3, x4, v0], p.1 ++ [], p.2) Q))
    (h6 : ∀ (g1 : x3 = 0), ∀ (g9 : x4 = 0), ∀ (g13 : v0 ≠ 0), ∀ (g14 : x2 < 5), ∀ m, m < n → zC m 910 [(((1 : Nat) : Int), 0)] s (fun p => zT (zE 520) (Pt PX4_readPart) m (101, [((u : Nat) : Int), ((1 : Nat) : Int), x2, x3, x4, v0], p.1 ++ [], p.2) Q))
    (h7 : ∀ (g1 : x3 = 0), ∀ (g9 : x4 = 0), ∀ (g13 : v0 ≠ 0), ∀ (g14 : 5 ≤ x2), ∀ m, m < n → zC m 899 [(((1 : Nat) : Int), 0), (5, 0)] s (fun p => zT (zE 520) (Pt PX4_readPart) m (63, [((u : Nat) : Int), ((1 : Nat) : Int), x2, x3, x4, v0], p.1 ++ [], p.2) Q))
    (h8 : ∀ (g1 : x3 = 0), ∀ (g9 : x4 = 0), ∀ (g13 : v0 = 0), ∀ m, m < n → zC m 904 [(((1 : Nat) : Int), 0)] s (fun p => zT (zE 520) (Pt PX4_readPart) m (42, [((u : Nat) : Int), ((1 : Nat) : Int), x2, x3, x4, v0], p.1 ++ [], p.2) Q)) : zT (zE 520) (Pt PX4_readPart) n (22, [((u : Nat) : Int), ((1 : Nat) : Int), x2, x3, x4, x5], [(v0, 0)], s) Q := by
  refine tS [((u : Nat) : Int), ((1 : Nat) : Int), x2, x3, x4, v0] rfl rfl ?_
  refine tL x3 0 rfl rfl rfl ?_
  refine tI1 rfl (fun g1 _ l1 => zT_le ?_ (Nat.le_of_lt l1)) (fun g1 _ l1 => zT_le ?_ (Nat.le_of_lt l1))
  · refine tL x2 0 rfl rfl rfl ?_
    refine tK rfl ?_
    refine tJ2 rfl (fun g2 _ l2 => zT_le ?_ (Nat.le_of_lt l2)) (fun g2 _ l2 => zT_le ?_ (Nat.le_of_lt l2))
    · refine tL x4 0 rfl rfl rfl ?_
      refine tI0 rfl (fun g3 _ l3 => zT_le ?_ (Nat.le_of_lt l3)) (fun g3 _ l3 => zT_le ?_ (Nat.le_of_lt l3))
      · refine tL v0 0 rfl rfl rfl ?_
        refine tI0 rfl (fun g4 _ l4 => zT_le ?_ (Nat.le_of_lt l4)) (fun g4 _ l4 => zT_le ?_ (Nat.le_of_lt l4))
        · refine tL x3 0 rfl rfl rfl ?_
          refine tI0 rfl (fun g _ l => False.elim (by omega)) (fun g _ l => zT_le ?_ (Nat.le_of_lt l))
          refine tL ((1 : Nat) : Int) 0 rfl rfl rfl ?_
          exact tCall [(((1 : Nat) : Int), 0)] [] rfl rfl rfl (fun m l => h0 g1 g2 g3 g4 m (Nat.lt_of_lt_of_le l (Nat.le_refl n)))
        · refine tL ((1 : Nat) : Int) 0 rfl rfl rfl ?_
          exact tCall [(((1 : Nat) : Int), 0)] [] rfl rfl rfl (fun m l => h1 g1 g2 g3 g4 m (Nat.lt_of_lt_of_le l (Nat.le_refl n)))
      · refine tL ((1 : Nat) : Int) 0 rfl rfl rfl ?_
        exact tCall [(((1 : Nat) : Int), 0)] [] rfl rfl rfl (fun m l => h2 g1 g2 g3 m (Nat.lt_of_lt_of_le l (Nat.le_refl n)))
    · refine tL ((1 : Nat) : Int) 0 rfl rfl rfl ?_
      refine tK rfl ?_
      exact tCall [(((1 : Nat) : Int), 0), (5, 0)] [] rfl rfl rfl (fun m l => h3 g1 g2 m (Nat.lt_of_lt_of_le l (Nat.le_refl n)))
  · refine tL x4 0 rfl rfl rfl ?_
    refine tI1 rfl (fun g9 _ l9 => zT_le ?_ (Nat.le_of_lt l9)) (fun g9 _ l9 => zT_le ?_ (Nat.le_of_lt l9))
    · refine tL x2 0 rfl rfl rfl ?_
      refine tK rfl ?_
      refine tJ2 rfl (fun g10 _ l10 => zT_le ?_ (Nat.le_of_lt l10)) (fun g10 _ l10 => zT_le ?_ (Nat.le_of_lt l10))
      · refine tL x4 0 rfl rfl rfl ?_
        refine tI0 rfl (fun g _ l => False.elim (by omega)) (fun g _ l => zT_le ?_ (Nat.le_of_lt l))
        refine tL ((1 : Nat) : Int) 0 rfl rfl rfl ?_
        exact tCall [(((1 : Nat) : Int), 0)] [] rfl rfl rfl (fun m l => h4 g1 g9 g10 m (Nat.lt_of_lt_of_le l (Nat.le_refl n)))
      · refine tL ((1 : Nat) : Int) 0 rfl rfl rfl ?_
        refine tK rfl ?_
        exact tCall [(((1 : Nat) : Int), 0), (5, 0)] [] rfl rfl rfl (fun m l => h5 g1 g9 g10 m (Nat.lt_of_lt_of_le l (Nat.le_refl n)))
    · refine tL v0 0 rfl rfl rfl ?_
      refine tI1 rfl (fun g13 _ l13 => zT_le ?_ (Nat.le_of_lt l13)) (fun g13 _ l13 => zT_le ?_ (Nat.le_of_lt l13))
      · refine tL x2 0 rfl rfl rfl ?_
        refine tK rfl ?_
        refine tJ2 rfl (fun g14 _ l14 => zT_le ?_ (Nat.le_of_lt l14)) (fun g14 _ l14 => zT_le ?_ (Nat.le_of_lt l14))
        · refine tL x4 0 rfl rfl rfl ?_
          refine tI0 rfl (fun g _ l => zT_le ?_ (Nat.le_of_lt l)) (fun g _ l => False.elim (by omega))
          refine tL v0 0 rfl rfl rfl ?_
          refine tI0 rfl (fun g _ l => False.elim (by omega)) (fun g _ l => zT_le ?_ (Nat.le_of_lt l))
          refine tL ((1 : Nat) : Int) 0 rfl rfl rfl ?_
          exact tCall [(((1 : Nat) : Int), 0)] [] rfl rfl rfl (fun m l => h6 g1 g9 g13 g14 m (Nat.lt_of_lt_of_le l (Nat.le_refl n)))
        · refine tL ((1 : Nat) : Int) 0 rfl rfl rfl ?_
          refine tK rfl ?_
          exact tCall [(((1 : Nat) : Int), 0), (5, 0)] [] rfl rfl rfl (fun m l => h7 g1 g9 g13 g14 m (Nat.lt_of_lt_of_le l (Nat.le_refl n)))
      · refine tL ((1 : Nat) : Int) 0 rfl rfl rfl ?_
        exact tCall [(((1 : Nat) : Int), 0)] [] rfl rfl rfl (fun m l => h8 g1 g9 g13 m (Nat.lt_of_lt_of_le l (Nat.le_refl n)))

theorem b_X4_readPart_127 {n : Nat} {Q : Zr → Prop} {u : Nat} (x2 x3 x4 x5 : Int) (s : Zs) (hu : u = 36 ∨ u = 72)
    (h0 : ∀ m, m < n → zC m 512 [(((u : Nat) : Int), 0), (x3, 0)] s (fun p => zT (zE 520) (Pt PX4_readPart) m (132, [((u : Nat) : Int), ((1 : Nat) : Int), x2, x3, x4, x5], p.1 ++ [], p.2) Q)) : zT (zE 520) (Pt PX4_readPart) n (127, [((u : Nat) : Int), ((1 : Nat) : Int), x2, x3, x4, x5], [], s) Q := by
  refine tL ((u : Nat) : Int) 0 rfl rfl rfl ?_
  refine tL x3 0 rfl rfl rfl ?_
  exact tCall [(((u : Nat) : Int), 0), (x3, 0)] [] rfl rfl rfl (fun m l => h0 m (Nat.lt_of_lt_of_le l (Nat.le_refl n)))

theorem b_X4_readPart_101 {n : Nat} {Q : Zr → Prop} {u : Nat} (x2 x3 x4 x5 : Int) (s : Zs) (hu : u = 36 ∨ u = 72)
    (h0 : ∀ m, m < n → zC m 519 [(((u : Nat) : Int), 0), (((1 : Nat) : Int), 0), (0, 0), (w32 (x2 + 1), 0)] s (fun p => zT (zE 520) (Pt PX4_readPart) m (110, [((u : Nat) : Int), ((1 : Nat) : Int), x2, x3, x4, x5], p.1 ++ [], p.2) Q)) : zT (zE 520) (Pt PX4_readPart) n (101, [((u : Nat) : Int), ((1 : Nat) : Int), x2, x3, x4, x5], [], s) Q := by
  refine tL ((u : Nat) : Int) 0 rfl rfl rfl ?_
  refine tL ((1 : Nat) : Int) 0 rfl rfl rfl ?_
  refine tK rfl ?_
  refine tL x2 0 rfl rfl rfl ?_
  refine tK rfl ?_
  refine tB (v := w32 (x2 + 1)) rfl rfl ?_
  exact tCall [(((u : Nat) : Int), 0), (((1 : Nat) : Int), 0), (0, 0), (w32 (x2 + 1), 0)] [] rfl rfl rfl (fun m l => h0 m (Nat.lt_of_lt_of_le l (Nat.le_refl n)))

theorem b_X4_readPart_75 {n : Nat} {Q : Zr → Prop} {u : Nat} (x2 x3 x4 x5 : Int) (s : Zs) (hu : u = 36 ∨ u = 72)
    (h0 : ∀ m, m < n → zC m 520 [(((u : Nat) : Int), 0), (((1 : Nat) : Int), 0), (w32 (x2 + 1), 0)] s (fun p => zT (zE 520) (Pt PX4_readPart) m (83, [((u : Nat) : Int), ((1 : Nat) : Int), x2, x3, x4, x5], p.1 ++ [], p.2) Q)) : zT (zE 520) (Pt PX4_readPart) n (75, [((u : Nat) : Int), ((1 : Nat) : Int), x2, x3, x4, x5], [], s) Q := by
  refine tL ((u : Nat) : Int) 0 rfl rfl rfl ?_
  refine tL ((1 : Nat) : Int) 0 rfl rfl rfl ?_
  refine tL x2 0 rfl rfl rfl ?_
  refine tK rfl ?_
  refine tB (v := w32 (x2 + 1)) rfl rfl ?_
  exact tCall [(((u : Nat) : Int), 0), (((1 : Nat) : Int), 0), (w32 (x2 + 1), 0)] [] rfl rfl rfl (fun m l => h0 m (Nat.lt_of_lt_of_le l (Nat.le_refl n)))

theorem b_X4_readPart_63 {n : Nat} {Q : Zr → Prop} {u : Nat} (x2 x3 x4 x5 : Int) (s : Zs) (hu : u = 36 ∨ u = 72)
    (h0 : Q ([], s)) : zT (zE 520) (Pt PX4_readPart) n (63, [((u : Nat) : Int), ((1 : Nat) : Int), x2, x3, x4, x5], [], s) Q := by
  refine tG rfl ?_
  exact tR rfl (h0)

theorem b_X4_readPart_42 {n : Nat} {Q : Zr → Prop} {u : Nat} (x2 x3 x4 x5 v0 : Int) (s : Zs) (hu : u = 36 ∨ u = 72)
    (h0 : ∀ (g1 : v0 ≠ 0), ∀ (g2 : x2 < 5), ∀ (g3 : x4 = 0), ∀ (g4 : x5 = 0), ∀ (g5 : x3 = 0), ∀ m, m < n → zC m 912 [(((1 : Nat) : Int), 0), (0, 0), (9999, 0)] s (fun p => zT (zE 520) (Pt PX4_readPart) m (144, [((u : Nat) : Int), ((1 : Nat) : Int), x2, x3, x4, x5], p.1 ++ [(((u : Nat) : Int), 0)], p.2) Q))
    (h1 : ∀ (g1 : v0 ≠ 0), ∀ (g2 : x2 < 5), ∀ (g3 : x4 = 0), ∀ (g4 : x5 = 0), ∀ (g5 : x3 ≠ 0), ∀ m, m < n → zC m 910 [(((1 : Nat) : Int), 0)] s (fun p => zT (zE 520) (Pt PX4_readPart) m (127, [((u : Nat) : Int), ((1 : Nat) : Int), x2, x3, x4, x5], p.1 ++ [], p.2) Q))
    (h2 : ∀ (g1 : v0 ≠ 0), ∀ (g2 : x2 < 5), ∀ (g3 : x4 = 0), ∀ (g4 : x5 ≠ 0), ∀ m, m < n → zC m 910 [(((1 : Nat) : Int), 0)] s (fun p => zT (zE 520) (Pt PX4_readPart) m (101, [((u : Nat) : Int), ((1 : Nat) : Int), x2, x3, x4, x5], p.1 ++ [], p.2) Q))
    (h3 : ∀ (g1 : v0 ≠ 0), ∀ (g2 : x2 < 5), ∀ (g3 : x4 ≠ 0), ∀ m, m < n → zC m 910 [(((1 : Nat) : Int), 0)] s (fun p => zT (zE 520) (Pt PX4_readPart) m (75, [((u : Nat) : Int), ((1 : Nat) : Int), x2, x3, x4, x5], p.1 ++ [], p.2) Q))
    (h4 : ∀ (g1 : v0 ≠ 0), ∀ (g2 : 5 ≤ x2), ∀ m, m < n → zC m 899 [(((1 : Nat) : Int), 0), (5, 0)] s (fun p => zT (zE 520) (Pt PX4_readPart) m (63, [((u : Nat) : Int), ((1 : Nat) : Int), x2, x3, x4, x5], p.1 ++ [], p.2) Q))
    (h5 : ∀ (g1 : v0 = 0), ∀ m, m < n → zC m 899 [(((1 : Nat) : Int), 0), (1, 0)] s (fun p => zT (zE 520) (Pt PX4_readPart) m (50, [((u : Nat) : Int), ((1 : Nat) : Int), x2, x3, x4, x5], p.1 ++ [], p.2) Q)) : zT (zE 520) (Pt PX4_readPart) n (42, [((u : Nat) : Int), ((1 : Nat) : Int), x2, x3, x4, x5], [(v0, 0)], s) Q := by
  refine tI1 rfl (fun g1 _ l1 => zT_le ?_ (Nat.le_of_lt l1)) (fun g1 _ l1 => zT_le ?_ (Nat.le_of_lt l1))
  · refine tL x2 0 rfl rfl rfl ?_
    refine tK rfl ?_
    refine tJ2 rfl (fun g2 _ l2 => zT_le ?_ (Nat.le_of_lt l2)) (fun g2 _ l2 => zT_le ?_ (Nat.le_of_lt l2))
    · refine tL x4 0 rfl rfl rfl ?_
      refine tI0 rfl (fun g3 _ l3 => zT_le ?_ (Nat.le_of_lt l3)) (fun g3 _ l3 => zT_le ?_ (Nat.le_of_lt l3))
      · refine tL x5 0 rfl rfl rfl ?_
        refine tI0 rfl (fun g4 _ l4 => zT_le ?_ (Nat.le_of_lt l4)) (fun g4 _ l4 => zT_le ?_ (Nat.le_of_lt l4))
        · refine tL x3 0 rfl rfl rfl ?_
          refine tI0 rfl (fun g5 _ l5 => zT_le ?_ (Nat.le_of_lt l5)) (fun g5 _ l5 => zT_le ?_ (Nat.le_of_lt l5))
          · refine tL ((u : Nat) : Int) 0 rfl rfl rfl ?_
            refine tL ((1 : Nat) : Int) 0 rfl rfl rfl ?_
            refine tK rfl ?_
            refine tK rfl ?_
            exact tCall [(((1 : Nat) : Int), 0), (0, 0), (9999, 0)] [(((u : Nat) : Int), 0)] rfl rfl rfl (fun m l => h0 g1 g2 g3 g4 g5 m (Nat.lt_of_lt_of_le l (Nat.le_refl n)))
          · refine tL ((1 : Nat) : Int) 0 rfl rfl rfl ?_
            exact tCall [(((1 : Nat) : Int), 0)] [] rfl rfl rfl (fun m l => h1 g1 g2 g3 g4 g5 m (Nat.lt_of_lt_of_le l (Nat.le_refl n)))
        · refine tL ((1 : Nat) : Int) 0 rfl rfl rfl ?_
          exact tCall [(((1 : Nat) : Int), 0)] [] rfl rfl rfl (fun m l => h2 g1 g2 g3 g4 m (Nat.lt_of_lt_of_le l (Nat.le_refl n)))
      · refine tL ((1 : Nat) : Int) 0 rfl rfl rfl ?_
        exact tCall [(((1 : Nat) : Int), 0)] [] rfl rfl rfl (fun m l => h3 g1 g2 g3 m (Nat.lt_of_lt_of_le l (Nat.le_refl n)))
    · refine tL ((1 : Nat) : Int) 0 rfl rfl rfl ?_
      refine tK rfl ?_
      exact tCall [(((1 : Nat) : Int), 0), (5, 0)] [] rfl rfl rfl (fun m l => h4 g1 g2 m (Nat.lt_of_lt_of_le l (Nat.le_refl n)))
  · refine tL ((1 : Nat) : Int) 0 rfl rfl rfl ?_
    refine tK rfl ?_
    exact tCall [(((1 : Nat) : Int), 0), (1, 0)] [] rfl rfl rfl (fun m l => h5 g1 m (Nat.lt_of_lt_of_le l (Nat.le_refl n)))

theorem b_X4_readPart_132 {n : Nat} {Q : Zr → Prop} {u : Nat} (x2 x3 x4 x5 : Int) (s : Zs) (hu : u = 36 ∨ u = 72)
    (h0 : Q ([], s)) : zT (zE 520) (Pt PX4_readPart) n (132, [((u : Nat) : Int), ((1 : Nat) : Int), x2, x3, x4, x5], [], s) Q := by
  refine tG rfl ?_
  exact tR rfl (h0)

theorem b_X4_readPart_110 {n : Nat} {Q : Zr → Prop} {u : Nat} (x2 x3 x4 x5 : Int) (s : Zs) (hu : u = 36 ∨ u = 72)
    (h0 : ∀ m, m < n → zC m 914 [(((1 : Nat) : Int), 0), (41, 0)] s (fun p => zT (zE 520) (Pt PX4_readPart) m (116, [((u : Nat) : Int), ((1 : Nat) : Int), x2, x3, x4, x5], p.1 ++ [], p.2) Q)) : zT (zE 520) (Pt PX4_readPart) n (110, [((u : Nat) : Int), ((1 : Nat) : Int), x2, x3, x4, x5], [], s) Q := by
  refine tL ((1 : Nat) : Int) 0 rfl rfl rfl ?_
  refine tK rfl ?_
  exact tCall [(((1 : Nat) : Int), 0), (41, 0)] [] rfl rfl rfl (fun m l => h0 m (Nat.lt_of_lt_of_le l (Nat.le_refl n)))

theorem b_X4_readPart_83 {n : Nat} {Q : Zr → Prop} {u : Nat} (x2 x3 x4 x5 : Int) (s : Zs) (hu : u = 36 ∨ u = 72)
    (h0 : ∀ m, m < n → zC m 512 [(((u : Nat) : Int), 0), ((-4), 0)] s (fun p => zT (zE 520) (Pt PX4_readPart) m (89, [((u : Nat) : Int), ((1 : Nat) : Int), x2, x3, x4, x5], p.1 ++ [], p.2) Q)) : zT (zE 520) (Pt PX4_readPart) n (83, [((u : Nat) : Int), ((1 : Nat) : Int), x2, x3, x4, x5], [], s) Q := by
  refine tL ((u : Nat) : Int) 0 rfl rfl rfl ?_
  refine tK rfl ?_
  exact tCall [(((u : Nat) : Int), 0), ((-4), 0)] [] rfl rfl rfl (fun m l => h0 m (Nat.lt_of_lt_of_le l (Nat.le_refl n)))

theorem b_X4_readPart_144 {n : Nat} {Q : Zr → Prop} {u : Nat} (x2 x3 x4 x5 v0 : Int) (s : Zs) (hu : u = 36 ∨ u = 72)
    (h0 : ∀ m, m < n → zC m 512 [(((u : Nat) : Int), 0), (v0, 0)] s (fun p => zT (zE 520) (Pt PX4_readPart) m (147, [((u : Nat) : Int), ((1 : Nat) : Int), x2, x3, x4, x5], p.1 ++ [], p.2) Q)) : zT (zE 520) (Pt PX4_readPart) n (144, [((u : Nat) : Int), ((1 : Nat) : Int), x2, x3, x4, x5], [(v0, 0), (((u : Nat) : Int), 0)], s) Q := by
  exact tCall [(((u : Nat) : Int), 0), (v0, 0)] [] rfl rfl rfl (fun m l => h0 m (Nat.lt_of_lt_of_le l (Nat.le_refl n)))

theorem b_X4_readPart_50 {n : Nat} {Q : Zr → Prop} {u : Nat} (x2 x3 x4 x5 : Int) (s : Zs) (hu : u = 36 ∨ u = 72)
    (h0 : Q ([], s)) : zT (zE 520) (Pt PX4_readPart) n (50, [((u : Nat) : Int), ((1 : Nat) : Int), x2, x3, x4, x5], [], s) Q := by
  refine tG rfl ?_
  exact tR rfl (h0)

theorem b_X4_readPart_116 {n : Nat} {Q : Zr → Prop} {u : Nat} (x2 x3 x4 x5 : Int) (s : Zs) (hu : u = 36 ∨ u = 72)
    (h0 : Q ([], s)) : zT (zE 520) (Pt PX4_readPart) n (116, [((u : Nat) : Int), ((1 : Nat) : Int), x2, x3, x4, x5], [], s) Q := by
  refine tG rfl ?_
  exact tR rfl (h0)

theorem b_X4_readPart_89 {n : Nat} {Q : Zr → Prop} {u : Nat} (x2 x3 x4 x5 : Int) (s : Zs) (hu : u = 36 ∨ u = 72)
    (h0 : Q ([], s)) : zT (zE 520) (Pt PX4_readPart) n (89, [((u : Nat) : Int), ((1 : Nat) : Int), x2, x3, x4, x5], [], s) Q := by
  refine tG rfl ?_
  exact tR rfl (h0)

theorem b_X4_readPart_147 {n : Nat} {Q : Zr → Prop} {u : Nat} (x2 x3 x4 x5 : Int) (s : Zs) (hu : u = 36 ∨ u = 72)
    (h0 : Q ([], s)) : zT (zE 520) (Pt PX4_readPart) n (147, [((u : Nat) : Int), ((1 : Nat) : Int), x2, x3, x4, x5], [], s) Q := by
  exact tR rfl (h0)

theorem c_X4_readPart {n : Nat} {Q : Zr → Prop} {a0 a1 a2 : Int} {s : Zs} (h : zT (zE 520) (Pt PX4_readPart) n (0, [a0, a1, a2, 0, 0, 0], [], s) Q) : zC n 520 [(a0, 0), (a1, 0), (a2, 0)] s Q := h

theorem b_X4_readLevel_0 {n : Nat} {Q : Zr → Prop} {u : Nat} (x2 x3 x4 x5 x6 : Int) (s : Zs) (hu : u = 36 ∨ u = 72)
    (h0 : ∀ (g1 : x2 < 4), ∀ m, m < n → zC m 519 [(((u : Nat) : Int), 0), (((1 : Nat) : Int), 0), (w32 (x2 + 1), 0), (x3, 0)] s (fun p => zT (zE 519) (Pt PX4_readLevel) m (21, [((u : Nat) : Int), ((1 : Nat) : Int), x2, x3, x4, x5, x6], p.1 ++ [], p.2) Q))
    (h1 : ∀ (g1 : 4 ≤ x2), ∀ m, m < n → zC m 520 [(((u : Nat) : Int), 0), (((1 : Nat) : Int), 0), (x3, 0)] s (fun p => zT (zE 519) (Pt PX4_readLevel) m (11, [((u : Nat) : Int), ((1 : Nat) : Int), x2, x3, x4, x5, x6], p.1 ++ [], p.2) Q)) : zT (zE 519) (Pt PX4_readLevel) n (0, [((u : Nat) : Int), ((1 : Nat) : Int), x2, x3, x4, x5, x6], [], s) Q := by
  refine tL x2 0 rfl rfl rfl ?_
  refine tK rfl ?_
  refine tJ2 rfl (fun g1 _ l1 => zT_le ?_ (Nat.le_of_lt l1)) (fun g1 _ l1 => zT_le ?_ (Nat.le_of_lt l1))
  · refine tL ((u : Nat) : Int) 0 rfl rfl rfl ?_
    refine tL ((1 : Nat) : Int) 0 rfl rfl rfl ?_
    refine tL x2 0 rfl rfl rfl ?_
    refine tK rfl ?_
    refine tB (v := w32 (x2 + 1)) rfl rfl ?_
    refine tL x3 0 rfl rfl rfl ?_
    exact tCall [(((u : Nat) : Int), 0), (((1 : Nat) : Int), 0), (w32 (x2 + 1), 0), (x3, 0)] [] rfl rfl rfl (fun m l => h0 g1 m (Nat.lt_of_lt_of_le l (Nat.le_refl n)))
  · refine tL ((u : Nat) : Int) 0 rfl rfl rfl ?_
    refine tL ((1 : Nat) : Int) 0 rfl rfl rfl ?_
    refine tL x3 0 rfl rfl rfl ?_
    exact tCall [(((u : Nat) : Int), 0), (((1 : Nat) : Int), 0), (x3, 0)] [] rfl rfl rfl (fun m l => h1 g1 m (Nat.lt_of_lt_of_le l (Nat.le_refl n)))

theorem b_X4_readLevel_38 {n : Nat} {Q : Zr → Prop} {u : Nat} (x2 x3 x4 x5 x6 : Int) (s : Zs) (hu : u = 36 ∨ u = 72)
    (h0 : ∀ (g1 : x4 ≤ x5), Q ([], s))
    (h1 : ∀ (g1 : x5 < x4), ∀ m, m < n → zC m 517 [(((1 : Nat) : Int), 0), (x2, 0)] s (fun p => zT (zE 519) (Pt PX4_readLevel) m (50, [((u : Nat) : Int), ((1 : Nat) : Int), x2, x3, x4, x5, x6], p.1 ++ [], p.2) Q)) : zT (zE 519) (Pt PX4_readLevel) n (38, [((u : Nat) : Int), ((1 : Nat) : Int), x2, x3, x4, x5, x6], [], s) Q := by
  refine tL x5 0 rfl rfl rfl ?_
  refine tL x4 0 rfl rfl rfl ?_
  refine tJ3 rfl (fun g1 _ l1 => zT_le ?_ (Nat.le_of_lt l1)) (fun g1 _ l1 => zT_le ?_ (Nat.le_of_lt l1))
  · exact tR rfl (h0 g1)
  · refine tL ((1 : Nat) : Int) 0 rfl rfl rfl ?_
    refine tL x2 0 rfl rfl rfl ?_
    exact tCall [(((1 : Nat) : Int), 0), (x2, 0)] [] rfl rfl rfl (fun m l => h1 g1 m (Nat.lt_of_lt_of_le l (Nat.le_refl n)))

theorem b_X4_readLevel_21 {n : Nat} {Q : Zr → Prop} {u : Nat} (x2 x3 x4 x5 x6 : Int) (s : Zs) (hu : u = 36 ∨ u = 72)
    (h0 : ∀ (g1 : x2 ≠ 1), zT (zE 519) (Pt PX4_readLevel) n (38, [((u : Nat) : Int), ((1 : Nat) : Int), x2, x3, 1000, 0, x6], [], s) Q)
    (h1 : ∀ (g1 : x2 = 1), zT (zE 519) (Pt PX4_readLevel) n (38, [((u : Nat) : Int), ((1 : Nat) : Int), x2, x3, 1, 0, x6], [], s) Q) : zT (zE 519) (Pt PX4_readLevel) n (21, [((u : Nat) : Int), ((1 : Nat) : Int), x2, x3, x4, x5, x6], [], s) Q := by
  refine tL x2 0 rfl rfl rfl ?_
  refine tK rfl ?_
  refine tJ1 rfl (fun g1 _ l1 => zT_le ?_ (Nat.le_of_lt l1)) (fun g1 _ l1 => zT_le ?_ (Nat.le_of_lt l1))
  · refine tK rfl ?_
    refine tS [((u : Nat) : Int), ((1 : Nat) : Int), x2, x3, 1000, x5, x6] rfl rfl ?_
    refine tK rfl ?_
    refine tS [((u : Nat) : Int), ((1 : Nat) : Int), x2, x3, 1000, 0, x6] rfl rfl ?_
    exact zT_le (h0 g1) (Nat.le_refl n)
  · refine tK rfl ?_
    refine tG rfl ?_
    refine tS [((u : Nat) : Int), ((1 : Nat) : Int), x2, x3, 1, x5, x6] rfl rfl ?_
    refine tK rfl ?_
    refine tS [((u : Nat) : Int), ((1 : Nat) : Int), x2, x3, 1, 0, x6] rfl rfl ?_
    exact zT_le (h1 g1) (Nat.le_refl n)

theorem b_X4_readLevel_11 {n : Nat} {Q : Zr → Prop} {u : Nat} (x2 x3 x4 x5 x6 : Int) (s : Zs) (hu : u = 36 ∨ u = 72)
    (h0 : Q ([], s)) : zT (zE 519) (Pt PX4_readLevel) n (11, [((u : Nat) : Int), ((1 : Nat) : Int), x2, x3, x4, x5, x6], [], s) Q := by
  exact tR rfl (h0)

theorem b_X4_readLevel_50 {n : Nat} {Q : Zr → Prop} {u : Nat} (x2 x3 x4 x5 x6 v0 : Int) (s : Zs) (hu : u = 36 ∨ u = 72)
    (h0 : ∀ (g1 : v0 ≠ 0), ∀ m, m < n → zC m 910 [(((1 : Nat) : Int), 0)] s (fun p => zT (zE 519) (Pt PX4_readLevel) m (64, [((u : Nat) : Int), ((1 : Nat) : Int), x2, x3, x4, x5, v0], p.1 ++ [], p.2) Q))
    (h1 : ∀ (g1 : v0 = 0), Q ([], s)) : zT (zE 519) (Pt PX4_readLevel) n (50, [((u : Nat) : Int), ((1 : Nat) : Int), x2, x3, x4, x5, x6], [(v0, 0)], s) Q := by
  refine tS [((u : Nat) : Int), ((1 : Nat) : Int), x2, x3, x4, x5, v0] rfl rfl ?_
  refine tL v0 0 rfl rfl rfl ?_
  refine tI1 rfl (fun g1 _ l1 => zT_le ?_ (Nat.le_of_lt l1)) (fun g1 _ l1 => zT_le ?_ (Nat.le_of_lt l1))
  · refine tL ((1 : Nat) : Int) 0 rfl rfl rfl ?_
    exact tCall [(((1 : Nat) : Int), 0)] [] rfl rfl rfl (fun m l => h0 g1 m (Nat.lt_of_lt_of_le l (Nat.le_refl n)))
  · refine tG rfl ?_
    exact tR rfl (h1 g1)

theorem b_X4_readLevel_64 {n : Nat} {Q : Zr → Prop} {u : Nat} (x2 x3 x4 x5 x6 : Int) (s : Zs) (hu : u = 36 ∨ u = 72)
    (h0 : ∀ m, m < n → zC m 519 [(((u : Nat) : Int), 0), (((1 : Nat) : Int), 0), (w32 (x2 + 1), 0), (x3, 0)] s (fun p => zT (zE 519) (Pt PX4_readLevel) m (73, [((u : Nat) : Int), ((1 : Nat) : Int), x2, x3, x4, x5, x6], p.1 ++ [], p.2) Q)) : zT (zE 519) (Pt PX4_readLevel) n (64, [((u : Nat) : Int), ((1 : Nat) : Int), x2, x3, x4, x5, x6], [], s) Q := by
  refine tL ((u : Nat) : Int) 0 rfl rfl rfl ?_
  refine tL ((1 : Nat) : Int) 0 rfl rfl rfl ?_
  refine tL x2 0 rfl rfl rfl ?_
  refine tK rfl ?_
  refine tB (v := w32 (x2 + 1)) rfl rfl ?_
  refine tL x3 0 rfl rfl rfl ?_
  exact tCall [(((u : Nat) : Int), 0), (((1 : Nat) : Int), 0), (w32 (x2 + 1), 0), (x3, 0)] [] rfl rfl rfl (fun m l => h0 m (Nat.lt_of_lt_of_le l (Nat.le_refl n)))

theorem b_X4_readLevel_73 {n : Nat} {Q : Zr → Prop} {u : Nat} (x2 x3 x4 x5 x6 : Int) (s : Zs) (hu : u = 36 ∨ u = 72)
    (h0 : ∀ m, m < n → zC m 512 [(((u : Nat) : Int), 0), (x6, 0)] s (fun p => zT (zE 519) (Pt PX4_readLevel) m (79, [((u : Nat) : Int), ((1 : Nat) : Int), x2, x3, x4, x5, x6], p.1 ++ [], p.2) Q)) : zT (zE 519) (Pt PX4_readLevel) n (73, [((u : Nat) : Int), ((1 : Nat) : Int), x2, x3, x4, x5, x6], [], s) Q := by
  refine tL ((u : Nat) : Int) 0 rfl rfl rfl ?_
  refine tL x6 0 rfl rfl rfl ?_
  exact tCall [(((u : Nat) : Int), 0), (x6, 0)] [] rfl rfl rfl (fun m l => h0 m (Nat.lt_of_lt_of_le l (Nat.le_refl n)))

theorem b_X4_readLevel_79 {n : Nat} {Q : Zr → Prop} {u : Nat} (x2 x3 x4 x5 x6 : Int) (s : Zs) (hu : u = 36 ∨ u = 72)
    (h0 : ∀ m, m < n → zT (zE 519) (Pt PX4_readLevel) m (38, [((u : Nat) : Int), ((1 : Nat) : Int), x2, x3, x4, w32 (x5 + 1), x6], [], s) Q) : zT (zE 519) (Pt PX4_readLevel) n (79, [((u : Nat) : Int), ((1 : Nat) : Int), x2, x3, x4, x5, x6], [], s) Q := by
  refine tInc [((u : Nat) : Int), ((1 : Nat) : Int), x2, x3, x4, w32 (x5 + 1), x6] rfl rfl ?_
  exact tGb rfl (fun m2 l2 => h0 m2 (Nat.lt_of_lt_of_le l2 (Nat.le_refl n)))

theorem c_X4_readLevel {n : Nat} {Q : Zr → Prop} {a0 a1 a2 a3 : Int} {s : Zs} (h : zT (zE 519) (Pt PX4_readLevel) n (0, [a0, a1, a2, a3, 0, 0, 0], [], s) Q) : zC n 519 [(a0, 0), (a1, 0), (a2, 0), (a3, 0)] s Q := h

/-! tests of a token, by their values -/
section Zpt
variable {N : Nat} {s : Zs} {T : Nat → Int} {n : Nat} {x : PS}
def b2i (b : Bool) : Int := if b = true then 1 else 0
theorem keyHere_ok (h : pst s T n x) : zC N 907 [(((1 : Nat) : Int), 0)] s (fun r => r = ([(if x.1 = 0 ∧ eQ T n (kB T n x.2) = 2 then kwi (eW T n (kB T n x.2)) else -1, 0)], s)) := by
  have h1 := h.1
  refine c_X7_keyHere (b_X7_keyHere_0 s (fun g1 => ?_) (fun g1 g2 => ?_) (fun g1 g2 => ?_))
  · rw [if_neg (fun q => g1 (h1.trans q.1))]
  · have ha := h.2.2.2.2 (by omega)
    rw [if_neg (fun q => g2 (ha.2.2.1.trans q.2))]
  · have h0 : x.1 = 0 := by omega
    have ha := h.2.2.2.2 h0
    have hq : eQ T n (kB T n x.2) = 2 := by rw [← ha.2.2.1]; exact g2
    rw [if_pos ⟨h0, hq⟩, (ha.2.2.2.1 hq).2]
theorem isWord_ok {i : Int} (hi : 0 ≤ i) (h : pst s T n x) : zC N 906 [(((1 : Nat) : Int), 0), (i, 0)] s (fun r => r = ([(b2i (decide (x.1 = 0) && isKw T n (kB T n x.2) i), 0)], s)) := by
  have h1 := h.1
  have no : x.1 ≠ 0 → (decide (x.1 = 0) && isKw T n (kB T n x.2) i) = false := fun q => by rw [decide_eq_false q]; rfl
  refine c_X7_isWord (b_X7_isWord_0 i s (fun g2 g3 => ?_) (fun g2 g3 => ?_) (fun g4 g5 g6 => ?_) (fun g4 g5 g6 => ?_) (fun g7 g8 g9 => ?_) (fun g7 g8 g9 => ?_))
  · rw [no (by omega)]; rfl
  · omega
  · have ha := h.2.2.2.2 (by omega)
    have : isKw T n (kB T n x.2) i = false := by unfold isKw; rw [decide_eq_false (fun q => g5 (ha.2.2.1.trans q))]; rfl
    rw [this, Bool.and_false]; rfl
  · omega
  · have h0 : x.1 = 0 := by omega
    have ha := h.2.2.2.2 h0
    have hq : eQ T n (kB T n x.2) = 2 := by rw [← ha.2.2.1]; exact g8
    have : isKw T n (kB T n x.2) i = false := by unfold isKw; rw [decide_eq_false (fun q => g9 ((ha.2.2.2.1 hq).2.trans q)), Bool.and_false]
    rw [this, Bool.and_false]; rfl
  · have h0 : x.1 = 0 := by omega
    have ha := h.2.2.2.2 h0
    have hq : eQ T n (kB T n x.2) = 2 := by rw [← ha.2.2.1]; exact g8
    have : isKw T n (kB T n x.2) i = true := by unfold isKw; rw [decide_eq_true hq, decide_eq_true ((ha.2.2.2.1 hq).2.symm.trans g9)]; rfl
    rw [this, decide_eq_true h0]; rfl
theorem isSign_ok {c : Int} (h : pst s T n x) : zC N 905 [(((1 : Nat) : Int), 0), (c, 0)] s (fun r => r = ([(b2i (decide (x.1 = 0) && isSg T n (kB T n x.2) c), 0)], s)) := by
  have h1 := h.1
  have hT : x.1 = 0 → s 1 5 < s 1 0 → s 2 (s 1 5).toNat = T (kB T n x.2) := fun h0 hlt => by
    have ha := h.2.2.2.2 h0
    rw [ha.1, h.2.1.1] at hlt
    rw [ha.1, Int.toNat_natCast]
    exact h.2.1.2.2.1 _ (by omega)
  refine c_X7_isSign (b_X7_isSign_0 c s (fun g1 => ?_) (fun g1 g2 => ?_) (fun g1 g2 g3 => ?_) (fun g1 g2 g3 g4 => ?_) (fun g1 g2 g3 g4 => ?_))
  · rw [decide_eq_false (show ¬ x.1 = 0 by omega)]; rfl
  · have ha := h.2.2.2.2 (by omega)
    have : isSg T n (kB T n x.2) c = false := by unfold isSg; rw [decide_eq_false (fun q => g2 (ha.2.2.1.trans q))]; rfl
    rw [this, Bool.and_false]; rfl
  · have ha := h.2.2.2.2 (by omega)
    have hq : eQ T n (kB T n x.2) = 4 := by rw [← ha.2.2.1]; exact g2
    exfalso
    unfold eQ at hq
    rw [if_pos (by have := ha.1; have := h.2.1.1; omega)] at hq
    cases hq
  · have h0 : x.1 = 0 := by omega
    have : isSg T n (kB T n x.2) c = false := by unfold isSg; rw [decide_eq_false (fun q => g4 ((hT h0 g3).trans q)), Bool.and_false]
    rw [this, Bool.and_false]; rfl
  · have h0 : x.1 = 0 := by omega
    have ha := h.2.2.2.2 h0
    have hq : eQ T n (kB T n x.2) = 4 := by rw [← ha.2.2.1]; exact g2
    have : isSg T n (kB T n x.2) c = true := by unfold isSg; rw [decide_eq_true hq, decide_eq_true ((hT h0 g3).symm.trans g4)]; rfl
    rw [this, decide_eq_true h0]; rfl
theorem isNumber_ok (h : pst s T n x) : zC N 904 [(((1 : Nat) : Int), 0)] s (fun r => r = ([(b2i (decide (x.1 = 0) && isNu T n (kB T n x.2)), 0)], s)) := by
  have h1 := h.1
  refine c_X7_isNumber (b_X7_isNumber_0 s (fun g1 => ?_) (fun g1 g2 => ?_) (fun g1 g2 => ?_))
  · rw [decide_eq_false (show ¬ x.1 = 0 by omega)]; rfl
  · have ha := h.2.2.2.2 (by omega)
    have : isNu T n (kB T n x.2) = false := decide_eq_false (fun q => g2 (ha.2.2.1.trans q))
    rw [this, Bool.and_false]; rfl
  · have h0 : x.1 = 0 := by omega
    have ha := h.2.2.2.2 h0
    have hq : eQ T n (kB T n x.2) = 3 := by rw [← ha.2.2.1]; exact g2
    have : isNu T n (kB T n x.2) = true := decide_eq_true hq
    rw [this, decide_eq_true h0]; rfl
theorem b2i_0 {b : Bool} : b2i b = 0 ↔ b = false := by cases b <;> simp [b2i]
theorem b2i_1 {b : Bool} : b2i b ≠ 0 ↔ b = true := by cases b <;> simp [b2i]
/-- whether a join of that level comes now -/
def jn (T : Nat → Int) (n : Nat) (lv : Nat) (b : Nat) : Bool := if lv = 0 then isKw T n b 23 || isKw T n b 24 else if lv = 1 then isSg T n b 60 || isSg T n b 61 else if lv = 2 then isSg T n b 43 || isSg T n b 45 else isSg T n b 42
theorem joinHere_ok {lv : Nat} (hlv : lv < 4) (h : pst s T n x) : zC N 517 [(((1 : Nat) : Int), 0), ((lv : Int), 0)] s (fun r => ∃ v : Int, r = ([(v, 0)], s) ∧ (v ≠ 0 ↔ (x.1 = 0 ∧ jn T n lv (kB T n x.2) = true))) := by
  have tw : ∀ {a b : Bool} {v w : Int}, v ≠ 0 → w ≠ 0 → ∀ {u : Int}, ((a = true ∧ u = v) ∨ (a = false ∧ b = true ∧ u = w) ∨ (a = false ∧ b = false ∧ u = 0)) → (u ≠ 0 ↔ (a || b) = true) := fun {a b v w} hv hw {u} hu => by
    rcases hu with ⟨rfl, rfl⟩ | ⟨rfl, rfl, rfl⟩ | ⟨rfl, rfl, rfl⟩
    · simp [hv]
    · simp [hw]
    · simp
  have dd : ∀ {c d : Bool}, ((decide (x.1 = 0) && c) || (decide (x.1 = 0) && d)) = true ↔ (x.1 = 0 ∧ (c || d) = true) := fun {c d} => by
    by_cases h0 : x.1 = 0
    · simp [h0]
    · simp [h0]
  refine c_X4_joinHere (b_X4_joinHere_0 (lv : Int) s (fun g m _ => ?_) (fun g m _ => ?_) (fun g m _ => ?_) (fun g1 g2 g3 m _ => ?_))
  · have : lv = 0 := by omega
    subst this
    refine zC_q (isWord_ok (i := 23) (by omega) h) (fun r hr => ?_)
    subst hr
    refine b_X4_joinHere_34 _ _ s (fun g m' _ => ?_) (fun g => ?_)
    · refine zC_q (isWord_ok (i := 24) (by omega) h) (fun r hr => ?_)
      subst hr
      refine b_X4_joinHere_48 _ _ s (fun g' => ?_) (fun g' => ?_)
      · exact ⟨0, rfl, (tw (v := -5) (w := -6) (by decide) (by decide) (Or.inr (Or.inr ⟨b2i_0.mp g, b2i_0.mp g', rfl⟩))).trans dd⟩
      · exact ⟨-6, rfl, (tw (v := -5) (w := -6) (by decide) (by decide) (Or.inr (Or.inl ⟨b2i_0.mp g, b2i_1.mp g', rfl⟩))).trans dd⟩
    · exact ⟨-5, rfl, (tw (b := decide (x.1 = 0) && isKw T n (kB T n x.2) 24) (v := -5) (w := -6) (by decide) (by decide) (Or.inl ⟨b2i_1.mp g, rfl⟩)).trans dd⟩
  · have : lv = 1 := by omega
    subst this
    refine zC_q (isSign_ok (c := 60) h) (fun r hr => ?_)
    subst hr
    refine b_X4_joinHere_64 _ _ s (fun g m' _ => ?_) (fun g => ?_)
    · refine zC_q (isSign_ok (c := 61) h) (fun r hr => ?_)
      subst hr
      refine b_X4_joinHere_78 _ _ s (fun g' => ?_) (fun g' => ?_)
      · exact ⟨0, rfl, (tw (v := -7) (w := -8) (by decide) (by decide) (Or.inr (Or.inr ⟨b2i_0.mp g, b2i_0.mp g', rfl⟩))).trans dd⟩
      · exact ⟨-8, rfl, (tw (v := -7) (w := -8) (by decide) (by decide) (Or.inr (Or.inl ⟨b2i_0.mp g, b2i_1.mp g', rfl⟩))).trans dd⟩
    · exact ⟨-7, rfl, (tw (b := decide (x.1 = 0) && isSg T n (kB T n x.2) 61) (v := -7) (w := -8) (by decide) (by decide) (Or.inl ⟨b2i_1.mp g, rfl⟩)).trans dd⟩
  · have : lv = 2 := by omega
    subst this
    refine zC_q (isSign_ok (c := 43) h) (fun r hr => ?_)
    subst hr
    refine b_X4_joinHere_94 _ _ s (fun g m' _ => ?_) (fun g => ?_)
    · refine zC_q (isSign_ok (c := 45) h) (fun r hr => ?_)
      subst hr
      refine b_X4_joinHere_108 _ _ s (fun g' => ?_) (fun g' => ?_)
      · exact ⟨0, rfl, (tw (v := -9) (w := -10) (by decide) (by decide) (Or.inr (Or.inr ⟨b2i_0.mp g, b2i_0.mp g', rfl⟩))).trans dd⟩
      · exact ⟨-10, rfl, (tw (v := -9) (w := -10) (by decide) (by decide) (Or.inr (Or.inl ⟨b2i_0.mp g, b2i_1.mp g', rfl⟩))).trans dd⟩
    · exact ⟨-9, rfl, (tw (b := decide (x.1 = 0) && isSg T n (kB T n x.2) 45) (v := -9) (w := -10) (by decide) (by decide) (Or.inl ⟨b2i_1.mp g, rfl⟩)).trans dd⟩
  · have : lv = 3 := by omega
    subst this
    refine zC_q (isSign_ok (c := 42) h) (fun r hr => ?_)
    subst hr
    refine b_X4_joinHere_124 _ _ s (fun g => ?_) (fun g => ?_)
    · exact ⟨0, rfl, (tw (b := decide (x.1 = 0) && false) (v := -11) (w := -11) (by decide) (by decide) (Or.inr (Or.inr ⟨b2i_0.mp g, Bool.and_false _, rfl⟩))).trans (dd.trans (by rw [Bool.or_false]; rfl))⟩
    · exact ⟨-11, rfl, (tw (b := decide (x.1 = 0) && false) (v := -11) (w := -11) (by decide) (by decide) (Or.inl ⟨b2i_1.mp g, rfl⟩)).trans (dd.trans (by rw [Bool.or_false]; rfl))⟩
end Zpt
/-! the run over a law of price: how many steps it is given doesn't matter -/
theorem eQ_lt {T : Nat → Int} {n p : Nat} (hp : p ≤ n) (h : eQ T n (kB T n p) ≠ 1) : kB T n p < n ∧ p < kE T n p := by
  have h1 := kE_bd (T := T) hp
  have hlt : kB T n p < n := by
    by_cases c : kB T n p < n
    · exact c
    · exfalso
      refine h ?_
      unfold eQ
      rw [if_pos (by omega)]
  refine ⟨hlt, ?_⟩
  have := eE_lt (T := T) hlt
  have e : kE T n p = eE T n (kB T n p) := rfl
  omega
theorem isKw_q {T : Nat → Int} {n b : Nat} {i : Int} (h : isKw T n b i = true) : eQ T n b = 2 ∧ kwi (eW T n b) = i := by unfold isKw at h; simpa using h
theorem isSg_q {T : Nat → Int} {n b : Nat} {c : Int} (h : isSg T n b c = true) : eQ T n b = 4 ∧ T b = c := by unfold isSg at h; simpa using h
theorem isFa_q {T : Nat → Int} {n b : Nat} (h : isFa T n b = true) : eQ T n b = 2 ∧ 25 ≤ kwi (eW T n b) := by unfold isFa at h; simpa using h
theorem isNu_q {T : Nat → Int} {n b : Nat} (h : isNu T n b = true) : eQ T n b = 3 := by unfold isNu at h; simpa using h
theorem aRun_f {T : Nat → Int} {n : Nat} : ∀ (f f' p : Nat) (w : Bool) (l : List (Bool × Bool)), p ≤ n → n + 2 - p ≤ f → n + 2 - p ≤ f' → aRun T n f p w l = aRun T n f' p w l
  | 0, _, _, _, _, hp, h, _ => by omega
  | _ + 1, 0, _, _, _, hp, _, h => by omega
  | f + 1, f' + 1, p, w, l, hp, h1, h2 => by
    have on : eQ T n (kB T n p) ≠ 1 → ∀ w' l', aRun T n f (kE T n p) w' l' = aRun T n f' (kE T n p) w' l' := fun hq w' l' => by
      have := eQ_lt hp hq
      have hb := kE_bd (T := T) hp
      exact aRun_f f f' _ w' l' hb.2.2.2 (by omega) (by omega)
    cases w with
    | true =>
      unfold aRun
      dsimp only
      split
      · rfl
      · rename_i c
        have hq : eQ T n (kB T n p) ≠ 1 := fun q => c ⟨Bool.eq_false_iff.mpr (fun e => by have := (isFa_q e).1; omega), Bool.eq_false_iff.mpr (fun e => by have := (isKw_q e).1; omega), Bool.eq_false_iff.mpr (fun e => by have := (isSg_q e).1; omega), Bool.eq_false_iff.mpr (fun e => by have := isNu_q e; omega)⟩
        split
        · rfl
        · split
          · exact on hq _ _
          · split
            · exact on hq _ _
            · exact on hq _ _
    | false =>
      unfold aRun
      dsimp only
      split
      · rename_i c
        exact on (fun q => by rcases c with c | c | c <;> (have := (isSg_q c).1; omega)) _ _
      · split
        · rename_i c
          exact on (fun q => by rcases c.1 with c | c <;> (have := (isSg_q c).1; omega)) _ _
        · split
          · rename_i c
            exact on (fun q => by rcases c with c | c <;> (have := (isKw_q c).1; omega)) _ _
          · split
            · rename_i c
              exact on (fun q => by have := (isSg_q c.1).1; omega) _ _
            · split <;> rfl
/-- the run, with steps enough -/
def aR (T : Nat → Int) (n p : Nat) (w : Bool) (l : List (Bool × Bool)) : PS := aRun T n (n + 2 - p) p w l
theorem aR_t {T : Nat → Int} {n p : Nat} {l : List (Bool × Bool)} (hp : p ≤ n) : aR T n p true l =
    if isFa T n (kB T n p) = false ∧ isKw T n (kB T n p) 22 = false ∧ isSg T n (kB T n p) 40 = false ∧ isNu T n (kB T n p) = false then gF T n 1 (0, p)
    else if l.length = 6 then gF T n 5 (0, p)
    else if isKw T n (kB T n p) 22 = true then aR T n (kE T n p) true ((true, false) :: l)
    else if isSg T n (kB T n p) 40 = true then aR T n (kE T n p) true ((false, false) :: l)
    else aR T n (kE T n p) false (popZ l) := by
  have hb := (kE_bd (T := T) hp).2.2.2
  have on : eQ T n (kB T n p) ≠ 1 → ∀ w' l', aRun T n (n + 1 - p) (kE T n p) w' l' = aR T n (kE T n p) w' l' := fun hq w' l' => by
    have := eQ_lt hp hq
    exact aRun_f _ _ _ w' l' hb (by omega) (by omega)
  conv => lhs; unfold aR; rw [show n + 2 - p = (n + 1 - p) + 1 from by omega]; unfold aRun; dsimp only
  split
  · rfl
  · rename_i c
    have hq : eQ T n (kB T n p) ≠ 1 := fun q => c ⟨Bool.eq_false_iff.mpr (fun e => by have := (isFa_q e).1; omega), Bool.eq_false_iff.mpr (fun e => by have := (isKw_q e).1; omega), Bool.eq_false_iff.mpr (fun e => by have := (isSg_q e).1; omega), Bool.eq_false_iff.mpr (fun e => by have := isNu_q e; omega)⟩
    rw [on hq, on hq, on hq]
theorem aR_f {T : Nat → Int} {n p : Nat} {l : List (Bool × Bool)} (hp : p ≤ n) : aR T n p false l =
    if isSg T n (kB T n p) 43 = true ∨ isSg T n (kB T n p) 45 = true ∨ isSg T n (kB T n p) 42 = true then aR T n (kE T n p) true l
    else if (isSg T n (kB T n p) 60 = true ∨ isSg T n (kB T n p) 61 = true) ∧ cmpd l = false then aR T n (kE T n p) true (setC true l)
    else if isKw T n (kB T n p) 23 = true ∨ isKw T n (kB T n p) 24 = true then aR T n (kE T n p) true (setC false l)
    else if isSg T n (kB T n p) 41 = true ∧ 1 < l.length then aR T n (kE T n p) false (popZ l.tail)
    else if l.length = 1 ∧ isSg T n (kB T n p) 59 = true then (0, kE T n p)
    else gF T n 1 (0, p) := by
  have hb := (kE_bd (T := T) hp).2.2.2
  have on : eQ T n (kB T n p) ≠ 1 → ∀ w' l', aRun T n (n + 1 - p) (kE T n p) w' l' = aR T n (kE T n p) w' l' := fun hq w' l' => by
    have := eQ_lt hp hq
    exact aRun_f _ _ _ w' l' hb (by omega) (by omega)
  conv => lhs; unfold aR; rw [show n + 2 - p = (n + 1 - p) + 1 from by omega]; unfold aRun; dsimp only
  split
  · rename_i c
    exact on (fun q => by rcases c with c | c | c <;> (have := (isSg_q c).1; omega)) _ _
  · split
    · rename_i c
      exact on (fun q => by rcases c.1 with c | c <;> (have := (isSg_q c).1; omega)) _ _
    · split
      · rename_i c
        exact on (fun q => by rcases c with c | c <;> (have := (isKw_q c).1; omega)) _ _
      · split
        · rename_i c
          exact on (fun q => by have := (isSg_q c.1).1; omega) _ _
        · rfl
