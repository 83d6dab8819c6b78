/-! nights, of the class -/
theorem b_X2_takeFlight_0 {n : Nat} {Q : Zr → Prop} {t : Nat} (x2 x3 : Int) (s : Zs) (ht : t = 7 ∨ t = 43)
    (h0 : ∀ m, m < n → zC m 915 [(((1 : Nat) : Int), 0), (((t : Nat) : Int), 0), (0, 0)] s (fun p => zT (zE 258) (Pt PX2_takeFlight) m (9, [((5 : Nat) : Int), ((t : Nat) : Int), x2, x3], p.1 ++ [], p.2) Q)) : zT (zE 258) (Pt PX2_takeFlight) n (0, [((5 : Nat) : Int), ((t : Nat) : Int), x2, x3], [], s) Q := by
  refine tL ((5 : Nat) : Int) 0 rfl rfl rfl ?_
  refine tFR (c := 5) 1 rfl rfl rfl rfl rfl ?_
  refine tL ((t : Nat) : Int) 0 rfl rfl rfl ?_
  refine tK rfl ?_
  exact tCall [(((1 : Nat) : Int), 0), (((t : Nat) : Int), 0), (0, 0)] [] rfl rfl rfl (fun m l => h0 m (Nat.lt_of_lt_of_le l (Nat.le_refl n)))

theorem b_X2_takeFlight_9 {n : Nat} {Q : Zr → Prop} {t : Nat} (x2 x3 v0 : Int) (s : Zs) (ht : t = 7 ∨ t = 43)
    (h0 : ∀ m, m < n → zC m 911 [(((1 : Nat) : Int), 0)] s (fun p => zT (zE 258) (Pt PX2_takeFlight) m (19, [((5 : Nat) : Int), ((t : Nat) : Int), v0, x3], p.1 ++ [(v0, 0), (((t : Nat) : Int), 0)], p.2) Q)) : zT (zE 258) (Pt PX2_takeFlight) n (9, [((5 : Nat) : Int), ((t : Nat) : Int), x2, x3], [(v0, 0)], s) Q := by
  refine tS [((5 : Nat) : Int), ((t : Nat) : Int), v0, x3] rfl rfl ?_
  refine tL ((t : Nat) : Int) 0 rfl rfl rfl ?_
  refine tL v0 0 rfl rfl rfl ?_
  refine tL ((5 : Nat) : Int) 0 rfl rfl rfl ?_
  refine tFR (c := 5) 1 rfl rfl rfl rfl rfl ?_
  exact tCall [(((1 : Nat) : Int), 0)] [(v0, 0), (((t : Nat) : Int), 0)] rfl rfl rfl (fun m l => h0 m (Nat.lt_of_lt_of_le l (Nat.le_refl n)))

theorem b_X2_takeFlight_19 {n : Nat} {Q : Zr → Prop} {t : Nat} (x2 x3 v0 y0 : Int) (s : Zs) (ht : t = 7 ∨ t = 43)
    (h0 : ∀ (g2 : y0 < 0), ∀ m, m < n → zC m 899 [(((1 : Nat) : Int), 0), (4, 0)] s (fun p => zT (zE 258) (Pt PX2_takeFlight) m (36, [((5 : Nat) : Int), ((t : Nat) : Int), x2, (-1)], p.1 ++ [], p.2) Q))
    (h1 : ∀ (g4 : 0 ≤ y0), ∀ (g5 : v0 < 0), ∀ m, m < n → zC m 899 [(((1 : Nat) : Int), 0), (4, 0)] s (fun p => zT (zE 258) (Pt PX2_takeFlight) m (36, [((5 : Nat) : Int), ((t : Nat) : Int), x2, (-1)], p.1 ++ [], p.2) Q))
    (h2 : ∀ (g7 : 0 ≤ y0), ∀ (g8 : 0 ≤ v0), ∀ (g9 : 6 ≤ v0), ∀ m, m < n → zC m 899 [(((1 : Nat) : Int), 0), (4, 0)] s (fun p => zT (zE 258) (Pt PX2_takeFlight) m (36, [((5 : Nat) : Int), ((t : Nat) : Int), x2, (-1)], p.1 ++ [], p.2) Q))
    (h3 : ∀ (g11 : 0 ≤ y0), ∀ (g12 : 0 ≤ v0), ∀ (g13 : v0 < 6), ∀ (g14 : 30 ≤ w32 ((w32 (y0 * 6)) + v0)), ∀ m, m < n → zC m 899 [(((1 : Nat) : Int), 0), (4, 0)] s (fun p => zT (zE 258) (Pt PX2_takeFlight) m (36, [((5 : Nat) : Int), ((t : Nat) : Int), x2, (-1)], p.1 ++ [], p.2) Q))
    (h4 : ∀ (g16 : 0 ≤ y0), ∀ (g17 : 0 ≤ v0), ∀ (g18 : v0 < 6), ∀ (g19 : w32 ((w32 (y0 * 6)) + v0) < 30), ∀ (g20 : s (t + 34) ((w32 ((w32 (y0 * 6)) + v0)).toNat) ≠ (-1)), ∀ m, m < n → zC m 910 [(((1 : Nat) : Int), 0)] s (fun p => zT (zE 258) (Pt PX2_takeFlight) m (46, [((5 : Nat) : Int), ((t : Nat) : Int), x2, s (t + 34) ((w32 ((w32 (y0 * 6)) + v0)).toNat)], p.1 ++ [], p.2) Q))
    (h5 : ∀ (g16 : 0 ≤ y0), ∀ (g17 : 0 ≤ v0), ∀ (g18 : v0 < 6), ∀ (g19 : w32 ((w32 (y0 * 6)) + v0) < 30), ∀ (g20 : s (t + 34) ((w32 ((w32 (y0 * 6)) + v0)).toNat) = (-1)), ∀ m, m < n → zC m 899 [(((1 : Nat) : Int), 0), (4, 0)] s (fun p => zT (zE 258) (Pt PX2_takeFlight) m (36, [((5 : Nat) : Int), ((t : Nat) : Int), x2, s (t + 34) ((w32 ((w32 (y0 * 6)) + v0)).toNat)], p.1 ++ [], p.2) Q)) : zT (zE 258) (Pt PX2_takeFlight) n (19, [((5 : Nat) : Int), ((t : Nat) : Int), x2, x3], [(v0, 0), (y0, 0), (((t : Nat) : Int), 0)], s) Q := by
  refine tCall [(((t : Nat) : Int), 0), (y0, 0), (v0, 0)] [] rfl rfl rfl (fun m1 l1 => c_X8_flightFrom (b_X8_flightFrom_0 y0 v0 0 s ht ?_ ?_ ?_ ?_ ?_))
  · intro g2
    show zT (zE 258) (Pt PX2_takeFlight) m1 (22, [((5 : Nat) : Int), ((t : Nat) : Int), x2, x3], [((-1), 0)], s) Q
    refine tS [((5 : Nat) : Int), ((t : Nat) : Int), x2, (-1)] rfl rfl ?_
    refine tL (-1) 0 rfl rfl rfl ?_
    refine tK rfl ?_
    refine tJ1 rfl (fun g _ l => (absurd g (by decide))) (fun g _ l => zT_le ?_ (Nat.le_of_lt l))
    refine tL ((5 : Nat) : Int) 0 rfl rfl rfl ?_
    refine tFR (c := 5) 1 rfl rfl rfl rfl rfl ?_
    refine tK rfl ?_
    exact tCall [(((1 : Nat) : Int), 0), (4, 0)] [] rfl rfl rfl (fun m l => h0 g2 m (Nat.lt_of_lt_of_le l (Nat.le_trans (Nat.le_of_lt l1) (Nat.le_refl n))))
  · intro g4 g5
    show zT (zE 258) (Pt PX2_takeFlight) m1 (22, [((5 : Nat) : Int), ((t : Nat) : Int), x2, x3], [((-1), 0)], s) Q
    refine tS [((5 : Nat) : Int), ((t : Nat) : Int), x2, (-1)] rfl rfl ?_
    refine tL (-1) 0 rfl rfl rfl ?_
    refine tK rfl ?_
    refine tJ1 rfl (fun g _ l => (absurd g (by decide))) (fun g _ l => zT_le ?_ (Nat.le_of_lt l))
    refine tL ((5 : Nat) : Int) 0 rfl rfl rfl ?_
    refine tFR (c := 5) 1 rfl rfl rfl rfl rfl ?_
    refine tK rfl ?_
    exact tCall [(((1 : Nat) : Int), 0), (4, 0)] [] rfl rfl rfl (fun m l => h1 g4 g5 m (Nat.lt_of_lt_of_le l (Nat.le_trans (Nat.le_of_lt l1) (Nat.le_refl n))))
  · intro g7 g8 g9
    show zT (zE 258) (Pt PX2_takeFlight) m1 (22, [((5 : Nat) : Int), ((t : Nat) : Int), x2, x3], [((-1), 0)], s) Q
    refine tS [((5 : Nat) : Int), ((t : Nat) : Int), x2, (-1)] rfl rfl ?_
    refine tL (-1) 0 rfl rfl rfl ?_
    refine tK rfl ?_
    refine tJ1 rfl (fun g _ l => (absurd g (by decide))) (fun g _ l => zT_le ?_ (Nat.le_of_lt l))
    refine tL ((5 : Nat) : Int) 0 rfl rfl rfl ?_
    refine tFR (c := 5) 1 rfl rfl rfl rfl rfl ?_
    refine tK rfl ?_
    exact tCall [(((1 : Nat) : Int), 0), (4, 0)] [] rfl rfl rfl (fun m l => h2 g7 g8 g9 m (Nat.lt_of_lt_of_le l (Nat.le_trans (Nat.le_of_lt l1) (Nat.le_refl n))))
  · intro g11 g12 g13 g14
    show zT (zE 258) (Pt PX2_takeFlight) m1 (22, [((5 : Nat) : Int), ((t : Nat) : Int), x2, x3], [((-1), 0)], s) Q
    refine tS [((5 : Nat) : Int), ((t : Nat) : Int), x2, (-1)] rfl rfl ?_
    refine tL (-1) 0 rfl rfl rfl ?_
    refine tK rfl ?_
    refine tJ1 rfl (fun g _ l => (absurd g (by decide))) (fun g _ l => zT_le ?_ (Nat.le_of_lt l))
    refine tL ((5 : Nat) : Int) 0 rfl rfl rfl ?_
    refine tFR (c := 5) 1 rfl rfl rfl rfl rfl ?_
    refine tK rfl ?_
    exact tCall [(((1 : Nat) : Int), 0), (4, 0)] [] rfl rfl rfl (fun m l => h3 g11 g12 g13 g14 m (Nat.lt_of_lt_of_le l (Nat.le_trans (Nat.le_of_lt l1) (Nat.le_refl n))))
  · intro g16 g17 g18 g19
    show zT (zE 258) (Pt PX2_takeFlight) m1 (22, [((5 : Nat) : Int), ((t : Nat) : Int), x2, x3], [(s (t + 34) ((w32 ((w32 (y0 * 6)) + v0)).toNat), 0)], s) Q
    refine tS [((5 : Nat) : Int), ((t : Nat) : Int), x2, s (t + 34) ((w32 ((w32 (y0 * 6)) + v0)).toNat)] rfl rfl ?_
    refine tL (s (t + 34) ((w32 ((w32 (y0 * 6)) + v0)).toNat)) 0 rfl rfl rfl ?_
    refine tK rfl ?_
    refine tJ1 rfl (fun g20 _ l20 => zT_le ?_ (Nat.le_of_lt l20)) (fun g20 _ l20 => zT_le ?_ (Nat.le_of_lt l20))
    · refine tL ((5 : Nat) : Int) 0 rfl rfl rfl ?_
      refine tFR (c := 5) 1 rfl rfl rfl rfl rfl ?_
      exact tCall [(((1 : Nat) : Int), 0)] [] rfl rfl rfl (fun m l => h4 g16 g17 g18 g19 g20 m (Nat.lt_of_lt_of_le l (Nat.le_trans (Nat.le_of_lt l1) (Nat.le_refl n))))
    · refine tL ((5 : Nat) : Int) 0 rfl rfl rfl ?_
      refine tFR (c := 5) 1 rfl rfl rfl rfl rfl ?_
      refine tK rfl ?_
      exact tCall [(((1 : Nat) : Int), 0), (4, 0)] [] rfl rfl rfl (fun m l => h5 g16 g17 g18 g19 g20 m (Nat.lt_of_lt_of_le l (Nat.le_trans (Nat.le_of_lt l1) (Nat.le_refl n))))

theorem b_X2_takeFlight_36 {n : Nat} {Q : Zr → Prop} {t : Nat} (x2 x3 : Int) (s : Zs) (ht : t = 7 ∨ t = 43)
    (h0 : Q ([(x3, 0)], s)) : zT (zE 258) (Pt PX2_takeFlight) n (36, [((5 : Nat) : Int), ((t : Nat) : Int), x2, x3], [], s) Q := by
  refine tG rfl ?_
  refine tL x3 0 rfl rfl rfl ?_
  exact tR rfl (h0)

theorem b_X2_takeFlight_46 {n : Nat} {Q : Zr → Prop} {t : Nat} (x2 x3 : Int) (s : Zs) (ht : t = 7 ∨ t = 43)
    (h0 : Q ([(x3, 0)], s)) : zT (zE 258) (Pt PX2_takeFlight) n (46, [((5 : Nat) : Int), ((t : Nat) : Int), x2, x3], [], s) Q := by
  refine tL x3 0 rfl rfl rfl ?_
  exact tR rfl (h0)

theorem c_X2_takeFlight {n : Nat} {Q : Zr → Prop} {a0 a1 : Int} {s : Zs} (h : zT (zE 258) (Pt PX2_takeFlight) n (0, [a0, a1, 0, 0], [], s) Q) : zC n 258 [(a0, 0), (a1, 0)] s Q := h

theorem b_X2_readLine_0 {n : Nat} {Q : Zr → Prop} {t : Nat} (x2 x3 : Int) (s : Zs) (ht : t = 7 ∨ t = 43)
    (h0 : ∀ (g2 : s 1 1 ≠ 0), ∀ m, m < n → zC m 899 [(((1 : Nat) : Int), 0), (1, 0)] s (fun p => zT (zE 257) (Pt PX2_readLine) m (28, [((5 : Nat) : Int), ((t : Nat) : Int), (-1), x3], p.1 ++ [], p.2) Q))
    (h1 : ∀ (g4 : s 1 1 = 0), ∀ (g5 : s 1 4 ≠ 2), ∀ m, m < n → zC m 899 [(((1 : Nat) : Int), 0), (1, 0)] s (fun p => zT (zE 257) (Pt PX2_readLine) m (28, [((5 : Nat) : Int), ((t : Nat) : Int), (-1), x3], p.1 ++ [], p.2) Q))
    (h2 : ∀ (g7 : s 1 1 = 0), ∀ (g8 : s 1 4 = 2), ∀ (g9 : s 1 8 < 17), ∀ m, m < n → zC m 899 [(((1 : Nat) : Int), 0), (1, 0)] s (fun p => zT (zE 257) (Pt PX2_readLine) m (28, [((5 : Nat) : Int), ((t : Nat) : Int), s 1 8, x3], p.1 ++ [], p.2) Q))
    (h3 : ∀ (g7 : s 1 1 = 0), ∀ (g8 : s 1 4 = 2), ∀ (g9 : 17 ≤ s 1 8), ∀ (g11 : s 1 8 ≤ 21), ∀ (g12 : s 5 1 < 40), ∀ m, m < n → zC m 910 [(((1 : Nat) : Int), 0)] s (fun p => zT (zE 257) (Pt PX2_readLine) m (54, [((5 : Nat) : Int), ((t : Nat) : Int), s 1 8, x3], p.1 ++ [], p.2) Q))
    (h4 : ∀ (g7 : s 1 1 = 0), ∀ (g8 : s 1 4 = 2), ∀ (g9 : 17 ≤ s 1 8), ∀ (g11 : s 1 8 ≤ 21), ∀ (g12 : 40 ≤ s 5 1), ∀ m, m < n → zC m 899 [(((1 : Nat) : Int), 0), (5, 0)] s (fun p => zT (zE 257) (Pt PX2_readLine) m (46, [((5 : Nat) : Int), ((t : Nat) : Int), s 1 8, x3], p.1 ++ [], p.2) Q))
    (h5 : ∀ (g7 : s 1 1 = 0), ∀ (g8 : s 1 4 = 2), ∀ (g9 : 17 ≤ s 1 8), ∀ (g11 : 21 < s 1 8), ∀ m, m < n → zC m 899 [(((1 : Nat) : Int), 0), (1, 0)] s (fun p => zT (zE 257) (Pt PX2_readLine) m (28, [((5 : Nat) : Int), ((t : Nat) : Int), s 1 8, x3], p.1 ++ [], p.2) Q)) : zT (zE 257) (Pt PX2_readLine) n (0, [((5 : Nat) : Int), ((t : Nat) : Int), x2, x3], [], s) Q := by
  refine tL ((5 : Nat) : Int) 0 rfl rfl rfl ?_
  refine tFR (c := 5) 1 rfl rfl rfl rfl rfl ?_
  refine tCall [(((1 : Nat) : Int), 0)] [] rfl rfl rfl (fun m1 l1 => c_X7_keyHere (b_X7_keyHere_0  s ?_ ?_ ?_))
  · intro g2
    show zT (zE 257) (Pt PX2_readLine) m1 (7, [((5 : Nat) : Int), ((t : Nat) : Int), x2, x3], [((-1), 0)], s) Q
    refine tS [((5 : Nat) : Int), ((t : Nat) : Int), (-1), x3] rfl rfl ?_
    refine tL (-1) 0 rfl rfl rfl ?_
    refine tK rfl ?_
    refine tJ2 rfl (fun g _ l => zT_le ?_ (Nat.le_of_lt l)) (fun g _ l => (absurd g (by decide)))
    refine tL ((5 : Nat) : Int) 0 rfl rfl rfl ?_
    refine tFR (c := 5) 1 rfl rfl rfl rfl rfl ?_
    refine tK rfl ?_
    exact tCall [(((1 : Nat) : Int), 0), (1, 0)] [] rfl rfl rfl (fun m l => h0 g2 m (Nat.lt_of_lt_of_le l (Nat.le_trans (Nat.le_of_lt l1) (Nat.le_refl n))))
  · intro g4 g5
    show zT (zE 257) (Pt PX2_readLine) m1 (7, [((5 : Nat) : Int), ((t : Nat) : Int), x2, x3], [((-1), 0)], s) Q
    refine tS [((5 : Nat) : Int), ((t : Nat) : Int), (-1), x3] rfl rfl ?_
    refine tL (-1) 0 rfl rfl rfl ?_
    refine tK rfl ?_
    refine tJ2 rfl (fun g _ l => zT_le ?_ (Nat.le_of_lt l)) (fun g _ l => (absurd g (by decide)))
    refine tL ((5 : Nat) : Int) 0 rfl rfl rfl ?_
    refine tFR (c := 5) 1 rfl rfl rfl rfl rfl ?_
    refine tK rfl ?_
    exact tCall [(((1 : Nat) : Int), 0), (1, 0)] [] rfl rfl rfl (fun m l => h1 g4 g5 m (Nat.lt_of_lt_of_le l (Nat.le_trans (Nat.le_of_lt l1) (Nat.le_refl n))))
  · intro g7 g8
    show zT (zE 257) (Pt PX2_readLine) m1 (7, [((5 : Nat) : Int), ((t : Nat) : Int), x2, x3], [(s 1 8, 0)], s) Q
    refine tS [((5 : Nat) : Int), ((t : Nat) : Int), s 1 8, x3] rfl rfl ?_
    refine tL (s 1 8) 0 rfl rfl rfl ?_
    refine tK rfl ?_
    refine tJ2 rfl (fun g9 _ l9 => zT_le ?_ (Nat.le_of_lt l9)) (fun g9 _ l9 => zT_le ?_ (Nat.le_of_lt l9))
    · refine tL ((5 : Nat) : Int) 0 rfl rfl rfl ?_
      refine tFR (c := 5) 1 rfl rfl rfl rfl rfl ?_
      refine tK rfl ?_
      exact tCall [(((1 : Nat) : Int), 0), (1, 0)] [] rfl rfl rfl (fun m l => h2 g7 g8 g9 m (Nat.lt_of_lt_of_le l (Nat.le_trans (Nat.le_of_lt l1) (Nat.le_refl n))))
    · refine tL (s 1 8) 0 rfl rfl rfl ?_
      refine tK rfl ?_
      refine tJ5 rfl (fun g11 _ l11 => zT_le ?_ (Nat.le_of_lt l11)) (fun g11 _ l11 => zT_le ?_ (Nat.le_of_lt l11))
      · refine tL ((5 : Nat) : Int) 0 rfl rfl rfl ?_
        refine tFv (c := 5) (s 5 1) 0 rfl rfl rfl rfl rfl ?_
        refine tK rfl ?_
        refine tJ2 rfl (fun g12 _ l12 => zT_le ?_ (Nat.le_of_lt l12)) (fun g12 _ l12 => zT_le ?_ (Nat.le_of_lt l12))
        · refine tL ((5 : Nat) : Int) 0 rfl rfl rfl ?_
          refine tFR (c := 5) 1 rfl rfl rfl rfl rfl ?_
          exact tCall [(((1 : Nat) : Int), 0)] [] rfl rfl rfl (fun m l => h3 g7 g8 g9 g11 g12 m (Nat.lt_of_lt_of_le l (Nat.le_trans (Nat.le_of_lt l1) (Nat.le_refl n))))
        · refine tL ((5 : Nat) : Int) 0 rfl rfl rfl ?_
          refine tFR (c := 5) 1 rfl rfl rfl rfl rfl ?_
          refine tK rfl ?_
          exact tCall [(((1 : Nat) : Int), 0), (5, 0)] [] rfl rfl rfl (fun m l => h4 g7 g8 g9 g11 g12 m (Nat.lt_of_lt_of_le l (Nat.le_trans (Nat.le_of_lt l1) (Nat.le_refl n))))
      · refine tL ((5 : Nat) : Int) 0 rfl rfl rfl ?_
        refine tFR (c := 5) 1 rfl rfl rfl rfl rfl ?_
        refine tK rfl ?_
        exact tCall [(((1 : Nat) : Int), 0), (1, 0)] [] rfl rfl rfl (fun m l => h5 g7 g8 g9 g11 m (Nat.lt_of_lt_of_le l (Nat.le_trans (Nat.le_of_lt l1) (Nat.le_refl n))))

theorem b_X2_readLine_28 {n : Nat} {Q : Zr → Prop} {t : Nat} (x2 x3 : Int) (s : Zs) (ht : t = 7 ∨ t = 43)
    (h0 : Q ([], s)) : zT (zE 257) (Pt PX2_readLine) n (28, [((5 : Nat) : Int), ((t : Nat) : Int), x2, x3], [], s) Q := by
  exact tR rfl (h0)

theorem b_X2_readLine_54 {n : Nat} {Q : Zr → Prop} {t : Nat} (x2 x3 : Int) (s : Zs) (ht : t = 7 ∨ t = 43)
    (h0 : ∀ (g1 : x2 = 17), ∀ m, m < n → zC m 258 [(((5 : Nat) : Int), 0), (((t : Nat) : Int), 0)] (zu s 6 ((w32 ((s 5 1) * 4)).toNat) x2) (fun p => zT (zE 257) (Pt PX2_readLine) m (92, [((5 : Nat) : Int), ((t : Nat) : Int), x2, w32 ((s 5 1) * 4)], p.1 ++ [(w32 ((w32 ((s 5 1) * 4)) + 1), 0), (((6 : Nat) : Int), 0)], p.2) Q))
    (h1 : ∀ (g1 : x2 ≠ 17), ∀ (g3 : x2 ≠ 18), ∀ (g4 : x2 ≠ 19), ∀ (g5 : x2 ≠ 20), ∀ m, m < n → zC m 914 [(((1 : Nat) : Int), 0), (59, 0)] (zu s 6 ((w32 ((s 5 1) * 4)).toNat) x2) (fun p => zT (zE 257) (Pt PX2_readLine) m (203, [((5 : Nat) : Int), ((t : Nat) : Int), x2, w32 ((s 5 1) * 4)], p.1 ++ [], p.2) Q))
    (h2 : ∀ (g1 : x2 ≠ 17), ∀ (g3 : x2 ≠ 18), ∀ (g4 : x2 ≠ 19), ∀ (g5 : x2 = 20), ∀ m, m < n → zC m 915 [(((1 : Nat) : Int), 0), (((t : Nat) : Int), 0), (3, 0)] (zu s 6 ((w32 ((s 5 1) * 4)).toNat) x2) (fun p => zT (zE 257) (Pt PX2_readLine) m (160, [((5 : Nat) : Int), ((t : Nat) : Int), x2, w32 ((s 5 1) * 4)], p.1 ++ [(w32 ((w32 ((s 5 1) * 4)) + 1), 0), (((6 : Nat) : Int), 0)], p.2) Q))
    (h3 : ∀ (g1 : x2 ≠ 17), ∀ (g3 : x2 ≠ 18), ∀ (g4 : x2 = 19), ∀ m, m < n → zC m 915 [(((1 : Nat) : Int), 0), (((t : Nat) : Int), 0), (3, 0)] (zu s 6 ((w32 ((s 5 1) * 4)).toNat) x2) (fun p => zT (zE 257) (Pt PX2_readLine) m (118, [((5 : Nat) : Int), ((t : Nat) : Int), x2, w32 ((s 5 1) * 4)], p.1 ++ [(w32 ((w32 ((s 5 1) * 4)) + 1), 0), (((6 : Nat) : Int), 0)], p.2) Q))
    (h4 : ∀ (g1 : x2 ≠ 17), ∀ (g3 : x2 = 18), ∀ m, m < n → zC m 258 [(((5 : Nat) : Int), 0), (((t : Nat) : Int), 0)] (zu s 6 ((w32 ((s 5 1) * 4)).toNat) x2) (fun p => zT (zE 257) (Pt PX2_readLine) m (92, [((5 : Nat) : Int), ((t : Nat) : Int), x2, w32 ((s 5 1) * 4)], p.1 ++ [(w32 ((w32 ((s 5 1) * 4)) + 1), 0), (((6 : Nat) : Int), 0)], p.2) Q)) : zT (zE 257) (Pt PX2_readLine) n (54, [((5 : Nat) : Int), ((t : Nat) : Int), x2, x3], [], s) Q := by
  refine tL ((5 : Nat) : Int) 0 rfl rfl rfl ?_
  refine tFv (c := 5) (s 5 1) 0 rfl rfl rfl rfl rfl ?_
  refine tK rfl ?_
  refine tM (v := w32 ((s 5 1) * 4)) rfl rfl ?_
  refine tS [((5 : Nat) : Int), ((t : Nat) : Int), x2, w32 ((s 5 1) * 4)] rfl rfl ?_
  refine tL ((5 : Nat) : Int) 0 rfl rfl rfl ?_
  refine tFR (c := 5) 6 rfl rfl rfl rfl rfl ?_
  refine tL (w32 ((s 5 1) * 4)) 0 rfl rfl rfl ?_
  refine tL x2 0 rfl rfl rfl ?_
  refine tAS 6 ((w32 ((s 5 1) * 4)).toNat) rfl rfl rfl (by decide) ?_
  refine tL x2 0 rfl rfl rfl ?_
  refine tK rfl ?_
  refine tJ0 rfl (fun g1 _ l1 => zT_le ?_ (Nat.le_of_lt l1)) (fun g1 _ l1 => zT_le ?_ (Nat.le_of_lt l1))
  · refine tL ((5 : Nat) : Int) 0 rfl rfl rfl ?_
    refine tFR (c := 5) 6 rfl rfl rfl rfl rfl ?_
    refine tL (w32 ((s 5 1) * 4)) 0 rfl rfl rfl ?_
    refine tK rfl ?_
    refine tB (v := w32 ((w32 ((s 5 1) * 4)) + 1)) rfl rfl ?_
    refine tL ((5 : Nat) : Int) 0 rfl rfl rfl ?_
    refine tL ((t : Nat) : Int) 0 rfl rfl rfl ?_
    exact tCall [(((5 : Nat) : Int), 0), (((t : Nat) : Int), 0)] [(w32 ((w32 ((s 5 1) * 4)) + 1), 0), (((6 : Nat) : Int), 0)] rfl rfl rfl (fun m l => h0 g1 m (Nat.lt_of_lt_of_le l (Nat.le_refl n)))
  · refine tL x2 0 rfl rfl rfl ?_
    refine tK rfl ?_
    refine tJ1 rfl (fun g3 _ l3 => zT_le ?_ (Nat.le_of_lt l3)) (fun g3 _ l3 => zT_le ?_ (Nat.le_of_lt l3))
    · refine tL x2 0 rfl rfl rfl ?_
      refine tK rfl ?_
      refine tJ1 rfl (fun g4 _ l4 => zT_le ?_ (Nat.le_of_lt l4)) (fun g4 _ l4 => zT_le ?_ (Nat.le_of_lt l4))
      · refine tL x2 0 rfl rfl rfl ?_
        refine tK rfl ?_
        refine tJ1 rfl (fun g5 _ l5 => zT_le ?_ (Nat.le_of_lt l5)) (fun g5 _ l5 => zT_le ?_ (Nat.le_of_lt l5))
        · refine tL ((5 : Nat) : Int) 0 rfl rfl rfl ?_
          refine tFR (c := 5) 1 rfl rfl rfl rfl rfl ?_
          refine tK rfl ?_
          exact tCall [(((1 : Nat) : Int), 0), (59, 0)] [] rfl rfl rfl (fun m l => h1 g1 g3 g4 g5 m (Nat.lt_of_lt_of_le l (Nat.le_refl n)))
        · refine tL ((5 : Nat) : Int) 0 rfl rfl rfl ?_
          refine tFR (c := 5) 6 rfl rfl rfl rfl rfl ?_
          refine tL (w32 ((s 5 1) * 4)) 0 rfl rfl rfl ?_
          refine tK rfl ?_
          refine tB (v := w32 ((w32 ((s 5 1) * 4)) + 1)) rfl rfl ?_
          refine tL ((5 : Nat) : Int) 0 rfl rfl rfl ?_
          refine tFR (c := 5) 1 rfl rfl rfl rfl rfl ?_
          refine tL ((t : Nat) : Int) 0 rfl rfl rfl ?_
          refine tK rfl ?_
          exact tCall [(((1 : Nat) : Int), 0), (((t : Nat) : Int), 0), (3, 0)] [(w32 ((w32 ((s 5 1) * 4)) + 1), 0), (((6 : Nat) : Int), 0)] rfl rfl rfl (fun m l => h2 g1 g3 g4 g5 m (Nat.lt_of_lt_of_le l (Nat.le_refl n)))
      · refine tL ((5 : Nat) : Int) 0 rfl rfl rfl ?_
        refine tFR (c := 5) 6 rfl rfl rfl rfl rfl ?_
        refine tL (w32 ((s 5 1) * 4)) 0 rfl rfl rfl ?_
        refine tK rfl ?_
        refine tB (v := w32 ((w32 ((s 5 1) * 4)) + 1)) rfl rfl ?_
        refine tL ((5 : Nat) : Int) 0 rfl rfl rfl ?_
        refine tFR (c := 5) 1 rfl rfl rfl rfl rfl ?_
        refine tL ((t : Nat) : Int) 0 rfl rfl rfl ?_
        refine tK rfl ?_
        exact tCall [(((1 : Nat) : Int), 0), (((t : Nat) : Int), 0), (3, 0)] [(w32 ((w32 ((s 5 1) * 4)) + 1), 0), (((6 : Nat) : Int), 0)] rfl rfl rfl (fun m l => h3 g1 g3 g4 m (Nat.lt_of_lt_of_le l (Nat.le_refl n)))
    · refine tL ((5 : Nat) : Int) 0 rfl rfl rfl ?_
      refine tFR (c := 5) 6 rfl rfl rfl rfl rfl ?_
      refine tL (w32 ((s 5 1) * 4)) 0 rfl rfl rfl ?_
      refine tK rfl ?_
      refine tB (v := w32 ((w32 ((s 5 1) * 4)) + 1)) rfl rfl ?_
      refine tL ((5 : Nat) : Int) 0 rfl rfl rfl ?_
      refine tL ((t : Nat) : Int) 0 rfl rfl rfl ?_
      exact tCall [(((5 : Nat) : Int), 0), (((t : Nat) : Int), 0)] [(w32 ((w32 ((s 5 1) * 4)) + 1), 0), (((6 : Nat) : Int), 0)] rfl rfl rfl (fun m l => h4 g1 g3 m (Nat.lt_of_lt_of_le l (Nat.le_refl n)))

theorem b_X2_readLine_46 {n : Nat} {Q : Zr → Prop} {t : Nat} (x2 x3 : Int) (s : Zs) (ht : t = 7 ∨ t = 43)
    (h0 : Q ([], s)) : zT (zE 257) (Pt PX2_readLine) n (46, [((5 : Nat) : Int), ((t : Nat) : Int), x2, x3], [], s) Q := by
  exact tR rfl (h0)

theorem b_X2_readLine_92 {n : Nat} {Q : Zr → Prop} {t : Nat} (x2 x3 v0 y0 : Int) (s : Zs) (ht : t = 7 ∨ t = 43)
    (h0 : ∀ m, m < n → zC m 914 [(((1 : Nat) : Int), 0), (59, 0)] (zu s 6 y0.toNat v0) (fun p => zT (zE 257) (Pt PX2_readLine) m (203, [((5 : Nat) : Int), ((t : Nat) : Int), x2, x3], p.1 ++ [], p.2) Q)) : zT (zE 257) (Pt PX2_readLine) n (92, [((5 : Nat) : Int), ((t : Nat) : Int), x2, x3], [(v0, 0), (y0, 0), (((6 : Nat) : Int), 0)], s) Q := by
  refine tAS 6 y0.toNat rfl rfl rfl (by decide) ?_
  refine tG rfl ?_
  refine tL ((5 : Nat) : Int) 0 rfl rfl rfl ?_
  refine tFR (c := 5) 1 rfl rfl rfl rfl rfl ?_
  refine tK rfl ?_
  exact tCall [(((1 : Nat) : Int), 0), (59, 0)] [] rfl rfl rfl (fun m l => h0 m (Nat.lt_of_lt_of_le l (Nat.le_refl n)))

theorem b_X2_readLine_203 {n : Nat} {Q : Zr → Prop} {t : Nat} (x2 x3 : Int) (s : Zs) (ht : t = 7 ∨ t = 43)
    (h0 : Q ([], zu s 5 1 (w32 ((s 5 1) + 1)))) : zT (zE 257) (Pt PX2_readLine) n (203, [((5 : Nat) : Int), ((t : Nat) : Int), x2, x3], [], s) Q := by
  refine tL ((5 : Nat) : Int) 0 rfl rfl rfl ?_
  refine tD rfl ?_
  refine tFv (c := 5) (s 5 1) 0 rfl rfl rfl rfl rfl ?_
  refine tK rfl ?_
  refine tB (v := w32 ((s 5 1) + 1)) rfl rfl ?_
  refine tPut 5 rfl rfl ?_
  exact tR rfl (h0)

theorem b_X2_readLine_160 {n : Nat} {Q : Zr → Prop} {t : Nat} (x2 x3 v0 y0 : Int) (s : Zs) (ht : t = 7 ∨ t = 43)
    (h0 : ∀ m, m < n → zC m 915 [(((1 : Nat) : Int), 0), (((t : Nat) : Int), 0), (2, 0)] (zu s 6 y0.toNat v0) (fun p => zT (zE 257) (Pt PX2_readLine) m (177, [((5 : Nat) : Int), ((t : Nat) : Int), x2, x3], p.1 ++ [(w32 (x3 + 2), 0), (((6 : Nat) : Int), 0)], p.2) Q)) : zT (zE 257) (Pt PX2_readLine) n (160, [((5 : Nat) : Int), ((t : Nat) : Int), x2, x3], [(v0, 0), (y0, 0), (((6 : Nat) : Int), 0)], s) Q := by
  refine tAS 6 y0.toNat rfl rfl rfl (by decide) ?_
  refine tL ((5 : Nat) : Int) 0 rfl rfl rfl ?_
  refine tFR (c := 5) 6 rfl rfl rfl rfl rfl ?_
  refine tL x3 0 rfl rfl rfl ?_
  refine tK rfl ?_
  refine tB (v := w32 (x3 + 2)) rfl rfl ?_
  refine tL ((5 : Nat) : Int) 0 rfl rfl rfl ?_
  refine tFR (c := 5) 1 rfl rfl rfl rfl rfl ?_
  refine tL ((t : Nat) : Int) 0 rfl rfl rfl ?_
  refine tK rfl ?_
  exact tCall [(((1 : Nat) : Int), 0), (((t : Nat) : Int), 0), (2, 0)] [(w32 (x3 + 2), 0), (((6 : Nat) : Int), 0)] rfl rfl rfl (fun m l => h0 m (Nat.lt_of_lt_of_le l (Nat.le_refl n)))

theorem b_X2_readLine_118 {n : Nat} {Q : Zr → Prop} {t : Nat} (x2 x3 v0 y0 : Int) (s : Zs) (ht : t = 7 ∨ t = 43)
    (h0 : ∀ m, m < n → zC m 913 [(((1 : Nat) : Int), 0), (((t : Nat) : Int), 0)] (zu s 6 y0.toNat v0) (fun p => zT (zE 257) (Pt PX2_readLine) m (134, [((5 : Nat) : Int), ((t : Nat) : Int), x2, x3], p.1 ++ [(w32 (x3 + 2), 0), (((6 : Nat) : Int), 0)], p.2) Q)) : zT (zE 257) (Pt PX2_readLine) n (118, [((5 : Nat) : Int), ((t : Nat) : Int), x2, x3], [(v0, 0), (y0, 0), (((6 : Nat) : Int), 0)], s) Q := by
  refine tAS 6 y0.toNat rfl rfl rfl (by decide) ?_
  refine tL ((5 : Nat) : Int) 0 rfl rfl rfl ?_
  refine tFR (c := 5) 6 rfl rfl rfl rfl rfl ?_
  refine tL x3 0 rfl rfl rfl ?_
  refine tK rfl ?_
  refine tB (v := w32 (x3 + 2)) rfl rfl ?_
  refine tL ((5 : Nat) : Int) 0 rfl rfl rfl ?_
  refine tFR (c := 5) 1 rfl rfl rfl rfl rfl ?_
  refine tL ((t : Nat) : Int) 0 rfl rfl rfl ?_
  exact tCall [(((1 : Nat) : Int), 0), (((t : Nat) : Int), 0)] [(w32 (x3 + 2), 0), (((6 : Nat) : Int), 0)] rfl rfl rfl (fun m l => h0 m (Nat.lt_of_lt_of_le l (Nat.le_refl n)))

theorem b_X2_readLine_177 {n : Nat} {Q : Zr → Prop} {t : Nat} (x2 x3 v0 y0 : Int) (s : Zs) (ht : t = 7 ∨ t = 43)
    (h0 : ∀ m, m < n → zC m 913 [(((1 : Nat) : Int), 0), (((t : Nat) : Int), 0)] (zu s 6 y0.toNat v0) (fun p => zT (zE 257) (Pt PX2_readLine) m (193, [((5 : Nat) : Int), ((t : Nat) : Int), x2, x3], p.1 ++ [(w32 (x3 + 3), 0), (((6 : Nat) : Int), 0)], p.2) Q)) : zT (zE 257) (Pt PX2_readLine) n (177, [((5 : Nat) : Int), ((t : Nat) : Int), x2, x3], [(v0, 0), (y0, 0), (((6 : Nat) : Int), 0)], s) Q := by
  refine tAS 6 y0.toNat rfl rfl rfl (by decide) ?_
  refine tL ((5 : Nat) : Int) 0 rfl rfl rfl ?_
  refine tFR (c := 5) 6 rfl rfl rfl rfl rfl ?_
  refine tL x3 0 rfl rfl rfl ?_
  refine tK rfl ?_
  refine tB (v := w32 (x3 + 3)) rfl rfl ?_
  refine tL ((5 : Nat) : Int) 0 rfl rfl rfl ?_
  refine tFR (c := 5) 1 rfl rfl rfl rfl rfl ?_
  refine tL ((t : Nat) : Int) 0 rfl rfl rfl ?_
  exact tCall [(((1 : Nat) : Int), 0), (((t : Nat) : Int), 0)] [(w32 (x3 + 3), 0), (((6 : Nat) : Int), 0)] rfl rfl rfl (fun m l => h0 m (Nat.lt_of_lt_of_le l (Nat.le_refl n)))

theorem b_X2_readLine_134 {n : Nat} {Q : Zr → Prop} {t : Nat} (x2 x3 v0 y0 : Int) (s : Zs) (ht : t = 7 ∨ t = 43)
    (h0 : ∀ m, m < n → zC m 914 [(((1 : Nat) : Int), 0), (59, 0)] (zu s 6 y0.toNat v0) (fun p => zT (zE 257) (Pt PX2_readLine) m (203, [((5 : Nat) : Int), ((t : Nat) : Int), x2, x3], p.1 ++ [], p.2) Q)) : zT (zE 257) (Pt PX2_readLine) n (134, [((5 : Nat) : Int), ((t : Nat) : Int), x2, x3], [(v0, 0), (y0, 0), (((6 : Nat) : Int), 0)], s) Q := by
  refine tAS 6 y0.toNat rfl rfl rfl (by decide) ?_
  refine tG rfl ?_
  refine tL ((5 : Nat) : Int) 0 rfl rfl rfl ?_
  refine tFR (c := 5) 1 rfl rfl rfl rfl rfl ?_
  refine tK rfl ?_
  exact tCall [(((1 : Nat) : Int), 0), (59, 0)] [] rfl rfl rfl (fun m l => h0 m (Nat.lt_of_lt_of_le l (Nat.le_refl n)))

theorem b_X2_readLine_193 {n : Nat} {Q : Zr → Prop} {t : Nat} (x2 x3 v0 y0 : Int) (s : Zs) (ht : t = 7 ∨ t = 43)
    (h0 : ∀ m, m < n → zC m 914 [(((1 : Nat) : Int), 0), (59, 0)] (zu s 6 y0.toNat v0) (fun p => zT (zE 257) (Pt PX2_readLine) m (203, [((5 : Nat) : Int), ((t : Nat) : Int), x2, x3], p.1 ++ [], p.2) Q)) : zT (zE 257) (Pt PX2_readLine) n (193, [((5 : Nat) : Int), ((t : Nat) : Int), x2, x3], [(v0, 0), (y0, 0), (((6 : Nat) : Int), 0)], s) Q := by
  refine tAS 6 y0.toNat rfl rfl rfl (by decide) ?_
  refine tL ((5 : Nat) : Int) 0 rfl rfl rfl ?_
  refine tFR (c := 5) 1 rfl rfl rfl rfl rfl ?_
  refine tK rfl ?_
  exact tCall [(((1 : Nat) : Int), 0), (59, 0)] [] rfl rfl rfl (fun m l => h0 m (Nat.lt_of_lt_of_le l (Nat.le_refl n)))

theorem c_X2_readLine {n : Nat} {Q : Zr → Prop} {a0 a1 : Int} {s : Zs} (h : zT (zE 257) (Pt PX2_readLine) n (0, [a0, a1, 0, 0], [], s) Q) : zC n 257 [(a0, 0), (a1, 0)] s Q := h

theorem b_X2_read_0 {n : Nat} {Q : Zr → Prop} {t : Nat} (x2 : Int) (s : Zs) (ht : t = 7 ∨ t = 43)
    (h0 : ∀ m, m < n → zC m 896 [(((1 : Nat) : Int), 0)] (zu s 5 1 0) (fun p => zT (zE 256) (Pt PX2_read) m (12, [((5 : Nat) : Int), ((t : Nat) : Int), x2], p.1 ++ [], p.2) Q)) : zT (zE 256) (Pt PX2_read) n (0, [((5 : Nat) : Int), ((t : Nat) : Int), x2], [], s) Q := by
  refine tL ((5 : Nat) : Int) 0 rfl rfl rfl ?_
  refine tK rfl ?_
  refine tPut 5 rfl rfl ?_
  refine tL ((5 : Nat) : Int) 0 rfl rfl rfl ?_
  refine tFR (c := 5) 1 rfl rfl rfl rfl rfl ?_
  exact tCall [(((1 : Nat) : Int), 0)] [] rfl rfl rfl (fun m l => h0 m (Nat.lt_of_lt_of_le l (Nat.le_refl n)))

theorem b_X2_read_14 {n : Nat} {Q : Zr → Prop} {t : Nat} (x2 : Int) (s : Zs) (ht : t = 7 ∨ t = 43)
    (h0 : ∀ (g1 : 1000 ≤ x2), Q ([(s 1 1, 0)], s))
    (h1 : ∀ (g1 : x2 < 1000), ∀ (g3 : s 1 1 ≠ 0), Q ([(s 1 1, 0)], s))
    (h2 : ∀ (g1 : x2 < 1000), ∀ (g4 : s 1 1 = 0), ∀ (g5 : s 1 4 = 1), Q ([(s 1 1, 0)], s))
    (h3 : ∀ (g1 : x2 < 1000), ∀ (g6 : s 1 1 = 0), ∀ (g7 : s 1 4 ≠ 1), ∀ m, m < n → zC m 257 [(((5 : Nat) : Int), 0), (((t : Nat) : Int), 0)] s (fun p => zT (zE 256) (Pt PX2_read) m (36, [((5 : Nat) : Int), ((t : Nat) : Int), x2], p.1 ++ [], p.2) Q)) : zT (zE 256) (Pt PX2_read) n (14, [((5 : Nat) : Int), ((t : Nat) : Int), x2], [], s) Q := by
  refine tL x2 0 rfl rfl rfl ?_
  refine tK rfl ?_
  refine tJ3 rfl (fun g1 _ l1 => zT_le ?_ (Nat.le_of_lt l1)) (fun g1 _ l1 => zT_le ?_ (Nat.le_of_lt l1))
  · refine tL ((5 : Nat) : Int) 0 rfl rfl rfl ?_
    refine tFR (c := 5) 1 rfl rfl rfl rfl rfl ?_
    refine tFv (c := 1) (s 1 1) 0 rfl rfl rfl rfl rfl ?_
    exact tR rfl (h0 g1)
  · refine tL ((5 : Nat) : Int) 0 rfl rfl rfl ?_
    refine tFR (c := 5) 1 rfl rfl rfl rfl rfl ?_
    refine tCall [(((1 : Nat) : Int), 0)] [] rfl rfl rfl (fun m2 l2 => c_X7_hasMore (b_X7_hasMore_0  s ?_ ?_ ?_))
    · intro g3
      show zT (zE 256) (Pt PX2_read) m2 (28, [((5 : Nat) : Int), ((t : Nat) : Int), x2], [(0, 0)], s) Q
      refine tI0 rfl (fun g _ l => zT_le ?_ (Nat.le_of_lt l)) (fun g _ l => (absurd g (by decide)))
      refine tL ((5 : Nat) : Int) 0 rfl rfl rfl ?_
      refine tFR (c := 5) 1 rfl rfl rfl rfl rfl ?_
      refine tFv (c := 1) (s 1 1) 0 rfl rfl rfl rfl rfl ?_
      exact tR rfl (h1 g1 g3)
    · intro g4 g5
      show zT (zE 256) (Pt PX2_read) m2 (28, [((5 : Nat) : Int), ((t : Nat) : Int), x2], [(0, 0)], s) Q
      refine tI0 rfl (fun g _ l => zT_le ?_ (Nat.le_of_lt l)) (fun g _ l => (absurd g (by decide)))
      refine tL ((5 : Nat) : Int) 0 rfl rfl rfl ?_
      refine tFR (c := 5) 1 rfl rfl rfl rfl rfl ?_
      refine tFv (c := 1) (s 1 1) 0 rfl rfl rfl rfl rfl ?_
      exact tR rfl (h2 g1 g4 g5)
    · intro g6 g7
      show zT (zE 256) (Pt PX2_read) m2 (28, [((5 : Nat) : Int), ((t : Nat) : Int), x2], [(1, 0)], s) Q
      refine tI0 rfl (fun g _ l => (absurd g (by decide))) (fun g _ l => zT_le ?_ (Nat.le_of_lt l))
      refine tL ((5 : Nat) : Int) 0 rfl rfl rfl ?_
      refine tL ((t : Nat) : Int) 0 rfl rfl rfl ?_
      exact tCall [(((5 : Nat) : Int), 0), (((t : Nat) : Int), 0)] [] rfl rfl rfl (fun m l => h3 g1 g6 g7 m (Nat.lt_of_lt_of_le l (Nat.le_trans (Nat.le_of_lt l2) (Nat.le_refl n))))

theorem b_X2_read_12 {n : Nat} {Q : Zr → Prop} {t : Nat} (x2 : Int) (s : Zs) (ht : t = 7 ∨ t = 43)
    (h0 : zT (zE 256) (Pt PX2_read) n (14, [((5 : Nat) : Int), ((t : Nat) : Int), 0], [], s) Q) : zT (zE 256) (Pt PX2_read) n (12, [((5 : Nat) : Int), ((t : Nat) : Int), x2], [], s) Q := by
  refine tK rfl ?_
  refine tS [((5 : Nat) : Int), ((t : Nat) : Int), 0] rfl rfl ?_
  exact zT_le (h0) (Nat.le_refl n)

theorem b_X2_read_36 {n : Nat} {Q : Zr → Prop} {t : Nat} (x2 : Int) (s : Zs) (ht : t = 7 ∨ t = 43)
    (h0 : ∀ m, m < n → zT (zE 256) (Pt PX2_read) m (14, [((5 : Nat) : Int), ((t : Nat) : Int), w32 (x2 + 1)], [], s) Q) : zT (zE 256) (Pt PX2_read) n (36, [((5 : Nat) : Int), ((t : Nat) : Int), x2], [], s) Q := by
  refine tInc [((5 : Nat) : Int), ((t : Nat) : Int), w32 (x2 + 1)] rfl rfl ?_
  exact tGb rfl (fun m2 l2 => h0 m2 (Nat.lt_of_lt_of_le l2 (Nat.le_refl n)))

theorem c_X2_read {n : Nat} {Q : Zr → Prop} {a0 a1 : Int} {s : Zs} (h : zT (zE 256) (Pt PX2_read) n (0, [a0, a1, 0], [], s) Q) : zC n 256 [(a0, 0), (a1, 0)] s Q := h

theorem b_X5_tell_0 {n : Nat} {Q : Zr → Prop} (x2 : Int) (s : Zs) 
    (h0 : Q ([], zu (zcpy s 6 86 160) 85 1 x2)) : zT (zE 644) (Pt PX5_tell) n (0, [((85 : Nat) : Int), ((6 : Nat) : Int), x2], [], s) Q := by
  refine tL ((6 : Nat) : Int) 0 rfl rfl rfl ?_
  refine tK rfl ?_
  refine tL ((85 : Nat) : Int) 0 rfl rfl rfl ?_
  refine tFR (c := 85) 86 rfl rfl rfl rfl rfl ?_
  refine tK rfl ?_
  refine tL ((85 : Nat) : Int) 0 rfl rfl rfl ?_
  refine tFR (c := 85) 86 rfl rfl rfl rfl rfl ?_
  refine tN 160 rfl rfl ?_
  refine tE5 86 6 160 rfl rfl rfl rfl rfl ?_
  refine tL ((85 : Nat) : Int) 0 rfl rfl rfl ?_
  refine tL x2 0 rfl rfl rfl ?_
  refine tPut 85 rfl rfl ?_
  exact tR rfl (h0)

theorem c_X5_tell {n : Nat} {Q : Zr → Prop} {a0 a1 a2 : Int} {s : Zs} (h : zT (zE 644) (Pt PX5_tell) n (0, [a0, a1, a2], [], s) Q) : zC n 644 [(a0, 0), (a1, 0), (a2, 0)] s Q := h

theorem b_X10_nights_0 {n : Nat} {Q : Zr → Prop} {t : Nat} (x1 : Int) (s : Zs) (ht : t = 7 ∨ t = 43)
    (h0 : ∀ m, m < n → zC m 256 [(((5 : Nat) : Int), 0), (s 0 3, 0)] s (fun p => zT (zE 1304) (Pt PX10_nights) m (11, [((0 : Nat) : Int), x1], p.1 ++ [], p.2) Q)) : zT (zE 1304) (Pt PX10_nights) n (0, [((0 : Nat) : Int), x1], [], s) Q := by
  refine tL ((0 : Nat) : Int) 0 rfl rfl rfl ?_
  refine tFR (c := 0) 5 rfl rfl rfl rfl rfl ?_
  refine tL ((0 : Nat) : Int) 0 rfl rfl rfl ?_
  refine tFv (c := 0) (s 0 3) 0 rfl rfl rfl rfl rfl ?_
  exact tCall [(((5 : Nat) : Int), 0), (s 0 3, 0)] [] rfl rfl rfl (fun m l => h0 m (Nat.lt_of_lt_of_le l (Nat.le_refl n)))

theorem b_X10_nights_11 {n : Nat} {Q : Zr → Prop} {t : Nat} (x1 v0 : Int) (s : Zs) (ht : t = 7 ∨ t = 43)
    (h0 : ∀ (g1 : v0 ≠ 0), Q ([(v0, 0)], zu s 1 0 0))
    (h1 : ∀ (g1 : v0 = 0), ∀ m, m < n → zC m 644 [(((85 : Nat) : Int), 0), (((6 : Nat) : Int), 0), (s 5 1, 0)] (zu s 1 0 0) (fun p => zT (zE 1304) (Pt PX10_nights) m (45, [((0 : Nat) : Int), v0], p.1 ++ [], p.2) Q)) : zT (zE 1304) (Pt PX10_nights) n (11, [((0 : Nat) : Int), x1], [(v0, 0)], s) Q := by
  refine tS [((0 : Nat) : Int), v0] rfl rfl ?_
  refine tL ((0 : Nat) : Int) 0 rfl rfl rfl ?_
  refine tFR (c := 0) 1 rfl rfl rfl rfl rfl ?_
  refine tK rfl ?_
  refine tPut 1 rfl rfl ?_
  refine tL v0 0 rfl rfl rfl ?_
  refine tI1 rfl (fun g1 _ l1 => zT_le ?_ (Nat.le_of_lt l1)) (fun g1 _ l1 => zT_le ?_ (Nat.le_of_lt l1))
  · refine tL v0 0 rfl rfl rfl ?_
    exact tR rfl (h0 g1)
  · refine tL ((0 : Nat) : Int) 0 rfl rfl rfl ?_
    refine tFR (c := 0) 85 rfl rfl rfl rfl rfl ?_
    refine tL ((0 : Nat) : Int) 0 rfl rfl rfl ?_
    refine tFR (c := 0) 5 rfl rfl rfl rfl rfl ?_
    refine tFR (c := 5) 6 rfl rfl rfl rfl rfl ?_
    refine tL ((0 : Nat) : Int) 0 rfl rfl rfl ?_
    refine tFR (c := 0) 5 rfl rfl rfl rfl rfl ?_
    refine tFv (c := 5) (s 5 1) 0 rfl rfl rfl rfl rfl ?_
    exact tCall [(((85 : Nat) : Int), 0), (((6 : Nat) : Int), 0), (s 5 1, 0)] [] rfl rfl rfl (fun m l => h1 g1 m (Nat.lt_of_lt_of_le l (Nat.le_refl n)))

theorem b_X10_nights_45 {n : Nat} {Q : Zr → Prop} {t : Nat} (x1 : Int) (s : Zs) (ht : t = 7 ∨ t = 43)
    (h0 : Q ([(x1, 0)], s)) : zT (zE 1304) (Pt PX10_nights) n (45, [((0 : Nat) : Int), x1], [], s) Q := by
  refine tL x1 0 rfl rfl rfl ?_
  exact tR rfl (h0)

theorem c_X10_nights {n : Nat} {Q : Zr → Prop} {a0 : Int} {s : Zs} (h : zT (zE 1304) (Pt PX10_nights) n (0, [a0, 0], [], s) Q) : zC n 1304 [(a0, 0)] s Q := h

section Zcn
variable {N t : Nat} {s : Zs} {T : Nat → Int} {n : Nat} {x : PS} {D : ZD} {Q : Zr → Prop}
theorem cP_o {s' : Zs} (ht : t = 7 ∨ t = 43) (h : cP s t T n x D) (e : ∀ c j, c ≠ 5 → c ≠ 6 → s' c j = s c j) : cP s' t T n x D := by
  obtain ⟨⟨p1, ⟨k1, k2, k3, k4⟩, p3, p4, p5⟩, ⟨d1, d2, d3, d4, d5⟩, w, hh, z⟩ := h
  refine ⟨⟨by rw [e _ _ (by omega) (by omega)]; exact p1, ⟨by rw [e _ _ (by omega) (by omega)]; exact k1, k2, fun i hi => by rw [e _ _ (by omega) (by omega)]; exact k3 i hi, fun i hi => by rw [e _ _ (by omega) (by omega)]; exact k4 i hi⟩, p3, p4, fun q => ?_⟩, ⟨fun k hk => by rw [e _ _ (by omega) (by omega)]; exact d1 k hk, fun q hq => by rw [e _ _ (by omega) (by omega)]; exact d2 q hq, fun i v hv => by rw [e _ _ (by omega) (by omega)]; exact d3 i v hv, fun k j i v h1 h2 h3 h4 => ?_, fun q hq => by rw [e _ _ (by omega) (by omega)]; exact d5 q hq⟩, w, fun q => ?_, fun j => by rw [e _ _ (by omega) (by omega)]; exact z j⟩
  · obtain ⟨a1, a2, a3, a4, a5⟩ := p5 q
    refine ⟨by rw [e _ _ (by omega) (by omega)]; exact a1, by rw [e _ _ (by omega) (by omega)]; exact a2, by rw [e _ _ (by omega) (by omega)]; exact a3, fun b => ?_, fun b => ?_⟩
    · rw [e _ _ (by omega) (by omega), e _ _ (by omega) (by omega)]; exact a4 b
    · rw [e _ _ (by omega) (by omega)]; exact a5 b
  · rw [e _ _ (by omega) (by omega)]; exact d4 k j i v h1 h2 h3 h4
  · obtain ⟨b1, b2, b3, b4⟩ := hh q
    unfold cDh
    rw [e _ _ (by omega) (by omega), e _ _ (by omega) (by omega), e _ _ (by omega) (by omega)]
    exact ⟨b1, b2, b3, b4⟩
theorem vTo_bd (ws : List (List Int)) (y : PS) : -1 ≤ vTo T n ws y ∧ vTo T n ws y < ws.length := by
  unfold vTo
  split
  · exact ixW_bd _
  · omega
/-- a flight of NIGHTS -/
theorem cTf (ht : t = 7 ∨ t = 43) (h : cP s t T n x D) (k : ∀ s' v, frT t s s' → cP s' t T n (gFl T n D x) D → ((gFl T n D x).1 = 0 → v = vFl T n D x) → Q ([(v, 0)], s')) : zC N 258 [(((5 : Nat) : Int), 0), (((t : Nat) : Int), 0)] s Q := by
  refine c_X2_takeFlight (b_X2_takeFlight_0 0 0 s ht (fun m _ => cTo (k' := 0) ht (by omega) (by omega) h (fun s1 f1 h1 => ?_)))
  refine b_X2_takeFlight_9 0 0 _ s1 ht (fun m _ => cNh ht h1 (fun s2 f2 h2 => ?_))
  have F : frT t s s2 := frT_tr f1 f2
  have hb := vTo_bd (T := T) (n := n) (dN D 0) x
  have hc5 : cnt D 0 ≤ 5 := h.2.2.1.1 0 (by omega)
  have hc : cnt D 0 = (dN D 0).length := rfl
  have ef : vFl T n D x = fxI D (vTo T n (dN D 0) x) (vE T n (gTo T n (dN D 0) x)) := rfl
  have eg : gFl T n D x = if vFl T n D x = -1 then gF T n 4 (gNh T n (gTo T n (dN D 0) x)) else gNx T n (gNh T n (gTo T n (dN D 0) x)) := rfl
  -- number: -1 iff it is none
  have hv : (gNh T n (gTo T n (dN D 0) x)).1 = 0 → (if (gNh T n (gTo T n (dN D 0) x)).1 = 0 then eM T n (kB T n (gTo T n (dN D 0) x).2) else -1) = vE T n (gTo T n (dN D 0) x) := fun q => if_pos q
  have hv2 : (gNh T n (gTo T n (dN D 0) x)).1 ≠ 0 → (if (gNh T n (gTo T n (dN D 0) x)).1 = 0 then eM T n (kB T n (gTo T n (dN D 0) x).2) else -1) = -1 := fun q => if_neg q
  generalize (if (gNh T n (gTo T n (dN D 0) x)).1 = 0 then eM T n (kB T n (gTo T n (dN D 0) x).2) else -1) = v0 at hv hv2 ⊢
  generalize vTo T n (dN D 0) x = y0 at *
  have bad : vFl T n D x = -1 ∨ (gNh T n (gTo T n (dN D 0) x)).1 ≠ 0 → ∀ (m : Nat) (v : Int), zC m 899 [(((1 : Nat) : Int), 0), (4, 0)] s2 (fun p => zT (zE 258) (Pt PX2_takeFlight) m (36, [((5 : Nat) : Int), ((t : Nat) : Int), y0, v], p.1 ++ [], p.2) Q) := fun q m v => by
    refine cFa ht (by omega) h2 (fun s3 f3 h3 => ?_)
    have e : gF T n 4 (gNh T n (gTo T n (dN D 0) x)) = gFl T n D x := by
      rw [eg]
      by_cases q2 : vFl T n D x = -1
      · rw [if_pos q2]
      · rw [if_neg q2, gF_nz (q.resolve_left q2), gNx_nz (q.resolve_left q2)]
    rw [e] at h3
    refine b_X2_takeFlight_36 _ _ s3 ht (k s3 v (frT_tr F f3) h3 (fun q3 => ?_))
    rw [← e] at q3
    by_cases q4 : (gNh T n (gTo T n (dN D 0) x)).1 = 0
    · exact absurd q3 (gF_ne (by omega) q4)
    · rw [gF_nz q4] at q3; exact absurd q3 q4
  have bad2 : v0 < 0 → vFl T n D x = -1 ∨ (gNh T n (gTo T n (dN D 0) x)).1 ≠ 0 := fun g => by
    by_cases q : (gNh T n (gTo T n (dN D 0) x)).1 = 0
    · have := hv q
      have e0 : 0 ≤ vE T n (gTo T n (dN D 0) x) := eM_pos (kB_bd h1.1.2.2.1)
      omega
    · exact Or.inr q
  have up : ∀ f : Int, 0 ≤ f → f < 6 → 0 ≤ y0 → w32 (w32 (y0 * 6) + f) = y0 * 6 + f ∧ s2 (t + 34) (y0 * 6 + f).toNat = fxI D y0 f := fun f f0 f6 g => by
    have e : w32 (w32 (y0 * 6) + f) = y0 * 6 + f := by rw [w32_id (z := y0 * 6) (by omega) (by omega), w32_id (by omega) (by omega)]
    refine ⟨e, ?_⟩
    obtain ⟨y, hy⟩ := Int.eq_ofNat_of_zero_le g
    obtain ⟨g', hg⟩ := Int.eq_ofNat_of_zero_le f0
    subst hy
    subst hg
    have e2 : (((y : Nat) : Int) * 6 + ((g' : Nat) : Int)).toNat = y * 6 + g' := by omega
    rw [e2, h2.2.1.2.2.2.2 (y * 6 + g') (by omega), show (y * 6 + g') / 6 = y from by omega, show (y * 6 + g') % 6 = g' from by omega]
  refine b_X2_takeFlight_19 _ _ _ _ s2 ht (fun g m _ => bad (Or.inl ?_) m _) (fun g g2 m _ => bad (bad2 g2) m _) (fun g g2 g3 m _ => bad ?_ m _) (fun g g2 g3 g4 m _ => ?_) (fun g g2 g3 g4 g5 m _ => ?_) (fun g g2 g3 g4 g5 m _ => bad ?_ m _)
  · rw [ef]; exact fx_neg h.2.2.1 g
  · by_cases q : (gNh T n (gTo T n (dN D 0) x)).1 = 0
    · exact Or.inl (by rw [ef]; exact fx_hi h.2.2.1 (by rw [← hv q]; omega))
    · exact Or.inr q
  · have := (up v0 g2 g3 g).1
    omega
  · obtain ⟨u1, u2⟩ := up v0 g2 g3 g
    rw [u1, u2] at g5 ⊢
    have q : (gNh T n (gTo T n (dN D 0) x)).1 = 0 := Decidable.byContradiction (fun c => by have := hv2 c; omega)
    refine cNx ht q h2 (fun s3 f3 h3 => ?_)
    have e1 : vFl T n D x = fxI D y0 v0 := by rw [ef, hv q]
    have e : gNx T n (gNh T n (gTo T n (dN D 0) x)) = gFl T n D x := by rw [eg, if_neg (by rw [e1]; exact g5)]
    rw [e] at h3
    exact b_X2_takeFlight_46 _ _ s3 ht (k s3 _ (frT_tr F f3) h3 (fun _ => e1.symm))
  · obtain ⟨u1, u2⟩ := up v0 g2 g3 g
    rw [u1, u2] at g5
    by_cases q : (gNh T n (gTo T n (dN D 0) x)).1 = 0
    · exact Or.inl (by rw [ef, ← hv q]; exact g5)
    · exact Or.inr q
/-- rows of NIGHTS, as the class has them -/
def rowC (s : Zs) (c i : Nat) (r : Int × Int × Int × Int) : Prop := s c (4 * i) = 17 + r.1 ∧ 0 ≤ r.1 ∧ r.1 ≤ 4 ∧ (r.1 ≤ 3 → s c (4 * i + 1) = r.2.1) ∧ (r.1 = 2 → s c (4 * i + 2) = r.2.2.1) ∧ (r.1 = 3 → s c (4 * i + 2) = r.2.2.2 ∧ s c (4 * i + 3) = r.2.2.1)
def linC (s : Zs) (c : Nat) (L : NL) : Prop := L.length ≤ 40 ∧ ∀ (i : Nat) r, L[i]? = some r → rowC s c i r
def cNi (s : Zs) (t : Nat) (T : Nat → Int) (n : Nat) (x : PS) (D : ZD) (L : NL) : Prop := cP s t T n x D ∧ (x.1 = 0 → s 5 1 = (L.length : Int) ∧ linC s 6 L)
def frL (t : Nat) (s s' : Zs) : Prop := ∀ c j, ¬ (c = 1 ∧ (j = 1 ∨ 4 ≤ j)) → ¬ (t ≤ c ∧ c ≤ t + 35) → c ≠ 5 → c ≠ 6 → s' c j = s c j
theorem rowC_e {s s' : Zs} {c i : Nat} {r : Int × Int × Int × Int} (h : rowC s c i r) (e : ∀ j, j < 4 * i + 4 → s' c j = s c j) : rowC s' c i r := by
  obtain ⟨h1, h2, h3, h4, h5, h6⟩ := h
  exact ⟨by rw [e _ (by omega)]; exact h1, h2, h3, fun q => by rw [e _ (by omega)]; exact h4 q, fun q => by rw [e _ (by omega)]; exact h5 q, fun q => by rw [e _ (by omega), e _ (by omega)]; exact h6 q⟩
theorem linC_app {s s' : Zs} {c : Nat} {L : NL} {r : Int × Int × Int × Int} (h : linC s c L) (hl : L.length < 40) (e : ∀ j, j < 4 * L.length → s' c j = s c j) (hr : rowC s' c L.length r) : linC s' c (L ++ [r]) := by
  refine ⟨by rw [List.length_append]; simp; omega, fun i q hq => ?_⟩
  by_cases hi : i < L.length
  · rw [List.getElem?_append_left hi] at hq
    exact rowC_e (h.2 i q hq) (fun j hj => e j (by omega))
  · by_cases h2 : i = L.length
    · subst h2
      rw [List.getElem?_append_right (Nat.le_refl _), Nat.sub_self] at hq
      cases hq
      exact hr
    · rw [List.getElem?_eq_none (by rw [List.length_append]; simp; omega)] at hq
      cases hq
theorem cLine (ht : t = 7 ∨ t = 43) {L : NL} (h0 : x.1 = 0) (h : cNi s t T n x D L) (k : ∀ s', frL t s s' → cNi s' t T n (pNL T n D x L).1 D (pNL T n D x L).2 → Q ([], s')) : zC N 257 [(((5 : Nat) : Int), 0), (((t : Nat) : Int), 0)] s Q := by
  obtain ⟨hP, hL⟩ := h
  obtain ⟨l1, l2⟩ := hL h0
  have h1 : s 1 1 = 0 := by rw [hP.1.1]; exact h0
  have tk := hP.1.2.2.2.2 h0
  have hk : s 1 4 = 2 → kwL T n x = s 1 8 := fun q => by
    have q : eQ T n (kB T n x.2) = 2 := tk.2.2.1.symm.trans q
    unfold kwL
    rw [if_pos q]
    exact (tk.2.2.2.1 q).2.symm
  have hk2 : s 1 4 ≠ 2 → kwL T n x = -1 := fun q => if_neg (fun q2 => q (tk.2.2.1.trans q2))
  have fF : ∀ {s1 s2 : Zs}, frT t s1 s2 → frL t s1 s2 := fun f c j a b _ _ => f c j a b
  have bad : ∀ k' : Int, 1 ≤ k' ∧ k' ≤ 5 → pNL T n D x L = (gF T n k' x, L) → ∀ (m : Nat) (P : Zr → Prop), (∀ s', frL t s s' → cNi s' t T n (pNL T n D x L).1 D (pNL T n D x L).2 → P ([], s')) → zC m 899 [(((1 : Nat) : Int), 0), (k', 0)] s P := fun k' hk' e m P kk => by
    refine cFa ht hk' hP (fun s' f' h' => kk s' (fF f') ?_)
    rw [e]
    exact ⟨h', fun q => absurd q (gF_ne (by omega) h0)⟩
  refine c_X2_readLine (b_X2_readLine_0 0 0 s ht (fun g => absurd h1 g) (fun g g2 m _ => bad 1 (by omega) (pNL_1 (Or.inl (by rw [hk2 g2]; decide))) m _ (fun s' f' h' => ?_)) (fun g g2 g3 m _ => bad 1 (by omega) (pNL_1 (Or.inl (by rw [hk g2]; exact g3))) m _ (fun s' f' h' => ?_)) (fun g g2 g3 g4 g5 m _ => ?_) (fun g g2 g3 g4 g5 m _ => bad 5 (by omega) (pNL_2 (by rw [hk g2]; exact g3) (by rw [hk g2]; exact g4) (by omega)) m _ (fun s' f' h' => ?_)) (fun g g2 g3 g4 m _ => bad 1 (by omega) (pNL_1 (Or.inr (by rw [hk g2]; exact g4))) m _ (fun s' f' h' => ?_)))
  · exact b_X2_readLine_28 _ _ s' ht (k s' f' h')
  · exact b_X2_readLine_28 _ _ s' ht (k s' f' h')
  · rw [← hk g2] at g3 g4 ⊢
    have e3 := pNL_3 (D := D) (L := L) g3 g4 (by omega)
    refine cNx ht h0 hP (fun s1 f1 h1' => ?_)
    have c51 : s1 5 1 = (L.length : Int) := (f1 5 1 (by omega) (by omega)).trans l1
    have ei : w32 (s1 5 1 * 4) = ((4 * L.length : Nat) : Int) := by rw [c51, w32_id (by omega) (by omega)]; omega
    -- the row begun
    have st : ∀ {s2 : Zs} {y : PS} {v : Int} {j : Nat}, cP s2 t T n y D → cP (zu s2 6 j v) t T n y D := fun hh => cP_o ht hh (fun c j h5 h6 => zu_n (by omega))
    have fu : ∀ {s2 : Zs} {v : Int} {j : Nat}, frL t s s2 → frL t s (zu s2 6 j v) := fun f c j a b c5 c6 => by rw [zu_n (by omega)]; exact f c j a b c5 c6
    have ft : ∀ {s2 s3 : Zs}, frL t s s2 → frT t s2 s3 → frL t s s3 := fun f f' c j a b c5 c6 => (f' c j a b).trans (f c j a b c5 c6)
    -- the end of a line
    have fin : ∀ (m' : Nat) (s4 : Zs) (x2 x3 : Int), frL t s s4 → s4 5 1 = (L.length : Int) → (∀ j, j < 4 * L.length → s4 6 j = s 6 j) → ∀ y r, pNR T n D (kwL T n x) (gNx T n x) = (gS T n 59 y, r) → cP s4 t T n y D → (y.1 = 0 → rowC s4 6 L.length r) → zC m' 914 [(((1 : Nat) : Int), 0), (59, 0)] s4 (fun p => zT (zE 257) (Pt PX2_readLine) m' (203, [((5 : Nat) : Int), ((t : Nat) : Int), x2, x3], p.1 ++ [], p.2) Q) := fun m' s4 x2 x3 f4 a4 b4 y r er h4 hr => by
      refine cS ht h4 (fun s5 f5 h5 => ?_)
      refine b_X2_readLine_203 _ _ s5 ht (k _ (fun c j a b c5 c6 => by rw [zu_n (by omega)]; exact ft f4 f5 c j a b c5 c6) ?_)
      have o5 : ∀ j, s5 6 j = s4 6 j := fun j => f5 6 j (by omega) (by omega)
      have c5 : s5 5 1 = (L.length : Int) := (f5 5 1 (by omega) (by omega)).trans a4
      rw [e3, er]
      dsimp only
      refine ⟨cP_o ht h5 (fun c j h5 h6 => zu_n (by omega)), fun q => ?_⟩
      rw [if_pos q, zu_eq, c5, w32_id (by omega) (by omega)]
      have hlen : (L ++ [r]).length = L.length + 1 := by simp
      refine ⟨by rw [hlen]; omega, linC_app l2 (by omega) (fun j hj => by rw [zu_n (by omega), o5, b4 j hj]) (rowC_e (hr (gS_z q)) (fun j _ => by rw [zu_n (by omega), o5]))⟩
    have n0 : (w32 (s1 5 1 * 4)).toNat = 4 * L.length := by rw [ei]; omega
    have n1 : (w32 (w32 (s1 5 1 * 4) + 1)).toNat = 4 * L.length + 1 := by rw [ei, w32_id (by omega) (by omega)]; omega
    have n2 : (w32 (w32 (s1 5 1 * 4) + 2)).toNat = 4 * L.length + 2 := by rw [ei, w32_id (by omega) (by omega)]; omega
    have n3 : (w32 (w32 (s1 5 1 * 4) + 3)).toNat = 4 * L.length + 3 := by rw [ei, w32_id (by omega) (by omega)]; omega
    have F1 : frL t s s1 := fF f1
    have b1 : ∀ j, s1 6 j = s 6 j := fun j => f1 6 j (by omega) (by omega)
    have fl : kwL T n x ≤ 18 → ∀ m : Nat, zC m 258 [(((5 : Nat) : Int), 0), (((t : Nat) : Int), 0)] (zu s1 6 ((w32 ((s1 5 1) * 4)).toNat) (kwL T n x)) (fun p => zT (zE 257) (Pt PX2_readLine) m (92, [((5 : Nat) : Int), ((t : Nat) : Int), kwL T n x, w32 ((s1 5 1) * 4)], p.1 ++ [(w32 ((w32 ((s1 5 1) * 4)) + 1), 0), (((6 : Nat) : Int), 0)], p.2) Q) := fun k18 m => by
      rw [n0]
      refine cTf ht (st h1') (fun s2 v f2 h2 hv => ?_)
      have o2 : ∀ j, s2 6 j = zu s1 6 (4 * L.length) (kwL T n x) 6 j := fun j => f2 6 j (by omega) (by omega)
      refine b_X2_readLine_92 _ _ v _ s2 ht (fun m2 _ => ?_)
      rw [n1]
      refine fin m2 _ _ _ (fu (ft (fu F1) f2)) ?_ (fun j hj => ?_) _ _ (pNR_a k18) (st h2) (fun q => ⟨?_, ?_, ?_, fun _ => ?_, fun q2 => ?_, fun q2 => ?_⟩)
      · rw [zu_n (by omega), f2 5 1 (by omega) (by omega), zu_n (by omega)]; exact c51
      · rw [zu_n (by omega), o2, zu_n (by omega), b1]
      · rw [zu_n (by omega), o2, zu_eq]; show kwL T n x = 17 + (kwL T n x - 17); omega
      · show 0 ≤ kwL T n x - 17; omega
      · show kwL T n x - 17 ≤ 4; omega
      · rw [zu_eq]; exact hv q
      · have q2 : kwL T n x - 17 = 2 := q2
        omega
      · have q2 : kwL T n x - 17 = 3 := q2
        omega
    refine b_X2_readLine_54 _ _ s1 ht (fun k1 m _ => fl (by omega) m) (fun k1 k2 k3 k4 m _ => ?_) (fun k1 k2 k3 k4 m _ => ?_) (fun k1 k2 k3 m _ => ?_) (fun k1 k2 m _ => fl (by omega) m)
    · rw [n0]
      have k5 : kwL T n x = 21 := by omega
      refine fin m _ _ _ (fu F1) ?_ (fun j hj => ?_) _ _ (by rw [k5]; exact pNR_d) (st h1') (fun q => ⟨?_, by decide, by decide, fun q2 => absurd q2 (by decide), fun q2 => absurd q2 (by decide), fun q2 => absurd q2 (by decide)⟩)
      · rw [zu_n (by omega)]; exact c51
      · rw [zu_n (by omega), b1]
      · rw [zu_eq]; exact k5
    · rw [n0]
      refine cTo (k' := 3) ht (by omega) (by omega) (st h1') (fun s2 f2 h2 => ?_)
      have o2 : ∀ j, s2 6 j = zu s1 6 (4 * L.length) (kwL T n x) 6 j := fun j => f2 6 j (by omega) (by omega)
      refine b_X2_readLine_160 _ _ _ _ s2 ht (fun m2 _ => ?_)
      rw [n1]
      refine cTo (k' := 2) ht (by omega) (by omega) (st h2) (fun s3 f3 h3 => ?_)
      have o3 : ∀ j, s3 6 j = zu s2 6 (4 * L.length + 1) _ 6 j := fun j => f3 6 j (by omega) (by omega)
      refine b_X2_readLine_177 _ _ _ _ s3 ht (fun m3 _ => ?_)
      rw [n2]
      refine cPl ht (st h3) (fun s4 f4 h4 => ?_)
      have o4 : ∀ j, s4 6 j = zu s3 6 (4 * L.length + 2) _ 6 j := fun j => f4 6 j (by omega) (by omega)
      refine b_X2_readLine_193 _ _ _ _ s4 ht (fun m4 _ => ?_)
      rw [n3]
      refine fin m4 _ _ _ (fu (ft (fu (ft (fu (ft (fu F1) f2)) f3)) f4)) ?_ (fun j hj => ?_) _ _ (by rw [k4]; exact pNR_c) (st h4) (fun q => ⟨?_, show (0 : Int) ≤ 3 by decide, show (3 : Int) ≤ 4 by decide, fun _ => ?_, fun q2 => absurd (show (3 : Int) = 2 from q2) (by decide), fun _ => ⟨?_, ?_⟩⟩)
      · rw [zu_n (by omega), f4 5 1 (by omega) (by omega), zu_n (by omega), f3 5 1 (by omega) (by omega), zu_n (by omega), f2 5 1 (by omega) (by omega), zu_n (by omega)]; exact c51
      · rw [zu_n (by omega), o4, zu_n (by omega), o3, zu_n (by omega), o2, zu_n (by omega), b1]
      · rw [zu_n (by omega), o4, zu_n (by omega), o3, zu_n (by omega), o2, zu_eq]; exact k4
      · rw [zu_n (by omega), o4, zu_n (by omega), o3, zu_eq]
      · rw [zu_n (by omega), o4, zu_eq]
      · rw [zu_eq]
    · rw [n0]
      refine cTo (k' := 3) ht (by omega) (by omega) (st h1') (fun s2 f2 h2 => ?_)
      have o2 : ∀ j, s2 6 j = zu s1 6 (4 * L.length) (kwL T n x) 6 j := fun j => f2 6 j (by omega) (by omega)
      refine b_X2_readLine_118 _ _ _ _ s2 ht (fun m2 _ => ?_)
      rw [n1]
      refine cPl ht (st h2) (fun s4 f4 h4 => ?_)
      have o4 : ∀ j, s4 6 j = zu s2 6 (4 * L.length + 1) _ 6 j := fun j => f4 6 j (by omega) (by omega)
      refine b_X2_readLine_134 _ _ _ _ s4 ht (fun m4 _ => ?_)
      rw [n2]
      refine fin m4 _ _ _ (fu (ft (fu (ft (fu F1) f2)) f4)) ?_ (fun j hj => ?_) _ _ (by rw [k3]; exact pNR_b) (st h4) (fun q => ⟨?_, show (0 : Int) ≤ 2 by decide, show (2 : Int) ≤ 4 by decide, fun _ => ?_, fun _ => ?_, fun q2 => absurd (show (2 : Int) = 3 from q2) (by decide)⟩)
      · rw [zu_n (by omega), f4 5 1 (by omega) (by omega), zu_n (by omega), f2 5 1 (by omega) (by omega), zu_n (by omega)]; exact c51
      · rw [zu_n (by omega), o4, zu_n (by omega), o2, zu_n (by omega), b1]
      · rw [zu_n (by omega), o4, zu_n (by omega), o2, zu_eq]; exact k3
      · rw [zu_n (by omega), o4, zu_eq]
      · rw [zu_eq]
  · exact b_X2_readLine_46 _ _ s' ht (k s' f' h')
  · exact b_X2_readLine_28 _ _ s' ht (k s' f' h')
/-- all lines -/
def qNc (s : Zs) (t : Nat) (T : Nat → Int) (n : Nat) (a : PS × NL) (r : Zr) : Prop := r.1 = [(a.1.1, 0)] ∧ frL t s r.2 ∧ (a.1.1 = 0 → r.2 5 1 = (a.2.length : Int) ∧ linC r.2 6 a.2)
theorem cLines (ht : t = 7 ∨ t = 43) {s0 : Zs} : ∀ (N i : Nat) (x : PS) (L : NL) (s : Zs), i ≤ 1000 → frL t s0 s → cNi s t T n x D L → zT (zE 256) (Pt PX2_read) N (14, [((5 : Nat) : Int), ((t : Nat) : Int), (i : Int)], [], s) (qNc s0 t T n (pNA T n D (1000 - i) x L)) := by
  intro N
  induction N using Nat.strongRecOn with
  | ind N ih =>
    intro i x L s hi f h
    have h1 := h.1.1.1
    have hend : (i = 1000 ∨ ¬ (x.1 = 0 ∧ eQ T n (kB T n x.2) ≠ 1)) → pNA T n D (1000 - i) x L = (x, L) := fun q => by
      rcases q with q | q
      · rw [q]; rfl
      · by_cases hz : i = 1000
        · rw [hz]; rfl
        · rw [show 1000 - i = (1000 - i - 1) + 1 from by omega]
          unfold pNA
          exact if_neg q
    have en : pNA T n D (1000 - i) x L = (x, L) → qNc s0 t T n (pNA T n D (1000 - i) x L) ([(s 1 1, 0)], s) := fun q => by
      rw [q]
      exact ⟨by rw [h1], f, h.2⟩
    refine b_X2_read_14 _ s ht (fun g => en (hend (Or.inl (by omega)))) (fun g g2 => en (hend (Or.inr (fun q => g2 (h1.trans q.1))))) (fun g g2 g3 => en (hend (Or.inr (fun q => q.2 ?_)))) (fun g g2 g3 m hm => ?_)
    · rw [← (h.1.1.2.2.2.2 q.1).2.2.1]; exact g3
    · have h0 : x.1 = 0 := by omega
      have hq : eQ T n (kB T n x.2) ≠ 1 := fun q => g3 ((h.1.1.2.2.2.2 h0).2.2.1.trans q)
      have e : pNA T n D (1000 - i) x L = pNA T n D (1000 - (i + 1)) (pNL T n D x L).1 (pNL T n D x L).2 := by
        rw [show 1000 - i = (1000 - (i + 1)) + 1 from by omega]
        have e : ∀ f, pNA T n D (f + 1) x L = if x.1 = 0 ∧ eQ T n (kB T n x.2) ≠ 1 then pNA T n D f (pNL T n D x L).1 (pNL T n D x L).2 else (x, L) := fun _ => rfl
        rw [e, if_pos ⟨h0, hq⟩]
      refine cLine ht h0 h (fun s1 f1 h1' => ?_)
      refine b_X2_read_36 _ s1 ht (fun m2 hm2 => ?_)
      rw [e, w32_id (by omega) (by omega), show (i : Int) + 1 = ((i + 1 : Nat) : Int) from by omega]
      exact ih m2 (by omega) (i + 1) _ _ s1 (by omega) (fun c j a b c5 c6 => (f1 c j a b c5 c6).trans (f c j a b c5 c6)) h1'
theorem nread_ok (ht : t = 7 ∨ t = 43) (h : tkS s T n) (hd : cDn s t D) (hw : wD D) (hh : cDh s t D) (hz : zM s) : zC N 256 [(((5 : Nat) : Int), 0), (((t : Nat) : Int), 0)] s (qNc s t T n (pNA T n D 1000 (0, 0) [])) := by
  refine c_X2_read (b_X2_read_0 0 s ht (fun m _ => ?_))
  have o : ∀ c j, c ≠ 5 → zu s 5 1 0 c j = s c j := fun c j h5 => zu_n (by omega)
  have hS : tkS (zu s 5 1 0) T n := ⟨by rw [o _ _ (by omega)]; exact h.1, h.2.1, fun i hi => by rw [o _ _ (by omega)]; exact h.2.2.1 i hi, fun i hi => by rw [o _ _ (by omega)]; exact h.2.2.2 i hi⟩
  refine zC_q (begin_ok hS) (fun r hr => ?_)
  obtain ⟨r1, s2⟩ := r
  obtain ⟨e, f2, p2⟩ := hr
  have e : r1 = [] := e
  subst e
  have f2 : frF (zu s 5 1 0) s2 := f2
  have fo : ∀ c j, c ≠ 1 → c ≠ 5 → s2 c j = s c j := fun c j h1 h5 => by rw [f2 c j (by omega), o c j h5]
  have p2 : pst s2 T n (0, 0) := p2
  refine b_X2_read_12 _ s2 ht (cLines (s0 := s) ht m 0 (0, 0) [] s2 (by omega) (fun c j a b c5 c6 => ?_) ⟨⟨p2, ?_, hw, fun _ => ?_, fun j => by rw [fo _ _ (by omega) (by omega)]; exact hz j⟩, fun _ => ⟨?_, by decide, fun i r hr => by simp at hr⟩⟩)
  · rw [f2 c j (by omega), o c j c5]
  · obtain ⟨d1, d2, d3, d4, d5⟩ := hd
    refine ⟨fun k hk => by rw [fo _ _ (by omega) (by omega)]; exact d1 k hk, fun q hq => by rw [fo _ _ (by omega) (by omega)]; exact d2 q hq, fun i v hv => by rw [fo _ _ (by omega) (by omega)]; exact d3 i v hv, fun k j i v k1 k2 k3 hv => ?_, fun q hq => by rw [fo _ _ (by omega) (by omega)]; exact d5 q hq⟩
    rw [fo _ _ (by omega) (by omega)]
    exact d4 k j i v k1 k2 k3 hv
  · obtain ⟨b1, b2, b3, b4⟩ := hh
    unfold cDh
    rw [fo _ _ (by omega) (by omega), fo _ _ (by omega) (by omega), fo _ _ (by omega) (by omega)]
    exact ⟨b1, b2, b3, b4⟩
  · rw [f2 5 1 (by omega), zu_eq]; rfl
/-- nights of the class -/
theorem nights_c (ht : t = 7 ∨ t = 43) (h03 : s 0 3 = (t : Int)) (h : tkS s T n) (hd : cDn s t D) (hw : wD D) (hh : cDh s t D) (hz : zM s) : zC N 1304 [(((0 : Nat) : Int), 0)] s (fun r => r.1 = [((pNA T n D 1000 (0, 0) []).1.1, 0)] ∧ r.2 1 0 = 0 ∧ ((pNA T n D 1000 (0, 0) []).1.1 = 0 → r.2 85 1 = ((pNA T n D 1000 (0, 0) []).2.length : Int) ∧ linC r.2 86 (pNA T n D 1000 (0, 0) []).2)) := by
  refine c_X10_nights (b_X10_nights_0 0 s ht (fun m _ => ?_))
  rw [h03]
  refine zC_q (nread_ok ht h hd hw hh hz) (fun r hr => ?_)
  obtain ⟨r1, s1⟩ := r
  generalize pNA T n D 1000 (0, 0) [] = y at hr ⊢
  obtain ⟨e, f, q⟩ := hr
  have e : r1 = [(y.1.1, 0)] := e
  subst e
  refine b_X10_nights_11 _ _ s1 ht (fun g => ⟨rfl, zu_eq s1 1 0 0, fun g2 => absurd g2 g⟩) (fun g m2 _ => ?_)
  have q : s1 5 1 = (y.2.length : Int) ∧ linC s1 6 y.2 := q g
  have W : ∀ s9 : Zs, s9 = zu (zcpy (zu s1 1 0 0) 6 86 160) 85 1 (s1 5 1) → s9 1 0 = 0 ∧ s9 85 1 = (y.2.length : Int) ∧ linC s9 86 y.2 := fun s9 e9 => by
    have z2 : ∀ j, j < 160 → s9 86 j = s1 6 j := fun j hj => by
      rw [e9, zu_n (by omega)]
      show (if (86 : Nat) = 86 then (if j < 160 then zu s1 1 0 0 6 j else _) else _) = _
      rw [if_pos rfl, if_pos hj, zu_n (by omega)]
    refine ⟨?_, ?_, q.2.1, fun i r hr => ?_⟩
    · rw [e9, zu_n (by omega)]
      show (if (1 : Nat) = 86 then _ else _) = _
      rw [if_neg (by decide), zu_eq]
    · rw [e9, zu_eq]
      exact q.1
    · have hi : i < y.2.length := (List.getElem?_eq_some_iff.mp hr).1
      have h40 := q.2.1
      obtain ⟨r1', r2, r3, r4, r5, r6⟩ := q.2.2 i r hr
      exact ⟨by rw [z2 _ (by omega)]; exact r1', r2, r3, fun q => by rw [z2 _ (by omega)]; exact r4 q, fun q => by rw [z2 _ (by omega)]; exact r5 q, fun q => by rw [z2 _ (by omega), z2 _ (by omega)]; exact r6 q⟩
  refine c_X5_tell (b_X5_tell_0 _ _ (b_X10_nights_45 _ _ ht ?_))
  have w := W _ rfl
  exact ⟨rfl, w.1, fun _ => w.2⟩
end Zcn
