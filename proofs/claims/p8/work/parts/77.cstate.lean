/-! states and ways: the class -/
def stcL : List Nat := [79, 82, 89, 92, 95, 98, 101, 104, 107, 110, 113, 116, 119, 122, 125, 128, 131, 134, 138, 141, 144, 147]
def isSt (b : Nat) : Bool := stcL.contains b
theorem zs6_all : (stcL.all fun b => decide (zrho b 1 = b + 1) && decide (zrho b 2 = b + 2)) = true := by decide +kernel
theorem zs6_1 {b : Nat} (hb : isSt b = true) : zrho b 1 = b + 1 := by
  have := List.all_eq_true.mp zs6_all b (List.contains_iff_mem.mp hb)
  rw [Bool.and_eq_true] at this
  exact of_decide_eq_true this.1
theorem zs6_2 {b : Nat} (hb : isSt b = true) : zrho b 2 = b + 2 := by
  have := List.all_eq_true.mp zs6_all b (List.contains_iff_mem.mp hb)
  rw [Bool.and_eq_true] at this
  exact of_decide_eq_true this.2
theorem b_X8_isPlace_0 {n : Nat} {Q : Zr → Prop} {t : Nat} (x1 : Int) (s : Zs) (ht : t = 7 ∨ t = 43)
    (h0 : ∀ (g1 : x1 < 0), Q ([(0, 0)], s))
    (h1 : ∀ (g1 : 0 ≤ x1), ∀ (g3 : zdiv x1 6 < 0), ∀ (g4 : (-1) < zrem x1 6), Q ([(0, 0)], s))
    (h2 : ∀ (g1 : 0 ≤ x1), ∀ (g3 : zdiv x1 6 < 0), ∀ (g4 : zrem x1 6 ≤ (-1)), Q ([(1, 0)], s))
    (h3 : ∀ (g1 : 0 ≤ x1), ∀ (g5 : 0 ≤ zdiv x1 6), ∀ (g6 : s (t + 1) 0 ≤ zdiv x1 6), ∀ (g7 : (-1) < zrem x1 6), Q ([(0, 0)], s))
    (h4 : ∀ (g1 : 0 ≤ x1), ∀ (g5 : 0 ≤ zdiv x1 6), ∀ (g6 : s (t + 1) 0 ≤ zdiv x1 6), ∀ (g7 : zrem x1 6 ≤ (-1)), Q ([(1, 0)], s))
    (h5 : ∀ (g1 : 0 ≤ x1), ∀ (g8 : 0 ≤ zdiv x1 6), ∀ (g9 : zdiv x1 6 < s (t + 1) 0), ∀ (g10 : s (t + 33) ((zdiv x1 6).toNat) < zrem x1 6), Q ([(0, 0)], s))
    (h6 : ∀ (g1 : 0 ≤ x1), ∀ (g8 : 0 ≤ zdiv x1 6), ∀ (g9 : zdiv x1 6 < s (t + 1) 0), ∀ (g10 : zrem x1 6 ≤ s (t + 33) ((zdiv x1 6).toNat)), Q ([(1, 0)], s)) : zT (zE 1036) (Pt PX8_isPlace) n (0, [((t : Nat) : Int), x1], [], s) Q := by
  refine tL x1 0 rfl rfl rfl ?_
  refine tI2 rfl (fun g1 _ l1 => zT_le ?_ (Nat.le_of_lt l1)) (fun g1 _ l1 => zT_le ?_ (Nat.le_of_lt l1))
  · refine tK rfl ?_
    exact tR rfl (h0 g1)
  · refine tL x1 0 rfl rfl rfl ?_
    refine tK rfl ?_
    refine tB (v := zrem x1 6) rfl rfl ?_
    refine tL ((t : Nat) : Int) 0 rfl rfl rfl ?_
    refine tL x1 0 rfl rfl rfl ?_
    refine tK rfl ?_
    refine tB (v := zdiv x1 6) rfl rfl ?_
    refine tCall [(((t : Nat) : Int), 0), (zdiv x1 6, 0)] [(zrem x1 6, 0)] rfl rfl rfl (fun m2 l2 => c_X8_floorsOf (b_X8_floorsOf_0 (zdiv x1 6) s ht ?_ ?_ ?_))
    · intro g3
      show zT (zE 1036) (Pt PX8_isPlace) m2 (16, [((t : Nat) : Int), x1], [((-1), 0), (zrem x1 6, 0)], s) Q
      refine tJ4 rfl (fun g4 _ l4 => zT_le ?_ (Nat.le_of_lt l4)) (fun g4 _ l4 => zT_le ?_ (Nat.le_of_lt l4))
      · refine tK rfl ?_
        exact tR rfl (h1 g1 g3 g4)
      · refine tK rfl ?_
        refine tG rfl ?_
        exact tR rfl (h2 g1 g3 g4)
    · intro g5 g6
      show zT (zE 1036) (Pt PX8_isPlace) m2 (16, [((t : Nat) : Int), x1], [((-1), 0), (zrem x1 6, 0)], s) Q
      refine tJ4 rfl (fun g7 _ l7 => zT_le ?_ (Nat.le_of_lt l7)) (fun g7 _ l7 => zT_le ?_ (Nat.le_of_lt l7))
      · refine tK rfl ?_
        exact tR rfl (h3 g1 g5 g6 g7)
      · refine tK rfl ?_
        refine tG rfl ?_
        exact tR rfl (h4 g1 g5 g6 g7)
    · intro g8 g9
      show zT (zE 1036) (Pt PX8_isPlace) m2 (16, [((t : Nat) : Int), x1], [(s (t + 33) ((zdiv x1 6).toNat), 0), (zrem x1 6, 0)], s) Q
      refine tJ4 rfl (fun g10 _ l10 => zT_le ?_ (Nat.le_of_lt l10)) (fun g10 _ l10 => zT_le ?_ (Nat.le_of_lt l10))
      · refine tK rfl ?_
        exact tR rfl (h5 g1 g8 g9 g10)
      · refine tK rfl ?_
        refine tG rfl ?_
        exact tR rfl (h6 g1 g8 g9 g10)

theorem c_X8_isPlace {n : Nat} {Q : Zr → Prop} {a0 a1 : Int} {s : Zs} (h : zT (zE 1036) (Pt PX8_isPlace) n (0, [a0, a1], [], s) Q) : zC n 1036 [(a0, 0), (a1, 0)] s Q := h

theorem b_X8_lowerOf_0 {n : Nat} {Q : Zr → Prop} {t : Nat} (x1 : Int) (s : Zs) (ht : t = 7 ∨ t = 43)
    (h0 : Q ([(w32 ((w32 ((s (zrho (t + 12) x1.toNat) 0) * 6)) + (s (zrho (t + 12) x1.toNat) 1)), 0)], s)) : zT (zE 1038) (Pt PX8_lowerOf) n (0, [((t : Nat) : Int), x1], [], s) Q := by
  refine tL ((t : Nat) : Int) 0 rfl rfl rfl ?_
  refine tFR (c := t) (t + 12) rfl rfl rfl rfl (zt8_1 ht) ?_
  refine tL x1 0 rfl rfl rfl ?_
  refine tAR (zrho (t + 12) x1.toNat) rfl rfl ?_
  refine tK rfl ?_
  refine tAv (zrho (t + 12) x1.toNat) 0 (s (zrho (t + 12) x1.toNat) 0) 0 rfl rfl rfl (by decide) rfl rfl ?_
  refine tK rfl ?_
  refine tM (v := w32 ((s (zrho (t + 12) x1.toNat) 0) * 6)) rfl rfl ?_
  refine tL ((t : Nat) : Int) 0 rfl rfl rfl ?_
  refine tFR (c := t) (t + 12) rfl rfl rfl rfl (zt8_1 ht) ?_
  refine tL x1 0 rfl rfl rfl ?_
  refine tAR (zrho (t + 12) x1.toNat) rfl rfl ?_
  refine tK rfl ?_
  refine tAv (zrho (t + 12) x1.toNat) 1 (s (zrho (t + 12) x1.toNat) 1) 0 rfl rfl rfl (by decide) rfl rfl ?_
  refine tB (v := w32 ((w32 ((s (zrho (t + 12) x1.toNat) 0) * 6)) + (s (zrho (t + 12) x1.toNat) 1))) rfl rfl ?_
  exact tR rfl (h0)

theorem c_X8_lowerOf {n : Nat} {Q : Zr → Prop} {a0 a1 : Int} {s : Zs} (h : zT (zE 1038) (Pt PX8_lowerOf) n (0, [a0, a1], [], s) Q) : zC n 1038 [(a0, 0), (a1, 0)] s Q := h

theorem b_X8_riseOf_0 {n : Nat} {Q : Zr → Prop} {t : Nat} (x1 x2 x3 : Int) (s : Zs) (ht : t = 7 ∨ t = 43)
    (h0 : zT (zE 1039) (Pt PX8_riseOf) n (4, [((t : Nat) : Int), x1, 0, 0], [], s) Q) : zT (zE 1039) (Pt PX8_riseOf) n (0, [((t : Nat) : Int), x1, x2, x3], [], s) Q := by
  refine tK rfl ?_
  refine tS [((t : Nat) : Int), x1, 0, x3] rfl rfl ?_
  refine tK rfl ?_
  refine tS [((t : Nat) : Int), x1, 0, 0] rfl rfl ?_
  exact zT_le (h0) (Nat.le_refl n)

theorem b_X8_riseOf_4 {n : Nat} {Q : Zr → Prop} {t : Nat} (x1 x2 x3 : Int) (s : Zs) (ht : t = 7 ∨ t = 43)
    (h0 : ∀ (g1 : s (t + 1) 1 ≤ x3), Q ([(x2, 0)], s))
    (h1 : ∀ (g1 : x3 < s (t + 1) 1), ∀ (g2 : zand (zshr x1 x3) 1 ≠ 1), ∀ m, m < n → zT (zE 1039) (Pt PX8_riseOf) m (4, [((t : Nat) : Int), x1, x2, w32 (x3 + 1)], [], s) Q)
    (h2 : ∀ (g1 : x3 < s (t + 1) 1), ∀ (g2 : zand (zshr x1 x3) 1 = 1), ∀ m, m < n → zT (zE 1039) (Pt PX8_riseOf) m (4, [((t : Nat) : Int), x1, w32 (x2 + (s (zrho (t + 12) x3.toNat) 2)), w32 (x3 + 1)], [], s) Q) : zT (zE 1039) (Pt PX8_riseOf) n (4, [((t : Nat) : Int), x1, x2, x3], [], s) Q := by
  refine tL x3 0 rfl rfl rfl ?_
  refine tL ((t : Nat) : Int) 0 rfl rfl rfl ?_
  refine tFR (c := t) (t + 1) rfl rfl rfl rfl (zt8_0 ht) ?_
  refine tK rfl ?_
  refine tAv (t + 1) 1 (s (t + 1) 1) 0 rfl rfl rfl (by decide) rfl rfl ?_
  refine tJ3 rfl (fun g1 _ l1 => zT_le ?_ (Nat.le_of_lt l1)) (fun g1 _ l1 => zT_le ?_ (Nat.le_of_lt l1))
  · refine tL x2 0 rfl rfl rfl ?_
    exact tR rfl (h0 g1)
  · refine tL x1 0 rfl rfl rfl ?_
    refine tL x3 0 rfl rfl rfl ?_
    refine tB (v := zshr x1 x3) rfl rfl ?_
    refine tK rfl ?_
    refine tB (v := zand (zshr x1 x3) 1) rfl rfl ?_
    refine tK rfl ?_
    refine tJ1 rfl (fun g2 _ l2 => zT_le ?_ (Nat.le_of_lt l2)) (fun g2 _ l2 => zT_le ?_ (Nat.le_of_lt l2))
    · refine tInc [((t : Nat) : Int), x1, x2, w32 (x3 + 1)] rfl rfl ?_
      exact tGb rfl (fun m2 l2 => h1 g1 g2 m2 (Nat.lt_of_lt_of_le l2 (Nat.le_refl n)))
    · refine tL x2 0 rfl rfl rfl ?_
      refine tL ((t : Nat) : Int) 0 rfl rfl rfl ?_
      refine tFR (c := t) (t + 12) rfl rfl rfl rfl (zt8_1 ht) ?_
      refine tL x3 0 rfl rfl rfl ?_
      refine tAR (zrho (t + 12) x3.toNat) rfl rfl ?_
      refine tK rfl ?_
      refine tAv (zrho (t + 12) x3.toNat) 2 (s (zrho (t + 12) x3.toNat) 2) 0 rfl rfl rfl (by decide) rfl rfl ?_
      refine tB (v := w32 (x2 + (s (zrho (t + 12) x3.toNat) 2))) rfl rfl ?_
      refine tS [((t : Nat) : Int), x1, w32 (x2 + (s (zrho (t + 12) x3.toNat) 2)), x3] rfl rfl ?_
      refine tInc [((t : Nat) : Int), x1, w32 (x2 + (s (zrho (t + 12) x3.toNat) 2)), w32 (x3 + 1)] rfl rfl ?_
      exact tGb rfl (fun m2 l2 => h2 g1 g2 m2 (Nat.lt_of_lt_of_le l2 (Nat.le_refl n)))

theorem c_X8_riseOf {n : Nat} {Q : Zr → Prop} {a0 a1 : Int} {s : Zs} (h : zT (zE 1039) (Pt PX8_riseOf) n (0, [a0, a1, 0, 0], [], s) Q) : zC n 1039 [(a0, 0), (a1, 0)] s Q := h

theorem b_X8_stairs_0 {n : Nat} {Q : Zr → Prop} {t : Nat} (x1 x2 x3 x4 : Int) (s : Zs) (ht : t = 7 ∨ t = 43)
    (h0 : zT (zE 1042) (Pt PX8_stairs) n (5, [((t : Nat) : Int), x1, x2, 0, x1], [], s) Q) : zT (zE 1042) (Pt PX8_stairs) n (0, [((t : Nat) : Int), x1, x2, x3, x4], [], s) Q := by
  refine tK rfl ?_
  refine tS [((t : Nat) : Int), x1, x2, 0, x4] rfl rfl ?_
  refine tL x1 0 rfl rfl rfl ?_
  refine tS [((t : Nat) : Int), x1, x2, 0, x1] rfl rfl ?_
  exact zT_le (h0) (Nat.le_refl n)

theorem b_X8_stairs_5 {n : Nat} {Q : Zr → Prop} {t : Nat} (x1 x2 x3 x4 : Int) (s : Zs) (ht : t = 7 ∨ t = 43)
    (h0 : ∀ (g1 : x2 ≤ x4), Q ([(x3, 0)], s))
    (h1 : ∀ (g1 : x4 < x2), ∀ (g2 : s (t + 34) x4.toNat ≠ (-1)), ∀ m, m < n → zT (zE 1042) (Pt PX8_stairs) m (5, [((t : Nat) : Int), x1, x2, zor x3 (zshl 1 (s (t + 34) x4.toNat)), w32 (x4 + 1)], [], s) Q)
    (h2 : ∀ (g1 : x4 < x2), ∀ (g2 : s (t + 34) x4.toNat = (-1)), Q ([((-1), 0)], s)) : zT (zE 1042) (Pt PX8_stairs) n (5, [((t : Nat) : Int), x1, x2, x3, x4], [], s) Q := by
  refine tL x4 0 rfl rfl rfl ?_
  refine tL x2 0 rfl rfl rfl ?_
  refine tJ3 rfl (fun g1 _ l1 => zT_le ?_ (Nat.le_of_lt l1)) (fun g1 _ l1 => zT_le ?_ (Nat.le_of_lt l1))
  · refine tL x3 0 rfl rfl rfl ?_
    exact tR rfl (h0 g1)
  · refine tL ((t : Nat) : Int) 0 rfl rfl rfl ?_
    refine tFR (c := t) (t + 34) rfl rfl rfl rfl (zt8_10 ht) ?_
    refine tL x4 0 rfl rfl rfl ?_
    refine tAv (t + 34) x4.toNat (s (t + 34) x4.toNat) 0 rfl rfl rfl (by decide) rfl rfl ?_
    refine tK rfl ?_
    refine tJ1 rfl (fun g2 _ l2 => zT_le ?_ (Nat.le_of_lt l2)) (fun g2 _ l2 => zT_le ?_ (Nat.le_of_lt l2))
    · refine tL x3 0 rfl rfl rfl ?_
      refine tK rfl ?_
      refine tL ((t : Nat) : Int) 0 rfl rfl rfl ?_
      refine tFR (c := t) (t + 34) rfl rfl rfl rfl (zt8_10 ht) ?_
      refine tL x4 0 rfl rfl rfl ?_
      refine tAv (t + 34) x4.toNat (s (t + 34) x4.toNat) 0 rfl rfl rfl (by decide) rfl rfl ?_
      refine tB (v := zshl 1 (s (t + 34) x4.toNat)) rfl rfl ?_
      refine tB (v := zor x3 (zshl 1 (s (t + 34) x4.toNat))) rfl rfl ?_
      refine tS [((t : Nat) : Int), x1, x2, zor x3 (zshl 1 (s (t + 34) x4.toNat)), x4] rfl rfl ?_
      refine tInc [((t : Nat) : Int), x1, x2, zor x3 (zshl 1 (s (t + 34) x4.toNat)), w32 (x4 + 1)] rfl rfl ?_
      exact tGb rfl (fun m2 l2 => h1 g1 g2 m2 (Nat.lt_of_lt_of_le l2 (Nat.le_refl n)))
    · refine tK rfl ?_
      exact tR rfl (h2 g1 g2)

theorem c_X8_stairs {n : Nat} {Q : Zr → Prop} {a0 a1 a2 : Int} {s : Zs} (h : zT (zE 1042) (Pt PX8_stairs) n (0, [a0, a1, a2, 0, 0], [], s) Q) : zC n 1042 [(a0, 0), (a1, 0), (a2, 0)] s Q := h

theorem b_X8_way_0 {n : Nat} {Q : Zr → Prop} {t : Nat} (x1 x2 x3 x4 : Int) (s : Zs) (ht : t = 7 ∨ t = 43)
    (h0 : ∀ m, m < n → zC m 1036 [(((t : Nat) : Int), 0), (x1, 0)] s (fun p => zT (zE 1043) (Pt PX8_way) m (5, [((t : Nat) : Int), x1, x2, x3, x4], p.1 ++ [], p.2) Q)) : zT (zE 1043) (Pt PX8_way) n (0, [((t : Nat) : Int), x1, x2, x3, x4], [], s) Q := by
  refine tL ((t : Nat) : Int) 0 rfl rfl rfl ?_
  refine tL x1 0 rfl rfl rfl ?_
  exact tCall [(((t : Nat) : Int), 0), (x1, 0)] [] rfl rfl rfl (fun m l => h0 m (Nat.lt_of_lt_of_le l (Nat.le_refl n)))

theorem b_X8_way_5 {n : Nat} {Q : Zr → Prop} {t : Nat} (x1 x2 x3 x4 v0 : Int) (s : Zs) (ht : t = 7 ∨ t = 43)
    (h0 : ∀ (g1 : v0 = 0), Q ([((-1), 0)], s))
    (h1 : ∀ (g1 : v0 ≠ 0), ∀ m, m < n → zC m 1036 [(((t : Nat) : Int), 0), (x2, 0)] s (fun p => zT (zE 1043) (Pt PX8_way) m (13, [((t : Nat) : Int), x1, x2, x3, x4], p.1 ++ [], p.2) Q)) : zT (zE 1043) (Pt PX8_way) n (5, [((t : Nat) : Int), x1, x2, x3, x4], [(v0, 0)], s) Q := by
  refine tI0 rfl (fun g1 _ l1 => zT_le ?_ (Nat.le_of_lt l1)) (fun g1 _ l1 => zT_le ?_ (Nat.le_of_lt l1))
  · refine tK rfl ?_
    exact tR rfl (h0 g1)
  · refine tL ((t : Nat) : Int) 0 rfl rfl rfl ?_
    refine tL x2 0 rfl rfl rfl ?_
    exact tCall [(((t : Nat) : Int), 0), (x2, 0)] [] rfl rfl rfl (fun m l => h1 g1 m (Nat.lt_of_lt_of_le l (Nat.le_refl n)))

theorem b_X8_way_13 {n : Nat} {Q : Zr → Prop} {t : Nat} (x1 x2 x3 x4 v0 : Int) (s : Zs) (ht : t = 7 ∨ t = 43)
    (h0 : ∀ (g1 : v0 ≠ 0), ∀ (g2 : zdiv x1 6 ≠ zdiv x2 6), ∀ m, m < n → zC m 1042 [(((t : Nat) : Int), 0), (w32 ((zdiv x1 6) * 6), 0), (x1, 0)] s (fun p => zT (zE 1043) (Pt PX8_way) m (59, [((t : Nat) : Int), x1, x2, zdiv x1 6, zdiv x2 6], p.1 ++ [], p.2) Q))
    (h1 : ∀ (g1 : v0 ≠ 0), ∀ (g2 : zdiv x1 6 = zdiv x2 6), ∀ m, m < n → zC m 1042 [(((t : Nat) : Int), 0), (if x2 < x1 then x2 else x1, 0), (if x1 < x2 then x2 else x1, 0)] s (fun p => zT (zE 1043) (Pt PX8_way) m (49, [((t : Nat) : Int), x1, x2, zdiv x1 6, zdiv x2 6], p.1 ++ [], p.2) Q))
    (h2 : ∀ (g1 : v0 = 0), Q ([((-1), 0)], s)) : zT (zE 1043) (Pt PX8_way) n (13, [((t : Nat) : Int), x1, x2, x3, x4], [(v0, 0)], s) Q := by
  refine tI1 rfl (fun g1 _ l1 => zT_le ?_ (Nat.le_of_lt l1)) (fun g1 _ l1 => zT_le ?_ (Nat.le_of_lt l1))
  · refine tL x1 0 rfl rfl rfl ?_
    refine tK rfl ?_
    refine tB (v := zdiv x1 6) rfl rfl ?_
    refine tS [((t : Nat) : Int), x1, x2, zdiv x1 6, x4] rfl rfl ?_
    refine tL x2 0 rfl rfl rfl ?_
    refine tK rfl ?_
    refine tB (v := zdiv x2 6) rfl rfl ?_
    refine tS [((t : Nat) : Int), x1, x2, zdiv x1 6, zdiv x2 6] rfl rfl ?_
    refine tL (zdiv x1 6) 0 rfl rfl rfl ?_
    refine tL (zdiv x2 6) 0 rfl rfl rfl ?_
    refine tJ1 rfl (fun g2 _ l2 => zT_le ?_ (Nat.le_of_lt l2)) (fun g2 _ l2 => zT_le ?_ (Nat.le_of_lt l2))
    · refine tL ((t : Nat) : Int) 0 rfl rfl rfl ?_
      refine tL (zdiv x1 6) 0 rfl rfl rfl ?_
      refine tK rfl ?_
      refine tM (v := w32 ((zdiv x1 6) * 6)) rfl rfl ?_
      refine tL x1 0 rfl rfl rfl ?_
      exact tCall [(((t : Nat) : Int), 0), (w32 ((zdiv x1 6) * 6), 0), (x1, 0)] [] rfl rfl rfl (fun m l => h0 g1 g2 m (Nat.lt_of_lt_of_le l (Nat.le_refl n)))
    · refine tL ((t : Nat) : Int) 0 rfl rfl rfl ?_
      refine tL x1 0 rfl rfl rfl ?_
      refine tL x2 0 rfl rfl rfl ?_
      refine tE1 rfl rfl ?_
      refine tL x1 0 rfl rfl rfl ?_
      refine tL x2 0 rfl rfl rfl ?_
      refine tE0 rfl rfl ?_
      exact tCall [(((t : Nat) : Int), 0), (if x2 < x1 then x2 else x1, 0), (if x1 < x2 then x2 else x1, 0)] [] rfl rfl rfl (fun m l => h1 g1 g2 m (Nat.lt_of_lt_of_le l (Nat.le_refl n)))
  · refine tK rfl ?_
    exact tR rfl (h2 g1)

theorem b_X8_way_59 {n : Nat} {Q : Zr → Prop} {t : Nat} (x1 x2 x3 x4 v0 : Int) (s : Zs) (ht : t = 7 ∨ t = 43)
    (h0 : ∀ m, m < n → zC m 1042 [(((t : Nat) : Int), 0), (w32 (x4 * 6), 0), (x2, 0)] s (fun p => zT (zE 1043) (Pt PX8_way) m (69, [((t : Nat) : Int), x1, x2, x3, x4], p.1 ++ [(v0, 0)], p.2) Q)) : zT (zE 1043) (Pt PX8_way) n (59, [((t : Nat) : Int), x1, x2, x3, x4], [(v0, 0)], s) Q := by
  refine tL ((t : Nat) : Int) 0 rfl rfl rfl ?_
  refine tL x4 0 rfl rfl rfl ?_
  refine tK rfl ?_
  refine tM (v := w32 (x4 * 6)) rfl rfl ?_
  refine tL x2 0 rfl rfl rfl ?_
  exact tCall [(((t : Nat) : Int), 0), (w32 (x4 * 6), 0), (x2, 0)] [(v0, 0)] rfl rfl rfl (fun m l => h0 m (Nat.lt_of_lt_of_le l (Nat.le_refl n)))

theorem b_X8_way_49 {n : Nat} {Q : Zr → Prop} {t : Nat} (x1 x2 x3 x4 v0 : Int) (s : Zs) (ht : t = 7 ∨ t = 43)
    (h0 : Q ([(v0, 0)], s)) : zT (zE 1043) (Pt PX8_way) n (49, [((t : Nat) : Int), x1, x2, x3, x4], [(v0, 0)], s) Q := by
  exact tR rfl (h0)

theorem b_X8_way_69 {n : Nat} {Q : Zr → Prop} {t : Nat} (x1 x2 x3 x4 v0 y0 : Int) (s : Zs) (ht : t = 7 ∨ t = 43)
    (h0 : Q ([(zor y0 v0, 0)], s)) : zT (zE 1043) (Pt PX8_way) n (69, [((t : Nat) : Int), x1, x2, x3, x4], [(v0, 0), (y0, 0)], s) Q := by
  refine tB (v := zor y0 v0) rfl rfl ?_
  exact tR rfl (h0)

theorem c_X8_way {n : Nat} {Q : Zr → Prop} {a0 a1 a2 : Int} {s : Zs} (h : zT (zE 1043) (Pt PX8_way) n (0, [a0, a1, a2, 0, 0], [], s) Q) : zC n 1043 [(a0, 0), (a1, 0), (a2, 0)] s Q := h

theorem b_X8_fromTop_0 {n : Nat} {Q : Zr → Prop} {t : Nat} (x1 x2 x3 : Int) (s : Zs) (ht : t = 7 ∨ t = 43)
    (h0 : zT (zE 1033) (Pt PX8_fromTop) n (2, [((t : Nat) : Int), x1, x2, 0], [], s) Q) : zT (zE 1033) (Pt PX8_fromTop) n (0, [((t : Nat) : Int), x1, x2, x3], [], s) Q := by
  refine tK rfl ?_
  refine tS [((t : Nat) : Int), x1, x2, 0] rfl rfl ?_
  exact zT_le (h0) (Nat.le_refl n)

theorem b_X8_fromTop_2 {n : Nat} {Q : Zr → Prop} {t : Nat} (x1 x2 x3 : Int) (s : Zs) (ht : t = 7 ∨ t = 43)
    (h0 : ∀ (g1 : s (t + 1) 1 ≤ x3), Q ([(1, 0)], s))
    (h1 : ∀ (g1 : x3 < s (t + 1) 1), ∀ (g2 : zand (zshr x1 x3) 1 ≠ 1), ∀ m, m < n → zT (zE 1033) (Pt PX8_fromTop) m (2, [((t : Nat) : Int), x1, x2, w32 (x3 + 1)], [], s) Q)
    (h2 : ∀ (g1 : x3 < s (t + 1) 1), ∀ (g2 : zand (zshr x1 x3) 1 = 1), ∀ (g3 : zand (zand (s (t + 35) x3.toNat) x2) (zxor x1 (-1)) = 0), ∀ m, m < n → zT (zE 1033) (Pt PX8_fromTop) m (2, [((t : Nat) : Int), x1, x2, w32 (x3 + 1)], [], s) Q)
    (h3 : ∀ (g1 : x3 < s (t + 1) 1), ∀ (g2 : zand (zshr x1 x3) 1 = 1), ∀ (g3 : zand (zand (s (t + 35) x3.toNat) x2) (zxor x1 (-1)) ≠ 0), Q ([(0, 0)], s)) : zT (zE 1033) (Pt PX8_fromTop) n (2, [((t : Nat) : Int), x1, x2, x3], [], s) Q := by
  refine tL x3 0 rfl rfl rfl ?_
  refine tL ((t : Nat) : Int) 0 rfl rfl rfl ?_
  refine tFR (c := t) (t + 1) rfl rfl rfl rfl (zt8_0 ht) ?_
  refine tK rfl ?_
  refine tAv (t + 1) 1 (s (t + 1) 1) 0 rfl rfl rfl (by decide) rfl rfl ?_
  refine tJ3 rfl (fun g1 _ l1 => zT_le ?_ (Nat.le_of_lt l1)) (fun g1 _ l1 => zT_le ?_ (Nat.le_of_lt l1))
  · refine tK rfl ?_
    exact tR rfl (h0 g1)
  · refine tL x1 0 rfl rfl rfl ?_
    refine tL x3 0 rfl rfl rfl ?_
    refine tB (v := zshr x1 x3) rfl rfl ?_
    refine tK rfl ?_
    refine tB (v := zand (zshr x1 x3) 1) rfl rfl ?_
    refine tK rfl ?_
    refine tJ1 rfl (fun g2 _ l2 => zT_le ?_ (Nat.le_of_lt l2)) (fun g2 _ l2 => zT_le ?_ (Nat.le_of_lt l2))
    · refine tInc [((t : Nat) : Int), x1, x2, w32 (x3 + 1)] rfl rfl ?_
      exact tGb rfl (fun m2 l2 => h1 g1 g2 m2 (Nat.lt_of_lt_of_le l2 (Nat.le_refl n)))
    · refine tL ((t : Nat) : Int) 0 rfl rfl rfl ?_
      refine tFR (c := t) (t + 35) rfl rfl rfl rfl (zt8_11 ht) ?_
      refine tL x3 0 rfl rfl rfl ?_
      refine tAv (t + 35) x3.toNat (s (t + 35) x3.toNat) 0 rfl rfl rfl (by decide) rfl rfl ?_
      refine tL x2 0 rfl rfl rfl ?_
      refine tB (v := zand (s (t + 35) x3.toNat) x2) rfl rfl ?_
      refine tL x1 0 rfl rfl rfl ?_
      refine tK rfl ?_
      refine tB (v := zxor x1 (-1)) rfl rfl ?_
      refine tB (v := zand (zand (s (t + 35) x3.toNat) x2) (zxor x1 (-1))) rfl rfl ?_
      refine tI0 rfl (fun g3 _ l3 => zT_le ?_ (Nat.le_of_lt l3)) (fun g3 _ l3 => zT_le ?_ (Nat.le_of_lt l3))
      · refine tInc [((t : Nat) : Int), x1, x2, w32 (x3 + 1)] rfl rfl ?_
        exact tGb rfl (fun m2 l2 => h2 g1 g2 g3 m2 (Nat.lt_of_lt_of_le l2 (Nat.le_refl n)))
      · refine tK rfl ?_
        exact tR rfl (h3 g1 g2 g3)

theorem c_X8_fromTop {n : Nat} {Q : Zr → Prop} {a0 a1 a2 : Int} {s : Zs} (h : zT (zE 1033) (Pt PX8_fromTop) n (0, [a0, a1, a2, 0], [], s) Q) : zC n 1033 [(a0, 0), (a1, 0), (a2, 0)] s Q := h

theorem b_X6_liftAt_0 {n : Nat} {Q : Zr → Prop} {t b : Nat} (x2 x3 x4 x5 : Int) (s : Zs) (ht : t = 7 ∨ t = 43) (hb : isSt b = true)
    (h0 : zT (zE 777) (Pt PX6_liftAt) n (6, [((b : Nat) : Int), ((t : Nat) : Int), x2, x3, 0, 0], [], s) Q) : zT (zE 777) (Pt PX6_liftAt) n (0, [((b : Nat) : Int), ((t : Nat) : Int), x2, x3, x4, x5], [], s) Q := by
  refine tK rfl ?_
  refine tS [((b : Nat) : Int), ((t : Nat) : Int), x2, x3, 0, x5] rfl rfl ?_
  refine tK rfl ?_
  refine tS [((b : Nat) : Int), ((t : Nat) : Int), x2, x3, 0, 0] rfl rfl ?_
  exact zT_le (h0) (Nat.le_refl n)

theorem b_X6_liftAt_6 {n : Nat} {Q : Zr → Prop} {t b : Nat} (x2 x3 x4 x5 : Int) (s : Zs) (ht : t = 7 ∨ t = 43) (hb : isSt b = true)
    (h0 : ∀ (g1 : s (t + 1) 2 ≤ x5), Q ([(x4, 0)], s))
    (h1 : ∀ (g1 : x5 < s (t + 1) 2), ∀ (g2 : s (b + 2) x5.toNat ≠ x2), ∀ m, m < n → zT (zE 777) (Pt PX6_liftAt) m (6, [((b : Nat) : Int), ((t : Nat) : Int), x2, x3, x4, w32 (x5 + 1)], [], s) Q)
    (h2 : ∀ (g1 : x5 < s (t + 1) 2), ∀ (g2 : s (b + 2) x5.toNat = x2), ∀ (g3 : x5 = x3), ∀ m, m < n → zT (zE 777) (Pt PX6_liftAt) m (6, [((b : Nat) : Int), ((t : Nat) : Int), x2, x3, x4, w32 (x5 + 1)], [], s) Q)
    (h3 : ∀ (g1 : x5 < s (t + 1) 2), ∀ (g2 : s (b + 2) x5.toNat = x2), ∀ (g3 : x5 ≠ x3), ∀ m, m < n → zT (zE 777) (Pt PX6_liftAt) m (6, [((b : Nat) : Int), ((t : Nat) : Int), x2, x3, w32 (x4 + (s (zrho (t + 17) x5.toNat) 0)), w32 (x5 + 1)], [], s) Q) : zT (zE 777) (Pt PX6_liftAt) n (6, [((b : Nat) : Int), ((t : Nat) : Int), x2, x3, x4, x5], [], s) Q := by
  refine tL x5 0 rfl rfl rfl ?_
  refine tL ((t : Nat) : Int) 0 rfl rfl rfl ?_
  refine tFR (c := t) (t + 1) rfl rfl rfl rfl (zt8_0 ht) ?_
  refine tK rfl ?_
  refine tAv (t + 1) 2 (s (t + 1) 2) 0 rfl rfl rfl (by decide) rfl rfl ?_
  refine tJ3 rfl (fun g1 _ l1 => zT_le ?_ (Nat.le_of_lt l1)) (fun g1 _ l1 => zT_le ?_ (Nat.le_of_lt l1))
  · refine tL x4 0 rfl rfl rfl ?_
    exact tR rfl (h0 g1)
  · refine tL ((b : Nat) : Int) 0 rfl rfl rfl ?_
    refine tFR (c := b) (b + 2) rfl rfl rfl rfl (zs6_2 hb) ?_
    refine tL x5 0 rfl rfl rfl ?_
    refine tAv (b + 2) x5.toNat (s (b + 2) x5.toNat) 0 rfl rfl rfl (by decide) rfl rfl ?_
    refine tL x2 0 rfl rfl rfl ?_
    refine tJ1 rfl (fun g2 _ l2 => zT_le ?_ (Nat.le_of_lt l2)) (fun g2 _ l2 => zT_le ?_ (Nat.le_of_lt l2))
    · refine tInc [((b : Nat) : Int), ((t : Nat) : Int), x2, x3, x4, w32 (x5 + 1)] rfl rfl ?_
      exact tGb rfl (fun m2 l2 => h1 g1 g2 m2 (Nat.lt_of_lt_of_le l2 (Nat.le_refl n)))
    · refine tL x5 0 rfl rfl rfl ?_
      refine tL x3 0 rfl rfl rfl ?_
      refine tJ0 rfl (fun g3 _ l3 => zT_le ?_ (Nat.le_of_lt l3)) (fun g3 _ l3 => zT_le ?_ (Nat.le_of_lt l3))
      · refine tInc [((b : Nat) : Int), ((t : Nat) : Int), x2, x3, x4, w32 (x5 + 1)] rfl rfl ?_
        exact tGb rfl (fun m2 l2 => h2 g1 g2 g3 m2 (Nat.lt_of_lt_of_le l2 (Nat.le_refl n)))
      · refine tL x4 0 rfl rfl rfl ?_
        refine tL ((t : Nat) : Int) 0 rfl rfl rfl ?_
        refine tFR (c := t) (t + 17) rfl rfl rfl rfl (zt8_2 ht) ?_
        refine tL x5 0 rfl rfl rfl ?_
        refine tAR (zrho (t + 17) x5.toNat) rfl rfl ?_
        refine tK rfl ?_
        refine tAv (zrho (t + 17) x5.toNat) 0 (s (zrho (t + 17) x5.toNat) 0) 0 rfl rfl rfl (by decide) rfl rfl ?_
        refine tB (v := w32 (x4 + (s (zrho (t + 17) x5.toNat) 0))) rfl rfl ?_
        refine tS [((b : Nat) : Int), ((t : Nat) : Int), x2, x3, w32 (x4 + (s (zrho (t + 17) x5.toNat) 0)), x5] rfl rfl ?_
        refine tInc [((b : Nat) : Int), ((t : Nat) : Int), x2, x3, w32 (x4 + (s (zrho (t + 17) x5.toNat) 0)), w32 (x5 + 1)] rfl rfl ?_
        exact tGb rfl (fun m2 l2 => h3 g1 g2 g3 m2 (Nat.lt_of_lt_of_le l2 (Nat.le_refl n)))

theorem c_X6_liftAt {n : Nat} {Q : Zr → Prop} {a0 a1 a2 a3 : Int} {s : Zs} (h : zT (zE 777) (Pt PX6_liftAt) n (0, [a0, a1, a2, a3, 0, 0], [], s) Q) : zC n 777 [(a0, 0), (a1, 0), (a2, 0), (a3, 0)] s Q := h

theorem b_X6_climbs_0 {n : Nat} {Q : Zr → Prop} {t b : Nat} (x2 x3 x4 x5 x6 : Int) (s : Zs) (ht : t = 7 ∨ t = 43) (hb : isSt b = true)
    (h0 : zT (zE 771) (Pt PX6_climbs) n (6, [((b : Nat) : Int), ((t : Nat) : Int), x2, x3, 0, 0, x6], [], s) Q) : zT (zE 771) (Pt PX6_climbs) n (0, [((b : Nat) : Int), ((t : Nat) : Int), x2, x3, x4, x5, x6], [], s) Q := by
  refine tK rfl ?_
  refine tS [((b : Nat) : Int), ((t : Nat) : Int), x2, x3, 0, x5, x6] rfl rfl ?_
  refine tK rfl ?_
  refine tS [((b : Nat) : Int), ((t : Nat) : Int), x2, x3, 0, 0, x6] rfl rfl ?_
  exact zT_le (h0) (Nat.le_refl n)

theorem b_X6_climbs_6 {n : Nat} {Q : Zr → Prop} {t b : Nat} (x2 x3 x4 x5 x6 : Int) (s : Zs) (ht : t = 7 ∨ t = 43) (hb : isSt b = true)
    (h0 : ∀ (g1 : s (t + 1) 1 ≤ x5), Q ([(x4, 0)], s))
    (h1 : ∀ (g1 : x5 < s (t + 1) 1), ∀ m, m < n → zC m 1038 [(((t : Nat) : Int), 0), (x5, 0)] s (fun p => zT (zE 771) (Pt PX6_climbs) m (33, [((b : Nat) : Int), ((t : Nat) : Int), x2, x3, x4, x5, x6], p.1 ++ [(((t : Nat) : Int), 0), (((b : Nat) : Int), 0), (s (zrho (t + 23) x2.toNat) 1, 0)], p.2) Q)) : zT (zE 771) (Pt PX6_climbs) n (6, [((b : Nat) : Int), ((t : Nat) : Int), x2, x3, x4, x5, x6], [], s) Q := by
  refine tL x5 0 rfl rfl rfl ?_
  refine tL ((t : Nat) : Int) 0 rfl rfl rfl ?_
  refine tFR (c := t) (t + 1) rfl rfl rfl rfl (zt8_0 ht) ?_
  refine tK rfl ?_
  refine tAv (t + 1) 1 (s (t + 1) 1) 0 rfl rfl rfl (by decide) rfl rfl ?_
  refine tJ3 rfl (fun g1 _ l1 => zT_le ?_ (Nat.le_of_lt l1)) (fun g1 _ l1 => zT_le ?_ (Nat.le_of_lt l1))
  · refine tL x4 0 rfl rfl rfl ?_
    exact tR rfl (h0 g1)
  · refine tL ((t : Nat) : Int) 0 rfl rfl rfl ?_
    refine tFR (c := t) (t + 23) rfl rfl rfl rfl (zt8_3 ht) ?_
    refine tL x2 0 rfl rfl rfl ?_
    refine tAR (zrho (t + 23) x2.toNat) rfl rfl ?_
    refine tK rfl ?_
    refine tAv (zrho (t + 23) x2.toNat) 1 (s (zrho (t + 23) x2.toNat) 1) 0 rfl rfl rfl (by decide) rfl rfl ?_
    refine tL ((b : Nat) : Int) 0 rfl rfl rfl ?_
    refine tL ((t : Nat) : Int) 0 rfl rfl rfl ?_
    refine tL ((t : Nat) : Int) 0 rfl rfl rfl ?_
    refine tL x5 0 rfl rfl rfl ?_
    exact tCall [(((t : Nat) : Int), 0), (x5, 0)] [(((t : Nat) : Int), 0), (((b : Nat) : Int), 0), (s (zrho (t + 23) x2.toNat) 1, 0)] rfl rfl rfl (fun m l => h1 g1 m (Nat.lt_of_lt_of_le l (Nat.le_refl n)))

theorem b_X6_climbs_33 {n : Nat} {Q : Zr → Prop} {t b : Nat} (x2 x3 x4 x5 x6 v0 y2 : Int) (s : Zs) (ht : t = 7 ∨ t = 43) (hb : isSt b = true)
    (h0 : ∀ m, m < n → zC m 777 [(((b : Nat) : Int), 0), (((t : Nat) : Int), 0), (v0, 0), (x3, 0)] s (fun p => zT (zE 771) (Pt PX6_climbs) m (37, [((b : Nat) : Int), ((t : Nat) : Int), x2, x3, x4, x5, x6], p.1 ++ [(y2, 0)], p.2) Q)) : zT (zE 771) (Pt PX6_climbs) n (33, [((b : Nat) : Int), ((t : Nat) : Int), x2, x3, x4, x5, x6], [(v0, 0), (((t : Nat) : Int), 0), (((b : Nat) : Int), 0), (y2, 0)], s) Q := by
  refine tL x3 0 rfl rfl rfl ?_
  exact tCall [(((b : Nat) : Int), 0), (((t : Nat) : Int), 0), (v0, 0), (x3, 0)] [(y2, 0)] rfl rfl rfl (fun m l => h0 m (Nat.lt_of_lt_of_le l (Nat.le_refl n)))

theorem b_X6_climbs_37 {n : Nat} {Q : Zr → Prop} {t b : Nat} (x2 x3 x4 x5 x6 v0 y0 : Int) (s : Zs) (ht : t = 7 ∨ t = 43) (hb : isSt b = true)
    (h0 : ∀ (g1 : w32 (y0 + v0) < s (zrho (t + 12) x5.toNat) 2), ∀ m, m < n → zT (zE 771) (Pt PX6_climbs) m (6, [((b : Nat) : Int), ((t : Nat) : Int), x2, x3, x4, w32 (x5 + 1), w32 (y0 + v0)], [], s) Q)
    (h1 : ∀ (g1 : s (zrho (t + 12) x5.toNat) 2 ≤ w32 (y0 + v0)), ∀ m, m < n → zT (zE 771) (Pt PX6_climbs) m (6, [((b : Nat) : Int), ((t : Nat) : Int), x2, x3, zor x4 (zshl 1 x5), w32 (x5 + 1), w32 (y0 + v0)], [], s) Q) : zT (zE 771) (Pt PX6_climbs) n (37, [((b : Nat) : Int), ((t : Nat) : Int), x2, x3, x4, x5, x6], [(v0, 0), (y0, 0)], s) Q := by
  refine tB (v := w32 (y0 + v0)) rfl rfl ?_
  refine tS [((b : Nat) : Int), ((t : Nat) : Int), x2, x3, x4, x5, w32 (y0 + v0)] rfl rfl ?_
  refine tL ((t : Nat) : Int) 0 rfl rfl rfl ?_
  refine tFR (c := t) (t + 12) rfl rfl rfl rfl (zt8_1 ht) ?_
  refine tL x5 0 rfl rfl rfl ?_
  refine tAR (zrho (t + 12) x5.toNat) rfl rfl ?_
  refine tK rfl ?_
  refine tAv (zrho (t + 12) x5.toNat) 2 (s (zrho (t + 12) x5.toNat) 2) 0 rfl rfl rfl (by decide) rfl rfl ?_
  refine tL (w32 (y0 + v0)) 0 rfl rfl rfl ?_
  refine tJ4 rfl (fun g1 _ l1 => zT_le ?_ (Nat.le_of_lt l1)) (fun g1 _ l1 => zT_le ?_ (Nat.le_of_lt l1))
  · refine tInc [((b : Nat) : Int), ((t : Nat) : Int), x2, x3, x4, w32 (x5 + 1), w32 (y0 + v0)] rfl rfl ?_
    exact tGb rfl (fun m2 l2 => h0 g1 m2 (Nat.lt_of_lt_of_le l2 (Nat.le_refl n)))
  · refine tL x4 0 rfl rfl rfl ?_
    refine tK rfl ?_
    refine tL x5 0 rfl rfl rfl ?_
    refine tB (v := zshl 1 x5) rfl rfl ?_
    refine tB (v := zor x4 (zshl 1 x5)) rfl rfl ?_
    refine tS [((b : Nat) : Int), ((t : Nat) : Int), x2, x3, zor x4 (zshl 1 x5), x5, w32 (y0 + v0)] rfl rfl ?_
    refine tInc [((b : Nat) : Int), ((t : Nat) : Int), x2, x3, zor x4 (zshl 1 x5), w32 (x5 + 1), w32 (y0 + v0)] rfl rfl ?_
    exact tGb rfl (fun m2 l2 => h1 g1 m2 (Nat.lt_of_lt_of_le l2 (Nat.le_refl n)))

theorem c_X6_climbs {n : Nat} {Q : Zr → Prop} {a0 a1 a2 a3 : Int} {s : Zs} (h : zT (zE 771) (Pt PX6_climbs) n (0, [a0, a1, a2, a3, 0, 0, 0], [], s) Q) : zC n 771 [(a0, 0), (a1, 0), (a2, 0), (a3, 0)] s Q := h

theorem b_X6_open_0 {n : Nat} {Q : Zr → Prop} {t b : Nat} (x2 x3 : Int) (s : Zs) (ht : t = 7 ∨ t = 43) (hb : isSt b = true)
    (h0 : ∀ m, m < n → zC m 771 [(((b : Nat) : Int), 0), (((t : Nat) : Int), 0), (x2, 0), (x3, 0)] s (fun p => zT (zE 778) (Pt PX6_open) m (11, [((b : Nat) : Int), ((t : Nat) : Int), x2, x3], p.1 ++ [(s b 0, 0)], p.2) Q)) : zT (zE 778) (Pt PX6_open) n (0, [((b : Nat) : Int), ((t : Nat) : Int), x2, x3], [], s) Q := by
  refine tL ((b : Nat) : Int) 0 rfl rfl rfl ?_
  refine tFv (c := b) (s b 0) 0 rfl rfl rfl rfl rfl ?_
  refine tL ((b : Nat) : Int) 0 rfl rfl rfl ?_
  refine tL ((t : Nat) : Int) 0 rfl rfl rfl ?_
  refine tL x2 0 rfl rfl rfl ?_
  refine tL x3 0 rfl rfl rfl ?_
  exact tCall [(((b : Nat) : Int), 0), (((t : Nat) : Int), 0), (x2, 0), (x3, 0)] [(s b 0, 0)] rfl rfl rfl (fun m l => h0 m (Nat.lt_of_lt_of_le l (Nat.le_refl n)))

theorem b_X6_open_11 {n : Nat} {Q : Zr → Prop} {t b : Nat} (x2 x3 v0 y0 : Int) (s : Zs) (ht : t = 7 ∨ t = 43) (hb : isSt b = true)
    (h0 : Q ([(zor y0 v0, 0)], s)) : zT (zE 778) (Pt PX6_open) n (11, [((b : Nat) : Int), ((t : Nat) : Int), x2, x3], [(v0, 0), (y0, 0)], s) Q := by
  refine tB (v := zor y0 v0) rfl rfl ?_
  exact tR rfl (h0)

theorem c_X6_open {n : Nat} {Q : Zr → Prop} {a0 a1 a2 a3 : Int} {s : Zs} (h : zT (zE 778) (Pt PX6_open) n (0, [a0, a1, a2, a3], [], s) Q) : zC n 778 [(a0, 0), (a1, 0), (a2, 0), (a3, 0)] s Q := h

theorem b_X6_lack_0 {n : Nat} {Q : Zr → Prop} {t b : Nat} (x2 x3 : Int) (s : Zs) (ht : t = 7 ∨ t = 43) (hb : isSt b = true)
    (h0 : ∀ m, m < n → zC m 1043 [(((t : Nat) : Int), 0), (x3, 0), (s (zrho (t + 23) x2.toNat) 3, 0)] s (fun p => zT (zE 776) (Pt PX6_lack) m (13, [((b : Nat) : Int), ((t : Nat) : Int), x2, x3], p.1 ++ [], p.2) Q)) : zT (zE 776) (Pt PX6_lack) n (0, [((b : Nat) : Int), ((t : Nat) : Int), x2, x3], [], s) Q := by
  refine tL ((t : Nat) : Int) 0 rfl rfl rfl ?_
  refine tL x3 0 rfl rfl rfl ?_
  refine tL ((t : Nat) : Int) 0 rfl rfl rfl ?_
  refine tFR (c := t) (t + 23) rfl rfl rfl rfl (zt8_3 ht) ?_
  refine tL x2 0 rfl rfl rfl ?_
  refine tAR (zrho (t + 23) x2.toNat) rfl rfl ?_
  refine tK rfl ?_
  refine tAv (zrho (t + 23) x2.toNat) 3 (s (zrho (t + 23) x2.toNat) 3) 0 rfl rfl rfl (by decide) rfl rfl ?_
  exact tCall [(((t : Nat) : Int), 0), (x3, 0), (s (zrho (t + 23) x2.toNat) 3, 0)] [] rfl rfl rfl (fun m l => h0 m (Nat.lt_of_lt_of_le l (Nat.le_refl n)))

theorem b_X6_lack_13 {n : Nat} {Q : Zr → Prop} {t b : Nat} (x2 x3 v0 : Int) (s : Zs) (ht : t = 7 ∨ t = 43) (hb : isSt b = true)
    (h0 : ∀ m, m < n → zC m 771 [(((b : Nat) : Int), 0), (((t : Nat) : Int), 0), (x2, 0), ((-1), 0)] s (fun p => zT (zE 776) (Pt PX6_lack) m (20, [((b : Nat) : Int), ((t : Nat) : Int), x2, x3], p.1 ++ [(v0, 0)], p.2) Q)) : zT (zE 776) (Pt PX6_lack) n (13, [((b : Nat) : Int), ((t : Nat) : Int), x2, x3], [(v0, 0)], s) Q := by
  refine tL ((b : Nat) : Int) 0 rfl rfl rfl ?_
  refine tL ((t : Nat) : Int) 0 rfl rfl rfl ?_
  refine tL x2 0 rfl rfl rfl ?_
  refine tK rfl ?_
  exact tCall [(((b : Nat) : Int), 0), (((t : Nat) : Int), 0), (x2, 0), ((-1), 0)] [(v0, 0)] rfl rfl rfl (fun m l => h0 m (Nat.lt_of_lt_of_le l (Nat.le_refl n)))

theorem b_X6_lack_20 {n : Nat} {Q : Zr → Prop} {t b : Nat} (x2 x3 v0 y0 : Int) (s : Zs) (ht : t = 7 ∨ t = 43) (hb : isSt b = true)
    (h0 : Q ([(zand y0 (zxor v0 (-1)), 0)], s)) : zT (zE 776) (Pt PX6_lack) n (20, [((b : Nat) : Int), ((t : Nat) : Int), x2, x3], [(v0, 0), (y0, 0)], s) Q := by
  refine tK rfl ?_
  refine tB (v := zxor v0 (-1)) rfl rfl ?_
  refine tB (v := zand y0 (zxor v0 (-1))) rfl rfl ?_
  exact tR rfl (h0)

theorem c_X6_lack {n : Nat} {Q : Zr → Prop} {a0 a1 a2 a3 : Int} {s : Zs} (h : zT (zE 776) (Pt PX6_lack) n (0, [a0, a1, a2, a3], [], s) Q) : zC n 776 [(a0, 0), (a1, 0), (a2, 0), (a3, 0)] s Q := h

theorem b_X6_isThere_0 {n : Nat} {Q : Zr → Prop} {t b : Nat} (x2 : Int) (s : Zs) (ht : t = 7 ∨ t = 43) (hb : isSt b = true)
    (h0 : ∀ (g2 : x2 < 0), Q ([(0, 0)], s))
    (h1 : ∀ (g3 : 0 ≤ x2), ∀ (g4 : s (t + 1) 1 ≤ x2), Q ([(0, 0)], s))
    (h2 : ∀ (g5 : 0 ≤ x2), ∀ (g6 : x2 < s (t + 1) 1), ∀ (g7 : zand (zshr (s b 0) x2) 1 ≠ 1), Q ([(0, 0)], s))
    (h3 : ∀ (g5 : 0 ≤ x2), ∀ (g6 : x2 < s (t + 1) 1), ∀ (g7 : zand (zshr (s b 0) x2) 1 = 1), Q ([(1, 0)], s)) : zT (zE 775) (Pt PX6_isThere) n (0, [((b : Nat) : Int), ((t : Nat) : Int), x2], [], s) Q := by
  refine tL ((t : Nat) : Int) 0 rfl rfl rfl ?_
  refine tK rfl ?_
  refine tL x2 0 rfl rfl rfl ?_
  refine tCall [(((t : Nat) : Int), 0), (1, 0), (x2, 0)] [] rfl rfl rfl (fun m1 l1 => c_X8_has (b_X8_has_0 1 x2 s ht ?_ ?_ ?_))
  · intro g2
    show zT (zE 775) (Pt PX6_isThere) m1 (6, [((b : Nat) : Int), ((t : Nat) : Int), x2], [(0, 0)], s) Q
    refine tI0 rfl (fun g _ l => zT_le ?_ (Nat.le_of_lt l)) (fun g _ l => (absurd g (by decide)))
    refine tK rfl ?_
    exact tR rfl (h0 g2)
  · intro g3 g4
    show zT (zE 775) (Pt PX6_isThere) m1 (6, [((b : Nat) : Int), ((t : Nat) : Int), x2], [(0, 0)], s) Q
    refine tI0 rfl (fun g _ l => zT_le ?_ (Nat.le_of_lt l)) (fun g _ l => (absurd g (by decide)))
    refine tK rfl ?_
    exact tR rfl (h1 g3 g4)
  · intro g5 g6
    show zT (zE 775) (Pt PX6_isThere) m1 (6, [((b : Nat) : Int), ((t : Nat) : Int), x2], [(1, 0)], s) Q
    refine tI0 rfl (fun g _ l => (absurd g (by decide))) (fun g _ l => zT_le ?_ (Nat.le_of_lt l))
    refine tL ((b : Nat) : Int) 0 rfl rfl rfl ?_
    refine tFv (c := b) (s b 0) 0 rfl rfl rfl rfl rfl ?_
    refine tL x2 0 rfl rfl rfl ?_
    refine tB (v := zshr (s b 0) x2) rfl rfl ?_
    refine tK rfl ?_
    refine tB (v := zand (zshr (s b 0) x2) 1) rfl rfl ?_
    refine tK rfl ?_
    refine tJ1 rfl (fun g7 _ l7 => zT_le ?_ (Nat.le_of_lt l7)) (fun g7 _ l7 => zT_le ?_ (Nat.le_of_lt l7))
    · refine tK rfl ?_
      exact tR rfl (h2 g5 g6 g7)
    · refine tK rfl ?_
      refine tG rfl ?_
      exact tR rfl (h3 g5 g6 g7)

theorem c_X6_isThere {n : Nat} {Q : Zr → Prop} {a0 a1 a2 : Int} {s : Zs} (h : zT (zE 775) (Pt PX6_isThere) n (0, [a0, a1, a2], [], s) Q) : zC n 775 [(a0, 0), (a1, 0), (a2, 0)] s Q := h

/-! whole division -/
theorem zdiv_pos {x d : Int} (h0 : 0 ≤ x) (h1 : x < 2147483648) (hd : 0 < d) (hd1 : d < 2147483648) : zdiv x d = x / d := by
  unfold zdiv
  rw [Int32.toInt_div, Int32.toInt_ofInt_of_le (by omega) (by omega), Int32.toInt_ofInt_of_le (by omega) (by omega), Int.tdiv_eq_ediv_of_nonneg h0]
  have a : 0 ≤ x / d := Int.ediv_nonneg h0 (by omega)
  have b : x / d ≤ x := Int.ediv_le_self d h0
  exact w32_id (by omega) (by omega)
theorem zrem_pos {x d : Int} (h0 : 0 ≤ x) (h1 : x < 2147483648) (hd : 0 < d) (hd1 : d < 2147483648) : zrem x d = x % d := by
  unfold zrem
  rw [Int32.toInt_sub, Int32.toInt_mul, Int32.toInt_div, Int32.toInt_ofInt_of_le (by omega) (by omega), Int32.toInt_ofInt_of_le (by omega) (by omega), Int.tdiv_eq_ediv_of_nonneg h0]
  have a : 0 ≤ x / d := Int.ediv_nonneg h0 (by omega)
  have b : x / d ≤ x := Int.ediv_le_self d h0
  have e : x % d = x - d * (x / d) := Int.emod_def x d
  have c1 : 0 ≤ x % d := Int.emod_nonneg x (by omega)
  have c2 : x % d < d := Int.emod_lt_of_pos x hd
  have e1 : (x / d).bmod (2 ^ 32) = x / d := w32_id (by omega) (by omega)
  rw [e1, Int.mul_comm (x / d) d]
  have e2 : (d * (x / d)).bmod (2 ^ 32) = d * (x / d) := w32_id (by omega) (by omega)
  rw [e2, ← e]
  exact w32_id (by omega) (by omega)
/-- how it stands: flights there, where people and things are, the heap, nights -/
abbrev ZS : Type := Nat × (Nat → Int) × (Nat → Int) × Int × Int
def sTh (S : ZS) : Nat := S.1
def sPe (S : ZS) (p : Nat) : Int := S.2.1 p
def sTg (S : ZS) (i : Nat) : Int := S.2.2.1 i
def sHp (S : ZS) : Int := S.2.2.2.1
def sNi (S : ZS) : Int := S.2.2.2.2
def cSt (s : Zs) (b : Nat) (D : ZD) (S : ZS) : Prop := s b 0 = (sTh S : Int) ∧ (∀ p, p < cnt D 3 → s (b + 1) p = sPe S p) ∧ (∀ i, i < cnt D 2 → s (b + 2) i = sTg S i) ∧ s b 3 = sHp S ∧ s b 4 = sNi S
def wS (D : ZD) (S : ZS) : Prop := sTh S < 2 ^ cnt D 1 ∧ (∀ p, p < cnt D 3 → plI D (sPe S p)) ∧ (∀ i, i < cnt D 2 → plI D (sTg S i)) ∧ 0 ≤ sHp S ∧ sHp S ≤ 999
theorem wS_lt {D : ZD} {S : ZS} (hw : wD D) (h : wS D S) : sTh S < 1024 := by
  have h10 : cnt D 1 ≤ 10 := hw.1 1 (by omega)
  have : 2 ^ cnt D 1 ≤ 2 ^ 10 := Nat.pow_le_pow_right (by decide) h10
  have := h.1
  omega
/-- what things lift at a place, but one -/
def lfS (D : ZD) (S : ZS) (w pl : Int) : Nat → Int
  | 0 => 0
  | k + 1 => lfS D S w pl k + (if sTg S k = pl ∧ (k : Int) ≠ w then colD D 20 k else 0)
def cliB (D : ZD) (S : ZS) (p : Nat) (w : Int) (f : Nat) : Bool := decide (colD D 12 f ≤ colD D 31 p + lfS D S w ((lowN D f : Nat) : Int) (cnt D 2))
def cli (D : ZD) (S : ZS) (p : Nat) (w : Int) : Nat := bset (cliB D S p w) (cnt D 1)
def opn (D : ZD) (S : ZS) (p : Nat) (w : Int) : Nat := sTh S ||| cli D S p w
/-- flights between places -/
def strB (D : ZD) (a b : Nat) : Nat := bset (fun f => decide (a ≤ lowN D f) && decide (lowN D f < b)) (cnt D 1)
noncomputable def stV (D : ZD) (a b : Nat) : Int := if dcP (∀ q, a ≤ q → q < b → upF D q ≠ -1) = true then ((strB D a b : Nat) : Int) else -1
def waB (D : ZD) (a b : Nat) : Nat := bset (fun f => decide (onW a b (lowN D f))) (cnt D 1)
noncomputable def waV (D : ZD) (x y : Int) : Int := if dcP (plI D x ∧ plI D y ∧ ∀ q, onW x.toNat y.toNat q → upF D q ≠ -1) = true then ((waB D x.toNat y.toNat : Nat) : Int) else -1
section Zcs
variable {N t b : Nat} {s : Zs} {D : ZD} {S : ZS}
theorem lfS_bd (hw : wD D) (hX : wX D) {w pl : Int} : ∀ k, k ≤ cnt D 2 → 0 ≤ lfS D S w pl k ∧ lfS D S w pl k ≤ 40 * k
  | 0, _ => ⟨Int.le_refl 0, Int.le_refl 0⟩
  | k + 1, hk => by
    have ih := lfS_bd hw hX (w := w) (pl := pl) k (by omega)
    have c := hX.2.2.2.1 _ (col_mem' hw (k := 2) (j := 0) (by omega) (by omega) (by decide) (show k < cnt D 2 by omega))
    have c : 1 ≤ colD D 20 k ∧ colD D 20 k ≤ 40 := c
    unfold lfS
    split <;> omega
theorem bset_10 {p : Nat → Bool} (hw : wD D) : bset p (cnt D 1) < 1024 := by
  have h10 : cnt D 1 ≤ 10 := hw.1 1 (by omega)
  have : 2 ^ cnt D 1 ≤ 2 ^ 10 := Nat.pow_le_pow_right (by decide) h10
  have := bset_lt p (cnt D 1)
  omega
theorem plI_nat (hw : wD D) {x : Int} (h : plI D x) : isPN D x.toNat ∧ x = ((x.toNat : Nat) : Int) ∧ x.toNat < 30 := by
  obtain ⟨k, hk⟩ := Int.eq_ofNat_of_zero_le h.1
  subst hk
  have h2 : isPN D k := h.2
  exact ⟨h2, rfl, (pl_h hw h2).2⟩
theorem isPlace_ok (ht : t = 7 ∨ t = 43) (hd : cDn s t D) (hw : wD D) {x : Int} (hx : x < 2147483648) : zC N 1036 [((t : Int), 0), (x, 0)] s (fun r => r = ([(if dcP (plI D x) = true then 1 else 0, 0)], s)) := by
  have hc : s (t + 1) 0 = ((cnt D 0 : Nat) : Int) := hd.1 0 (by omega)
  have hl : (dC D 0).length = cnt D 0 := hw.2.2.2.1
  have hcl : cnt D 0 = (dN D 0).length := rfl
  have yes : plI D x → ([((1 : Int), 0)], s) = (([(if dcP (plI D x) = true then 1 else 0, 0)], s) : Zr) := fun q => by rw [if_pos (dcP_yes q)]
  have no : ¬ plI D x → ([((0 : Int), 0)], s) = (([(if dcP (plI D x) = true then 1 else 0, 0)], s) : Zr) := fun q => by rw [if_neg (by rw [dcP_no q]; decide)]
  have fl : 0 ≤ x → x / 6 < cnt D 0 → s (t + 33) (x / 6).toNat = flr D (x / 6) := fun h0 h1 => by
    have hlt : (x / 6).toNat < (dC D 0).length := by omega
    have e := hd.2.2.1 _ _ (List.getElem?_eq_getElem hlt)
    rw [e]
    unfold flr
    rw [if_pos ⟨by omega, by omega⟩, List.getElem?_eq_getElem hlt]
    rfl
  refine c_X8_isPlace (b_X8_isPlace_0 _ s ht (fun g => no (fun q => by have := q.1; omega)) (fun g g2 _ => ?_) (fun g g2 _ => ?_) (fun g g2 g3 _ => ?_) (fun g g2 g3 g4 => ?_) (fun g g2 g3 g4 => ?_) (fun g g2 g3 g4 => ?_))
  all_goals
    have e1 : zdiv x 6 = x / 6 := zdiv_pos g hx (by decide) (by decide)
    have e2 : zrem x 6 = x % 6 := zrem_pos g hx (by decide) (by decide)
  · rw [e1] at g2; omega
  · rw [e1] at g2; omega
  · rw [e1, hc] at g3
    refine no (fun q => ?_)
    have q2 := q.2
    have := flr_in (D := D) (a := x / 6) (by omega)
    omega
  · rw [e2] at g4; omega
  · rw [e1, hc] at g3
    rw [e1, e2, fl g g3] at g4
    exact no (fun q => by have := q.2; omega)
  · rw [e1, hc] at g3
    rw [e1, e2, fl g g3] at g4
    exact yes ⟨g, g4⟩
theorem lowerOf_ok (ht : t = 7 ∨ t = 43) (hd : cDn s t D) (hw : wD D) {f : Nat} (hf : f < cnt D 1) : zC N 1038 [((t : Int), 0), ((f : Int), 0)] s (fun r => r = ([(((lowN D f : Nat) : Int), 0)], s)) := by
  have h10 : cnt D 1 ≤ 10 := hw.1 1 (by omega)
  have c0 : cnt D 0 ≤ 5 := hw.1 0 (by omega)
  have bd := fl_bd hw hf
  have r0 : s (zrho (t + 12) f) 0 = colD D 10 f := by rw [zrow1 ht (by omega)]; exact cDn_col hd hw (k := 1) (j := 0) (by omega) (by omega) (by decide) hf
  have r1 : s (zrho (t + 12) f) 1 = colD D 11 f := by rw [zrow1 ht (by omega)]; exact cDn_col hd hw (k := 1) (j := 1) (by omega) (by omega) (by decide) hf
  refine c_X8_lowerOf (b_X8_lowerOf_0 _ s ht ?_)
  rw [Int.toNat_natCast, r0, r1, w32_id (z := colD D 10 f * 6) (by omega) (by omega), w32_id (by omega) (by omega)]
  have e : colD D 10 f * 6 + colD D 11 f = ((lowN D f : Nat) : Int) := by unfold lowN; omega
  rw [e]
theorem stairs_ok (ht : t = 7 ∨ t = 43) (hd : cDn s t D) (hw : wD D) (hX : wX D) {a c : Nat} (hac : a ≤ c) (hc : c ≤ 30) : zC N 1042 [((t : Int), 0), ((a : Int), 0), ((c : Int), 0)] s (fun r => r = ([(stV D a c, 0)], s)) := by
  have h10 : cnt D 1 ≤ 10 := hw.1 1 (by omega)
  have loop : ∀ (M k : Nat), a ≤ k → k ≤ c → (∀ q, a ≤ q → q < k → upF D q ≠ -1) → zT (zE 1042) (Pt PX8_stairs) M (5, [((t : Nat) : Int), (a : Int), (c : Int), ((strB D a k : Nat) : Int), (k : Int)], [], s) (fun r => r = ([(stV D a c, 0)], s)) := by
    intro M
    induction M using Nat.strongRecOn with
    | ind M ih =>
      intro k h1 h2 h3
      have up : k < c → s (t + 34) k = upF D k := fun h => hd.2.2.2.2 k (by omega)
      refine b_X8_stairs_5 _ _ _ _ s ht (fun g => ?_) (fun g g2 m hm => ?_) (fun g g2 => ?_)
      · have : k = c := by omega
        subst this
        unfold stV
        rw [if_pos (dcP_yes h3)]
      · rw [Int.toNat_natCast, up (by omega)] at g2 ⊢
        obtain ⟨u1, u2, u3, u4⟩ := upF_get hw g2
        obtain ⟨j, hj⟩ := Int.eq_ofNat_of_zero_le u1
        rw [hj, Int.toNat_natCast] at u2 u3
        rw [hj, w32_id (z := (k : Int) + 1) (by omega) (by omega), show (k : Int) + 1 = ((k + 1 : Nat) : Int) from by omega]
        have e : zor ((strB D a k : Nat) : Int) (zshl 1 ((j : Nat) : Int)) = ((strB D a (k + 1) : Nat) : Int) := by
          have b1 : strB D a k < 1024 := bset_10 hw
          have b2 : 2 ^ j ≤ 2 ^ 9 := Nat.pow_le_pow_right (by decide) (by omega)
          have b3 : (2 : Nat) ^ 9 = 512 := by decide
          rw [zshl_1 j (by omega), zor_nat (by omega) (by omega)]
          congr 1
          apply Nat.eq_of_testBit_eq
          intro i
          rw [Nat.testBit_or, Nat.testBit_two_pow]
          unfold strB
          rw [bset_tb, bset_tb]
          by_cases hi : i < cnt D 1
          · rw [decide_eq_true hi, Bool.true_and, Bool.true_and]
            by_cases e : j = i
            · subst e
              rw [decide_eq_true rfl, Bool.or_true, u3, decide_eq_true h1, decide_eq_true (show k < k + 1 by omega)]
              rfl
            · have ne : lowN D i ≠ k := fun q => by
                have a1 := upF_low hw hX hi
                rw [q, hj] at a1
                omega
              rw [decide_eq_false e, Bool.or_false]
              by_cases l : lowN D i < k
              · rw [decide_eq_true l, decide_eq_true (show lowN D i < k + 1 by omega)]
              · rw [decide_eq_false l, decide_eq_false (show ¬ lowN D i < k + 1 by omega)]
          · have e : j ≠ i := by omega
            rw [decide_eq_false hi, decide_eq_false e]
            rfl
        rw [e]
        refine ih m hm (k + 1) (by omega) (by omega) (fun q q1 q2 => ?_)
        by_cases e : q = k
        · rw [e]; exact g2
        · exact h3 q q1 (by omega)
      · rw [Int.toNat_natCast, up (by omega)] at g2
        unfold stV
        rw [if_neg (by rw [dcP_no (fun q => q k h1 (by omega) g2)]; decide)]
  have e0 : strB D a a = 0 := by
    apply Nat.eq_of_testBit_eq
    intro i
    unfold strB
    rw [bset_tb, Nat.zero_testBit]
    by_cases l : a ≤ lowN D i
    · rw [decide_eq_false (show ¬ lowN D i < a by omega), Bool.and_false, Bool.and_false]
    · rw [decide_eq_false l, Bool.false_and, Bool.and_false]
  have := loop N a (Nat.le_refl a) hac (fun q q1 q2 => by omega)
  rw [e0] at this
  exact c_X8_stairs (b_X8_stairs_0 _ _ _ _ s ht this)
theorem zor_m1 {x : Int} : zor (-1) x = -1 := by
  show (BitVec.ofInt 32 (-1) ||| BitVec.ofInt 32 x).toInt = -1
  rw [show BitVec.ofInt 32 (-1) = BitVec.allOnes 32 from by decide, BitVec.allOnes_or]
  decide
theorem zor_m2 {x : Int} : zor x (-1) = -1 := by
  show (BitVec.ofInt 32 x ||| BitVec.ofInt 32 (-1)).toInt = -1
  rw [show BitVec.ofInt 32 (-1) = BitVec.allOnes 32 from by decide, BitVec.or_allOnes]
  decide
theorem way_ok (ht : t = 7 ∨ t = 43) (hd : cDn s t D) (hw : wD D) (hX : wX D) {x y : Int} (hx : x < 2147483648) (hy : y < 2147483648) : zC N 1043 [((t : Int), 0), (x, 0), (y, 0)] s (fun r => r = ([(waV D x y, 0)], s)) := by
  have no : ¬ (plI D x ∧ plI D y ∧ ∀ q, onW x.toNat y.toNat q → upF D q ≠ -1) → ([((-1 : Int), 0)], s) = (([(waV D x y, 0)], s) : Zr) := fun q => by
    unfold waV
    rw [if_neg (by rw [dcP_no q]; decide)]
  refine c_X8_way (b_X8_way_0 _ _ 0 0 s ht (fun m _ => ?_))
  refine zC_q (isPlace_ok ht hd hw hx) (fun r hr => ?_)
  subst hr
  refine b_X8_way_5 _ _ _ _ _ s ht (fun g => no (fun q => by rw [if_pos (dcP_yes q.1)] at g; omega)) (fun g m1 _ => ?_)
  have px : plI D x := Decidable.byContradiction fun c => g (if_neg (by rw [dcP_no c]; decide))
  refine zC_q (isPlace_ok ht hd hw hy) (fun r hr => ?_)
  subst hr
  have nx := plI_nat hw px
  have d1 : zdiv x 6 = ((x.toNat / 6 : Nat) : Int) := by rw [zdiv_pos px.1 hx (by decide) (by decide)]; omega
  refine b_X8_way_13 _ _ _ _ _ s ht (fun g g2 m2 _ => ?_) (fun g g2 m2 _ => ?_) (fun g => no (fun q => by rw [if_pos (dcP_yes q.2.1)] at g; omega))
  all_goals
    have py : plI D y := Decidable.byContradiction fun c => g (if_neg (by rw [dcP_no c]; decide))
    have ny := plI_nat hw py
    have d2 : zdiv y 6 = ((y.toNat / 6 : Nat) : Int) := by rw [zdiv_pos py.1 hy (by decide) (by decide)]; omega
    rw [d1, d2] at g2
  · have ne : x.toNat / 6 ≠ y.toNat / 6 := by omega
    rw [d1, d2, show w32 (((x.toNat / 6 : Nat) : Int) * 6) = ((x.toNat / 6 * 6 : Nat) : Int) from by rw [w32_id (by omega) (by omega)]; omega]
    have st := stairs_ok (N := m2) ht hd hw hX (a := x.toNat / 6 * 6) (c := x.toNat) (by omega) (by omega)
    rw [← nx.2.1] at st
    refine zC_q st (fun r hr => ?_)
    subst hr
    refine b_X8_way_59 _ _ _ _ _ s ht (fun m3 _ => ?_)
    rw [show w32 (((y.toNat / 6 : Nat) : Int) * 6) = ((y.toNat / 6 * 6 : Nat) : Int) from by rw [w32_id (by omega) (by omega)]; omega]
    have st2 := stairs_ok (N := m3) ht hd hw hX (a := y.toNat / 6 * 6) (c := y.toNat) (by omega) (by omega)
    rw [← ny.2.1] at st2
    refine zC_q st2 (fun r hr => ?_)
    subst hr
    refine b_X8_way_69 _ _ _ _ _ _ s ht ?_
    unfold stV
    by_cases q1 : ∀ q, x.toNat / 6 * 6 ≤ q → q < x.toNat → upF D q ≠ -1
    · rw [if_pos (dcP_yes q1)]
      by_cases q2 : ∀ q, y.toNat / 6 * 6 ≤ q → q < y.toNat → upF D q ≠ -1
      · rw [if_pos (dcP_yes q2)]
        unfold waV
        rw [if_pos (dcP_yes ⟨px, py, fun q hq => by
          rcases (show (x.toNat / 6 * 6 ≤ q ∧ q < x.toNat) ∨ (y.toNat / 6 * 6 ≤ q ∧ q < y.toNat) by unfold onW at hq; omega) with u | u
          · exact q1 q u.1 u.2
          · exact q2 q u.1 u.2⟩)]
        have b1 : strB D (x.toNat / 6 * 6) x.toNat < 1024 := bset_10 hw
        have b2 : strB D (y.toNat / 6 * 6) y.toNat < 1024 := bset_10 hw
        rw [zor_nat (by omega) (by omega)]
        have e : strB D (x.toNat / 6 * 6) x.toNat ||| strB D (y.toNat / 6 * 6) y.toNat = waB D x.toNat y.toNat := by
          apply Nat.eq_of_testBit_eq
          intro i
          rw [Nat.testBit_or]
          unfold strB waB
          rw [bset_tb, bset_tb, bset_tb]
          by_cases hi : i < cnt D 1
          · rw [decide_eq_true hi, Bool.true_and, Bool.true_and, Bool.true_and]
            generalize lowN D i = l
            rw [Bool.eq_iff_iff]
            simp only [Bool.or_eq_true, Bool.and_eq_true, decide_eq_true_eq]
            unfold onW
            omega
          · rw [decide_eq_false hi]; rfl
        rw [e]
      · rw [if_neg (by rw [dcP_no q2]; decide), zor_m2]
        exact no (fun q => q2 (fun k u v => q.2.2 k (by unfold onW; omega)))
    · rw [if_neg (by rw [dcP_no q1]; decide), zor_m1]
      exact no (fun q => q1 (fun k u v => q.2.2 k (by unfold onW; omega)))
  · have eh : x.toNat / 6 = y.toNat / 6 := by omega
    have fin : ∀ (a c : Nat), a ≤ c → c ≤ 30 → (∀ q, (a ≤ q ∧ q < c) ↔ onW x.toNat y.toNat q) → stV D a c = waV D x y := fun a c h1 h2 h3 => by
      unfold stV waV
      by_cases q1 : ∀ q, a ≤ q → q < c → upF D q ≠ -1
      · rw [if_pos (dcP_yes q1), if_pos (dcP_yes ⟨px, py, fun q hq => q1 q ((h3 q).mpr hq).1 ((h3 q).mpr hq).2⟩)]
        congr 1
        unfold strB waB
        refine bset_congr (fun i hi => ?_)
        rw [Bool.eq_iff_iff]
        simp only [Bool.and_eq_true, decide_eq_true_eq]
        exact h3 _
      · rw [if_neg (by rw [dcP_no q1]; decide), if_neg (by rw [dcP_no (fun q => q1 (fun k u v => q.2.2 k ((h3 k).mp ⟨u, v⟩)))]; decide)]
    by_cases l : y < x
    · rw [if_pos l, if_neg (show ¬ x < y by omega)]
      have st := stairs_ok (N := m2) ht hd hw hX (a := y.toNat) (c := x.toNat) (by omega) (by omega)
      rw [← nx.2.1, ← ny.2.1] at st
      refine zC_q st (fun r hr => ?_)
      subst hr
      refine b_X8_way_49 _ _ _ _ _ s ht ?_
      rw [fin _ _ (by omega) (by omega) (fun q => by unfold onW; omega)]
    · have e1 : (if y < x then y else x) = x := if_neg l
      have e2 : (if x < y then y else x) = y := by
        split
        · rfl
        · omega
      rw [e1, e2]
      have st := stairs_ok (N := m2) ht hd hw hX (a := x.toNat) (c := y.toNat) (by omega) (by omega)
      rw [← nx.2.1, ← ny.2.1] at st
      refine zC_q st (fun r hr => ?_)
      subst hr
      refine b_X8_way_49 _ _ _ _ _ s ht ?_
      rw [fin _ _ (by omega) (by omega) (fun q => by unfold onW; omega)]
theorem liftAt_ok (ht : t = 7 ∨ t = 43) (hb : isSt b = true) (hd : cDn s t D) (hw : wD D) (hX : wX D) (hS : cSt s b D S) {pl w : Int} : zC N 777 [((b : Int), 0), ((t : Int), 0), (pl, 0), (w, 0)] s (fun r => r = ([(lfS D S w pl (cnt D 2), 0)], s)) := by
  have h4 : cnt D 2 ≤ 4 := hw.1 2 (by omega)
  have hc : s (t + 1) 2 = ((cnt D 2 : Nat) : Int) := hd.1 2 (by omega)
  have loop : ∀ (M k : Nat), k ≤ cnt D 2 → zT (zE 777) (Pt PX6_liftAt) M (6, [((b : Nat) : Int), ((t : Nat) : Int), pl, w, lfS D S w pl k, (k : Int)], [], s) (fun r => r = ([(lfS D S w pl (cnt D 2), 0)], s)) := by
    intro M
    induction M using Nat.strongRecOn with
    | ind M ih =>
      intro k hk
      have on : ∀ (m : Nat) (v : Int), m < M → k < cnt D 2 → v = lfS D S w pl (k + 1) → zT (zE 777) (Pt PX6_liftAt) m (6, [((b : Nat) : Int), ((t : Nat) : Int), pl, w, v, w32 ((k : Int) + 1)], [], s) (fun r => r = ([(lfS D S w pl (cnt D 2), 0)], s)) := fun m v hm hk2 hv => by
        rw [hv, w32_id (by omega) (by omega), show (k : Int) + 1 = ((k + 1 : Nat) : Int) from by omega]
        exact ih m hm (k + 1) (by omega)
      have un : lfS D S w pl (k + 1) = lfS D S w pl k + (if sTg S k = pl ∧ (k : Int) ≠ w then colD D 20 k else 0) := rfl
      refine b_X6_liftAt_6 _ _ _ _ s ht hb (fun g => ?_) (fun g g2 m hm => ?_) (fun g g2 g3 m hm => ?_) (fun g g2 g3 m hm => ?_)
      · have : k = cnt D 2 := by omega
        subst this
        rfl
      · rw [Int.toNat_natCast, hS.2.2.1 k (by omega)] at g2
        exact on m _ hm (by omega) (by rw [un, if_neg (fun q => g2 q.1), Int.add_zero])
      · exact on m _ hm (by omega) (by rw [un, if_neg (fun q => q.2 g3), Int.add_zero])
      · rw [Int.toNat_natCast, hS.2.2.1 k (by omega)] at g2
        have hk2 : k < cnt D 2 := by omega
        have r0 : s (zrho (t + 17) (k : Int).toNat) 0 = colD D 20 k := by rw [Int.toNat_natCast, zrow2 ht (by omega)]; exact cDn_col hd hw (k := 2) (j := 0) (by omega) (by omega) (by decide) hk2
        have b1 := lfS_bd (S := S) (w := w) (pl := pl) hw hX k (by omega)
        have c := hX.2.2.2.1 _ (col_mem' hw (k := 2) (j := 0) (by omega) (by omega) (by decide) hk2)
        have c : 1 ≤ colD D 20 k ∧ colD D 20 k ≤ 40 := c
        rw [r0]
        exact on m _ hm hk2 (by rw [un, if_pos ⟨g2, g3⟩, w32_id (by omega) (by omega)])
  exact c_X6_liftAt (b_X6_liftAt_0 _ _ _ _ s ht hb (loop N 0 (by omega)))
theorem climbs_ok (ht : t = 7 ∨ t = 43) (hb : isSt b = true) (hd : cDn s t D) (hw : wD D) (hX : wX D) (hS : cSt s b D S) {p : Nat} (hp : p < cnt D 3) {w : Int} : zC N 771 [((b : Int), 0), ((t : Int), 0), ((p : Int), 0), (w, 0)] s (fun r => r = ([(((cli D S p w : Nat) : Int), 0)], s)) := by
  have h10 : cnt D 1 ≤ 10 := hw.1 1 (by omega)
  have h5 : cnt D 3 ≤ 5 := hw.1 3 (by omega)
  have h4 : cnt D 2 ≤ 4 := hw.1 2 (by omega)
  have hc : s (t + 1) 1 = ((cnt D 1 : Nat) : Int) := hd.1 1 (by omega)
  have rr : s (zrho (t + 23) (p : Int).toNat) 1 = colD D 31 p := by rw [Int.toNat_natCast, zrow3 ht (by omega)]; exact cDn_col hd hw (k := 3) (j := 1) (by omega) (by omega) (by decide) hp
  have cr := hX.2.2.2.2.2.2.1 _ (col_mem' hw (k := 3) (j := 1) (by omega) (by omega) (by decide) hp)
  have cr : 0 ≤ colD D 31 p ∧ colD D 31 p ≤ 40 := cr
  have loop : ∀ (M k : Nat) (x6 : Int), k ≤ cnt D 1 → zT (zE 771) (Pt PX6_climbs) M (6, [((b : Nat) : Int), ((t : Nat) : Int), (p : Int), w, ((bset (cliB D S p w) k : Nat) : Int), (k : Int), x6], [], s) (fun r => r = ([(((cli D S p w : Nat) : Int), 0)], s)) := by
    intro M
    induction M using Nat.strongRecOn with
    | ind M ih =>
      intro k x6 hk
      refine b_X6_climbs_6 _ _ _ _ _ s ht hb (fun g => ?_) (fun g m hm => ?_)
      · have : k = cnt D 1 := by omega
        subst this
        rfl
      have hk2 : k < cnt D 1 := by omega
      rw [rr]
      refine zC_q (lowerOf_ok ht hd hw hk2) (fun r hr => ?_)
      subst hr
      refine b_X6_climbs_33 _ _ _ _ _ _ _ s ht hb (fun m2 hm2 => ?_)
      refine zC_q (liftAt_ok ht hb hd hw hX hS) (fun r hr => ?_)
      subst hr
      have bl := lfS_bd (S := S) (w := w) (pl := ((lowN D k : Nat) : Int)) hw hX (cnt D 2) (Nat.le_refl _)
      have ev : w32 (colD D 31 p + lfS D S w ((lowN D k : Nat) : Int) (cnt D 2)) = colD D 31 p + lfS D S w ((lowN D k : Nat) : Int) (cnt D 2) := w32_id (by omega) (by omega)
      have ri : s (zrho (t + 12) (k : Int).toNat) 2 = colD D 12 k := by rw [Int.toNat_natCast, zrow1 ht (by omega)]; exact cDn_col hd hw (k := 1) (j := 2) (by omega) (by omega) (by decide) hk2
      have on : ∀ (m' : Nat) (v x7 : Int), m' < M → v = ((bset (cliB D S p w) (k + 1) : Nat) : Int) → zT (zE 771) (Pt PX6_climbs) m' (6, [((b : Nat) : Int), ((t : Nat) : Int), (p : Int), w, v, w32 ((k : Int) + 1), x7], [], s) (fun r => r = ([(((cli D S p w : Nat) : Int), 0)], s)) := fun m' v x7 hm' hv => by
        rw [hv, w32_id (by omega) (by omega), show (k : Int) + 1 = ((k + 1 : Nat) : Int) from by omega]
        exact ih m' hm' (k + 1) x7 (by omega)
      refine b_X6_climbs_37 _ _ _ _ _ _ _ s ht hb (fun g m3 hm3 => ?_) (fun g m3 hm3 => ?_)
      · rw [ev, ri] at g
        exact on m3 _ _ (by omega) (by rw [bset_no]; unfold cliB; exact decide_eq_false (by omega))
      · rw [ev, ri] at g
        exact on m3 _ _ (by omega) (bset_zor (by unfold cliB; exact decide_eq_true g) (by omega))
  exact c_X6_climbs (b_X6_climbs_0 _ _ _ _ _ s ht hb (loop N 0 _ (by omega)))
theorem open_ok (ht : t = 7 ∨ t = 43) (hb : isSt b = true) (hd : cDn s t D) (hw : wD D) (hX : wX D) (hS : cSt s b D S) (hs : wS D S) {p : Nat} (hp : p < cnt D 3) {w : Int} : zC N 778 [((b : Int), 0), ((t : Int), 0), ((p : Int), 0), (w, 0)] s (fun r => r = ([(((opn D S p w : Nat) : Int), 0)], s)) := by
  refine c_X6_open (b_X6_open_0 _ _ s ht hb (fun m _ => ?_))
  refine zC_q (climbs_ok ht hb hd hw hX hS hp) (fun r hr => ?_)
  subst hr
  refine b_X6_open_11 _ _ _ _ s ht hb ?_
  have b1 := wS_lt hw hs
  have b2 : cli D S p w < 1024 := bset_10 hw
  rw [hS.1, zor_nat (by omega) (by omega)]
  rfl
theorem lack_ok (ht : t = 7 ∨ t = 43) (hb : isSt b = true) (hd : cDn s t D) (hw : wD D) (hX : wX D) (hS : cSt s b D S) {p : Nat} (hp : p < cnt D 3) {x : Int} (hx : x < 2147483648) : zC N 776 [((b : Int), 0), ((t : Int), 0), ((p : Int), 0), (x, 0)] s (fun r => r = ([(zand (waV D x (colD D 33 p)) (zxor ((cli D S p (-1) : Nat) : Int) (-1)), 0)], s)) := by
  have h5 : cnt D 3 ≤ 5 := hw.1 3 (by omega)
  have rr : s (zrho (t + 23) (p : Int).toNat) 3 = colD D 33 p := by rw [Int.toNat_natCast, zrow3 ht (by omega)]; exact cDn_col hd hw (k := 3) (j := 3) (by omega) (by omega) (by decide) hp
  have cr := hX.2.2.2.2.2.2.2.2.1 _ (col_mem' hw (k := 3) (j := 3) (by omega) (by omega) (by decide) hp)
  have cr : plI D (colD D 33 p) := cr
  have n3 := plI_nat hw cr
  refine c_X6_lack (b_X6_lack_0 _ _ s ht hb (fun m _ => ?_))
  rw [rr]
  refine zC_q (way_ok ht hd hw hX hx (by omega)) (fun r hr => ?_)
  subst hr
  refine b_X6_lack_13 _ _ _ s ht hb (fun m2 _ => ?_)
  refine zC_q (climbs_ok ht hb hd hw hX hS hp) (fun r hr => ?_)
  subst hr
  exact b_X6_lack_20 _ _ _ _ s ht hb rfl
/-- a way by what is open -/
theorem way_iff (hw : wD D) (hX : wX D) {o : Nat} (ho : o < 2147483648) {x y : Int} : zand (waV D x y) (zxor (o : Int) (-1)) = 0 ↔ plI D x ∧ plI D y ∧ wok D o x.toNat y.toNat := by
  by_cases h : plI D x ∧ plI D y ∧ ∀ q, onW x.toNat y.toNat q → upF D q ≠ -1
  · have e : waV D x y = ((waB D x.toNat y.toNat : Nat) : Int) := if_pos (dcP_yes h)
    have b1 : waB D x.toNat y.toNat < 1024 := bset_10 hw
    have nx := plI_nat hw h.1
    have ny := plI_nat hw h.2.1
    rw [e, zandn (by omega)]
    constructor
    · intro z
      have z : ndf (waB D x.toNat y.toNat) o = 0 := by omega
      refine ⟨h.1, h.2.1, nx.1, ny.1, fun q hq => ⟨h.2.2 q hq, ?_⟩⟩
      obtain ⟨u1, u2, u3, -⟩ := upF_get hw (h.2.2 q hq)
      have tb := ndf_tb (a := waB D x.toNat y.toNat) (b := o) (i := (upF D q).toNat) (by omega) (by omega)
      rw [z, Nat.zero_testBit] at tb
      have tw : (waB D x.toNat y.toNat).testBit (upF D q).toNat = true := by
        unfold waB
        rw [bset_tb, decide_eq_true u2, u3, decide_eq_true hq]
        rfl
      rw [tw, Bool.true_and] at tb
      cases hob : o.testBit (upF D q).toNat with
      | true => rfl
      | false => rw [hob] at tb; cases tb
    · intro ⟨_, _, _, _, w⟩
      have z : ndf (waB D x.toNat y.toNat) o = 0 := by
        apply Nat.eq_of_testBit_eq
        intro i
        rw [ndf_tb (by omega) (by omega), Nat.zero_testBit]
        unfold waB
        rw [bset_tb]
        by_cases hi : i < cnt D 1
        · by_cases q : onW x.toNat y.toNat (lowN D i)
          · have := (w _ q).2
            rw [upF_low hw hX hi, Int.toNat_natCast] at this
            rw [this]
            simp
          · rw [decide_eq_false q]
            simp
        · rw [decide_eq_false hi]
          simp
      rw [z]
      rfl
  · have e : waV D x y = -1 := if_neg (by rw [dcP_no h]; decide)
    have z : zand (-1) (zxor (o : Int) (-1)) ≠ 0 := by
      unfold zand
      rw [zxn]
      show (BitVec.ofInt 32 (-1) &&& ~~~ BitVec.ofNat 32 o).toInt ≠ 0
      rw [show BitVec.ofInt 32 (-1) = BitVec.allOnes 32 from by decide, BitVec.allOnes_and]
      intro q
      have q2 : ~~~ BitVec.ofNat 32 o = 0#32 := BitVec.eq_of_toInt_eq (by rw [q]; rfl)
      have q3 : BitVec.ofNat 32 o = BitVec.allOnes 32 := by
        have := congrArg (fun v => ~~~ v) q2
        simpa using this
      have q4 := congrArg BitVec.toNat q3
      rw [BitVec.toNat_ofNat, Nat.mod_eq_of_lt (by omega)] at q4
      have : (BitVec.allOnes 32).toNat = 4294967295 := by decide
      omega
    rw [e]
    exact ⟨fun q => absurd q z, fun q => absurd ⟨q.1, q.2.1, fun k hk => (q.2.2.2.2 k hk).1⟩ h⟩
end Zcs
