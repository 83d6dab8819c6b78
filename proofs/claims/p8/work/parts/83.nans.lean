/-! answers: flight, person, thing -/
theorem b_X10_flight_0 {n : Nat} {Q : Zr → Prop} {t : Nat} (x1 x2 : Int) (s : Zs) (ht : t = 7 ∨ t = 43)
    (h0 : ∀ m, m < n → zC m 1034 [(s 0 3, 0), (1, 0), (x1, 0)] s (fun p => zT (zE 1297) (Pt PX10_flight) m (9, [((0 : Nat) : Int), x1, x2], p.1 ++ [], p.2) Q)) : zT (zE 1297) (Pt PX10_flight) n (0, [((0 : Nat) : Int), x1, x2], [], s) Q := by
  refine tL ((0 : Nat) : Int) 0 rfl rfl rfl ?_
  refine tFv (c := 0) (s 0 3) 0 rfl rfl rfl rfl rfl ?_
  refine tK rfl ?_
  refine tL x1 0 rfl rfl rfl ?_
  exact tCall [(s 0 3, 0), (1, 0), (x1, 0)] [] rfl rfl rfl (fun m l => h0 m (Nat.lt_of_lt_of_le l (Nat.le_refl n)))

theorem b_X10_flight_9 {n : Nat} {Q : Zr → Prop} {t : Nat} (x1 x2 v0 : Int) (s : Zs) (ht : t = 7 ∨ t = 43)
    (h0 : ∀ (g1 : v0 = 0), Q ([((-1), 0)], s))
    (h1 : ∀ (g1 : v0 ≠ 0), ∀ (g2 : x2 < 0), Q ([((-1), 0)], s))
    (h2 : ∀ (g1 : v0 ≠ 0), ∀ (g2 : 0 ≤ x2), ∀ (g3 : x2 ≤ 4), ∀ (g4 : x2 ≤ 3), Q ([(s (zrho (zrho ((s 0 3).toNat) 1) x1.toNat) x2.toNat, 0)], s))
    (h3 : ∀ (g1 : v0 ≠ 0), ∀ (g2 : 0 ≤ x2), ∀ (g3 : x2 ≤ 4), ∀ (g4 : 3 < x2), Q ([(zand (zshr (s 79 0) x1) 1, 0)], s))
    (h4 : ∀ (g1 : v0 ≠ 0), ∀ (g2 : 0 ≤ x2), ∀ (g3 : 4 < x2), Q ([((-1), 0)], s)) : zT (zE 1297) (Pt PX10_flight) n (9, [((0 : Nat) : Int), x1, x2], [(v0, 0)], s) Q := by
  refine tI0 rfl (fun g1 _ l1 => zT_le ?_ (Nat.le_of_lt l1)) (fun g1 _ l1 => zT_le ?_ (Nat.le_of_lt l1))
  · refine tK rfl ?_
    exact tR rfl (h0 g1)
  · refine tL x2 0 rfl rfl rfl ?_
    refine tI2 rfl (fun g2 _ l2 => zT_le ?_ (Nat.le_of_lt l2)) (fun g2 _ l2 => zT_le ?_ (Nat.le_of_lt l2))
    · refine tK rfl ?_
      exact tR rfl (h1 g1 g2)
    · refine tL x2 0 rfl rfl rfl ?_
      refine tK rfl ?_
      refine tJ5 rfl (fun g3 _ l3 => zT_le ?_ (Nat.le_of_lt l3)) (fun g3 _ l3 => zT_le ?_ (Nat.le_of_lt l3))
      · refine tL x2 0 rfl rfl rfl ?_
        refine tK rfl ?_
        refine tJ5 rfl (fun g4 _ l4 => zT_le ?_ (Nat.le_of_lt l4)) (fun g4 _ l4 => zT_le ?_ (Nat.le_of_lt l4))
        · refine tL ((0 : Nat) : Int) 0 rfl rfl rfl ?_
          refine tFv (c := 0) (s 0 3) 0 rfl rfl rfl rfl rfl ?_
          refine tFR (c := (s 0 3).toNat) (zrho ((s 0 3).toNat) 1) rfl rfl rfl rfl rfl ?_
          refine tL x1 0 rfl rfl rfl ?_
          refine tAR (zrho (zrho ((s 0 3).toNat) 1) x1.toNat) rfl rfl ?_
          refine tL x2 0 rfl rfl rfl ?_
          refine tAv (zrho (zrho ((s 0 3).toNat) 1) x1.toNat) x2.toNat (s (zrho (zrho ((s 0 3).toNat) 1) x1.toNat) x2.toNat) 0 rfl rfl rfl (by decide) rfl rfl ?_
          exact tR rfl (h2 g1 g2 g3 g4)
        · refine tL ((0 : Nat) : Int) 0 rfl rfl rfl ?_
          refine tFR (c := 0) 79 rfl rfl rfl rfl rfl ?_
          refine tFv (c := 79) (s 79 0) 0 rfl rfl rfl rfl rfl ?_
          refine tL x1 0 rfl rfl rfl ?_
          refine tB (v := zshr (s 79 0) x1) rfl rfl ?_
          refine tK rfl ?_
          refine tB (v := zand (zshr (s 79 0) x1) 1) rfl rfl ?_
          refine tG rfl ?_
          exact tR rfl (h3 g1 g2 g3 g4)
      · refine tK rfl ?_
        exact tR rfl (h4 g1 g2 g3)

theorem c_X10_flight {n : Nat} {Q : Zr → Prop} {a0 a1 a2 : Int} {s : Zs} (h : zT (zE 1297) (Pt PX10_flight) n (0, [a0, a1, a2], [], s) Q) : zC n 1297 [(a0, 0), (a1, 0), (a2, 0)] s Q := h

theorem b_X10_person_0 {n : Nat} {Q : Zr → Prop} {t : Nat} (x1 x2 : Int) (s : Zs) (ht : t = 7 ∨ t = 43)
    (h0 : ∀ m, m < n → zC m 1034 [(s 0 3, 0), (3, 0), (x1, 0)] s (fun p => zT (zE 1307) (Pt PX10_person) m (9, [((0 : Nat) : Int), x1, x2], p.1 ++ [], p.2) Q)) : zT (zE 1307) (Pt PX10_person) n (0, [((0 : Nat) : Int), x1, x2], [], s) Q := by
  refine tL ((0 : Nat) : Int) 0 rfl rfl rfl ?_
  refine tFv (c := 0) (s 0 3) 0 rfl rfl rfl rfl rfl ?_
  refine tK rfl ?_
  refine tL x1 0 rfl rfl rfl ?_
  exact tCall [(s 0 3, 0), (3, 0), (x1, 0)] [] rfl rfl rfl (fun m l => h0 m (Nat.lt_of_lt_of_le l (Nat.le_refl n)))

theorem b_X10_person_9 {n : Nat} {Q : Zr → Prop} {t : Nat} (x1 x2 v0 : Int) (s : Zs) (ht : t = 7 ∨ t = 43)
    (h0 : ∀ (g1 : v0 = 0), Q ([((-1), 0)], s))
    (h1 : ∀ (g1 : v0 ≠ 0), ∀ (g2 : x2 < 0), Q ([((-1), 0)], s))
    (h2 : ∀ (g1 : v0 ≠ 0), ∀ (g2 : 0 ≤ x2), ∀ (g3 : x2 ≤ 3), ∀ (g4 : x2 ≠ 0), Q ([(s (zrho (zrho ((s 0 3).toNat) 3) x1.toNat) x2.toNat, 0)], s))
    (h3 : ∀ (g1 : v0 ≠ 0), ∀ (g2 : 0 ≤ x2), ∀ (g3 : x2 ≤ 3), ∀ (g4 : x2 = 0), Q ([(s 80 x1.toNat, 0)], s))
    (h4 : ∀ (g1 : v0 ≠ 0), ∀ (g2 : 0 ≤ x2), ∀ (g3 : 3 < x2), Q ([((-1), 0)], s)) : zT (zE 1307) (Pt PX10_person) n (9, [((0 : Nat) : Int), x1, x2], [(v0, 0)], s) Q := by
  refine tI0 rfl (fun g1 _ l1 => zT_le ?_ (Nat.le_of_lt l1)) (fun g1 _ l1 => zT_le ?_ (Nat.le_of_lt l1))
  · refine tK rfl ?_
    exact tR rfl (h0 g1)
  · refine tL x2 0 rfl rfl rfl ?_
    refine tI2 rfl (fun g2 _ l2 => zT_le ?_ (Nat.le_of_lt l2)) (fun g2 _ l2 => zT_le ?_ (Nat.le_of_lt l2))
    · refine tK rfl ?_
      exact tR rfl (h1 g1 g2)
    · refine tL x2 0 rfl rfl rfl ?_
      refine tK rfl ?_
      refine tJ5 rfl (fun g3 _ l3 => zT_le ?_ (Nat.le_of_lt l3)) (fun g3 _ l3 => zT_le ?_ (Nat.le_of_lt l3))
      · refine tL x2 0 rfl rfl rfl ?_
        refine tI1 rfl (fun g4 _ l4 => zT_le ?_ (Nat.le_of_lt l4)) (fun g4 _ l4 => zT_le ?_ (Nat.le_of_lt l4))
        · refine tL ((0 : Nat) : Int) 0 rfl rfl rfl ?_
          refine tFv (c := 0) (s 0 3) 0 rfl rfl rfl rfl rfl ?_
          refine tFR (c := (s 0 3).toNat) (zrho ((s 0 3).toNat) 3) rfl rfl rfl rfl rfl ?_
          refine tL x1 0 rfl rfl rfl ?_
          refine tAR (zrho (zrho ((s 0 3).toNat) 3) x1.toNat) rfl rfl ?_
          refine tL x2 0 rfl rfl rfl ?_
          refine tAv (zrho (zrho ((s 0 3).toNat) 3) x1.toNat) x2.toNat (s (zrho (zrho ((s 0 3).toNat) 3) x1.toNat) x2.toNat) 0 rfl rfl rfl (by decide) rfl rfl ?_
          exact tR rfl (h2 g1 g2 g3 g4)
        · refine tL ((0 : Nat) : Int) 0 rfl rfl rfl ?_
          refine tFR (c := 0) 79 rfl rfl rfl rfl rfl ?_
          refine tFR (c := 79) 80 rfl rfl rfl rfl rfl ?_
          refine tL x1 0 rfl rfl rfl ?_
          refine tAv 80 x1.toNat (s 80 x1.toNat) 0 rfl rfl rfl (by decide) rfl rfl ?_
          refine tG rfl ?_
          exact tR rfl (h3 g1 g2 g3 g4)
      · refine tK rfl ?_
        exact tR rfl (h4 g1 g2 g3)

theorem c_X10_person {n : Nat} {Q : Zr → Prop} {a0 a1 a2 : Int} {s : Zs} (h : zT (zE 1307) (Pt PX10_person) n (0, [a0, a1, a2], [], s) Q) : zC n 1307 [(a0, 0), (a1, 0), (a2, 0)] s Q := h

theorem b_X10_thing_0 {n : Nat} {Q : Zr → Prop} {t : Nat} (x1 : Int) (s : Zs) (ht : t = 7 ∨ t = 43)
    (h0 : ∀ m, m < n → zC m 1034 [(s 0 3, 0), (2, 0), (x1, 0)] s (fun p => zT (zE 1317) (Pt PX10_thing) m (9, [((0 : Nat) : Int), x1], p.1 ++ [], p.2) Q)) : zT (zE 1317) (Pt PX10_thing) n (0, [((0 : Nat) : Int), x1], [], s) Q := by
  refine tL ((0 : Nat) : Int) 0 rfl rfl rfl ?_
  refine tFv (c := 0) (s 0 3) 0 rfl rfl rfl rfl rfl ?_
  refine tK rfl ?_
  refine tL x1 0 rfl rfl rfl ?_
  exact tCall [(s 0 3, 0), (2, 0), (x1, 0)] [] rfl rfl rfl (fun m l => h0 m (Nat.lt_of_lt_of_le l (Nat.le_refl n)))

theorem b_X10_thing_9 {n : Nat} {Q : Zr → Prop} {t : Nat} (x1 v0 : Int) (s : Zs) (ht : t = 7 ∨ t = 43)
    (h0 : ∀ (g1 : v0 = 0), Q ([((-1), 0)], s))
    (h1 : ∀ (g1 : v0 ≠ 0), Q ([(s 81 x1.toNat, 0)], s)) : zT (zE 1317) (Pt PX10_thing) n (9, [((0 : Nat) : Int), x1], [(v0, 0)], s) Q := by
  refine tI0 rfl (fun g1 _ l1 => zT_le ?_ (Nat.le_of_lt l1)) (fun g1 _ l1 => zT_le ?_ (Nat.le_of_lt l1))
  · refine tK rfl ?_
    exact tR rfl (h0 g1)
  · refine tL ((0 : Nat) : Int) 0 rfl rfl rfl ?_
    refine tFR (c := 0) 79 rfl rfl rfl rfl rfl ?_
    refine tFR (c := 79) 81 rfl rfl rfl rfl rfl ?_
    refine tL x1 0 rfl rfl rfl ?_
    refine tAv 81 x1.toNat (s 81 x1.toNat) 0 rfl rfl rfl (by decide) rfl rfl ?_
    refine tG rfl ?_
    exact tR rfl (h1 g1)

theorem c_X10_thing {n : Nat} {Q : Zr → Prop} {a0 a1 : Int} {s : Zs} (h : zT (zE 1317) (Pt PX10_thing) n (0, [a0, a1], [], s) Q) : zC n 1317 [(a0, 0), (a1, 0)] s Q := h

theorem b_X11_flight_0 {n : Nat} {Q : Zr → Prop} (x1 x2 : Int) (s : Zs) 
    (h0 : ∀ (g2 : x1 < 0), Q ([((-1), 0)], zu s 172 0 0))
    (h1 : ∀ (g3 : 0 ≤ x1), ∀ (g4 : s 174 1 ≤ x1), Q ([((-1), 0)], zu s 172 0 0))
    (h2 : ∀ (g5 : 0 ≤ x1), ∀ (g6 : x1 < s 174 1), ∀ (g8 : x2 < 0), Q ([((-1), 0)], zu s 172 0 0))
    (h3 : ∀ (g5 : 0 ≤ x1), ∀ (g6 : x1 < s 174 1), ∀ (g9 : 0 ≤ x2), ∀ (g10 : 4 < x2), Q ([((-1), 0)], zu s 172 0 0))
    (h4 : ∀ (g5 : 0 ≤ x1), ∀ (g6 : x1 < s 174 1), ∀ (g11 : 0 ≤ x2), ∀ (g12 : x2 ≤ 4), ∀ (g13 : 2 ≤ x2), ∀ (g14 : x2 ≠ 2), ∀ (g15 : x2 ≠ 3), Q ([(zand (zshr (s 216 0) x1) 1, 0)], zu s 172 0 0))
    (h5 : ∀ (g5 : 0 ≤ x1), ∀ (g6 : x1 < s 174 1), ∀ (g11 : 0 ≤ x2), ∀ (g12 : x2 ≤ 4), ∀ (g13 : 2 ≤ x2), ∀ (g14 : x2 ≠ 2), ∀ (g15 : x2 = 3), Q ([(s 183 x1.toNat, 0)], zu s 172 0 0))
    (h6 : ∀ (g5 : 0 ≤ x1), ∀ (g6 : x1 < s 174 1), ∀ (g11 : 0 ≤ x2), ∀ (g12 : x2 ≤ 4), ∀ (g13 : 2 ≤ x2), ∀ (g14 : x2 = 2), Q ([(s 182 x1.toNat, 0)], zu s 172 0 0))
    (h7 : ∀ (g5 : 0 ≤ x1), ∀ (g6 : x1 < s 174 1), ∀ (g11 : 0 ≤ x2), ∀ (g12 : x2 ≤ 4), ∀ (g13 : x2 < 2), ∀ (g16 : x2 ≠ 0), Q ([(s 181 x1.toNat, 0)], zu s 172 0 0))
    (h8 : ∀ (g5 : 0 ≤ x1), ∀ (g6 : x1 < s 174 1), ∀ (g11 : 0 ≤ x2), ∀ (g12 : x2 ≤ 4), ∀ (g13 : x2 < 2), ∀ (g16 : x2 = 0), Q ([(s 180 x1.toNat, 0)], zu s 172 0 0)) : zT (zE 1437) (Pt PX11_flight) n (0, [((172 : Nat) : Int), x1, x2], [], s) Q := by
  refine tL ((172 : Nat) : Int) 0 rfl rfl rfl ?_
  refine tK rfl ?_
  refine tPut 172 rfl rfl ?_
  refine tL ((172 : Nat) : Int) 0 rfl rfl rfl ?_
  refine tL x1 0 rfl rfl rfl ?_
  refine tCall [(((172 : Nat) : Int), 0), (x1, 0)] [] rfl rfl rfl (fun m1 l1 => c_X11_isFlight (b_X11_isFlight_0 x1 (zu s 172 0 0) ?_ ?_ ?_))
  · intro g2
    show zT (zE 1437) (Pt PX11_flight) m1 (10, [((172 : Nat) : Int), x1, x2], [(0, 0)], zu s 172 0 0) Q
    refine tI0 rfl (fun g _ l => zT_le ?_ (Nat.le_of_lt l)) (fun g _ l => (absurd g (by decide)))
    refine tK rfl ?_
    exact tR rfl (h0 g2)
  · intro g3 g4
    show zT (zE 1437) (Pt PX11_flight) m1 (10, [((172 : Nat) : Int), x1, x2], [(0, 0)], zu s 172 0 0) Q
    refine tI0 rfl (fun g _ l => zT_le ?_ (Nat.le_of_lt l)) (fun g _ l => (absurd g (by decide)))
    refine tK rfl ?_
    exact tR rfl (h1 g3 g4)
  · intro g5 g6
    show zT (zE 1437) (Pt PX11_flight) m1 (10, [((172 : Nat) : Int), x1, x2], [(1, 0)], zu s 172 0 0) Q
    refine tI0 rfl (fun g _ l => (absurd g (by decide))) (fun g _ l => zT_le ?_ (Nat.le_of_lt l))
    refine tL x2 0 rfl rfl rfl ?_
    refine tK rfl ?_
    refine tK rfl ?_
    refine tCall [(x2, 0), (0, 0), (4, 0)] [] rfl rfl rfl (fun m7 l7 => c_X11_within (b_X11_within_0 x2 0 4 (zu s 172 0 0) ?_ ?_ ?_))
    · intro g8
      show zT (zE 1437) (Pt PX11_flight) m7 (19, [((172 : Nat) : Int), x1, x2], [(0, 0)], zu s 172 0 0) Q
      refine tI1 rfl (fun g _ l => (absurd g (by decide))) (fun g _ l => zT_le ?_ (Nat.le_of_lt l))
      refine tK rfl ?_
      exact tR rfl (h2 g5 g6 g8)
    · intro g9 g10
      show zT (zE 1437) (Pt PX11_flight) m7 (19, [((172 : Nat) : Int), x1, x2], [(0, 0)], zu s 172 0 0) Q
      refine tI1 rfl (fun g _ l => (absurd g (by decide))) (fun g _ l => zT_le ?_ (Nat.le_of_lt l))
      refine tK rfl ?_
      exact tR rfl (h3 g5 g6 g9 g10)
    · intro g11 g12
      show zT (zE 1437) (Pt PX11_flight) m7 (19, [((172 : Nat) : Int), x1, x2], [(1, 0)], zu s 172 0 0) Q
      refine tI1 rfl (fun g _ l => zT_le ?_ (Nat.le_of_lt l)) (fun g _ l => (absurd g (by decide)))
      refine tL x2 0 rfl rfl rfl ?_
      refine tK rfl ?_
      refine tJ3 rfl (fun g13 _ l13 => zT_le ?_ (Nat.le_of_lt l13)) (fun g13 _ l13 => zT_le ?_ (Nat.le_of_lt l13))
      · refine tL x2 0 rfl rfl rfl ?_
        refine tK rfl ?_
        refine tJ1 rfl (fun g14 _ l14 => zT_le ?_ (Nat.le_of_lt l14)) (fun g14 _ l14 => zT_le ?_ (Nat.le_of_lt l14))
        · refine tL x2 0 rfl rfl rfl ?_
          refine tK rfl ?_
          refine tJ1 rfl (fun g15 _ l15 => zT_le ?_ (Nat.le_of_lt l15)) (fun g15 _ l15 => zT_le ?_ (Nat.le_of_lt l15))
          · refine tL ((172 : Nat) : Int) 0 rfl rfl rfl ?_
            refine tFR (c := 172) 216 rfl rfl rfl rfl rfl ?_
            refine tK rfl ?_
            refine tAv 216 0 (s 216 0) 0 rfl rfl rfl (by decide) rfl rfl ?_
            refine tL x1 0 rfl rfl rfl ?_
            refine tB (v := zshr (s 216 0) x1) rfl rfl ?_
            refine tK rfl ?_
            refine tB (v := zand (zshr (s 216 0) x1) 1) rfl rfl ?_
            exact tR rfl (h4 g5 g6 g11 g12 g13 g14 g15)
          · refine tL ((172 : Nat) : Int) 0 rfl rfl rfl ?_
            refine tFR (c := 172) 183 rfl rfl rfl rfl rfl ?_
            refine tL x1 0 rfl rfl rfl ?_
            refine tAv 183 x1.toNat (s 183 x1.toNat) 0 rfl rfl rfl (by decide) rfl rfl ?_
            refine tG rfl ?_
            exact tR rfl (h5 g5 g6 g11 g12 g13 g14 g15)
        · refine tL ((172 : Nat) : Int) 0 rfl rfl rfl ?_
          refine tFR (c := 172) 182 rfl rfl rfl rfl rfl ?_
          refine tL x1 0 rfl rfl rfl ?_
          refine tAv 182 x1.toNat (s 182 x1.toNat) 0 rfl rfl rfl (by decide) rfl rfl ?_
          refine tG rfl ?_
          exact tR rfl (h6 g5 g6 g11 g12 g13 g14)
      · refine tL x2 0 rfl rfl rfl ?_
        refine tI1 rfl (fun g16 _ l16 => zT_le ?_ (Nat.le_of_lt l16)) (fun g16 _ l16 => zT_le ?_ (Nat.le_of_lt l16))
        · refine tL ((172 : Nat) : Int) 0 rfl rfl rfl ?_
          refine tFR (c := 172) 181 rfl rfl rfl rfl rfl ?_
          refine tL x1 0 rfl rfl rfl ?_
          refine tAv 181 x1.toNat (s 181 x1.toNat) 0 rfl rfl rfl (by decide) rfl rfl ?_
          exact tR rfl (h7 g5 g6 g11 g12 g13 g16)
        · refine tL ((172 : Nat) : Int) 0 rfl rfl rfl ?_
          refine tFR (c := 172) 180 rfl rfl rfl rfl rfl ?_
          refine tL x1 0 rfl rfl rfl ?_
          refine tAv 180 x1.toNat (s 180 x1.toNat) 0 rfl rfl rfl (by decide) rfl rfl ?_
          refine tG rfl ?_
          exact tR rfl (h8 g5 g6 g11 g12 g13 g16)

theorem c_X11_flight {n : Nat} {Q : Zr → Prop} {a0 a1 a2 : Int} {s : Zs} (h : zT (zE 1437) (Pt PX11_flight) n (0, [a0, a1, a2], [], s) Q) : zC n 1437 [(a0, 0), (a1, 0), (a2, 0)] s Q := h

theorem b_X11_person_0 {n : Nat} {Q : Zr → Prop} (x1 x2 : Int) (s : Zs) 
    (h0 : ∀ (g2 : x1 < 0), Q ([((-1), 0)], zu s 172 0 0))
    (h1 : ∀ (g3 : 0 ≤ x1), ∀ (g4 : s 174 3 ≤ x1), Q ([((-1), 0)], zu s 172 0 0))
    (h2 : ∀ (g5 : 0 ≤ x1), ∀ (g6 : x1 < s 174 3), ∀ (g8 : x2 < 0), Q ([((-1), 0)], zu s 172 0 0))
    (h3 : ∀ (g5 : 0 ≤ x1), ∀ (g6 : x1 < s 174 3), ∀ (g9 : 0 ≤ x2), ∀ (g10 : 3 < x2), Q ([((-1), 0)], zu s 172 0 0))
    (h4 : ∀ (g5 : 0 ≤ x1), ∀ (g6 : x1 < s 174 3), ∀ (g11 : 0 ≤ x2), ∀ (g12 : x2 ≤ 3), ∀ (g13 : x2 ≠ 0), ∀ (g14 : x2 ≠ 1), ∀ (g15 : x2 ≠ 2), Q ([(s 189 x1.toNat, 0)], zu s 172 0 0))
    (h5 : ∀ (g5 : 0 ≤ x1), ∀ (g6 : x1 < s 174 3), ∀ (g11 : 0 ≤ x2), ∀ (g12 : x2 ≤ 3), ∀ (g13 : x2 ≠ 0), ∀ (g14 : x2 ≠ 1), ∀ (g15 : x2 = 2), Q ([(s 188 x1.toNat, 0)], zu s 172 0 0))
    (h6 : ∀ (g5 : 0 ≤ x1), ∀ (g6 : x1 < s 174 3), ∀ (g11 : 0 ≤ x2), ∀ (g12 : x2 ≤ 3), ∀ (g13 : x2 ≠ 0), ∀ (g14 : x2 = 1), Q ([(s 187 x1.toNat, 0)], zu s 172 0 0))
    (h7 : ∀ (g5 : 0 ≤ x1), ∀ (g6 : x1 < s 174 3), ∀ (g11 : 0 ≤ x2), ∀ (g12 : x2 ≤ 3), ∀ (g13 : x2 = 0), Q ([(s 216 ((w32 (1 + x1)).toNat), 0)], zu s 172 0 0)) : zT (zE 1488) (Pt PX11_person) n (0, [((172 : Nat) : Int), x1, x2], [], s) Q := by
  refine tL ((172 : Nat) : Int) 0 rfl rfl rfl ?_
  refine tK rfl ?_
  refine tPut 172 rfl rfl ?_
  refine tL ((172 : Nat) : Int) 0 rfl rfl rfl ?_
  refine tL x1 0 rfl rfl rfl ?_
  refine tCall [(((172 : Nat) : Int), 0), (x1, 0)] [] rfl rfl rfl (fun m1 l1 => c_X11_isPerson (b_X11_isPerson_0 x1 (zu s 172 0 0) ?_ ?_ ?_))
  · intro g2
    show zT (zE 1488) (Pt PX11_person) m1 (10, [((172 : Nat) : Int), x1, x2], [(0, 0)], zu s 172 0 0) Q
    refine tI0 rfl (fun g _ l => zT_le ?_ (Nat.le_of_lt l)) (fun g _ l => (absurd g (by decide)))
    refine tK rfl ?_
    exact tR rfl (h0 g2)
  · intro g3 g4
    show zT (zE 1488) (Pt PX11_person) m1 (10, [((172 : Nat) : Int), x1, x2], [(0, 0)], zu s 172 0 0) Q
    refine tI0 rfl (fun g _ l => zT_le ?_ (Nat.le_of_lt l)) (fun g _ l => (absurd g (by decide)))
    refine tK rfl ?_
    exact tR rfl (h1 g3 g4)
  · intro g5 g6
    show zT (zE 1488) (Pt PX11_person) m1 (10, [((172 : Nat) : Int), x1, x2], [(1, 0)], zu s 172 0 0) Q
    refine tI0 rfl (fun g _ l => (absurd g (by decide))) (fun g _ l => zT_le ?_ (Nat.le_of_lt l))
    refine tL x2 0 rfl rfl rfl ?_
    refine tK rfl ?_
    refine tK rfl ?_
    refine tCall [(x2, 0), (0, 0), (3, 0)] [] rfl rfl rfl (fun m7 l7 => c_X11_within (b_X11_within_0 x2 0 3 (zu s 172 0 0) ?_ ?_ ?_))
    · intro g8
      show zT (zE 1488) (Pt PX11_person) m7 (19, [((172 : Nat) : Int), x1, x2], [(0, 0)], zu s 172 0 0) Q
      refine tI1 rfl (fun g _ l => (absurd g (by decide))) (fun g _ l => zT_le ?_ (Nat.le_of_lt l))
      refine tK rfl ?_
      exact tR rfl (h2 g5 g6 g8)
    · intro g9 g10
      show zT (zE 1488) (Pt PX11_person) m7 (19, [((172 : Nat) : Int), x1, x2], [(0, 0)], zu s 172 0 0) Q
      refine tI1 rfl (fun g _ l => (absurd g (by decide))) (fun g _ l => zT_le ?_ (Nat.le_of_lt l))
      refine tK rfl ?_
      exact tR rfl (h3 g5 g6 g9 g10)
    · intro g11 g12
      show zT (zE 1488) (Pt PX11_person) m7 (19, [((172 : Nat) : Int), x1, x2], [(1, 0)], zu s 172 0 0) Q
      refine tI1 rfl (fun g _ l => zT_le ?_ (Nat.le_of_lt l)) (fun g _ l => (absurd g (by decide)))
      refine tL x2 0 rfl rfl rfl ?_
      refine tI1 rfl (fun g13 _ l13 => zT_le ?_ (Nat.le_of_lt l13)) (fun g13 _ l13 => zT_le ?_ (Nat.le_of_lt l13))
      · refine tL x2 0 rfl rfl rfl ?_
        refine tK rfl ?_
        refine tJ1 rfl (fun g14 _ l14 => zT_le ?_ (Nat.le_of_lt l14)) (fun g14 _ l14 => zT_le ?_ (Nat.le_of_lt l14))
        · refine tL x2 0 rfl rfl rfl ?_
          refine tK rfl ?_
          refine tJ1 rfl (fun g15 _ l15 => zT_le ?_ (Nat.le_of_lt l15)) (fun g15 _ l15 => zT_le ?_ (Nat.le_of_lt l15))
          · refine tL ((172 : Nat) : Int) 0 rfl rfl rfl ?_
            refine tFR (c := 172) 189 rfl rfl rfl rfl rfl ?_
            refine tL x1 0 rfl rfl rfl ?_
            refine tAv 189 x1.toNat (s 189 x1.toNat) 0 rfl rfl rfl (by decide) rfl rfl ?_
            exact tR rfl (h4 g5 g6 g11 g12 g13 g14 g15)
          · refine tL ((172 : Nat) : Int) 0 rfl rfl rfl ?_
            refine tFR (c := 172) 188 rfl rfl rfl rfl rfl ?_
            refine tL x1 0 rfl rfl rfl ?_
            refine tAv 188 x1.toNat (s 188 x1.toNat) 0 rfl rfl rfl (by decide) rfl rfl ?_
            refine tG rfl ?_
            exact tR rfl (h5 g5 g6 g11 g12 g13 g14 g15)
        · refine tL ((172 : Nat) : Int) 0 rfl rfl rfl ?_
          refine tFR (c := 172) 187 rfl rfl rfl rfl rfl ?_
          refine tL x1 0 rfl rfl rfl ?_
          refine tAv 187 x1.toNat (s 187 x1.toNat) 0 rfl rfl rfl (by decide) rfl rfl ?_
          refine tG rfl ?_
          exact tR rfl (h6 g5 g6 g11 g12 g13 g14)
      · refine tL ((172 : Nat) : Int) 0 rfl rfl rfl ?_
        refine tFR (c := 172) 216 rfl rfl rfl rfl rfl ?_
        refine tK rfl ?_
        refine tL x1 0 rfl rfl rfl ?_
        refine tB (v := w32 (1 + x1)) rfl rfl ?_
        refine tAv 216 ((w32 (1 + x1)).toNat) (s 216 ((w32 (1 + x1)).toNat)) 0 rfl rfl rfl (by decide) rfl rfl ?_
        refine tG rfl ?_
        exact tR rfl (h7 g5 g6 g11 g12 g13)

theorem c_X11_person {n : Nat} {Q : Zr → Prop} {a0 a1 a2 : Int} {s : Zs} (h : zT (zE 1488) (Pt PX11_person) n (0, [a0, a1, a2], [], s) Q) : zC n 1488 [(a0, 0), (a1, 0), (a2, 0)] s Q := h

theorem b_X11_thing_0 {n : Nat} {Q : Zr → Prop} (x1 : Int) (s : Zs) 
    (h0 : ∀ (g2 : x1 < 0), Q ([((-1), 0)], zu s 172 0 0))
    (h1 : ∀ (g3 : 0 ≤ x1), ∀ (g4 : s 174 2 ≤ x1), Q ([((-1), 0)], zu s 172 0 0))
    (h2 : ∀ (g5 : 0 ≤ x1), ∀ (g6 : x1 < s 174 2), Q ([(s 216 ((w32 (6 + x1)).toNat), 0)], zu s 172 0 0)) : zT (zE 1519) (Pt PX11_thing) n (0, [((172 : Nat) : Int), x1], [], s) Q := by
  refine tL ((172 : Nat) : Int) 0 rfl rfl rfl ?_
  refine tK rfl ?_
  refine tPut 172 rfl rfl ?_
  refine tL ((172 : Nat) : Int) 0 rfl rfl rfl ?_
  refine tL x1 0 rfl rfl rfl ?_
  refine tCall [(((172 : Nat) : Int), 0), (x1, 0)] [] rfl rfl rfl (fun m1 l1 => c_X11_isThing (b_X11_isThing_0 x1 (zu s 172 0 0) ?_ ?_ ?_))
  · intro g2
    show zT (zE 1519) (Pt PX11_thing) m1 (10, [((172 : Nat) : Int), x1], [(0, 0)], zu s 172 0 0) Q
    refine tI0 rfl (fun g _ l => zT_le ?_ (Nat.le_of_lt l)) (fun g _ l => (absurd g (by decide)))
    refine tK rfl ?_
    exact tR rfl (h0 g2)
  · intro g3 g4
    show zT (zE 1519) (Pt PX11_thing) m1 (10, [((172 : Nat) : Int), x1], [(0, 0)], zu s 172 0 0) Q
    refine tI0 rfl (fun g _ l => zT_le ?_ (Nat.le_of_lt l)) (fun g _ l => (absurd g (by decide)))
    refine tK rfl ?_
    exact tR rfl (h1 g3 g4)
  · intro g5 g6
    show zT (zE 1519) (Pt PX11_thing) m1 (10, [((172 : Nat) : Int), x1], [(1, 0)], zu s 172 0 0) Q
    refine tI0 rfl (fun g _ l => (absurd g (by decide))) (fun g _ l => zT_le ?_ (Nat.le_of_lt l))
    refine tL ((172 : Nat) : Int) 0 rfl rfl rfl ?_
    refine tFR (c := 172) 216 rfl rfl rfl rfl rfl ?_
    refine tK rfl ?_
    refine tL x1 0 rfl rfl rfl ?_
    refine tB (v := w32 (6 + x1)) rfl rfl ?_
    refine tAv 216 ((w32 (6 + x1)).toNat) (s 216 ((w32 (6 + x1)).toNat)) 0 rfl rfl rfl (by decide) rfl rfl ?_
    refine tG rfl ?_
    exact tR rfl (h2 g5 g6)

theorem c_X11_thing {n : Nat} {Q : Zr → Prop} {a0 a1 : Int} {s : Zs} (h : zT (zE 1519) (Pt PX11_thing) n (0, [a0, a1], [], s) Q) : zC n 1519 [(a0, 0), (a1, 0)] s Q := h

noncomputable def flA (D : ZD) (S : ZS) (x y : Int) : Int := if dcP (0 ≤ x ∧ x < cnt D 1 ∧ 0 ≤ y ∧ y ≤ 4) = true then (if y = 4 then zand (zshr (sTh S : Int) x) 1 else colD D (10 + y.toNat) x.toNat) else -1
noncomputable def peA (D : ZD) (S : ZS) (x y : Int) : Int := if dcP (0 ≤ x ∧ x < cnt D 3 ∧ 0 ≤ y ∧ y ≤ 3) = true then (if y = 0 then sPe S x.toNat else colD D (30 + y.toNat) x.toNat) else -1
noncomputable def tgA (D : ZD) (S : ZS) (x : Int) : Int := if dcP (0 ≤ x ∧ x < cnt D 2) = true then sTg S x.toNat else -1
section Zan
variable {N t : Nat} {s : Zs} {D : ZD} {S : ZS}
theorem has_ok (ht : t = 7 ∨ t = 43) (hd : cDn s t D) {k : Nat} (hk : k < 5) {x : Int} : zC N 1034 [((t : Int), 0), ((k : Int), 0), (x, 0)] s (fun r => r = ([(if dcP (0 ≤ x ∧ x < cnt D k) = true then 1 else 0, 0)], s)) := by
  have hc : s (t + 1) k = ((cnt D k : Nat) : Int) := hd.1 k hk
  refine c_X8_has (b_X8_has_0 _ _ s ht (fun g => ?_) (fun g g2 => ?_) (fun g g2 => ?_))
  · show ([((0 : Int), 0)], s) = _
    rw [if_neg (by rw [dcP_no (fun q => by omega)]; decide)]
  all_goals rw [Int.toNat_natCast, hc] at g2
  · show ([((0 : Int), 0)], s) = _
    rw [if_neg (by rw [dcP_no (fun q => by omega)]; decide)]
  · show ([((1 : Int), 0)], s) = _
    rw [if_pos (dcP_yes ⟨g, g2⟩)]
theorem flight_c (ht : t = 7 ∨ t = 43) (e3 : s 0 3 = ((t : Nat) : Int)) (hd : cDn s t D) (hw : wD D) (hS : cSt s 79 D S) {x y : Int} : zC N 1297 [(((0 : Nat) : Int), 0), (x, 0), (y, 0)] s (fun r => r.1 = [(flA D S x y, 0)]) := by
  have no : ¬ (0 ≤ x ∧ x < cnt D 1 ∧ 0 ≤ y ∧ y ≤ 4) → [((-1 : Int), 0)] = [(flA D S x y, 0)] := fun q => by
    unfold flA; rw [if_neg (by rw [dcP_no q]; decide)]
  refine c_X10_flight (b_X10_flight_0 _ _ s ht (fun m _ => ?_))
  rw [e3]
  refine zC_q (has_ok ht hd (k := 1) (by omega)) (fun r hr => ?_)
  subst hr
  refine b_X10_flight_9 _ _ _ s ht (fun g => no (fun q => by rw [if_pos (dcP_yes ⟨q.1, q.2.1⟩)] at g; omega)) (fun g g2 => no (fun q => by omega)) (fun g g2 g3 g4 => ?_) (fun g g2 g3 g4 => ?_) (fun g g2 g3 => no (fun q => by omega))
  all_goals
    have c : 0 ≤ x ∧ x < cnt D 1 := Classical.byContradiction fun c => g (if_neg (by rw [dcP_no c]; decide))
    obtain ⟨k, rfl⟩ := Int.eq_ofNat_of_zero_le c.1
    obtain ⟨i, rfl⟩ := Int.eq_ofNat_of_zero_le g2
    have hk : k < cnt D 1 := by omega
    have h10 : cnt D 1 ≤ 10 := hw.1 1 (by omega)
  · show [(s (zrho (zrho ((s 0 3).toNat) 1) (k : Int).toNat) (i : Int).toNat, 0)] = _
    unfold flA
    rw [if_pos (dcP_yes ⟨c.1, c.2, g2, g3⟩), if_neg (by omega), e3, Int.toNat_natCast, Int.toNat_natCast, Int.toNat_natCast]
    have e1 : zrho t 1 = t + 12 := zt8_1 ht
    rw [e1, zrow1 ht (by omega)]
    rw [show s (t + 2 + k) i = colD D (10 + i) k from cDn_col hd hw (k := 1) (j := i) (by omega) (by omega) (show i < 4 by omega) hk]
  · show [(zand (zshr (s 79 0) (k : Int)) 1, 0)] = _
    unfold flA
    rw [if_pos (dcP_yes ⟨c.1, c.2, g2, g3⟩), if_pos (by omega), hS.1]
theorem flight_m (hm : mT s D) (hw : wD D) (hS : mSt s 216 0 D S) {x y : Int} : zC N 1437 [(((172 : Nat) : Int), 0), (x, 0), (y, 0)] s (fun r => r.1 = [(flA D S x y, 0)]) := by
  have hc : s 174 1 = ((cnt D 1 : Nat) : Int) := hm.1 1 (by omega)
  have e0 : s 216 0 = ((sTh S : Nat) : Int) := hS.1
  have no : ¬ (0 ≤ x ∧ x < cnt D 1 ∧ 0 ≤ y ∧ y ≤ 4) → [((-1 : Int), 0)] = [(flA D S x y, 0)] := fun q => by
    unfold flA; rw [if_neg (by rw [dcP_no q]; decide)]
  have col : ∀ (k j : Nat), k < cnt D 1 → j < 4 → s (180 + j) k = colD D (10 + j) k := fun k j hk hj => mcol hm hw (k := 1) (j := j) (by omega) (by omega) (show j < 4 from hj) (show j < 4 from hj) hk
  have yes : ∀ (j : Nat) (v : Int), 0 ≤ x → x < s 174 1 → y = (j : Int) → j < 4 → v = s (180 + j) x.toNat → [(v, 0)] = [(flA D S x y, 0)] := fun j v h1 h2 h3 h4 h5 => by
    unfold flA
    rw [if_pos (dcP_yes ⟨h1, by omega, by omega, by omega⟩), if_neg (by omega), h5, h3, Int.toNat_natCast, col x.toNat j (by omega) h4]
  refine c_X11_flight (b_X11_flight_0 _ _ s (fun g => no (fun q => by omega)) (fun g g2 => no (fun q => by omega)) (fun g g2 g3 => no (fun q => by omega)) (fun g g2 g3 g4 => no (fun q => by omega)) (fun g g2 g3 g4 g5 g6 g7 => ?_) (fun g g2 g3 g4 g5 g6 g7 => yes 3 _ g g2 (by omega) (by omega) rfl) (fun g g2 g3 g4 g5 g6 => yes 2 _ g g2 (by omega) (by omega) rfl) (fun g g2 g3 g4 g5 g6 => yes 1 _ g g2 (by omega) (by omega) rfl) (fun g g2 g3 g4 g5 g6 => yes 0 _ g g2 (by omega) (by omega) rfl))
  show [(zand (zshr (s 216 0) x) 1, 0)] = _
  unfold flA
  rw [if_pos (dcP_yes ⟨g, by omega, by omega, by omega⟩), if_pos (by omega), e0]
theorem person_c (ht : t = 7 ∨ t = 43) (e3 : s 0 3 = ((t : Nat) : Int)) (hd : cDn s t D) (hw : wD D) (hS : cSt s 79 D S) {x y : Int} : zC N 1307 [(((0 : Nat) : Int), 0), (x, 0), (y, 0)] s (fun r => r.1 = [(peA D S x y, 0)]) := by
  have no : ¬ (0 ≤ x ∧ x < cnt D 3 ∧ 0 ≤ y ∧ y ≤ 3) → [((-1 : Int), 0)] = [(peA D S x y, 0)] := fun q => by
    unfold peA; rw [if_neg (by rw [dcP_no q]; decide)]
  refine c_X10_person (b_X10_person_0 _ _ s ht (fun m _ => ?_))
  rw [e3]
  refine zC_q (has_ok ht hd (k := 3) (by omega)) (fun r hr => ?_)
  subst hr
  refine b_X10_person_9 _ _ _ s ht (fun g => no (fun q => by rw [if_pos (dcP_yes ⟨q.1, q.2.1⟩)] at g; omega)) (fun g g2 => no (fun q => by omega)) (fun g g2 g3 g4 => ?_) (fun g g2 g3 g4 => ?_) (fun g g2 g3 => no (fun q => by omega))
  all_goals
    have c : 0 ≤ x ∧ x < cnt D 3 := Classical.byContradiction fun c => g (if_neg (by rw [dcP_no c]; decide))
    obtain ⟨k, rfl⟩ := Int.eq_ofNat_of_zero_le c.1
    obtain ⟨i, rfl⟩ := Int.eq_ofNat_of_zero_le g2
    have hk : k < cnt D 3 := by omega
    have h5 : cnt D 3 ≤ 5 := hw.1 3 (by omega)
  · show [(s (zrho (zrho ((s 0 3).toNat) 3) (k : Int).toNat) (i : Int).toNat, 0)] = _
    unfold peA
    rw [if_pos (dcP_yes ⟨c.1, c.2, g2, g3⟩), if_neg g4, e3, Int.toNat_natCast, Int.toNat_natCast, Int.toNat_natCast]
    have e1 : zrho t 3 = t + 23 := zt8_3 ht
    rw [e1, zrow3 ht (by omega)]
    rw [show s (t + 18 + k) i = colD D (30 + i) k from cDn_col hd hw (k := 3) (j := i) (by omega) (by omega) (show i < 4 by omega) hk]
  · show [(s 80 (k : Int).toNat, 0)] = _
    unfold peA
    rw [if_pos (dcP_yes ⟨c.1, c.2, g2, g3⟩), if_pos g4, Int.toNat_natCast]
    rw [show s 80 k = sPe S k from hS.2.1 k hk]
theorem person_m (hm : mT s D) (hw : wD D) (hS : mSt s 216 0 D S) {x y : Int} : zC N 1488 [(((172 : Nat) : Int), 0), (x, 0), (y, 0)] s (fun r => r.1 = [(peA D S x y, 0)]) := by
  have hc : s 174 3 = ((cnt D 3 : Nat) : Int) := hm.1 3 (by omega)
  have h5 : cnt D 3 ≤ 5 := hw.1 3 (by omega)
  have no : ¬ (0 ≤ x ∧ x < cnt D 3 ∧ 0 ≤ y ∧ y ≤ 3) → [((-1 : Int), 0)] = [(peA D S x y, 0)] := fun q => by
    unfold peA; rw [if_neg (by rw [dcP_no q]; decide)]
  have col : ∀ (k j : Nat), k < cnt D 3 → j < 4 → s (186 + j) k = colD D (30 + j) k := fun k j hk hj => mcol hm hw (k := 3) (j := j) (by omega) (by omega) (show j < 4 from hj) (show j < 4 from hj) hk
  have yes : ∀ (j : Nat) (v : Int), 0 ≤ x → x < s 174 3 → y = (j : Int) → j < 4 → j ≠ 0 → v = s (186 + j) x.toNat → [(v, 0)] = [(peA D S x y, 0)] := fun j v h1 h2 h3 h4 h6 h5 => by
    unfold peA
    rw [if_pos (dcP_yes ⟨h1, by omega, by omega, by omega⟩), if_neg (by omega), h5, h3, Int.toNat_natCast, col x.toNat j (by omega) h4]
  refine c_X11_person (b_X11_person_0 _ _ s (fun g => no (fun q => by omega)) (fun g g2 => no (fun q => by omega)) (fun g g2 g3 => no (fun q => by omega)) (fun g g2 g3 g4 => no (fun q => by omega)) (fun g g2 g3 g4 g5 g6 g7 => yes 3 _ g g2 (by omega) (by omega) (by omega) rfl) (fun g g2 g3 g4 g5 g6 g7 => yes 2 _ g g2 (by omega) (by omega) (by omega) rfl) (fun g g2 g3 g4 g5 g6 => yes 1 _ g g2 (by omega) (by omega) (by omega) rfl) (fun g g2 g3 g4 g5 => ?_))
  obtain ⟨k, rfl⟩ := Int.eq_ofNat_of_zero_le g
  have hk : k < cnt D 3 := by omega
  have ep : (w32 (1 + (k : Int))).toNat = 1 + k := by rw [w32_id (by omega) (by omega)]; omega
  show [(s 216 (w32 (1 + (k : Int))).toNat, 0)] = _
  rw [ep]
  clear ep
  have e1 : s 216 (1 + k) = sPe S k := by
    have := hS.2.1 k hk
    rw [Nat.zero_add] at this
    exact this
  unfold peA
  rw [if_pos (dcP_yes ⟨g, by omega, g3, g4⟩), if_pos g5, Int.toNat_natCast, e1]
theorem thing_c (ht : t = 7 ∨ t = 43) (e3 : s 0 3 = ((t : Nat) : Int)) (hd : cDn s t D) (hS : cSt s 79 D S) {x : Int} : zC N 1317 [(((0 : Nat) : Int), 0), (x, 0)] s (fun r => r.1 = [(tgA D S x, 0)]) := by
  refine c_X10_thing (b_X10_thing_0 _ s ht (fun m _ => ?_))
  rw [e3]
  refine zC_q (has_ok ht hd (k := 2) (by omega)) (fun r hr => ?_)
  subst hr
  refine b_X10_thing_9 _ _ s ht (fun g => ?_) (fun g => ?_)
  · show [((-1 : Int), 0)] = _
    unfold tgA
    rw [if_neg (by rw [dcP_no (fun q => by rw [if_pos (dcP_yes q)] at g; omega)]; decide)]
  · have c : 0 ≤ x ∧ x < cnt D 2 := Classical.byContradiction fun c => g (if_neg (by rw [dcP_no c]; decide))
    obtain ⟨k, rfl⟩ := Int.eq_ofNat_of_zero_le c.1
    show [(s 81 (k : Int).toNat, 0)] = _
    unfold tgA
    rw [if_pos (dcP_yes c), Int.toNat_natCast]
    rw [show s 81 k = sTg S k from hS.2.2.1 k (by omega)]
theorem thing_m (hm : mT s D) (hw : wD D) (hS : mSt s 216 0 D S) {x : Int} : zC N 1519 [(((172 : Nat) : Int), 0), (x, 0)] s (fun r => r.1 = [(tgA D S x, 0)]) := by
  have hc : s 174 2 = ((cnt D 2 : Nat) : Int) := hm.1 2 (by omega)
  have h4 : cnt D 2 ≤ 4 := hw.1 2 (by omega)
  have no : ¬ (0 ≤ x ∧ x < cnt D 2) → [((-1 : Int), 0)] = [(tgA D S x, 0)] := fun q => by
    unfold tgA; rw [if_neg (by rw [dcP_no q]; decide)]
  refine c_X11_thing (b_X11_thing_0 _ s (fun g => no (fun q => by omega)) (fun g g2 => no (fun q => by omega)) (fun g g2 => ?_))
  obtain ⟨k, rfl⟩ := Int.eq_ofNat_of_zero_le g
  have hk : k < cnt D 2 := by omega
  have ep : (w32 (6 + (k : Int))).toNat = 6 + k := by rw [w32_id (by omega) (by omega)]; omega
  show [(s 216 (w32 (6 + (k : Int))).toNat, 0)] = _
  rw [ep]
  clear ep
  have e1 : s 216 (6 + k) = sTg S k := by
    have := hS.2.2.1 k hk
    rw [Nat.zero_add] at this
    exact this
  unfold tgA
  rw [if_pos (dcP_yes ⟨g, by omega⟩), Int.toNat_natCast, e1]
end Zan
