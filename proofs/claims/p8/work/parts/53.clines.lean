/-! the lines of a town: the class -/
theorem b_X9_readHouse_0 {n : Nat} {Q : Zr → Prop} {t : Nat} (x2 x3 x4 : Int) (s : Zs) (ht : t = 7 ∨ t = 43)
    (h0 : ∀ m, m < n → zC m 1159 [(((4 : Nat) : Int), 0), (((t : Nat) : Int), 0), (0, 0)] s (fun p => zT (zE 1156) (Pt PX9_readHouse) m (6, [((4 : Nat) : Int), ((t : Nat) : Int), x2, x3, x4], p.1 ++ [], p.2) Q)) : zT (zE 1156) (Pt PX9_readHouse) n (0, [((4 : Nat) : Int), ((t : Nat) : Int), x2, x3, x4], [], s) Q := by
  refine tL ((4 : Nat) : Int) 0 rfl rfl rfl ?_
  refine tL ((t : Nat) : Int) 0 rfl rfl rfl ?_
  refine tK rfl ?_
  exact tCall [(((4 : Nat) : Int), 0), (((t : Nat) : Int), 0), (0, 0)] [] rfl rfl rfl (fun m l => h0 m (Nat.lt_of_lt_of_le l (Nat.le_refl n)))

theorem b_X9_readHouse_6 {n : Nat} {Q : Zr → Prop} {t : Nat} (x2 x3 x4 : Int) (s : Zs) (ht : t = 7 ∨ t = 43)
    (h0 : ∀ m, m < n → zC m 1160 [(((4 : Nat) : Int), 0), (((t : Nat) : Int), 0)] s (fun p => zT (zE 1156) (Pt PX9_readHouse) m (11, [((4 : Nat) : Int), ((t : Nat) : Int), x2, x3, x4], p.1 ++ [], p.2) Q)) : zT (zE 1156) (Pt PX9_readHouse) n (6, [((4 : Nat) : Int), ((t : Nat) : Int), x2, x3, x4], [], s) Q := by
  refine tL ((4 : Nat) : Int) 0 rfl rfl rfl ?_
  refine tL ((t : Nat) : Int) 0 rfl rfl rfl ?_
  exact tCall [(((4 : Nat) : Int), 0), (((t : Nat) : Int), 0)] [] rfl rfl rfl (fun m l => h0 m (Nat.lt_of_lt_of_le l (Nat.le_refl n)))

theorem b_X9_readHouse_11 {n : Nat} {Q : Zr → Prop} {t : Nat} (x2 x3 x4 v0 : Int) (s : Zs) (ht : t = 7 ∨ t = 43)
    (h0 : ∀ m, m < n → zC m 916 [(((1 : Nat) : Int), 0), (1, 0)] s (fun p => zT (zE 1156) (Pt PX9_readHouse) m (20, [((4 : Nat) : Int), ((t : Nat) : Int), v0, x3, x4], p.1 ++ [], p.2) Q)) : zT (zE 1156) (Pt PX9_readHouse) n (11, [((4 : Nat) : Int), ((t : Nat) : Int), x2, x3, x4], [(v0, 1)], s) Q := by
  refine tS [((4 : Nat) : Int), ((t : Nat) : Int), v0, x3, x4] rfl rfl ?_
  refine tL ((4 : Nat) : Int) 0 rfl rfl rfl ?_
  refine tFR (c := 4) 1 rfl rfl rfl rfl rfl ?_
  refine tK rfl ?_
  exact tCall [(((1 : Nat) : Int), 0), (1, 0)] [] rfl rfl rfl (fun m l => h0 m (Nat.lt_of_lt_of_le l (Nat.le_refl n)))

theorem b_X9_readHouse_20 {n : Nat} {Q : Zr → Prop} {t : Nat} (x2 x3 x4 : Int) (s : Zs) (ht : t = 7 ∨ t = 43)
    (h0 : ∀ m, m < n → zC m 912 [(((1 : Nat) : Int), 0), (1, 0), (5, 0)] s (fun p => zT (zE 1156) (Pt PX9_readHouse) m (29, [((4 : Nat) : Int), ((t : Nat) : Int), x2, x3, x4], p.1 ++ [], p.2) Q)) : zT (zE 1156) (Pt PX9_readHouse) n (20, [((4 : Nat) : Int), ((t : Nat) : Int), x2, x3, x4], [], s) Q := by
  refine tL ((4 : Nat) : Int) 0 rfl rfl rfl ?_
  refine tFR (c := 4) 1 rfl rfl rfl rfl rfl ?_
  refine tK rfl ?_
  refine tK rfl ?_
  exact tCall [(((1 : Nat) : Int), 0), (1, 0), (5, 0)] [] rfl rfl rfl (fun m l => h0 m (Nat.lt_of_lt_of_le l (Nat.le_refl n)))

theorem b_X9_readHouse_29 {n : Nat} {Q : Zr → Prop} {t : Nat} (x2 x3 x4 v0 : Int) (s : Zs) (ht : t = 7 ∨ t = 43)
    (h0 : ∀ m, m < n → zC m 1152 [(((4 : Nat) : Int), 0)] s (fun p => zT (zE 1156) (Pt PX9_readHouse) m (35, [((4 : Nat) : Int), ((t : Nat) : Int), x2, x3, v0], p.1 ++ [], p.2) Q)) : zT (zE 1156) (Pt PX9_readHouse) n (29, [((4 : Nat) : Int), ((t : Nat) : Int), x2, x3, x4], [(v0, 0)], s) Q := by
  refine tS [((4 : Nat) : Int), ((t : Nat) : Int), x2, x3, v0] rfl rfl ?_
  refine tL ((4 : Nat) : Int) 0 rfl rfl rfl ?_
  exact tCall [(((4 : Nat) : Int), 0)] [] rfl rfl rfl (fun m l => h0 m (Nat.lt_of_lt_of_le l (Nat.le_refl n)))

theorem b_X9_readHouse_35 {n : Nat} {Q : Zr → Prop} {t : Nat} (x2 x3 x4 v0 : Int) (s : Zs) (ht : t = 7 ∨ t = 43)
    (h0 : ∀ (g1 : v0 = 0), Q ([], s))
    (h1 : ∀ (g1 : v0 ≠ 0), Q ([], zu (zu (zu s (t + 1) 0 (w32 ((s (t + 1) 0) + 1))) (t + 32) ((w32 ((w32 (0 * 5)) + (s (t + 1) 0))).toNat) x2) (t + 33) ((s (t + 1) 0).toNat) x4)) : zT (zE 1156) (Pt PX9_readHouse) n (35, [((4 : Nat) : Int), ((t : Nat) : Int), x2, x3, x4], [(v0, 0)], s) Q := by
  refine tI0 rfl (fun g1 _ l1 => zT_le ?_ (Nat.le_of_lt l1)) (fun g1 _ l1 => zT_le ?_ (Nat.le_of_lt l1))
  · exact tR rfl (h0 g1)
  · refine tL ((t : Nat) : Int) 0 rfl rfl rfl ?_
    refine tL ((t : Nat) : Int) 0 rfl rfl rfl ?_
    refine tK rfl ?_
    refine tL x2 1 rfl rfl rfl ?_
    refine tCall [(((t : Nat) : Int), 0), (0, 0), (x2, 1)] [(((t : Nat) : Int), 0)] rfl rfl rfl (fun m2 l2 => c_X8_addNamed (b_X8_addNamed_0 0 x2 0 0 s ht ?_))
    · show zT (zE 1156) (Pt PX9_readHouse) m2 (45, [((4 : Nat) : Int), ((t : Nat) : Int), x2, x3, x4], [(s (t + 1) 0, 0), (((t : Nat) : Int), 0)], zu (zu s (t + 1) 0 (w32 ((s (t + 1) 0) + 1))) (t + 32) ((w32 ((w32 (0 * 5)) + (s (t + 1) 0))).toNat) x2) Q
      refine tL x4 0 rfl rfl rfl ?_
      refine tCall [(((t : Nat) : Int), 0), (s (t + 1) 0, 0), (x4, 0)] [] rfl rfl rfl (fun m3 l3 => c_X8_setFloors (b_X8_setFloors_0 (s (t + 1) 0) x4 (zu (zu s (t + 1) 0 (w32 ((s (t + 1) 0) + 1))) (t + 32) ((w32 ((w32 (0 * 5)) + (s (t + 1) 0))).toNat) x2) ht ?_))
      · show zT (zE 1156) (Pt PX9_readHouse) m3 (50, [((4 : Nat) : Int), ((t : Nat) : Int), x2, x3, x4], [], zu (zu (zu s (t + 1) 0 (w32 ((s (t + 1) 0) + 1))) (t + 32) ((w32 ((w32 (0 * 5)) + (s (t + 1) 0))).toNat) x2) (t + 33) ((s (t + 1) 0).toNat) x4) Q
        exact tR rfl (h1 g1)

theorem c_X9_readHouse {n : Nat} {Q : Zr → Prop} {a0 a1 : Int} {s : Zs} (h : zT (zE 1156) (Pt PX9_readHouse) n (0, [a0, a1, 0, 0, 0], [], s) Q) : zC n 1156 [(a0, 0), (a1, 0)] s Q := h

theorem b_X9_readThing_0 {n : Nat} {Q : Zr → Prop} {t : Nat} (x2 x3 x4 x5 x6 : Int) (s : Zs) (ht : t = 7 ∨ t = 43)
    (h0 : ∀ m, m < n → zC m 1159 [(((4 : Nat) : Int), 0), (((t : Nat) : Int), 0), (2, 0)] s (fun p => zT (zE 1158) (Pt PX9_readThing) m (6, [((4 : Nat) : Int), ((t : Nat) : Int), x2, x3, x4, x5, x6], p.1 ++ [], p.2) Q)) : zT (zE 1158) (Pt PX9_readThing) n (0, [((4 : Nat) : Int), ((t : Nat) : Int), x2, x3, x4, x5, x6], [], s) Q := by
  refine tL ((4 : Nat) : Int) 0 rfl rfl rfl ?_
  refine tL ((t : Nat) : Int) 0 rfl rfl rfl ?_
  refine tK rfl ?_
  exact tCall [(((4 : Nat) : Int), 0), (((t : Nat) : Int), 0), (2, 0)] [] rfl rfl rfl (fun m l => h0 m (Nat.lt_of_lt_of_le l (Nat.le_refl n)))

theorem b_X9_readThing_6 {n : Nat} {Q : Zr → Prop} {t : Nat} (x2 x3 x4 x5 x6 : Int) (s : Zs) (ht : t = 7 ∨ t = 43)
    (h0 : ∀ m, m < n → zC m 1160 [(((4 : Nat) : Int), 0), (((t : Nat) : Int), 0)] s (fun p => zT (zE 1158) (Pt PX9_readThing) m (11, [((4 : Nat) : Int), ((t : Nat) : Int), x2, x3, x4, x5, x6], p.1 ++ [], p.2) Q)) : zT (zE 1158) (Pt PX9_readThing) n (6, [((4 : Nat) : Int), ((t : Nat) : Int), x2, x3, x4, x5, x6], [], s) Q := by
  refine tL ((4 : Nat) : Int) 0 rfl rfl rfl ?_
  refine tL ((t : Nat) : Int) 0 rfl rfl rfl ?_
  exact tCall [(((4 : Nat) : Int), 0), (((t : Nat) : Int), 0)] [] rfl rfl rfl (fun m l => h0 m (Nat.lt_of_lt_of_le l (Nat.le_refl n)))

theorem b_X9_readThing_11 {n : Nat} {Q : Zr → Prop} {t : Nat} (x2 x3 x4 x5 x6 v0 : Int) (s : Zs) (ht : t = 7 ∨ t = 43)
    (h0 : ∀ m, m < n → zC m 916 [(((1 : Nat) : Int), 0), (6, 0)] s (fun p => zT (zE 1158) (Pt PX9_readThing) m (21, [((4 : Nat) : Int), ((t : Nat) : Int), v0, x3, x4, x5, x6], p.1 ++ [], p.2) Q)) : zT (zE 1158) (Pt PX9_readThing) n (11, [((4 : Nat) : Int), ((t : Nat) : Int), x2, x3, x4, x5, x6], [(v0, 1)], s) Q := by
  refine tS [((4 : Nat) : Int), ((t : Nat) : Int), v0, x3, x4, x5, x6] rfl rfl ?_
  refine tL ((4 : Nat) : Int) 0 rfl rfl rfl ?_
  refine tFR (c := 4) 1 rfl rfl rfl rfl rfl ?_
  refine tK rfl ?_
  exact tCall [(((1 : Nat) : Int), 0), (6, 0)] [] rfl rfl rfl (fun m l => h0 m (Nat.lt_of_lt_of_le l (Nat.le_refl n)))

theorem b_X9_readThing_21 {n : Nat} {Q : Zr → Prop} {t : Nat} (x2 x3 x4 x5 x6 : Int) (s : Zs) (ht : t = 7 ∨ t = 43)
    (h0 : ∀ m, m < n → zC m 912 [(((1 : Nat) : Int), 0), (1, 0), (40, 0)] s (fun p => zT (zE 1158) (Pt PX9_readThing) m (31, [((4 : Nat) : Int), ((t : Nat) : Int), x2, x3, x4, x5, x6], p.1 ++ [], p.2) Q)) : zT (zE 1158) (Pt PX9_readThing) n (21, [((4 : Nat) : Int), ((t : Nat) : Int), x2, x3, x4, x5, x6], [], s) Q := by
  refine tL ((4 : Nat) : Int) 0 rfl rfl rfl ?_
  refine tFR (c := 4) 1 rfl rfl rfl rfl rfl ?_
  refine tK rfl ?_
  refine tK rfl ?_
  exact tCall [(((1 : Nat) : Int), 0), (1, 0), (40, 0)] [] rfl rfl rfl (fun m l => h0 m (Nat.lt_of_lt_of_le l (Nat.le_refl n)))

theorem b_X9_readThing_31 {n : Nat} {Q : Zr → Prop} {t : Nat} (x2 x3 x4 x5 x6 v0 : Int) (s : Zs) (ht : t = 7 ∨ t = 43)
    (h0 : ∀ m, m < n → zC m 916 [(((1 : Nat) : Int), 0), (7, 0)] s (fun p => zT (zE 1158) (Pt PX9_readThing) m (42, [((4 : Nat) : Int), ((t : Nat) : Int), x2, x3, v0, x5, x6], p.1 ++ [], p.2) Q)) : zT (zE 1158) (Pt PX9_readThing) n (31, [((4 : Nat) : Int), ((t : Nat) : Int), x2, x3, x4, x5, x6], [(v0, 0)], s) Q := by
  refine tS [((4 : Nat) : Int), ((t : Nat) : Int), x2, x3, v0, x5, x6] rfl rfl ?_
  refine tL ((4 : Nat) : Int) 0 rfl rfl rfl ?_
  refine tFR (c := 4) 1 rfl rfl rfl rfl rfl ?_
  refine tK rfl ?_
  exact tCall [(((1 : Nat) : Int), 0), (7, 0)] [] rfl rfl rfl (fun m l => h0 m (Nat.lt_of_lt_of_le l (Nat.le_refl n)))

theorem b_X9_readThing_42 {n : Nat} {Q : Zr → Prop} {t : Nat} (x2 x3 x4 x5 x6 : Int) (s : Zs) (ht : t = 7 ∨ t = 43)
    (h0 : ∀ m, m < n → zC m 913 [(((1 : Nat) : Int), 0), (((t : Nat) : Int), 0)] s (fun p => zT (zE 1158) (Pt PX9_readThing) m (50, [((4 : Nat) : Int), ((t : Nat) : Int), x2, x3, x4, x5, x6], p.1 ++ [], p.2) Q)) : zT (zE 1158) (Pt PX9_readThing) n (42, [((4 : Nat) : Int), ((t : Nat) : Int), x2, x3, x4, x5, x6], [], s) Q := by
  refine tL ((4 : Nat) : Int) 0 rfl rfl rfl ?_
  refine tFR (c := 4) 1 rfl rfl rfl rfl rfl ?_
  refine tL ((t : Nat) : Int) 0 rfl rfl rfl ?_
  exact tCall [(((1 : Nat) : Int), 0), (((t : Nat) : Int), 0)] [] rfl rfl rfl (fun m l => h0 m (Nat.lt_of_lt_of_le l (Nat.le_refl n)))

theorem b_X9_readThing_50 {n : Nat} {Q : Zr → Prop} {t : Nat} (x2 x3 x4 x5 x6 v0 : Int) (s : Zs) (ht : t = 7 ∨ t = 43)
    (h0 : ∀ m, m < n → zC m 1152 [(((4 : Nat) : Int), 0)] s (fun p => zT (zE 1158) (Pt PX9_readThing) m (56, [((4 : Nat) : Int), ((t : Nat) : Int), x2, x3, x4, v0, x6], p.1 ++ [], p.2) Q)) : zT (zE 1158) (Pt PX9_readThing) n (50, [((4 : Nat) : Int), ((t : Nat) : Int), x2, x3, x4, x5, x6], [(v0, 0)], s) Q := by
  refine tS [((4 : Nat) : Int), ((t : Nat) : Int), x2, x3, x4, v0, x6] rfl rfl ?_
  refine tL ((4 : Nat) : Int) 0 rfl rfl rfl ?_
  exact tCall [(((4 : Nat) : Int), 0)] [] rfl rfl rfl (fun m l => h0 m (Nat.lt_of_lt_of_le l (Nat.le_refl n)))

theorem b_X9_readThing_56 {n : Nat} {Q : Zr → Prop} {t : Nat} (x2 x3 x4 x5 x6 v0 : Int) (s : Zs) (ht : t = 7 ∨ t = 43)
    (h0 : ∀ (g1 : v0 = 0), Q ([], s))
    (h1 : ∀ (g1 : v0 ≠ 0), Q ([], zu (zu (zu (zu s (t + 1) 2 (w32 ((s (t + 1) 2) + 1))) (t + 32) ((w32 ((w32 (2 * 5)) + (s (t + 1) 2))).toNat) x2) (zrho (t + 17) ((s (t + 1) 2).toNat)) 0 x4) (zrho (t + 17) ((s (t + 1) 2).toNat)) 1 x5)) : zT (zE 1158) (Pt PX9_readThing) n (56, [((4 : Nat) : Int), ((t : Nat) : Int), x2, x3, x4, x5, x6], [(v0, 0)], s) Q := by
  refine tI0 rfl (fun g1 _ l1 => zT_le ?_ (Nat.le_of_lt l1)) (fun g1 _ l1 => zT_le ?_ (Nat.le_of_lt l1))
  · exact tR rfl (h0 g1)
  · refine tL ((t : Nat) : Int) 0 rfl rfl rfl ?_
    refine tFR (c := t) (t + 17) rfl rfl rfl rfl (zt8_2 ht) ?_
    refine tL ((t : Nat) : Int) 0 rfl rfl rfl ?_
    refine tK rfl ?_
    refine tL x2 1 rfl rfl rfl ?_
    refine tCall [(((t : Nat) : Int), 0), (2, 0), (x2, 1)] [((((t + 17) : Nat) : Int), 0)] rfl rfl rfl (fun m2 l2 => c_X8_addNamed (b_X8_addNamed_0 2 x2 0 0 s ht ?_))
    · show zT (zE 1158) (Pt PX9_readThing) m2 (69, [((4 : Nat) : Int), ((t : Nat) : Int), x2, x3, x4, x5, x6], [(s (t + 1) 2, 0), ((((t + 17) : Nat) : Int), 0)], zu (zu s (t + 1) 2 (w32 ((s (t + 1) 2) + 1))) (t + 32) ((w32 ((w32 (2 * 5)) + (s (t + 1) 2))).toNat) x2) Q
      refine tAR (zrho (t + 17) ((s (t + 1) 2).toNat)) rfl rfl ?_
      refine tS [((4 : Nat) : Int), ((t : Nat) : Int), x2, x3, x4, x5, (((zrho (t + 17) ((s (t + 1) 2).toNat)) : Nat) : Int)] rfl rfl ?_
      refine tL (((zrho (t + 17) ((s (t + 1) 2).toNat)) : Nat) : Int) 0 rfl rfl rfl ?_
      refine tK rfl ?_
      refine tL x4 0 rfl rfl rfl ?_
      refine tAS (zrho (t + 17) ((s (t + 1) 2).toNat)) 0 rfl rfl rfl (by decide) ?_
      refine tL (((zrho (t + 17) ((s (t + 1) 2).toNat)) : Nat) : Int) 0 rfl rfl rfl ?_
      refine tK rfl ?_
      refine tL x5 0 rfl rfl rfl ?_
      refine tAS (zrho (t + 17) ((s (t + 1) 2).toNat)) 1 rfl rfl rfl (by decide) ?_
      exact tR rfl (h1 g1)

theorem c_X9_readThing {n : Nat} {Q : Zr → Prop} {a0 a1 : Int} {s : Zs} (h : zT (zE 1158) (Pt PX9_readThing) n (0, [a0, a1, 0, 0, 0, 0, 0], [], s) Q) : zC n 1158 [(a0, 0), (a1, 0)] s Q := h

theorem b_X9_readPerson_0 {n : Nat} {Q : Zr → Prop} {t : Nat} (x2 x3 x4 x5 x6 x7 x8 : Int) (s : Zs) (ht : t = 7 ∨ t = 43)
    (h0 : ∀ m, m < n → zC m 1159 [(((4 : Nat) : Int), 0), (((t : Nat) : Int), 0), (3, 0)] s (fun p => zT (zE 1157) (Pt PX9_readPerson) m (6, [((4 : Nat) : Int), ((t : Nat) : Int), x2, x3, x4, x5, x6, x7, x8], p.1 ++ [], p.2) Q)) : zT (zE 1157) (Pt PX9_readPerson) n (0, [((4 : Nat) : Int), ((t : Nat) : Int), x2, x3, x4, x5, x6, x7, x8], [], s) Q := by
  refine tL ((4 : Nat) : Int) 0 rfl rfl rfl ?_
  refine tL ((t : Nat) : Int) 0 rfl rfl rfl ?_
  refine tK rfl ?_
  exact tCall [(((4 : Nat) : Int), 0), (((t : Nat) : Int), 0), (3, 0)] [] rfl rfl rfl (fun m l => h0 m (Nat.lt_of_lt_of_le l (Nat.le_refl n)))

theorem b_X9_readPerson_6 {n : Nat} {Q : Zr → Prop} {t : Nat} (x2 x3 x4 x5 x6 x7 x8 : Int) (s : Zs) (ht : t = 7 ∨ t = 43)
    (h0 : ∀ m, m < n → zC m 1160 [(((4 : Nat) : Int), 0), (((t : Nat) : Int), 0)] s (fun p => zT (zE 1157) (Pt PX9_readPerson) m (11, [((4 : Nat) : Int), ((t : Nat) : Int), x2, x3, x4, x5, x6, x7, x8], p.1 ++ [], p.2) Q)) : zT (zE 1157) (Pt PX9_readPerson) n (6, [((4 : Nat) : Int), ((t : Nat) : Int), x2, x3, x4, x5, x6, x7, x8], [], s) Q := by
  refine tL ((4 : Nat) : Int) 0 rfl rfl rfl ?_
  refine tL ((t : Nat) : Int) 0 rfl rfl rfl ?_
  exact tCall [(((4 : Nat) : Int), 0), (((t : Nat) : Int), 0)] [] rfl rfl rfl (fun m l => h0 m (Nat.lt_of_lt_of_le l (Nat.le_refl n)))

theorem b_X9_readPerson_11 {n : Nat} {Q : Zr → Prop} {t : Nat} (x2 x3 x4 x5 x6 x7 x8 v0 : Int) (s : Zs) (ht : t = 7 ∨ t = 43)
    (h0 : ∀ m, m < n → zC m 916 [(((1 : Nat) : Int), 0), (7, 0)] s (fun p => zT (zE 1157) (Pt PX9_readPerson) m (21, [((4 : Nat) : Int), ((t : Nat) : Int), v0, x3, x4, x5, x6, x7, x8], p.1 ++ [], p.2) Q)) : zT (zE 1157) (Pt PX9_readPerson) n (11, [((4 : Nat) : Int), ((t : Nat) : Int), x2, x3, x4, x5, x6, x7, x8], [(v0, 1)], s) Q := by
  refine tS [((4 : Nat) : Int), ((t : Nat) : Int), v0, x3, x4, x5, x6, x7, x8] rfl rfl ?_
  refine tL ((4 : Nat) : Int) 0 rfl rfl rfl ?_
  refine tFR (c := 4) 1 rfl rfl rfl rfl rfl ?_
  refine tK rfl ?_
  exact tCall [(((1 : Nat) : Int), 0), (7, 0)] [] rfl rfl rfl (fun m l => h0 m (Nat.lt_of_lt_of_le l (Nat.le_refl n)))

theorem b_X9_readPerson_21 {n : Nat} {Q : Zr → Prop} {t : Nat} (x2 x3 x4 x5 x6 x7 x8 : Int) (s : Zs) (ht : t = 7 ∨ t = 43)
    (h0 : ∀ m, m < n → zC m 913 [(((1 : Nat) : Int), 0), (((t : Nat) : Int), 0)] s (fun p => zT (zE 1157) (Pt PX9_readPerson) m (29, [((4 : Nat) : Int), ((t : Nat) : Int), x2, x3, x4, x5, x6, x7, x8], p.1 ++ [], p.2) Q)) : zT (zE 1157) (Pt PX9_readPerson) n (21, [((4 : Nat) : Int), ((t : Nat) : Int), x2, x3, x4, x5, x6, x7, x8], [], s) Q := by
  refine tL ((4 : Nat) : Int) 0 rfl rfl rfl ?_
  refine tFR (c := 4) 1 rfl rfl rfl rfl rfl ?_
  refine tL ((t : Nat) : Int) 0 rfl rfl rfl ?_
  exact tCall [(((1 : Nat) : Int), 0), (((t : Nat) : Int), 0)] [] rfl rfl rfl (fun m l => h0 m (Nat.lt_of_lt_of_le l (Nat.le_refl n)))

theorem b_X9_readPerson_29 {n : Nat} {Q : Zr → Prop} {t : Nat} (x2 x3 x4 x5 x6 x7 x8 v0 : Int) (s : Zs) (ht : t = 7 ∨ t = 43)
    (h0 : ∀ m, m < n → zC m 916 [(((1 : Nat) : Int), 0), (9, 0)] s (fun p => zT (zE 1157) (Pt PX9_readPerson) m (40, [((4 : Nat) : Int), ((t : Nat) : Int), x2, x3, v0, x5, x6, x7, x8], p.1 ++ [], p.2) Q)) : zT (zE 1157) (Pt PX9_readPerson) n (29, [((4 : Nat) : Int), ((t : Nat) : Int), x2, x3, x4, x5, x6, x7, x8], [(v0, 0)], s) Q := by
  refine tS [((4 : Nat) : Int), ((t : Nat) : Int), x2, x3, v0, x5, x6, x7, x8] rfl rfl ?_
  refine tL ((4 : Nat) : Int) 0 rfl rfl rfl ?_
  refine tFR (c := 4) 1 rfl rfl rfl rfl rfl ?_
  refine tK rfl ?_
  exact tCall [(((1 : Nat) : Int), 0), (9, 0)] [] rfl rfl rfl (fun m l => h0 m (Nat.lt_of_lt_of_le l (Nat.le_refl n)))

theorem b_X9_readPerson_40 {n : Nat} {Q : Zr → Prop} {t : Nat} (x2 x3 x4 x5 x6 x7 x8 : Int) (s : Zs) (ht : t = 7 ∨ t = 43)
    (h0 : ∀ m, m < n → zC m 912 [(((1 : Nat) : Int), 0), (0, 0), (40, 0)] s (fun p => zT (zE 1157) (Pt PX9_readPerson) m (50, [((4 : Nat) : Int), ((t : Nat) : Int), x2, x3, x4, x5, x6, x7, x8], p.1 ++ [], p.2) Q)) : zT (zE 1157) (Pt PX9_readPerson) n (40, [((4 : Nat) : Int), ((t : Nat) : Int), x2, x3, x4, x5, x6, x7, x8], [], s) Q := by
  refine tL ((4 : Nat) : Int) 0 rfl rfl rfl ?_
  refine tFR (c := 4) 1 rfl rfl rfl rfl rfl ?_
  refine tK rfl ?_
  refine tK rfl ?_
  exact tCall [(((1 : Nat) : Int), 0), (0, 0), (40, 0)] [] rfl rfl rfl (fun m l => h0 m (Nat.lt_of_lt_of_le l (Nat.le_refl n)))

theorem b_X9_readPerson_50 {n : Nat} {Q : Zr → Prop} {t : Nat} (x2 x3 x4 x5 x6 x7 x8 v0 : Int) (s : Zs) (ht : t = 7 ∨ t = 43)
    (h0 : ∀ m, m < n → zC m 916 [(((1 : Nat) : Int), 0), (10, 0)] s (fun p => zT (zE 1157) (Pt PX9_readPerson) m (61, [((4 : Nat) : Int), ((t : Nat) : Int), x2, x3, x4, v0, x6, x7, x8], p.1 ++ [], p.2) Q)) : zT (zE 1157) (Pt PX9_readPerson) n (50, [((4 : Nat) : Int), ((t : Nat) : Int), x2, x3, x4, x5, x6, x7, x8], [(v0, 0)], s) Q := by
  refine tS [((4 : Nat) : Int), ((t : Nat) : Int), x2, x3, x4, v0, x6, x7, x8] rfl rfl ?_
  refine tL ((4 : Nat) : Int) 0 rfl rfl rfl ?_
  refine tFR (c := 4) 1 rfl rfl rfl rfl rfl ?_
  refine tK rfl ?_
  exact tCall [(((1 : Nat) : Int), 0), (10, 0)] [] rfl rfl rfl (fun m l => h0 m (Nat.lt_of_lt_of_le l (Nat.le_refl n)))

theorem b_X9_readPerson_61 {n : Nat} {Q : Zr → Prop} {t : Nat} (x2 x3 x4 x5 x6 x7 x8 : Int) (s : Zs) (ht : t = 7 ∨ t = 43)
    (h0 : ∀ m, m < n → zC m 912 [(((1 : Nat) : Int), 0), (0, 0), (6, 0)] s (fun p => zT (zE 1157) (Pt PX9_readPerson) m (71, [((4 : Nat) : Int), ((t : Nat) : Int), x2, x3, x4, x5, x6, x7, x8], p.1 ++ [], p.2) Q)) : zT (zE 1157) (Pt PX9_readPerson) n (61, [((4 : Nat) : Int), ((t : Nat) : Int), x2, x3, x4, x5, x6, x7, x8], [], s) Q := by
  refine tL ((4 : Nat) : Int) 0 rfl rfl rfl ?_
  refine tFR (c := 4) 1 rfl rfl rfl rfl rfl ?_
  refine tK rfl ?_
  refine tK rfl ?_
  exact tCall [(((1 : Nat) : Int), 0), (0, 0), (6, 0)] [] rfl rfl rfl (fun m l => h0 m (Nat.lt_of_lt_of_le l (Nat.le_refl n)))

theorem b_X9_readPerson_71 {n : Nat} {Q : Zr → Prop} {t : Nat} (x2 x3 x4 x5 x6 x7 x8 v0 : Int) (s : Zs) (ht : t = 7 ∨ t = 43)
    (h0 : ∀ m, m < n → zC m 916 [(((1 : Nat) : Int), 0), (11, 0)] s (fun p => zT (zE 1157) (Pt PX9_readPerson) m (82, [((4 : Nat) : Int), ((t : Nat) : Int), x2, x3, x4, x5, v0, x7, x8], p.1 ++ [], p.2) Q)) : zT (zE 1157) (Pt PX9_readPerson) n (71, [((4 : Nat) : Int), ((t : Nat) : Int), x2, x3, x4, x5, x6, x7, x8], [(v0, 0)], s) Q := by
  refine tS [((4 : Nat) : Int), ((t : Nat) : Int), x2, x3, x4, x5, v0, x7, x8] rfl rfl ?_
  refine tL ((4 : Nat) : Int) 0 rfl rfl rfl ?_
  refine tFR (c := 4) 1 rfl rfl rfl rfl rfl ?_
  refine tK rfl ?_
  exact tCall [(((1 : Nat) : Int), 0), (11, 0)] [] rfl rfl rfl (fun m l => h0 m (Nat.lt_of_lt_of_le l (Nat.le_refl n)))

theorem b_X9_readPerson_82 {n : Nat} {Q : Zr → Prop} {t : Nat} (x2 x3 x4 x5 x6 x7 x8 : Int) (s : Zs) (ht : t = 7 ∨ t = 43)
    (h0 : ∀ m, m < n → zC m 913 [(((1 : Nat) : Int), 0), (((t : Nat) : Int), 0)] s (fun p => zT (zE 1157) (Pt PX9_readPerson) m (90, [((4 : Nat) : Int), ((t : Nat) : Int), x2, x3, x4, x5, x6, x7, x8], p.1 ++ [], p.2) Q)) : zT (zE 1157) (Pt PX9_readPerson) n (82, [((4 : Nat) : Int), ((t : Nat) : Int), x2, x3, x4, x5, x6, x7, x8], [], s) Q := by
  refine tL ((4 : Nat) : Int) 0 rfl rfl rfl ?_
  refine tFR (c := 4) 1 rfl rfl rfl rfl rfl ?_
  refine tL ((t : Nat) : Int) 0 rfl rfl rfl ?_
  exact tCall [(((1 : Nat) : Int), 0), (((t : Nat) : Int), 0)] [] rfl rfl rfl (fun m l => h0 m (Nat.lt_of_lt_of_le l (Nat.le_refl n)))

theorem b_X9_readPerson_90 {n : Nat} {Q : Zr → Prop} {t : Nat} (x2 x3 x4 x5 x6 x7 x8 v0 : Int) (s : Zs) (ht : t = 7 ∨ t = 43)
    (h0 : ∀ m, m < n → zC m 1152 [(((4 : Nat) : Int), 0)] s (fun p => zT (zE 1157) (Pt PX9_readPerson) m (96, [((4 : Nat) : Int), ((t : Nat) : Int), x2, x3, x4, x5, x6, v0, x8], p.1 ++ [], p.2) Q)) : zT (zE 1157) (Pt PX9_readPerson) n (90, [((4 : Nat) : Int), ((t : Nat) : Int), x2, x3, x4, x5, x6, x7, x8], [(v0, 0)], s) Q := by
  refine tS [((4 : Nat) : Int), ((t : Nat) : Int), x2, x3, x4, x5, x6, v0, x8] rfl rfl ?_
  refine tL ((4 : Nat) : Int) 0 rfl rfl rfl ?_
  exact tCall [(((4 : Nat) : Int), 0)] [] rfl rfl rfl (fun m l => h0 m (Nat.lt_of_lt_of_le l (Nat.le_refl n)))

theorem b_X9_readPerson_96 {n : Nat} {Q : Zr → Prop} {t : Nat} (x2 x3 x4 x5 x6 x7 x8 v0 : Int) (s : Zs) (ht : t = 7 ∨ t = 43)
    (h0 : ∀ (g1 : v0 = 0), Q ([], s))
    (h1 : ∀ (g1 : v0 ≠ 0), Q ([], zu (zu (zu (zu (zu (zu s (t + 1) 3 (w32 ((s (t + 1) 3) + 1))) (t + 32) ((w32 ((w32 (3 * 5)) + (s (t + 1) 3))).toNat) x2) (zrho (t + 23) ((s (t + 1) 3).toNat)) 0 x4) (zrho (t + 23) ((s (t + 1) 3).toNat)) 1 x5) (zrho (t + 23) ((s (t + 1) 3).toNat)) 2 x6) (zrho (t + 23) ((s (t + 1) 3).toNat)) 3 x7)) : zT (zE 1157) (Pt PX9_readPerson) n (96, [((4 : Nat) : Int), ((t : Nat) : Int), x2, x3, x4, x5, x6, x7, x8], [(v0, 0)], s) Q := by
  refine tI0 rfl (fun g1 _ l1 => zT_le ?_ (Nat.le_of_lt l1)) (fun g1 _ l1 => zT_le ?_ (Nat.le_of_lt l1))
  · exact tR rfl (h0 g1)
  · refine tL ((t : Nat) : Int) 0 rfl rfl rfl ?_
    refine tFR (c := t) (t + 23) rfl rfl rfl rfl (zt8_3 ht) ?_
    refine tL ((t : Nat) : Int) 0 rfl rfl rfl ?_
    refine tK rfl ?_
    refine tL x2 1 rfl rfl rfl ?_
    refine tCall [(((t : Nat) : Int), 0), (3, 0), (x2, 1)] [((((t + 23) : Nat) : Int), 0)] rfl rfl rfl (fun m2 l2 => c_X8_addNamed (b_X8_addNamed_0 3 x2 0 0 s ht ?_))
    · show zT (zE 1157) (Pt PX9_readPerson) m2 (109, [((4 : Nat) : Int), ((t : Nat) : Int), x2, x3, x4, x5, x6, x7, x8], [(s (t + 1) 3, 0), ((((t + 23) : Nat) : Int), 0)], zu (zu s (t + 1) 3 (w32 ((s (t + 1) 3) + 1))) (t + 32) ((w32 ((w32 (3 * 5)) + (s (t + 1) 3))).toNat) x2) Q
      refine tAR (zrho (t + 23) ((s (t + 1) 3).toNat)) rfl rfl ?_
      refine tS [((4 : Nat) : Int), ((t : Nat) : Int), x2, x3, x4, x5, x6, x7, (((zrho (t + 23) ((s (t + 1) 3).toNat)) : Nat) : Int)] rfl rfl ?_
      refine tL (((zrho (t + 23) ((s (t + 1) 3).toNat)) : Nat) : Int) 0 rfl rfl rfl ?_
      refine tK rfl ?_
      refine tL x4 0 rfl rfl rfl ?_
      refine tAS (zrho (t + 23) ((s (t + 1) 3).toNat)) 0 rfl rfl rfl (by decide) ?_
      refine tL (((zrho (t + 23) ((s (t + 1) 3).toNat)) : Nat) : Int) 0 rfl rfl rfl ?_
      refine tK rfl ?_
      refine tL x5 0 rfl rfl rfl ?_
      refine tAS (zrho (t + 23) ((s (t + 1) 3).toNat)) 1 rfl rfl rfl (by decide) ?_
      refine tL (((zrho (t + 23) ((s (t + 1) 3).toNat)) : Nat) : Int) 0 rfl rfl rfl ?_
      refine tK rfl ?_
      refine tL x6 0 rfl rfl rfl ?_
      refine tAS (zrho (t + 23) ((s (t + 1) 3).toNat)) 2 rfl rfl rfl (by decide) ?_
      refine tL (((zrho (t + 23) ((s (t + 1) 3).toNat)) : Nat) : Int) 0 rfl rfl rfl ?_
      refine tK rfl ?_
      refine tL x7 0 rfl rfl rfl ?_
      refine tAS (zrho (t + 23) ((s (t + 1) 3).toNat)) 3 rfl rfl rfl (by decide) ?_
      exact tR rfl (h1 g1)

theorem c_X9_readPerson {n : Nat} {Q : Zr → Prop} {a0 a1 : Int} {s : Zs} (h : zT (zE 1157) (Pt PX9_readPerson) n (0, [a0, a1, 0, 0, 0, 0, 0, 0, 0], [], s) Q) : zC n 1157 [(a0, 0), (a1, 0)] s Q := h

theorem b_X9_readHill_0 {n : Nat} {Q : Zr → Prop} {t : Nat} (x2 x3 x4 x5 x6 : Int) (s : Zs) (ht : t = 7 ∨ t = 43)
    (h0 : ∀ m, m < n → zC m 1159 [(((4 : Nat) : Int), 0), (((t : Nat) : Int), 0), (4, 0)] s (fun p => zT (zE 1155) (Pt PX9_readHill) m (6, [((4 : Nat) : Int), ((t : Nat) : Int), x2, x3, x4, x5, x6], p.1 ++ [], p.2) Q)) : zT (zE 1155) (Pt PX9_readHill) n (0, [((4 : Nat) : Int), ((t : Nat) : Int), x2, x3, x4, x5, x6], [], s) Q := by
  refine tL ((4 : Nat) : Int) 0 rfl rfl rfl ?_
  refine tL ((t : Nat) : Int) 0 rfl rfl rfl ?_
  refine tK rfl ?_
  exact tCall [(((4 : Nat) : Int), 0), (((t : Nat) : Int), 0), (4, 0)] [] rfl rfl rfl (fun m l => h0 m (Nat.lt_of_lt_of_le l (Nat.le_refl n)))

theorem b_X9_readHill_6 {n : Nat} {Q : Zr → Prop} {t : Nat} (x2 x3 x4 x5 x6 : Int) (s : Zs) (ht : t = 7 ∨ t = 43)
    (h0 : ∀ m, m < n → zC m 1160 [(((4 : Nat) : Int), 0), (((t : Nat) : Int), 0)] s (fun p => zT (zE 1155) (Pt PX9_readHill) m (11, [((4 : Nat) : Int), ((t : Nat) : Int), x2, x3, x4, x5, x6], p.1 ++ [], p.2) Q)) : zT (zE 1155) (Pt PX9_readHill) n (6, [((4 : Nat) : Int), ((t : Nat) : Int), x2, x3, x4, x5, x6], [], s) Q := by
  refine tL ((4 : Nat) : Int) 0 rfl rfl rfl ?_
  refine tL ((t : Nat) : Int) 0 rfl rfl rfl ?_
  exact tCall [(((4 : Nat) : Int), 0), (((t : Nat) : Int), 0)] [] rfl rfl rfl (fun m l => h0 m (Nat.lt_of_lt_of_le l (Nat.le_refl n)))

theorem b_X9_readHill_11 {n : Nat} {Q : Zr → Prop} {t : Nat} (x2 x3 x4 x5 x6 v0 : Int) (s : Zs) (ht : t = 7 ∨ t = 43)
    (h0 : ∀ m, m < n → zC m 916 [(((1 : Nat) : Int), 0), (3, 0)] s (fun p => zT (zE 1155) (Pt PX9_readHill) m (20, [((4 : Nat) : Int), ((t : Nat) : Int), v0, x3, x4, x5, x6], p.1 ++ [], p.2) Q)) : zT (zE 1155) (Pt PX9_readHill) n (11, [((4 : Nat) : Int), ((t : Nat) : Int), x2, x3, x4, x5, x6], [(v0, 1)], s) Q := by
  refine tS [((4 : Nat) : Int), ((t : Nat) : Int), v0, x3, x4, x5, x6] rfl rfl ?_
  refine tL ((4 : Nat) : Int) 0 rfl rfl rfl ?_
  refine tFR (c := 4) 1 rfl rfl rfl rfl rfl ?_
  refine tK rfl ?_
  exact tCall [(((1 : Nat) : Int), 0), (3, 0)] [] rfl rfl rfl (fun m l => h0 m (Nat.lt_of_lt_of_le l (Nat.le_refl n)))

theorem b_X9_readHill_20 {n : Nat} {Q : Zr → Prop} {t : Nat} (x2 x3 x4 x5 x6 : Int) (s : Zs) (ht : t = 7 ∨ t = 43)
    (h0 : ∀ m, m < n → zC m 912 [(((1 : Nat) : Int), 0), (1, 0), (99, 0)] s (fun p => zT (zE 1155) (Pt PX9_readHill) m (30, [((4 : Nat) : Int), ((t : Nat) : Int), x2, x3, x4, x5, x6], p.1 ++ [], p.2) Q)) : zT (zE 1155) (Pt PX9_readHill) n (20, [((4 : Nat) : Int), ((t : Nat) : Int), x2, x3, x4, x5, x6], [], s) Q := by
  refine tL ((4 : Nat) : Int) 0 rfl rfl rfl ?_
  refine tFR (c := 4) 1 rfl rfl rfl rfl rfl ?_
  refine tK rfl ?_
  refine tK rfl ?_
  exact tCall [(((1 : Nat) : Int), 0), (1, 0), (99, 0)] [] rfl rfl rfl (fun m l => h0 m (Nat.lt_of_lt_of_le l (Nat.le_refl n)))

theorem b_X9_readHill_30 {n : Nat} {Q : Zr → Prop} {t : Nat} (x2 x3 x4 x5 x6 v0 : Int) (s : Zs) (ht : t = 7 ∨ t = 43)
    (h0 : ∀ m, m < n → zC m 916 [(((1 : Nat) : Int), 0), (13, 0)] s (fun p => zT (zE 1155) (Pt PX9_readHill) m (41, [((4 : Nat) : Int), ((t : Nat) : Int), x2, x3, v0, x5, x6], p.1 ++ [], p.2) Q)) : zT (zE 1155) (Pt PX9_readHill) n (30, [((4 : Nat) : Int), ((t : Nat) : Int), x2, x3, x4, x5, x6], [(v0, 0)], s) Q := by
  refine tS [((4 : Nat) : Int), ((t : Nat) : Int), x2, x3, v0, x5, x6] rfl rfl ?_
  refine tL ((4 : Nat) : Int) 0 rfl rfl rfl ?_
  refine tFR (c := 4) 1 rfl rfl rfl rfl rfl ?_
  refine tK rfl ?_
  exact tCall [(((1 : Nat) : Int), 0), (13, 0)] [] rfl rfl rfl (fun m l => h0 m (Nat.lt_of_lt_of_le l (Nat.le_refl n)))

theorem b_X9_readHill_41 {n : Nat} {Q : Zr → Prop} {t : Nat} (x2 x3 x4 x5 x6 : Int) (s : Zs) (ht : t = 7 ∨ t = 43)
    (h0 : ∀ m, m < n → zC m 912 [(((1 : Nat) : Int), 0), (0, 0), (99, 0)] s (fun p => zT (zE 1155) (Pt PX9_readHill) m (51, [((4 : Nat) : Int), ((t : Nat) : Int), x2, x3, x4, x5, x6], p.1 ++ [], p.2) Q)) : zT (zE 1155) (Pt PX9_readHill) n (41, [((4 : Nat) : Int), ((t : Nat) : Int), x2, x3, x4, x5, x6], [], s) Q := by
  refine tL ((4 : Nat) : Int) 0 rfl rfl rfl ?_
  refine tFR (c := 4) 1 rfl rfl rfl rfl rfl ?_
  refine tK rfl ?_
  refine tK rfl ?_
  exact tCall [(((1 : Nat) : Int), 0), (0, 0), (99, 0)] [] rfl rfl rfl (fun m l => h0 m (Nat.lt_of_lt_of_le l (Nat.le_refl n)))

theorem b_X9_readHill_51 {n : Nat} {Q : Zr → Prop} {t : Nat} (x2 x3 x4 x5 x6 v0 : Int) (s : Zs) (ht : t = 7 ∨ t = 43)
    (h0 : ∀ m, m < n → zC m 1152 [(((4 : Nat) : Int), 0)] s (fun p => zT (zE 1155) (Pt PX9_readHill) m (57, [((4 : Nat) : Int), ((t : Nat) : Int), x2, x3, x4, v0, x6], p.1 ++ [], p.2) Q)) : zT (zE 1155) (Pt PX9_readHill) n (51, [((4 : Nat) : Int), ((t : Nat) : Int), x2, x3, x4, x5, x6], [(v0, 0)], s) Q := by
  refine tS [((4 : Nat) : Int), ((t : Nat) : Int), x2, x3, x4, v0, x6] rfl rfl ?_
  refine tL ((4 : Nat) : Int) 0 rfl rfl rfl ?_
  exact tCall [(((4 : Nat) : Int), 0)] [] rfl rfl rfl (fun m l => h0 m (Nat.lt_of_lt_of_le l (Nat.le_refl n)))

theorem b_X9_readHill_57 {n : Nat} {Q : Zr → Prop} {t : Nat} (x2 x3 x4 x5 x6 v0 : Int) (s : Zs) (ht : t = 7 ∨ t = 43)
    (h0 : ∀ (g1 : v0 = 0), Q ([], s))
    (h1 : ∀ (g1 : v0 ≠ 0), Q ([], zu (zu (zu (zu s (t + 1) 4 (w32 ((s (t + 1) 4) + 1))) (t + 32) ((w32 ((w32 (4 * 5)) + (s (t + 1) 4))).toNat) x2) (zrho (t + 28) ((s (t + 1) 4).toNat)) 0 x4) (zrho (t + 28) ((s (t + 1) 4).toNat)) 1 x5)) : zT (zE 1155) (Pt PX9_readHill) n (57, [((4 : Nat) : Int), ((t : Nat) : Int), x2, x3, x4, x5, x6], [(v0, 0)], s) Q := by
  refine tI0 rfl (fun g1 _ l1 => zT_le ?_ (Nat.le_of_lt l1)) (fun g1 _ l1 => zT_le ?_ (Nat.le_of_lt l1))
  · exact tR rfl (h0 g1)
  · refine tL ((t : Nat) : Int) 0 rfl rfl rfl ?_
    refine tFR (c := t) (t + 28) rfl rfl rfl rfl (zt8_4 ht) ?_
    refine tL ((t : Nat) : Int) 0 rfl rfl rfl ?_
    refine tK rfl ?_
    refine tL x2 1 rfl rfl rfl ?_
    refine tCall [(((t : Nat) : Int), 0), (4, 0), (x2, 1)] [((((t + 28) : Nat) : Int), 0)] rfl rfl rfl (fun m2 l2 => c_X8_addNamed (b_X8_addNamed_0 4 x2 0 0 s ht ?_))
    · show zT (zE 1155) (Pt PX9_readHill) m2 (70, [((4 : Nat) : Int), ((t : Nat) : Int), x2, x3, x4, x5, x6], [(s (t + 1) 4, 0), ((((t + 28) : Nat) : Int), 0)], zu (zu s (t + 1) 4 (w32 ((s (t + 1) 4) + 1))) (t + 32) ((w32 ((w32 (4 * 5)) + (s (t + 1) 4))).toNat) x2) Q
      refine tAR (zrho (t + 28) ((s (t + 1) 4).toNat)) rfl rfl ?_
      refine tS [((4 : Nat) : Int), ((t : Nat) : Int), x2, x3, x4, x5, (((zrho (t + 28) ((s (t + 1) 4).toNat)) : Nat) : Int)] rfl rfl ?_
      refine tL (((zrho (t + 28) ((s (t + 1) 4).toNat)) : Nat) : Int) 0 rfl rfl rfl ?_
      refine tK rfl ?_
      refine tL x4 0 rfl rfl rfl ?_
      refine tAS (zrho (t + 28) ((s (t + 1) 4).toNat)) 0 rfl rfl rfl (by decide) ?_
      refine tL (((zrho (t + 28) ((s (t + 1) 4).toNat)) : Nat) : Int) 0 rfl rfl rfl ?_
      refine tK rfl ?_
      refine tL x5 0 rfl rfl rfl ?_
      refine tAS (zrho (t + 28) ((s (t + 1) 4).toNat)) 1 rfl rfl rfl (by decide) ?_
      exact tR rfl (h1 g1)

theorem c_X9_readHill {n : Nat} {Q : Zr → Prop} {a0 a1 : Int} {s : Zs} (h : zT (zE 1155) (Pt PX9_readHill) n (0, [a0, a1, 0, 0, 0, 0, 0], [], s) Q) : zC n 1155 [(a0, 0), (a1, 0)] s Q := h

theorem b_X9_readFlight_0 {n : Nat} {Q : Zr → Prop} {t : Nat} (x2 x3 x4 x5 : Int) (s : Zs) (ht : t = 7 ∨ t = 43)
    (h0 : ∀ m, m < n → zC m 1159 [(((4 : Nat) : Int), 0), (((t : Nat) : Int), 0), (1, 0)] s (fun p => zT (zE 1154) (Pt PX9_readFlight) m (6, [((4 : Nat) : Int), ((t : Nat) : Int), x2, x3, x4, x5], p.1 ++ [], p.2) Q)) : zT (zE 1154) (Pt PX9_readFlight) n (0, [((4 : Nat) : Int), ((t : Nat) : Int), x2, x3, x4, x5], [], s) Q := by
  refine tL ((4 : Nat) : Int) 0 rfl rfl rfl ?_
  refine tL ((t : Nat) : Int) 0 rfl rfl rfl ?_
  refine tK rfl ?_
  exact tCall [(((4 : Nat) : Int), 0), (((t : Nat) : Int), 0), (1, 0)] [] rfl rfl rfl (fun m l => h0 m (Nat.lt_of_lt_of_le l (Nat.le_refl n)))

theorem b_X9_readFlight_40 {n : Nat} {Q : Zr → Prop} {t : Nat} (x2 x3 x4 x5 : Int) (s : Zs) (ht : t = 7 ∨ t = 43)
    (h0 : ∀ (g2 : x2 < 0), ∀ m, m < n → zC m 912 [(((1 : Nat) : Int), 0), (0, 0), ((-2), 0)] s (fun p => zT (zE 1154) (Pt PX9_readFlight) m (55, [((4 : Nat) : Int), ((t : Nat) : Int), x2, x3, x4, x5], p.1 ++ [], p.2) Q))
    (h1 : ∀ (g4 : 0 ≤ x2), ∀ (g5 : s (t + 1) 0 ≤ x2), ∀ m, m < n → zC m 912 [(((1 : Nat) : Int), 0), (0, 0), ((-2), 0)] s (fun p => zT (zE 1154) (Pt PX9_readFlight) m (55, [((4 : Nat) : Int), ((t : Nat) : Int), x2, x3, x4, x5], p.1 ++ [], p.2) Q))
    (h2 : ∀ (g7 : 0 ≤ x2), ∀ (g8 : x2 < s (t + 1) 0), ∀ m, m < n → zC m 912 [(((1 : Nat) : Int), 0), (0, 0), (w32 ((s (t + 33) x2.toNat) - 1), 0)] s (fun p => zT (zE 1154) (Pt PX9_readFlight) m (55, [((4 : Nat) : Int), ((t : Nat) : Int), x2, x3, x4, x5], p.1 ++ [], p.2) Q)) : zT (zE 1154) (Pt PX9_readFlight) n (40, [((4 : Nat) : Int), ((t : Nat) : Int), x2, x3, x4, x5], [], s) Q := by
  refine tL ((4 : Nat) : Int) 0 rfl rfl rfl ?_
  refine tFR (c := 4) 1 rfl rfl rfl rfl rfl ?_
  refine tK rfl ?_
  refine tL ((t : Nat) : Int) 0 rfl rfl rfl ?_
  refine tL x2 0 rfl rfl rfl ?_
  refine tCall [(((t : Nat) : Int), 0), (x2, 0)] [(0, 0), (((1 : Nat) : Int), 0)] rfl rfl rfl (fun m1 l1 => c_X8_floorsOf (b_X8_floorsOf_0 x2 s ht ?_ ?_ ?_))
  · intro g2
    show zT (zE 1154) (Pt PX9_readFlight) m1 (50, [((4 : Nat) : Int), ((t : Nat) : Int), x2, x3, x4, x5], [((-1), 0), (0, 0), (((1 : Nat) : Int), 0)], s) Q
    refine tK rfl ?_
    refine tB (v := (-2)) rfl (by decide +kernel) ?_
    exact tCall [(((1 : Nat) : Int), 0), (0, 0), ((-2), 0)] [] rfl rfl rfl (fun m l => h0 g2 m (Nat.lt_of_lt_of_le l (Nat.le_trans (Nat.le_of_lt l1) (Nat.le_refl n))))
  · intro g4 g5
    show zT (zE 1154) (Pt PX9_readFlight) m1 (50, [((4 : Nat) : Int), ((t : Nat) : Int), x2, x3, x4, x5], [((-1), 0), (0, 0), (((1 : Nat) : Int), 0)], s) Q
    refine tK rfl ?_
    refine tB (v := (-2)) rfl (by decide +kernel) ?_
    exact tCall [(((1 : Nat) : Int), 0), (0, 0), ((-2), 0)] [] rfl rfl rfl (fun m l => h1 g4 g5 m (Nat.lt_of_lt_of_le l (Nat.le_trans (Nat.le_of_lt l1) (Nat.le_refl n))))
  · intro g7 g8
    show zT (zE 1154) (Pt PX9_readFlight) m1 (50, [((4 : Nat) : Int), ((t : Nat) : Int), x2, x3, x4, x5], [(s (t + 33) x2.toNat, 0), (0, 0), (((1 : Nat) : Int), 0)], s) Q
    refine tK rfl ?_
    refine tB (v := w32 ((s (t + 33) x2.toNat) - 1)) rfl rfl ?_
    exact tCall [(((1 : Nat) : Int), 0), (0, 0), (w32 ((s (t + 33) x2.toNat) - 1), 0)] [] rfl rfl rfl (fun m l => h2 g7 g8 m (Nat.lt_of_lt_of_le l (Nat.le_trans (Nat.le_of_lt l1) (Nat.le_refl n))))

theorem b_X9_readFlight_6 {n : Nat} {Q : Zr → Prop} {t : Nat} (x2 x3 x4 x5 : Int) (s : Zs) (ht : t = 7 ∨ t = 43)
    (h0 : ∀ m, m < n → zC m 915 [(((1 : Nat) : Int), 0), (((t : Nat) : Int), 0), (0, 0)] s (fun p => zT (zE 1154) (Pt PX9_readFlight) m (15, [((4 : Nat) : Int), ((t : Nat) : Int), x2, x3, x4, x5], p.1 ++ [], p.2) Q)) : zT (zE 1154) (Pt PX9_readFlight) n (6, [((4 : Nat) : Int), ((t : Nat) : Int), x2, x3, x4, x5], [], s) Q := by
  refine tL ((4 : Nat) : Int) 0 rfl rfl rfl ?_
  refine tFR (c := 4) 1 rfl rfl rfl rfl rfl ?_
  refine tL ((t : Nat) : Int) 0 rfl rfl rfl ?_
  refine tK rfl ?_
  exact tCall [(((1 : Nat) : Int), 0), (((t : Nat) : Int), 0), (0, 0)] [] rfl rfl rfl (fun m l => h0 m (Nat.lt_of_lt_of_le l (Nat.le_refl n)))

theorem b_X9_readFlight_55 {n : Nat} {Q : Zr → Prop} {t : Nat} (x2 x3 x4 x5 v0 : Int) (s : Zs) (ht : t = 7 ∨ t = 43)
    (h0 : ∀ m, m < n → zC m 916 [(((1 : Nat) : Int), 0), (3, 0)] s (fun p => zT (zE 1154) (Pt PX9_readFlight) m (64, [((4 : Nat) : Int), ((t : Nat) : Int), x2, v0, x4, x5], p.1 ++ [], p.2) Q)) : zT (zE 1154) (Pt PX9_readFlight) n (55, [((4 : Nat) : Int), ((t : Nat) : Int), x2, x3, x4, x5], [(v0, 0)], s) Q := by
  refine tS [((4 : Nat) : Int), ((t : Nat) : Int), x2, v0, x4, x5] rfl rfl ?_
  refine tL ((4 : Nat) : Int) 0 rfl rfl rfl ?_
  refine tFR (c := 4) 1 rfl rfl rfl rfl rfl ?_
  refine tK rfl ?_
  exact tCall [(((1 : Nat) : Int), 0), (3, 0)] [] rfl rfl rfl (fun m l => h0 m (Nat.lt_of_lt_of_le l (Nat.le_refl n)))

theorem b_X9_readFlight_15 {n : Nat} {Q : Zr → Prop} {t : Nat} (x2 x3 x4 x5 v0 : Int) (s : Zs) (ht : t = 7 ∨ t = 43)
    (h0 : ∀ m, m < n → zC m 911 [(((1 : Nat) : Int), 0)] s (fun p => zT (zE 1154) (Pt PX9_readFlight) m (25, [((4 : Nat) : Int), ((t : Nat) : Int), v0, x3, x4, x5], p.1 ++ [(v0, 0), (((t : Nat) : Int), 0)], p.2) Q)) : zT (zE 1154) (Pt PX9_readFlight) n (15, [((4 : Nat) : Int), ((t : Nat) : Int), x2, x3, x4, x5], [(v0, 0)], s) Q := by
  refine tS [((4 : Nat) : Int), ((t : Nat) : Int), v0, x3, x4, x5] rfl rfl ?_
  refine tL ((t : Nat) : Int) 0 rfl rfl rfl ?_
  refine tL v0 0 rfl rfl rfl ?_
  refine tL ((4 : Nat) : Int) 0 rfl rfl rfl ?_
  refine tFR (c := 4) 1 rfl rfl rfl rfl rfl ?_
  exact tCall [(((1 : Nat) : Int), 0)] [(v0, 0), (((t : Nat) : Int), 0)] rfl rfl rfl (fun m l => h0 m (Nat.lt_of_lt_of_le l (Nat.le_refl n)))

theorem b_X9_readFlight_64 {n : Nat} {Q : Zr → Prop} {t : Nat} (x2 x3 x4 x5 : Int) (s : Zs) (ht : t = 7 ∨ t = 43)
    (h0 : ∀ m, m < n → zC m 912 [(((1 : Nat) : Int), 0), (1, 0), (40, 0)] s (fun p => zT (zE 1154) (Pt PX9_readFlight) m (74, [((4 : Nat) : Int), ((t : Nat) : Int), x2, x3, x4, x5], p.1 ++ [], p.2) Q)) : zT (zE 1154) (Pt PX9_readFlight) n (64, [((4 : Nat) : Int), ((t : Nat) : Int), x2, x3, x4, x5], [], s) Q := by
  refine tL ((4 : Nat) : Int) 0 rfl rfl rfl ?_
  refine tFR (c := 4) 1 rfl rfl rfl rfl rfl ?_
  refine tK rfl ?_
  refine tK rfl ?_
  exact tCall [(((1 : Nat) : Int), 0), (1, 0), (40, 0)] [] rfl rfl rfl (fun m l => h0 m (Nat.lt_of_lt_of_le l (Nat.le_refl n)))

theorem b_X9_readFlight_25 {n : Nat} {Q : Zr → Prop} {t : Nat} (x2 x3 x4 x5 v0 y0 : Int) (s : Zs) (ht : t = 7 ∨ t = 43)
    (h0 : ∀ (g2 : y0 < 0), zT (zE 1154) (Pt PX9_readFlight) n (40, [((4 : Nat) : Int), ((t : Nat) : Int), x2, x3, x4, x5], [], s) Q)
    (h1 : ∀ (g3 : 0 ≤ y0), ∀ (g4 : v0 < 0), zT (zE 1154) (Pt PX9_readFlight) n (40, [((4 : Nat) : Int), ((t : Nat) : Int), x2, x3, x4, x5], [], s) Q)
    (h2 : ∀ (g5 : 0 ≤ y0), ∀ (g6 : 0 ≤ v0), ∀ (g7 : 6 ≤ v0), zT (zE 1154) (Pt PX9_readFlight) n (40, [((4 : Nat) : Int), ((t : Nat) : Int), x2, x3, x4, x5], [], s) Q)
    (h3 : ∀ (g8 : 0 ≤ y0), ∀ (g9 : 0 ≤ v0), ∀ (g10 : v0 < 6), ∀ (g11 : 30 ≤ w32 ((w32 (y0 * 6)) + v0)), zT (zE 1154) (Pt PX9_readFlight) n (40, [((4 : Nat) : Int), ((t : Nat) : Int), x2, x3, x4, x5], [], s) Q)
    (h4 : ∀ (g12 : 0 ≤ y0), ∀ (g13 : 0 ≤ v0), ∀ (g14 : v0 < 6), ∀ (g15 : w32 ((w32 (y0 * 6)) + v0) < 30), ∀ (g16 : s (t + 34) ((w32 ((w32 (y0 * 6)) + v0)).toNat) = (-1)), zT (zE 1154) (Pt PX9_readFlight) n (40, [((4 : Nat) : Int), ((t : Nat) : Int), x2, x3, x4, x5], [], s) Q)
    (h5 : ∀ (g12 : 0 ≤ y0), ∀ (g13 : 0 ≤ v0), ∀ (g14 : v0 < 6), ∀ (g15 : w32 ((w32 (y0 * 6)) + v0) < 30), ∀ (g16 : s (t + 34) ((w32 ((w32 (y0 * 6)) + v0)).toNat) ≠ (-1)), ∀ m, m < n → zC m 899 [(((1 : Nat) : Int), 0), (3, 0)] s (fun p => zT (zE 1154) (Pt PX9_readFlight) m (40, [((4 : Nat) : Int), ((t : Nat) : Int), x2, x3, x4, x5], p.1 ++ [], p.2) Q)) : zT (zE 1154) (Pt PX9_readFlight) n (25, [((4 : Nat) : Int), ((t : Nat) : Int), x2, x3, x4, x5], [(v0, 0), (y0, 0), (((t : Nat) : Int), 0)], s) Q := by
  refine tCall [(((t : Nat) : Int), 0), (y0, 0), (v0, 0)] [] rfl rfl rfl (fun m1 l1 => c_X8_flightFrom (b_X8_flightFrom_0 y0 v0 0 s ht ?_ ?_ ?_ ?_ ?_))
  · intro g2
    show zT (zE 1154) (Pt PX9_readFlight) m1 (28, [((4 : Nat) : Int), ((t : Nat) : Int), x2, x3, x4, x5], [((-1), 0)], s) Q
    refine tK rfl ?_
    refine tJ0 rfl (fun g _ l => zT_le ?_ (Nat.le_of_lt l)) (fun g _ l => (absurd g (by decide)))
    exact zT_le (h0 g2) (Nat.le_trans (Nat.le_of_lt l1) (Nat.le_refl n))
  · intro g3 g4
    show zT (zE 1154) (Pt PX9_readFlight) m1 (28, [((4 : Nat) : Int), ((t : Nat) : Int), x2, x3, x4, x5], [((-1), 0)], s) Q
    refine tK rfl ?_
    refine tJ0 rfl (fun g _ l => zT_le ?_ (Nat.le_of_lt l)) (fun g _ l => (absurd g (by decide)))
    exact zT_le (h1 g3 g4) (Nat.le_trans (Nat.le_of_lt l1) (Nat.le_refl n))
  · intro g5 g6 g7
    show zT (zE 1154) (Pt PX9_readFlight) m1 (28, [((4 : Nat) : Int), ((t : Nat) : Int), x2, x3, x4, x5], [((-1), 0)], s) Q
    refine tK rfl ?_
    refine tJ0 rfl (fun g _ l => zT_le ?_ (Nat.le_of_lt l)) (fun g _ l => (absurd g (by decide)))
    exact zT_le (h2 g5 g6 g7) (Nat.le_trans (Nat.le_of_lt l1) (Nat.le_refl n))
  · intro g8 g9 g10 g11
    show zT (zE 1154) (Pt PX9_readFlight) m1 (28, [((4 : Nat) : Int), ((t : Nat) : Int), x2, x3, x4, x5], [((-1), 0)], s) Q
    refine tK rfl ?_
    refine tJ0 rfl (fun g _ l => zT_le ?_ (Nat.le_of_lt l)) (fun g _ l => (absurd g (by decide)))
    exact zT_le (h3 g8 g9 g10 g11) (Nat.le_trans (Nat.le_of_lt l1) (Nat.le_refl n))
  · intro g12 g13 g14 g15
    show zT (zE 1154) (Pt PX9_readFlight) m1 (28, [((4 : Nat) : Int), ((t : Nat) : Int), x2, x3, x4, x5], [(s (t + 34) ((w32 ((w32 (y0 * 6)) + v0)).toNat), 0)], s) Q
    refine tK rfl ?_
    refine tJ0 rfl (fun g16 _ l16 => zT_le ?_ (Nat.le_of_lt l16)) (fun g16 _ l16 => zT_le ?_ (Nat.le_of_lt l16))
    · exact zT_le (h4 g12 g13 g14 g15 g16) (Nat.le_trans (Nat.le_of_lt l1) (Nat.le_refl n))
    · refine tL ((4 : Nat) : Int) 0 rfl rfl rfl ?_
      refine tFR (c := 4) 1 rfl rfl rfl rfl rfl ?_
      refine tK rfl ?_
      exact tCall [(((1 : Nat) : Int), 0), (3, 0)] [] rfl rfl rfl (fun m l => h5 g12 g13 g14 g15 g16 m (Nat.lt_of_lt_of_le l (Nat.le_trans (Nat.le_of_lt l1) (Nat.le_refl n))))

theorem b_X9_readFlight_74 {n : Nat} {Q : Zr → Prop} {t : Nat} (x2 x3 x4 x5 v0 : Int) (s : Zs) (ht : t = 7 ∨ t = 43)
    (h0 : ∀ m, m < n → zC m 916 [(((1 : Nat) : Int), 0), (4, 0)] s (fun p => zT (zE 1154) (Pt PX9_readFlight) m (84, [((4 : Nat) : Int), ((t : Nat) : Int), x2, x3, v0, x5], p.1 ++ [], p.2) Q)) : zT (zE 1154) (Pt PX9_readFlight) n (74, [((4 : Nat) : Int), ((t : Nat) : Int), x2, x3, x4, x5], [(v0, 0)], s) Q := by
  refine tS [((4 : Nat) : Int), ((t : Nat) : Int), x2, x3, v0, x5] rfl rfl ?_
  refine tL ((4 : Nat) : Int) 0 rfl rfl rfl ?_
  refine tFR (c := 4) 1 rfl rfl rfl rfl rfl ?_
  refine tK rfl ?_
  exact tCall [(((1 : Nat) : Int), 0), (4, 0)] [] rfl rfl rfl (fun m l => h0 m (Nat.lt_of_lt_of_le l (Nat.le_refl n)))

theorem b_X9_readFlight_84 {n : Nat} {Q : Zr → Prop} {t : Nat} (x2 x3 x4 x5 : Int) (s : Zs) (ht : t = 7 ∨ t = 43)
    (h0 : ∀ m, m < n → zC m 912 [(((1 : Nat) : Int), 0), (0, 0), (10, 0)] s (fun p => zT (zE 1154) (Pt PX9_readFlight) m (94, [((4 : Nat) : Int), ((t : Nat) : Int), x2, x3, x4, x5], p.1 ++ [], p.2) Q)) : zT (zE 1154) (Pt PX9_readFlight) n (84, [((4 : Nat) : Int), ((t : Nat) : Int), x2, x3, x4, x5], [], s) Q := by
  refine tL ((4 : Nat) : Int) 0 rfl rfl rfl ?_
  refine tFR (c := 4) 1 rfl rfl rfl rfl rfl ?_
  refine tK rfl ?_
  refine tK rfl ?_
  exact tCall [(((1 : Nat) : Int), 0), (0, 0), (10, 0)] [] rfl rfl rfl (fun m l => h0 m (Nat.lt_of_lt_of_le l (Nat.le_refl n)))

theorem b_X9_readFlight_94 {n : Nat} {Q : Zr → Prop} {t : Nat} (x2 x3 x4 x5 v0 : Int) (s : Zs) (ht : t = 7 ∨ t = 43)
    (h0 : ∀ m, m < n → zC m 1152 [(((4 : Nat) : Int), 0)] s (fun p => zT (zE 1154) (Pt PX9_readFlight) m (100, [((4 : Nat) : Int), ((t : Nat) : Int), x2, x3, x4, v0], p.1 ++ [], p.2) Q)) : zT (zE 1154) (Pt PX9_readFlight) n (94, [((4 : Nat) : Int), ((t : Nat) : Int), x2, x3, x4, x5], [(v0, 0)], s) Q := by
  refine tS [((4 : Nat) : Int), ((t : Nat) : Int), x2, x3, x4, v0] rfl rfl ?_
  refine tL ((4 : Nat) : Int) 0 rfl rfl rfl ?_
  exact tCall [(((4 : Nat) : Int), 0)] [] rfl rfl rfl (fun m l => h0 m (Nat.lt_of_lt_of_le l (Nat.le_refl n)))

theorem b_X9_readFlight_100 {n : Nat} {Q : Zr → Prop} {t : Nat} (x2 x3 x4 x5 v0 : Int) (s : Zs) (ht : t = 7 ∨ t = 43)
    (h0 : ∀ (g1 : v0 = 0), Q ([], s))
    (h1 : ∀ (g1 : v0 ≠ 0), ∀ m, m < n → zC m 1040 [(((t : Nat) : Int), 0), (s (t + 1) 1, 0), (x2, 0), (x3, 0), (x4, 0), (x5, 0)] (zu s (t + 1) 1 (w32 ((s (t + 1) 1) + 1))) (fun p => zT (zE 1154) (Pt PX9_readFlight) m (118, [((4 : Nat) : Int), ((t : Nat) : Int), x2, x3, x4, x5], p.1 ++ [], p.2) Q)) : zT (zE 1154) (Pt PX9_readFlight) n (100, [((4 : Nat) : Int), ((t : Nat) : Int), x2, x3, x4, x5], [(v0, 0)], s) Q := by
  refine tI0 rfl (fun g1 _ l1 => zT_le ?_ (Nat.le_of_lt l1)) (fun g1 _ l1 => zT_le ?_ (Nat.le_of_lt l1))
  · exact tR rfl (h0 g1)
  · refine tL ((t : Nat) : Int) 0 rfl rfl rfl ?_
    refine tL ((t : Nat) : Int) 0 rfl rfl rfl ?_
    refine tK rfl ?_
    refine tCall [(((t : Nat) : Int), 0), (1, 0)] [(((t : Nat) : Int), 0)] rfl rfl rfl (fun m2 l2 => c_X8_addOne (b_X8_addOne_0 1 0 s ht ?_))
    · show zT (zE 1154) (Pt PX9_readFlight) m2 (109, [((4 : Nat) : Int), ((t : Nat) : Int), x2, x3, x4, x5], [(s (t + 1) 1, 0), (((t : Nat) : Int), 0)], zu s (t + 1) 1 (w32 ((s (t + 1) 1) + 1))) Q
      refine tL x2 0 rfl rfl rfl ?_
      refine tL x3 0 rfl rfl rfl ?_
      refine tL x4 0 rfl rfl rfl ?_
      refine tL x5 0 rfl rfl rfl ?_
      exact tCall [(((t : Nat) : Int), 0), (s (t + 1) 1, 0), (x2, 0), (x3, 0), (x4, 0), (x5, 0)] [] rfl rfl rfl (fun m l => h1 g1 m (Nat.lt_of_lt_of_le l (Nat.le_trans (Nat.le_of_lt l2) (Nat.le_refl n))))

theorem b_X9_readFlight_118 {n : Nat} {Q : Zr → Prop} {t : Nat} (x2 x3 x4 x5 : Int) (s : Zs) (ht : t = 7 ∨ t = 43)
    (h0 : Q ([], s)) : zT (zE 1154) (Pt PX9_readFlight) n (118, [((4 : Nat) : Int), ((t : Nat) : Int), x2, x3, x4, x5], [], s) Q := by
  exact tR rfl (h0)

theorem c_X9_readFlight {n : Nat} {Q : Zr → Prop} {a0 a1 : Int} {s : Zs} (h : zT (zE 1154) (Pt PX9_readFlight) n (0, [a0, a1, 0, 0, 0, 0], [], s) Q) : zC n 1154 [(a0, 0), (a1, 0)] s Q := h

theorem zrow1 {t : Nat} (ht : t = 7 ∨ t = 43) {i : Nat} (hi : i < 10) : zrho (t + 12) i = t + 2 + i := by
  have a : ∀ i, i < 10 → zrho (7 + 12) i = 7 + 2 + i := by decide +kernel
  have b : ∀ i, i < 10 → zrho (43 + 12) i = 43 + 2 + i := by decide +kernel
  rcases ht with rfl | rfl
  · exact a i hi
  · exact b i hi
theorem zrow2 {t : Nat} (ht : t = 7 ∨ t = 43) {i : Nat} (hi : i < 4) : zrho (t + 17) i = t + 13 + i := by
  have a : ∀ i, i < 4 → zrho (7 + 17) i = 7 + 13 + i := by decide +kernel
  have b : ∀ i, i < 4 → zrho (43 + 17) i = 43 + 13 + i := by decide +kernel
  rcases ht with rfl | rfl
  · exact a i hi
  · exact b i hi
theorem zrow3 {t : Nat} (ht : t = 7 ∨ t = 43) {i : Nat} (hi : i < 5) : zrho (t + 23) i = t + 18 + i := by
  have a : ∀ i, i < 5 → zrho (7 + 23) i = 7 + 18 + i := by decide +kernel
  have b : ∀ i, i < 5 → zrho (43 + 23) i = 43 + 18 + i := by decide +kernel
  rcases ht with rfl | rfl
  · exact a i hi
  · exact b i hi
theorem zrow4 {t : Nat} (ht : t = 7 ∨ t = 43) {i : Nat} (hi : i < 4) : zrho (t + 28) i = t + 24 + i := by
  have a : ∀ i, i < 4 → zrho (7 + 28) i = 7 + 24 + i := by decide +kernel
  have b : ∀ i, i < 4 → zrho (43 + 28) i = 43 + 24 + i := by decide +kernel
  rcases ht with rfl | rfl
  · exact a i hi
  · exact b i hi
theorem pst_T {s s' : Zs} {T : Nat → Int} {n : Nat} {x : PS} (h : pst s T n x) (f : ∀ c j, c ≤ 3 → s' c j = s c j) : pst s' T n x := by
  obtain ⟨h1, ⟨t1, t2, t3, t4⟩, h3, h4, h5⟩ := h
  refine ⟨by rw [f 1 1 (by omega)]; exact h1, ⟨by rw [f 1 0 (by omega)]; exact t1, t2, fun i hi => by rw [f 2 i (by omega)]; exact t3 i hi, fun i hi => by rw [f 3 i (by omega)]; exact t4 i hi⟩, h3, h4, fun h0 => ?_⟩
  have := h5 h0
  unfold tkA at this ⊢
  rw [f 1 5 (by omega), f 1 6 (by omega), f 1 4 (by omega), f 1 7 (by omega), f 1 8 (by omega), f 1 9 (by omega)]
  exact this
theorem frT_row {s s' : Zs} {t : Nat} (f : ∀ c j, ¬ (t ≤ c ∧ c ≤ t + 35) → s' c j = s c j) : frT t s s' := fun c j _ h => f c j h
theorem cP_row {s s' : Zs} {t : Nat} {T : Nat → Int} {n : Nat} {y : PS} {D : ZD} (ht : t = 7 ∨ t = 43) (h : cP s t T n y D) {k : Nat} (hk1 : k ≠ 1) (hk5 : k < 5) {w : List Int} (hw : okW w ∧ w ≠ []) {vs : List Int} (hvs : vs.length = if k = 0 then 1 else wdt k) (hc : cnt D k < most k) (hf : k = 0 → ∀ v ∈ vs, 1 ≤ v ∧ v ≤ 5)
    (e1 : s' (t + 1) k = ((cnt D k + 1 : Nat) : Int)) (e2 : s' (t + 32) (5 * k + cnt D k) = enc 32 w) (e3 : k ≠ 0 → ∀ j v, vs[j]? = some v → s' (t + rbk k + cnt D k) j = v) (e4 : k = 0 → ∀ v, vs[0]? = some v → s' (t + 33) (cnt D 0) = v)
    (f : ∀ c j, ¬ (c = t + 1 ∧ j = k) → ¬ (c = t + 32 ∧ j = 5 * k + cnt D k) → ¬ (k ≠ 0 ∧ c = t + rbk k + cnt D k) → ¬ (k = 0 ∧ c = t + 33 ∧ j = cnt D 0) → s' c j = s c j) : cP s' t T n y (addR (addN D k w) k vs) ∧ frT t s s' := by
  have hm := most5 hk1
  have hrb : k ≠ 0 → 2 ≤ rbk k ∧ rbk k + cnt D k < 28 := fun h0 => by
    have := rbk_of (k := k) (by omega) hk5
    omega
  have out : ∀ c j, ¬ (t ≤ c ∧ c ≤ t + 35) → s' c j = s c j := fun c j hc => f c j (by omega) (by omega) (fun q => by have := hrb q.1; omega) (by omega)
  refine ⟨⟨pst_T h.1 (fun c j hc => out c j (by omega)), cDn_row h.2.1 h.2.2.1 hk1 hk5 hvs hc e1 e2 e3 e4 (fun c j a b c' d _ _ => f c j a b c' d), wD_row h.2.2.1 hk1 hk5 hw hvs hc hf, fun h0 => ?_, fun j => by rw [out 1000 j (by omega)]; exact h.2.2.2.2 j⟩, frT_row out⟩
  have hh := h.2.2.2.1 h0
  unfold cDh at hh ⊢
  rw [f t 5 (by omega) (by omega) (fun q => by have := hrb q.1; omega) (by omega), f t 6 (by omega) (by omega) (fun q => by have := hrb q.1; omega) (by omega), f (t + 29) 1 (by omega) (by omega) (fun q => by have := hrb q.1; omega) (by omega)]
  exact hh
theorem gFi_0 {T : Nat → Int} {n : Nat} {x : PS} {D : ZD} {k : Nat} (h : (gFi T n D k x).1 = 0) (h0 : x.1 = 0) : cnt D k < most k := by
  unfold gFi at h
  by_cases c : most k ≤ cnt D k
  · rw [if_pos c] at h
    exact absurd h (gF_ne (by decide) h0)
  · omega
theorem ite10 {p : Prop} [Decidable p] (h : (if p then (1 : Int) else 0) = 0) : ¬ p := fun q => by rw [if_pos q] at h; cases h
theorem ite11 {p : Prop} [Decidable p] (h : (if p then (1 : Int) else 0) ≠ 0) : p := Decidable.byContradiction fun q => h (if_neg q)
section Zcl
variable {N t : Nat} {s : Zs} {T : Nat → Int} {n : Nat} {x : PS} {D : ZD} {Q : Zr → Prop}
theorem cHouse (ht : t = 7 ∨ t = 43) (h0 : x.1 = 0) (h : cP s t T n x D) (k : ∀ s', frT t s s' → cP s' t T n (pHouse T n x D).1 (pHouse T n x D).2 → Q ([], s')) : zC N 1156 [(((4 : Nat) : Int), 0), (((t : Nat) : Int), 0)] s Q := by
  refine c_X9_readHouse (b_X9_readHouse_0 0 0 0 s ht (fun m _ => cFi (k' := 0) ht (by omega) h0 h (fun s1 f1 h1 => ?_)))
  refine b_X9_readHouse_6 0 0 0 s1 ht (fun m _ => cNew ht h1 (fun s2 f2 h2 => ?_))
  refine b_X9_readHouse_11 0 0 0 _ s2 ht (fun m _ => cW (i := 1) ht (by omega) h2 (fun s3 f3 h3 => ?_))
  refine b_X9_readHouse_20 _ 0 0 s3 ht (fun m _ => cN ht (by omega) h3 (fun s4 f4 h4 => ?_))
  refine b_X9_readHouse_29 _ 0 0 _ s4 ht (fun m _ => cEnd ht h4 (fun s5 f5 h5 => ?_))
  have F : frT t s s5 := (frT_tr (frT_tr (frT_tr (frT_tr f1 f2) f3) f4) f5)
  refine b_X9_readHouse_35 _ 0 _ _ s5 ht (fun g => ?_) (fun g => ?_)
  · have g := ite10 g
    have e : (pHouse T n x D).2 = D := if_neg g
    refine k s5 F ?_
    rw [e]
    exact h5
  · have g := ite11 g
    have z4 := gS_z g
    have z3 := gN_z z4
    have z2 := gW_z z3
    have zn := gNew_0 z2
    have z1 := gNm_z zn.1
    have hc := gFi_0 z1 h0
    have e : (pHouse T n x D).2 = addR (addN D 0 (eW T n (kB T n (gFi T n D 0 x).2))) 0 [vE T n (gW T n 1 (gNew T n D (gFi T n D 0 x)))] := if_pos g
    have ew : vW T n (gFi T n D 0 x) = enc 32 (eW T n (kB T n (gFi T n D 0 x).2)) := if_pos zn.1
    have ev : vN T n 1 5 (gW T n 1 (gNew T n D (gFi T n D 0 x))) = vE T n (gW T n 1 (gNew T n D (gFi T n D 0 x))) := if_pos z4
    have hb := gN_0 z4
    have c5 : s5 (t + 1) 0 = (cnt D 0 : Int) := h5.2.1.1 0 (by omega)
    have hm : most 0 = 5 := rfl
    have wb := isNm_w (kB_bd (cP_n h1)) (gNm_0 zn.1).2
    rw [ew, ev, c5, show (w32 (w32 (0 * 5) + (cnt D 0 : Int))).toNat = 5 * 0 + cnt D 0 from by rw [w32_id (z := 0 * 5) (by omega) (by omega), w32_id (by omega) (by omega)]; omega, show w32 ((cnt D 0 : Int) + 1) = ((cnt D 0 + 1 : Nat) : Int) from by rw [w32_id (by omega) (by omega)]; omega, Int.toNat_natCast]
    have R := cP_row (s' := zu (zu (zu s5 (t + 1) 0 ((cnt D 0 + 1 : Nat) : Int)) (t + 32) (5 * 0 + cnt D 0) (enc 32 (eW T n (kB T n (gFi T n D 0 x).2)))) (t + 33) (cnt D 0) (vE T n (gW T n 1 (gNew T n D (gFi T n D 0 x))))) (vs := [vE T n (gW T n 1 (gNew T n D (gFi T n D 0 x)))]) ht h5 (k := 0) (by omega) (by omega) wb rfl hc
      (fun _ v hv => by rw [List.mem_singleton.mp hv]; exact ⟨hb.1, hb.2.1⟩)
      (by rw [zu_n (by omega), zu_n (by omega), zu_eq]) (by rw [zu_n (by omega), zu_eq]) (fun q => absurd rfl q) (fun _ v hv => by cases hv; rw [zu_eq])
      (fun c j a b _ d => by rw [zu_n (fun q => d ⟨rfl, q⟩), zu_n (fun q => b q), zu_n (fun q => a q)])
    refine k _ (frT_tr F R.2) ?_
    rw [e]
    exact R.1
theorem cThing (ht : t = 7 ∨ t = 43) (h0 : x.1 = 0) (h : cP s t T n x D) (k : ∀ s', frT t s s' → cP s' t T n (pThing T n x D).1 (pThing T n x D).2 → Q ([], s')) : zC N 1158 [(((4 : Nat) : Int), 0), (((t : Nat) : Int), 0)] s Q := by
  refine c_X9_readThing (b_X9_readThing_0 0 0 0 0 0 s ht (fun m _ => cFi (k' := 2) ht (by omega) h0 h (fun s1 f1 h1 => ?_)))
  refine b_X9_readThing_6 0 0 0 0 0 s1 ht (fun m _ => cNew ht h1 (fun s2 f2 h2 => ?_))
  refine b_X9_readThing_11 0 0 0 0 0 _ s2 ht (fun m _ => cW (i := 6) ht (by omega) h2 (fun s3 f3 h3 => ?_))
  refine b_X9_readThing_21 _ 0 0 0 0 s3 ht (fun m _ => cN ht (by omega) h3 (fun s4 f4 h4 => ?_))
  refine b_X9_readThing_31 _ 0 0 0 0 _ s4 ht (fun m _ => cW (i := 7) ht (by omega) h4 (fun s5 f5 h5 => ?_))
  refine b_X9_readThing_42 _ 0 _ 0 0 s5 ht (fun m _ => cPl ht h5 (fun s6 f6 h6 => ?_))
  refine b_X9_readThing_50 _ 0 _ 0 0 _ s6 ht (fun m _ => cEnd ht h6 (fun s7 f7 h7 => ?_))
  have F : frT t s s7 := (frT_tr (frT_tr (frT_tr (frT_tr (frT_tr (frT_tr f1 f2) f3) f4) f5) f6) f7)
  refine b_X9_readThing_56 _ 0 _ _ 0 _ s7 ht (fun g => ?_) (fun g => ?_)
  · have g := ite10 g
    have e : (pThing T n x D).2 = D := if_neg g
    refine k s7 F ?_
    rw [e]
    exact h7
  · have g := ite11 g
    have z6 := gS_z g
    have z5 := gPl_z z6
    have z4 := gW_z z5
    have z3 := gN_z z4
    have z2 := gW_z z3
    have zn := gNew_0 z2
    have z1 := gNm_z zn.1
    have hc := gFi_0 z1 h0
    have e : (pThing T n x D).2 = addR (addN D 2 (eW T n (kB T n (gFi T n D 2 x).2))) 2 [vE T n (gW T n 6 (gNew T n D (gFi T n D 2 x))), vPl T n D (gW T n 7 (gN T n 1 40 (gW T n 6 (gNew T n D (gFi T n D 2 x)))))] := if_pos g
    have ew : vW T n (gFi T n D 2 x) = enc 32 (eW T n (kB T n (gFi T n D 2 x).2)) := if_pos zn.1
    have ev0 : vN T n 1 40 (gW T n 6 (gNew T n D (gFi T n D 2 x))) = vE T n (gW T n 6 (gNew T n D (gFi T n D 2 x))) := if_pos z4
    have c5 : s7 (t + 1) 2 = (cnt D 2 : Int) := h7.2.1.1 2 (by omega)
    have hm : most 2 = 4 := rfl
    have wb := isNm_w (kB_bd (cP_n h1)) (gNm_0 zn.1).2
    have hcl : cnt D 2 < 4 := by omega
    rw [ew, ev0, c5, show (w32 (w32 (2 * 5) + (cnt D 2 : Int))).toNat = 5 * 2 + cnt D 2 from by rw [w32_id (z := 2 * 5) (by omega) (by omega), w32_id (by omega) (by omega)]; omega, show w32 ((cnt D 2 : Int) + 1) = ((cnt D 2 + 1 : Nat) : Int) from by rw [w32_id (by omega) (by omega)]; omega, Int.toNat_natCast, zrow2 ht hcl]
    have R := cP_row (s' := zu (zu (zu (zu s7 (t + 1) 2 ((cnt D 2 + 1 : Nat) : Int)) (t + 32) (5 * 2 + cnt D 2) (enc 32 (eW T n (kB T n (gFi T n D 2 x).2)))) (t + 13 + cnt D 2) 0 (vE T n (gW T n 6 (gNew T n D (gFi T n D 2 x))))) (t + 13 + cnt D 2) 1 (vPl T n D (gW T n 7 (gN T n 1 40 (gW T n 6 (gNew T n D (gFi T n D 2 x))))))) (vs := [vE T n (gW T n 6 (gNew T n D (gFi T n D 2 x))), vPl T n D (gW T n 7 (gN T n 1 40 (gW T n 6 (gNew T n D (gFi T n D 2 x)))))]) ht h7 (k := 2) (by omega) (by omega) wb rfl hc (fun q => by omega)
      (by rw [zu_n (by omega), zu_n (by omega), zu_n (by omega), zu_eq]) (by rw [zu_n (by omega), zu_n (by omega), zu_eq]) (fun _ j v hv => by
        have hj := (List.getElem?_eq_some_iff.mp hv).1
        simp only [List.length_cons, List.length_nil] at hj
        have : j = 0 ∨ j = 1 := by omega
        rcases this with rfl | rfl
        · cases hv
          show zu _ (t + 13 + cnt D 2) _ _ (t + 13 + cnt D 2) 0 = _
          rw [zu_n (by omega), zu_eq]
        · cases hv
          show zu _ (t + 13 + cnt D 2) _ _ (t + 13 + cnt D 2) 1 = _
          rw [zu_eq]) (fun q => by omega)
      (fun c j a b d _ => by
        have d : ¬ c = t + 13 + cnt D 2 := fun q => d ⟨by omega, q⟩
        rw [zu_n (fun q => d q.1), zu_n (fun q => d q.1), zu_n (fun q => b q), zu_n (fun q => a q)])
    refine k _ (frT_tr F R.2) ?_
    rw [e]
    exact R.1
theorem cPerson (ht : t = 7 ∨ t = 43) (h0 : x.1 = 0) (h : cP s t T n x D) (k : ∀ s', frT t s s' → cP s' t T n (pPerson T n x D).1 (pPerson T n x D).2 → Q ([], s')) : zC N 1157 [(((4 : Nat) : Int), 0), (((t : Nat) : Int), 0)] s Q := by
  refine c_X9_readPerson (b_X9_readPerson_0 0 0 0 0 0 0 0 s ht (fun m _ => cFi (k' := 3) ht (by omega) h0 h (fun s1 f1 h1 => ?_)))
  refine b_X9_readPerson_6 0 0 0 0 0 0 0 s1 ht (fun m _ => cNew ht h1 (fun s2 f2 h2 => ?_))
  refine b_X9_readPerson_11 0 0 0 0 0 0 0 _ s2 ht (fun m _ => cW (i := 7) ht (by omega) h2 (fun s3 f3 h3 => ?_))
  refine b_X9_readPerson_21 _ 0 0 0 0 0 0 s3 ht (fun m _ => cPl ht h3 (fun s4 f4 h4 => ?_))
  refine b_X9_readPerson_29 _ 0 0 0 0 0 0 _ s4 ht (fun m _ => cW (i := 9) ht (by omega) h4 (fun s5 f5 h5 => ?_))
  refine b_X9_readPerson_40 _ 0 _ 0 0 0 0 s5 ht (fun m _ => cN ht (by omega) h5 (fun s6 f6 h6 => ?_))
  refine b_X9_readPerson_50 _ 0 _ 0 0 0 0 _ s6 ht (fun m _ => cW (i := 10) ht (by omega) h6 (fun s7 f7 h7 => ?_))
  refine b_X9_readPerson_61 _ 0 _ _ 0 0 0 s7 ht (fun m _ => cN ht (by omega) h7 (fun s8 f8 h8 => ?_))
  refine b_X9_readPerson_71 _ 0 _ _ 0 0 0 _ s8 ht (fun m _ => cW (i := 11) ht (by omega) h8 (fun s9 f9 h9 => ?_))
  refine b_X9_readPerson_82 _ 0 _ _ _ 0 0 s9 ht (fun m _ => cPl ht h9 (fun s10 f10 h10 => ?_))
  refine b_X9_readPerson_90 _ 0 _ _ _ 0 0 _ s10 ht (fun m _ => cEnd ht h10 (fun s11 f11 h11 => ?_))
  have F : frT t s s11 := (frT_tr (frT_tr (frT_tr (frT_tr (frT_tr (frT_tr (frT_tr (frT_tr (frT_tr (frT_tr f1 f2) f3) f4) f5) f6) f7) f8) f9) f10) f11)
  refine b_X9_readPerson_96 _ 0 _ _ _ _ 0 _ s11 ht (fun g => ?_) (fun g => ?_)
  · have g := ite10 g
    have e : (pPerson T n x D).2 = D := if_neg g
    refine k s11 F ?_
    rw [e]
    exact h11
  · have g := ite11 g
    have z10 := gS_z g
    have z9 := gPl_z z10
    have z8 := gW_z z9
    have z7 := gN_z z8
    have z6 := gW_z z7
    have z5 := gN_z z6
    have z4 := gW_z z5
    have z3 := gPl_z z4
    have z2 := gW_z z3
    have zn := gNew_0 z2
    have z1 := gNm_z zn.1
    have hc := gFi_0 z1 h0
    have e : (pPerson T n x D).2 = addR (addN D 3 (eW T n (kB T n (gFi T n D 3 x).2))) 3 [vPl T n D (gW T n 7 (gNew T n D (gFi T n D 3 x))), vE T n (gW T n 9 (gPl T n D (gW T n 7 (gNew T n D (gFi T n D 3 x))))), vE T n (gW T n 10 (gN T n 0 40 (gW T n 9 (gPl T n D (gW T n 7 (gNew T n D (gFi T n D 3 x))))))), vPl T n D (gW T n 11 (gN T n 0 6 (gW T n 10 (gN T n 0 40 (gW T n 9 (gPl T n D (gW T n 7 (gNew T n D (gFi T n D 3 x)))))))))] := if_pos g
    have ew : vW T n (gFi T n D 3 x) = enc 32 (eW T n (kB T n (gFi T n D 3 x).2)) := if_pos zn.1
    have ev1 : vN T n 0 40 (gW T n 9 (gPl T n D (gW T n 7 (gNew T n D (gFi T n D 3 x))))) = vE T n (gW T n 9 (gPl T n D (gW T n 7 (gNew T n D (gFi T n D 3 x))))) := if_pos z6
    have ev2 : vN T n 0 6 (gW T n 10 (gN T n 0 40 (gW T n 9 (gPl T n D (gW T n 7 (gNew T n D (gFi T n D 3 x))))))) = vE T n (gW T n 10 (gN T n 0 40 (gW T n 9 (gPl T n D (gW T n 7 (gNew T n D (gFi T n D 3 x))))))) := if_pos z8
    have c5 : s11 (t + 1) 3 = (cnt D 3 : Int) := h11.2.1.1 3 (by omega)
    have hm : most 3 = 5 := rfl
    have wb := isNm_w (kB_bd (cP_n h1)) (gNm_0 zn.1).2
    have hcl : cnt D 3 < 5 := by omega
    rw [ew, ev1, ev2, c5, show (w32 (w32 (3 * 5) + (cnt D 3 : Int))).toNat = 5 * 3 + cnt D 3 from by rw [w32_id (z := 3 * 5) (by omega) (by omega), w32_id (by omega) (by omega)]; omega, show w32 ((cnt D 3 : Int) + 1) = ((cnt D 3 + 1 : Nat) : Int) from by rw [w32_id (by omega) (by omega)]; omega, Int.toNat_natCast, zrow3 ht hcl]
    have R := cP_row (s' := zu (zu (zu (zu (zu (zu s11 (t + 1) 3 ((cnt D 3 + 1 : Nat) : Int)) (t + 32) (5 * 3 + cnt D 3) (enc 32 (eW T n (kB T n (gFi T n D 3 x).2)))) (t + 18 + cnt D 3) 0 (vPl T n D (gW T n 7 (gNew T n D (gFi T n D 3 x))))) (t + 18 + cnt D 3) 1 (vE T n (gW T n 9 (gPl T n D (gW T n 7 (gNew T n D (gFi T n D 3 x))))))) (t + 18 + cnt D 3) 2 (vE T n (gW T n 10 (gN T n 0 40 (gW T n 9 (gPl T n D (gW T n 7 (gNew T n D (gFi T n D 3 x))))))))) (t + 18 + cnt D 3) 3 (vPl T n D (gW T n 11 (gN T n 0 6 (gW T n 10 (gN T n 0 40 (gW T n 9 (gPl T n D (gW T n 7 (gNew T n D (gFi T n D 3 x))))))))))) (vs := [vPl T n D (gW T n 7 (gNew T n D (gFi T n D 3 x))), vE T n (gW T n 9 (gPl T n D (gW T n 7 (gNew T n D (gFi T n D 3 x))))), vE T n (gW T n 10 (gN T n 0 40 (gW T n 9 (gPl T n D (gW T n 7 (gNew T n D (gFi T n D 3 x))))))), vPl T n D (gW T n 11 (gN T n 0 6 (gW T n 10 (gN T n 0 40 (gW T n 9 (gPl T n D (gW T n 7 (gNew T n D (gFi T n D 3 x)))))))))]) ht h11 (k := 3) (by omega) (by omega) wb rfl hc (fun q => by omega)
      (by rw [zu_n (by omega), zu_n (by omega), zu_n (by omega), zu_n (by omega), zu_n (by omega), zu_eq]) (by rw [zu_n (by omega), zu_n (by omega), zu_n (by omega), zu_n (by omega), zu_eq]) (fun _ j v hv => by
        have hj := (List.getElem?_eq_some_iff.mp hv).1
        simp only [List.length_cons, List.length_nil] at hj
        have : j = 0 ∨ j = 1 ∨ j = 2 ∨ j = 3 := by omega
        rcases this with rfl | rfl | rfl | rfl
        · cases hv
          show zu _ (t + 18 + cnt D 3) _ _ (t + 18 + cnt D 3) 0 = _
          rw [zu_n (by omega), zu_n (by omega), zu_n (by omega), zu_eq]
        · cases hv
          show zu _ (t + 18 + cnt D 3) _ _ (t + 18 + cnt D 3) 1 = _
          rw [zu_n (by omega), zu_n (by omega), zu_eq]
        · cases hv
          show zu _ (t + 18 + cnt D 3) _ _ (t + 18 + cnt D 3) 2 = _
          rw [zu_n (by omega), zu_eq]
        · cases hv
          show zu _ (t + 18 + cnt D 3) _ _ (t + 18 + cnt D 3) 3 = _
          rw [zu_eq]) (fun q => by omega)
      (fun c j a b d _ => by
        have d : ¬ c = t + 18 + cnt D 3 := fun q => d ⟨by omega, q⟩
        rw [zu_n (fun q => d q.1), zu_n (fun q => d q.1), zu_n (fun q => d q.1), zu_n (fun q => d q.1), zu_n (fun q => b q), zu_n (fun q => a q)])
    refine k _ (frT_tr F R.2) ?_
    rw [e]
    exact R.1
theorem cHill (ht : t = 7 ∨ t = 43) (h0 : x.1 = 0) (h : cP s t T n x D) (k : ∀ s', frT t s s' → cP s' t T n (pHill T n x D).1 (pHill T n x D).2 → Q ([], s')) : zC N 1155 [(((4 : Nat) : Int), 0), (((t : Nat) : Int), 0)] s Q := by
  refine c_X9_readHill (b_X9_readHill_0 0 0 0 0 0 s ht (fun m _ => cFi (k' := 4) ht (by omega) h0 h (fun s1 f1 h1 => ?_)))
  refine b_X9_readHill_6 0 0 0 0 0 s1 ht (fun m _ => cNew ht h1 (fun s2 f2 h2 => ?_))
  refine b_X9_readHill_11 0 0 0 0 0 _ s2 ht (fun m _ => cW (i := 3) ht (by omega) h2 (fun s3 f3 h3 => ?_))
  refine b_X9_readHill_20 _ 0 0 0 0 s3 ht (fun m _ => cN ht (by omega) h3 (fun s4 f4 h4 => ?_))
  refine b_X9_readHill_30 _ 0 0 0 0 _ s4 ht (fun m _ => cW (i := 13) ht (by omega) h4 (fun s5 f5 h5 => ?_))
  refine b_X9_readHill_41 _ 0 _ 0 0 s5 ht (fun m _ => cN ht (by omega) h5 (fun s6 f6 h6 => ?_))
  refine b_X9_readHill_51 _ 0 _ 0 0 _ s6 ht (fun m _ => cEnd ht h6 (fun s7 f7 h7 => ?_))
  have F : frT t s s7 := (frT_tr (frT_tr (frT_tr (frT_tr (frT_tr (frT_tr f1 f2) f3) f4) f5) f6) f7)
  refine b_X9_readHill_57 _ 0 _ _ 0 _ s7 ht (fun g => ?_) (fun g => ?_)
  · have g := ite10 g
    have e : (pHill T n x D).2 = D := if_neg g
    refine k s7 F ?_
    rw [e]
    exact h7
  · have g := ite11 g
    have z6 := gS_z g
    have z5 := gN_z z6
    have z4 := gW_z z5
    have z3 := gN_z z4
    have z2 := gW_z z3
    have zn := gNew_0 z2
    have z1 := gNm_z zn.1
    have hc := gFi_0 z1 h0
    have e : (pHill T n x D).2 = addR (addN D 4 (eW T n (kB T n (gFi T n D 4 x).2))) 4 [vE T n (gW T n 3 (gNew T n D (gFi T n D 4 x))), vE T n (gW T n 13 (gN T n 1 99 (gW T n 3 (gNew T n D (gFi T n D 4 x)))))] := if_pos g
    have ew : vW T n (gFi T n D 4 x) = enc 32 (eW T n (kB T n (gFi T n D 4 x).2)) := if_pos zn.1
    have ev0 : vN T n 1 99 (gW T n 3 (gNew T n D (gFi T n D 4 x))) = vE T n (gW T n 3 (gNew T n D (gFi T n D 4 x))) := if_pos z4
    have ev1 : vN T n 0 99 (gW T n 13 (gN T n 1 99 (gW T n 3 (gNew T n D (gFi T n D 4 x))))) = vE T n (gW T n 13 (gN T n 1 99 (gW T n 3 (gNew T n D (gFi T n D 4 x))))) := if_pos z6
    have c5 : s7 (t + 1) 4 = (cnt D 4 : Int) := h7.2.1.1 4 (by omega)
    have hm : most 4 = 4 := rfl
    have wb := isNm_w (kB_bd (cP_n h1)) (gNm_0 zn.1).2
    have hcl : cnt D 4 < 4 := by omega
    rw [ew, ev0, ev1, c5, show (w32 (w32 (4 * 5) + (cnt D 4 : Int))).toNat = 5 * 4 + cnt D 4 from by rw [w32_id (z := 4 * 5) (by omega) (by omega), w32_id (by omega) (by omega)]; omega, show w32 ((cnt D 4 : Int) + 1) = ((cnt D 4 + 1 : Nat) : Int) from by rw [w32_id (by omega) (by omega)]; omega, Int.toNat_natCast, zrow4 ht hcl]
    have R := cP_row (s' := zu (zu (zu (zu s7 (t + 1) 4 ((cnt D 4 + 1 : Nat) : Int)) (t + 32) (5 * 4 + cnt D 4) (enc 32 (eW T n (kB T n (gFi T n D 4 x).2)))) (t + 24 + cnt D 4) 0 (vE T n (gW T n 3 (gNew T n D (gFi T n D 4 x))))) (t + 24 + cnt D 4) 1 (vE T n (gW T n 13 (gN T n 1 99 (gW T n 3 (gNew T n D (gFi T n D 4 x))))))) (vs := [vE T n (gW T n 3 (gNew T n D (gFi T n D 4 x))), vE T n (gW T n 13 (gN T n 1 99 (gW T n 3 (gNew T n D (gFi T n D 4 x)))))]) ht h7 (k := 4) (by omega) (by omega) wb rfl hc (fun q => by omega)
      (by rw [zu_n (by omega), zu_n (by omega), zu_n (by omega), zu_eq]) (by rw [zu_n (by omega), zu_n (by omega), zu_eq]) (fun _ j v hv => by
        have hj := (List.getElem?_eq_some_iff.mp hv).1
        simp only [List.length_cons, List.length_nil] at hj
        have : j = 0 ∨ j = 1 := by omega
        rcases this with rfl | rfl
        · cases hv
          show zu _ (t + 24 + cnt D 4) _ _ (t + 24 + cnt D 4) 0 = _
          rw [zu_n (by omega), zu_eq]
        · cases hv
          show zu _ (t + 24 + cnt D 4) _ _ (t + 24 + cnt D 4) 1 = _
          rw [zu_eq]) (fun q => by omega)
      (fun c j a b d _ => by
        have d : ¬ c = t + 24 + cnt D 4 := fun q => d ⟨by omega, q⟩
        rw [zu_n (fun q => d q.1), zu_n (fun q => d q.1), zu_n (fun q => b q), zu_n (fun q => a q)])
    refine k _ (frT_tr F R.2) ?_
    rw [e]
    exact R.1
end Zcl
