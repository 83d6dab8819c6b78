/-! marks -/
def sdcL : List Nat := [85, 151, 154, 157, 160]
def isSd (b : Nat) : Bool := sdcL.contains b
theorem zs5_all : (sdcL.all fun b => decide (zrho b 0 = b + 1) && decide (zrho b 3 = b + 2)) = true := by decide +kernel
theorem zs5_0 {b : Nat} (hb : isSd b = true) : zrho b 0 = b + 1 := by
  have := List.all_eq_true.mp zs5_all b (List.contains_iff_mem.mp hb)
  rw [Bool.and_eq_true] at this
  exact of_decide_eq_true this.1
theorem zs5_3 {b : Nat} (hb : isSd b = true) : zrho b 3 = b + 2 := by
  have := List.all_eq_true.mp zs5_all b (List.contains_iff_mem.mp hb)
  rw [Bool.and_eq_true] at this
  exact of_decide_eq_true this.2
theorem b_X5_tellG_0 {n : Nat} {Q : Zr → Prop} {d e : Nat} (x2 : Int) (s : Zs) (hd : isSd d = true) (he : isSd e = true)
    (h0 : Q ([], zu (zcpy s (e + 1) (d + 1) ((zq_len (d + 1)).toNat)) d 1 x2)) : zT (zE 644) (Pt PX5_tell) n (0, [((d : Nat) : Int), (((e + 1) : Nat) : Int), x2], [], s) Q := by
  refine tL (((e + 1) : Nat) : Int) 0 rfl rfl rfl ?_
  refine tK rfl ?_
  refine tL ((d : Nat) : Int) 0 rfl rfl rfl ?_
  refine tFR (c := d) (d + 1) rfl rfl rfl rfl (zs5_0 hd) ?_
  refine tK rfl ?_
  refine tL ((d : Nat) : Int) 0 rfl rfl rfl ?_
  refine tFR (c := d) (d + 1) rfl rfl rfl rfl (zs5_0 hd) ?_
  refine tN (zq_len (d + 1)) rfl rfl ?_
  refine tE5 (d + 1) (e + 1) ((zq_len (d + 1)).toNat) rfl rfl rfl rfl rfl ?_
  refine tL ((d : Nat) : Int) 0 rfl rfl rfl ?_
  refine tL x2 0 rfl rfl rfl ?_
  refine tPut d rfl rfl ?_
  exact tR rfl (h0)

theorem c_X5_tellG {n : Nat} {Q : Zr → Prop} {a0 a1 a2 : Int} {s : Zs} (h : zT (zE 644) (Pt PX5_tell) n (0, [a0, a1, a2], [], s) Q) : zC n 644 [(a0, 0), (a1, 0), (a2, 0)] s Q := h

theorem b_X5_copy_0 {n : Nat} {Q : Zr → Prop} {d e : Nat} (s : Zs) (hd : isSd d = true) (he : isSd e = true)
    (h0 : ∀ m, m < n → zC m 644 [(((d : Nat) : Int), 0), ((((e + 1) : Nat) : Int), 0), (s e 1, 0)] s (fun p => zT (zE 642) (Pt PX5_copy) m (12, [((d : Nat) : Int), ((e : Nat) : Int)], p.1 ++ [], p.2) Q)) : zT (zE 642) (Pt PX5_copy) n (0, [((d : Nat) : Int), ((e : Nat) : Int)], [], s) Q := by
  refine tL ((d : Nat) : Int) 0 rfl rfl rfl ?_
  refine tL ((e : Nat) : Int) 0 rfl rfl rfl ?_
  refine tFR (c := e) (e + 1) rfl rfl rfl rfl (zs5_0 he) ?_
  refine tL ((e : Nat) : Int) 0 rfl rfl rfl ?_
  refine tFv (c := e) (s e 1) 0 rfl rfl rfl rfl rfl ?_
  exact tCall [(((d : Nat) : Int), 0), ((((e + 1) : Nat) : Int), 0), (s e 1, 0)] [] rfl rfl rfl (fun m l => h0 m (Nat.lt_of_lt_of_le l (Nat.le_refl n)))

theorem b_X5_copy_12 {n : Nat} {Q : Zr → Prop} {d e : Nat} (s : Zs) (hd : isSd d = true) (he : isSd e = true)
    (h0 : Q ([], zu (zcpy (zu s d 2 (s e 2)) (e + 2) (d + 2) 8) d 4 ((zcpy (zu s d 2 (s e 2)) (e + 2) (d + 2) 8) e 4))) : zT (zE 642) (Pt PX5_copy) n (12, [((d : Nat) : Int), ((e : Nat) : Int)], [], s) Q := by
  refine tL ((d : Nat) : Int) 0 rfl rfl rfl ?_
  refine tL ((e : Nat) : Int) 0 rfl rfl rfl ?_
  refine tFv (c := e) (s e 2) 0 rfl rfl rfl rfl rfl ?_
  refine tPut d rfl rfl ?_
  refine tL ((e : Nat) : Int) 0 rfl rfl rfl ?_
  refine tFR (c := e) (e + 2) rfl rfl rfl rfl (zs5_3 he) ?_
  refine tK rfl ?_
  refine tL ((d : Nat) : Int) 0 rfl rfl rfl ?_
  refine tFR (c := d) (d + 2) rfl rfl rfl rfl (zs5_3 hd) ?_
  refine tK rfl ?_
  refine tK rfl ?_
  refine tE5 (d + 2) (e + 2) 8 rfl rfl rfl rfl rfl ?_
  refine tL ((d : Nat) : Int) 0 rfl rfl rfl ?_
  refine tL ((e : Nat) : Int) 0 rfl rfl rfl ?_
  refine tFv (c := e) ((zcpy (zu s d 2 (s e 2)) (e + 2) (d + 2) 8) e 4) 0 rfl rfl rfl rfl rfl ?_
  refine tPut d rfl rfl ?_
  exact tR rfl (h0)

theorem c_X5_copy {n : Nat} {Q : Zr → Prop} {a0 a1 : Int} {s : Zs} (h : zT (zE 642) (Pt PX5_copy) n (0, [a0, a1], [], s) Q) : zC n 642 [(a0, 0), (a1, 0)] s Q := h

theorem b_X10_mark_0 {n : Nat} {Q : Zr → Prop} {t : Nat} (x1 x2 : Int) (s : Zs) (ht : t = 7 ∨ t = 43)
    (h0 : ∀ (g1 : x1 < 0), Q ([(0, 0)], s))
    (h1 : ∀ (g1 : 0 ≤ x1), ∀ (g2 : x1 < 4), ∀ (g3 : x2 ≠ 0), ∀ (g4 : zand (zshr (s 0 11) x1) 1 ≠ 0), ∀ m, m < n → zC m 772 [(((79 : Nat) : Int), 0), ((((zrho 150 x1.toNat) : Nat) : Int), 0)] s (fun p => zT (zE 1302) (Pt PX10_mark) m (81, [((0 : Nat) : Int), x1, x2], p.1 ++ [], p.2) Q))
    (h2 : ∀ (g1 : 0 ≤ x1), ∀ (g2 : x1 < 4), ∀ (g3 : x2 ≠ 0), ∀ (g4 : zand (zshr (s 0 11) x1) 1 = 0), Q ([(0, 0)], s))
    (h3 : ∀ (g1 : 0 ≤ x1), ∀ (g2 : x1 < 4), ∀ (g3 : x2 = 0), ∀ m, m < n → zC m 772 [((((zrho 150 x1.toNat) : Nat) : Int), 0), (((79 : Nat) : Int), 0)] s (fun p => zT (zE 1302) (Pt PX10_mark) m (28, [((0 : Nat) : Int), x1, x2], p.1 ++ [], p.2) Q))
    (h4 : ∀ (g1 : 0 ≤ x1), ∀ (g2 : 4 ≤ x1), Q ([(0, 0)], s)) : zT (zE 1302) (Pt PX10_mark) n (0, [((0 : Nat) : Int), x1, x2], [], s) Q := by
  refine tL x1 0 rfl rfl rfl ?_
  refine tI2 rfl (fun g1 _ l1 => zT_le ?_ (Nat.le_of_lt l1)) (fun g1 _ l1 => zT_le ?_ (Nat.le_of_lt l1))
  · refine tK rfl ?_
    exact tR rfl (h0 g1)
  · refine tL x1 0 rfl rfl rfl ?_
    refine tK rfl ?_
    refine tJ2 rfl (fun g2 _ l2 => zT_le ?_ (Nat.le_of_lt l2)) (fun g2 _ l2 => zT_le ?_ (Nat.le_of_lt l2))
    · refine tL x2 0 rfl rfl rfl ?_
      refine tI1 rfl (fun g3 _ l3 => zT_le ?_ (Nat.le_of_lt l3)) (fun g3 _ l3 => zT_le ?_ (Nat.le_of_lt l3))
      · refine tL ((0 : Nat) : Int) 0 rfl rfl rfl ?_
        refine tFv (c := 0) (s 0 11) 0 rfl rfl rfl rfl rfl ?_
        refine tL x1 0 rfl rfl rfl ?_
        refine tB (v := zshr (s 0 11) x1) rfl rfl ?_
        refine tK rfl ?_
        refine tB (v := zand (zshr (s 0 11) x1) 1) rfl rfl ?_
        refine tI1 rfl (fun g4 _ l4 => zT_le ?_ (Nat.le_of_lt l4)) (fun g4 _ l4 => zT_le ?_ (Nat.le_of_lt l4))
        · refine tL ((0 : Nat) : Int) 0 rfl rfl rfl ?_
          refine tFR (c := 0) 79 rfl rfl rfl rfl rfl ?_
          refine tL ((0 : Nat) : Int) 0 rfl rfl rfl ?_
          refine tFR (c := 0) 150 rfl rfl rfl rfl rfl ?_
          refine tL x1 0 rfl rfl rfl ?_
          refine tAR (zrho 150 x1.toNat) rfl rfl ?_
          exact tCall [(((79 : Nat) : Int), 0), ((((zrho 150 x1.toNat) : Nat) : Int), 0)] [] rfl rfl rfl (fun m l => h1 g1 g2 g3 g4 m (Nat.lt_of_lt_of_le l (Nat.le_refl n)))
        · refine tK rfl ?_
          exact tR rfl (h2 g1 g2 g3 g4)
      · refine tL ((0 : Nat) : Int) 0 rfl rfl rfl ?_
        refine tFR (c := 0) 150 rfl rfl rfl rfl rfl ?_
        refine tL x1 0 rfl rfl rfl ?_
        refine tAR (zrho 150 x1.toNat) rfl rfl ?_
        refine tL ((0 : Nat) : Int) 0 rfl rfl rfl ?_
        refine tFR (c := 0) 79 rfl rfl rfl rfl rfl ?_
        exact tCall [((((zrho 150 x1.toNat) : Nat) : Int), 0), (((79 : Nat) : Int), 0)] [] rfl rfl rfl (fun m l => h3 g1 g2 g3 m (Nat.lt_of_lt_of_le l (Nat.le_refl n)))
    · refine tK rfl ?_
      exact tR rfl (h4 g1 g2)

theorem b_X10_mark_81 {n : Nat} {Q : Zr → Prop} {t : Nat} (x1 x2 : Int) (s : Zs) (ht : t = 7 ∨ t = 43)
    (h0 : ∀ m, m < n → zC m 642 [(((85 : Nat) : Int), 0), ((((zrho 163 x1.toNat) : Nat) : Int), 0)] s (fun p => zT (zE 1302) (Pt PX10_mark) m (94, [((0 : Nat) : Int), x1, x2], p.1 ++ [], p.2) Q)) : zT (zE 1302) (Pt PX10_mark) n (81, [((0 : Nat) : Int), x1, x2], [], s) Q := by
  refine tL ((0 : Nat) : Int) 0 rfl rfl rfl ?_
  refine tFR (c := 0) 85 rfl rfl rfl rfl rfl ?_
  refine tL ((0 : Nat) : Int) 0 rfl rfl rfl ?_
  refine tFR (c := 0) 163 rfl rfl rfl rfl rfl ?_
  refine tL x1 0 rfl rfl rfl ?_
  refine tAR (zrho 163 x1.toNat) rfl rfl ?_
  exact tCall [(((85 : Nat) : Int), 0), ((((zrho 163 x1.toNat) : Nat) : Int), 0)] [] rfl rfl rfl (fun m l => h0 m (Nat.lt_of_lt_of_le l (Nat.le_refl n)))

theorem b_X10_mark_28 {n : Nat} {Q : Zr → Prop} {t : Nat} (x1 x2 : Int) (s : Zs) (ht : t = 7 ∨ t = 43)
    (h0 : ∀ m, m < n → zC m 642 [((((zrho 163 x1.toNat) : Nat) : Int), 0), (((85 : Nat) : Int), 0)] s (fun p => zT (zE 1302) (Pt PX10_mark) m (41, [((0 : Nat) : Int), x1, x2], p.1 ++ [], p.2) Q)) : zT (zE 1302) (Pt PX10_mark) n (28, [((0 : Nat) : Int), x1, x2], [], s) Q := by
  refine tL ((0 : Nat) : Int) 0 rfl rfl rfl ?_
  refine tFR (c := 0) 163 rfl rfl rfl rfl rfl ?_
  refine tL x1 0 rfl rfl rfl ?_
  refine tAR (zrho 163 x1.toNat) rfl rfl ?_
  refine tL ((0 : Nat) : Int) 0 rfl rfl rfl ?_
  refine tFR (c := 0) 85 rfl rfl rfl rfl rfl ?_
  exact tCall [((((zrho 163 x1.toNat) : Nat) : Int), 0), (((85 : Nat) : Int), 0)] [] rfl rfl rfl (fun m l => h0 m (Nat.lt_of_lt_of_le l (Nat.le_refl n)))

theorem b_X10_mark_94 {n : Nat} {Q : Zr → Prop} {t : Nat} (x1 x2 : Int) (s : Zs) (ht : t = 7 ∨ t = 43)
    (h0 : ∀ m, m < n → zC m 128 [(((88 : Nat) : Int), 0)] s (fun p => zT (zE 1302) (Pt PX10_mark) m (101, [((0 : Nat) : Int), x1, x2], p.1 ++ [], p.2) Q)) : zT (zE 1302) (Pt PX10_mark) n (94, [((0 : Nat) : Int), x1, x2], [], s) Q := by
  refine tL ((0 : Nat) : Int) 0 rfl rfl rfl ?_
  refine tFR (c := 0) 88 rfl rfl rfl rfl rfl ?_
  exact tCall [(((88 : Nat) : Int), 0)] [] rfl rfl rfl (fun m l => h0 m (Nat.lt_of_lt_of_le l (Nat.le_refl n)))

theorem b_X10_mark_41 {n : Nat} {Q : Zr → Prop} {t : Nat} (x1 x2 : Int) (s : Zs) (ht : t = 7 ∨ t = 43)
    (h0 : Q ([(1, 0)], zu s 0 11 (zor (s 0 11) (zshl 1 x1)))) : zT (zE 1302) (Pt PX10_mark) n (41, [((0 : Nat) : Int), x1, x2], [], s) Q := by
  refine tL ((0 : Nat) : Int) 0 rfl rfl rfl ?_
  refine tD rfl ?_
  refine tFv (c := 0) (s 0 11) 0 rfl rfl rfl rfl rfl ?_
  refine tK rfl ?_
  refine tL x1 0 rfl rfl rfl ?_
  refine tB (v := zshl 1 x1) rfl rfl ?_
  refine tB (v := zor (s 0 11) (zshl 1 x1)) rfl rfl ?_
  refine tPut 0 rfl rfl ?_
  refine tK rfl ?_
  exact tR rfl (h0)

theorem b_X10_mark_101 {n : Nat} {Q : Zr → Prop} {t : Nat} (x1 x2 : Int) (s : Zs) (ht : t = 7 ∨ t = 43)
    (h0 : Q ([(1, 0)], s)) : zT (zE 1302) (Pt PX10_mark) n (101, [((0 : Nat) : Int), x1, x2], [], s) Q := by
  refine tK rfl ?_
  exact tR rfl (h0)

theorem c_X10_mark {n : Nat} {Q : Zr → Prop} {a0 a1 a2 : Int} {s : Zs} (h : zT (zE 1302) (Pt PX10_mark) n (0, [a0, a1, a2], [], s) Q) : zC n 1302 [(a0, 0), (a1, 0), (a2, 0)] s Q := h

theorem b_X11_laysSeen_0 {n : Nat} {Q : Zr → Prop} (x1 x2 x3 : Int) (s : Zs) 
    (h0 : zT (zE 1465) (Pt PX11_laysSeen) n (14, [((172 : Nat) : Int), x1, x2, 0], [], zu s 212 x2.toNat (s 212 x1.toNat)) Q) : zT (zE 1465) (Pt PX11_laysSeen) n (0, [((172 : Nat) : Int), x1, x2, x3], [], s) Q := by
  refine tL ((172 : Nat) : Int) 0 rfl rfl rfl ?_
  refine tFR (c := 172) 212 rfl rfl rfl rfl rfl ?_
  refine tL x2 0 rfl rfl rfl ?_
  refine tL ((172 : Nat) : Int) 0 rfl rfl rfl ?_
  refine tFR (c := 172) 212 rfl rfl rfl rfl rfl ?_
  refine tL x1 0 rfl rfl rfl ?_
  refine tAv 212 x1.toNat (s 212 x1.toNat) 0 rfl rfl rfl (by decide) rfl rfl ?_
  refine tAS 212 x2.toNat rfl rfl rfl (by decide) ?_
  refine tK rfl ?_
  refine tS [((172 : Nat) : Int), x1, x2, 0] rfl rfl ?_
  exact zT_le (h0) (Nat.le_refl n)

theorem b_X11_laysSeen_14 {n : Nat} {Q : Zr → Prop} (x1 x2 x3 : Int) (s : Zs) 
    (h0 : ∀ (g1 : 8 ≤ x3), Q ([], s))
    (h1 : ∀ (g1 : x3 < 8), ∀ m, m < n → zT (zE 1465) (Pt PX11_laysSeen) m (14, [((172 : Nat) : Int), x1, x2, w32 (x3 + 1)], [], zu (zu (zu s 213 ((w32 ((w32 (8 * x2)) + x3)).toNat) (s 213 ((w32 ((w32 (8 * x1)) + x3)).toNat))) 214 ((w32 ((w32 (8 * x2)) + x3)).toNat) (s 214 ((w32 ((w32 (8 * x1)) + x3)).toNat))) 215 ((w32 ((w32 (8 * x2)) + x3)).toNat) (zst3 (s 215 ((w32 ((w32 (8 * x1)) + x3)).toNat)))) Q) : zT (zE 1465) (Pt PX11_laysSeen) n (14, [((172 : Nat) : Int), x1, x2, x3], [], s) Q := by
  refine tL x3 0 rfl rfl rfl ?_
  refine tK rfl ?_
  refine tJ3 rfl (fun g1 _ l1 => zT_le ?_ (Nat.le_of_lt l1)) (fun g1 _ l1 => zT_le ?_ (Nat.le_of_lt l1))
  · exact tR rfl (h0 g1)
  · refine tL ((172 : Nat) : Int) 0 rfl rfl rfl ?_
    refine tFR (c := 172) 213 rfl rfl rfl rfl rfl ?_
    refine tK rfl ?_
    refine tL x2 0 rfl rfl rfl ?_
    refine tM (v := w32 (8 * x2)) rfl rfl ?_
    refine tL x3 0 rfl rfl rfl ?_
    refine tB (v := w32 ((w32 (8 * x2)) + x3)) rfl rfl ?_
    refine tL ((172 : Nat) : Int) 0 rfl rfl rfl ?_
    refine tFR (c := 172) 213 rfl rfl rfl rfl rfl ?_
    refine tK rfl ?_
    refine tL x1 0 rfl rfl rfl ?_
    refine tM (v := w32 (8 * x1)) rfl rfl ?_
    refine tL x3 0 rfl rfl rfl ?_
    refine tB (v := w32 ((w32 (8 * x1)) + x3)) rfl rfl ?_
    refine tAv 213 ((w32 ((w32 (8 * x1)) + x3)).toNat) (s 213 ((w32 ((w32 (8 * x1)) + x3)).toNat)) 0 rfl rfl rfl (by decide) rfl rfl ?_
    refine tAS 213 ((w32 ((w32 (8 * x2)) + x3)).toNat) rfl rfl rfl (by decide) ?_
    refine tL ((172 : Nat) : Int) 0 rfl rfl rfl ?_
    refine tFR (c := 172) 214 rfl rfl rfl rfl rfl ?_
    refine tK rfl ?_
    refine tL x2 0 rfl rfl rfl ?_
    refine tM (v := w32 (8 * x2)) rfl rfl ?_
    refine tL x3 0 rfl rfl rfl ?_
    refine tB (v := w32 ((w32 (8 * x2)) + x3)) rfl rfl ?_
    refine tL ((172 : Nat) : Int) 0 rfl rfl rfl ?_
    refine tFR (c := 172) 214 rfl rfl rfl rfl rfl ?_
    refine tK rfl ?_
    refine tL x1 0 rfl rfl rfl ?_
    refine tM (v := w32 (8 * x1)) rfl rfl ?_
    refine tL x3 0 rfl rfl rfl ?_
    refine tB (v := w32 ((w32 (8 * x1)) + x3)) rfl rfl ?_
    refine tAv 214 ((w32 ((w32 (8 * x1)) + x3)).toNat) (s 214 ((w32 ((w32 (8 * x1)) + x3)).toNat)) 0 rfl rfl rfl (by decide) rfl rfl ?_
    refine tAS 214 ((w32 ((w32 (8 * x2)) + x3)).toNat) rfl rfl rfl (by decide) ?_
    refine tL ((172 : Nat) : Int) 0 rfl rfl rfl ?_
    refine tFR (c := 172) 215 rfl rfl rfl rfl rfl ?_
    refine tK rfl ?_
    refine tL x2 0 rfl rfl rfl ?_
    refine tM (v := w32 (8 * x2)) rfl rfl ?_
    refine tL x3 0 rfl rfl rfl ?_
    refine tB (v := w32 ((w32 (8 * x2)) + x3)) rfl rfl ?_
    refine tL ((172 : Nat) : Int) 0 rfl rfl rfl ?_
    refine tFR (c := 172) 215 rfl rfl rfl rfl rfl ?_
    refine tK rfl ?_
    refine tL x1 0 rfl rfl rfl ?_
    refine tM (v := w32 (8 * x1)) rfl rfl ?_
    refine tL x3 0 rfl rfl rfl ?_
    refine tB (v := w32 ((w32 (8 * x1)) + x3)) rfl rfl ?_
    refine tAv 215 ((w32 ((w32 (8 * x1)) + x3)).toNat) (s 215 ((w32 ((w32 (8 * x1)) + x3)).toNat)) 0 rfl rfl rfl (by decide) rfl rfl ?_
    refine tAS3 215 ((w32 ((w32 (8 * x2)) + x3)).toNat) rfl rfl rfl ?_
    refine tInc [((172 : Nat) : Int), x1, x2, w32 (x3 + 1)] rfl rfl ?_
    exact tGb rfl (fun m2 l2 => h1 g1 m2 (Nat.lt_of_lt_of_le l2 (Nat.le_refl n)))

theorem c_X11_laysSeen {n : Nat} {Q : Zr → Prop} {a0 a1 a2 : Int} {s : Zs} (h : zT (zE 1465) (Pt PX11_laysSeen) n (0, [a0, a1, a2, 0], [], s) Q) : zC n 1465 [(a0, 0), (a1, 0), (a2, 0)] s Q := h

theorem b_X11_mark_0 {n : Nat} {Q : Zr → Prop} (x1 x2 x3 x4 : Int) (s : Zs) 
    (h0 : ∀ m, m < n → zC m 1525 [(x1, 0), (0, 0), (3, 0)] (zu s 172 0 0) (fun p => zT (zE 1472) (Pt PX11_mark) m (11, [((172 : Nat) : Int), x1, x2, x3, x4], p.1 ++ [], p.2) Q)) : zT (zE 1472) (Pt PX11_mark) n (0, [((172 : Nat) : Int), x1, x2, x3, x4], [], s) Q := by
  refine tL ((172 : Nat) : Int) 0 rfl rfl rfl ?_
  refine tK rfl ?_
  refine tPut 172 rfl rfl ?_
  refine tL x1 0 rfl rfl rfl ?_
  refine tK rfl ?_
  refine tK rfl ?_
  exact tCall [(x1, 0), (0, 0), (3, 0)] [] rfl rfl rfl (fun m l => h0 m (Nat.lt_of_lt_of_le l (Nat.le_refl n)))

theorem b_X11_mark_11 {n : Nat} {Q : Zr → Prop} (x1 x2 x3 x4 v0 : Int) (s : Zs) 
    (h0 : ∀ (g1 : v0 = 0), Q ([(0, 0)], s))
    (h1 : ∀ (g1 : v0 ≠ 0), ∀ (g2 : x2 = 0), ∀ m, m < n → zC m 1463 [(((172 : Nat) : Int), 0), (0, 0), (w32 (1 + x1), 0)] (zu s 220 x1.toNat (zst3 1)) (fun p => zT (zE 1472) (Pt PX11_mark) m (68, [((172 : Nat) : Int), x1, x2, 0, w32 (1 + x1)], p.1 ++ [], p.2) Q))
    (h2 : ∀ (g1 : v0 ≠ 0), ∀ (g2 : x2 ≠ 0), ∀ (g4 : s 220 x1.toNat ≠ 0), ∀ m, m < n → zC m 1463 [(((172 : Nat) : Int), 0), (w32 (1 + x1), 0), (0, 0)] (zu s 220 x1.toNat (zst3 1)) (fun p => zT (zE 1472) (Pt PX11_mark) m (68, [((172 : Nat) : Int), x1, x2, w32 (1 + x1), 0], p.1 ++ [], p.2) Q))
    (h3 : ∀ (g1 : v0 ≠ 0), ∀ (g2 : x2 ≠ 0), ∀ (g4 : s 220 x1.toNat = 0), Q ([(0, 0)], s)) : zT (zE 1472) (Pt PX11_mark) n (11, [((172 : Nat) : Int), x1, x2, x3, x4], [(v0, 0)], s) Q := by
  refine tI0 rfl (fun g1 _ l1 => zT_le ?_ (Nat.le_of_lt l1)) (fun g1 _ l1 => zT_le ?_ (Nat.le_of_lt l1))
  · refine tK rfl ?_
    exact tR rfl (h0 g1)
  · refine tL x2 0 rfl rfl rfl ?_
    refine tI0 rfl (fun g2 _ l2 => zT_le ?_ (Nat.le_of_lt l2)) (fun g2 _ l2 => zT_le ?_ (Nat.le_of_lt l2))
    · refine tL ((172 : Nat) : Int) 0 rfl rfl rfl ?_
      refine tFR (c := 172) 220 rfl rfl rfl rfl rfl ?_
      refine tL x1 0 rfl rfl rfl ?_
      refine tK rfl ?_
      refine tAS3 220 x1.toNat rfl rfl rfl ?_
      refine tL x2 0 rfl rfl rfl ?_
      refine tI0 rfl (fun g _ l => zT_le ?_ (Nat.le_of_lt l)) (fun g _ l => False.elim (by omega))
      refine tK rfl ?_
      refine tS [((172 : Nat) : Int), x1, x2, 0, x4] rfl rfl ?_
      refine tL x2 0 rfl rfl rfl ?_
      refine tI0 rfl (fun g _ l => zT_le ?_ (Nat.le_of_lt l)) (fun g _ l => False.elim (by omega))
      refine tK rfl ?_
      refine tL x1 0 rfl rfl rfl ?_
      refine tB (v := w32 (1 + x1)) rfl rfl ?_
      refine tS [((172 : Nat) : Int), x1, x2, 0, w32 (1 + x1)] rfl rfl ?_
      refine tL ((172 : Nat) : Int) 0 rfl rfl rfl ?_
      refine tL 0 0 rfl rfl rfl ?_
      refine tL (w32 (1 + x1)) 0 rfl rfl rfl ?_
      exact tCall [(((172 : Nat) : Int), 0), (0, 0), (w32 (1 + x1), 0)] [] rfl rfl rfl (fun m l => h1 g1 g2 m (Nat.lt_of_lt_of_le l (Nat.le_refl n)))
    · refine tL ((172 : Nat) : Int) 0 rfl rfl rfl ?_
      refine tFR (c := 172) 220 rfl rfl rfl rfl rfl ?_
      refine tL x1 0 rfl rfl rfl ?_
      refine tAv 220 x1.toNat (s 220 x1.toNat) 0 rfl rfl rfl (by decide) rfl rfl ?_
      refine tI1 rfl (fun g4 _ l4 => zT_le ?_ (Nat.le_of_lt l4)) (fun g4 _ l4 => zT_le ?_ (Nat.le_of_lt l4))
      · refine tL ((172 : Nat) : Int) 0 rfl rfl rfl ?_
        refine tFR (c := 172) 220 rfl rfl rfl rfl rfl ?_
        refine tL x1 0 rfl rfl rfl ?_
        refine tK rfl ?_
        refine tAS3 220 x1.toNat rfl rfl rfl ?_
        refine tL x2 0 rfl rfl rfl ?_
        refine tI0 rfl (fun g _ l => False.elim (by omega)) (fun g _ l => zT_le ?_ (Nat.le_of_lt l))
        refine tK rfl ?_
        refine tL x1 0 rfl rfl rfl ?_
        refine tB (v := w32 (1 + x1)) rfl rfl ?_
        refine tG rfl ?_
        refine tS [((172 : Nat) : Int), x1, x2, w32 (1 + x1), x4] rfl rfl ?_
        refine tL x2 0 rfl rfl rfl ?_
        refine tI0 rfl (fun g _ l => False.elim (by omega)) (fun g _ l => zT_le ?_ (Nat.le_of_lt l))
        refine tK rfl ?_
        refine tG rfl ?_
        refine tS [((172 : Nat) : Int), x1, x2, w32 (1 + x1), 0] rfl rfl ?_
        refine tL ((172 : Nat) : Int) 0 rfl rfl rfl ?_
        refine tL (w32 (1 + x1)) 0 rfl rfl rfl ?_
        refine tL 0 0 rfl rfl rfl ?_
        exact tCall [(((172 : Nat) : Int), 0), (w32 (1 + x1), 0), (0, 0)] [] rfl rfl rfl (fun m l => h2 g1 g2 g4 m (Nat.lt_of_lt_of_le l (Nat.le_refl n)))
      · refine tK rfl ?_
        exact tR rfl (h3 g1 g2 g4)

theorem b_X11_mark_68 {n : Nat} {Q : Zr → Prop} (x1 x2 x3 x4 : Int) (s : Zs) 
    (h0 : ∀ m, m < n → zC m 1465 [(((172 : Nat) : Int), 0), (x3, 0), (x4, 0)] s (fun p => zT (zE 1472) (Pt PX11_mark) m (75, [((172 : Nat) : Int), x1, x2, x3, x4], p.1 ++ [], p.2) Q)) : zT (zE 1472) (Pt PX11_mark) n (68, [((172 : Nat) : Int), x1, x2, x3, x4], [], s) Q := by
  refine tL ((172 : Nat) : Int) 0 rfl rfl rfl ?_
  refine tL x3 0 rfl rfl rfl ?_
  refine tL x4 0 rfl rfl rfl ?_
  exact tCall [(((172 : Nat) : Int), 0), (x3, 0), (x4, 0)] [] rfl rfl rfl (fun m l => h0 m (Nat.lt_of_lt_of_le l (Nat.le_refl n)))

theorem b_X11_mark_75 {n : Nat} {Q : Zr → Prop} (x1 x2 x3 x4 : Int) (s : Zs) 
    (h0 : ∀ (g1 : x2 = 0), ∀ m, m < n → zC m 1426 [(((216 : Nat) : Int), 0), (0, 0), (((218 : Nat) : Int), 0), (w32 (13 * x1), 0)] s (fun p => zT (zE 1472) (Pt PX11_mark) m (119, [((172 : Nat) : Int), x1, x2, x3, x4], p.1 ++ [], p.2) Q))
    (h1 : ∀ (g1 : x2 ≠ 0), ∀ m, m < n → zC m 1426 [(((218 : Nat) : Int), 0), (w32 (13 * x1), 0), (((216 : Nat) : Int), 0), (0, 0)] s (fun p => zT (zE 1472) (Pt PX11_mark) m (95, [((172 : Nat) : Int), x1, x2, x3, x4], p.1 ++ [], p.2) Q)) : zT (zE 1472) (Pt PX11_mark) n (75, [((172 : Nat) : Int), x1, x2, x3, x4], [], s) Q := by
  refine tL x2 0 rfl rfl rfl ?_
  refine tI0 rfl (fun g1 _ l1 => zT_le ?_ (Nat.le_of_lt l1)) (fun g1 _ l1 => zT_le ?_ (Nat.le_of_lt l1))
  · refine tL ((172 : Nat) : Int) 0 rfl rfl rfl ?_
    refine tFR (c := 172) 216 rfl rfl rfl rfl rfl ?_
    refine tK rfl ?_
    refine tL ((172 : Nat) : Int) 0 rfl rfl rfl ?_
    refine tFR (c := 172) 218 rfl rfl rfl rfl rfl ?_
    refine tK rfl ?_
    refine tL x1 0 rfl rfl rfl ?_
    refine tM (v := w32 (13 * x1)) rfl rfl ?_
    exact tCall [(((216 : Nat) : Int), 0), (0, 0), (((218 : Nat) : Int), 0), (w32 (13 * x1), 0)] [] rfl rfl rfl (fun m l => h0 g1 m (Nat.lt_of_lt_of_le l (Nat.le_refl n)))
  · refine tL ((172 : Nat) : Int) 0 rfl rfl rfl ?_
    refine tFR (c := 172) 218 rfl rfl rfl rfl rfl ?_
    refine tK rfl ?_
    refine tL x1 0 rfl rfl rfl ?_
    refine tM (v := w32 (13 * x1)) rfl rfl ?_
    refine tL ((172 : Nat) : Int) 0 rfl rfl rfl ?_
    refine tFR (c := 172) 216 rfl rfl rfl rfl rfl ?_
    refine tK rfl ?_
    exact tCall [(((218 : Nat) : Int), 0), (w32 (13 * x1), 0), (((216 : Nat) : Int), 0), (0, 0)] [] rfl rfl rfl (fun m l => h1 g1 m (Nat.lt_of_lt_of_le l (Nat.le_refl n)))

theorem b_X11_mark_119 {n : Nat} {Q : Zr → Prop} (x1 x2 x3 x4 : Int) (s : Zs) 
    (h0 : Q ([(1, 0)], s)) : zT (zE 1472) (Pt PX11_mark) n (119, [((172 : Nat) : Int), x1, x2, x3, x4], [], s) Q := by
  refine tK rfl ?_
  exact tR rfl (h0)

theorem b_X11_mark_95 {n : Nat} {Q : Zr → Prop} (x1 x2 x3 x4 : Int) (s : Zs) 
    (h0 : Q ([(1, 0)], zu s 172 60 0)) : zT (zE 1472) (Pt PX11_mark) n (95, [((172 : Nat) : Int), x1, x2, x3, x4], [], s) Q := by
  refine tL ((172 : Nat) : Int) 0 rfl rfl rfl ?_
  refine tK rfl ?_
  refine tPut 172 rfl rfl ?_
  refine tG rfl ?_
  refine tK rfl ?_
  exact tR rfl (h0)

theorem c_X11_mark {n : Nat} {Q : Zr → Prop} {a0 a1 a2 : Int} {s : Zs} (h : zT (zE 1472) (Pt PX11_mark) n (0, [a0, a1, a2, 0, 0], [], s) Q) : zC n 1472 [(a0, 0), (a1, 0), (a2, 0)] s Q := h

def mkC (s : Zs) (D : ZD) (K : Nat → Option ZS) : Prop := (∃ L : Nat, L < 16 ∧ s 0 11 = ((L : Nat) : Int) ∧ ∀ m, m < 4 → L.testBit m = (K m).isSome) ∧ ∀ m S', m < 4 → K m = some S' → cSt s (138 + 3 * m) D S'
def mkM (s : Zs) (D : ZD) (K : Nat → Option ZS) : Prop := ∀ m, m < 4 → (s 220 m = if (K m).isSome = true then 1 else 0) ∧ ∀ S', K m = some S' → mSt s 218 (13 * m) D S'
def mkS (K : Nat → Option ZS) (x : Nat) (S : ZS) : Nat → Option ZS := fun m => if m = x then some S else K m
def canM (K : Nat → Option ZS) (x bk : Int) : Prop := 0 ≤ x ∧ x < 4 ∧ (bk ≠ 0 → (K x.toNat).isSome = true)
theorem mk_all : ((List.range 4).all fun m => decide (zrho 150 m = 138 + 3 * m) && decide (zrho 163 m = 151 + 3 * m) && isSt (138 + 3 * m) && isSd (151 + 3 * m)) = true := by decide +kernel
theorem mk_1 {m : Nat} (h : m < 4) : zrho 150 m = 138 + 3 * m ∧ zrho 163 m = 151 + 3 * m ∧ isSt (138 + 3 * m) = true ∧ isSd (151 + 3 * m) = true := by
  have := List.all_eq_true.mp mk_all m (List.mem_range.mpr h)
  rw [Bool.and_eq_true, Bool.and_eq_true, Bool.and_eq_true, decide_eq_true_eq, decide_eq_true_eq] at this
  exact ⟨this.1.1.1, this.1.1.2, this.1.2, this.2⟩
section Zmk
variable {N t : Nat} {s : Zs} {D : ZD} {S : ZS} {H : List ZS} {K : Nat → Option ZS}
theorem said_fr {d e : Nat} (hd : isSd d = true) (he : isSd e = true) : zC N 642 [((d : Int), 0), ((e : Int), 0)] s (fun r => r.1 = [] ∧ ∀ c j, ¬ (d ≤ c ∧ c ≤ d + 2) → r.2 c j = s c j) := by
  refine c_X5_copy (b_X5_copy_0 s hd he (fun m _ => ?_))
  refine c_X5_tellG (b_X5_tellG_0 _ s hd he ?_)
  have W : ∀ (s1 s9 : Zs) (a b : Int) (k : Nat), (∀ c j, ¬ (d ≤ c ∧ c ≤ d + 2) → s1 c j = s c j) → s9 = zu (zcpy (zu s1 d 2 a) (e + 2) (d + 2) k) d 4 b → (([], s9) : Zr).1 = [] ∧ ∀ c j, ¬ (d ≤ c ∧ c ≤ d + 2) → (([], s9) : Zr).2 c j = s c j := fun s1 s9 a b k f1 e9 => by
    refine ⟨rfl, fun c j hc => ?_⟩
    show s9 c j = _
    rw [e9, zu_n (by omega)]
    unfold zcpy
    rw [if_neg (by omega), zu_n (by omega)]
    exact f1 c j hc
  refine b_X5_copy_12 _ hd he (W _ _ _ _ _ (fun c j hc => ?_) rfl)
  show zu _ _ _ _ c j = _
  rw [zu_n (by omega)]
  unfold zcpy
  rw [if_neg (by omega)]
theorem mkC_e {s' : Zs} (h : mkC s D K) (e0 : s' 0 11 = s 0 11) (e1 : ∀ c j, 138 ≤ c → c ≤ 149 → s' c j = s c j) : mkC s' D K := by
  obtain ⟨⟨L, h1, h2, h3⟩, h4⟩ := h
  exact ⟨⟨L, h1, e0.trans h2, h3⟩, fun m S' hm hS => cSt_e (h4 m S' hm hS) (fun c j a b _ => e1 c j (by omega) (by omega))⟩
theorem mkM_e {s' : Zs} (hw : wD D) (h : mkM s D K) (e0 : ∀ j, s' 220 j = s 220 j) (e1 : ∀ j, s' 218 j = s 218 j) : mkM s' D K := fun m hm => ⟨(e0 m).trans (h m hm).1, fun S' hS => mSt_mv hw ((h m hm).2 S' hS) (fun k _ => e1 _)⟩
theorem mark_c (ht : t = 7 ∨ t = 43) (hw : wD D) (hS : cSt s 79 D S) (hH : cHi s D H) (hK : mkC s D K) {x bk : Int} : zC N 1302 [(((0 : Nat) : Int), 0), (x, 0), (bk, 0)] s (fun r => (¬ canM K x bk → r = ([(0, 0)], s)) ∧ (canM K x bk → r.1 = [(1, 0)] ∧ (bk = 0 → cSt r.2 79 D S ∧ cHi r.2 D H ∧ mkC r.2 D (mkS K x.toNat S)) ∧ (bk ≠ 0 → ∀ S', K x.toNat = some S' → cSt r.2 79 D S' ∧ cHi r.2 D [] ∧ mkC r.2 D K)) ∧ ∀ c j, ¬ (79 ≤ c ∧ c ≤ 81) → ¬ (85 ≤ c ∧ c ≤ 88) → ¬ (138 ≤ c ∧ c ≤ 162) → ¬ (c = 0 ∧ j = 11) → r.2 c j = s c j) := by
  obtain ⟨⟨L, l1, l2, l3⟩, l4⟩ := hK
  have no : ¬ canM K x bk → (¬ canM K x bk → (([(0, 0)], s) : Zr) = ([(0, 0)], s)) ∧ (canM K x bk → (([(0, 0)], s) : Zr).1 = [(1, 0)] ∧ (bk = 0 → cSt (([(0, 0)], s) : Zr).2 79 D S ∧ cHi (([(0, 0)], s) : Zr).2 D H ∧ mkC (([(0, 0)], s) : Zr).2 D (mkS K x.toNat S)) ∧ (bk ≠ 0 → ∀ S', K x.toNat = some S' → cSt (([(0, 0)], s) : Zr).2 79 D S' ∧ cHi (([(0, 0)], s) : Zr).2 D [] ∧ mkC (([(0, 0)], s) : Zr).2 D K)) ∧ ∀ c j, ¬ (79 ≤ c ∧ c ≤ 81) → ¬ (85 ≤ c ∧ c ≤ 88) → ¬ (138 ≤ c ∧ c ≤ 162) → ¬ (c = 0 ∧ j = 11) → (([(0, 0)], s) : Zr).2 c j = s c j := fun h => ⟨fun _ => rfl, fun q => absurd q h, fun _ _ _ _ _ _ => rfl⟩
  refine c_X10_mark (b_X10_mark_0 _ _ s ht (fun g => no (fun q => by have := q.1; omega)) (fun g g2 g3 g4 m _ => ?_) (fun g g2 g3 g4 => no (fun q => ?_)) (fun g g2 g3 m _ => ?_) (fun g g2 => no (fun q => by have := q.2.1; omega)))
  all_goals obtain ⟨k, rfl⟩ := Int.eq_ofNat_of_zero_le g
  · have hk : k < 4 := by omega
    have z := mk_1 hk
    rw [l2] at g4
    have tb : L.testBit k = true := by
      cases q : L.testBit k with
      | true => rfl
      | false => exact absurd ((zbit0 (by omega) (by omega)).mpr (by rw [q]; decide)) g4
    have ks : (K k).isSome = true := (l3 k hk).symm.trans tb
    obtain ⟨S', eS⟩ := Option.isSome_iff_exists.mp ks
    have cS := l4 k S' hk eS
    rw [Int.toNat_natCast, z.1]
    refine zC_q (copy_ok ht (b := 79) rfl z.2.2.1 (by omega)) (fun r hr => ?_)
    obtain ⟨r1, s1⟩ := r
    obtain ⟨e, f1, cp⟩ := hr
    have e : r1 = [] := e
    subst e
    have f1 : ∀ c j, ¬ (79 ≤ c ∧ c ≤ 81) → s1 c j = s c j := fun c j hc => f1 c j (by omega)
    have S1 : cSt s1 79 D S' := cp D S' hw cS
    refine b_X10_mark_81 _ _ s1 ht (fun m2 _ => ?_)
    rw [Int.toNat_natCast, z.2.1]
    refine zC_q (said_fr (d := 85) rfl z.2.2.2) (fun r hr => ?_)
    obtain ⟨r1, s2⟩ := r
    obtain ⟨e, f2⟩ := hr
    have e : r1 = [] := e
    subst e
    have f2 : ∀ c j, ¬ (85 ≤ c ∧ c ≤ 87) → s2 c j = s1 c j := f2
    refine b_X10_mark_94 _ _ s2 ht (fun m3 _ => ?_)
    refine c_X1_clear (b_X1_clear_0 s2 ?_)
    have W : ∀ s9 : Zs, s9 = zu s2 88 0 0 → (¬ canM K ((k : Nat) : Int) bk → (([(1, 0)], s9) : Zr) = ([(0, 0)], s)) ∧ (canM K ((k : Nat) : Int) bk → (([(1, 0)], s9) : Zr).1 = [(1, 0)] ∧ (bk = 0 → cSt (([(1, 0)], s9) : Zr).2 79 D S ∧ cHi (([(1, 0)], s9) : Zr).2 D H ∧ mkC (([(1, 0)], s9) : Zr).2 D (mkS K ((k : Nat) : Int).toNat S)) ∧ (bk ≠ 0 → ∀ S', K ((k : Nat) : Int).toNat = some S' → cSt (([(1, 0)], s9) : Zr).2 79 D S' ∧ cHi (([(1, 0)], s9) : Zr).2 D [] ∧ mkC (([(1, 0)], s9) : Zr).2 D K)) ∧ ∀ c j, ¬ (79 ≤ c ∧ c ≤ 81) → ¬ (85 ≤ c ∧ c ≤ 88) → ¬ (138 ≤ c ∧ c ≤ 162) → ¬ (c = 0 ∧ j = 11) → (([(1, 0)], s9) : Zr).2 c j = s c j := fun s9 e9 => by
      have f9 : ∀ c j, c ≠ 88 → ¬ (85 ≤ c ∧ c ≤ 87) → s9 c j = s1 c j := fun c j a b => by rw [e9, zu_n (by omega)]; exact f2 c j b
      obtain ⟨h1, h2, nx, h3, h4, h5⟩ := hH
      refine ⟨fun q => absurd ⟨g, g2, fun _ => ks⟩ q, fun _ => ⟨rfl, fun q => absurd q g3, fun _ S'' eS2 => ?_⟩, fun c j a b d e => (f9 c j (by omega) (by omega)).trans (f1 c j a)⟩
      have eS3 : K k = some S'' := eS2
      rw [eS] at eS3
      cases eS3
      refine ⟨cSt_e S1 (fun c j a b _ => f9 c j (by omega) (by omega)), ⟨by decide, ?_, nx, h3, ?_, fun i S' hi => by simp at hi⟩, ⟨⟨L, l1, (f9 _ _ (by omega) (by omega)).trans ((f1 _ _ (by omega)).trans l2), l3⟩, fun m S' hm hS => cSt_e (l4 m S' hm hS) (fun c j a b _ => (f9 c j (by omega) (by omega)).trans (f1 c j (by omega)))⟩⟩
      · show s9 88 0 = _
        rw [e9, zu_eq]; rfl
      · show s9 88 1 = _
        rw [e9, zu_n (by omega), f2 _ _ (by omega), f1 _ _ (by omega)]; exact h4
    exact b_X10_mark_101 _ _ _ ht (W _ rfl)
  · have hk : k < 4 := by omega
    have ks : (K k).isSome = true := q.2.2 g3
    rw [l2] at g4
    exact (zbit0 (by omega) (by omega)).mp g4 ((l3 k hk).trans ks)
  · have hk : k < 4 := by omega
    have z := mk_1 hk
    rw [Int.toNat_natCast, z.1]
    refine zC_q (copy_ok ht (d := 79) z.2.2.1 rfl (by omega)) (fun r hr => ?_)
    obtain ⟨r1, s1⟩ := r
    obtain ⟨e, f1, cp⟩ := hr
    have e : r1 = [] := e
    subst e
    have f1 : ∀ c j, ¬ (138 + 3 * k ≤ c ∧ c ≤ 138 + 3 * k + 2) → s1 c j = s c j := f1
    have S1 : cSt s1 (138 + 3 * k) D S := cp D S hw hS
    refine b_X10_mark_28 _ _ s1 ht (fun m2 _ => ?_)
    rw [Int.toNat_natCast, z.2.1]
    refine zC_q (said_fr (e := 85) z.2.2.2 rfl) (fun r hr => ?_)
    obtain ⟨r1, s2⟩ := r
    obtain ⟨e, f2⟩ := hr
    have e : r1 = [] := e
    subst e
    have f2 : ∀ c j, ¬ (151 + 3 * k ≤ c ∧ c ≤ 151 + 3 * k + 2) → s2 c j = s1 c j := f2
    have W : ∀ s9 : Zs, s9 = zu s2 0 11 (zor (s2 0 11) (zshl 1 ((k : Nat) : Int))) → (¬ canM K ((k : Nat) : Int) bk → (([(1, 0)], s9) : Zr) = ([(0, 0)], s)) ∧ (canM K ((k : Nat) : Int) bk → (([(1, 0)], s9) : Zr).1 = [(1, 0)] ∧ (bk = 0 → cSt (([(1, 0)], s9) : Zr).2 79 D S ∧ cHi (([(1, 0)], s9) : Zr).2 D H ∧ mkC (([(1, 0)], s9) : Zr).2 D (mkS K ((k : Nat) : Int).toNat S)) ∧ (bk ≠ 0 → ∀ S', K ((k : Nat) : Int).toNat = some S' → cSt (([(1, 0)], s9) : Zr).2 79 D S' ∧ cHi (([(1, 0)], s9) : Zr).2 D [] ∧ mkC (([(1, 0)], s9) : Zr).2 D K)) ∧ ∀ c j, ¬ (79 ≤ c ∧ c ≤ 81) → ¬ (85 ≤ c ∧ c ≤ 88) → ¬ (138 ≤ c ∧ c ≤ 162) → ¬ (c = 0 ∧ j = 11) → (([(1, 0)], s9) : Zr).2 c j = s c j := fun s9 e9 => by
      have f9 : ∀ c j, ¬ (c = 0 ∧ j = 11) → ¬ (151 + 3 * k ≤ c ∧ c ≤ 151 + 3 * k + 2) → s9 c j = s1 c j := fun c j a b => by rw [e9, zu_n a]; exact f2 c j b
      refine ⟨fun q => absurd ⟨g, g2, fun q2 => absurd g3 q2⟩ q, fun _ => ⟨rfl, fun _ => ⟨cSt_e hS (fun c j a b _ => (f9 c j (by omega) (by omega)).trans (f1 c j (by omega))), cHi_e hH (fun c j a b => (f9 c j (by omega) (by omega)).trans (f1 c j (by omega))), ⟨L ||| 2 ^ k, ?_, ?_, fun m hm => ?_⟩, fun m S' hm hS' => ?_⟩, fun q => absurd g3 q⟩, fun c j a b d e => (f9 c j (by omega) (by omega)).trans (f1 c j (by omega))⟩
      · exact Nat.or_lt_two_pow (n := 4) l1 (Nat.pow_lt_pow_right (by decide) hk)
      · show s9 0 11 = _
        have bk2 : 2 ^ k ≤ 2 ^ 3 := Nat.pow_le_pow_right (by decide) (by omega)
        have bk3 : 2 ^ 3 = 8 := by decide
        rw [e9, zu_eq, f2 _ _ (by omega), f1 _ _ (by omega), l2, zshl_1 k (by omega), zor_nat (by omega) (by omega)]
      · rw [Nat.testBit_or, Nat.testBit_two_pow]
        show (L.testBit m || decide (k = m)) = (if m = k then some S else K m).isSome
        by_cases q : m = k
        · rw [if_pos q, decide_eq_true q.symm, Bool.or_true]; rfl
        · rw [if_neg q, decide_eq_false (fun u => q u.symm), Bool.or_false]; exact l3 m hm
      · have hS' : (if m = k then some S else K m) = some S' := hS'
        show cSt s9 _ D S'
        by_cases q : m = k
        · rw [if_pos q] at hS'
          cases hS'
          rw [q]
          exact cSt_e S1 (fun c j a b _ => f9 c j (by omega) (by omega))
        · rw [if_neg q] at hS'
          exact cSt_e (l4 m S' hm hS') (fun c j a b _ => (f9 c j (by omega) (by omega)).trans (f1 c j (by omega)))
    exact b_X10_mark_41 _ _ s2 ht (W _ rfl)
/-- what is said of lines and of what is seen stays within its cells -/
theorem layL_fr {x y : Int} : zC N 1463 [(((172 : Nat) : Int), 0), (x, 0), (y, 0)] s (fun r => r.1 = [] ∧ ∀ c j, ¬ (207 ≤ c ∧ c ≤ 215) → r.2 c j = s c j) := by
  have loop : ∀ (M : Nat) (x3 : Int) (s1 : Zs), (∀ c j, ¬ (207 ≤ c ∧ c ≤ 215) → s1 c j = s c j) → zT (zE 1463) (Pt PX11_laysLines) M (14, [((172 : Nat) : Int), x, y, x3], [], s1) (fun r => r.1 = [] ∧ ∀ c j, ¬ (207 ≤ c ∧ c ≤ 215) → r.2 c j = s c j) := by
    intro M
    induction M using Nat.strongRecOn with
    | ind M ih => exact fun x3 s1 f1 => b_X11_laysLines_14 _ _ _ s1 (fun _ => ⟨rfl, f1⟩) (fun _ m hm => ih m hm _ _ (fun c j hc => by rw [zu_n (by omega), zu_n (by omega), zu_n (by omega), zu_n (by omega)]; exact f1 c j hc))
  exact c_X11_laysLines (b_X11_laysLines_0 _ _ _ s (loop N 0 _ (fun c j hc => by rw [zu_n (by omega)])))
theorem layS_fr {x y : Int} : zC N 1465 [(((172 : Nat) : Int), 0), (x, 0), (y, 0)] s (fun r => r.1 = [] ∧ ∀ c j, ¬ (207 ≤ c ∧ c ≤ 215) → r.2 c j = s c j) := by
  have loop : ∀ (M : Nat) (x3 : Int) (s1 : Zs), (∀ c j, ¬ (207 ≤ c ∧ c ≤ 215) → s1 c j = s c j) → zT (zE 1465) (Pt PX11_laysSeen) M (14, [((172 : Nat) : Int), x, y, x3], [], s1) (fun r => r.1 = [] ∧ ∀ c j, ¬ (207 ≤ c ∧ c ≤ 215) → r.2 c j = s c j) := by
    intro M
    induction M using Nat.strongRecOn with
    | ind M ih => exact fun x3 s1 f1 => b_X11_laysSeen_14 _ _ _ s1 (fun _ => ⟨rfl, f1⟩) (fun _ m hm => ih m hm _ _ (fun c j hc => by rw [zu_n (by omega), zu_n (by omega), zu_n (by omega)]; exact f1 c j hc))
  exact c_X11_laysSeen (b_X11_laysSeen_0 _ _ _ s (loop N 0 _ (fun c j hc => by rw [zu_n (by omega)])))
theorem mark_m (hw : wD D) (hA : mAll s D S H) (hK : mkM s D K) {x bk : Int} : zC N 1472 [(((172 : Nat) : Int), 0), (x, 0), (bk, 0)] s (fun r => (¬ canM K x bk → r.1 = [(0, 0)] ∧ mAll r.2 D S H ∧ mkM r.2 D K) ∧ (canM K x bk → r.1 = [(1, 0)] ∧ (bk = 0 → mAll r.2 D S H ∧ mkM r.2 D (mkS K x.toNat S)) ∧ (bk ≠ 0 → ∀ S', K x.toNat = some S' → mAll r.2 D S' [] ∧ mkM r.2 D K)) ∧ ∀ c j, ¬ (c = 172 ∧ (j = 0 ∨ j = 60)) → ¬ (207 ≤ c ∧ c ≤ 220) → r.2 c j = s c j) := by
  have A0 := mAll_0 hw hA
  have K0 : mkM (zu s 172 0 0) D K := mkM_e hw hK (fun j => zu_n (by omega)) (fun j => zu_n (by omega))
  have no : ¬ canM K x bk → (¬ canM K x bk → (([(0, 0)], zu s 172 0 0) : Zr).1 = [(0, 0)] ∧ mAll (([(0, 0)], zu s 172 0 0) : Zr).2 D S H ∧ mkM (([(0, 0)], zu s 172 0 0) : Zr).2 D K) ∧ (canM K x bk → (([(0, 0)], zu s 172 0 0) : Zr).1 = [(1, 0)] ∧ (bk = 0 → mAll (([(0, 0)], zu s 172 0 0) : Zr).2 D S H ∧ mkM (([(0, 0)], zu s 172 0 0) : Zr).2 D (mkS K x.toNat S)) ∧ (bk ≠ 0 → ∀ S', K x.toNat = some S' → mAll (([(0, 0)], zu s 172 0 0) : Zr).2 D S' [] ∧ mkM (([(0, 0)], zu s 172 0 0) : Zr).2 D K)) ∧ ∀ c j, ¬ (c = 172 ∧ (j = 0 ∨ j = 60)) → ¬ (207 ≤ c ∧ c ≤ 220) → (([(0, 0)], zu s 172 0 0) : Zr).2 c j = s c j := fun h => ⟨fun _ => ⟨rfl, A0, K0⟩, fun q => absurd q h, fun c j a b => zu_n (by omega)⟩
  refine c_X11_mark (b_X11_mark_0 _ _ _ _ s (fun m _ => ?_))
  have out : ∀ z : Int, z < 0 ∨ 3 < z → z = x → ¬ canM K x bk := fun z h e q => by have := q.1; have := q.2.1; omega
  refine c_X11_within (b_X11_within_0 _ _ _ _ (fun g => ?_) (fun g g2 => ?_) (fun g g2 => ?_))
  · refine b_X11_mark_11 _ _ _ _ _ _ (fun _ => no (out x (by omega) rfl)) (fun q => absurd rfl q) (fun q => absurd rfl q) (fun q => absurd rfl q)
  · refine b_X11_mark_11 _ _ _ _ _ _ (fun _ => no (out x (by omega) rfl)) (fun q => absurd rfl q) (fun q => absurd rfl q) (fun q => absurd rfl q)
  obtain ⟨k, rfl⟩ := Int.eq_ofNat_of_zero_le g
  have hk : k < 4 := by omega
  have kz : zu s 172 0 0 220 ((k : Nat) : Int).toNat = if (K k).isSome = true then 1 else 0 := by rw [Int.toNat_natCast]; exact (K0 k hk).1
  have lay : ∀ (m : Nat) (x3 x4 : Int) (Q : Zr → Prop) (s1 : Zs), (∀ s3 m', (∀ c j, ¬ (207 ≤ c ∧ c ≤ 215) → s3 c j = s1 c j) → zT (zE 1472) (Pt PX11_mark) m' (75, [((172 : Nat) : Int), ((k : Nat) : Int), bk, x3, x4], [], s3) Q) → zC m 1463 [(((172 : Nat) : Int), 0), (x3, 0), (x4, 0)] s1 (fun p => zT (zE 1472) (Pt PX11_mark) m (68, [((172 : Nat) : Int), ((k : Nat) : Int), bk, x3, x4], p.1 ++ [], p.2) Q) := fun m x3 x4 Q s1 go => by
    refine zC_q layL_fr (fun r hr => ?_)
    obtain ⟨r1, s2⟩ := r
    obtain ⟨e, f2⟩ := hr
    have e : r1 = [] := e
    subst e
    have f2 : ∀ c j, ¬ (207 ≤ c ∧ c ≤ 215) → s2 c j = s1 c j := f2
    refine b_X11_mark_68 _ _ _ _ s2 (fun m' _ => ?_)
    refine zC_q layS_fr (fun r hr => ?_)
    obtain ⟨r1, s3⟩ := r
    obtain ⟨e, f3⟩ := hr
    have e : r1 = [] := e
    subst e
    have f3 : ∀ c j, ¬ (207 ≤ c ∧ c ≤ 215) → s3 c j = s2 c j := f3
    exact go s3 m' (fun c j hc => (f3 c j hc).trans (f2 c j hc))
  refine b_X11_mark_11 _ _ _ _ _ _ (fun q => absurd q (by decide)) (fun _ b0 m2 _ => ?_) (fun _ b1 b2 m2 _ => ?_) (fun _ b1 b2 => no (fun q => ?_))
  · refine lay m2 _ _ _ _ (fun s3 m' f3 => ?_)
    have g3 : ∀ c j, ¬ (207 ≤ c ∧ c ≤ 215) → ¬ (c = 220 ∧ j = k) → s3 c j = zu s 172 0 0 c j := fun c j a b => (f3 c j a).trans (by rw [Int.toNat_natCast, zu_n b])
    have z3 : s3 220 k = 1 := by rw [f3 _ _ (by omega), Int.toNat_natCast, zu_eq]; rfl
    have A3 : mAll s3 D S H := mAll_e hw A0 (fun c j a b => g3 c j (by omega) (by omega)) (fun j => g3 _ _ (by omega) (by omega)) (g3 _ _ (by omega) (by omega)) (fun j => g3 _ _ (by omega) (by omega))
    refine b_X11_mark_75 _ _ _ _ s3 (fun _ m3 _ => ?_) (fun q => absurd b0 q)
    rw [w32_id (z := 13 * ((k : Nat) : Int)) (by omega) (by omega), show 13 * ((k : Nat) : Int) = ((13 * k : Nat) : Int) from by omega]
    refine zC_q (copies_ok (f := 216) (e := 218) (a := 0) (by omega) (by omega) (by omega)) (fun r hr => ?_)
    obtain ⟨r1, s4⟩ := r
    obtain ⟨e, c1, c2⟩ := hr
    have e : r1 = [] := e
    subst e
    have c1 : ∀ i, i < 13 → s4 218 (13 * k + i) = s3 216 (0 + i) := c1
    have c2 : ∀ c j, ¬ (c = 218 ∧ 13 * k ≤ j ∧ j < 13 * k + 13) → s4 c j = s3 c j := c2
    refine b_X11_mark_119 _ _ _ _ s4 ⟨fun q => absurd ⟨g, by omega, fun q2 => absurd b0 q2⟩ q, fun _ => ⟨rfl, fun _ => ⟨mAll_e hw A3 (fun c j a b => c2 c j (by omega)) (fun j => c2 _ _ (by omega)) (c2 _ _ (by omega)) (fun j => c2 _ _ (by omega)), fun i hi => ?_⟩, fun q => absurd b0 q⟩, fun c j a b => (c2 c j (by omega)).trans ((g3 c j (by omega) (by omega)).trans (zu_n (by omega)))⟩
    show s4 220 i = (if (if i = k then some S else K i).isSome = true then 1 else 0) ∧ ∀ S', (if i = k then some S else K i) = some S' → mSt s4 218 (13 * i) D S'
    by_cases q : i = k
    · rw [if_pos q, q]
      refine ⟨(c2 _ _ (by omega)).trans z3, fun S' hS' => ?_⟩
      cases hS'
      exact mSt_mv hw A3.2.1 c1
    · rw [if_neg q]
      refine ⟨(c2 _ _ (by omega)).trans ((g3 _ _ (by omega) (by omega)).trans (K0 i hi).1), fun S' hS' => mSt_mv hw ((K0 i hi).2 S' hS') (fun j hj => ?_)⟩
      rw [c2 _ _ (by omega), g3 _ _ (by omega) (by omega)]
  · have ks : (K k).isSome = true := by
      have b2 : zu s 172 0 0 220 ((k : Nat) : Int).toNat ≠ 0 := b2
      rw [kz] at b2
      exact Classical.byContradiction fun c => b2 (if_neg c)
    refine lay m2 _ _ _ _ (fun s3 m' f3 => ?_)
    have g3 : ∀ c j, ¬ (207 ≤ c ∧ c ≤ 215) → ¬ (c = 220 ∧ j = k) → s3 c j = zu s 172 0 0 c j := fun c j a b => (f3 c j a).trans (by rw [Int.toNat_natCast, zu_n b])
    have z3 : s3 220 k = 1 := by rw [f3 _ _ (by omega), Int.toNat_natCast, zu_eq]; rfl
    have A3 : mAll s3 D S H := mAll_e hw A0 (fun c j a b => g3 c j (by omega) (by omega)) (fun j => g3 _ _ (by omega) (by omega)) (g3 _ _ (by omega) (by omega)) (fun j => g3 _ _ (by omega) (by omega))
    refine b_X11_mark_75 _ _ _ _ s3 (fun q => absurd q b1) (fun _ m3 _ => ?_)
    rw [w32_id (z := 13 * ((k : Nat) : Int)) (by omega) (by omega), show 13 * ((k : Nat) : Int) = ((13 * k : Nat) : Int) from by omega]
    refine zC_q (copies_ok (f := 218) (e := 216) (b := 0) (by omega) (by omega) (by omega)) (fun r hr => ?_)
    obtain ⟨r1, s4⟩ := r
    obtain ⟨e, c1, c2⟩ := hr
    have e : r1 = [] := e
    subst e
    have c1 : ∀ i, i < 13 → s4 216 (0 + i) = s3 218 (13 * k + i) := c1
    have c2 : ∀ c j, ¬ (c = 216 ∧ 0 ≤ j ∧ j < 0 + 13) → s4 c j = s3 c j := c2
    have W : ∀ s9 : Zs, s9 = zu s4 172 60 0 → (¬ canM K ((k : Nat) : Int) bk → (([(1, 0)], s9) : Zr).1 = [(0, 0)] ∧ mAll (([(1, 0)], s9) : Zr).2 D S H ∧ mkM (([(1, 0)], s9) : Zr).2 D K) ∧ (canM K ((k : Nat) : Int) bk → (([(1, 0)], s9) : Zr).1 = [(1, 0)] ∧ (bk = 0 → mAll (([(1, 0)], s9) : Zr).2 D S H ∧ mkM (([(1, 0)], s9) : Zr).2 D (mkS K ((k : Nat) : Int).toNat S)) ∧ (bk ≠ 0 → ∀ S', K ((k : Nat) : Int).toNat = some S' → mAll (([(1, 0)], s9) : Zr).2 D S' [] ∧ mkM (([(1, 0)], s9) : Zr).2 D K)) ∧ ∀ c j, ¬ (c = 172 ∧ (j = 0 ∨ j = 60)) → ¬ (207 ≤ c ∧ c ≤ 220) → (([(1, 0)], s9) : Zr).2 c j = s c j := fun s9 e9 => by
      have f9 : ∀ c j, ¬ (c = 172 ∧ j = 60) → s9 c j = s4 c j := fun c j hc => by rw [e9, zu_n hc]
      refine ⟨fun q => absurd ⟨g, by omega, fun _ => ks⟩ q, fun _ => ⟨rfl, fun q => absurd q b1, fun _ S' eS => ?_⟩, fun c j a b => (f9 c j (by omega)).trans ((c2 c j (by omega)).trans ((g3 c j (by omega) (by omega)).trans (zu_n (by omega))))⟩
      have eS : K k = some S' := eS
      have r3 : mSt s3 218 (13 * k) D S' := mSt_mv hw ((K0 k hk).2 S' eS) (fun j _ => g3 _ _ (by omega) (by omega))
      refine ⟨⟨mT_e (fun c j a b => (f9 c j (by omega)).trans (c2 c j (by omega))) A3.1, mSt_mv hw r3 (fun j hj => (f9 _ _ (by omega)).trans (c1 j hj)), by decide, ?_, fun i S' hi => by simp at hi⟩, fun i hi => ⟨?_, fun S2 hS2 => mSt_mv hw ((K0 i hi).2 S2 hS2) (fun j _ => (f9 _ _ (by omega)).trans ((c2 _ _ (by omega)).trans (g3 _ _ (by omega) (by omega))))⟩⟩
      · show s9 172 60 = _
        rw [e9, zu_eq]; rfl
      · show s9 220 i = _
        rw [f9 _ _ (by omega), c2 _ _ (by omega)]
        by_cases q : i = k
        · rw [q, z3, if_pos ks]
        · rw [g3 _ _ (by omega) (by omega)]; exact (K0 i hi).1
    exact b_X11_mark_95 _ _ _ _ s4 (W _ rfl)
  · have ks : (K k).isSome = true := q.2.2 b1
    have b2 : zu s 172 0 0 220 ((k : Nat) : Int).toNat = 0 := b2
    rw [kz, if_pos ks] at b2
    omega
end Zmk
