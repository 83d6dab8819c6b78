/-! the heap, the walk and the law of price: the model -/
theorem b_X11_fact_0 {n : Nat} {Q : Zr → Prop} (s : Zs) 
    (h0 : ∀ (g1 : s 172 6 = 1), ∀ (g2 : zcmpL (s 172 7) 164222 ≠ 0), ∀ (g3 : zcmpL (s 172 7) 205811839 ≠ 0), ∀ (g4 : zcmpL (s 172 7) 149099 ≠ 0), Q ([(0, 0)], s))
    (h1 : ∀ (g1 : s 172 6 = 1), ∀ (g2 : zcmpL (s 172 7) 164222 ≠ 0), ∀ (g3 : zcmpL (s 172 7) 205811839 ≠ 0), ∀ (g4 : zcmpL (s 172 7) 149099 = 0), Q ([(3, 0)], s))
    (h2 : ∀ (g1 : s 172 6 = 1), ∀ (g2 : zcmpL (s 172 7) 164222 ≠ 0), ∀ (g3 : zcmpL (s 172 7) 205811839 = 0), Q ([(2, 0)], s))
    (h3 : ∀ (g1 : s 172 6 = 1), ∀ (g2 : zcmpL (s 172 7) 164222 = 0), Q ([(1, 0)], s))
    (h4 : ∀ (g1 : s 172 6 ≠ 1), Q ([(0, 0)], s)) : zT (zE 1432) (Pt PX11_fact) n (0, [((172 : Nat) : Int)], [], s) Q := by
  refine tL ((172 : Nat) : Int) 0 rfl rfl rfl ?_
  refine tFv (c := 172) (s 172 6) 0 rfl rfl rfl rfl rfl ?_
  refine tK rfl ?_
  refine tJ0 rfl (fun g1 _ l1 => zT_le ?_ (Nat.le_of_lt l1)) (fun g1 _ l1 => zT_le ?_ (Nat.le_of_lt l1))
  · refine tL ((172 : Nat) : Int) 0 rfl rfl rfl ?_
    refine tFv (c := 172) (s 172 7) 1 rfl rfl rfl rfl rfl ?_
    refine tKL rfl ?_
    refine tC rfl ?_
    refine tI1 rfl (fun g2 _ l2 => zT_le ?_ (Nat.le_of_lt l2)) (fun g2 _ l2 => zT_le ?_ (Nat.le_of_lt l2))
    · refine tL ((172 : Nat) : Int) 0 rfl rfl rfl ?_
      refine tFv (c := 172) (s 172 7) 1 rfl rfl rfl rfl rfl ?_
      refine tKL rfl ?_
      refine tC rfl ?_
      refine tI1 rfl (fun g3 _ l3 => zT_le ?_ (Nat.le_of_lt l3)) (fun g3 _ l3 => zT_le ?_ (Nat.le_of_lt l3))
      · refine tL ((172 : Nat) : Int) 0 rfl rfl rfl ?_
        refine tFv (c := 172) (s 172 7) 1 rfl rfl rfl rfl rfl ?_
        refine tKL rfl ?_
        refine tC rfl ?_
        refine tI1 rfl (fun g4 _ l4 => zT_le ?_ (Nat.le_of_lt l4)) (fun g4 _ l4 => zT_le ?_ (Nat.le_of_lt l4))
        · refine tK rfl ?_
          exact tR rfl (h0 g1 g2 g3 g4)
        · refine tK rfl ?_
          refine tG rfl ?_
          exact tR rfl (h1 g1 g2 g3 g4)
      · refine tK rfl ?_
        refine tG rfl ?_
        exact tR rfl (h2 g1 g2 g3)
    · refine tK rfl ?_
      refine tG rfl ?_
      exact tR rfl (h3 g1 g2)
  · refine tK rfl ?_
    exact tR rfl (h4 g1)

theorem c_X11_fact {n : Nat} {Q : Zr → Prop} {a0 : Int} {s : Zs} (h : zT (zE 1432) (Pt PX11_fact) n (0, [a0], [], s) Q) : zC n 1432 [(a0, 0)] s Q := h

theorem b_X11_puts_0 {n : Nat} {Q : Zr → Prop} (x1 : Int) (s : Zs) 
    (h0 : Q ([], zu (zu s 194 ((s 172 31).toNat) x1) 172 31 (w32 ((s 172 31) + 1)))) : zT (zE 1493) (Pt PX11_puts) n (0, [((172 : Nat) : Int), x1], [], s) Q := by
  refine tL ((172 : Nat) : Int) 0 rfl rfl rfl ?_
  refine tFR (c := 172) 194 rfl rfl rfl rfl rfl ?_
  refine tL ((172 : Nat) : Int) 0 rfl rfl rfl ?_
  refine tFv (c := 172) (s 172 31) 0 rfl rfl rfl rfl rfl ?_
  refine tL x1 0 rfl rfl rfl ?_
  refine tAS 194 ((s 172 31).toNat) rfl rfl rfl (by decide) ?_
  refine tL ((172 : Nat) : Int) 0 rfl rfl rfl ?_
  refine tD rfl ?_
  refine tFv (c := 172) (s 172 31) 0 rfl rfl rfl rfl rfl ?_
  refine tK rfl ?_
  refine tB (v := w32 ((s 172 31) + 1)) rfl rfl ?_
  refine tPut 172 rfl rfl ?_
  exact tR rfl (h0)

theorem c_X11_puts {n : Nat} {Q : Zr → Prop} {a0 a1 : Int} {s : Zs} (h : zT (zE 1493) (Pt PX11_puts) n (0, [a0, a1], [], s) Q) : zC n 1493 [(a0, 0), (a1, 0)] s Q := h

theorem b_X11_reads_0 {n : Nat} {Q : Zr → Prop} (x1 x2 x3 x4 x5 : Int) (s : Zs) 
    (h0 : zT (zE 1496) (Pt PX11_reads) n (11, [((172 : Nat) : Int), 0, 1, x3, x4, x5], [], zu s 196 0 (zst3 0)) Q) : zT (zE 1496) (Pt PX11_reads) n (0, [((172 : Nat) : Int), x1, x2, x3, x4, x5], [], s) Q := by
  refine tK rfl ?_
  refine tS [((172 : Nat) : Int), 0, x2, x3, x4, x5] rfl rfl ?_
  refine tK rfl ?_
  refine tS [((172 : Nat) : Int), 0, 1, x3, x4, x5] rfl rfl ?_
  refine tL ((172 : Nat) : Int) 0 rfl rfl rfl ?_
  refine tFR (c := 172) 196 rfl rfl rfl rfl rfl ?_
  refine tK rfl ?_
  refine tK rfl ?_
  refine tAS3 196 0 rfl rfl rfl ?_
  exact zT_le (h0) (Nat.le_refl n)

theorem b_X11_reads_11 {n : Nat} {Q : Zr → Prop} (x1 x2 x3 x4 x5 : Int) (s : Zs) 
    (h0 : ∀ (g1 : x2 = 0), ∀ (g3 : s 172 6 ≠ 3), ∀ (g13 : s 172 6 ≠ 1), ∀ (g18 : x1 ≠ 0), Q ([(0, 0)], zu s 172 9 (w32 (1 + (w32 (16 * (s 172 5)))))))
    (h1 : ∀ (g1 : x2 = 0), ∀ (g3 : s 172 6 ≠ 3), ∀ (g13 : s 172 6 ≠ 1), ∀ (g18 : x1 = 0), Q ([(0, 0)], zu s 172 9 (w32 (1 + (w32 (16 * (s 172 5)))))))
    (h2 : ∀ (g1 : x2 = 0), ∀ (g3 : s 172 6 ≠ 3), ∀ (g29 : s 172 6 = 1), ∀ (g30 : zcmpL (s 172 7) 1111 ≠ 0), ∀ (g34 : zcmpL (s 172 7) 423 ≠ 0), ∀ (g37 : x1 ≠ 0), Q ([(0, 0)], zu s 172 9 (w32 (1 + (w32 (16 * (s 172 5)))))))
    (h3 : ∀ (g1 : x2 = 0), ∀ (g3 : s 172 6 ≠ 3), ∀ (g29 : s 172 6 = 1), ∀ (g30 : zcmpL (s 172 7) 1111 ≠ 0), ∀ (g34 : zcmpL (s 172 7) 423 ≠ 0), ∀ (g37 : x1 = 0), Q ([(0, 0)], zu s 172 9 (w32 (1 + (w32 (16 * (s 172 5)))))))
    (h4 : ∀ (g1 : x2 = 0), ∀ (g3 : s 172 6 ≠ 3), ∀ (g29 : s 172 6 = 1), ∀ (g30 : zcmpL (s 172 7) 1111 ≠ 0), ∀ (g47 : zcmpL (s 172 7) 423 = 0), ∀ m, m < n → zC m 1493 [(((172 : Nat) : Int), 0), (27, 0)] s (fun p => zT (zE 1496) (Pt PX11_reads) m (345, [((172 : Nat) : Int), x1, x2, x3, x4, x5], p.1 ++ [], p.2) Q))
    (h5 : ∀ (g1 : x2 = 0), ∀ (g3 : s 172 6 ≠ 3), ∀ (g55 : s 172 6 = 1), ∀ (g56 : zcmpL (s 172 7) 1111 = 0), ∀ m, m < n → zC m 1493 [(((172 : Nat) : Int), 0), (26, 0)] s (fun p => zT (zE 1496) (Pt PX11_reads) m (345, [((172 : Nat) : Int), x1, x2, x3, x4, x5], p.1 ++ [], p.2) Q))
    (h6 : ∀ (g1 : x2 = 0), ∀ (g72 : s 172 6 = 3), ∀ (g73 : s 173 ((s 172 5).toNat) ≠ 43), ∀ (g77 : s 173 ((s 172 5).toNat) ≠ 45), ∀ (g81 : s 173 ((s 172 5).toNat) ≠ 42), ∀ (g85 : s 173 ((s 172 5).toNat) ≠ 60), ∀ (g89 : s 173 ((s 172 5).toNat) ≠ 61), ∀ (g91 : s 172 6 ≠ 1), ∀ (g97 : s 173 ((s 172 5).toNat) ≠ 41), ∀ (g98 : x1 ≠ 0), Q ([(0, 0)], zu s 172 9 (w32 (1 + (w32 (16 * (s 172 5)))))))
    (h7 : ∀ (g1 : x2 = 0), ∀ (g72 : s 172 6 = 3), ∀ (g73 : s 173 ((s 172 5).toNat) ≠ 43), ∀ (g77 : s 173 ((s 172 5).toNat) ≠ 45), ∀ (g81 : s 173 ((s 172 5).toNat) ≠ 42), ∀ (g85 : s 173 ((s 172 5).toNat) ≠ 60), ∀ (g89 : s 173 ((s 172 5).toNat) ≠ 61), ∀ (g91 : s 172 6 ≠ 1), ∀ (g97 : s 173 ((s 172 5).toNat) ≠ 41), ∀ (g98 : x1 = 0), ∀ (g103 : s 173 ((s 172 5).toNat) ≠ 59), Q ([(0, 0)], zu s 172 9 (w32 (1 + (w32 (16 * (s 172 5)))))))
    (h8 : ∀ (g1 : x2 = 0), ∀ (g72 : s 172 6 = 3), ∀ (g73 : s 173 ((s 172 5).toNat) ≠ 43), ∀ (g77 : s 173 ((s 172 5).toNat) ≠ 45), ∀ (g81 : s 173 ((s 172 5).toNat) ≠ 42), ∀ (g85 : s 173 ((s 172 5).toNat) ≠ 60), ∀ (g89 : s 173 ((s 172 5).toNat) ≠ 61), ∀ (g91 : s 172 6 ≠ 1), ∀ (g97 : s 173 ((s 172 5).toNat) ≠ 41), ∀ (g98 : x1 = 0), ∀ (g106 : s 173 ((s 172 5).toNat) = 59), ∀ m, m < n → zC m 1482 [(((172 : Nat) : Int), 0)] s (fun p => zT (zE 1496) (Pt PX11_reads) m (416, [((172 : Nat) : Int), x1, x2, x3, x4, x5], p.1 ++ [], p.2) Q))
    (h9 : ∀ (g1 : x2 = 0), ∀ (g72 : s 172 6 = 3), ∀ (g73 : s 173 ((s 172 5).toNat) ≠ 43), ∀ (g77 : s 173 ((s 172 5).toNat) ≠ 45), ∀ (g81 : s 173 ((s 172 5).toNat) ≠ 42), ∀ (g85 : s 173 ((s 172 5).toNat) ≠ 60), ∀ (g89 : s 173 ((s 172 5).toNat) ≠ 61), ∀ (g91 : s 172 6 ≠ 1), ∀ (g109 : s 173 ((s 172 5).toNat) = 41), ∀ (g110 : x1 ≤ 0), ∀ (g111 : x1 ≠ 0), Q ([(0, 0)], zu s 172 9 (w32 (1 + (w32 (16 * (s 172 5)))))))
    (h10 : ∀ (g1 : x2 = 0), ∀ (g72 : s 172 6 = 3), ∀ (g73 : s 173 ((s 172 5).toNat) ≠ 43), ∀ (g77 : s 173 ((s 172 5).toNat) ≠ 45), ∀ (g81 : s 173 ((s 172 5).toNat) ≠ 42), ∀ (g85 : s 173 ((s 172 5).toNat) ≠ 60), ∀ (g89 : s 173 ((s 172 5).toNat) ≠ 61), ∀ (g91 : s 172 6 ≠ 1), ∀ (g109 : s 173 ((s 172 5).toNat) = 41), ∀ (g110 : x1 ≤ 0), ∀ (g111 : x1 = 0), ∀ (g116 : s 173 ((s 172 5).toNat) ≠ 59), Q ([(0, 0)], zu s 172 9 (w32 (1 + (w32 (16 * (s 172 5)))))))
    (h11 : ∀ (g1 : x2 = 0), ∀ (g72 : s 172 6 = 3), ∀ (g73 : s 173 ((s 172 5).toNat) ≠ 43), ∀ (g77 : s 173 ((s 172 5).toNat) ≠ 45), ∀ (g81 : s 173 ((s 172 5).toNat) ≠ 42), ∀ (g85 : s 173 ((s 172 5).toNat) ≠ 60), ∀ (g89 : s 173 ((s 172 5).toNat) ≠ 61), ∀ (g91 : s 172 6 ≠ 1), ∀ (g109 : s 173 ((s 172 5).toNat) = 41), ∀ (g110 : 0 < x1), ∀ m, m < n → zC m 1493 [(((172 : Nat) : Int), 0), (29, 0)] s (fun p => zT (zE 1496) (Pt PX11_reads) m (376, [((172 : Nat) : Int), x1, x2, x3, x4, x5], p.1 ++ [], p.2) Q))
    (h12 : ∀ (g1 : x2 = 0), ∀ (g72 : s 172 6 = 3), ∀ (g73 : s 173 ((s 172 5).toNat) ≠ 43), ∀ (g77 : s 173 ((s 172 5).toNat) ≠ 45), ∀ (g81 : s 173 ((s 172 5).toNat) ≠ 42), ∀ (g85 : s 173 ((s 172 5).toNat) ≠ 60), ∀ (g126 : s 173 ((s 172 5).toNat) = 61), ∀ (g127 : s 196 x1.toNat ≠ 0), ∀ (g129 : s 172 6 ≠ 1), ∀ (g135 : s 173 ((s 172 5).toNat) ≠ 41), ∀ (g136 : x1 ≠ 0), Q ([(0, 0)], zu s 172 9 (w32 (1 + (w32 (16 * (s 172 5)))))))
    (h13 : ∀ (g1 : x2 = 0), ∀ (g72 : s 172 6 = 3), ∀ (g73 : s 173 ((s 172 5).toNat) ≠ 43), ∀ (g77 : s 173 ((s 172 5).toNat) ≠ 45), ∀ (g81 : s 173 ((s 172 5).toNat) ≠ 42), ∀ (g85 : s 173 ((s 172 5).toNat) ≠ 60), ∀ (g126 : s 173 ((s 172 5).toNat) = 61), ∀ (g127 : s 196 x1.toNat ≠ 0), ∀ (g129 : s 172 6 ≠ 1), ∀ (g135 : s 173 ((s 172 5).toNat) ≠ 41), ∀ (g136 : x1 = 0), ∀ (g141 : s 173 ((s 172 5).toNat) ≠ 59), Q ([(0, 0)], zu s 172 9 (w32 (1 + (w32 (16 * (s 172 5)))))))
    (h14 : ∀ (g1 : x2 = 0), ∀ (g72 : s 172 6 = 3), ∀ (g73 : s 173 ((s 172 5).toNat) ≠ 43), ∀ (g77 : s 173 ((s 172 5).toNat) ≠ 45), ∀ (g81 : s 173 ((s 172 5).toNat) ≠ 42), ∀ (g85 : s 173 ((s 172 5).toNat) ≠ 60), ∀ (g126 : s 173 ((s 172 5).toNat) = 61), ∀ (g127 : s 196 x1.toNat = 0), ∀ m, m < n → zC m 1493 [(((172 : Nat) : Int), 0), (25, 0)] s (fun p => zT (zE 1496) (Pt PX11_reads) m (292, [((172 : Nat) : Int), x1, x2, x3, x4, x5], p.1 ++ [], p.2) Q))
    (h15 : ∀ (g1 : x2 = 0), ∀ (g72 : s 172 6 = 3), ∀ (g73 : s 173 ((s 172 5).toNat) ≠ 43), ∀ (g77 : s 173 ((s 172 5).toNat) ≠ 45), ∀ (g81 : s 173 ((s 172 5).toNat) ≠ 42), ∀ (g159 : s 173 ((s 172 5).toNat) = 60), ∀ (g160 : s 196 x1.toNat ≠ 0), ∀ (g162 : s 172 6 ≠ 1), ∀ (g168 : s 173 ((s 172 5).toNat) ≠ 41), ∀ (g169 : x1 ≠ 0), Q ([(0, 0)], zu s 172 9 (w32 (1 + (w32 (16 * (s 172 5)))))))
    (h16 : ∀ (g1 : x2 = 0), ∀ (g72 : s 172 6 = 3), ∀ (g73 : s 173 ((s 172 5).toNat) ≠ 43), ∀ (g77 : s 173 ((s 172 5).toNat) ≠ 45), ∀ (g81 : s 173 ((s 172 5).toNat) ≠ 42), ∀ (g159 : s 173 ((s 172 5).toNat) = 60), ∀ (g160 : s 196 x1.toNat ≠ 0), ∀ (g162 : s 172 6 ≠ 1), ∀ (g168 : s 173 ((s 172 5).toNat) ≠ 41), ∀ (g169 : x1 = 0), ∀ (g174 : s 173 ((s 172 5).toNat) ≠ 59), Q ([(0, 0)], zu s 172 9 (w32 (1 + (w32 (16 * (s 172 5)))))))
    (h17 : ∀ (g1 : x2 = 0), ∀ (g72 : s 172 6 = 3), ∀ (g73 : s 173 ((s 172 5).toNat) ≠ 43), ∀ (g77 : s 173 ((s 172 5).toNat) ≠ 45), ∀ (g81 : s 173 ((s 172 5).toNat) ≠ 42), ∀ (g159 : s 173 ((s 172 5).toNat) = 60), ∀ (g160 : s 196 x1.toNat = 0), ∀ m, m < n → zC m 1493 [(((172 : Nat) : Int), 0), (24, 0)] s (fun p => zT (zE 1496) (Pt PX11_reads) m (292, [((172 : Nat) : Int), x1, x2, x3, x4, x5], p.1 ++ [], p.2) Q))
    (h18 : ∀ (g1 : x2 = 0), ∀ (g72 : s 172 6 = 3), ∀ (g73 : s 173 ((s 172 5).toNat) ≠ 43), ∀ (g77 : s 173 ((s 172 5).toNat) ≠ 45), ∀ (g192 : s 173 ((s 172 5).toNat) = 42), ∀ m, m < n → zC m 1493 [(((172 : Nat) : Int), 0), (22, 0)] s (fun p => zT (zE 1496) (Pt PX11_reads) m (240, [((172 : Nat) : Int), x1, x2, x3, x4, x5], p.1 ++ [], p.2) Q))
    (h19 : ∀ (g1 : x2 = 0), ∀ (g72 : s 172 6 = 3), ∀ (g73 : s 173 ((s 172 5).toNat) ≠ 43), ∀ (g207 : s 173 ((s 172 5).toNat) = 45), ∀ m, m < n → zC m 1493 [(((172 : Nat) : Int), 0), (21, 0)] s (fun p => zT (zE 1496) (Pt PX11_reads) m (240, [((172 : Nat) : Int), x1, x2, x3, x4, x5], p.1 ++ [], p.2) Q))
    (h20 : ∀ (g1 : x2 = 0), ∀ (g221 : s 172 6 = 3), ∀ (g222 : s 173 ((s 172 5).toNat) = 43), ∀ m, m < n → zC m 1493 [(((172 : Nat) : Int), 0), (20, 0)] s (fun p => zT (zE 1496) (Pt PX11_reads) m (240, [((172 : Nat) : Int), x1, x2, x3, x4, x5], p.1 ++ [], p.2) Q))
    (h21 : ∀ (g1 : x2 ≠ 0), ∀ (g231 : s 172 6 = 1), ∀ (g232 : zcmpL (s 172 7) 164222 ≠ 0), ∀ (g233 : zcmpL (s 172 7) 205811839 ≠ 0), ∀ (g234 : zcmpL (s 172 7) 149099 ≠ 0), ∀ (g238 : zcmpL (s 172 7) 10631 ≠ 0), ∀ (g240 : s 172 6 ≠ 3), Q ([(0, 0)], zu s 172 9 (w32 (1 + (w32 (16 * (s 172 5)))))))
    (h22 : ∀ (g1 : x2 ≠ 0), ∀ (g231 : s 172 6 = 1), ∀ (g232 : zcmpL (s 172 7) 164222 ≠ 0), ∀ (g233 : zcmpL (s 172 7) 205811839 ≠ 0), ∀ (g234 : zcmpL (s 172 7) 149099 ≠ 0), ∀ (g245 : zcmpL (s 172 7) 10631 = 0), ∀ (g247 : s 172 6 ≠ 3), ∀ (g248 : x1 ≠ 5), ∀ m, m < n → zC m 1493 [(((172 : Nat) : Int), 0), (30, 0)] s (fun p => zT (zE 1496) (Pt PX11_reads) m (102, [((172 : Nat) : Int), x1, x2, 0, 1, 0], p.1 ++ [], p.2) Q))
    (h23 : ∀ (g1 : x2 ≠ 0), ∀ (g231 : s 172 6 = 1), ∀ (g232 : zcmpL (s 172 7) 164222 ≠ 0), ∀ (g233 : zcmpL (s 172 7) 205811839 ≠ 0), ∀ (g234 : zcmpL (s 172 7) 149099 ≠ 0), ∀ (g245 : zcmpL (s 172 7) 10631 = 0), ∀ (g247 : s 172 6 ≠ 3), ∀ (g248 : x1 = 5), Q ([(0, 0)], zu s 172 9 (w32 (5 + (w32 (16 * (s 172 5)))))))
    (h24 : ∀ (g1 : x2 ≠ 0), ∀ (g253 : s 172 6 = 1), ∀ (g254 : zcmpL (s 172 7) 164222 ≠ 0), ∀ (g255 : zcmpL (s 172 7) 205811839 ≠ 0), ∀ (g256 : zcmpL (s 172 7) 149099 = 0), ∀ (g260 : zcmpL (s 172 7) 10631 ≠ 0), ∀ (g262 : s 172 6 ≠ 3), ∀ (g263 : x1 ≠ 5), ∀ m, m < n → zC m 1493 [(((172 : Nat) : Int), 0), (3, 0)] s (fun p => zT (zE 1496) (Pt PX11_reads) m (150, [((172 : Nat) : Int), x1, x2, 3, 0, 0], p.1 ++ [], p.2) Q))
    (h25 : ∀ (g1 : x2 ≠ 0), ∀ (g253 : s 172 6 = 1), ∀ (g254 : zcmpL (s 172 7) 164222 ≠ 0), ∀ (g255 : zcmpL (s 172 7) 205811839 ≠ 0), ∀ (g256 : zcmpL (s 172 7) 149099 = 0), ∀ (g260 : zcmpL (s 172 7) 10631 ≠ 0), ∀ (g262 : s 172 6 ≠ 3), ∀ (g263 : x1 = 5), Q ([(0, 0)], zu s 172 9 (w32 (5 + (w32 (16 * (s 172 5)))))))
    (h26 : ∀ (g1 : x2 ≠ 0), ∀ (g253 : s 172 6 = 1), ∀ (g254 : zcmpL (s 172 7) 164222 ≠ 0), ∀ (g255 : zcmpL (s 172 7) 205811839 ≠ 0), ∀ (g256 : zcmpL (s 172 7) 149099 = 0), ∀ (g269 : zcmpL (s 172 7) 10631 = 0), ∀ (g271 : s 172 6 ≠ 3), ∀ (g272 : x1 ≠ 5), ∀ m, m < n → zC m 1493 [(((172 : Nat) : Int), 0), (30, 0)] s (fun p => zT (zE 1496) (Pt PX11_reads) m (102, [((172 : Nat) : Int), x1, x2, 3, 1, 0], p.1 ++ [], p.2) Q))
    (h27 : ∀ (g1 : x2 ≠ 0), ∀ (g253 : s 172 6 = 1), ∀ (g254 : zcmpL (s 172 7) 164222 ≠ 0), ∀ (g255 : zcmpL (s 172 7) 205811839 ≠ 0), ∀ (g256 : zcmpL (s 172 7) 149099 = 0), ∀ (g269 : zcmpL (s 172 7) 10631 = 0), ∀ (g271 : s 172 6 ≠ 3), ∀ (g272 : x1 = 5), Q ([(0, 0)], zu s 172 9 (w32 (5 + (w32 (16 * (s 172 5)))))))
    (h28 : ∀ (g1 : x2 ≠ 0), ∀ (g277 : s 172 6 = 1), ∀ (g278 : zcmpL (s 172 7) 164222 ≠ 0), ∀ (g279 : zcmpL (s 172 7) 205811839 = 0), ∀ (g283 : zcmpL (s 172 7) 10631 ≠ 0), ∀ (g285 : s 172 6 ≠ 3), ∀ (g286 : x1 ≠ 5), ∀ m, m < n → zC m 1493 [(((172 : Nat) : Int), 0), (2, 0)] s (fun p => zT (zE 1496) (Pt PX11_reads) m (150, [((172 : Nat) : Int), x1, x2, 2, 0, 0], p.1 ++ [], p.2) Q))
    (h29 : ∀ (g1 : x2 ≠ 0), ∀ (g277 : s 172 6 = 1), ∀ (g278 : zcmpL (s 172 7) 164222 ≠ 0), ∀ (g279 : zcmpL (s 172 7) 205811839 = 0), ∀ (g283 : zcmpL (s 172 7) 10631 ≠ 0), ∀ (g285 : s 172 6 ≠ 3), ∀ (g286 : x1 = 5), Q ([(0, 0)], zu s 172 9 (w32 (5 + (w32 (16 * (s 172 5)))))))
    (h30 : ∀ (g1 : x2 ≠ 0), ∀ (g277 : s 172 6 = 1), ∀ (g278 : zcmpL (s 172 7) 164222 ≠ 0), ∀ (g279 : zcmpL (s 172 7) 205811839 = 0), ∀ (g292 : zcmpL (s 172 7) 10631 = 0), ∀ (g294 : s 172 6 ≠ 3), ∀ (g295 : x1 ≠ 5), ∀ m, m < n → zC m 1493 [(((172 : Nat) : Int), 0), (30, 0)] s (fun p => zT (zE 1496) (Pt PX11_reads) m (102, [((172 : Nat) : Int), x1, x2, 2, 1, 0], p.1 ++ [], p.2) Q))
    (h31 : ∀ (g1 : x2 ≠ 0), ∀ (g277 : s 172 6 = 1), ∀ (g278 : zcmpL (s 172 7) 164222 ≠ 0), ∀ (g279 : zcmpL (s 172 7) 205811839 = 0), ∀ (g292 : zcmpL (s 172 7) 10631 = 0), ∀ (g294 : s 172 6 ≠ 3), ∀ (g295 : x1 = 5), Q ([(0, 0)], zu s 172 9 (w32 (5 + (w32 (16 * (s 172 5)))))))
    (h32 : ∀ (g1 : x2 ≠ 0), ∀ (g300 : s 172 6 = 1), ∀ (g301 : zcmpL (s 172 7) 164222 = 0), ∀ (g305 : zcmpL (s 172 7) 10631 ≠ 0), ∀ (g307 : s 172 6 ≠ 3), ∀ (g308 : x1 ≠ 5), ∀ m, m < n → zC m 1493 [(((172 : Nat) : Int), 0), (1, 0)] s (fun p => zT (zE 1496) (Pt PX11_reads) m (150, [((172 : Nat) : Int), x1, x2, 1, 0, 0], p.1 ++ [], p.2) Q))
    (h33 : ∀ (g1 : x2 ≠ 0), ∀ (g300 : s 172 6 = 1), ∀ (g301 : zcmpL (s 172 7) 164222 = 0), ∀ (g305 : zcmpL (s 172 7) 10631 ≠ 0), ∀ (g307 : s 172 6 ≠ 3), ∀ (g308 : x1 = 5), Q ([(0, 0)], zu s 172 9 (w32 (5 + (w32 (16 * (s 172 5)))))))
    (h34 : ∀ (g1 : x2 ≠ 0), ∀ (g300 : s 172 6 = 1), ∀ (g301 : zcmpL (s 172 7) 164222 = 0), ∀ (g314 : zcmpL (s 172 7) 10631 = 0), ∀ (g316 : s 172 6 ≠ 3), ∀ (g317 : x1 ≠ 5), ∀ m, m < n → zC m 1493 [(((172 : Nat) : Int), 0), (30, 0)] s (fun p => zT (zE 1496) (Pt PX11_reads) m (102, [((172 : Nat) : Int), x1, x2, 1, 1, 0], p.1 ++ [], p.2) Q))
    (h35 : ∀ (g1 : x2 ≠ 0), ∀ (g300 : s 172 6 = 1), ∀ (g301 : zcmpL (s 172 7) 164222 = 0), ∀ (g314 : zcmpL (s 172 7) 10631 = 0), ∀ (g316 : s 172 6 ≠ 3), ∀ (g317 : x1 = 5), Q ([(0, 0)], zu s 172 9 (w32 (5 + (w32 (16 * (s 172 5)))))))
    (h36 : ∀ (g1 : x2 ≠ 0), ∀ (g322 : s 172 6 ≠ 1), ∀ (g326 : s 172 6 ≠ 3), ∀ (g327 : s 172 6 = 2), ∀ (g328 : x1 ≠ 5), ∀ m, m < n → zC m 1493 [(((172 : Nat) : Int), 0), (w32 (100 + (s 172 8)), 0)] s (fun p => zT (zE 1496) (Pt PX11_reads) m (150, [((172 : Nat) : Int), x1, x2, 0, 0, 0], p.1 ++ [], p.2) Q))
    (h37 : ∀ (g1 : x2 ≠ 0), ∀ (g322 : s 172 6 ≠ 1), ∀ (g326 : s 172 6 ≠ 3), ∀ (g327 : s 172 6 = 2), ∀ (g328 : x1 = 5), Q ([(0, 0)], zu s 172 9 (w32 (5 + (w32 (16 * (s 172 5)))))))
    (h38 : ∀ (g1 : x2 ≠ 0), ∀ (g322 : s 172 6 ≠ 1), ∀ (g326 : s 172 6 ≠ 3), ∀ (g327 : s 172 6 ≠ 2), Q ([(0, 0)], zu s 172 9 (w32 (1 + (w32 (16 * (s 172 5)))))))
    (h39 : ∀ (g1 : x2 ≠ 0), ∀ (g322 : s 172 6 ≠ 1), ∀ (g332 : s 172 6 = 3), ∀ (g333 : s 173 ((s 172 5).toNat) ≠ 40), Q ([(0, 0)], zu s 172 9 (w32 (1 + (w32 (16 * (s 172 5)))))))
    (h40 : ∀ (g1 : x2 ≠ 0), ∀ (g322 : s 172 6 ≠ 1), ∀ (g335 : s 172 6 = 3), ∀ (g336 : s 173 ((s 172 5).toNat) = 40), ∀ (g337 : x1 ≠ 5), ∀ m, m < n → zC m 1493 [(((172 : Nat) : Int), 0), (28, 0)] s (fun p => zT (zE 1496) (Pt PX11_reads) m (102, [((172 : Nat) : Int), x1, x2, 0, 0, 1], p.1 ++ [], p.2) Q))
    (h41 : ∀ (g1 : x2 ≠ 0), ∀ (g322 : s 172 6 ≠ 1), ∀ (g335 : s 172 6 = 3), ∀ (g336 : s 173 ((s 172 5).toNat) = 40), ∀ (g337 : x1 = 5), Q ([(0, 0)], zu s 172 9 (w32 (5 + (w32 (16 * (s 172 5))))))) : zT (zE 1496) (Pt PX11_reads) n (11, [((172 : Nat) : Int), x1, x2, x3, x4, x5], [], s) Q := by
  refine tL x2 0 rfl rfl rfl ?_
  refine tI0 rfl (fun g1 _ l1 => zT_le ?_ (Nat.le_of_lt l1)) (fun g1 _ l1 => zT_le ?_ (Nat.le_of_lt l1))
  · refine tL ((172 : Nat) : Int) 0 rfl rfl rfl ?_
    refine tK rfl ?_
    refine tCall [(((172 : Nat) : Int), 0), (43, 0)] [] rfl rfl rfl (fun m2 l2 => c_X11_isSign (b_X11_isSign_0 43 s ?_ ?_ ?_))
    · intro g3
      show zT (zE 1496) (Pt PX11_reads) m2 (185, [((172 : Nat) : Int), x1, x2, x3, x4, x5], [(0, 0)], s) Q
      refine tI1 rfl (fun g _ l => (absurd g (by decide))) (fun g _ l => zT_le ?_ (Nat.le_of_lt l))
      refine tL ((172 : Nat) : Int) 0 rfl rfl rfl ?_
      refine tK rfl ?_
      refine tCall [(((172 : Nat) : Int), 0), (45, 0)] [] rfl rfl rfl (fun m4 l4 => c_X11_isSign (b_X11_isSign_0 45 s ?_ ?_ ?_))
      · intro g5
        show zT (zE 1496) (Pt PX11_reads) m4 (194, [((172 : Nat) : Int), x1, x2, x3, x4, x5], [(0, 0)], s) Q
        refine tI1 rfl (fun g _ l => (absurd g (by decide))) (fun g _ l => zT_le ?_ (Nat.le_of_lt l))
        refine tL ((172 : Nat) : Int) 0 rfl rfl rfl ?_
        refine tK rfl ?_
        refine tCall [(((172 : Nat) : Int), 0), (42, 0)] [] rfl rfl rfl (fun m6 l6 => c_X11_isSign (b_X11_isSign_0 42 s ?_ ?_ ?_))
        · intro g7
          show zT (zE 1496) (Pt PX11_reads) m6 (203, [((172 : Nat) : Int), x1, x2, x3, x4, x5], [(0, 0)], s) Q
          refine tI0 rfl (fun g _ l => zT_le ?_ (Nat.le_of_lt l)) (fun g _ l => (absurd g (by decide)))
          refine tL ((172 : Nat) : Int) 0 rfl rfl rfl ?_
          refine tK rfl ?_
          refine tCall [(((172 : Nat) : Int), 0), (60, 0)] [] rfl rfl rfl (fun m8 l8 => c_X11_isSign (b_X11_isSign_0 60 s ?_ ?_ ?_))
          · intro g9
            show zT (zE 1496) (Pt PX11_reads) m8 (251, [((172 : Nat) : Int), x1, x2, x3, x4, x5], [(0, 0)], s) Q
            refine tI1 rfl (fun g _ l => (absurd g (by decide))) (fun g _ l => zT_le ?_ (Nat.le_of_lt l))
            refine tL ((172 : Nat) : Int) 0 rfl rfl rfl ?_
            refine tK rfl ?_
            refine tCall [(((172 : Nat) : Int), 0), (61, 0)] [] rfl rfl rfl (fun m10 l10 => c_X11_isSign (b_X11_isSign_0 61 s ?_ ?_ ?_))
            · intro g11
              show zT (zE 1496) (Pt PX11_reads) m10 (260, [((172 : Nat) : Int), x1, x2, x3, x4, x5], [(0, 0)], s) Q
              refine tI0 rfl (fun g _ l => zT_le ?_ (Nat.le_of_lt l)) (fun g _ l => (absurd g (by decide)))
              refine tL ((172 : Nat) : Int) 0 rfl rfl rfl ?_
              refine tKL rfl ?_
              refine tCall [(((172 : Nat) : Int), 0), (1111, 1)] [] rfl rfl rfl (fun m12 l12 => c_X11_isWord (b_X11_isWord_0 1111 0 s ?_ ?_ ?_))
              · intro g13
                show zT (zE 1496) (Pt PX11_reads) m12 (311, [((172 : Nat) : Int), x1, x2, x3, x4, x5], [(0, 0)], s) Q
                refine tI1 rfl (fun g _ l => (absurd g (by decide))) (fun g _ l => zT_le ?_ (Nat.le_of_lt l))
                refine tL ((172 : Nat) : Int) 0 rfl rfl rfl ?_
                refine tKL rfl ?_
                refine tCall [(((172 : Nat) : Int), 0), (423, 1)] [] rfl rfl rfl (fun m14 l14 => c_X11_isWord (b_X11_isWord_0 423 0 s ?_ ?_ ?_))
                · intro g15
                  show zT (zE 1496) (Pt PX11_reads) m14 (321, [((172 : Nat) : Int), x1, x2, x3, x4, x5], [(0, 0)], s) Q
                  refine tI0 rfl (fun g _ l => zT_le ?_ (Nat.le_of_lt l)) (fun g _ l => (absurd g (by decide)))
                  refine tL ((172 : Nat) : Int) 0 rfl rfl rfl ?_
                  refine tK rfl ?_
                  refine tCall [(((172 : Nat) : Int), 0), (41, 0)] [] rfl rfl rfl (fun m16 l16 => c_X11_isSign (b_X11_isSign_0 41 s ?_ ?_ ?_))
                  · intro g17
                    show zT (zE 1496) (Pt PX11_reads) m16 (363, [((172 : Nat) : Int), x1, x2, x3, x4, x5], [(0, 0)], s) Q
                    refine tI0 rfl (fun g _ l => zT_le ?_ (Nat.le_of_lt l)) (fun g _ l => (absurd g (by decide)))
                    refine tL x1 0 rfl rfl rfl ?_
                    refine tI1 rfl (fun g18 _ l18 => zT_le ?_ (Nat.le_of_lt l18)) (fun g18 _ l18 => zT_le ?_ (Nat.le_of_lt l18))
                    · refine tL ((172 : Nat) : Int) 0 rfl rfl rfl ?_
                      refine tK rfl ?_
                      refine tCall [(((172 : Nat) : Int), 0), (1, 0)] [] rfl rfl rfl (fun m19 l19 => c_X11_fails (b_X11_fails_0 1 s ?_))
                      · show zT (zE 1496) (Pt PX11_reads) m19 (423, [((172 : Nat) : Int), x1, x2, x3, x4, x5], [(0, 0)], zu s 172 9 (w32 (1 + (w32 (16 * (s 172 5)))))) Q
                        exact tR rfl (h0 g1 g3 g13 g18)
                    · refine tL ((172 : Nat) : Int) 0 rfl rfl rfl ?_
                      refine tK rfl ?_
                      refine tCall [(((172 : Nat) : Int), 0), (59, 0)] [] rfl rfl rfl (fun m20 l20 => c_X11_isSign (b_X11_isSign_0 59 s ?_ ?_ ?_))
                      · intro g21
                        show zT (zE 1496) (Pt PX11_reads) m20 (409, [((172 : Nat) : Int), x1, x2, x3, x4, x5], [(0, 0)], s) Q
                        refine tI0 rfl (fun g _ l => zT_le ?_ (Nat.le_of_lt l)) (fun g _ l => (absurd g (by decide)))
                        refine tL ((172 : Nat) : Int) 0 rfl rfl rfl ?_
                        refine tK rfl ?_
                        refine tCall [(((172 : Nat) : Int), 0), (1, 0)] [] rfl rfl rfl (fun m22 l22 => c_X11_fails (b_X11_fails_0 1 s ?_))
                        · show zT (zE 1496) (Pt PX11_reads) m22 (423, [((172 : Nat) : Int), x1, x2, x3, x4, x5], [(0, 0)], zu s 172 9 (w32 (1 + (w32 (16 * (s 172 5)))))) Q
                          exact tR rfl (h1 g1 g3 g13 g18)
                      · exact fun (g23 : s 172 6 = 3) _ => False.elim (by omega)
                      · exact fun (g24 : s 172 6 = 3) _ => False.elim (by omega)
                  · exact fun (g25 : s 172 6 = 3) _ => False.elim (by omega)
                  · exact fun (g26 : s 172 6 = 3) _ => False.elim (by omega)
                · exact fun (g27 : s 172 6 = 1) _ => False.elim (by omega)
                · exact fun (g28 : s 172 6 = 1) _ => False.elim (by omega)
              · intro g29 g30
                show zT (zE 1496) (Pt PX11_reads) m12 (311, [((172 : Nat) : Int), x1, x2, x3, x4, x5], [(0, 0)], s) Q
                refine tI1 rfl (fun g _ l => (absurd g (by decide))) (fun g _ l => zT_le ?_ (Nat.le_of_lt l))
                refine tL ((172 : Nat) : Int) 0 rfl rfl rfl ?_
                refine tKL rfl ?_
                refine tCall [(((172 : Nat) : Int), 0), (423, 1)] [] rfl rfl rfl (fun m31 l31 => c_X11_isWord (b_X11_isWord_0 423 0 s ?_ ?_ ?_))
                · exact fun (g32 : s 172 6 ≠ 1)  => False.elim (by omega)
                · intro g33 g34
                  show zT (zE 1496) (Pt PX11_reads) m31 (321, [((172 : Nat) : Int), x1, x2, x3, x4, x5], [(0, 0)], s) Q
                  refine tI0 rfl (fun g _ l => zT_le ?_ (Nat.le_of_lt l)) (fun g _ l => (absurd g (by decide)))
                  refine tL ((172 : Nat) : Int) 0 rfl rfl rfl ?_
                  refine tK rfl ?_
                  refine tCall [(((172 : Nat) : Int), 0), (41, 0)] [] rfl rfl rfl (fun m35 l35 => c_X11_isSign (b_X11_isSign_0 41 s ?_ ?_ ?_))
                  · intro g36
                    show zT (zE 1496) (Pt PX11_reads) m35 (363, [((172 : Nat) : Int), x1, x2, x3, x4, x5], [(0, 0)], s) Q
                    refine tI0 rfl (fun g _ l => zT_le ?_ (Nat.le_of_lt l)) (fun g _ l => (absurd g (by decide)))
                    refine tL x1 0 rfl rfl rfl ?_
                    refine tI1 rfl (fun g37 _ l37 => zT_le ?_ (Nat.le_of_lt l37)) (fun g37 _ l37 => zT_le ?_ (Nat.le_of_lt l37))
                    · refine tL ((172 : Nat) : Int) 0 rfl rfl rfl ?_
                      refine tK rfl ?_
                      refine tCall [(((172 : Nat) : Int), 0), (1, 0)] [] rfl rfl rfl (fun m38 l38 => c_X11_fails (b_X11_fails_0 1 s ?_))
                      · show zT (zE 1496) (Pt PX11_reads) m38 (423, [((172 : Nat) : Int), x1, x2, x3, x4, x5], [(0, 0)], zu s 172 9 (w32 (1 + (w32 (16 * (s 172 5)))))) Q
                        exact tR rfl (h2 g1 g3 g29 g30 g34 g37)
                    · refine tL ((172 : Nat) : Int) 0 rfl rfl rfl ?_
                      refine tK rfl ?_
                      refine tCall [(((172 : Nat) : Int), 0), (59, 0)] [] rfl rfl rfl (fun m39 l39 => c_X11_isSign (b_X11_isSign_0 59 s ?_ ?_ ?_))
                      · intro g40
                        show zT (zE 1496) (Pt PX11_reads) m39 (409, [((172 : Nat) : Int), x1, x2, x3, x4, x5], [(0, 0)], s) Q
                        refine tI0 rfl (fun g _ l => zT_le ?_ (Nat.le_of_lt l)) (fun g _ l => (absurd g (by decide)))
                        refine tL ((172 : Nat) : Int) 0 rfl rfl rfl ?_
                        refine tK rfl ?_
                        refine tCall [(((172 : Nat) : Int), 0), (1, 0)] [] rfl rfl rfl (fun m41 l41 => c_X11_fails (b_X11_fails_0 1 s ?_))
                        · show zT (zE 1496) (Pt PX11_reads) m41 (423, [((172 : Nat) : Int), x1, x2, x3, x4, x5], [(0, 0)], zu s 172 9 (w32 (1 + (w32 (16 * (s 172 5)))))) Q
                          exact tR rfl (h3 g1 g3 g29 g30 g34 g37)
                      · exact fun (g42 : s 172 6 = 3) _ => False.elim (by omega)
                      · exact fun (g43 : s 172 6 = 3) _ => False.elim (by omega)
                  · exact fun (g44 : s 172 6 = 3) _ => False.elim (by omega)
                  · exact fun (g45 : s 172 6 = 3) _ => False.elim (by omega)
                · intro g46 g47
                  show zT (zE 1496) (Pt PX11_reads) m31 (321, [((172 : Nat) : Int), x1, x2, x3, x4, x5], [(1, 0)], s) Q
                  refine tI0 rfl (fun g _ l => (absurd g (by decide))) (fun g _ l => zT_le ?_ (Nat.le_of_lt l))
                  refine tL ((172 : Nat) : Int) 0 rfl rfl rfl ?_
                  refine tL ((172 : Nat) : Int) 0 rfl rfl rfl ?_
                  refine tKL rfl ?_
                  refine tCall [(((172 : Nat) : Int), 0), (1111, 1)] [(((172 : Nat) : Int), 0)] rfl rfl rfl (fun m48 l48 => c_X11_isWord (b_X11_isWord_0 1111 0 s ?_ ?_ ?_))
                  · exact fun (g49 : s 172 6 ≠ 1)  => False.elim (by omega)
                  · intro g50 g51
                    show zT (zE 1496) (Pt PX11_reads) m48 (332, [((172 : Nat) : Int), x1, x2, x3, x4, x5], [(0, 0), (((172 : Nat) : Int), 0)], s) Q
                    refine tI0 rfl (fun g _ l => zT_le ?_ (Nat.le_of_lt l)) (fun g _ l => (absurd g (by decide)))
                    refine tK rfl ?_
                    exact tCall [(((172 : Nat) : Int), 0), (27, 0)] [] rfl rfl rfl (fun m l => h4 g1 g3 g29 g30 g47 m (Nat.lt_of_lt_of_le l (Nat.le_trans (Nat.le_of_lt l48) (Nat.le_trans (Nat.le_of_lt l31) (Nat.le_trans (Nat.le_of_lt l12) (Nat.le_trans (Nat.le_of_lt l10) (Nat.le_trans (Nat.le_of_lt l8) (Nat.le_trans (Nat.le_of_lt l6) (Nat.le_trans (Nat.le_of_lt l4) (Nat.le_trans (Nat.le_of_lt l2) (Nat.le_refl n)))))))))))
                  · exact fun (g53 : s 172 6 = 1) (g54 : zcmpL (s 172 7) 1111 = 0)  => False.elim (by omega)
              · intro g55 g56
                show zT (zE 1496) (Pt PX11_reads) m12 (311, [((172 : Nat) : Int), x1, x2, x3, x4, x5], [(1, 0)], s) Q
                refine tI1 rfl (fun g _ l => zT_le ?_ (Nat.le_of_lt l)) (fun g _ l => (absurd g (by decide)))
                refine tL ((172 : Nat) : Int) 0 rfl rfl rfl ?_
                refine tL ((172 : Nat) : Int) 0 rfl rfl rfl ?_
                refine tKL rfl ?_
                refine tCall [(((172 : Nat) : Int), 0), (1111, 1)] [(((172 : Nat) : Int), 0)] rfl rfl rfl (fun m57 l57 => c_X11_isWord (b_X11_isWord_0 1111 0 s ?_ ?_ ?_))
                · exact fun (g58 : s 172 6 ≠ 1)  => False.elim (by omega)
                · exact fun (g59 : s 172 6 = 1) (g60 : zcmpL (s 172 7) 1111 ≠ 0)  => False.elim (by omega)
                · intro g61 g62
                  show zT (zE 1496) (Pt PX11_reads) m57 (332, [((172 : Nat) : Int), x1, x2, x3, x4, x5], [(1, 0), (((172 : Nat) : Int), 0)], s) Q
                  refine tI0 rfl (fun g _ l => (absurd g (by decide))) (fun g _ l => zT_le ?_ (Nat.le_of_lt l))
                  refine tK rfl ?_
                  refine tG rfl ?_
                  exact tCall [(((172 : Nat) : Int), 0), (26, 0)] [] rfl rfl rfl (fun m l => h5 g1 g3 g55 g56 m (Nat.lt_of_lt_of_le l (Nat.le_trans (Nat.le_of_lt l57) (Nat.le_trans (Nat.le_of_lt l12) (Nat.le_trans (Nat.le_of_lt l10) (Nat.le_trans (Nat.le_of_lt l8) (Nat.le_trans (Nat.le_of_lt l6) (Nat.le_trans (Nat.le_of_lt l4) (Nat.le_trans (Nat.le_of_lt l2) (Nat.le_refl n))))))))))
            · exact fun (g64 : s 172 6 = 3) _ => False.elim (by omega)
            · exact fun (g65 : s 172 6 = 3) _ => False.elim (by omega)
          · exact fun (g66 : s 172 6 = 3) _ => False.elim (by omega)
          · exact fun (g67 : s 172 6 = 3) _ => False.elim (by omega)
        · exact fun (g68 : s 172 6 = 3) _ => False.elim (by omega)
        · exact fun (g69 : s 172 6 = 3) _ => False.elim (by omega)
      · exact fun (g70 : s 172 6 = 3) _ => False.elim (by omega)
      · exact fun (g71 : s 172 6 = 3) _ => False.elim (by omega)
    · intro g72 g73
      show zT (zE 1496) (Pt PX11_reads) m2 (185, [((172 : Nat) : Int), x1, x2, x3, x4, x5], [(0, 0)], s) Q
      refine tI1 rfl (fun g _ l => (absurd g (by decide))) (fun g _ l => zT_le ?_ (Nat.le_of_lt l))
      refine tL ((172 : Nat) : Int) 0 rfl rfl rfl ?_
      refine tK rfl ?_
      refine tCall [(((172 : Nat) : Int), 0), (45, 0)] [] rfl rfl rfl (fun m74 l74 => c_X11_isSign (b_X11_isSign_0 45 s ?_ ?_ ?_))
      · exact fun (g75 : s 172 6 ≠ 3)  => False.elim (by omega)
      · intro g76 g77
        show zT (zE 1496) (Pt PX11_reads) m74 (194, [((172 : Nat) : Int), x1, x2, x3, x4, x5], [(0, 0)], s) Q
        refine tI1 rfl (fun g _ l => (absurd g (by decide))) (fun g _ l => zT_le ?_ (Nat.le_of_lt l))
        refine tL ((172 : Nat) : Int) 0 rfl rfl rfl ?_
        refine tK rfl ?_
        refine tCall [(((172 : Nat) : Int), 0), (42, 0)] [] rfl rfl rfl (fun m78 l78 => c_X11_isSign (b_X11_isSign_0 42 s ?_ ?_ ?_))
        · exact fun (g79 : s 172 6 ≠ 3)  => False.elim (by omega)
        · intro g80 g81
          show zT (zE 1496) (Pt PX11_reads) m78 (203, [((172 : Nat) : Int), x1, x2, x3, x4, x5], [(0, 0)], s) Q
          refine tI0 rfl (fun g _ l => zT_le ?_ (Nat.le_of_lt l)) (fun g _ l => (absurd g (by decide)))
          refine tL ((172 : Nat) : Int) 0 rfl rfl rfl ?_
          refine tK rfl ?_
          refine tCall [(((172 : Nat) : Int), 0), (60, 0)] [] rfl rfl rfl (fun m82 l82 => c_X11_isSign (b_X11_isSign_0 60 s ?_ ?_ ?_))
          · exact fun (g83 : s 172 6 ≠ 3)  => False.elim (by omega)
          · intro g84 g85
            show zT (zE 1496) (Pt PX11_reads) m82 (251, [((172 : Nat) : Int), x1, x2, x3, x4, x5], [(0, 0)], s) Q
            refine tI1 rfl (fun g _ l => (absurd g (by decide))) (fun g _ l => zT_le ?_ (Nat.le_of_lt l))
            refine tL ((172 : Nat) : Int) 0 rfl rfl rfl ?_
            refine tK rfl ?_
            refine tCall [(((172 : Nat) : Int), 0), (61, 0)] [] rfl rfl rfl (fun m86 l86 => c_X11_isSign (b_X11_isSign_0 61 s ?_ ?_ ?_))
            · exact fun (g87 : s 172 6 ≠ 3)  => False.elim (by omega)
            · intro g88 g89
              show zT (zE 1496) (Pt PX11_reads) m86 (260, [((172 : Nat) : Int), x1, x2, x3, x4, x5], [(0, 0)], s) Q
              refine tI0 rfl (fun g _ l => zT_le ?_ (Nat.le_of_lt l)) (fun g _ l => (absurd g (by decide)))
              refine tL ((172 : Nat) : Int) 0 rfl rfl rfl ?_
              refine tKL rfl ?_
              refine tCall [(((172 : Nat) : Int), 0), (1111, 1)] [] rfl rfl rfl (fun m90 l90 => c_X11_isWord (b_X11_isWord_0 1111 0 s ?_ ?_ ?_))
              · intro g91
                show zT (zE 1496) (Pt PX11_reads) m90 (311, [((172 : Nat) : Int), x1, x2, x3, x4, x5], [(0, 0)], s) Q
                refine tI1 rfl (fun g _ l => (absurd g (by decide))) (fun g _ l => zT_le ?_ (Nat.le_of_lt l))
                refine tL ((172 : Nat) : Int) 0 rfl rfl rfl ?_
                refine tKL rfl ?_
                refine tCall [(((172 : Nat) : Int), 0), (423, 1)] [] rfl rfl rfl (fun m92 l92 => c_X11_isWord (b_X11_isWord_0 423 0 s ?_ ?_ ?_))
                · intro g93
                  show zT (zE 1496) (Pt PX11_reads) m92 (321, [((172 : Nat) : Int), x1, x2, x3, x4, x5], [(0, 0)], s) Q
                  refine tI0 rfl (fun g _ l => zT_le ?_ (Nat.le_of_lt l)) (fun g _ l => (absurd g (by decide)))
                  refine tL ((172 : Nat) : Int) 0 rfl rfl rfl ?_
                  refine tK rfl ?_
                  refine tCall [(((172 : Nat) : Int), 0), (41, 0)] [] rfl rfl rfl (fun m94 l94 => c_X11_isSign (b_X11_isSign_0 41 s ?_ ?_ ?_))
                  · exact fun (g95 : s 172 6 ≠ 3)  => False.elim (by omega)
                  · intro g96 g97
                    show zT (zE 1496) (Pt PX11_reads) m94 (363, [((172 : Nat) : Int), x1, x2, x3, x4, x5], [(0, 0)], s) Q
                    refine tI0 rfl (fun g _ l => zT_le ?_ (Nat.le_of_lt l)) (fun g _ l => (absurd g (by decide)))
                    refine tL x1 0 rfl rfl rfl ?_
                    refine tI1 rfl (fun g98 _ l98 => zT_le ?_ (Nat.le_of_lt l98)) (fun g98 _ l98 => zT_le ?_ (Nat.le_of_lt l98))
                    · refine tL ((172 : Nat) : Int) 0 rfl rfl rfl ?_
                      refine tK rfl ?_
                      refine tCall [(((172 : Nat) : Int), 0), (1, 0)] [] rfl rfl rfl (fun m99 l99 => c_X11_fails (b_X11_fails_0 1 s ?_))
                      · show zT (zE 1496) (Pt PX11_reads) m99 (423, [((172 : Nat) : Int), x1, x2, x3, x4, x5], [(0, 0)], zu s 172 9 (w32 (1 + (w32 (16 * (s 172 5)))))) Q
                        exact tR rfl (h6 g1 g72 g73 g77 g81 g85 g89 g91 g97 g98)
                    · refine tL ((172 : Nat) : Int) 0 rfl rfl rfl ?_
                      refine tK rfl ?_
                      refine tCall [(((172 : Nat) : Int), 0), (59, 0)] [] rfl rfl rfl (fun m100 l100 => c_X11_isSign (b_X11_isSign_0 59 s ?_ ?_ ?_))
                      · exact fun (g101 : s 172 6 ≠ 3)  => False.elim (by omega)
                      · intro g102 g103
                        show zT (zE 1496) (Pt PX11_reads) m100 (409, [((172 : Nat) : Int), x1, x2, x3, x4, x5], [(0, 0)], s) Q
                        refine tI0 rfl (fun g _ l => zT_le ?_ (Nat.le_of_lt l)) (fun g _ l => (absurd g (by decide)))
                        refine tL ((172 : Nat) : Int) 0 rfl rfl rfl ?_
                        refine tK rfl ?_
                        refine tCall [(((172 : Nat) : Int), 0), (1, 0)] [] rfl rfl rfl (fun m104 l104 => c_X11_fails (b_X11_fails_0 1 s ?_))
                        · show zT (zE 1496) (Pt PX11_reads) m104 (423, [((172 : Nat) : Int), x1, x2, x3, x4, x5], [(0, 0)], zu s 172 9 (w32 (1 + (w32 (16 * (s 172 5)))))) Q
                          exact tR rfl (h7 g1 g72 g73 g77 g81 g85 g89 g91 g97 g98 g103)
                      · intro g105 g106
                        show zT (zE 1496) (Pt PX11_reads) m100 (409, [((172 : Nat) : Int), x1, x2, x3, x4, x5], [(1, 0)], s) Q
                        refine tI0 rfl (fun g _ l => (absurd g (by decide))) (fun g _ l => zT_le ?_ (Nat.le_of_lt l))
                        refine tL ((172 : Nat) : Int) 0 rfl rfl rfl ?_
                        exact tCall [(((172 : Nat) : Int), 0)] [] rfl rfl rfl (fun m l => h8 g1 g72 g73 g77 g81 g85 g89 g91 g97 g98 g106 m (Nat.lt_of_lt_of_le l (Nat.le_trans (Nat.le_of_lt l100) (Nat.le_trans (Nat.le_of_lt l94) (Nat.le_trans (Nat.le_of_lt l92) (Nat.le_trans (Nat.le_of_lt l90) (Nat.le_trans (Nat.le_of_lt l86) (Nat.le_trans (Nat.le_of_lt l82) (Nat.le_trans (Nat.le_of_lt l78) (Nat.le_trans (Nat.le_of_lt l74) (Nat.le_trans (Nat.le_of_lt l2) (Nat.le_refl n))))))))))))
                  · intro g108 g109
                    show zT (zE 1496) (Pt PX11_reads) m94 (363, [((172 : Nat) : Int), x1, x2, x3, x4, x5], [(1, 0)], s) Q
                    refine tI0 rfl (fun g _ l => (absurd g (by decide))) (fun g _ l => zT_le ?_ (Nat.le_of_lt l))
                    refine tL x1 0 rfl rfl rfl ?_
                    refine tI5 rfl (fun g110 _ l110 => zT_le ?_ (Nat.le_of_lt l110)) (fun g110 _ l110 => zT_le ?_ (Nat.le_of_lt l110))
                    · refine tL x1 0 rfl rfl rfl ?_
                      refine tI1 rfl (fun g111 _ l111 => zT_le ?_ (Nat.le_of_lt l111)) (fun g111 _ l111 => zT_le ?_ (Nat.le_of_lt l111))
                      · refine tL ((172 : Nat) : Int) 0 rfl rfl rfl ?_
                        refine tK rfl ?_
                        refine tCall [(((172 : Nat) : Int), 0), (1, 0)] [] rfl rfl rfl (fun m112 l112 => c_X11_fails (b_X11_fails_0 1 s ?_))
                        · show zT (zE 1496) (Pt PX11_reads) m112 (423, [((172 : Nat) : Int), x1, x2, x3, x4, x5], [(0, 0)], zu s 172 9 (w32 (1 + (w32 (16 * (s 172 5)))))) Q
                          exact tR rfl (h9 g1 g72 g73 g77 g81 g85 g89 g91 g109 g110 g111)
                      · refine tL ((172 : Nat) : Int) 0 rfl rfl rfl ?_
                        refine tK rfl ?_
                        refine tCall [(((172 : Nat) : Int), 0), (59, 0)] [] rfl rfl rfl (fun m113 l113 => c_X11_isSign (b_X11_isSign_0 59 s ?_ ?_ ?_))
                        · exact fun (g114 : s 172 6 ≠ 3)  => False.elim (by omega)
                        · intro g115 g116
                          show zT (zE 1496) (Pt PX11_reads) m113 (409, [((172 : Nat) : Int), x1, x2, x3, x4, x5], [(0, 0)], s) Q
                          refine tI0 rfl (fun g _ l => zT_le ?_ (Nat.le_of_lt l)) (fun g _ l => (absurd g (by decide)))
                          refine tL ((172 : Nat) : Int) 0 rfl rfl rfl ?_
                          refine tK rfl ?_
                          refine tCall [(((172 : Nat) : Int), 0), (1, 0)] [] rfl rfl rfl (fun m117 l117 => c_X11_fails (b_X11_fails_0 1 s ?_))
                          · show zT (zE 1496) (Pt PX11_reads) m117 (423, [((172 : Nat) : Int), x1, x2, x3, x4, x5], [(0, 0)], zu s 172 9 (w32 (1 + (w32 (16 * (s 172 5)))))) Q
                            exact tR rfl (h10 g1 g72 g73 g77 g81 g85 g89 g91 g109 g110 g111 g116)
                        · exact fun (g118 : s 172 6 = 3) (g119 : s 173 ((s 172 5).toNat) = 59)  => False.elim (by omega)
                    · refine tL ((172 : Nat) : Int) 0 rfl rfl rfl ?_
                      refine tK rfl ?_
                      exact tCall [(((172 : Nat) : Int), 0), (29, 0)] [] rfl rfl rfl (fun m l => h11 g1 g72 g73 g77 g81 g85 g89 g91 g109 g110 m (Nat.lt_of_lt_of_le l (Nat.le_trans (Nat.le_of_lt l94) (Nat.le_trans (Nat.le_of_lt l92) (Nat.le_trans (Nat.le_of_lt l90) (Nat.le_trans (Nat.le_of_lt l86) (Nat.le_trans (Nat.le_of_lt l82) (Nat.le_trans (Nat.le_of_lt l78) (Nat.le_trans (Nat.le_of_lt l74) (Nat.le_trans (Nat.le_of_lt l2) (Nat.le_refl n)))))))))))
                · exact fun (g121 : s 172 6 = 1) _ => False.elim (by omega)
                · exact fun (g122 : s 172 6 = 1) _ => False.elim (by omega)
              · exact fun (g123 : s 172 6 = 1) _ => False.elim (by omega)
              · exact fun (g124 : s 172 6 = 1) _ => False.elim (by omega)
            · intro g125 g126
              show zT (zE 1496) (Pt PX11_reads) m86 (260, [((172 : Nat) : Int), x1, x2, x3, x4, x5], [(1, 0)], s) Q
              refine tI0 rfl (fun g _ l => (absurd g (by decide))) (fun g _ l => zT_le ?_ (Nat.le_of_lt l))
              refine tL ((172 : Nat) : Int) 0 rfl rfl rfl ?_
              refine tFR (c := 172) 196 rfl rfl rfl rfl rfl ?_
              refine tL x1 0 rfl rfl rfl ?_
              refine tAv 196 x1.toNat (s 196 x1.toNat) 0 rfl rfl rfl (by decide) rfl rfl ?_
              refine tI1 rfl (fun g127 _ l127 => zT_le ?_ (Nat.le_of_lt l127)) (fun g127 _ l127 => zT_le ?_ (Nat.le_of_lt l127))
              · refine tL ((172 : Nat) : Int) 0 rfl rfl rfl ?_
                refine tKL rfl ?_
                refine tCall [(((172 : Nat) : Int), 0), (1111, 1)] [] rfl rfl rfl (fun m128 l128 => c_X11_isWord (b_X11_isWord_0 1111 0 s ?_ ?_ ?_))
                · intro g129
                  show zT (zE 1496) (Pt PX11_reads) m128 (311, [((172 : Nat) : Int), x1, x2, x3, x4, x5], [(0, 0)], s) Q
                  refine tI1 rfl (fun g _ l => (absurd g (by decide))) (fun g _ l => zT_le ?_ (Nat.le_of_lt l))
                  refine tL ((172 : Nat) : Int) 0 rfl rfl rfl ?_
                  refine tKL rfl ?_
                  refine tCall [(((172 : Nat) : Int), 0), (423, 1)] [] rfl rfl rfl (fun m130 l130 => c_X11_isWord (b_X11_isWord_0 423 0 s ?_ ?_ ?_))
                  · intro g131
                    show zT (zE 1496) (Pt PX11_reads) m130 (321, [((172 : Nat) : Int), x1, x2, x3, x4, x5], [(0, 0)], s) Q
                    refine tI0 rfl (fun g _ l => zT_le ?_ (Nat.le_of_lt l)) (fun g _ l => (absurd g (by decide)))
                    refine tL ((172 : Nat) : Int) 0 rfl rfl rfl ?_
                    refine tK rfl ?_
                    refine tCall [(((172 : Nat) : Int), 0), (41, 0)] [] rfl rfl rfl (fun m132 l132 => c_X11_isSign (b_X11_isSign_0 41 s ?_ ?_ ?_))
                    · exact fun (g133 : s 172 6 ≠ 3)  => False.elim (by omega)
                    · intro g134 g135
                      show zT (zE 1496) (Pt PX11_reads) m132 (363, [((172 : Nat) : Int), x1, x2, x3, x4, x5], [(0, 0)], s) Q
                      refine tI0 rfl (fun g _ l => zT_le ?_ (Nat.le_of_lt l)) (fun g _ l => (absurd g (by decide)))
                      refine tL x1 0 rfl rfl rfl ?_
                      refine tI1 rfl (fun g136 _ l136 => zT_le ?_ (Nat.le_of_lt l136)) (fun g136 _ l136 => zT_le ?_ (Nat.le_of_lt l136))
                      · refine tL ((172 : Nat) : Int) 0 rfl rfl rfl ?_
                        refine tK rfl ?_
                        refine tCall [(((172 : Nat) : Int), 0), (1, 0)] [] rfl rfl rfl (fun m137 l137 => c_X11_fails (b_X11_fails_0 1 s ?_))
                        · show zT (zE 1496) (Pt PX11_reads) m137 (423, [((172 : Nat) : Int), x1, x2, x3, x4, x5], [(0, 0)], zu s 172 9 (w32 (1 + (w32 (16 * (s 172 5)))))) Q
                          exact tR rfl (h12 g1 g72 g73 g77 g81 g85 g126 g127 g129 g135 g136)
                      · refine tL ((172 : Nat) : Int) 0 rfl rfl rfl ?_
                        refine tK rfl ?_
                        refine tCall [(((172 : Nat) : Int), 0), (59, 0)] [] rfl rfl rfl (fun m138 l138 => c_X11_isSign (b_X11_isSign_0 59 s ?_ ?_ ?_))
                        · exact fun (g139 : s 172 6 ≠ 3)  => False.elim (by omega)
                        · intro g140 g141
                          show zT (zE 1496) (Pt PX11_reads) m138 (409, [((172 : Nat) : Int), x1, x2, x3, x4, x5], [(0, 0)], s) Q
                          refine tI0 rfl (fun g _ l => zT_le ?_ (Nat.le_of_lt l)) (fun g _ l => (absurd g (by decide)))
                          refine tL ((172 : Nat) : Int) 0 rfl rfl rfl ?_
                          refine tK rfl ?_
                          refine tCall [(((172 : Nat) : Int), 0), (1, 0)] [] rfl rfl rfl (fun m142 l142 => c_X11_fails (b_X11_fails_0 1 s ?_))
                          · show zT (zE 1496) (Pt PX11_reads) m142 (423, [((172 : Nat) : Int), x1, x2, x3, x4, x5], [(0, 0)], zu s 172 9 (w32 (1 + (w32 (16 * (s 172 5)))))) Q
                            exact tR rfl (h13 g1 g72 g73 g77 g81 g85 g126 g127 g129 g135 g136 g141)
                        · exact fun (g143 : s 172 6 = 3) (g144 : s 173 ((s 172 5).toNat) = 59)  => False.elim (by omega)
                    · exact fun (g145 : s 172 6 = 3) (g146 : s 173 ((s 172 5).toNat) = 41)  => False.elim (by omega)
                  · exact fun (g147 : s 172 6 = 1) _ => False.elim (by omega)
                  · exact fun (g148 : s 172 6 = 1) _ => False.elim (by omega)
                · exact fun (g149 : s 172 6 = 1) _ => False.elim (by omega)
                · exact fun (g150 : s 172 6 = 1) _ => False.elim (by omega)
              · refine tL ((172 : Nat) : Int) 0 rfl rfl rfl ?_
                refine tL ((172 : Nat) : Int) 0 rfl rfl rfl ?_
                refine tK rfl ?_
                refine tCall [(((172 : Nat) : Int), 0), (60, 0)] [(((172 : Nat) : Int), 0)] rfl rfl rfl (fun m151 l151 => c_X11_isSign (b_X11_isSign_0 60 s ?_ ?_ ?_))
                · exact fun (g152 : s 172 6 ≠ 3)  => False.elim (by omega)
                · intro g153 g154
                  show zT (zE 1496) (Pt PX11_reads) m151 (279, [((172 : Nat) : Int), x1, x2, x3, x4, x5], [(0, 0), (((172 : Nat) : Int), 0)], s) Q
                  refine tI0 rfl (fun g _ l => zT_le ?_ (Nat.le_of_lt l)) (fun g _ l => (absurd g (by decide)))
                  refine tK rfl ?_
                  exact tCall [(((172 : Nat) : Int), 0), (25, 0)] [] rfl rfl rfl (fun m l => h14 g1 g72 g73 g77 g81 g85 g126 g127 m (Nat.lt_of_lt_of_le l (Nat.le_trans (Nat.le_of_lt l151) (Nat.le_trans (Nat.le_of_lt l86) (Nat.le_trans (Nat.le_of_lt l82) (Nat.le_trans (Nat.le_of_lt l78) (Nat.le_trans (Nat.le_of_lt l74) (Nat.le_trans (Nat.le_of_lt l2) (Nat.le_refl n)))))))))
                · exact fun (g156 : s 172 6 = 3) (g157 : s 173 ((s 172 5).toNat) = 60)  => False.elim (by omega)
          · intro g158 g159
            show zT (zE 1496) (Pt PX11_reads) m82 (251, [((172 : Nat) : Int), x1, x2, x3, x4, x5], [(1, 0)], s) Q
            refine tI1 rfl (fun g _ l => zT_le ?_ (Nat.le_of_lt l)) (fun g _ l => (absurd g (by decide)))
            refine tL ((172 : Nat) : Int) 0 rfl rfl rfl ?_
            refine tFR (c := 172) 196 rfl rfl rfl rfl rfl ?_
            refine tL x1 0 rfl rfl rfl ?_
            refine tAv 196 x1.toNat (s 196 x1.toNat) 0 rfl rfl rfl (by decide) rfl rfl ?_
            refine tI1 rfl (fun g160 _ l160 => zT_le ?_ (Nat.le_of_lt l160)) (fun g160 _ l160 => zT_le ?_ (Nat.le_of_lt l160))
            · refine tL ((172 : Nat) : Int) 0 rfl rfl rfl ?_
              refine tKL rfl ?_
              refine tCall [(((172 : Nat) : Int), 0), (1111, 1)] [] rfl rfl rfl (fun m161 l161 => c_X11_isWord (b_X11_isWord_0 1111 0 s ?_ ?_ ?_))
              · intro g162
                show zT (zE 1496) (Pt PX11_reads) m161 (311, [((172 : Nat) : Int), x1, x2, x3, x4, x5], [(0, 0)], s) Q
                refine tI1 rfl (fun g _ l => (absurd g (by decide))) (fun g _ l => zT_le ?_ (Nat.le_of_lt l))
                refine tL ((172 : Nat) : Int) 0 rfl rfl rfl ?_
                refine tKL rfl ?_
                refine tCall [(((172 : Nat) : Int), 0), (423, 1)] [] rfl rfl rfl (fun m163 l163 => c_X11_isWord (b_X11_isWord_0 423 0 s ?_ ?_ ?_))
                · intro g164
                  show zT (zE 1496) (Pt PX11_reads) m163 (321, [((172 : Nat) : Int), x1, x2, x3, x4, x5], [(0, 0)], s) Q
                  refine tI0 rfl (fun g _ l => zT_le ?_ (Nat.le_of_lt l)) (fun g _ l => (absurd g (by decide)))
                  refine tL ((172 : Nat) : Int) 0 rfl rfl rfl ?_
                  refine tK rfl ?_
                  refine tCall [(((172 : Nat) : Int), 0), (41, 0)] [] rfl rfl rfl (fun m165 l165 => c_X11_isSign (b_X11_isSign_0 41 s ?_ ?_ ?_))
                  · exact fun (g166 : s 172 6 ≠ 3)  => False.elim (by omega)
                  · intro g167 g168
                    show zT (zE 1496) (Pt PX11_reads) m165 (363, [((172 : Nat) : Int), x1, x2, x3, x4, x5], [(0, 0)], s) Q
                    refine tI0 rfl (fun g _ l => zT_le ?_ (Nat.le_of_lt l)) (fun g _ l => (absurd g (by decide)))
                    refine tL x1 0 rfl rfl rfl ?_
                    refine tI1 rfl (fun g169 _ l169 => zT_le ?_ (Nat.le_of_lt l169)) (fun g169 _ l169 => zT_le ?_ (Nat.le_of_lt l169))
                    · refine tL ((172 : Nat) : Int) 0 rfl rfl rfl ?_
                      refine tK rfl ?_
                      refine tCall [(((172 : Nat) : Int), 0), (1, 0)] [] rfl rfl rfl (fun m170 l170 => c_X11_fails (b_X11_fails_0 1 s ?_))
                      · show zT (zE 1496) (Pt PX11_reads) m170 (423, [((172 : Nat) : Int), x1, x2, x3, x4, x5], [(0, 0)], zu s 172 9 (w32 (1 + (w32 (16 * (s 172 5)))))) Q
                        exact tR rfl (h15 g1 g72 g73 g77 g81 g159 g160 g162 g168 g169)
                    · refine tL ((172 : Nat) : Int) 0 rfl rfl rfl ?_
                      refine tK rfl ?_
                      refine tCall [(((172 : Nat) : Int), 0), (59, 0)] [] rfl rfl rfl (fun m171 l171 => c_X11_isSign (b_X11_isSign_0 59 s ?_ ?_ ?_))
                      · exact fun (g172 : s 172 6 ≠ 3)  => False.elim (by omega)
                      · intro g173 g174
                        show zT (zE 1496) (Pt PX11_reads) m171 (409, [((172 : Nat) : Int), x1, x2, x3, x4, x5], [(0, 0)], s) Q
                        refine tI0 rfl (fun g _ l => zT_le ?_ (Nat.le_of_lt l)) (fun g _ l => (absurd g (by decide)))
                        refine tL ((172 : Nat) : Int) 0 rfl rfl rfl ?_
                        refine tK rfl ?_
                        refine tCall [(((172 : Nat) : Int), 0), (1, 0)] [] rfl rfl rfl (fun m175 l175 => c_X11_fails (b_X11_fails_0 1 s ?_))
                        · show zT (zE 1496) (Pt PX11_reads) m175 (423, [((172 : Nat) : Int), x1, x2, x3, x4, x5], [(0, 0)], zu s 172 9 (w32 (1 + (w32 (16 * (s 172 5)))))) Q
                          exact tR rfl (h16 g1 g72 g73 g77 g81 g159 g160 g162 g168 g169 g174)
                      · exact fun (g176 : s 172 6 = 3) (g177 : s 173 ((s 172 5).toNat) = 59)  => False.elim (by omega)
                  · exact fun (g178 : s 172 6 = 3) (g179 : s 173 ((s 172 5).toNat) = 41)  => False.elim (by omega)
                · exact fun (g180 : s 172 6 = 1) _ => False.elim (by omega)
                · exact fun (g181 : s 172 6 = 1) _ => False.elim (by omega)
              · exact fun (g182 : s 172 6 = 1) _ => False.elim (by omega)
              · exact fun (g183 : s 172 6 = 1) _ => False.elim (by omega)
            · refine tL ((172 : Nat) : Int) 0 rfl rfl rfl ?_
              refine tL ((172 : Nat) : Int) 0 rfl rfl rfl ?_
              refine tK rfl ?_
              refine tCall [(((172 : Nat) : Int), 0), (60, 0)] [(((172 : Nat) : Int), 0)] rfl rfl rfl (fun m184 l184 => c_X11_isSign (b_X11_isSign_0 60 s ?_ ?_ ?_))
              · exact fun (g185 : s 172 6 ≠ 3)  => False.elim (by omega)
              · exact fun (g186 : s 172 6 = 3) (g187 : s 173 ((s 172 5).toNat) ≠ 60)  => False.elim (by omega)
              · intro g188 g189
                show zT (zE 1496) (Pt PX11_reads) m184 (279, [((172 : Nat) : Int), x1, x2, x3, x4, x5], [(1, 0), (((172 : Nat) : Int), 0)], s) Q
                refine tI0 rfl (fun g _ l => (absurd g (by decide))) (fun g _ l => zT_le ?_ (Nat.le_of_lt l))
                refine tK rfl ?_
                refine tG rfl ?_
                exact tCall [(((172 : Nat) : Int), 0), (24, 0)] [] rfl rfl rfl (fun m l => h17 g1 g72 g73 g77 g81 g159 g160 m (Nat.lt_of_lt_of_le l (Nat.le_trans (Nat.le_of_lt l184) (Nat.le_trans (Nat.le_of_lt l82) (Nat.le_trans (Nat.le_of_lt l78) (Nat.le_trans (Nat.le_of_lt l74) (Nat.le_trans (Nat.le_of_lt l2) (Nat.le_refl n))))))))
        · intro g191 g192
          show zT (zE 1496) (Pt PX11_reads) m78 (203, [((172 : Nat) : Int), x1, x2, x3, x4, x5], [(1, 0)], s) Q
          refine tI0 rfl (fun g _ l => (absurd g (by decide))) (fun g _ l => zT_le ?_ (Nat.le_of_lt l))
          refine tL ((172 : Nat) : Int) 0 rfl rfl rfl ?_
          refine tL ((172 : Nat) : Int) 0 rfl rfl rfl ?_
          refine tK rfl ?_
          refine tCall [(((172 : Nat) : Int), 0), (43, 0)] [(((172 : Nat) : Int), 0)] rfl rfl rfl (fun m193 l193 => c_X11_isSign (b_X11_isSign_0 43 s ?_ ?_ ?_))
          · exact fun (g194 : s 172 6 ≠ 3)  => False.elim (by omega)
          · intro g195 g196
            show zT (zE 1496) (Pt PX11_reads) m193 (213, [((172 : Nat) : Int), x1, x2, x3, x4, x5], [(0, 0), (((172 : Nat) : Int), 0)], s) Q
            refine tI0 rfl (fun g _ l => zT_le ?_ (Nat.le_of_lt l)) (fun g _ l => (absurd g (by decide)))
            refine tL ((172 : Nat) : Int) 0 rfl rfl rfl ?_
            refine tK rfl ?_
            refine tCall [(((172 : Nat) : Int), 0), (45, 0)] [(((172 : Nat) : Int), 0)] rfl rfl rfl (fun m197 l197 => c_X11_isSign (b_X11_isSign_0 45 s ?_ ?_ ?_))
            · exact fun (g198 : s 172 6 ≠ 3)  => False.elim (by omega)
            · intro g199 g200
              show zT (zE 1496) (Pt PX11_reads) m197 (227, [((172 : Nat) : Int), x1, x2, x3, x4, x5], [(0, 0), (((172 : Nat) : Int), 0)], s) Q
              refine tI0 rfl (fun g _ l => zT_le ?_ (Nat.le_of_lt l)) (fun g _ l => (absurd g (by decide)))
              refine tK rfl ?_
              exact tCall [(((172 : Nat) : Int), 0), (22, 0)] [] rfl rfl rfl (fun m l => h18 g1 g72 g73 g77 g192 m (Nat.lt_of_lt_of_le l (Nat.le_trans (Nat.le_of_lt l197) (Nat.le_trans (Nat.le_of_lt l193) (Nat.le_trans (Nat.le_of_lt l78) (Nat.le_trans (Nat.le_of_lt l74) (Nat.le_trans (Nat.le_of_lt l2) (Nat.le_refl n))))))))
            · exact fun (g202 : s 172 6 = 3) (g203 : s 173 ((s 172 5).toNat) = 45)  => False.elim (by omega)
          · exact fun (g204 : s 172 6 = 3) (g205 : s 173 ((s 172 5).toNat) = 43)  => False.elim (by omega)
      · intro g206 g207
        show zT (zE 1496) (Pt PX11_reads) m74 (194, [((172 : Nat) : Int), x1, x2, x3, x4, x5], [(1, 0)], s) Q
        refine tI1 rfl (fun g _ l => zT_le ?_ (Nat.le_of_lt l)) (fun g _ l => (absurd g (by decide)))
        refine tL ((172 : Nat) : Int) 0 rfl rfl rfl ?_
        refine tL ((172 : Nat) : Int) 0 rfl rfl rfl ?_
        refine tK rfl ?_
        refine tCall [(((172 : Nat) : Int), 0), (43, 0)] [(((172 : Nat) : Int), 0)] rfl rfl rfl (fun m208 l208 => c_X11_isSign (b_X11_isSign_0 43 s ?_ ?_ ?_))
        · exact fun (g209 : s 172 6 ≠ 3)  => False.elim (by omega)
        · intro g210 g211
          show zT (zE 1496) (Pt PX11_reads) m208 (213, [((172 : Nat) : Int), x1, x2, x3, x4, x5], [(0, 0), (((172 : Nat) : Int), 0)], s) Q
          refine tI0 rfl (fun g _ l => zT_le ?_ (Nat.le_of_lt l)) (fun g _ l => (absurd g (by decide)))
          refine tL ((172 : Nat) : Int) 0 rfl rfl rfl ?_
          refine tK rfl ?_
          refine tCall [(((172 : Nat) : Int), 0), (45, 0)] [(((172 : Nat) : Int), 0)] rfl rfl rfl (fun m212 l212 => c_X11_isSign (b_X11_isSign_0 45 s ?_ ?_ ?_))
          · exact fun (g213 : s 172 6 ≠ 3)  => False.elim (by omega)
          · exact fun (g214 : s 172 6 = 3) (g215 : s 173 ((s 172 5).toNat) ≠ 45)  => False.elim (by omega)
          · intro g216 g217
            show zT (zE 1496) (Pt PX11_reads) m212 (227, [((172 : Nat) : Int), x1, x2, x3, x4, x5], [(1, 0), (((172 : Nat) : Int), 0)], s) Q
            refine tI0 rfl (fun g _ l => (absurd g (by decide))) (fun g _ l => zT_le ?_ (Nat.le_of_lt l))
            refine tK rfl ?_
            refine tG rfl ?_
            exact tCall [(((172 : Nat) : Int), 0), (21, 0)] [] rfl rfl rfl (fun m l => h19 g1 g72 g73 g207 m (Nat.lt_of_lt_of_le l (Nat.le_trans (Nat.le_of_lt l212) (Nat.le_trans (Nat.le_of_lt l208) (Nat.le_trans (Nat.le_of_lt l74) (Nat.le_trans (Nat.le_of_lt l2) (Nat.le_refl n)))))))
        · exact fun (g219 : s 172 6 = 3) (g220 : s 173 ((s 172 5).toNat) = 43)  => False.elim (by omega)
    · intro g221 g222
      show zT (zE 1496) (Pt PX11_reads) m2 (185, [((172 : Nat) : Int), x1, x2, x3, x4, x5], [(1, 0)], s) Q
      refine tI1 rfl (fun g _ l => zT_le ?_ (Nat.le_of_lt l)) (fun g _ l => (absurd g (by decide)))
      refine tL ((172 : Nat) : Int) 0 rfl rfl rfl ?_
      refine tL ((172 : Nat) : Int) 0 rfl rfl rfl ?_
      refine tK rfl ?_
      refine tCall [(((172 : Nat) : Int), 0), (43, 0)] [(((172 : Nat) : Int), 0)] rfl rfl rfl (fun m223 l223 => c_X11_isSign (b_X11_isSign_0 43 s ?_ ?_ ?_))
      · exact fun (g224 : s 172 6 ≠ 3)  => False.elim (by omega)
      · exact fun (g225 : s 172 6 = 3) (g226 : s 173 ((s 172 5).toNat) ≠ 43)  => False.elim (by omega)
      · intro g227 g228
        show zT (zE 1496) (Pt PX11_reads) m223 (213, [((172 : Nat) : Int), x1, x2, x3, x4, x5], [(1, 0), (((172 : Nat) : Int), 0)], s) Q
        refine tI0 rfl (fun g _ l => (absurd g (by decide))) (fun g _ l => zT_le ?_ (Nat.le_of_lt l))
        refine tK rfl ?_
        refine tG rfl ?_
        exact tCall [(((172 : Nat) : Int), 0), (20, 0)] [] rfl rfl rfl (fun m l => h20 g1 g221 g222 m (Nat.lt_of_lt_of_le l (Nat.le_trans (Nat.le_of_lt l223) (Nat.le_trans (Nat.le_of_lt l2) (Nat.le_refl n)))))
  · refine tL ((172 : Nat) : Int) 0 rfl rfl rfl ?_
    refine tCall [(((172 : Nat) : Int), 0)] [] rfl rfl rfl (fun m230 l230 => c_X11_fact (b_X11_fact_0  s ?_ ?_ ?_ ?_ ?_))
    · intro g231 g232 g233 g234
      show zT (zE 1496) (Pt PX11_reads) m230 (19, [((172 : Nat) : Int), x1, x2, x3, x4, x5], [(0, 0)], s) Q
      refine tS [((172 : Nat) : Int), x1, x2, 0, x4, x5] rfl rfl ?_
      refine tL ((172 : Nat) : Int) 0 rfl rfl rfl ?_
      refine tKL rfl ?_
      refine tCall [(((172 : Nat) : Int), 0), (10631, 1)] [] rfl rfl rfl (fun m235 l235 => c_X11_isWord (b_X11_isWord_0 10631 0 s ?_ ?_ ?_))
      · exact fun (g236 : s 172 6 ≠ 1)  => False.elim (by omega)
      · intro g237 g238
        show zT (zE 1496) (Pt PX11_reads) m235 (27, [((172 : Nat) : Int), x1, x2, 0, x4, x5], [(0, 0)], s) Q
        refine tS [((172 : Nat) : Int), x1, x2, 0, 0, x5] rfl rfl ?_
        refine tL ((172 : Nat) : Int) 0 rfl rfl rfl ?_
        refine tK rfl ?_
        refine tCall [(((172 : Nat) : Int), 0), (40, 0)] [] rfl rfl rfl (fun m239 l239 => c_X11_isSign (b_X11_isSign_0 40 s ?_ ?_ ?_))
        · intro g240
          show zT (zE 1496) (Pt PX11_reads) m239 (35, [((172 : Nat) : Int), x1, x2, 0, 0, x5], [(0, 0)], s) Q
          refine tS [((172 : Nat) : Int), x1, x2, 0, 0, 0] rfl rfl ?_
          refine tL 0 0 rfl rfl rfl ?_
          refine tI1 rfl (fun g _ l => (absurd g (by decide))) (fun g _ l => zT_le ?_ (Nat.le_of_lt l))
          refine tL 0 0 rfl rfl rfl ?_
          refine tI1 rfl (fun g _ l => (absurd g (by decide))) (fun g _ l => zT_le ?_ (Nat.le_of_lt l))
          refine tL 0 0 rfl rfl rfl ?_
          refine tI1 rfl (fun g _ l => (absurd g (by decide))) (fun g _ l => zT_le ?_ (Nat.le_of_lt l))
          refine tL ((172 : Nat) : Int) 0 rfl rfl rfl ?_
          refine tFv (c := 172) (s 172 6) 0 rfl rfl rfl rfl rfl ?_
          refine tK rfl ?_
          refine tJ0 rfl (fun g _ l => False.elim (by omega)) (fun g _ l => zT_le ?_ (Nat.le_of_lt l))
          refine tL ((172 : Nat) : Int) 0 rfl rfl rfl ?_
          refine tK rfl ?_
          refine tCall [(((172 : Nat) : Int), 0), (1, 0)] [] rfl rfl rfl (fun m241 l241 => c_X11_fails (b_X11_fails_0 1 s ?_))
          · show zT (zE 1496) (Pt PX11_reads) m241 (64, [((172 : Nat) : Int), x1, x2, 0, 0, 0], [(0, 0)], zu s 172 9 (w32 (1 + (w32 (16 * (s 172 5)))))) Q
            exact tR rfl (h21 g1 g231 g232 g233 g234 g238 g240)
        · exact fun (g242 : s 172 6 = 3) _ => False.elim (by omega)
        · exact fun (g243 : s 172 6 = 3) _ => False.elim (by omega)
      · intro g244 g245
        show zT (zE 1496) (Pt PX11_reads) m235 (27, [((172 : Nat) : Int), x1, x2, 0, x4, x5], [(1, 0)], s) Q
        refine tS [((172 : Nat) : Int), x1, x2, 0, 1, x5] rfl rfl ?_
        refine tL ((172 : Nat) : Int) 0 rfl rfl rfl ?_
        refine tK rfl ?_
        refine tCall [(((172 : Nat) : Int), 0), (40, 0)] [] rfl rfl rfl (fun m246 l246 => c_X11_isSign (b_X11_isSign_0 40 s ?_ ?_ ?_))
        · intro g247
          show zT (zE 1496) (Pt PX11_reads) m246 (35, [((172 : Nat) : Int), x1, x2, 0, 1, x5], [(0, 0)], s) Q
          refine tS [((172 : Nat) : Int), x1, x2, 0, 1, 0] rfl rfl ?_
          refine tL 0 0 rfl rfl rfl ?_
          refine tI1 rfl (fun g _ l => (absurd g (by decide))) (fun g _ l => zT_le ?_ (Nat.le_of_lt l))
          refine tL 1 0 rfl rfl rfl ?_
          refine tI1 rfl (fun g _ l => zT_le ?_ (Nat.le_of_lt l)) (fun g _ l => (absurd g (by decide)))
          refine tL x1 0 rfl rfl rfl ?_
          refine tK rfl ?_
          refine tJ1 rfl (fun g248 _ l248 => zT_le ?_ (Nat.le_of_lt l248)) (fun g248 _ l248 => zT_le ?_ (Nat.le_of_lt l248))
          · refine tL 1 0 rfl rfl rfl ?_
            refine tI1 rfl (fun g _ l => zT_le ?_ (Nat.le_of_lt l)) (fun g _ l => (absurd g (by decide)))
            refine tL ((172 : Nat) : Int) 0 rfl rfl rfl ?_
            refine tL 1 0 rfl rfl rfl ?_
            refine tI0 rfl (fun g _ l => (absurd g (by decide))) (fun g _ l => zT_le ?_ (Nat.le_of_lt l))
            refine tK rfl ?_
            refine tG rfl ?_
            exact tCall [(((172 : Nat) : Int), 0), (30, 0)] [] rfl rfl rfl (fun m l => h22 g1 g231 g232 g233 g234 g245 g247 g248 m (Nat.lt_of_lt_of_le l (Nat.le_trans (Nat.le_of_lt l246) (Nat.le_trans (Nat.le_of_lt l235) (Nat.le_trans (Nat.le_of_lt l230) (Nat.le_refl n))))))
          · refine tL ((172 : Nat) : Int) 0 rfl rfl rfl ?_
            refine tK rfl ?_
            refine tCall [(((172 : Nat) : Int), 0), (5, 0)] [] rfl rfl rfl (fun m250 l250 => c_X11_fails (b_X11_fails_0 5 s ?_))
            · show zT (zE 1496) (Pt PX11_reads) m250 (75, [((172 : Nat) : Int), x1, x2, 0, 1, 0], [(0, 0)], zu s 172 9 (w32 (5 + (w32 (16 * (s 172 5)))))) Q
              exact tR rfl (h23 g1 g231 g232 g233 g234 g245 g247 g248)
        · exact fun (g251 : s 172 6 = 3) _ => False.elim (by omega)
        · exact fun (g252 : s 172 6 = 3) _ => False.elim (by omega)
    · intro g253 g254 g255 g256
      show zT (zE 1496) (Pt PX11_reads) m230 (19, [((172 : Nat) : Int), x1, x2, x3, x4, x5], [(3, 0)], s) Q
      refine tS [((172 : Nat) : Int), x1, x2, 3, x4, x5] rfl rfl ?_
      refine tL ((172 : Nat) : Int) 0 rfl rfl rfl ?_
      refine tKL rfl ?_
      refine tCall [(((172 : Nat) : Int), 0), (10631, 1)] [] rfl rfl rfl (fun m257 l257 => c_X11_isWord (b_X11_isWord_0 10631 0 s ?_ ?_ ?_))
      · exact fun (g258 : s 172 6 ≠ 1)  => False.elim (by omega)
      · intro g259 g260
        show zT (zE 1496) (Pt PX11_reads) m257 (27, [((172 : Nat) : Int), x1, x2, 3, x4, x5], [(0, 0)], s) Q
        refine tS [((172 : Nat) : Int), x1, x2, 3, 0, x5] rfl rfl ?_
        refine tL ((172 : Nat) : Int) 0 rfl rfl rfl ?_
        refine tK rfl ?_
        refine tCall [(((172 : Nat) : Int), 0), (40, 0)] [] rfl rfl rfl (fun m261 l261 => c_X11_isSign (b_X11_isSign_0 40 s ?_ ?_ ?_))
        · intro g262
          show zT (zE 1496) (Pt PX11_reads) m261 (35, [((172 : Nat) : Int), x1, x2, 3, 0, x5], [(0, 0)], s) Q
          refine tS [((172 : Nat) : Int), x1, x2, 3, 0, 0] rfl rfl ?_
          refine tL 3 0 rfl rfl rfl ?_
          refine tI1 rfl (fun g _ l => zT_le ?_ (Nat.le_of_lt l)) (fun g _ l => (absurd g (by decide)))
          refine tL x1 0 rfl rfl rfl ?_
          refine tK rfl ?_
          refine tJ1 rfl (fun g263 _ l263 => zT_le ?_ (Nat.le_of_lt l263)) (fun g263 _ l263 => zT_le ?_ (Nat.le_of_lt l263))
          · refine tL 0 0 rfl rfl rfl ?_
            refine tI1 rfl (fun g _ l => (absurd g (by decide))) (fun g _ l => zT_le ?_ (Nat.le_of_lt l))
            refine tL 0 0 rfl rfl rfl ?_
            refine tI0 rfl (fun g _ l => zT_le ?_ (Nat.le_of_lt l)) (fun g _ l => (absurd g (by decide)))
            refine tL ((172 : Nat) : Int) 0 rfl rfl rfl ?_
            refine tL 3 0 rfl rfl rfl ?_
            refine tI5 rfl (fun g _ l => (absurd g (by decide))) (fun g _ l => zT_le ?_ (Nat.le_of_lt l))
            refine tL 3 0 rfl rfl rfl ?_
            refine tG rfl ?_
            exact tCall [(((172 : Nat) : Int), 0), (3, 0)] [] rfl rfl rfl (fun m l => h24 g1 g253 g254 g255 g256 g260 g262 g263 m (Nat.lt_of_lt_of_le l (Nat.le_trans (Nat.le_of_lt l261) (Nat.le_trans (Nat.le_of_lt l257) (Nat.le_trans (Nat.le_of_lt l230) (Nat.le_refl n))))))
          · refine tL ((172 : Nat) : Int) 0 rfl rfl rfl ?_
            refine tK rfl ?_
            refine tCall [(((172 : Nat) : Int), 0), (5, 0)] [] rfl rfl rfl (fun m265 l265 => c_X11_fails (b_X11_fails_0 5 s ?_))
            · show zT (zE 1496) (Pt PX11_reads) m265 (75, [((172 : Nat) : Int), x1, x2, 3, 0, 0], [(0, 0)], zu s 172 9 (w32 (5 + (w32 (16 * (s 172 5)))))) Q
              exact tR rfl (h25 g1 g253 g254 g255 g256 g260 g262 g263)
        · exact fun (g266 : s 172 6 = 3) _ => False.elim (by omega)
        · exact fun (g267 : s 172 6 = 3) _ => False.elim (by omega)
      · intro g268 g269
        show zT (zE 1496) (Pt PX11_reads) m257 (27, [((172 : Nat) : Int), x1, x2, 3, x4, x5], [(1, 0)], s) Q
        refine tS [((172 : Nat) : Int), x1, x2, 3, 1, x5] rfl rfl ?_
        refine tL ((172 : Nat) : Int) 0 rfl rfl rfl ?_
        refine tK rfl ?_
        refine tCall [(((172 : Nat) : Int), 0), (40, 0)] [] rfl rfl rfl (fun m270 l270 => c_X11_isSign (b_X11_isSign_0 40 s ?_ ?_ ?_))
        · intro g271
          show zT (zE 1496) (Pt PX11_reads) m270 (35, [((172 : Nat) : Int), x1, x2, 3, 1, x5], [(0, 0)], s) Q
          refine tS [((172 : Nat) : Int), x1, x2, 3, 1, 0] rfl rfl ?_
          refine tL 3 0 rfl rfl rfl ?_
          refine tI1 rfl (fun g _ l => zT_le ?_ (Nat.le_of_lt l)) (fun g _ l => (absurd g (by decide)))
          refine tL x1 0 rfl rfl rfl ?_
          refine tK rfl ?_
          refine tJ1 rfl (fun g272 _ l272 => zT_le ?_ (Nat.le_of_lt l272)) (fun g272 _ l272 => zT_le ?_ (Nat.le_of_lt l272))
          · refine tL 1 0 rfl rfl rfl ?_
            refine tI1 rfl (fun g _ l => zT_le ?_ (Nat.le_of_lt l)) (fun g _ l => (absurd g (by decide)))
            refine tL ((172 : Nat) : Int) 0 rfl rfl rfl ?_
            refine tL 1 0 rfl rfl rfl ?_
            refine tI0 rfl (fun g _ l => (absurd g (by decide))) (fun g _ l => zT_le ?_ (Nat.le_of_lt l))
            refine tK rfl ?_
            refine tG rfl ?_
            exact tCall [(((172 : Nat) : Int), 0), (30, 0)] [] rfl rfl rfl (fun m l => h26 g1 g253 g254 g255 g256 g269 g271 g272 m (Nat.lt_of_lt_of_le l (Nat.le_trans (Nat.le_of_lt l270) (Nat.le_trans (Nat.le_of_lt l257) (Nat.le_trans (Nat.le_of_lt l230) (Nat.le_refl n))))))
          · refine tL ((172 : Nat) : Int) 0 rfl rfl rfl ?_
            refine tK rfl ?_
            refine tCall [(((172 : Nat) : Int), 0), (5, 0)] [] rfl rfl rfl (fun m274 l274 => c_X11_fails (b_X11_fails_0 5 s ?_))
            · show zT (zE 1496) (Pt PX11_reads) m274 (75, [((172 : Nat) : Int), x1, x2, 3, 1, 0], [(0, 0)], zu s 172 9 (w32 (5 + (w32 (16 * (s 172 5)))))) Q
              exact tR rfl (h27 g1 g253 g254 g255 g256 g269 g271 g272)
        · exact fun (g275 : s 172 6 = 3) _ => False.elim (by omega)
        · exact fun (g276 : s 172 6 = 3) _ => False.elim (by omega)
    · intro g277 g278 g279
      show zT (zE 1496) (Pt PX11_reads) m230 (19, [((172 : Nat) : Int), x1, x2, x3, x4, x5], [(2, 0)], s) Q
      refine tS [((172 : Nat) : Int), x1, x2, 2, x4, x5] rfl rfl ?_
      refine tL ((172 : Nat) : Int) 0 rfl rfl rfl ?_
      refine tKL rfl ?_
      refine tCall [(((172 : Nat) : Int), 0), (10631, 1)] [] rfl rfl rfl (fun m280 l280 => c_X11_isWord (b_X11_isWord_0 10631 0 s ?_ ?_ ?_))
      · exact fun (g281 : s 172 6 ≠ 1)  => False.elim (by omega)
      · intro g282 g283
        show zT (zE 1496) (Pt PX11_reads) m280 (27, [((172 : Nat) : Int), x1, x2, 2, x4, x5], [(0, 0)], s) Q
        refine tS [((172 : Nat) : Int), x1, x2, 2, 0, x5] rfl rfl ?_
        refine tL ((172 : Nat) : Int) 0 rfl rfl rfl ?_
        refine tK rfl ?_
        refine tCall [(((172 : Nat) : Int), 0), (40, 0)] [] rfl rfl rfl (fun m284 l284 => c_X11_isSign (b_X11_isSign_0 40 s ?_ ?_ ?_))
        · intro g285
          show zT (zE 1496) (Pt PX11_reads) m284 (35, [((172 : Nat) : Int), x1, x2, 2, 0, x5], [(0, 0)], s) Q
          refine tS [((172 : Nat) : Int), x1, x2, 2, 0, 0] rfl rfl ?_
          refine tL 2 0 rfl rfl rfl ?_
          refine tI1 rfl (fun g _ l => zT_le ?_ (Nat.le_of_lt l)) (fun g _ l => (absurd g (by decide)))
          refine tL x1 0 rfl rfl rfl ?_
          refine tK rfl ?_
          refine tJ1 rfl (fun g286 _ l286 => zT_le ?_ (Nat.le_of_lt l286)) (fun g286 _ l286 => zT_le ?_ (Nat.le_of_lt l286))
          · refine tL 0 0 rfl rfl rfl ?_
            refine tI1 rfl (fun g _ l => (absurd g (by decide))) (fun g _ l => zT_le ?_ (Nat.le_of_lt l))
            refine tL 0 0 rfl rfl rfl ?_
            refine tI0 rfl (fun g _ l => zT_le ?_ (Nat.le_of_lt l)) (fun g _ l => (absurd g (by decide)))
            refine tL ((172 : Nat) : Int) 0 rfl rfl rfl ?_
            refine tL 2 0 rfl rfl rfl ?_
            refine tI5 rfl (fun g _ l => (absurd g (by decide))) (fun g _ l => zT_le ?_ (Nat.le_of_lt l))
            refine tL 2 0 rfl rfl rfl ?_
            refine tG rfl ?_
            exact tCall [(((172 : Nat) : Int), 0), (2, 0)] [] rfl rfl rfl (fun m l => h28 g1 g277 g278 g279 g283 g285 g286 m (Nat.lt_of_lt_of_le l (Nat.le_trans (Nat.le_of_lt l284) (Nat.le_trans (Nat.le_of_lt l280) (Nat.le_trans (Nat.le_of_lt l230) (Nat.le_refl n))))))
          · refine tL ((172 : Nat) : Int) 0 rfl rfl rfl ?_
            refine tK rfl ?_
            refine tCall [(((172 : Nat) : Int), 0), (5, 0)] [] rfl rfl rfl (fun m288 l288 => c_X11_fails (b_X11_fails_0 5 s ?_))
            · show zT (zE 1496) (Pt PX11_reads) m288 (75, [((172 : Nat) : Int), x1, x2, 2, 0, 0], [(0, 0)], zu s 172 9 (w32 (5 + (w32 (16 * (s 172 5)))))) Q
              exact tR rfl (h29 g1 g277 g278 g279 g283 g285 g286)
        · exact fun (g289 : s 172 6 = 3) _ => False.elim (by omega)
        · exact fun (g290 : s 172 6 = 3) _ => False.elim (by omega)
      · intro g291 g292
        show zT (zE 1496) (Pt PX11_reads) m280 (27, [((172 : Nat) : Int), x1, x2, 2, x4, x5], [(1, 0)], s) Q
        refine tS [((172 : Nat) : Int), x1, x2, 2, 1, x5] rfl rfl ?_
        refine tL ((172 : Nat) : Int) 0 rfl rfl rfl ?_
        refine tK rfl ?_
        refine tCall [(((172 : Nat) : Int), 0), (40, 0)] [] rfl rfl rfl (fun m293 l293 => c_X11_isSign (b_X11_isSign_0 40 s ?_ ?_ ?_))
        · intro g294
          show zT (zE 1496) (Pt PX11_reads) m293 (35, [((172 : Nat) : Int), x1, x2, 2, 1, x5], [(0, 0)], s) Q
          refine tS [((172 : Nat) : Int), x1, x2, 2, 1, 0] rfl rfl ?_
          refine tL 2 0 rfl rfl rfl ?_
          refine tI1 rfl (fun g _ l => zT_le ?_ (Nat.le_of_lt l)) (fun g _ l => (absurd g (by decide)))
          refine tL x1 0 rfl rfl rfl ?_
          refine tK rfl ?_
          refine tJ1 rfl (fun g295 _ l295 => zT_le ?_ (Nat.le_of_lt l295)) (fun g295 _ l295 => zT_le ?_ (Nat.le_of_lt l295))
          · refine tL 1 0 rfl rfl rfl ?_
            refine tI1 rfl (fun g _ l => zT_le ?_ (Nat.le_of_lt l)) (fun g _ l => (absurd g (by decide)))
            refine tL ((172 : Nat) : Int) 0 rfl rfl rfl ?_
            refine tL 1 0 rfl rfl rfl ?_
            refine tI0 rfl (fun g _ l => (absurd g (by decide))) (fun g _ l => zT_le ?_ (Nat.le_of_lt l))
            refine tK rfl ?_
            refine tG rfl ?_
            exact tCall [(((172 : Nat) : Int), 0), (30, 0)] [] rfl rfl rfl (fun m l => h30 g1 g277 g278 g279 g292 g294 g295 m (Nat.lt_of_lt_of_le l (Nat.le_trans (Nat.le_of_lt l293) (Nat.le_trans (Nat.le_of_lt l280) (Nat.le_trans (Nat.le_of_lt l230) (Nat.le_refl n))))))
          · refine tL ((172 : Nat) : Int) 0 rfl rfl rfl ?_
            refine tK rfl ?_
            refine tCall [(((172 : Nat) : Int), 0), (5, 0)] [] rfl rfl rfl (fun m297 l297 => c_X11_fails (b_X11_fails_0 5 s ?_))
            · show zT (zE 1496) (Pt PX11_reads) m297 (75, [((172 : Nat) : Int), x1, x2, 2, 1, 0], [(0, 0)], zu s 172 9 (w32 (5 + (w32 (16 * (s 172 5)))))) Q
              exact tR rfl (h31 g1 g277 g278 g279 g292 g294 g295)
        · exact fun (g298 : s 172 6 = 3) _ => False.elim (by omega)
        · exact fun (g299 : s 172 6 = 3) _ => False.elim (by omega)
    · intro g300 g301
      show zT (zE 1496) (Pt PX11_reads) m230 (19, [((172 : Nat) : Int), x1, x2, x3, x4, x5], [(1, 0)], s) Q
      refine tS [((172 : Nat) : Int), x1, x2, 1, x4, x5] rfl rfl ?_
      refine tL ((172 : Nat) : Int) 0 rfl rfl rfl ?_
      refine tKL rfl ?_
      refine tCall [(((172 : Nat) : Int), 0), (10631, 1)] [] rfl rfl rfl (fun m302 l302 => c_X11_isWord (b_X11_isWord_0 10631 0 s ?_ ?_ ?_))
      · exact fun (g303 : s 172 6 ≠ 1)  => False.elim (by omega)
      · intro g304 g305
        show zT (zE 1496) (Pt PX11_reads) m302 (27, [((172 : Nat) : Int), x1, x2, 1, x4, x5], [(0, 0)], s) Q
        refine tS [((172 : Nat) : Int), x1, x2, 1, 0, x5] rfl rfl ?_
        refine tL ((172 : Nat) : Int) 0 rfl rfl rfl ?_
        refine tK rfl ?_
        refine tCall [(((172 : Nat) : Int), 0), (40, 0)] [] rfl rfl rfl (fun m306 l306 => c_X11_isSign (b_X11_isSign_0 40 s ?_ ?_ ?_))
        · intro g307
          show zT (zE 1496) (Pt PX11_reads) m306 (35, [((172 : Nat) : Int), x1, x2, 1, 0, x5], [(0, 0)], s) Q
          refine tS [((172 : Nat) : Int), x1, x2, 1, 0, 0] rfl rfl ?_
          refine tL 1 0 rfl rfl rfl ?_
          refine tI1 rfl (fun g _ l => zT_le ?_ (Nat.le_of_lt l)) (fun g _ l => (absurd g (by decide)))
          refine tL x1 0 rfl rfl rfl ?_
          refine tK rfl ?_
          refine tJ1 rfl (fun g308 _ l308 => zT_le ?_ (Nat.le_of_lt l308)) (fun g308 _ l308 => zT_le ?_ (Nat.le_of_lt l308))
          · refine tL 0 0 rfl rfl rfl ?_
            refine tI1 rfl (fun g _ l => (absurd g (by decide))) (fun g _ l => zT_le ?_ (Nat.le_of_lt l))
            refine tL 0 0 rfl rfl rfl ?_
            refine tI0 rfl (fun g _ l => zT_le ?_ (Nat.le_of_lt l)) (fun g _ l => (absurd g (by decide)))
            refine tL ((172 : Nat) : Int) 0 rfl rfl rfl ?_
            refine tL 1 0 rfl rfl rfl ?_
            refine tI5 rfl (fun g _ l => (absurd g (by decide))) (fun g _ l => zT_le ?_ (Nat.le_of_lt l))
            refine tL 1 0 rfl rfl rfl ?_
            refine tG rfl ?_
            exact tCall [(((172 : Nat) : Int), 0), (1, 0)] [] rfl rfl rfl (fun m l => h32 g1 g300 g301 g305 g307 g308 m (Nat.lt_of_lt_of_le l (Nat.le_trans (Nat.le_of_lt l306) (Nat.le_trans (Nat.le_of_lt l302) (Nat.le_trans (Nat.le_of_lt l230) (Nat.le_refl n))))))
          · refine tL ((172 : Nat) : Int) 0 rfl rfl rfl ?_
            refine tK rfl ?_
            refine tCall [(((172 : Nat) : Int), 0), (5, 0)] [] rfl rfl rfl (fun m310 l310 => c_X11_fails (b_X11_fails_0 5 s ?_))
            · show zT (zE 1496) (Pt PX11_reads) m310 (75, [((172 : Nat) : Int), x1, x2, 1, 0, 0], [(0, 0)], zu s 172 9 (w32 (5 + (w32 (16 * (s 172 5)))))) Q
              exact tR rfl (h33 g1 g300 g301 g305 g307 g308)
        · exact fun (g311 : s 172 6 = 3) _ => False.elim (by omega)
        · exact fun (g312 : s 172 6 = 3) _ => False.elim (by omega)
      · intro g313 g314
        show zT (zE 1496) (Pt PX11_reads) m302 (27, [((172 : Nat) : Int), x1, x2, 1, x4, x5], [(1, 0)], s) Q
        refine tS [((172 : Nat) : Int), x1, x2, 1, 1, x5] rfl rfl ?_
        refine tL ((172 : Nat) : Int) 0 rfl rfl rfl ?_
        refine tK rfl ?_
        refine tCall [(((172 : Nat) : Int), 0), (40, 0)] [] rfl rfl rfl (fun m315 l315 => c_X11_isSign (b_X11_isSign_0 40 s ?_ ?_ ?_))
        · intro g316
          show zT (zE 1496) (Pt PX11_reads) m315 (35, [((172 : Nat) : Int), x1, x2, 1, 1, x5], [(0, 0)], s) Q
          refine tS [((172 : Nat) : Int), x1, x2, 1, 1, 0] rfl rfl ?_
          refine tL 1 0 rfl rfl rfl ?_
          refine tI1 rfl (fun g _ l => zT_le ?_ (Nat.le_of_lt l)) (fun g _ l => (absurd g (by decide)))
          refine tL x1 0 rfl rfl rfl ?_
          refine tK rfl ?_
          refine tJ1 rfl (fun g317 _ l317 => zT_le ?_ (Nat.le_of_lt l317)) (fun g317 _ l317 => zT_le ?_ (Nat.le_of_lt l317))
          · refine tL 1 0 rfl rfl rfl ?_
            refine tI1 rfl (fun g _ l => zT_le ?_ (Nat.le_of_lt l)) (fun g _ l => (absurd g (by decide)))
            refine tL ((172 : Nat) : Int) 0 rfl rfl rfl ?_
            refine tL 1 0 rfl rfl rfl ?_
            refine tI0 rfl (fun g _ l => (absurd g (by decide))) (fun g _ l => zT_le ?_ (Nat.le_of_lt l))
            refine tK rfl ?_
            refine tG rfl ?_
            exact tCall [(((172 : Nat) : Int), 0), (30, 0)] [] rfl rfl rfl (fun m l => h34 g1 g300 g301 g314 g316 g317 m (Nat.lt_of_lt_of_le l (Nat.le_trans (Nat.le_of_lt l315) (Nat.le_trans (Nat.le_of_lt l302) (Nat.le_trans (Nat.le_of_lt l230) (Nat.le_refl n))))))
          · refine tL ((172 : Nat) : Int) 0 rfl rfl rfl ?_
            refine tK rfl ?_
            refine tCall [(((172 : Nat) : Int), 0), (5, 0)] [] rfl rfl rfl (fun m319 l319 => c_X11_fails (b_X11_fails_0 5 s ?_))
            · show zT (zE 1496) (Pt PX11_reads) m319 (75, [((172 : Nat) : Int), x1, x2, 1, 1, 0], [(0, 0)], zu s 172 9 (w32 (5 + (w32 (16 * (s 172 5)))))) Q
              exact tR rfl (h35 g1 g300 g301 g314 g316 g317)
        · exact fun (g320 : s 172 6 = 3) _ => False.elim (by omega)
        · exact fun (g321 : s 172 6 = 3) _ => False.elim (by omega)
    · intro g322
      show zT (zE 1496) (Pt PX11_reads) m230 (19, [((172 : Nat) : Int), x1, x2, x3, x4, x5], [(0, 0)], s) Q
      refine tS [((172 : Nat) : Int), x1, x2, 0, x4, x5] rfl rfl ?_
      refine tL ((172 : Nat) : Int) 0 rfl rfl rfl ?_
      refine tKL rfl ?_
      refine tCall [(((172 : Nat) : Int), 0), (10631, 1)] [] rfl rfl rfl (fun m323 l323 => c_X11_isWord (b_X11_isWord_0 10631 0 s ?_ ?_ ?_))
      · intro g324
        show zT (zE 1496) (Pt PX11_reads) m323 (27, [((172 : Nat) : Int), x1, x2, 0, x4, x5], [(0, 0)], s) Q
        refine tS [((172 : Nat) : Int), x1, x2, 0, 0, x5] rfl rfl ?_
        refine tL ((172 : Nat) : Int) 0 rfl rfl rfl ?_
        refine tK rfl ?_
        refine tCall [(((172 : Nat) : Int), 0), (40, 0)] [] rfl rfl rfl (fun m325 l325 => c_X11_isSign (b_X11_isSign_0 40 s ?_ ?_ ?_))
        · intro g326
          show zT (zE 1496) (Pt PX11_reads) m325 (35, [((172 : Nat) : Int), x1, x2, 0, 0, x5], [(0, 0)], s) Q
          refine tS [((172 : Nat) : Int), x1, x2, 0, 0, 0] rfl rfl ?_
          refine tL 0 0 rfl rfl rfl ?_
          refine tI1 rfl (fun g _ l => (absurd g (by decide))) (fun g _ l => zT_le ?_ (Nat.le_of_lt l))
          refine tL 0 0 rfl rfl rfl ?_
          refine tI1 rfl (fun g _ l => (absurd g (by decide))) (fun g _ l => zT_le ?_ (Nat.le_of_lt l))
          refine tL 0 0 rfl rfl rfl ?_
          refine tI1 rfl (fun g _ l => (absurd g (by decide))) (fun g _ l => zT_le ?_ (Nat.le_of_lt l))
          refine tL ((172 : Nat) : Int) 0 rfl rfl rfl ?_
          refine tFv (c := 172) (s 172 6) 0 rfl rfl rfl rfl rfl ?_
          refine tK rfl ?_
          refine tJ0 rfl (fun g327 _ l327 => zT_le ?_ (Nat.le_of_lt l327)) (fun g327 _ l327 => zT_le ?_ (Nat.le_of_lt l327))
          · refine tL x1 0 rfl rfl rfl ?_
            refine tK rfl ?_
            refine tJ1 rfl (fun g328 _ l328 => zT_le ?_ (Nat.le_of_lt l328)) (fun g328 _ l328 => zT_le ?_ (Nat.le_of_lt l328))
            · refine tL 0 0 rfl rfl rfl ?_
              refine tI1 rfl (fun g _ l => (absurd g (by decide))) (fun g _ l => zT_le ?_ (Nat.le_of_lt l))
              refine tL 0 0 rfl rfl rfl ?_
              refine tI0 rfl (fun g _ l => zT_le ?_ (Nat.le_of_lt l)) (fun g _ l => (absurd g (by decide)))
              refine tL ((172 : Nat) : Int) 0 rfl rfl rfl ?_
              refine tL 0 0 rfl rfl rfl ?_
              refine tI5 rfl (fun g _ l => zT_le ?_ (Nat.le_of_lt l)) (fun g _ l => (absurd g (by decide)))
              refine tK rfl ?_
              refine tL ((172 : Nat) : Int) 0 rfl rfl rfl ?_
              refine tFv (c := 172) (s 172 8) 0 rfl rfl rfl rfl rfl ?_
              refine tB (v := w32 (100 + (s 172 8))) rfl rfl ?_
              exact tCall [(((172 : Nat) : Int), 0), (w32 (100 + (s 172 8)), 0)] [] rfl rfl rfl (fun m l => h36 g1 g322 g326 g327 g328 m (Nat.lt_of_lt_of_le l (Nat.le_trans (Nat.le_of_lt l325) (Nat.le_trans (Nat.le_of_lt l323) (Nat.le_trans (Nat.le_of_lt l230) (Nat.le_refl n))))))
            · refine tL ((172 : Nat) : Int) 0 rfl rfl rfl ?_
              refine tK rfl ?_
              refine tCall [(((172 : Nat) : Int), 0), (5, 0)] [] rfl rfl rfl (fun m330 l330 => c_X11_fails (b_X11_fails_0 5 s ?_))
              · show zT (zE 1496) (Pt PX11_reads) m330 (75, [((172 : Nat) : Int), x1, x2, 0, 0, 0], [(0, 0)], zu s 172 9 (w32 (5 + (w32 (16 * (s 172 5)))))) Q
                exact tR rfl (h37 g1 g322 g326 g327 g328)
          · refine tL ((172 : Nat) : Int) 0 rfl rfl rfl ?_
            refine tK rfl ?_
            refine tCall [(((172 : Nat) : Int), 0), (1, 0)] [] rfl rfl rfl (fun m331 l331 => c_X11_fails (b_X11_fails_0 1 s ?_))
            · show zT (zE 1496) (Pt PX11_reads) m331 (64, [((172 : Nat) : Int), x1, x2, 0, 0, 0], [(0, 0)], zu s 172 9 (w32 (1 + (w32 (16 * (s 172 5)))))) Q
              exact tR rfl (h38 g1 g322 g326 g327)
        · intro g332 g333
          show zT (zE 1496) (Pt PX11_reads) m325 (35, [((172 : Nat) : Int), x1, x2, 0, 0, x5], [(0, 0)], s) Q
          refine tS [((172 : Nat) : Int), x1, x2, 0, 0, 0] rfl rfl ?_
          refine tL 0 0 rfl rfl rfl ?_
          refine tI1 rfl (fun g _ l => (absurd g (by decide))) (fun g _ l => zT_le ?_ (Nat.le_of_lt l))
          refine tL 0 0 rfl rfl rfl ?_
          refine tI1 rfl (fun g _ l => (absurd g (by decide))) (fun g _ l => zT_le ?_ (Nat.le_of_lt l))
          refine tL 0 0 rfl rfl rfl ?_
          refine tI1 rfl (fun g _ l => (absurd g (by decide))) (fun g _ l => zT_le ?_ (Nat.le_of_lt l))
          refine tL ((172 : Nat) : Int) 0 rfl rfl rfl ?_
          refine tFv (c := 172) (s 172 6) 0 rfl rfl rfl rfl rfl ?_
          refine tK rfl ?_
          refine tJ0 rfl (fun g _ l => False.elim (by omega)) (fun g _ l => zT_le ?_ (Nat.le_of_lt l))
          refine tL ((172 : Nat) : Int) 0 rfl rfl rfl ?_
          refine tK rfl ?_
          refine tCall [(((172 : Nat) : Int), 0), (1, 0)] [] rfl rfl rfl (fun m334 l334 => c_X11_fails (b_X11_fails_0 1 s ?_))
          · show zT (zE 1496) (Pt PX11_reads) m334 (64, [((172 : Nat) : Int), x1, x2, 0, 0, 0], [(0, 0)], zu s 172 9 (w32 (1 + (w32 (16 * (s 172 5)))))) Q
            exact tR rfl (h39 g1 g322 g332 g333)
        · intro g335 g336
          show zT (zE 1496) (Pt PX11_reads) m325 (35, [((172 : Nat) : Int), x1, x2, 0, 0, x5], [(1, 0)], s) Q
          refine tS [((172 : Nat) : Int), x1, x2, 0, 0, 1] rfl rfl ?_
          refine tL 0 0 rfl rfl rfl ?_
          refine tI1 rfl (fun g _ l => (absurd g (by decide))) (fun g _ l => zT_le ?_ (Nat.le_of_lt l))
          refine tL 0 0 rfl rfl rfl ?_
          refine tI1 rfl (fun g _ l => (absurd g (by decide))) (fun g _ l => zT_le ?_ (Nat.le_of_lt l))
          refine tL 1 0 rfl rfl rfl ?_
          refine tI1 rfl (fun g _ l => zT_le ?_ (Nat.le_of_lt l)) (fun g _ l => (absurd g (by decide)))
          refine tL x1 0 rfl rfl rfl ?_
          refine tK rfl ?_
          refine tJ1 rfl (fun g337 _ l337 => zT_le ?_ (Nat.le_of_lt l337)) (fun g337 _ l337 => zT_le ?_ (Nat.le_of_lt l337))
          · refine tL 0 0 rfl rfl rfl ?_
            refine tI1 rfl (fun g _ l => (absurd g (by decide))) (fun g _ l => zT_le ?_ (Nat.le_of_lt l))
            refine tL 1 0 rfl rfl rfl ?_
            refine tI0 rfl (fun g _ l => (absurd g (by decide))) (fun g _ l => zT_le ?_ (Nat.le_of_lt l))
            refine tL ((172 : Nat) : Int) 0 rfl rfl rfl ?_
            refine tL 0 0 rfl rfl rfl ?_
            refine tI0 rfl (fun g _ l => zT_le ?_ (Nat.le_of_lt l)) (fun g _ l => (absurd g (by decide)))
            refine tK rfl ?_
            exact tCall [(((172 : Nat) : Int), 0), (28, 0)] [] rfl rfl rfl (fun m l => h40 g1 g322 g335 g336 g337 m (Nat.lt_of_lt_of_le l (Nat.le_trans (Nat.le_of_lt l325) (Nat.le_trans (Nat.le_of_lt l323) (Nat.le_trans (Nat.le_of_lt l230) (Nat.le_refl n))))))
          · refine tL ((172 : Nat) : Int) 0 rfl rfl rfl ?_
            refine tK rfl ?_
            refine tCall [(((172 : Nat) : Int), 0), (5, 0)] [] rfl rfl rfl (fun m339 l339 => c_X11_fails (b_X11_fails_0 5 s ?_))
            · show zT (zE 1496) (Pt PX11_reads) m339 (75, [((172 : Nat) : Int), x1, x2, 0, 0, 1], [(0, 0)], zu s 172 9 (w32 (5 + (w32 (16 * (s 172 5)))))) Q
              exact tR rfl (h41 g1 g322 g335 g336 g337)
      · exact fun (g340 : s 172 6 = 1) _ => False.elim (by omega)
      · exact fun (g341 : s 172 6 = 1) _ => False.elim (by omega)

theorem b_X11_reads_152 {n : Nat} {Q : Zr → Prop} (x1 x2 x3 x4 x5 : Int) (s : Zs) 
    (h0 : ∀ (g1 : x1 ≤ 0), ∀ m, m < n → zC m 1482 [(((172 : Nat) : Int), 0)] s (fun p => zT (zE 1496) (Pt PX11_reads) m (176, [((172 : Nat) : Int), x1, x2, x3, x4, x5], p.1 ++ [], p.2) Q))
    (h1 : ∀ (g1 : 0 < x1), ∀ (g3 : s 195 x1.toNat ≠ 1), ∀ m, m < n → zC m 1482 [(((172 : Nat) : Int), 0)] s (fun p => zT (zE 1496) (Pt PX11_reads) m (176, [((172 : Nat) : Int), x1, x2, x3, x4, x5], p.1 ++ [], p.2) Q))
    (h2 : ∀ (g1 : 0 < x1), ∀ (g3 : s 195 x1.toNat = 1), ∀ m, m < n → zT (zE 1496) (Pt PX11_reads) m (152, [((172 : Nat) : Int), w32 (x1 + (-1)), x2, x3, x4, x5], [], s) Q) : zT (zE 1496) (Pt PX11_reads) n (152, [((172 : Nat) : Int), x1, x2, x3, x4, x5], [], s) Q := by
  refine tL x1 0 rfl rfl rfl ?_
  refine tI5 rfl (fun g1 _ l1 => zT_le ?_ (Nat.le_of_lt l1)) (fun g1 _ l1 => zT_le ?_ (Nat.le_of_lt l1))
  · refine tL ((172 : Nat) : Int) 0 rfl rfl rfl ?_
    exact tCall [(((172 : Nat) : Int), 0)] [] rfl rfl rfl (fun m l => h0 g1 m (Nat.lt_of_lt_of_le l (Nat.le_refl n)))
  · refine tL ((172 : Nat) : Int) 0 rfl rfl rfl ?_
    refine tFR (c := 172) 195 rfl rfl rfl rfl rfl ?_
    refine tL x1 0 rfl rfl rfl ?_
    refine tAv 195 x1.toNat (s 195 x1.toNat) 0 rfl rfl rfl (by decide) rfl rfl ?_
    refine tK rfl ?_
    refine tJ1 rfl (fun g3 _ l3 => zT_le ?_ (Nat.le_of_lt l3)) (fun g3 _ l3 => zT_le ?_ (Nat.le_of_lt l3))
    · refine tL ((172 : Nat) : Int) 0 rfl rfl rfl ?_
      exact tCall [(((172 : Nat) : Int), 0)] [] rfl rfl rfl (fun m l => h1 g1 g3 m (Nat.lt_of_lt_of_le l (Nat.le_refl n)))
    · refine tInc [((172 : Nat) : Int), w32 (x1 + (-1)), x2, x3, x4, x5] rfl rfl ?_
      exact tGb rfl (fun m2 l2 => h2 g1 g3 m2 (Nat.lt_of_lt_of_le l2 (Nat.le_refl n)))

theorem b_X11_reads_379 {n : Nat} {Q : Zr → Prop} (x1 x2 x3 x4 x5 : Int) (s : Zs) 
    (h0 : ∀ (g1 : x1 ≤ 0), ∀ m, m < n → zC m 1482 [(((172 : Nat) : Int), 0)] s (fun p => zT (zE 1496) (Pt PX11_reads) m (428, [((172 : Nat) : Int), x1, x2, x3, x4, x5], p.1 ++ [], p.2) Q))
    (h1 : ∀ (g1 : 0 < x1), ∀ (g3 : s 195 x1.toNat ≠ 1), ∀ m, m < n → zC m 1482 [(((172 : Nat) : Int), 0)] s (fun p => zT (zE 1496) (Pt PX11_reads) m (428, [((172 : Nat) : Int), x1, x2, x3, x4, x5], p.1 ++ [], p.2) Q))
    (h2 : ∀ (g1 : 0 < x1), ∀ (g3 : s 195 x1.toNat = 1), ∀ m, m < n → zT (zE 1496) (Pt PX11_reads) m (379, [((172 : Nat) : Int), w32 (x1 + (-1)), x2, x3, x4, x5], [], s) Q) : zT (zE 1496) (Pt PX11_reads) n (379, [((172 : Nat) : Int), x1, x2, x3, x4, x5], [], s) Q := by
  refine tL x1 0 rfl rfl rfl ?_
  refine tI5 rfl (fun g1 _ l1 => zT_le ?_ (Nat.le_of_lt l1)) (fun g1 _ l1 => zT_le ?_ (Nat.le_of_lt l1))
  · refine tL ((172 : Nat) : Int) 0 rfl rfl rfl ?_
    exact tCall [(((172 : Nat) : Int), 0)] [] rfl rfl rfl (fun m l => h0 g1 m (Nat.lt_of_lt_of_le l (Nat.le_refl n)))
  · refine tL ((172 : Nat) : Int) 0 rfl rfl rfl ?_
    refine tFR (c := 172) 195 rfl rfl rfl rfl rfl ?_
    refine tL x1 0 rfl rfl rfl ?_
    refine tAv 195 x1.toNat (s 195 x1.toNat) 0 rfl rfl rfl (by decide) rfl rfl ?_
    refine tK rfl ?_
    refine tJ1 rfl (fun g3 _ l3 => zT_le ?_ (Nat.le_of_lt l3)) (fun g3 _ l3 => zT_le ?_ (Nat.le_of_lt l3))
    · refine tL ((172 : Nat) : Int) 0 rfl rfl rfl ?_
      exact tCall [(((172 : Nat) : Int), 0)] [] rfl rfl rfl (fun m l => h1 g1 g3 m (Nat.lt_of_lt_of_le l (Nat.le_refl n)))
    · refine tInc [((172 : Nat) : Int), w32 (x1 + (-1)), x2, x3, x4, x5] rfl rfl ?_
      exact tGb rfl (fun m2 l2 => h2 g1 g3 m2 (Nat.lt_of_lt_of_le l2 (Nat.le_refl n)))

theorem b_X11_reads_345 {n : Nat} {Q : Zr → Prop} (x1 x2 x3 x4 x5 : Int) (s : Zs) 
    (h0 : ∀ m, m < n → zC m 1482 [(((172 : Nat) : Int), 0)] (zu s 196 x1.toNat (zst3 0)) (fun p => zT (zE 1496) (Pt PX11_reads) m (428, [((172 : Nat) : Int), x1, 1, x3, x4, x5], p.1 ++ [], p.2) Q)) : zT (zE 1496) (Pt PX11_reads) n (345, [((172 : Nat) : Int), x1, x2, x3, x4, x5], [], s) Q := by
  refine tL ((172 : Nat) : Int) 0 rfl rfl rfl ?_
  refine tFR (c := 172) 196 rfl rfl rfl rfl rfl ?_
  refine tL x1 0 rfl rfl rfl ?_
  refine tK rfl ?_
  refine tAS3 196 x1.toNat rfl rfl rfl ?_
  refine tK rfl ?_
  refine tS [((172 : Nat) : Int), x1, 1, x3, x4, x5] rfl rfl ?_
  refine tG rfl ?_
  refine tL ((172 : Nat) : Int) 0 rfl rfl rfl ?_
  exact tCall [(((172 : Nat) : Int), 0)] [] rfl rfl rfl (fun m l => h0 m (Nat.lt_of_lt_of_le l (Nat.le_refl n)))

theorem b_X11_reads_416 {n : Nat} {Q : Zr → Prop} (x1 x2 x3 x4 x5 : Int) (s : Zs) 
    (h0 : Q ([(1, 0)], s)) : zT (zE 1496) (Pt PX11_reads) n (416, [((172 : Nat) : Int), x1, x2, x3, x4, x5], [], s) Q := by
  refine tK rfl ?_
  exact tR rfl (h0)

theorem b_X11_reads_376 {n : Nat} {Q : Zr → Prop} (x1 x2 x3 x4 x5 : Int) (s : Zs) 
    (h0 : zT (zE 1496) (Pt PX11_reads) n (379, [((172 : Nat) : Int), w32 (x1 + (-1)), x2, x3, x4, x5], [], s) Q) : zT (zE 1496) (Pt PX11_reads) n (376, [((172 : Nat) : Int), x1, x2, x3, x4, x5], [], s) Q := by
  refine tInc [((172 : Nat) : Int), w32 (x1 + (-1)), x2, x3, x4, x5] rfl rfl ?_
  exact zT_le (h0) (Nat.le_refl n)

theorem b_X11_reads_292 {n : Nat} {Q : Zr → Prop} (x1 x2 x3 x4 x5 : Int) (s : Zs) 
    (h0 : ∀ m, m < n → zC m 1482 [(((172 : Nat) : Int), 0)] (zu s 196 x1.toNat (zst3 1)) (fun p => zT (zE 1496) (Pt PX11_reads) m (428, [((172 : Nat) : Int), x1, 1, x3, x4, x5], p.1 ++ [], p.2) Q)) : zT (zE 1496) (Pt PX11_reads) n (292, [((172 : Nat) : Int), x1, x2, x3, x4, x5], [], s) Q := by
  refine tL ((172 : Nat) : Int) 0 rfl rfl rfl ?_
  refine tFR (c := 172) 196 rfl rfl rfl rfl rfl ?_
  refine tL x1 0 rfl rfl rfl ?_
  refine tK rfl ?_
  refine tAS3 196 x1.toNat rfl rfl rfl ?_
  refine tK rfl ?_
  refine tS [((172 : Nat) : Int), x1, 1, x3, x4, x5] rfl rfl ?_
  refine tG rfl ?_
  refine tL ((172 : Nat) : Int) 0 rfl rfl rfl ?_
  exact tCall [(((172 : Nat) : Int), 0)] [] rfl rfl rfl (fun m l => h0 m (Nat.lt_of_lt_of_le l (Nat.le_refl n)))

theorem b_X11_reads_240 {n : Nat} {Q : Zr → Prop} (x1 x2 x3 x4 x5 : Int) (s : Zs) 
    (h0 : ∀ m, m < n → zC m 1482 [(((172 : Nat) : Int), 0)] s (fun p => zT (zE 1496) (Pt PX11_reads) m (428, [((172 : Nat) : Int), x1, 1, x3, x4, x5], p.1 ++ [], p.2) Q)) : zT (zE 1496) (Pt PX11_reads) n (240, [((172 : Nat) : Int), x1, x2, x3, x4, x5], [], s) Q := by
  refine tK rfl ?_
  refine tS [((172 : Nat) : Int), x1, 1, x3, x4, x5] rfl rfl ?_
  refine tG rfl ?_
  refine tL ((172 : Nat) : Int) 0 rfl rfl rfl ?_
  exact tCall [(((172 : Nat) : Int), 0)] [] rfl rfl rfl (fun m l => h0 m (Nat.lt_of_lt_of_le l (Nat.le_refl n)))

theorem b_X11_reads_102 {n : Nat} {Q : Zr → Prop} (x1 x2 x3 x4 x5 : Int) (s : Zs) 
    (h0 : ∀ (g1 : x4 = 0), ∀ m, m < n → zC m 1482 [(((172 : Nat) : Int), 0)] (zu (zu s 195 ((w32 (x1 + 1)).toNat) 2) 196 ((w32 (x1 + 1)).toNat) (zst3 0)) (fun p => zT (zE 1496) (Pt PX11_reads) m (176, [((172 : Nat) : Int), w32 (x1 + 1), x2, x3, x4, x5], p.1 ++ [], p.2) Q))
    (h1 : ∀ (g1 : x4 ≠ 0), ∀ m, m < n → zC m 1482 [(((172 : Nat) : Int), 0)] (zu (zu s 195 ((w32 (x1 + 1)).toNat) 1) 196 ((w32 (x1 + 1)).toNat) (zst3 0)) (fun p => zT (zE 1496) (Pt PX11_reads) m (176, [((172 : Nat) : Int), w32 (x1 + 1), x2, x3, x4, x5], p.1 ++ [], p.2) Q)) : zT (zE 1496) (Pt PX11_reads) n (102, [((172 : Nat) : Int), x1, x2, x3, x4, x5], [], s) Q := by
  refine tInc [((172 : Nat) : Int), w32 (x1 + 1), x2, x3, x4, x5] rfl rfl ?_
  refine tL ((172 : Nat) : Int) 0 rfl rfl rfl ?_
  refine tFR (c := 172) 195 rfl rfl rfl rfl rfl ?_
  refine tL (w32 (x1 + 1)) 0 rfl rfl rfl ?_
  refine tL x4 0 rfl rfl rfl ?_
  refine tI0 rfl (fun g1 _ l1 => zT_le ?_ (Nat.le_of_lt l1)) (fun g1 _ l1 => zT_le ?_ (Nat.le_of_lt l1))
  · refine tK rfl ?_
    refine tAS 195 ((w32 (x1 + 1)).toNat) rfl rfl rfl (by decide) ?_
    refine tL ((172 : Nat) : Int) 0 rfl rfl rfl ?_
    refine tFR (c := 172) 196 rfl rfl rfl rfl rfl ?_
    refine tL (w32 (x1 + 1)) 0 rfl rfl rfl ?_
    refine tK rfl ?_
    refine tAS3 196 ((w32 (x1 + 1)).toNat) rfl rfl rfl ?_
    refine tG rfl ?_
    refine tL ((172 : Nat) : Int) 0 rfl rfl rfl ?_
    exact tCall [(((172 : Nat) : Int), 0)] [] rfl rfl rfl (fun m l => h0 g1 m (Nat.lt_of_lt_of_le l (Nat.le_refl n)))
  · refine tK rfl ?_
    refine tG rfl ?_
    refine tAS 195 ((w32 (x1 + 1)).toNat) rfl rfl rfl (by decide) ?_
    refine tL ((172 : Nat) : Int) 0 rfl rfl rfl ?_
    refine tFR (c := 172) 196 rfl rfl rfl rfl rfl ?_
    refine tL (w32 (x1 + 1)) 0 rfl rfl rfl ?_
    refine tK rfl ?_
    refine tAS3 196 ((w32 (x1 + 1)).toNat) rfl rfl rfl ?_
    refine tG rfl ?_
    refine tL ((172 : Nat) : Int) 0 rfl rfl rfl ?_
    exact tCall [(((172 : Nat) : Int), 0)] [] rfl rfl rfl (fun m l => h1 g1 m (Nat.lt_of_lt_of_le l (Nat.le_refl n)))

theorem b_X11_reads_150 {n : Nat} {Q : Zr → Prop} (x1 x2 x3 x4 x5 : Int) (s : Zs) 
    (h0 : zT (zE 1496) (Pt PX11_reads) n (152, [((172 : Nat) : Int), x1, 0, x3, x4, x5], [], s) Q) : zT (zE 1496) (Pt PX11_reads) n (150, [((172 : Nat) : Int), x1, x2, x3, x4, x5], [], s) Q := by
  refine tK rfl ?_
  refine tS [((172 : Nat) : Int), x1, 0, x3, x4, x5] rfl rfl ?_
  exact zT_le (h0) (Nat.le_refl n)

theorem b_X11_reads_176 {n : Nat} {Q : Zr → Prop} (x1 x2 x3 x4 x5 : Int) (s : Zs) 
    (h0 : ∀ m, m < n → zT (zE 1496) (Pt PX11_reads) m (11, [((172 : Nat) : Int), x1, x2, x3, x4, x5], [], s) Q) : zT (zE 1496) (Pt PX11_reads) n (176, [((172 : Nat) : Int), x1, x2, x3, x4, x5], [], s) Q := by
  exact tGb rfl (fun m2 l2 => h0 m2 (Nat.lt_of_lt_of_le l2 (Nat.le_refl n)))

theorem b_X11_reads_428 {n : Nat} {Q : Zr → Prop} (x1 x2 x3 x4 x5 : Int) (s : Zs) 
    (h0 : ∀ m, m < n → zT (zE 1496) (Pt PX11_reads) m (11, [((172 : Nat) : Int), x1, x2, x3, x4, x5], [], s) Q) : zT (zE 1496) (Pt PX11_reads) n (428, [((172 : Nat) : Int), x1, x2, x3, x4, x5], [], s) Q := by
  exact tGb rfl (fun m2 l2 => h0 m2 (Nat.lt_of_lt_of_le l2 (Nat.le_refl n)))

theorem c_X11_reads {n : Nat} {Q : Zr → Prop} {a0 : Int} {s : Zs} (h : zT (zE 1496) (Pt PX11_reads) n (0, [a0, 0, 0, 0, 0, 0], [], s) Q) : zC n 1496 [(a0, 0)] s Q := h

theorem b_X11_readsPrice_0 {n : Nat} {Q : Zr → Prop} (s : Zs) 
    (h0 : ∀ (g1 : s 193 1 ≤ s 192 1), ∀ m, m < n → zC m 1482 [(((172 : Nat) : Int), 0)] s (fun p => zT (zE 1504) (Pt PX11_readsPrice) m (25, [((172 : Nat) : Int)], p.1 ++ [], p.2) Q))
    (h1 : ∀ (g1 : s 192 1 < s 193 1), Q ([(0, 0)], zu s 172 9 (w32 (3 + (w32 (16 * (s 172 5))))))) : zT (zE 1504) (Pt PX11_readsPrice) n (0, [((172 : Nat) : Int)], [], s) Q := by
  refine tL ((172 : Nat) : Int) 0 rfl rfl rfl ?_
  refine tFR (c := 172) 193 rfl rfl rfl rfl rfl ?_
  refine tK rfl ?_
  refine tAv 193 1 (s 193 1) 0 rfl rfl rfl (by decide) rfl rfl ?_
  refine tL ((172 : Nat) : Int) 0 rfl rfl rfl ?_
  refine tFR (c := 172) 192 rfl rfl rfl rfl rfl ?_
  refine tK rfl ?_
  refine tAv 192 1 (s 192 1) 0 rfl rfl rfl (by decide) rfl rfl ?_
  refine tJ5 rfl (fun g1 _ l1 => zT_le ?_ (Nat.le_of_lt l1)) (fun g1 _ l1 => zT_le ?_ (Nat.le_of_lt l1))
  · refine tL ((172 : Nat) : Int) 0 rfl rfl rfl ?_
    exact tCall [(((172 : Nat) : Int), 0)] [] rfl rfl rfl (fun m l => h0 g1 m (Nat.lt_of_lt_of_le l (Nat.le_refl n)))
  · refine tL ((172 : Nat) : Int) 0 rfl rfl rfl ?_
    refine tK rfl ?_
    refine tCall [(((172 : Nat) : Int), 0), (3, 0)] [] rfl rfl rfl (fun m3 l3 => c_X11_fails (b_X11_fails_0 3 s ?_))
    · show zT (zE 1504) (Pt PX11_readsPrice) m3 (20, [((172 : Nat) : Int)], [(0, 0)], zu s 172 9 (w32 (3 + (w32 (16 * (s 172 5)))))) Q
      exact tR rfl (h1 g1)

theorem b_X11_readsPrice_25 {n : Nat} {Q : Zr → Prop} (s : Zs) 
    (h0 : ∀ m, m < n → zC m 1496 [(((172 : Nat) : Int), 0)] (zu s 192 1 (s 172 31)) (fun p => zT (zE 1504) (Pt PX11_readsPrice) m (39, [((172 : Nat) : Int)], p.1 ++ [], p.2) Q)) : zT (zE 1504) (Pt PX11_readsPrice) n (25, [((172 : Nat) : Int)], [], s) Q := by
  refine tL ((172 : Nat) : Int) 0 rfl rfl rfl ?_
  refine tFR (c := 172) 192 rfl rfl rfl rfl rfl ?_
  refine tK rfl ?_
  refine tL ((172 : Nat) : Int) 0 rfl rfl rfl ?_
  refine tFv (c := 172) (s 172 31) 0 rfl rfl rfl rfl rfl ?_
  refine tAS 192 1 rfl rfl rfl (by decide) ?_
  refine tL ((172 : Nat) : Int) 0 rfl rfl rfl ?_
  exact tCall [(((172 : Nat) : Int), 0)] [] rfl rfl rfl (fun m l => h0 m (Nat.lt_of_lt_of_le l (Nat.le_refl n)))

theorem b_X11_readsPrice_39 {n : Nat} {Q : Zr → Prop} (v0 : Int) (s : Zs) 
    (h0 : ∀ (g1 : v0 ≠ 0), Q ([(1, 0)], zu s 193 1 (s 172 31)))
    (h1 : ∀ (g1 : v0 = 0), Q ([(0, 0)], s)) : zT (zE 1504) (Pt PX11_readsPrice) n (39, [((172 : Nat) : Int)], [(v0, 0)], s) Q := by
  refine tI1 rfl (fun g1 _ l1 => zT_le ?_ (Nat.le_of_lt l1)) (fun g1 _ l1 => zT_le ?_ (Nat.le_of_lt l1))
  · refine tL ((172 : Nat) : Int) 0 rfl rfl rfl ?_
    refine tFR (c := 172) 193 rfl rfl rfl rfl rfl ?_
    refine tK rfl ?_
    refine tL ((172 : Nat) : Int) 0 rfl rfl rfl ?_
    refine tFv (c := 172) (s 172 31) 0 rfl rfl rfl rfl rfl ?_
    refine tAS 193 1 rfl rfl rfl (by decide) ?_
    refine tK rfl ?_
    exact tR rfl (h0 g1)
  · refine tK rfl ?_
    exact tR rfl (h1 g1)

theorem c_X11_readsPrice {n : Nat} {Q : Zr → Prop} {a0 : Int} {s : Zs} (h : zT (zE 1504) (Pt PX11_readsPrice) n (0, [a0], [], s) Q) : zC n 1504 [(a0, 0)] s Q := h

/-- what stands open, as the model keeps it -/
def mo (s : Zs) : List (Bool × Bool) → Prop
  | [] => True
  | a :: l => (l ≠ [] → s 195 l.length = if a.1 = true then 1 else 2) ∧ s 196 l.length = b2i a.2 ∧ mo s l
theorem mo_out {s s' : Zs} : ∀ l : List (Bool × Bool), (∀ j, j < l.length → s' 195 j = s 195 j ∧ s' 196 j = s 196 j) → mo s l → mo s' l
  | [], _, _ => True.intro
  | a :: l, h, ⟨h1, h2, h3⟩ => by
    have h0 := h l.length (by simp)
    exact ⟨fun q => by rw [h0.1]; exact h1 q, by rw [h0.2]; exact h2, mo_out l (fun j hj => h j (by simp; omega)) h3⟩
theorem mo_pop {s : Zs} : ∀ l : List (Bool × Bool), mo s l → mo s (popZ l)
  | [], h => h
  | [a], h => h
  | a :: b :: l, h => by
    unfold popZ
    split
    · exact mo_pop (b :: l) h.2.2
    · exact h
theorem popZ_len : ∀ l : List (Bool × Bool), (popZ l).length ≤ l.length ∧ (l ≠ [] → 1 ≤ (popZ l).length)
  | [] => ⟨Nat.le_refl _, fun q => absurd rfl q⟩
  | [a] => ⟨Nat.le_refl _, fun _ => Nat.le_refl _⟩
  | a :: b :: l => by
    have h := popZ_len (b :: l)
    unfold popZ
    split
    · exact ⟨by have := h.1; rw [List.length_cons]; omega, fun _ => h.2 (by simp)⟩
    · exact ⟨Nat.le_refl _, fun _ => by simp⟩
section Zmq
variable {N : Nat} {s : Zs} {T : Nat → Int} {n p : Nat} {D : ZD}
theorem pop1 {s : Zs} {x2 x3 x4 x5 : Int} {Q : Zr → Prop} : ∀ (l : List (Bool × Bool)) (M : Nat), l ≠ [] → l.length ≤ 7 → mo s l → (∀ m, m < M → zC m 1482 [(((172 : Nat) : Int), 0)] s (fun p => zT (zE 1496) (Pt PX11_reads) m (176, [((172 : Nat) : Int), (((popZ l).length - 1 : Nat) : Int), x2, x3, x4, x5], p.1 ++ [], p.2) Q)) → zT (zE 1496) (Pt PX11_reads) M (152, [((172 : Nat) : Int), ((l.length - 1 : Nat) : Int), x2, x3, x4, x5], [], s) Q
  | [], _, h, _, _, _ => absurd rfl h
  | [a], M, _, _, _, k => b_X11_reads_152 _ _ _ _ _ s (fun g m hm => k m hm) (fun g g3 m hm => k m hm) (fun g => absurd g (by simp))
  | a :: b :: l, M, _, hl, hm, k => by
    have h1 := hm.1 (by simp)
    have hl : l.length + 2 ≤ 7 := hl
    have e : ((((a :: b :: l).length - 1 : Nat) : Int)).toNat = (b :: l).length := by simp
    refine b_X11_reads_152 _ _ _ _ _ s (fun g => absurd g (by simp)) (fun g g3 m hm' => ?_) (fun g g3 m hm' => ?_)
    · rw [e, h1] at g3
      have ha : a.1 ≠ true := fun q => g3 (if_pos q)
      have ep : popZ (a :: b :: l) = a :: b :: l := if_neg ha
      have := k m hm'
      rw [ep] at this
      exact this
    · rw [e, h1] at g3
      have ha : a.1 = true := Decidable.byContradiction fun q => by rw [if_neg q] at g3; omega
      have ep : popZ (a :: b :: l) = popZ (b :: l) := if_pos ha
      rw [w32_id (by simp; omega) (by simp; omega), show ((((a :: b :: l).length - 1 : Nat) : Int)) + -1 = (((b :: l).length - 1 : Nat) : Int) from by simp; omega]
      refine pop1 (b :: l) m (by simp) (by simp; omega) hm.2.2 (fun m2 hm2 => ?_)
      have := k m2 (by omega)
      rw [ep] at this
      exact this
theorem pop2 {s : Zs} {x2 x3 x4 x5 : Int} {Q : Zr → Prop} : ∀ (l : List (Bool × Bool)) (M : Nat), l ≠ [] → l.length ≤ 7 → mo s l → (∀ m, m < M → zC m 1482 [(((172 : Nat) : Int), 0)] s (fun p => zT (zE 1496) (Pt PX11_reads) m (428, [((172 : Nat) : Int), (((popZ l).length - 1 : Nat) : Int), x2, x3, x4, x5], p.1 ++ [], p.2) Q)) → zT (zE 1496) (Pt PX11_reads) M (379, [((172 : Nat) : Int), ((l.length - 1 : Nat) : Int), x2, x3, x4, x5], [], s) Q
  | [], _, h, _, _, _ => absurd rfl h
  | [a], M, _, _, _, k => b_X11_reads_379 _ _ _ _ _ s (fun g m hm => k m hm) (fun g g3 m hm => k m hm) (fun g => absurd g (by simp))
  | a :: b :: l, M, _, hl, hm, k => by
    have h1 := hm.1 (by simp)
    have hl : l.length + 2 ≤ 7 := hl
    have e : ((((a :: b :: l).length - 1 : Nat) : Int)).toNat = (b :: l).length := by simp
    refine b_X11_reads_379 _ _ _ _ _ s (fun g => absurd g (by simp)) (fun g g3 m hm' => ?_) (fun g g3 m hm' => ?_)
    · rw [e, h1] at g3
      have ha : a.1 ≠ true := fun q => g3 (if_pos q)
      have ep : popZ (a :: b :: l) = a :: b :: l := if_neg ha
      have := k m hm'
      rw [ep] at this
      exact this
    · rw [e, h1] at g3
      have ha : a.1 = true := Decidable.byContradiction fun q => by rw [if_neg q] at g3; omega
      have ep : popZ (a :: b :: l) = popZ (b :: l) := if_pos ha
      rw [w32_id (by simp; omega) (by simp; omega), show ((((a :: b :: l).length - 1 : Nat) : Int)) + -1 = (((b :: l).length - 1 : Nat) : Int) from by simp; omega]
      refine pop2 (b :: l) m (by simp) (by simp; omega) hm.2.2 (fun m2 hm2 => ?_)
      have := k m2 (by omega)
      rw [ep] at this
      exact this
def frR (s s' : Zs) : Prop := ∀ c j, ¬ (c = 172 ∧ (4 ≤ j ∧ j ≤ 9 ∨ j = 31)) → ¬ (194 ≤ c ∧ c ≤ 196) → s' c j = s c j
theorem frR_tr {s s' s'' : Zs} (h1 : frR s s') (h2 : frR s' s'') : frR s s'' := fun c j a b => (h2 c j a b).trans (h1 c j a b)
theorem frR_M {s s' : Zs} (h : frM s s') : frR s s' := fun c j a b => h c j (by omega)
def qPr (s0 : Zs) (T : Nat → Int) (n : Nat) (c0 : Int) (y : PS) (r : Zr) : Prop := r.1 = [(if y.1 = 0 then 1 else 0, 0)] ∧ frR s0 r.2 ∧ (y.1 = 0 → mst r.2 T n y.2 ∧ c0 < r.2 172 31 ∧ r.2 172 31 ≤ 1000 + (y.2 : Int)) ∧ (y.1 ≠ 0 → r.2 172 9 = y.1)
theorem mK {i : Nat} {C : Int} (h : mst s T n p) (hi : i < 28) (hC : C = enc 27 (KW i)) : isKw T n (kB T n p) (i : Int) = true ↔ (s 172 6 = 1 ∧ zcmpL (s 172 7) C = 0) := by
  have h6 : s 172 6 = mQ (eQ T n (kB T n p)) := h.2.2.2.2.1
  constructor
  · intro q
    have q := isKw_q q
    exact ⟨h6.trans (mQ_1.mpr q.1), zcmpL_eq.mpr (((mword h hi q.1).mpr ((kwi_iff hi).mp q.2)).trans hC.symm)⟩
  · intro q
    have hq := mQ_1.mp (h6.symm.trans q.1)
    unfold isKw
    rw [decide_eq_true hq, decide_eq_true ((kwi_iff hi).mpr ((mword h hi hq).mp ((zcmpL_eq.mp q.2).trans hC)))]
    rfl
theorem mSg {c : Int} (h : mst s T n p) : isSg T n (kB T n p) c = true ↔ (s 172 6 = 3 ∧ s 173 (s 172 5).toNat = c) := by
  have h6 : s 172 6 = mQ (eQ T n (kB T n p)) := h.2.2.2.2.1
  have hT : eQ T n (kB T n p) = 4 → s 173 (s 172 5).toNat = T (kB T n p) := fun hq => by
    rw [h.2.2.1, Int.toNat_natCast]
    exact h.1.2.2 _ (eQ_lt h.2.1 (by omega)).1
  constructor
  · intro q
    have q := isSg_q q
    exact ⟨h6.trans (mQ_3.mpr q.1), (hT q.1).trans q.2⟩
  · intro q
    have hq := mQ_3.mp (h6.symm.trans q.1)
    unfold isSg
    rw [decide_eq_true hq, decide_eq_true ((hT hq).symm.trans q.2)]
    rfl
theorem mNu (h : mst s T n p) : isNu T n (kB T n p) = true ↔ s 172 6 = 2 := by
  have h6 : s 172 6 = mQ (eQ T n (kB T n p)) := h.2.2.2.2.1
  unfold isNu
  rw [decide_eq_true_eq, h6]
  exact mQ_2.symm
theorem mFa (h : mst s T n p) : isFa T n (kB T n p) = true ↔ (s 172 6 = 1 ∧ (zcmpL (s 172 7) 164222 = 0 ∨ zcmpL (s 172 7) 205811839 = 0 ∨ zcmpL (s 172 7) 149099 = 0)) := by
  have k25 := mK (i := 25) (C := 164222) h (by omega) (by decide)
  have k26 := mK (i := 26) (C := 205811839) h (by omega) (by decide)
  have k27 := mK (i := 27) (C := 149099) h (by omega) (by decide)
  have h6 : s 172 6 = mQ (eQ T n (kB T n p)) := h.2.2.2.2.1
  have kw : ∀ i : Int, isKw T n (kB T n p) i = true ↔ (eQ T n (kB T n p) = 2 ∧ kwi (eW T n (kB T n p)) = i) := fun i => by unfold isKw; simp
  rw [kw] at k25 k26 k27
  have hlt : kwi (eW T n (kB T n p)) < 28 := kwp_lt 28
  have hf : isFa T n (kB T n p) = true ↔ (eQ T n (kB T n p) = 2 ∧ 25 ≤ kwi (eW T n (kB T n p))) := by unfold isFa; simp
  rw [hf]
  omega
theorem puts_q {v : Int} {Q : Zr → Prop} (h : mst s T n p) {l : List (Bool × Bool)} (hm : mo s l) (hc : 0 ≤ s 172 31 ∧ s 172 31 ≤ 100000) (k : ∀ s', frR s s' → mst s' T n p → mo s' l → s' 172 31 = s 172 31 + 1 → Q ([], s')) : zC N 1493 [(((172 : Nat) : Int), 0), (v, 0)] s Q := by
  refine c_X11_puts (b_X11_puts_0 _ s (k _ (fun c j a b => by rw [zu_n (by omega), zu_n (by omega)]) (mst_out h (fun c i hci => by rw [zu_n (by omega), zu_n (by omega)])) (mo_out l (fun j hj => ⟨by rw [zu_n (by omega), zu_n (by omega)], by rw [zu_n (by omega), zu_n (by omega)]⟩) hm) ?_))
  rw [zu_eq, w32_id (by omega) (by omega)]
def wI (w : Bool) : Int := if w = true then 1 else 0
def RI (s0 s : Zs) (T : Nat → Int) (n : Nat) (c0 : Int) (p : Nat) (w : Bool) (l : List (Bool × Bool)) : Prop := mst s T n p ∧ l ≠ [] ∧ l.length ≤ 6 ∧ mo s l ∧ frR s0 s ∧ c0 ≤ s 172 31 ∧ 0 ≤ s 172 31 ∧ s 172 31 ≤ 1000 + (p : Int) ∧ (w = false → c0 < s 172 31)
theorem reads_bad {s0 : Zs} {c0 k' : Int} {y : PS} (hk : 1 ≤ k' ∧ k' ≤ 5) (h : mst s T n p) (f : frR s0 s) (hy : y = gF T n k' (0, p)) : qPr s0 T n c0 y ([(0, 0)], zu s 172 9 (w32 (k' + w32 (16 * s 172 5)))) := by
  have hne : y.1 ≠ 0 := by rw [hy]; exact gF_ne hk.1 rfl
  obtain ⟨e, f2, a, b⟩ := mst_fail hk h hy
  exact ⟨e, frR_tr f (fun c j q1 q2 => zu_n (by omega)), fun q => absurd q hne, b⟩
/-- on to the next token: the loop's head again -/
theorem RI_next {s0 s1 : Zs} {c0 : Int} {w : Bool} {l : List (Bool × Bool)} {Q : Zr → Prop} {m : Nat} (h : mst s1 T n p) (hne : eQ T n (kB T n p) ≠ 1) (h1 : l ≠ []) (h2 : l.length ≤ 6) (h3 : mo s1 l) (f : frR s0 s1) (b1 : c0 ≤ s1 172 31) (b0 : 0 ≤ s1 172 31) (b2 : s1 172 31 ≤ 1001 + (p : Int)) (b3 : w = false → c0 < s1 172 31) (k : ∀ s', RI s0 s' T n c0 (kE T n p) w l → Q ([], s')) : zC m 1482 [(((172 : Nat) : Int), 0)] s1 Q := by
  refine mst_next h (fun s' f' p' => k s' ?_)
  have e31 : s' 172 31 = s1 172 31 := f' 172 31 (by omega)
  have hlt := eQ_lt h.2.1 hne
  exact ⟨p', h1, h2, mo_out l (fun j _ => ⟨f' _ _ (by omega), f' _ _ (by omega)⟩) h3, frR_tr f (frR_M f'), by omega, by omega, by omega, fun q => by have := b3 q; omega⟩
theorem reads_loop {s0 : Zs} {c0 : Int} : ∀ (M : Nat) (p : Nat) (w : Bool) (l : List (Bool × Bool)) (s : Zs) (x3 x4 x5 : Int), RI s0 s T n c0 p w l → zT (zE 1496) (Pt PX11_reads) M (11, [((172 : Nat) : Int), ((l.length - 1 : Nat) : Int), wI w, x3, x4, x5], [], s) (qPr s0 T n c0 (aR T n p w l)) := by
  intro M
  induction M using Nat.strongRecOn with
  | ind M ih =>
    intro p w l s x3 x4 x5 hI
    obtain ⟨h, l1, l2, hm, f, b1, b0, b2, b3⟩ := hI
    have hp := h.2.1
    have hn := h.1.2.1
    have hS : ∀ c, isSg T n (kB T n p) c = true ↔ (s 172 6 = 3 ∧ s 173 (s 172 5).toNat = c) := fun c => mSg h
    have h23 := mK (i := 23) (C := 1111) h (by omega) (by decide)
    have h24 := mK (i := 24) (C := 423) h (by omega) (by decide)
    have h22 := mK (i := 22) (C := 10631) h (by omega) (by decide)
    have hNu := mNu h
    have hFa := mFa h
    have h6 : s 172 6 = mQ (eQ T n (kB T n p)) := h.2.2.2.2.1
    have hne : s 172 6 ≠ 0 → eQ T n (kB T n p) ≠ 1 := fun q q2 => q (h6.trans (mQ_0.mpr q2))
    obtain ⟨a, lt, rfl⟩ : ∃ a lt, l = a :: lt := by cases l with
      | nil => exact absurd rfl l1
      | cons a lt => exact ⟨a, lt, rfl⟩
    have ed : ((a :: lt).length - 1 : Nat) = lt.length := by simp
    rw [ed]
    have l2 : lt.length + 1 ≤ 6 := l2
    have ecm : cmpd (a :: lt) = false ↔ s 196 ((lt.length : Int)).toNat = 0 := by
      rw [Int.toNat_natCast, hm.2.1]
      exact b2i_0.symm
    have elen : (a :: lt).length = lt.length + 1 := rfl
    cases w with
    | false =>
      have b3 := b3 rfl
      have hc : 0 ≤ s 172 31 ∧ s 172 31 ≤ 100000 := by omega
      have bad : ∀ q : PS, q = gF T n 1 (0, p) → qPr s0 T n c0 q ([(0, 0)], zu s 172 9 (w32 (1 + w32 (16 * s 172 5)))) := fun q hq => reads_bad (k' := 1) (by decide) h f hq
      have ar : s 172 6 = 3 ∧ (s 173 (s 172 5).toNat = 43 ∨ s 173 (s 172 5).toNat = 45 ∨ s 173 (s 172 5).toNat = 42) → ∀ (v : Int) (m : Nat), m < M → zC m 1493 [(((172 : Nat) : Int), 0), (v, 0)] s (fun p' => zT (zE 1496) (Pt PX11_reads) m (240, [((172 : Nat) : Int), (lt.length : Int), 0, x3, x4, x5], p'.1 ++ [], p'.2) (qPr s0 T n c0 (aR T n p false (a :: lt)))) := fun q v m hm' => by
        refine puts_q h hm hc (fun s1 f1 h1 m1 e1 => ?_)
        refine b_X11_reads_240 _ _ _ _ _ s1 (fun m2 hm2 => RI_next (c0 := c0) (w := true) (l := a :: lt) h1 (hne (by omega)) l1 l2 m1 (frR_tr f f1) (by omega) (by omega) (by omega) (fun q => by cases q) (fun s2 R => ?_))
        refine b_X11_reads_428 _ _ _ _ _ s2 (fun m3 hm3 => ?_)
        rw [aR_f hp, if_pos (by simp only [hS]; omega)]
        exact ih m3 (by omega) _ _ _ s2 _ _ _ R
      have te : s 172 6 = 3 ∧ (s 173 (s 172 5).toNat = 60 ∨ s 173 (s 172 5).toNat = 61) → s 196 ((lt.length : Int)).toNat = 0 → ∀ (v : Int) (m : Nat), m < M → zC m 1493 [(((172 : Nat) : Int), 0), (v, 0)] s (fun p' => zT (zE 1496) (Pt PX11_reads) m (292, [((172 : Nat) : Int), (lt.length : Int), 0, x3, x4, x5], p'.1 ++ [], p'.2) (qPr s0 T n c0 (aR T n p false (a :: lt)))) := fun q q2 v m hm' => by
        refine puts_q h hm hc (fun s1 f1 h1 m1 e1 => ?_)
        refine b_X11_reads_292 _ _ _ _ _ s1 (fun m2 hm2 => ?_)
        rw [Int.toNat_natCast, show zst3 1 = 1 from by decide]
        refine RI_next (c0 := c0) (s1 := zu s1 196 lt.length 1) (w := true) (l := (a.1, true) :: lt) (mst_out h1 (fun c i hci => zu_n (by omega))) (hne (by omega)) (by simp) (by simp; omega) ⟨fun q3 => by rw [zu_n (by omega)]; exact m1.1 q3, by rw [zu_eq]; rfl, mo_out lt (fun j hj => ⟨zu_n (by omega), zu_n (by omega)⟩) m1.2.2⟩ (frR_tr f (frR_tr f1 (fun c j q3 q4 => zu_n (by omega)))) (by rw [zu_n (by omega)]; omega) (by rw [zu_n (by omega)]; omega) (by rw [zu_n (by omega)]; omega) (fun q => by cases q) (fun s2 R => ?_)
        refine b_X11_reads_428 _ _ _ _ _ s2 (fun m3 hm3 => ?_)
        rw [aR_f hp, if_neg (by simp only [hS]; omega), if_pos (by simp only [hS, ecm]; omega)]
        exact ih m3 (by omega) _ _ _ s2 _ _ _ R
      have ao : s 172 6 = 1 → (zcmpL (s 172 7) 1111 = 0 ∨ zcmpL (s 172 7) 423 = 0) → ∀ (v : Int) (m : Nat), m < M → zC m 1493 [(((172 : Nat) : Int), 0), (v, 0)] s (fun p' => zT (zE 1496) (Pt PX11_reads) m (345, [((172 : Nat) : Int), (lt.length : Int), 0, x3, x4, x5], p'.1 ++ [], p'.2) (qPr s0 T n c0 (aR T n p false (a :: lt)))) := fun q q2 v m hm' => by
        refine puts_q h hm hc (fun s1 f1 h1 m1 e1 => ?_)
        refine b_X11_reads_345 _ _ _ _ _ s1 (fun m2 hm2 => ?_)
        rw [Int.toNat_natCast, show zst3 0 = 0 from by decide]
        refine RI_next (c0 := c0) (s1 := zu s1 196 lt.length 0) (w := true) (l := (a.1, false) :: lt) (mst_out h1 (fun c i hci => zu_n (by omega))) (hne (by omega)) (by simp) (by simp; omega) ⟨fun q3 => by rw [zu_n (by omega)]; exact m1.1 q3, by rw [zu_eq]; rfl, mo_out lt (fun j hj => ⟨zu_n (by omega), zu_n (by omega)⟩) m1.2.2⟩ (frR_tr f (frR_tr f1 (fun c j q3 q4 => zu_n (by omega)))) (by rw [zu_n (by omega)]; omega) (by rw [zu_n (by omega)]; omega) (by rw [zu_n (by omega)]; omega) (fun q => by cases q) (fun s2 R => ?_)
        refine b_X11_reads_428 _ _ _ _ _ s2 (fun m3 hm3 => ?_)
        rw [aR_f hp, if_neg (by simp only [hS]; omega), if_neg (by simp only [hS]; omega), if_pos (by first | exact (h23.mpr ⟨q, by omega⟩ |> Or.inl) | (rcases q2 with q2 | q2; exact Or.inl (h23.mpr ⟨q, q2⟩); exact Or.inr (h24.mpr ⟨q, q2⟩)))]
        exact ih m3 (by omega) _ _ _ s2 _ _ _ R
      refine b_X11_reads_11 _ _ _ _ _ s (fun g1 g3 g13 g18 => ?_) (fun g1 g3 g13 g18 => ?_) (fun g1 g3 g29 g30 g34 g37 => ?_) (fun g1 g3 g29 g30 g34 g37 => ?_) (fun g1 g3 g29 g30 g47 m hm' => ?_) (fun g1 g3 g55 g56 m hm' => ?_) (fun g1 g72 g73 g77 g81 g85 g89 g91 g97 g98 => ?_) (fun g1 g72 g73 g77 g81 g85 g89 g91 g97 g98 g103 => ?_) (fun g1 g72 g73 g77 g81 g85 g89 g91 g97 g98 g106 m hm' => ?_) (fun g1 g72 g73 g77 g81 g85 g89 g91 g109 g110 g111 => ?_) (fun g1 g72 g73 g77 g81 g85 g89 g91 g109 g110 g111 g116 => ?_) (fun g1 g72 g73 g77 g81 g85 g89 g91 g109 g110 m hm' => ?_) (fun g1 g72 g73 g77 g81 g85 g126 g127 g129 g135 g136 => ?_) (fun g1 g72 g73 g77 g81 g85 g126 g127 g129 g135 g136 g141 => ?_) (fun g1 g72 g73 g77 g81 g85 g126 g127 m hm' => ?_) (fun g1 g72 g73 g77 g81 g159 g160 g162 g168 g169 => ?_) (fun g1 g72 g73 g77 g81 g159 g160 g162 g168 g169 g174 => ?_) (fun g1 g72 g73 g77 g81 g159 g160 m hm' => ?_) (fun g1 g72 g73 g77 g192 m hm' => ?_) (fun g1 g72 g73 g207 m hm' => ?_) (fun g1 g221 g222 m hm' => ?_) (fun g1 => absurd rfl g1) (fun g1 => absurd rfl g1) (fun g1 => absurd rfl g1) (fun g1 => absurd rfl g1) (fun g1 => absurd rfl g1) (fun g1 => absurd rfl g1) (fun g1 => absurd rfl g1) (fun g1 => absurd rfl g1) (fun g1 => absurd rfl g1) (fun g1 => absurd rfl g1) (fun g1 => absurd rfl g1) (fun g1 => absurd rfl g1) (fun g1 => absurd rfl g1) (fun g1 => absurd rfl g1) (fun g1 => absurd rfl g1) (fun g1 => absurd rfl g1) (fun g1 => absurd rfl g1) (fun g1 => absurd rfl g1) (fun g1 => absurd rfl g1) (fun g1 => absurd rfl g1) (fun g1 => absurd rfl g1)
      · refine bad _ ?_
        rw [aR_f hp, if_neg (by simp only [hS]; omega), if_neg (by simp only [hS, ecm]; omega), if_neg (by rw [show (23 : Int) = ((23 : Nat) : Int) from rfl, show (24 : Int) = ((24 : Nat) : Int) from rfl, h23, h24]; omega), if_neg (by rw [hS, elen]; omega), if_neg (by rw [hS, elen]; omega)]
      · refine bad _ ?_
        rw [aR_f hp, if_neg (by simp only [hS]; omega), if_neg (by simp only [hS, ecm]; omega), if_neg (by rw [show (23 : Int) = ((23 : Nat) : Int) from rfl, show (24 : Int) = ((24 : Nat) : Int) from rfl, h23, h24]; omega), if_neg (by rw [hS, elen]; omega), if_neg (by rw [hS, elen]; omega)]
      · refine bad _ ?_
        rw [aR_f hp, if_neg (by simp only [hS]; omega), if_neg (by simp only [hS, ecm]; omega), if_neg (by rw [show (23 : Int) = ((23 : Nat) : Int) from rfl, show (24 : Int) = ((24 : Nat) : Int) from rfl, h23, h24]; omega), if_neg (by rw [hS, elen]; omega), if_neg (by rw [hS, elen]; omega)]
      · refine bad _ ?_
        rw [aR_f hp, if_neg (by simp only [hS]; omega), if_neg (by simp only [hS, ecm]; omega), if_neg (by rw [show (23 : Int) = ((23 : Nat) : Int) from rfl, show (24 : Int) = ((24 : Nat) : Int) from rfl, h23, h24]; omega), if_neg (by rw [hS, elen]; omega), if_neg (by rw [hS, elen]; omega)]
      · exact ao (by assumption) (by omega) _ m hm'
      · exact ao (by assumption) (by omega) _ m hm'
      · refine bad _ ?_
        rw [aR_f hp, if_neg (by simp only [hS]; omega), if_neg (by simp only [hS, ecm]; omega), if_neg (by rw [show (23 : Int) = ((23 : Nat) : Int) from rfl, show (24 : Int) = ((24 : Nat) : Int) from rfl, h23, h24]; omega), if_neg (by rw [hS, elen]; omega), if_neg (by rw [hS, elen]; omega)]
      · refine bad _ ?_
        rw [aR_f hp, if_neg (by simp only [hS]; omega), if_neg (by simp only [hS, ecm]; omega), if_neg (by rw [show (23 : Int) = ((23 : Nat) : Int) from rfl, show (24 : Int) = ((24 : Nat) : Int) from rfl, h23, h24]; omega), if_neg (by rw [hS, elen]; omega), if_neg (by rw [hS, elen]; omega)]
      · have e : aR T n p false (a :: lt) = (0, kE T n p) := by
          rw [aR_f hp, if_neg (by simp only [hS]; omega), if_neg (by simp only [hS, ecm]; omega), if_neg (by rw [show (23 : Int) = ((23 : Nat) : Int) from rfl, show (24 : Int) = ((24 : Nat) : Int) from rfl, h23, h24]; omega), if_neg (by rw [hS, elen]; omega), if_pos (by rw [hS, elen]; omega)]
        rw [e]
        refine mst_next h (fun s1 f1 p1 => b_X11_reads_416 _ _ _ _ _ s1 ⟨rfl, frR_tr f (frR_M f1), fun _ => ⟨p1, ?_, ?_⟩, fun q => absurd rfl q⟩)
        · show c0 < s1 172 31; rw [f1 172 31 (by omega)]; exact b3
        · show s1 172 31 ≤ 1000 + ((kE T n p : Nat) : Int); rw [f1 172 31 (by omega)]; have := (eQ_lt hp (hne (by omega))).2; omega
      · refine bad _ ?_
        rw [aR_f hp, if_neg (by simp only [hS]; omega), if_neg (by simp only [hS, ecm]; omega), if_neg (by rw [show (23 : Int) = ((23 : Nat) : Int) from rfl, show (24 : Int) = ((24 : Nat) : Int) from rfl, h23, h24]; omega), if_neg (by rw [hS, elen]; omega), if_neg (by rw [hS, elen]; omega)]
      · refine bad _ ?_
        rw [aR_f hp, if_neg (by simp only [hS]; omega), if_neg (by simp only [hS, ecm]; omega), if_neg (by rw [show (23 : Int) = ((23 : Nat) : Int) from rfl, show (24 : Int) = ((24 : Nat) : Int) from rfl, h23, h24]; omega), if_neg (by rw [hS, elen]; omega), if_neg (by rw [hS, elen]; omega)]
      · have hlt : 1 ≤ lt.length := by omega
        have hl0 : lt ≠ [] := fun q => by rw [q] at hlt; simp at hlt
        refine puts_q h hm hc (fun s1 f1 h1 m1 e1 => ?_)
        refine b_X11_reads_376 _ _ _ _ _ s1 ?_
        rw [w32_id (by omega) (by omega), show (lt.length : Int) + -1 = ((lt.length - 1 : Nat) : Int) from by omega]
        refine pop2 lt m hl0 (by omega) m1.2.2 (fun m2 hm2 => ?_)
        have pl := popZ_len lt
        have pl1 := pl.2 hl0
        refine RI_next (c0 := c0) (w := false) (l := popZ lt) h1 (hne (by omega)) (fun q => by rw [q] at pl1; simp at pl1) (by omega) (mo_pop _ m1.2.2) (frR_tr f f1) (by omega) (by omega) (by omega) (fun _ => by omega) (fun s2 R => ?_)
        refine b_X11_reads_428 _ _ _ _ _ s2 (fun m3 hm3 => ?_)
        rw [aR_f hp, if_neg (by simp only [hS]; omega), if_neg (by simp only [hS]; omega), if_neg (by rw [show (23 : Int) = ((23 : Nat) : Int) from rfl, show (24 : Int) = ((24 : Nat) : Int) from rfl, h23, h24]; omega), if_pos (by rw [hS, elen]; omega)]
        exact ih m3 (by omega) _ _ _ s2 _ _ _ R
      · refine bad _ ?_
        rw [aR_f hp, if_neg (by simp only [hS]; omega), if_neg (by simp only [hS, ecm]; omega), if_neg (by rw [show (23 : Int) = ((23 : Nat) : Int) from rfl, show (24 : Int) = ((24 : Nat) : Int) from rfl, h23, h24]; omega), if_neg (by rw [hS, elen]; omega), if_neg (by rw [hS, elen]; omega)]
      · refine bad _ ?_
        rw [aR_f hp, if_neg (by simp only [hS]; omega), if_neg (by simp only [hS, ecm]; omega), if_neg (by rw [show (23 : Int) = ((23 : Nat) : Int) from rfl, show (24 : Int) = ((24 : Nat) : Int) from rfl, h23, h24]; omega), if_neg (by rw [hS, elen]; omega), if_neg (by rw [hS, elen]; omega)]
      · exact te (by omega) (by assumption) _ m hm'
      · refine bad _ ?_
        rw [aR_f hp, if_neg (by simp only [hS]; omega), if_neg (by simp only [hS, ecm]; omega), if_neg (by rw [show (23 : Int) = ((23 : Nat) : Int) from rfl, show (24 : Int) = ((24 : Nat) : Int) from rfl, h23, h24]; omega), if_neg (by rw [hS, elen]; omega), if_neg (by rw [hS, elen]; omega)]
      · refine bad _ ?_
        rw [aR_f hp, if_neg (by simp only [hS]; omega), if_neg (by simp only [hS, ecm]; omega), if_neg (by rw [show (23 : Int) = ((23 : Nat) : Int) from rfl, show (24 : Int) = ((24 : Nat) : Int) from rfl, h23, h24]; omega), if_neg (by rw [hS, elen]; omega), if_neg (by rw [hS, elen]; omega)]
      · exact te (by omega) (by assumption) _ m hm'
      · exact ar (by omega) _ m hm'
      · exact ar (by omega) _ m hm'
      · exact ar (by omega) _ m hm'
    | true =>
      have hc : 0 ≤ s 172 31 ∧ s 172 31 ≤ 100000 := by omega
      have one : ∀ (x3' x4' x5' v : Int) (m : Nat), m < M → ¬ lt.length = 5 → isKw T n (kB T n p) 22 = false → isSg T n (kB T n p) 40 = false → (isFa T n (kB T n p) = true ∨ isNu T n (kB T n p) = true) → zC m 1493 [(((172 : Nat) : Int), 0), (v, 0)] s (fun p' => zT (zE 1496) (Pt PX11_reads) m (150, [((172 : Nat) : Int), (lt.length : Int), 1, x3', x4', x5'], p'.1 ++ [], p'.2) (qPr s0 T n c0 (aR T n p true (a :: lt)))) := fun x3' x4' x5' v m hm' q5 q1 q2 q3 => by
        refine puts_q h hm hc (fun s1 f1 h1 m1 e1 => ?_)
        refine b_X11_reads_150 _ _ _ _ _ s1 ?_
        refine pop1 (a :: lt) m (by simp) (by simp; omega) m1 (fun m2 hm2 => ?_)
        have pl := popZ_len (a :: lt)
        have pl1 := pl.2 (by simp)
        have pl0 : (popZ (a :: lt)).length ≤ lt.length + 1 := pl.1
        refine RI_next (c0 := c0) (w := false) (l := popZ (a :: lt)) h1 ?_ (fun q => by rw [q] at pl1; simp at pl1) (by omega) (mo_pop _ m1) (frR_tr f f1) (by omega) (by omega) (by omega) (fun _ => by omega) (fun s2 R => ?_)
        · rcases q3 with q3 | q3
          · have := hFa.mp q3; exact hne (by omega)
          · have := hNu.mp q3; exact hne (by omega)
        refine b_X11_reads_176 _ _ _ _ _ s2 (fun m3 hm3 => ?_)
        rw [aRt_one hp q1 q2 q3 (by rw [elen]; omega)]
        exact ih m3 (by omega) _ _ _ s2 _ _ _ R
      have opn : ∀ (x3' x4' x5' v : Int) (m : Nat), m < M → ¬ lt.length = 5 → ((x4' ≠ 0 ∧ isKw T n (kB T n p) 22 = true) ∨ (x4' = 0 ∧ isKw T n (kB T n p) 22 = false ∧ isSg T n (kB T n p) 40 = true)) → zC m 1493 [(((172 : Nat) : Int), 0), (v, 0)] s (fun p' => zT (zE 1496) (Pt PX11_reads) m (102, [((172 : Nat) : Int), (lt.length : Int), 1, x3', x4', x5'], p'.1 ++ [], p'.2) (qPr s0 T n c0 (aR T n p true (a :: lt)))) := fun x3' x4' x5' v m hm' q5 q => by
        refine puts_q h hm hc (fun s1 f1 h1 m1 e1 => ?_)
        have hx : w32 ((lt.length : Int) + 1) = ((lt.length + 1 : Nat) : Int) := by rw [w32_id (by omega) (by omega)]; omega
        have hnt : eQ T n (kB T n p) ≠ 1 := by
          rcases q with ⟨-, q⟩ | ⟨-, -, q⟩
          · have := h22.mp q; exact hne (by omega)
          · have := (hS 40).mp q; exact hne (by omega)
        have st : ∀ (v2 : Int) (nb : Bool), v2 = (if nb = true then 1 else 2) → aR T n p true (a :: lt) = aR T n (kE T n p) true ((nb, false) :: a :: lt) → ∀ m2, m2 < m → zC m2 1482 [(((172 : Nat) : Int), 0)] (zu (zu s1 195 ((w32 ((lt.length : Int) + 1)).toNat) v2) 196 ((w32 ((lt.length : Int) + 1)).toNat) (zst3 0)) (fun p => zT (zE 1496) (Pt PX11_reads) m2 (176, [((172 : Nat) : Int), w32 ((lt.length : Int) + 1), 1, x3', x4', x5'], p.1 ++ [], p.2) (qPr s0 T n c0 (aR T n _ true (a :: lt)))) := fun v2 nb ev ea m2 hm2 => by
          rw [hx, Int.toNat_natCast, show zst3 0 = 0 from by decide]
          have z : ∀ {c j : Nat}, ¬ (195 ≤ c ∧ c ≤ 196) → zu (zu s1 195 (lt.length + 1) v2) 196 (lt.length + 1) 0 c j = s1 c j := fun hc' => by rw [zu_n (by omega), zu_n (by omega)]
          have hmo : mo (zu (zu s1 195 (lt.length + 1) v2) 196 (lt.length + 1) 0) ((nb, false) :: a :: lt) := by
            refine ⟨fun _ => ?_, ?_, mo_out (a :: lt) (fun j hj => ?_) m1⟩
            · show zu (zu s1 195 (lt.length + 1) v2) 196 (lt.length + 1) 0 195 (lt.length + 1) = _
              rw [zu_n (by omega), zu_eq]
              exact ev
            · show zu (zu s1 195 (lt.length + 1) v2) 196 (lt.length + 1) 0 196 (lt.length + 1) = _
              rw [zu_eq]
              rfl
            · have hj : j < lt.length + 1 := hj
              exact ⟨by rw [zu_n (fun q => absurd q.1 (by decide)), zu_n (fun q => (Nat.ne_of_lt hj) q.2)], by rw [zu_n (fun q => (Nat.ne_of_lt hj) q.2), zu_n (fun q => absurd q.1 (by decide))]⟩
          have hl2 : ((nb, false) :: a :: lt).length ≤ 6 := Nat.succ_le_succ (Nat.succ_le_of_lt (Nat.lt_of_le_of_ne (Nat.le_of_succ_le_succ l2) q5))
          have e31 : zu (zu s1 195 (lt.length + 1) v2) 196 (lt.length + 1) 0 172 31 = s1 172 31 := z (by omega)
          refine RI_next (c0 := c0) (s1 := zu (zu s1 195 (lt.length + 1) v2) 196 (lt.length + 1) 0) (w := true) (l := (nb, false) :: a :: lt) (mst_out h1 (fun c i hci => z (by omega))) hnt (List.cons_ne_nil _ _) hl2 hmo (frR_tr f (frR_tr f1 (fun c j q3 q4 => z (by omega)))) (by rw [e31]; omega) (by rw [e31]; omega) (by rw [e31]; omega) (fun q => by cases q) (fun s2 R => ?_)
          refine b_X11_reads_176 _ _ _ _ _ s2 (fun m3 hm3 => ?_)
          rw [ea]
          exact ih m3 (by omega) _ _ _ s2 _ _ _ R
        refine b_X11_reads_102 _ _ _ _ _ s1 (fun g m2 hm2 => ?_) (fun g m2 hm2 => ?_)
        · rcases q with ⟨q0, q⟩ | ⟨-, q1, q⟩
          · exact absurd g q0
          · exact st 2 false rfl (aRt_open hp q1 q (by rw [elen]; exact fun q6 => q5 (Nat.succ.inj q6))) m2 hm2
        · rcases q with ⟨-, q⟩ | ⟨q0, -⟩
          · exact st 1 true rfl (aRt_not hp q (by rw [elen]; exact fun q6 => q5 (Nat.succ.inj q6))) m2 hm2
          · exact absurd q0 g
      have bad : isFa T n (kB T n p) = false ∧ isKw T n (kB T n p) 22 = false ∧ isSg T n (kB T n p) 40 = false ∧ isNu T n (kB T n p) = false → qPr s0 T n c0 (aR T n p true (a :: lt)) ([(0, 0)], zu s 172 9 (w32 (1 + w32 (16 * s 172 5)))) := fun q => reads_bad (k' := 1) (by decide) h f (aRt_bad hp q)
      have many : lt.length = 5 → ¬ (isFa T n (kB T n p) = false ∧ isKw T n (kB T n p) 22 = false ∧ isSg T n (kB T n p) 40 = false ∧ isNu T n (kB T n p) = false) → qPr s0 T n c0 (aR T n p true (a :: lt)) ([(0, 0)], zu s 172 9 (w32 (5 + w32 (16 * s 172 5)))) := fun q5 q => reads_bad (k' := 5) (by decide) h f (aRt_many hp q (by rw [elen, q5]))
      have nf : ∀ {b : Bool} {P : Prop}, (b = true ↔ P) → ¬ P → b = false := fun hb hq => Bool.eq_false_iff.mpr (fun q => hq (hb.mp q))
      refine b_X11_reads_11 _ _ _ _ _ s (fun g1 => absurd g1 (by decide)) (fun g1 => absurd g1 (by decide)) (fun g1 => absurd g1 (by decide)) (fun g1 => absurd g1 (by decide)) (fun g1 => absurd g1 (by decide)) (fun g1 => absurd g1 (by decide)) (fun g1 => absurd g1 (by decide)) (fun g1 => absurd g1 (by decide)) (fun g1 => absurd g1 (by decide)) (fun g1 => absurd g1 (by decide)) (fun g1 => absurd g1 (by decide)) (fun g1 => absurd g1 (by decide)) (fun g1 => absurd g1 (by decide)) (fun g1 => absurd g1 (by decide)) (fun g1 => absurd g1 (by decide)) (fun g1 => absurd g1 (by decide)) (fun g1 => absurd g1 (by decide)) (fun g1 => absurd g1 (by decide)) (fun g1 => absurd g1 (by decide)) (fun g1 => absurd g1 (by decide)) (fun g1 => absurd g1 (by decide)) (fun g1 g231 g232 g233 g234 g238 g240 => ?_) (fun g1 g231 g232 g233 g234 g245 g247 g248 m hm' => ?_) (fun g1 g231 g232 g233 g234 g245 g247 g248 => ?_) (fun g1 g253 g254 g255 g256 g260 g262 g263 m hm' => ?_) (fun g1 g253 g254 g255 g256 g260 g262 g263 => ?_) (fun g1 g253 g254 g255 g256 g269 g271 g272 m hm' => ?_) (fun g1 g253 g254 g255 g256 g269 g271 g272 => ?_) (fun g1 g277 g278 g279 g283 g285 g286 m hm' => ?_) (fun g1 g277 g278 g279 g283 g285 g286 => ?_) (fun g1 g277 g278 g279 g292 g294 g295 m hm' => ?_) (fun g1 g277 g278 g279 g292 g294 g295 => ?_) (fun g1 g300 g301 g305 g307 g308 m hm' => ?_) (fun g1 g300 g301 g305 g307 g308 => ?_) (fun g1 g300 g301 g314 g316 g317 m hm' => ?_) (fun g1 g300 g301 g314 g316 g317 => ?_) (fun g1 g322 g326 g327 g328 m hm' => ?_) (fun g1 g322 g326 g327 g328 => ?_) (fun g1 g322 g326 g327 => ?_) (fun g1 g322 g332 g333 => ?_) (fun g1 g322 g335 g336 g337 m hm' => ?_) (fun g1 g322 g335 g336 g337 => ?_)
      · exact bad ⟨(nf hFa (by omega)), (nf h22 (by omega)), (nf (hS 40) (by omega)), (nf hNu (by omega))⟩
      · exact opn _ _ _ _ m hm' (by omega) (Or.inl ⟨by decide, h22.mpr (by omega)⟩)
      · refine many (by omega) (fun q => ?_)
        have a1 : ¬ (s 172 6 = 1 ∧ (zcmpL (s 172 7) 164222 = 0 ∨ zcmpL (s 172 7) 205811839 = 0 ∨ zcmpL (s 172 7) 149099 = 0)) := fun c => Bool.eq_false_iff.mp q.1 (hFa.mpr c)
        have a2 : ¬ (s 172 6 = 1 ∧ zcmpL (s 172 7) 10631 = 0) := fun c => Bool.eq_false_iff.mp q.2.1 (h22.mpr c)
        have a3 : ¬ (s 172 6 = 3 ∧ s 173 (s 172 5).toNat = 40) := fun c => Bool.eq_false_iff.mp q.2.2.1 ((hS 40).mpr c)
        have a4 : ¬ s 172 6 = 2 := fun c => Bool.eq_false_iff.mp q.2.2.2 (hNu.mpr c)
        omega
      · exact one _ _ _ _ m hm' (by omega) (nf h22 (by omega)) (nf (hS 40) (by omega)) (Or.inl (hFa.mpr (by omega)))
      · refine many (by omega) (fun q => ?_)
        have a1 : ¬ (s 172 6 = 1 ∧ (zcmpL (s 172 7) 164222 = 0 ∨ zcmpL (s 172 7) 205811839 = 0 ∨ zcmpL (s 172 7) 149099 = 0)) := fun c => Bool.eq_false_iff.mp q.1 (hFa.mpr c)
        have a2 : ¬ (s 172 6 = 1 ∧ zcmpL (s 172 7) 10631 = 0) := fun c => Bool.eq_false_iff.mp q.2.1 (h22.mpr c)
        have a3 : ¬ (s 172 6 = 3 ∧ s 173 (s 172 5).toNat = 40) := fun c => Bool.eq_false_iff.mp q.2.2.1 ((hS 40).mpr c)
        have a4 : ¬ s 172 6 = 2 := fun c => Bool.eq_false_iff.mp q.2.2.2 (hNu.mpr c)
        omega
      · exact opn _ _ _ _ m hm' (by omega) (Or.inl ⟨by decide, h22.mpr (by omega)⟩)
      · refine many (by omega) (fun q => ?_)
        have a1 : ¬ (s 172 6 = 1 ∧ (zcmpL (s 172 7) 164222 = 0 ∨ zcmpL (s 172 7) 205811839 = 0 ∨ zcmpL (s 172 7) 149099 = 0)) := fun c => Bool.eq_false_iff.mp q.1 (hFa.mpr c)
        have a2 : ¬ (s 172 6 = 1 ∧ zcmpL (s 172 7) 10631 = 0) := fun c => Bool.eq_false_iff.mp q.2.1 (h22.mpr c)
        have a3 : ¬ (s 172 6 = 3 ∧ s 173 (s 172 5).toNat = 40) := fun c => Bool.eq_false_iff.mp q.2.2.1 ((hS 40).mpr c)
        have a4 : ¬ s 172 6 = 2 := fun c => Bool.eq_false_iff.mp q.2.2.2 (hNu.mpr c)
        omega
      · exact one _ _ _ _ m hm' (by omega) (nf h22 (by omega)) (nf (hS 40) (by omega)) (Or.inl (hFa.mpr (by omega)))
      · refine many (by omega) (fun q => ?_)
        have a1 : ¬ (s 172 6 = 1 ∧ (zcmpL (s 172 7) 164222 = 0 ∨ zcmpL (s 172 7) 205811839 = 0 ∨ zcmpL (s 172 7) 149099 = 0)) := fun c => Bool.eq_false_iff.mp q.1 (hFa.mpr c)
        have a2 : ¬ (s 172 6 = 1 ∧ zcmpL (s 172 7) 10631 = 0) := fun c => Bool.eq_false_iff.mp q.2.1 (h22.mpr c)
        have a3 : ¬ (s 172 6 = 3 ∧ s 173 (s 172 5).toNat = 40) := fun c => Bool.eq_false_iff.mp q.2.2.1 ((hS 40).mpr c)
        have a4 : ¬ s 172 6 = 2 := fun c => Bool.eq_false_iff.mp q.2.2.2 (hNu.mpr c)
        omega
      · exact opn _ _ _ _ m hm' (by omega) (Or.inl ⟨by decide, h22.mpr (by omega)⟩)
      · refine many (by omega) (fun q => ?_)
        have a1 : ¬ (s 172 6 = 1 ∧ (zcmpL (s 172 7) 164222 = 0 ∨ zcmpL (s 172 7) 205811839 = 0 ∨ zcmpL (s 172 7) 149099 = 0)) := fun c => Bool.eq_false_iff.mp q.1 (hFa.mpr c)
        have a2 : ¬ (s 172 6 = 1 ∧ zcmpL (s 172 7) 10631 = 0) := fun c => Bool.eq_false_iff.mp q.2.1 (h22.mpr c)
        have a3 : ¬ (s 172 6 = 3 ∧ s 173 (s 172 5).toNat = 40) := fun c => Bool.eq_false_iff.mp q.2.2.1 ((hS 40).mpr c)
        have a4 : ¬ s 172 6 = 2 := fun c => Bool.eq_false_iff.mp q.2.2.2 (hNu.mpr c)
        omega
      · exact one _ _ _ _ m hm' (by omega) (nf h22 (by omega)) (nf (hS 40) (by omega)) (Or.inl (hFa.mpr (by omega)))
      · refine many (by omega) (fun q => ?_)
        have a1 : ¬ (s 172 6 = 1 ∧ (zcmpL (s 172 7) 164222 = 0 ∨ zcmpL (s 172 7) 205811839 = 0 ∨ zcmpL (s 172 7) 149099 = 0)) := fun c => Bool.eq_false_iff.mp q.1 (hFa.mpr c)
        have a2 : ¬ (s 172 6 = 1 ∧ zcmpL (s 172 7) 10631 = 0) := fun c => Bool.eq_false_iff.mp q.2.1 (h22.mpr c)
        have a3 : ¬ (s 172 6 = 3 ∧ s 173 (s 172 5).toNat = 40) := fun c => Bool.eq_false_iff.mp q.2.2.1 ((hS 40).mpr c)
        have a4 : ¬ s 172 6 = 2 := fun c => Bool.eq_false_iff.mp q.2.2.2 (hNu.mpr c)
        omega
      · exact opn _ _ _ _ m hm' (by omega) (Or.inl ⟨by decide, h22.mpr (by omega)⟩)
      · refine many (by omega) (fun q => ?_)
        have a1 : ¬ (s 172 6 = 1 ∧ (zcmpL (s 172 7) 164222 = 0 ∨ zcmpL (s 172 7) 205811839 = 0 ∨ zcmpL (s 172 7) 149099 = 0)) := fun c => Bool.eq_false_iff.mp q.1 (hFa.mpr c)
        have a2 : ¬ (s 172 6 = 1 ∧ zcmpL (s 172 7) 10631 = 0) := fun c => Bool.eq_false_iff.mp q.2.1 (h22.mpr c)
        have a3 : ¬ (s 172 6 = 3 ∧ s 173 (s 172 5).toNat = 40) := fun c => Bool.eq_false_iff.mp q.2.2.1 ((hS 40).mpr c)
        have a4 : ¬ s 172 6 = 2 := fun c => Bool.eq_false_iff.mp q.2.2.2 (hNu.mpr c)
        omega
      · exact one _ _ _ _ m hm' (by omega) (nf h22 (by omega)) (nf (hS 40) (by omega)) (Or.inr (hNu.mpr (by omega)))
      · refine many (by omega) (fun q => ?_)
        have a1 : ¬ (s 172 6 = 1 ∧ (zcmpL (s 172 7) 164222 = 0 ∨ zcmpL (s 172 7) 205811839 = 0 ∨ zcmpL (s 172 7) 149099 = 0)) := fun c => Bool.eq_false_iff.mp q.1 (hFa.mpr c)
        have a2 : ¬ (s 172 6 = 1 ∧ zcmpL (s 172 7) 10631 = 0) := fun c => Bool.eq_false_iff.mp q.2.1 (h22.mpr c)
        have a3 : ¬ (s 172 6 = 3 ∧ s 173 (s 172 5).toNat = 40) := fun c => Bool.eq_false_iff.mp q.2.2.1 ((hS 40).mpr c)
        have a4 : ¬ s 172 6 = 2 := fun c => Bool.eq_false_iff.mp q.2.2.2 (hNu.mpr c)
        omega
      · exact bad ⟨(nf hFa (by omega)), (nf h22 (by omega)), (nf (hS 40) (by omega)), (nf hNu (by omega))⟩
      · exact bad ⟨(nf hFa (by omega)), (nf h22 (by omega)), (nf (hS 40) (by omega)), (nf hNu (by omega))⟩
      · exact opn _ _ _ _ m hm' (by omega) (Or.inr ⟨rfl, (nf h22 (by omega)), (hS 40).mpr (by omega)⟩)
      · refine many (by omega) (fun q => ?_)
        have a1 : ¬ (s 172 6 = 1 ∧ (zcmpL (s 172 7) 164222 = 0 ∨ zcmpL (s 172 7) 205811839 = 0 ∨ zcmpL (s 172 7) 149099 = 0)) := fun c => Bool.eq_false_iff.mp q.1 (hFa.mpr c)
        have a2 : ¬ (s 172 6 = 1 ∧ zcmpL (s 172 7) 10631 = 0) := fun c => Bool.eq_false_iff.mp q.2.1 (h22.mpr c)
        have a3 : ¬ (s 172 6 = 3 ∧ s 173 (s 172 5).toNat = 40) := fun c => Bool.eq_false_iff.mp q.2.2.1 ((hS 40).mpr c)
        have a4 : ¬ s 172 6 = 2 := fun c => Bool.eq_false_iff.mp q.2.2.2 (hNu.mpr c)
        omega
end Zmq
