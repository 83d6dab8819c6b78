/-! a town read, whole: the model -/
theorem b_X11_starts_0 {n : Nat} {Q : Zr → Prop} (s : Zs) 
    (h0 : ∀ m, m < n → zC m 1482 [(((172 : Nat) : Int), 0)] (zu (zu (zu s 172 3 (s 172 1)) 172 1 0) 172 4 0) (fun p => zT (zE 1512) (Pt PX11_starts) m (22, [((172 : Nat) : Int)], p.1 ++ [], p.2) Q)) : zT (zE 1512) (Pt PX11_starts) n (0, [((172 : Nat) : Int)], [], s) Q := by
  refine tL ((172 : Nat) : Int) 0 rfl rfl rfl ?_
  refine tL ((172 : Nat) : Int) 0 rfl rfl rfl ?_
  refine tFv (c := 172) (s 172 1) 0 rfl rfl rfl rfl rfl ?_
  refine tPut 172 rfl rfl ?_
  refine tL ((172 : Nat) : Int) 0 rfl rfl rfl ?_
  refine tK rfl ?_
  refine tPut 172 rfl rfl ?_
  refine tL ((172 : Nat) : Int) 0 rfl rfl rfl ?_
  refine tK rfl ?_
  refine tPut 172 rfl rfl ?_
  refine tL ((172 : Nat) : Int) 0 rfl rfl rfl ?_
  exact tCall [(((172 : Nat) : Int), 0)] [] rfl rfl rfl (fun m l => h0 m (Nat.lt_of_lt_of_le l (Nat.le_refl n)))

theorem b_X11_starts_22 {n : Nat} {Q : Zr → Prop} (s : Zs) 
    (h0 : Q ([], s)) : zT (zE 1512) (Pt PX11_starts) n (22, [((172 : Nat) : Int)], [], s) Q := by
  exact tR rfl (h0)

theorem c_X11_starts {n : Nat} {Q : Zr → Prop} {a0 : Int} {s : Zs} (h : zT (zE 1512) (Pt PX11_starts) n (0, [a0], [], s) Q) : zC n 1512 [(a0, 0)] s Q := h

theorem b_X11_readsAll_0 {n : Nat} {Q : Zr → Prop} (x1 : Int) (s : Zs) 
    (h0 : zT (zE 1497) (Pt PX11_readsAll) n (3, [((172 : Nat) : Int), 7], [], s) Q) : zT (zE 1497) (Pt PX11_readsAll) n (0, [((172 : Nat) : Int), x1], [], s) Q := by
  refine tK rfl ?_
  refine tS [((172 : Nat) : Int), 7] rfl rfl ?_
  exact zT_le (h0) (Nat.le_refl n)

theorem b_X11_readsAll_3 {n : Nat} {Q : Zr → Prop} (x1 : Int) (s : Zs) 
    (h0 : ∀ (g1 : 14 ≤ x1), ∀ m, m < n → zC m 1512 [(((172 : Nat) : Int), 0)] (zu (zu (zu (zu s 192 1 1000) 193 1 1000) 172 32 0) 172 31 1000) (fun p => zT (zE 1497) (Pt PX11_readsAll) m (66, [((172 : Nat) : Int), x1], p.1 ++ [], p.2) Q))
    (h1 : ∀ (g1 : x1 < 14), ∀ (g3 : x1 ≠ 13), ∀ m, m < n → zT (zE 1497) (Pt PX11_readsAll) m (3, [((172 : Nat) : Int), w32 (x1 + 1)], [], zu s 174 x1.toNat 0) Q)
    (h2 : ∀ (g1 : x1 < 14), ∀ (g3 : x1 = 13), ∀ m, m < n → zT (zE 1497) (Pt PX11_readsAll) m (3, [((172 : Nat) : Int), w32 (x1 + 1)], [], zu s 174 x1.toNat 5) Q) : zT (zE 1497) (Pt PX11_readsAll) n (3, [((172 : Nat) : Int), x1], [], s) Q := by
  refine tL x1 0 rfl rfl rfl ?_
  refine tK rfl ?_
  refine tJ3 rfl (fun g1 _ l1 => zT_le ?_ (Nat.le_of_lt l1)) (fun g1 _ l1 => zT_le ?_ (Nat.le_of_lt l1))
  · refine tL ((172 : Nat) : Int) 0 rfl rfl rfl ?_
    refine tFR (c := 172) 192 rfl rfl rfl rfl rfl ?_
    refine tK rfl ?_
    refine tK rfl ?_
    refine tAS 192 1 rfl rfl rfl (by decide) ?_
    refine tL ((172 : Nat) : Int) 0 rfl rfl rfl ?_
    refine tFR (c := 172) 193 rfl rfl rfl rfl rfl ?_
    refine tK rfl ?_
    refine tK rfl ?_
    refine tAS 193 1 rfl rfl rfl (by decide) ?_
    refine tL ((172 : Nat) : Int) 0 rfl rfl rfl ?_
    refine tK rfl ?_
    refine tPut 172 rfl rfl ?_
    refine tL ((172 : Nat) : Int) 0 rfl rfl rfl ?_
    refine tK rfl ?_
    refine tPut 172 rfl rfl ?_
    refine tL ((172 : Nat) : Int) 0 rfl rfl rfl ?_
    exact tCall [(((172 : Nat) : Int), 0)] [] rfl rfl rfl (fun m l => h0 g1 m (Nat.lt_of_lt_of_le l (Nat.le_refl n)))
  · refine tL ((172 : Nat) : Int) 0 rfl rfl rfl ?_
    refine tFR (c := 172) 174 rfl rfl rfl rfl rfl ?_
    refine tL x1 0 rfl rfl rfl ?_
    refine tL x1 0 rfl rfl rfl ?_
    refine tK rfl ?_
    refine tJ1 rfl (fun g3 _ l3 => zT_le ?_ (Nat.le_of_lt l3)) (fun g3 _ l3 => zT_le ?_ (Nat.le_of_lt l3))
    · refine tK rfl ?_
      refine tAS 174 x1.toNat rfl rfl rfl (by decide) ?_
      refine tInc [((172 : Nat) : Int), w32 (x1 + 1)] rfl rfl ?_
      exact tGb rfl (fun m2 l2 => h1 g1 g3 m2 (Nat.lt_of_lt_of_le l2 (Nat.le_refl n)))
    · refine tK rfl ?_
      refine tG rfl ?_
      refine tAS 174 x1.toNat rfl rfl rfl (by decide) ?_
      refine tInc [((172 : Nat) : Int), w32 (x1 + 1)] rfl rfl ?_
      exact tGb rfl (fun m2 l2 => h2 g1 g3 m2 (Nat.lt_of_lt_of_le l2 (Nat.le_refl n)))

theorem b_X11_readsAll_66 {n : Nat} {Q : Zr → Prop} (x1 : Int) (s : Zs) 
    (h0 : ∀ (g1 : s 172 6 = 0), Q ([(1, 0)], s))
    (h1 : ∀ (g1 : s 172 6 ≠ 0), ∀ (g3 : s 172 6 ≠ 1), Q ([(0, 0)], zu s 172 9 (w32 (1 + (w32 (16 * (s 172 5)))))))
    (h2 : ∀ (g1 : s 172 6 ≠ 0), ∀ (g33 : s 172 6 = 1), ∀ (g34 : zcmpL (s 172 7) 4562600 ≠ 0), ∀ (g38 : zcmpL (s 172 7) 92653220 ≠ 0), ∀ (g42 : zcmpL (s 172 7) 10793230 ≠ 0), ∀ (g46 : zcmpL (s 172 7) 232608281 ≠ 0), ∀ (g50 : zcmpL (s 172 7) 164361 ≠ 0), ∀ (g54 : zcmpL (s 172 7) 161152 ≠ 0), ∀ (g58 : zcmpL (s 172 7) 453773 ≠ 0), ∀ (g62 : zcmpL (s 172 7) 8863997 ≠ 0), Q ([(0, 0)], zu s 172 9 (w32 (1 + (w32 (16 * (s 172 5)))))))
    (h3 : ∀ (g1 : s 172 6 ≠ 0), ∀ (g33 : s 172 6 = 1), ∀ (g34 : zcmpL (s 172 7) 4562600 ≠ 0), ∀ (g38 : zcmpL (s 172 7) 92653220 ≠ 0), ∀ (g42 : zcmpL (s 172 7) 10793230 ≠ 0), ∀ (g46 : zcmpL (s 172 7) 232608281 ≠ 0), ∀ (g50 : zcmpL (s 172 7) 164361 ≠ 0), ∀ (g54 : zcmpL (s 172 7) 161152 ≠ 0), ∀ (g58 : zcmpL (s 172 7) 453773 ≠ 0), ∀ (g65 : zcmpL (s 172 7) 8863997 = 0), ∀ m, m < n → zC m 1504 [(((172 : Nat) : Int), 0)] s (fun p => zT (zE 1497) (Pt PX11_readsAll) m (214, [((172 : Nat) : Int), x1], p.1 ++ [], p.2) Q))
    (h4 : ∀ (g1 : s 172 6 ≠ 0), ∀ (g33 : s 172 6 = 1), ∀ (g34 : zcmpL (s 172 7) 4562600 ≠ 0), ∀ (g38 : zcmpL (s 172 7) 92653220 ≠ 0), ∀ (g42 : zcmpL (s 172 7) 10793230 ≠ 0), ∀ (g46 : zcmpL (s 172 7) 232608281 ≠ 0), ∀ (g50 : zcmpL (s 172 7) 164361 ≠ 0), ∀ (g54 : zcmpL (s 172 7) 161152 ≠ 0), ∀ (g68 : zcmpL (s 172 7) 453773 = 0), ∀ m, m < n → zC m 1502 [(((172 : Nat) : Int), 0), (6, 0), (60, 0)] s (fun p => zT (zE 1497) (Pt PX11_readsAll) m (197, [((172 : Nat) : Int), x1], p.1 ++ [], p.2) Q))
    (h5 : ∀ (g1 : s 172 6 ≠ 0), ∀ (g33 : s 172 6 = 1), ∀ (g34 : zcmpL (s 172 7) 4562600 ≠ 0), ∀ (g38 : zcmpL (s 172 7) 92653220 ≠ 0), ∀ (g42 : zcmpL (s 172 7) 10793230 ≠ 0), ∀ (g46 : zcmpL (s 172 7) 232608281 ≠ 0), ∀ (g50 : zcmpL (s 172 7) 164361 ≠ 0), ∀ (g71 : zcmpL (s 172 7) 161152 = 0), ∀ m, m < n → zC m 1502 [(((172 : Nat) : Int), 0), (5, 0), (999, 0)] s (fun p => zT (zE 1497) (Pt PX11_readsAll) m (176, [((172 : Nat) : Int), x1], p.1 ++ [], p.2) Q))
    (h6 : ∀ (g1 : s 172 6 ≠ 0), ∀ (g33 : s 172 6 = 1), ∀ (g34 : zcmpL (s 172 7) 4562600 ≠ 0), ∀ (g38 : zcmpL (s 172 7) 92653220 ≠ 0), ∀ (g42 : zcmpL (s 172 7) 10793230 ≠ 0), ∀ (g46 : zcmpL (s 172 7) 232608281 ≠ 0), ∀ (g74 : zcmpL (s 172 7) 164361 = 0), ∀ m, m < n → zC m 1499 [(((172 : Nat) : Int), 0)] s (fun p => zT (zE 1497) (Pt PX11_readsAll) m (155, [((172 : Nat) : Int), x1], p.1 ++ [], p.2) Q))
    (h7 : ∀ (g1 : s 172 6 ≠ 0), ∀ (g33 : s 172 6 = 1), ∀ (g34 : zcmpL (s 172 7) 4562600 ≠ 0), ∀ (g38 : zcmpL (s 172 7) 92653220 ≠ 0), ∀ (g42 : zcmpL (s 172 7) 10793230 ≠ 0), ∀ (g77 : zcmpL (s 172 7) 232608281 = 0), ∀ m, m < n → zC m 1503 [(((172 : Nat) : Int), 0)] s (fun p => zT (zE 1497) (Pt PX11_readsAll) m (138, [((172 : Nat) : Int), x1], p.1 ++ [], p.2) Q))
    (h8 : ∀ (g1 : s 172 6 ≠ 0), ∀ (g33 : s 172 6 = 1), ∀ (g34 : zcmpL (s 172 7) 4562600 ≠ 0), ∀ (g38 : zcmpL (s 172 7) 92653220 ≠ 0), ∀ (g80 : zcmpL (s 172 7) 10793230 = 0), ∀ m, m < n → zC m 1505 [(((172 : Nat) : Int), 0)] s (fun p => zT (zE 1497) (Pt PX11_readsAll) m (121, [((172 : Nat) : Int), x1], p.1 ++ [], p.2) Q))
    (h9 : ∀ (g1 : s 172 6 ≠ 0), ∀ (g33 : s 172 6 = 1), ∀ (g34 : zcmpL (s 172 7) 4562600 ≠ 0), ∀ (g83 : zcmpL (s 172 7) 92653220 = 0), ∀ m, m < n → zC m 1498 [(((172 : Nat) : Int), 0)] s (fun p => zT (zE 1497) (Pt PX11_readsAll) m (104, [((172 : Nat) : Int), x1], p.1 ++ [], p.2) Q))
    (h10 : ∀ (g1 : s 172 6 ≠ 0), ∀ (g85 : s 172 6 = 1), ∀ (g86 : zcmpL (s 172 7) 4562600 = 0), ∀ m, m < n → zC m 1500 [(((172 : Nat) : Int), 0)] s (fun p => zT (zE 1497) (Pt PX11_readsAll) m (87, [((172 : Nat) : Int), x1], p.1 ++ [], p.2) Q)) : zT (zE 1497) (Pt PX11_readsAll) n (66, [((172 : Nat) : Int), x1], [], s) Q := by
  refine tL ((172 : Nat) : Int) 0 rfl rfl rfl ?_
  refine tFv (c := 172) (s 172 6) 0 rfl rfl rfl rfl rfl ?_
  refine tI0 rfl (fun g1 _ l1 => zT_le ?_ (Nat.le_of_lt l1)) (fun g1 _ l1 => zT_le ?_ (Nat.le_of_lt l1))
  · refine tK rfl ?_
    exact tR rfl (h0 g1)
  · refine tL ((172 : Nat) : Int) 0 rfl rfl rfl ?_
    refine tKL rfl ?_
    refine tCall [(((172 : Nat) : Int), 0), (4562600, 1)] [] rfl rfl rfl (fun m2 l2 => c_X11_isWord (b_X11_isWord_0 4562600 0 s ?_ ?_ ?_))
    · intro g3
      show zT (zE 1497) (Pt PX11_readsAll) m2 (80, [((172 : Nat) : Int), x1], [(0, 0)], s) Q
      refine tI0 rfl (fun g _ l => zT_le ?_ (Nat.le_of_lt l)) (fun g _ l => (absurd g (by decide)))
      refine tL ((172 : Nat) : Int) 0 rfl rfl rfl ?_
      refine tKL rfl ?_
      refine tCall [(((172 : Nat) : Int), 0), (92653220, 1)] [] rfl rfl rfl (fun m4 l4 => c_X11_isWord (b_X11_isWord_0 92653220 0 s ?_ ?_ ?_))
      · intro g5
        show zT (zE 1497) (Pt PX11_readsAll) m4 (97, [((172 : Nat) : Int), x1], [(0, 0)], s) Q
        refine tI0 rfl (fun g _ l => zT_le ?_ (Nat.le_of_lt l)) (fun g _ l => (absurd g (by decide)))
        refine tL ((172 : Nat) : Int) 0 rfl rfl rfl ?_
        refine tKL rfl ?_
        refine tCall [(((172 : Nat) : Int), 0), (10793230, 1)] [] rfl rfl rfl (fun m6 l6 => c_X11_isWord (b_X11_isWord_0 10793230 0 s ?_ ?_ ?_))
        · intro g7
          show zT (zE 1497) (Pt PX11_readsAll) m6 (114, [((172 : Nat) : Int), x1], [(0, 0)], s) Q
          refine tI0 rfl (fun g _ l => zT_le ?_ (Nat.le_of_lt l)) (fun g _ l => (absurd g (by decide)))
          refine tL ((172 : Nat) : Int) 0 rfl rfl rfl ?_
          refine tKL rfl ?_
          refine tCall [(((172 : Nat) : Int), 0), (232608281, 1)] [] rfl rfl rfl (fun m8 l8 => c_X11_isWord (b_X11_isWord_0 232608281 0 s ?_ ?_ ?_))
          · intro g9
            show zT (zE 1497) (Pt PX11_readsAll) m8 (131, [((172 : Nat) : Int), x1], [(0, 0)], s) Q
            refine tI0 rfl (fun g _ l => zT_le ?_ (Nat.le_of_lt l)) (fun g _ l => (absurd g (by decide)))
            refine tL ((172 : Nat) : Int) 0 rfl rfl rfl ?_
            refine tKL rfl ?_
            refine tCall [(((172 : Nat) : Int), 0), (164361, 1)] [] rfl rfl rfl (fun m10 l10 => c_X11_isWord (b_X11_isWord_0 164361 0 s ?_ ?_ ?_))
            · intro g11
              show zT (zE 1497) (Pt PX11_readsAll) m10 (148, [((172 : Nat) : Int), x1], [(0, 0)], s) Q
              refine tI0 rfl (fun g _ l => zT_le ?_ (Nat.le_of_lt l)) (fun g _ l => (absurd g (by decide)))
              refine tL ((172 : Nat) : Int) 0 rfl rfl rfl ?_
              refine tKL rfl ?_
              refine tCall [(((172 : Nat) : Int), 0), (161152, 1)] [] rfl rfl rfl (fun m12 l12 => c_X11_isWord (b_X11_isWord_0 161152 0 s ?_ ?_ ?_))
              · intro g13
                show zT (zE 1497) (Pt PX11_readsAll) m12 (165, [((172 : Nat) : Int), x1], [(0, 0)], s) Q
                refine tI0 rfl (fun g _ l => zT_le ?_ (Nat.le_of_lt l)) (fun g _ l => (absurd g (by decide)))
                refine tL ((172 : Nat) : Int) 0 rfl rfl rfl ?_
                refine tKL rfl ?_
                refine tCall [(((172 : Nat) : Int), 0), (453773, 1)] [] rfl rfl rfl (fun m14 l14 => c_X11_isWord (b_X11_isWord_0 453773 0 s ?_ ?_ ?_))
                · intro g15
                  show zT (zE 1497) (Pt PX11_readsAll) m14 (186, [((172 : Nat) : Int), x1], [(0, 0)], s) Q
                  refine tI0 rfl (fun g _ l => zT_le ?_ (Nat.le_of_lt l)) (fun g _ l => (absurd g (by decide)))
                  refine tL ((172 : Nat) : Int) 0 rfl rfl rfl ?_
                  refine tKL rfl ?_
                  refine tCall [(((172 : Nat) : Int), 0), (8863997, 1)] [] rfl rfl rfl (fun m16 l16 => c_X11_isWord (b_X11_isWord_0 8863997 0 s ?_ ?_ ?_))
                  · intro g17
                    show zT (zE 1497) (Pt PX11_readsAll) m16 (207, [((172 : Nat) : Int), x1], [(0, 0)], s) Q
                    refine tI0 rfl (fun g _ l => zT_le ?_ (Nat.le_of_lt l)) (fun g _ l => (absurd g (by decide)))
                    refine tL ((172 : Nat) : Int) 0 rfl rfl rfl ?_
                    refine tK rfl ?_
                    refine tCall [(((172 : Nat) : Int), 0), (1, 0)] [] rfl rfl rfl (fun m18 l18 => c_X11_fails (b_X11_fails_0 1 s ?_))
                    · show zT (zE 1497) (Pt PX11_readsAll) m18 (222, [((172 : Nat) : Int), x1], [(0, 0)], zu s 172 9 (w32 (1 + (w32 (16 * (s 172 5)))))) Q
                      refine tS [((172 : Nat) : Int), 0] rfl rfl ?_
                      refine tL 0 0 rfl rfl rfl ?_
                      refine tI1 rfl (fun g _ l => (absurd g (by decide))) (fun g _ l => zT_le ?_ (Nat.le_of_lt l))
                      refine tK rfl ?_
                      exact tR rfl (h1 g1 g3)
                  · exact fun (g19 : s 172 6 = 1) _ => False.elim (by omega)
                  · exact fun (g20 : s 172 6 = 1) _ => False.elim (by omega)
                · exact fun (g21 : s 172 6 = 1) _ => False.elim (by omega)
                · exact fun (g22 : s 172 6 = 1) _ => False.elim (by omega)
              · exact fun (g23 : s 172 6 = 1) _ => False.elim (by omega)
              · exact fun (g24 : s 172 6 = 1) _ => False.elim (by omega)
            · exact fun (g25 : s 172 6 = 1) _ => False.elim (by omega)
            · exact fun (g26 : s 172 6 = 1) _ => False.elim (by omega)
          · exact fun (g27 : s 172 6 = 1) _ => False.elim (by omega)
          · exact fun (g28 : s 172 6 = 1) _ => False.elim (by omega)
        · exact fun (g29 : s 172 6 = 1) _ => False.elim (by omega)
        · exact fun (g30 : s 172 6 = 1) _ => False.elim (by omega)
      · exact fun (g31 : s 172 6 = 1) _ => False.elim (by omega)
      · exact fun (g32 : s 172 6 = 1) _ => False.elim (by omega)
    · intro g33 g34
      show zT (zE 1497) (Pt PX11_readsAll) m2 (80, [((172 : Nat) : Int), x1], [(0, 0)], s) Q
      refine tI0 rfl (fun g _ l => zT_le ?_ (Nat.le_of_lt l)) (fun g _ l => (absurd g (by decide)))
      refine tL ((172 : Nat) : Int) 0 rfl rfl rfl ?_
      refine tKL rfl ?_
      refine tCall [(((172 : Nat) : Int), 0), (92653220, 1)] [] rfl rfl rfl (fun m35 l35 => c_X11_isWord (b_X11_isWord_0 92653220 0 s ?_ ?_ ?_))
      · exact fun (g36 : s 172 6 ≠ 1)  => False.elim (by omega)
      · intro g37 g38
        show zT (zE 1497) (Pt PX11_readsAll) m35 (97, [((172 : Nat) : Int), x1], [(0, 0)], s) Q
        refine tI0 rfl (fun g _ l => zT_le ?_ (Nat.le_of_lt l)) (fun g _ l => (absurd g (by decide)))
        refine tL ((172 : Nat) : Int) 0 rfl rfl rfl ?_
        refine tKL rfl ?_
        refine tCall [(((172 : Nat) : Int), 0), (10793230, 1)] [] rfl rfl rfl (fun m39 l39 => c_X11_isWord (b_X11_isWord_0 10793230 0 s ?_ ?_ ?_))
        · exact fun (g40 : s 172 6 ≠ 1)  => False.elim (by omega)
        · intro g41 g42
          show zT (zE 1497) (Pt PX11_readsAll) m39 (114, [((172 : Nat) : Int), x1], [(0, 0)], s) Q
          refine tI0 rfl (fun g _ l => zT_le ?_ (Nat.le_of_lt l)) (fun g _ l => (absurd g (by decide)))
          refine tL ((172 : Nat) : Int) 0 rfl rfl rfl ?_
          refine tKL rfl ?_
          refine tCall [(((172 : Nat) : Int), 0), (232608281, 1)] [] rfl rfl rfl (fun m43 l43 => c_X11_isWord (b_X11_isWord_0 232608281 0 s ?_ ?_ ?_))
          · exact fun (g44 : s 172 6 ≠ 1)  => False.elim (by omega)
          · intro g45 g46
            show zT (zE 1497) (Pt PX11_readsAll) m43 (131, [((172 : Nat) : Int), x1], [(0, 0)], s) Q
            refine tI0 rfl (fun g _ l => zT_le ?_ (Nat.le_of_lt l)) (fun g _ l => (absurd g (by decide)))
            refine tL ((172 : Nat) : Int) 0 rfl rfl rfl ?_
            refine tKL rfl ?_
            refine tCall [(((172 : Nat) : Int), 0), (164361, 1)] [] rfl rfl rfl (fun m47 l47 => c_X11_isWord (b_X11_isWord_0 164361 0 s ?_ ?_ ?_))
            · exact fun (g48 : s 172 6 ≠ 1)  => False.elim (by omega)
            · intro g49 g50
              show zT (zE 1497) (Pt PX11_readsAll) m47 (148, [((172 : Nat) : Int), x1], [(0, 0)], s) Q
              refine tI0 rfl (fun g _ l => zT_le ?_ (Nat.le_of_lt l)) (fun g _ l => (absurd g (by decide)))
              refine tL ((172 : Nat) : Int) 0 rfl rfl rfl ?_
              refine tKL rfl ?_
              refine tCall [(((172 : Nat) : Int), 0), (161152, 1)] [] rfl rfl rfl (fun m51 l51 => c_X11_isWord (b_X11_isWord_0 161152 0 s ?_ ?_ ?_))
              · exact fun (g52 : s 172 6 ≠ 1)  => False.elim (by omega)
              · intro g53 g54
                show zT (zE 1497) (Pt PX11_readsAll) m51 (165, [((172 : Nat) : Int), x1], [(0, 0)], s) Q
                refine tI0 rfl (fun g _ l => zT_le ?_ (Nat.le_of_lt l)) (fun g _ l => (absurd g (by decide)))
                refine tL ((172 : Nat) : Int) 0 rfl rfl rfl ?_
                refine tKL rfl ?_
                refine tCall [(((172 : Nat) : Int), 0), (453773, 1)] [] rfl rfl rfl (fun m55 l55 => c_X11_isWord (b_X11_isWord_0 453773 0 s ?_ ?_ ?_))
                · exact fun (g56 : s 172 6 ≠ 1)  => False.elim (by omega)
                · intro g57 g58
                  show zT (zE 1497) (Pt PX11_readsAll) m55 (186, [((172 : Nat) : Int), x1], [(0, 0)], s) Q
                  refine tI0 rfl (fun g _ l => zT_le ?_ (Nat.le_of_lt l)) (fun g _ l => (absurd g (by decide)))
                  refine tL ((172 : Nat) : Int) 0 rfl rfl rfl ?_
                  refine tKL rfl ?_
                  refine tCall [(((172 : Nat) : Int), 0), (8863997, 1)] [] rfl rfl rfl (fun m59 l59 => c_X11_isWord (b_X11_isWord_0 8863997 0 s ?_ ?_ ?_))
                  · exact fun (g60 : s 172 6 ≠ 1)  => False.elim (by omega)
                  · intro g61 g62
                    show zT (zE 1497) (Pt PX11_readsAll) m59 (207, [((172 : Nat) : Int), x1], [(0, 0)], s) Q
                    refine tI0 rfl (fun g _ l => zT_le ?_ (Nat.le_of_lt l)) (fun g _ l => (absurd g (by decide)))
                    refine tL ((172 : Nat) : Int) 0 rfl rfl rfl ?_
                    refine tK rfl ?_
                    refine tCall [(((172 : Nat) : Int), 0), (1, 0)] [] rfl rfl rfl (fun m63 l63 => c_X11_fails (b_X11_fails_0 1 s ?_))
                    · show zT (zE 1497) (Pt PX11_readsAll) m63 (222, [((172 : Nat) : Int), x1], [(0, 0)], zu s 172 9 (w32 (1 + (w32 (16 * (s 172 5)))))) Q
                      refine tS [((172 : Nat) : Int), 0] rfl rfl ?_
                      refine tL 0 0 rfl rfl rfl ?_
                      refine tI1 rfl (fun g _ l => (absurd g (by decide))) (fun g _ l => zT_le ?_ (Nat.le_of_lt l))
                      refine tK rfl ?_
                      exact tR rfl (h2 g1 g33 g34 g38 g42 g46 g50 g54 g58 g62)
                  · intro g64 g65
                    show zT (zE 1497) (Pt PX11_readsAll) m59 (207, [((172 : Nat) : Int), x1], [(1, 0)], s) Q
                    refine tI0 rfl (fun g _ l => (absurd g (by decide))) (fun g _ l => zT_le ?_ (Nat.le_of_lt l))
                    refine tL ((172 : Nat) : Int) 0 rfl rfl rfl ?_
                    exact tCall [(((172 : Nat) : Int), 0)] [] rfl rfl rfl (fun m l => h3 g1 g33 g34 g38 g42 g46 g50 g54 g58 g65 m (Nat.lt_of_lt_of_le l (Nat.le_trans (Nat.le_of_lt l59) (Nat.le_trans (Nat.le_of_lt l55) (Nat.le_trans (Nat.le_of_lt l51) (Nat.le_trans (Nat.le_of_lt l47) (Nat.le_trans (Nat.le_of_lt l43) (Nat.le_trans (Nat.le_of_lt l39) (Nat.le_trans (Nat.le_of_lt l35) (Nat.le_trans (Nat.le_of_lt l2) (Nat.le_refl n)))))))))))
                · intro g67 g68
                  show zT (zE 1497) (Pt PX11_readsAll) m55 (186, [((172 : Nat) : Int), x1], [(1, 0)], s) Q
                  refine tI0 rfl (fun g _ l => (absurd g (by decide))) (fun g _ l => zT_le ?_ (Nat.le_of_lt l))
                  refine tL ((172 : Nat) : Int) 0 rfl rfl rfl ?_
                  refine tK rfl ?_
                  refine tK rfl ?_
                  exact tCall [(((172 : Nat) : Int), 0), (6, 0), (60, 0)] [] rfl rfl rfl (fun m l => h4 g1 g33 g34 g38 g42 g46 g50 g54 g68 m (Nat.lt_of_lt_of_le l (Nat.le_trans (Nat.le_of_lt l55) (Nat.le_trans (Nat.le_of_lt l51) (Nat.le_trans (Nat.le_of_lt l47) (Nat.le_trans (Nat.le_of_lt l43) (Nat.le_trans (Nat.le_of_lt l39) (Nat.le_trans (Nat.le_of_lt l35) (Nat.le_trans (Nat.le_of_lt l2) (Nat.le_refl n))))))))))
              · intro g70 g71
                show zT (zE 1497) (Pt PX11_readsAll) m51 (165, [((172 : Nat) : Int), x1], [(1, 0)], s) Q
                refine tI0 rfl (fun g _ l => (absurd g (by decide))) (fun g _ l => zT_le ?_ (Nat.le_of_lt l))
                refine tL ((172 : Nat) : Int) 0 rfl rfl rfl ?_
                refine tK rfl ?_
                refine tK rfl ?_
                exact tCall [(((172 : Nat) : Int), 0), (5, 0), (999, 0)] [] rfl rfl rfl (fun m l => h5 g1 g33 g34 g38 g42 g46 g50 g71 m (Nat.lt_of_lt_of_le l (Nat.le_trans (Nat.le_of_lt l51) (Nat.le_trans (Nat.le_of_lt l47) (Nat.le_trans (Nat.le_of_lt l43) (Nat.le_trans (Nat.le_of_lt l39) (Nat.le_trans (Nat.le_of_lt l35) (Nat.le_trans (Nat.le_of_lt l2) (Nat.le_refl n)))))))))
            · intro g73 g74
              show zT (zE 1497) (Pt PX11_readsAll) m47 (148, [((172 : Nat) : Int), x1], [(1, 0)], s) Q
              refine tI0 rfl (fun g _ l => (absurd g (by decide))) (fun g _ l => zT_le ?_ (Nat.le_of_lt l))
              refine tL ((172 : Nat) : Int) 0 rfl rfl rfl ?_
              exact tCall [(((172 : Nat) : Int), 0)] [] rfl rfl rfl (fun m l => h6 g1 g33 g34 g38 g42 g46 g74 m (Nat.lt_of_lt_of_le l (Nat.le_trans (Nat.le_of_lt l47) (Nat.le_trans (Nat.le_of_lt l43) (Nat.le_trans (Nat.le_of_lt l39) (Nat.le_trans (Nat.le_of_lt l35) (Nat.le_trans (Nat.le_of_lt l2) (Nat.le_refl n))))))))
          · intro g76 g77
            show zT (zE 1497) (Pt PX11_readsAll) m43 (131, [((172 : Nat) : Int), x1], [(1, 0)], s) Q
            refine tI0 rfl (fun g _ l => (absurd g (by decide))) (fun g _ l => zT_le ?_ (Nat.le_of_lt l))
            refine tL ((172 : Nat) : Int) 0 rfl rfl rfl ?_
            exact tCall [(((172 : Nat) : Int), 0)] [] rfl rfl rfl (fun m l => h7 g1 g33 g34 g38 g42 g77 m (Nat.lt_of_lt_of_le l (Nat.le_trans (Nat.le_of_lt l43) (Nat.le_trans (Nat.le_of_lt l39) (Nat.le_trans (Nat.le_of_lt l35) (Nat.le_trans (Nat.le_of_lt l2) (Nat.le_refl n)))))))
        · intro g79 g80
          show zT (zE 1497) (Pt PX11_readsAll) m39 (114, [((172 : Nat) : Int), x1], [(1, 0)], s) Q
          refine tI0 rfl (fun g _ l => (absurd g (by decide))) (fun g _ l => zT_le ?_ (Nat.le_of_lt l))
          refine tL ((172 : Nat) : Int) 0 rfl rfl rfl ?_
          exact tCall [(((172 : Nat) : Int), 0)] [] rfl rfl rfl (fun m l => h8 g1 g33 g34 g38 g80 m (Nat.lt_of_lt_of_le l (Nat.le_trans (Nat.le_of_lt l39) (Nat.le_trans (Nat.le_of_lt l35) (Nat.le_trans (Nat.le_of_lt l2) (Nat.le_refl n))))))
      · intro g82 g83
        show zT (zE 1497) (Pt PX11_readsAll) m35 (97, [((172 : Nat) : Int), x1], [(1, 0)], s) Q
        refine tI0 rfl (fun g _ l => (absurd g (by decide))) (fun g _ l => zT_le ?_ (Nat.le_of_lt l))
        refine tL ((172 : Nat) : Int) 0 rfl rfl rfl ?_
        exact tCall [(((172 : Nat) : Int), 0)] [] rfl rfl rfl (fun m l => h9 g1 g33 g34 g83 m (Nat.lt_of_lt_of_le l (Nat.le_trans (Nat.le_of_lt l35) (Nat.le_trans (Nat.le_of_lt l2) (Nat.le_refl n)))))
    · intro g85 g86
      show zT (zE 1497) (Pt PX11_readsAll) m2 (80, [((172 : Nat) : Int), x1], [(1, 0)], s) Q
      refine tI0 rfl (fun g _ l => (absurd g (by decide))) (fun g _ l => zT_le ?_ (Nat.le_of_lt l))
      refine tL ((172 : Nat) : Int) 0 rfl rfl rfl ?_
      exact tCall [(((172 : Nat) : Int), 0)] [] rfl rfl rfl (fun m l => h10 g1 g85 g86 m (Nat.lt_of_lt_of_le l (Nat.le_trans (Nat.le_of_lt l2) (Nat.le_refl n))))

theorem b_X11_readsAll_214 {n : Nat} {Q : Zr → Prop} (x1 v0 : Int) (s : Zs) 
    (h0 : ∀ (g1 : v0 ≠ 0), ∀ m, m < n → zT (zE 1497) (Pt PX11_readsAll) m (66, [((172 : Nat) : Int), v0], [], s) Q)
    (h1 : ∀ (g1 : v0 = 0), Q ([(0, 0)], s)) : zT (zE 1497) (Pt PX11_readsAll) n (214, [((172 : Nat) : Int), x1], [(v0, 0)], s) Q := by
  refine tG rfl ?_
  refine tS [((172 : Nat) : Int), v0] rfl rfl ?_
  refine tL v0 0 rfl rfl rfl ?_
  refine tI1 rfl (fun g1 _ l1 => zT_le ?_ (Nat.le_of_lt l1)) (fun g1 _ l1 => zT_le ?_ (Nat.le_of_lt l1))
  · exact tGb rfl (fun m2 l2 => h0 g1 m2 (Nat.lt_of_lt_of_le l2 (Nat.le_refl n)))
  · refine tK rfl ?_
    exact tR rfl (h1 g1)

theorem b_X11_readsAll_197 {n : Nat} {Q : Zr → Prop} (x1 v0 : Int) (s : Zs) 
    (h0 : ∀ (g1 : v0 ≠ 0), ∀ m, m < n → zT (zE 1497) (Pt PX11_readsAll) m (66, [((172 : Nat) : Int), v0], [], s) Q)
    (h1 : ∀ (g1 : v0 = 0), Q ([(0, 0)], s)) : zT (zE 1497) (Pt PX11_readsAll) n (197, [((172 : Nat) : Int), x1], [(v0, 0)], s) Q := by
  refine tG rfl ?_
  refine tS [((172 : Nat) : Int), v0] rfl rfl ?_
  refine tL v0 0 rfl rfl rfl ?_
  refine tI1 rfl (fun g1 _ l1 => zT_le ?_ (Nat.le_of_lt l1)) (fun g1 _ l1 => zT_le ?_ (Nat.le_of_lt l1))
  · exact tGb rfl (fun m2 l2 => h0 g1 m2 (Nat.lt_of_lt_of_le l2 (Nat.le_refl n)))
  · refine tK rfl ?_
    exact tR rfl (h1 g1)

theorem b_X11_readsAll_176 {n : Nat} {Q : Zr → Prop} (x1 v0 : Int) (s : Zs) 
    (h0 : ∀ (g1 : v0 ≠ 0), ∀ m, m < n → zT (zE 1497) (Pt PX11_readsAll) m (66, [((172 : Nat) : Int), v0], [], s) Q)
    (h1 : ∀ (g1 : v0 = 0), Q ([(0, 0)], s)) : zT (zE 1497) (Pt PX11_readsAll) n (176, [((172 : Nat) : Int), x1], [(v0, 0)], s) Q := by
  refine tG rfl ?_
  refine tS [((172 : Nat) : Int), v0] rfl rfl ?_
  refine tL v0 0 rfl rfl rfl ?_
  refine tI1 rfl (fun g1 _ l1 => zT_le ?_ (Nat.le_of_lt l1)) (fun g1 _ l1 => zT_le ?_ (Nat.le_of_lt l1))
  · exact tGb rfl (fun m2 l2 => h0 g1 m2 (Nat.lt_of_lt_of_le l2 (Nat.le_refl n)))
  · refine tK rfl ?_
    exact tR rfl (h1 g1)

theorem b_X11_readsAll_155 {n : Nat} {Q : Zr → Prop} (x1 v0 : Int) (s : Zs) 
    (h0 : ∀ (g1 : v0 ≠ 0), ∀ m, m < n → zT (zE 1497) (Pt PX11_readsAll) m (66, [((172 : Nat) : Int), v0], [], s) Q)
    (h1 : ∀ (g1 : v0 = 0), Q ([(0, 0)], s)) : zT (zE 1497) (Pt PX11_readsAll) n (155, [((172 : Nat) : Int), x1], [(v0, 0)], s) Q := by
  refine tG rfl ?_
  refine tS [((172 : Nat) : Int), v0] rfl rfl ?_
  refine tL v0 0 rfl rfl rfl ?_
  refine tI1 rfl (fun g1 _ l1 => zT_le ?_ (Nat.le_of_lt l1)) (fun g1 _ l1 => zT_le ?_ (Nat.le_of_lt l1))
  · exact tGb rfl (fun m2 l2 => h0 g1 m2 (Nat.lt_of_lt_of_le l2 (Nat.le_refl n)))
  · refine tK rfl ?_
    exact tR rfl (h1 g1)

theorem b_X11_readsAll_138 {n : Nat} {Q : Zr → Prop} (x1 v0 : Int) (s : Zs) 
    (h0 : ∀ (g1 : v0 ≠ 0), ∀ m, m < n → zT (zE 1497) (Pt PX11_readsAll) m (66, [((172 : Nat) : Int), v0], [], s) Q)
    (h1 : ∀ (g1 : v0 = 0), Q ([(0, 0)], s)) : zT (zE 1497) (Pt PX11_readsAll) n (138, [((172 : Nat) : Int), x1], [(v0, 0)], s) Q := by
  refine tG rfl ?_
  refine tS [((172 : Nat) : Int), v0] rfl rfl ?_
  refine tL v0 0 rfl rfl rfl ?_
  refine tI1 rfl (fun g1 _ l1 => zT_le ?_ (Nat.le_of_lt l1)) (fun g1 _ l1 => zT_le ?_ (Nat.le_of_lt l1))
  · exact tGb rfl (fun m2 l2 => h0 g1 m2 (Nat.lt_of_lt_of_le l2 (Nat.le_refl n)))
  · refine tK rfl ?_
    exact tR rfl (h1 g1)

theorem b_X11_readsAll_121 {n : Nat} {Q : Zr → Prop} (x1 v0 : Int) (s : Zs) 
    (h0 : ∀ (g1 : v0 ≠ 0), ∀ m, m < n → zT (zE 1497) (Pt PX11_readsAll) m (66, [((172 : Nat) : Int), v0], [], s) Q)
    (h1 : ∀ (g1 : v0 = 0), Q ([(0, 0)], s)) : zT (zE 1497) (Pt PX11_readsAll) n (121, [((172 : Nat) : Int), x1], [(v0, 0)], s) Q := by
  refine tG rfl ?_
  refine tS [((172 : Nat) : Int), v0] rfl rfl ?_
  refine tL v0 0 rfl rfl rfl ?_
  refine tI1 rfl (fun g1 _ l1 => zT_le ?_ (Nat.le_of_lt l1)) (fun g1 _ l1 => zT_le ?_ (Nat.le_of_lt l1))
  · exact tGb rfl (fun m2 l2 => h0 g1 m2 (Nat.lt_of_lt_of_le l2 (Nat.le_refl n)))
  · refine tK rfl ?_
    exact tR rfl (h1 g1)

theorem b_X11_readsAll_104 {n : Nat} {Q : Zr → Prop} (x1 v0 : Int) (s : Zs) 
    (h0 : ∀ (g1 : v0 ≠ 0), ∀ m, m < n → zT (zE 1497) (Pt PX11_readsAll) m (66, [((172 : Nat) : Int), v0], [], s) Q)
    (h1 : ∀ (g1 : v0 = 0), Q ([(0, 0)], s)) : zT (zE 1497) (Pt PX11_readsAll) n (104, [((172 : Nat) : Int), x1], [(v0, 0)], s) Q := by
  refine tG rfl ?_
  refine tS [((172 : Nat) : Int), v0] rfl rfl ?_
  refine tL v0 0 rfl rfl rfl ?_
  refine tI1 rfl (fun g1 _ l1 => zT_le ?_ (Nat.le_of_lt l1)) (fun g1 _ l1 => zT_le ?_ (Nat.le_of_lt l1))
  · exact tGb rfl (fun m2 l2 => h0 g1 m2 (Nat.lt_of_lt_of_le l2 (Nat.le_refl n)))
  · refine tK rfl ?_
    exact tR rfl (h1 g1)

theorem b_X11_readsAll_87 {n : Nat} {Q : Zr → Prop} (x1 v0 : Int) (s : Zs) 
    (h0 : ∀ (g1 : v0 ≠ 0), ∀ m, m < n → zT (zE 1497) (Pt PX11_readsAll) m (66, [((172 : Nat) : Int), v0], [], s) Q)
    (h1 : ∀ (g1 : v0 = 0), Q ([(0, 0)], s)) : zT (zE 1497) (Pt PX11_readsAll) n (87, [((172 : Nat) : Int), x1], [(v0, 0)], s) Q := by
  refine tG rfl ?_
  refine tS [((172 : Nat) : Int), v0] rfl rfl ?_
  refine tL v0 0 rfl rfl rfl ?_
  refine tI1 rfl (fun g1 _ l1 => zT_le ?_ (Nat.le_of_lt l1)) (fun g1 _ l1 => zT_le ?_ (Nat.le_of_lt l1))
  · exact tGb rfl (fun m2 l2 => h0 g1 m2 (Nat.lt_of_lt_of_le l2 (Nat.le_refl n)))
  · refine tK rfl ?_
    exact tR rfl (h1 g1)

theorem c_X11_readsAll {n : Nat} {Q : Zr → Prop} {a0 : Int} {s : Zs} (h : zT (zE 1497) (Pt PX11_readsAll) n (0, [a0, 0], [], s) Q) : zC n 1497 [(a0, 0)] s Q := h

section Zma
variable {N : Nat} {s : Zs} {T : Nat → Int} {n p : Nat} {D : ZD}
theorem mHeap_ok (h : mP s T n p D) : zC N 1502 [(((172 : Nat) : Int), 0), (5, 0), (999, 0)] s (qLn s T n (pHeap T n (0, p) D)) := by
  obtain ⟨d1, d2, d3, d4, d5, d6⟩ := h.2.2.2.2
  refine c_X11_readsOne (b_X11_readsOne_0 _ _ s (fun m hm => ?_))
  by_cases hD : dHeap D = -1
  · have ev : zand (zshr (s 172 32) 5) 1 ≠ 1 := by
      rw [d1, hD, if_pos rfl]
      by_cases hO : dWalk D = -1
      · rw [hO, if_pos rfl]; decide
      · rw [if_neg hO]; decide
    have eo : zor (s 172 32) (zshl 1 5) = (32 + if dWalk D = -1 then 0 else 64) := by
      rw [d1, hD, if_pos rfl]
      by_cases hO : dWalk D = -1
      · rw [hO, if_pos rfl]; decide
      · rw [if_neg hO]; decide
    refine c_X11_isTwice (b_X11_isTwice_0 _ s (fun _ => ?_) (fun g => absurd g ev))
    rw [eo]
    have h0 : mP (zu s 172 32 (32 + if dWalk D = -1 then 0 else 64)) T n p (D.1, D.2.1, 0, D.2.2.2) := by
      refine ⟨mst_out h.1 (fun c i hc => zu_n (by omega)), ?_, h.2.2.1, h.2.2.2.1, ?_, ?_, ?_, by rw [zu_n (by omega), zu_n (by omega)]; exact d4, by rw [zu_n (by omega)]; exact d5, by rw [zu_n (by omega)]; exact d6⟩
      · obtain ⟨a1, a2, a3⟩ := h.2.1
        refine ⟨fun k hk => by rw [zu_n (by omega)]; exact a1 k hk, fun k i w b c e => ?_, fun k j i v b c e => ?_⟩
        · have := mnc_b k
          rw [zu_n (by omega)]
          exact a2 k i w b c e
        · have := mcc_b b c
          rw [zu_n (by omega)]
          exact a3 k j i v b c e
      · rw [zu_eq]; rfl
      · rw [zu_n (by omega), d2]; first | rfl | (rw [hD]; rfl)
      · rw [zu_n (by omega), d3]; first | rfl | (rw [hD]; rfl)
    have eOn : gOn T n (decide (dHeap D ≠ -1)) (0, p) = (0, kE T n p) := by
      unfold gOn
      rw [if_neg (by rw [decide_eq_true_eq]; exact fun q => q hD)]
      rfl
    have th : frH s (zu s 172 32 (32 + if dWalk D = -1 then 0 else 64)) := (frH_u (by omega) (by omega))
    generalize zu s 172 32 (32 + if dWalk D = -1 then 0 else 64) = s0 at h0 th ⊢
    refine b_X11_readsOne_5 _ _ _ s0 (fun _ m1 hm1 => ?_) (fun q => absurd rfl q)
    refine mst_next h0.1 (fun s1 f1 p1 => ?_)
    have h1 := mP_N (frN_M f1) h0 p1 (by have := kE_bd (T := T) h.1.2.1; omega)
    have t1 : frH s s1 := (by first | exact frH_N f1 | exact frH_N (frN_M f1) : frH _ _).trans th
    refine b_X11_readsOne_18 _ _ s1 (fun m2 hm2 => needsNumber_q h1 (fun s2 a f b => ?_) (fun s2 e2 f2 h2 v2 l1 l2 => ?_))
    · refine b_X11_readsOne_24 _ _ _ s2 (fun q => absurd rfl q) (fun _ => qLn_bad (Y := gN T n 0 999 (0, kE T n p)) ?_ a ((by first | exact frH_N f | exact frH_N (frN_M f) : frH _ _).trans t1) b)
      unfold pHeap; dsimp only; rw [eOn, gS_nz a]
    have t2 : frH s s2 := (by first | exact frH_N f2 | exact frH_N (frN_M f2) : frH _ _).trans t1
    refine b_X11_readsOne_24 _ _ _ s2 (fun _ m3 hm3 => ?_) (fun q => absurd q (by decide))
    rw [show (w32 (7 + 5)).toNat = 12 from by decide, v2]
    have h3 : mP (zu s2 174 12 (eM T n (kB T n (kE T n p)))) T n (kE T n (kE T n p)) (D.1, D.2.1, eM T n (kB T n (kE T n p)), D.2.2.2) := by
      obtain ⟨d1, d2, d3, d4, d5, d6⟩ := h2.2.2.2.2
      refine ⟨mst_out h2.1 (fun c i hc => zu_n (by omega)), ?_, h2.2.2.1, h2.2.2.2.1, ?_, ?_, ?_, by rw [zu_n (by omega), zu_n (by omega)]; exact d4, by rw [zu_n (by omega)]; exact d5, by rw [zu_n (by omega)]; exact d6⟩
      · obtain ⟨a1, a2, a3⟩ := h2.2.1
        refine ⟨fun k hk => by rw [zu_n (by omega)]; exact a1 k hk, fun k i w b c e => ?_, fun k j i v b c e => ?_⟩
        · have := mnc_b k
          rw [zu_n (by omega)]
          exact a2 k i w b c e
        · have := mcc_b b c
          rw [zu_n (by omega)]
          exact a3 k j i v b c e
      · rw [zu_n (by omega), d1]
        have e : (if (0 : Int) = -1 then (0 : Int) else 32) = (if eM T n (kB T n (kE T n p)) = -1 then 0 else 32) := by rw [if_neg (by decide), if_neg (by omega)]
        exact congrArg (fun z => z + (if dWalk D = -1 then (0 : Int) else 64)) e
      · first
        | (rw [zu_eq]; exact (if_neg (show ¬ eM T n (kB T n (kE T n p)) = -1 by omega)).symm)
        | (rw [zu_n (by omega)]; exact d2)
      · first
        | (rw [zu_eq]; exact (if_neg (show ¬ eM T n (kB T n (kE T n p)) = -1 by omega)).symm)
        | (rw [zu_n (by omega)]; exact d3)
    have t3 : frH s (zu s2 174 12 (eM T n (kB T n (kE T n p)))) := (frH_u (by have h9 : hbf 174 = 7 := rfl; omega) (by omega)).trans t2
    generalize zu s2 174 12 (eM T n (kB T n (kE T n p))) = s3 at h3 t3 ⊢
    refine closes_q h3 (fun s' a f b => ?_) (fun s' ez f h' => ?_)
    · refine b_X11_readsOne_46 _ _ _ s' (qLn_bad (Y := gS T n 59 (0, kE T n (kE T n p))) ?_ a ((by first | exact frH_N f | exact frH_N (frN_M f) : frH _ _).trans t3) b)
      unfold pHeap; dsimp only; rw [eOn, e2]
    · refine b_X11_readsOne_46 _ _ _ s' (qLn_good ?_ ((by first | exact frH_N f | exact frH_N (frN_M f) : frH _ _).trans t3) h')
      unfold pHeap; dsimp only; rw [eOn, e2, ez]; rfl
  · have ev : zand (zshr (s 172 32) 5) 1 = 1 := by
      rw [d1, if_neg hD]
      by_cases hO : dWalk D = -1
      · rw [hO, if_pos rfl]; decide
      · rw [if_neg hO]; decide
    refine c_X11_isTwice (b_X11_isTwice_0 _ s (fun g => absurd ev g) (fun _ => ?_))
    have eOn : gOn T n (decide (dHeap D ≠ -1)) (0, p) = gF T n 3 (0, p) := by
      unfold gOn
      rw [if_pos (by rw [decide_eq_true_eq]; exact hD)]
    refine b_X11_readsOne_5 _ _ _ s (fun q => absurd q (by decide)) (fun _ => ?_)
    refine mfail_q (k' := 3) (by decide) h.1 rfl (fun s' a f b => qLn_bad (Y := gF T n 3 (0, p)) ?_ a (by first | exact frH_N f | exact frH_N (frN_M f) : frH _ _) b)
    unfold pHeap; dsimp only; rw [eOn, gN_nz a, gS_nz a]
theorem mWalk_ok (h : mP s T n p D) : zC N 1502 [(((172 : Nat) : Int), 0), (6, 0), (60, 0)] s (qLn s T n (pWalk T n (0, p) D)) := by
  obtain ⟨d1, d2, d3, d4, d5, d6⟩ := h.2.2.2.2
  refine c_X11_readsOne (b_X11_readsOne_0 _ _ s (fun m hm => ?_))
  by_cases hD : dWalk D = -1
  · have ev : zand (zshr (s 172 32) 6) 1 ≠ 1 := by
      rw [d1, hD, if_pos rfl]
      by_cases hO : dHeap D = -1
      · rw [hO, if_pos rfl]; decide
      · rw [if_neg hO]; decide
    have eo : zor (s 172 32) (zshl 1 6) = ((if dHeap D = -1 then 0 else 32) + 64) := by
      rw [d1, hD, if_pos rfl]
      by_cases hO : dHeap D = -1
      · rw [hO, if_pos rfl]; decide
      · rw [if_neg hO]; decide
    refine c_X11_isTwice (b_X11_isTwice_0 _ s (fun _ => ?_) (fun g => absurd g ev))
    rw [eo]
    have h0 : mP (zu s 172 32 ((if dHeap D = -1 then 0 else 32) + 64)) T n p (D.1, D.2.1, D.2.2.1, 5, D.2.2.2.2) := by
      refine ⟨mst_out h.1 (fun c i hc => zu_n (by omega)), ?_, h.2.2.1, h.2.2.2.1, ?_, ?_, ?_, by rw [zu_n (by omega), zu_n (by omega)]; exact d4, by rw [zu_n (by omega)]; exact d5, by rw [zu_n (by omega)]; exact d6⟩
      · obtain ⟨a1, a2, a3⟩ := h.2.1
        refine ⟨fun k hk => by rw [zu_n (by omega)]; exact a1 k hk, fun k i w b c e => ?_, fun k j i v b c e => ?_⟩
        · have := mnc_b k
          rw [zu_n (by omega)]
          exact a2 k i w b c e
        · have := mcc_b b c
          rw [zu_n (by omega)]
          exact a3 k j i v b c e
      · rw [zu_eq]; rfl
      · rw [zu_n (by omega), d2]; first | rfl | (rw [hD]; rfl)
      · rw [zu_n (by omega), d3]; first | rfl | (rw [hD]; rfl)
    have eOn : gOn T n (decide (dWalk D ≠ -1)) (0, p) = (0, kE T n p) := by
      unfold gOn
      rw [if_neg (by rw [decide_eq_true_eq]; exact fun q => q hD)]
      rfl
    have th : frH s (zu s 172 32 ((if dHeap D = -1 then 0 else 32) + 64)) := (frH_u (by omega) (by omega))
    generalize zu s 172 32 ((if dHeap D = -1 then 0 else 32) + 64) = s0 at h0 th ⊢
    refine b_X11_readsOne_5 _ _ _ s0 (fun _ m1 hm1 => ?_) (fun q => absurd rfl q)
    refine mst_next h0.1 (fun s1 f1 p1 => ?_)
    have h1 := mP_N (frN_M f1) h0 p1 (by have := kE_bd (T := T) h.1.2.1; omega)
    have t1 : frH s s1 := (by first | exact frH_N f1 | exact frH_N (frN_M f1) : frH _ _).trans th
    refine b_X11_readsOne_18 _ _ s1 (fun m2 hm2 => needsNumber_q h1 (fun s2 a f b => ?_) (fun s2 e2 f2 h2 v2 l1 l2 => ?_))
    · refine b_X11_readsOne_24 _ _ _ s2 (fun q => absurd rfl q) (fun _ => qLn_bad (Y := gN T n 0 60 (0, kE T n p)) ?_ a ((by first | exact frH_N f | exact frH_N (frN_M f) : frH _ _).trans t1) b)
      unfold pWalk; dsimp only; rw [eOn, gS_nz a]
    have t2 : frH s s2 := (by first | exact frH_N f2 | exact frH_N (frN_M f2) : frH _ _).trans t1
    refine b_X11_readsOne_24 _ _ _ s2 (fun _ m3 hm3 => ?_) (fun q => absurd q (by decide))
    rw [show (w32 (7 + 6)).toNat = 13 from by decide, v2]
    have h3 : mP (zu s2 174 13 (eM T n (kB T n (kE T n p)))) T n (kE T n (kE T n p)) (D.1, D.2.1, D.2.2.1, eM T n (kB T n (kE T n p)), D.2.2.2.2) := by
      obtain ⟨d1, d2, d3, d4, d5, d6⟩ := h2.2.2.2.2
      refine ⟨mst_out h2.1 (fun c i hc => zu_n (by omega)), ?_, h2.2.2.1, h2.2.2.2.1, ?_, ?_, ?_, by rw [zu_n (by omega), zu_n (by omega)]; exact d4, by rw [zu_n (by omega)]; exact d5, by rw [zu_n (by omega)]; exact d6⟩
      · obtain ⟨a1, a2, a3⟩ := h2.2.1
        refine ⟨fun k hk => by rw [zu_n (by omega)]; exact a1 k hk, fun k i w b c e => ?_, fun k j i v b c e => ?_⟩
        · have := mnc_b k
          rw [zu_n (by omega)]
          exact a2 k i w b c e
        · have := mcc_b b c
          rw [zu_n (by omega)]
          exact a3 k j i v b c e
      · rw [zu_n (by omega), d1]
        have e : (if (5 : Int) = -1 then (0 : Int) else 64) = (if eM T n (kB T n (kE T n p)) = -1 then 0 else 64) := by rw [if_neg (by decide), if_neg (by omega)]
        exact congrArg (fun z => (if dHeap D = -1 then (0 : Int) else 32) + z) e
      · first
        | (rw [zu_eq]; exact (if_neg (show ¬ eM T n (kB T n (kE T n p)) = -1 by omega)).symm)
        | (rw [zu_n (by omega)]; exact d2)
      · first
        | (rw [zu_eq]; exact (if_neg (show ¬ eM T n (kB T n (kE T n p)) = -1 by omega)).symm)
        | (rw [zu_n (by omega)]; exact d3)
    have t3 : frH s (zu s2 174 13 (eM T n (kB T n (kE T n p)))) := (frH_u (by have h9 : hbf 174 = 7 := rfl; omega) (by omega)).trans t2
    generalize zu s2 174 13 (eM T n (kB T n (kE T n p))) = s3 at h3 t3 ⊢
    refine closes_q h3 (fun s' a f b => ?_) (fun s' ez f h' => ?_)
    · refine b_X11_readsOne_46 _ _ _ s' (qLn_bad (Y := gS T n 59 (0, kE T n (kE T n p))) ?_ a ((by first | exact frH_N f | exact frH_N (frN_M f) : frH _ _).trans t3) b)
      unfold pWalk; dsimp only; rw [eOn, e2]
    · refine b_X11_readsOne_46 _ _ _ s' (qLn_good ?_ ((by first | exact frH_N f | exact frH_N (frN_M f) : frH _ _).trans t3) h')
      unfold pWalk; dsimp only; rw [eOn, e2, ez]; rfl
  · have ev : zand (zshr (s 172 32) 6) 1 = 1 := by
      rw [d1, if_neg hD]
      by_cases hO : dHeap D = -1
      · rw [hO, if_pos rfl]; decide
      · rw [if_neg hO]; decide
    refine c_X11_isTwice (b_X11_isTwice_0 _ s (fun g => absurd ev g) (fun _ => ?_))
    have eOn : gOn T n (decide (dWalk D ≠ -1)) (0, p) = gF T n 3 (0, p) := by
      unfold gOn
      rw [if_pos (by rw [decide_eq_true_eq]; exact hD)]
    refine b_X11_readsOne_5 _ _ _ s (fun q => absurd q (by decide)) (fun _ => ?_)
    refine mfail_q (k' := 3) (by decide) h.1 rfl (fun s' a f b => qLn_bad (Y := gF T n 3 (0, p)) ?_ a (by first | exact frH_N f | exact frH_N (frN_M f) : frH _ _) b)
    unfold pWalk; dsimp only; rw [eOn, gN_nz a, gS_nz a]

theorem aRun_le {T : Nat → Int} {n : Nat} : ∀ (f p : Nat) (w : Bool) (l : List (Bool × Bool)), p ≤ n → p ≤ (aRun T n f p w l).2 ∧ (aRun T n f p w l).2 ≤ n
  | 0, p, _, _, hp => ⟨Nat.le_refl _, hp⟩
  | f + 1, p, w, l, hp => by
    have hb := kE_bd (T := T) hp
    have on : ∀ w' l', p ≤ (aRun T n f (kE T n p) w' l').2 ∧ (aRun T n f (kE T n p) w' l').2 ≤ n := fun w' l' => by
      have := aRun_le (T := T) f (kE T n p) w' l' hb.2.2.2
      omega
    have gf : ∀ k, p ≤ (gF T n k (0, p)).2 ∧ (gF T n k (0, p)).2 ≤ n := fun k => by
      have : (gF T n k (0, p)).2 = p := rfl
      omega
    cases w with
    | true =>
      unfold aRun
      dsimp only
      split
      · exact gf 1
      · split
        · exact gf 5
        · split
          · exact on _ _
          · split
            · exact on _ _
            · exact on _ _
    | false =>
      unfold aRun
      dsimp only
      split
      · exact on _ _
      · split
        · exact on _ _
        · split
          · exact on _ _
          · split
            · exact on _ _
            · split
              · exact ⟨by show p ≤ kE T n p; omega, hb.2.2.2⟩
              · exact gf 1
theorem mPrice_ok (h : mP s T n p D) : zC N 1504 [(((172 : Nat) : Int), 0)] s (qLn s T n (pPrice T n (0, p) D)) := by
  obtain ⟨d1, d2, d3, d4, d5, d6⟩ := h.2.2.2.2
  refine c_X11_readsPrice (b_X11_readsPrice_0 s (fun g m hm => ?_) (fun g => ?_))
  · have hD : dPr D = 0 := Decidable.byContradiction fun q => by have := d4.mpr q; omega
    have eOn : gOn T n (decide (dPr D ≠ 0)) (0, p) = (0, kE T n p) := by
      unfold gOn
      rw [if_neg (by rw [decide_eq_true_eq]; exact fun q => q hD)]
      rfl
    refine mst_next h.1 (fun s1 f1 p1 => ?_)
    have hkb := kE_bd (T := T) h.1.2.1
    have h1 := mP_N (frN_M f1) h p1 (by omega)
    have t1 : frH s s1 := (by first | exact frH_N f1 | exact frH_N (frN_M f1))
    obtain ⟨c1, c2, c3, c4, c5, c6⟩ := h1.2.2.2.2
    refine b_X11_readsPrice_25 s1 (fun m1 hm1 => ?_)
    refine c_X11_reads (b_X11_reads_0 _ _ _ _ _ _ ?_)
    rw [show zst3 0 = 0 from by decide]
    have R : RI (zu s1 192 1 (s1 172 31)) (zu (zu s1 192 1 (s1 172 31)) 196 0 0) T n (s1 172 31) (kE T n p) true [(false, false)] := by
      refine ⟨mst_out h1.1 (fun c i hc => by rw [zu_n (by omega), zu_n (by omega)]), by simp, by simp, ⟨fun q => absurd rfl q, ?_, True.intro⟩, fun c j a b => zu_n (by omega), ?_, ?_, ?_, fun q => by cases q⟩
      · show zu (zu s1 192 1 (s1 172 31)) 196 0 0 196 0 = 0
        rw [zu_eq]
      · rw [zu_n (by omega), zu_n (by omega)]; exact Int.le_refl _
      · rw [zu_n (by omega), zu_n (by omega)]; omega
      · rw [zu_n (by omega), zu_n (by omega)]; exact c6
    refine zT_q (reads_loop m1 (kE T n p) true [(false, false)] _ _ _ _ R) (fun r hr => ?_)
    obtain ⟨r1, s2⟩ := r
    obtain ⟨e, f2, hg, hb⟩ := hr
    have e1 : (pPrice T n (0, p) D).1 = aR T n (kE T n p) true [(false, false)] := by
      unfold pPrice; dsimp only; rw [eOn]; rfl
    have hle := aRun_le (T := T) (n + 2 - kE T n p) (kE T n p) true [(false, false)] hkb.2.2.2
    have hle : kE T n p ≤ (aR T n (kE T n p) true [(false, false)]).2 ∧ (aR T n (kE T n p) true [(false, false)]).2 ≤ n := hle
    generalize aR T n (kE T n p) true [(false, false)] = y at e e1 hg hb hle
    have e : r1 = [(if y.1 = 0 then 1 else 0, 0)] := e
    subst e
    have f2 : frR (zu s1 192 1 (s1 172 31)) s2 := f2
    have t2 : frH s s2 := ⟨by rw [f2 172 1 (by omega) (by omega), zu_n (by omega)]; exact t1.1, fun c j a b d => by rw [f2 c j (by omega) (by omega), zu_n (by omega)]; exact t1.2.1 c j a b d, fun c j a => by rw [f2 c j (by omega) (by omega), zu_n (by omega)]; exact t1.2.2.1 c j a, by rw [f2 172 60 (by omega) (by omega), zu_n (by omega)]; exact t1.2.2.2⟩
    by_cases hy : y.1 = 0
    · rw [if_pos hy]
      obtain ⟨g1, g2, g3⟩ := hg hy
      have g1 : mst s2 T n y.2 := g1
      have g2 : s1 172 31 < s2 172 31 := g2
      have g3 : s2 172 31 ≤ 1000 + (y.2 : Int) := g3
      have ep : pPrice T n (0, p) D = ((0, y.2), (D.1, D.2.1, D.2.2.1, D.2.2.2.1, 1)) := by
        have e2 : (pPrice T n (0, p) D).2 = (D.1, D.2.1, D.2.2.1, D.2.2.2.1, 1) := rfl
        refine Prod.ext (e1.trans (Prod.ext hy rfl)) e2
      have z : ∀ {c j : Nat}, ¬ (c = 172 ∧ (4 ≤ j ∧ j ≤ 9 ∨ j = 31)) → ¬ (192 ≤ c ∧ c ≤ 196) → zu s2 193 1 (s2 172 31) c j = s1 c j := fun a b => by
        rw [zu_n (by omega), f2 _ _ a (by omega), zu_n (by omega)]
      refine b_X11_readsPrice_39 _ s2 (fun _ => qLn_good ep ?_ ?_) (fun q => absurd q (by decide))
      · exact ⟨by rw [z (by omega) (by omega)]; exact t1.1, fun c j a b d => by rw [z (by omega) (by omega)]; exact t1.2.1 c j a b d, fun c j a => by rw [z (by omega) (by omega)]; exact t1.2.2.1 c j a, by rw [z (by omega) (by omega)]; exact t1.2.2.2⟩
      · refine ⟨mst_out g1 (fun c i hc => zu_n (by omega)), ?_, h1.2.2.1, h1.2.2.2.1, by rw [z (by omega) (by omega)]; exact c1, by rw [z (by omega) (by omega)]; exact c2, by rw [z (by omega) (by omega)]; exact c3, ?_, ?_, ?_⟩
        · obtain ⟨a1, a2, a3⟩ := h1.2.1
          refine ⟨fun k hk => by rw [z (by omega) (by omega)]; exact a1 k hk, fun k i w b c e => ?_, fun k j i v b c e => ?_⟩
          · have := mnc_b k
            rw [z (by omega) (by omega)]
            exact a2 k i w b c e
          · have := mcc_b b c
            rw [z (by omega) (by omega)]
            exact a3 k j i v b c e
        · rw [zu_eq, zu_n (by omega), f2 192 1 (by omega) (by omega), zu_eq]
          exact ⟨fun _ => by show (1 : Int) ≠ 0; decide, fun _ => g2⟩
        · rw [zu_n (by omega)]; omega
        · rw [zu_n (by omega)]; exact g3
    · rw [if_neg hy]
      exact b_X11_readsPrice_39 _ s2 (fun q => absurd rfl q) (fun _ => qLn_bad e1 hy t2 (hb hy))
  · have hD : dPr D ≠ 0 := d4.mp g
    have eOn : gOn T n (decide (dPr D ≠ 0)) (0, p) = gF T n 3 (0, p) := by
      unfold gOn
      rw [if_pos (by rw [decide_eq_true_eq]; exact hD)]
    refine mfail_q (k' := 3) (by decide) h.1 rfl (fun s' a f b => qLn_bad (Y := gF T n 3 (0, p)) ?_ a (by first | exact frH_N f | exact frH_N (frN_M f) : frH _ _) b)
    unfold pPrice; dsimp only; rw [eOn, if_neg a]
end Zma
