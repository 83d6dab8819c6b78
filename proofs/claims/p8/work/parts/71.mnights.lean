/-! nights, of the model -/
theorem b_X11_needsFlight_0 {n : Nat} {Q : Zr → Prop} (x1 : Int) (s : Zs) 
    (h0 : ∀ m, m < n → zC m 1480 [(((172 : Nat) : Int), 0), (0, 0), (0, 0)] s (fun p => zT (zE 1477) (Pt PX11_needsFlight) m (6, [((172 : Nat) : Int), x1], p.1 ++ [], p.2) Q)) : zT (zE 1477) (Pt PX11_needsFlight) n (0, [((172 : Nat) : Int), x1], [], s) Q := by
  refine tL ((172 : Nat) : Int) 0 rfl rfl rfl ?_
  refine tK rfl ?_
  refine tK rfl ?_
  exact tCall [(((172 : Nat) : Int), 0), (0, 0), (0, 0)] [] rfl rfl rfl (fun m l => h0 m (Nat.lt_of_lt_of_le l (Nat.le_refl n)))

theorem b_X11_needsFlight_6 {n : Nat} {Q : Zr → Prop} (x1 v0 : Int) (s : Zs) 
    (h0 : ∀ (g1 : v0 ≠ 0), ∀ (g2 : s 172 6 = 2), ∀ m, m < n → zC m 1438 [(((172 : Nat) : Int), 0), (0, 0), (s 172 45, 0), (s 172 8, 0)] s (fun p => zT (zE 1477) (Pt PX11_needsFlight) m (41, [((172 : Nat) : Int), s 172 45], p.1 ++ [(((172 : Nat) : Int), 0)], p.2) Q))
    (h1 : ∀ (g1 : v0 ≠ 0), ∀ (g2 : s 172 6 ≠ 2), Q ([(0, 0)], zu s 172 9 (w32 (1 + (w32 (16 * (s 172 5)))))))
    (h2 : ∀ (g1 : v0 = 0), Q ([(0, 0)], s)) : zT (zE 1477) (Pt PX11_needsFlight) n (6, [((172 : Nat) : Int), x1], [(v0, 0)], s) Q := by
  refine tI1 rfl (fun g1 _ l1 => zT_le ?_ (Nat.le_of_lt l1)) (fun g1 _ l1 => zT_le ?_ (Nat.le_of_lt l1))
  · refine tL ((172 : Nat) : Int) 0 rfl rfl rfl ?_
    refine tFv (c := 172) (s 172 45) 0 rfl rfl rfl rfl rfl ?_
    refine tS [((172 : Nat) : Int), s 172 45] rfl rfl ?_
    refine tL ((172 : Nat) : Int) 0 rfl rfl rfl ?_
    refine tFv (c := 172) (s 172 6) 0 rfl rfl rfl rfl rfl ?_
    refine tK rfl ?_
    refine tJ0 rfl (fun g2 _ l2 => zT_le ?_ (Nat.le_of_lt l2)) (fun g2 _ l2 => zT_le ?_ (Nat.le_of_lt l2))
    · refine tL ((172 : Nat) : Int) 0 rfl rfl rfl ?_
      refine tL ((172 : Nat) : Int) 0 rfl rfl rfl ?_
      refine tK rfl ?_
      refine tL (s 172 45) 0 rfl rfl rfl ?_
      refine tL ((172 : Nat) : Int) 0 rfl rfl rfl ?_
      refine tFv (c := 172) (s 172 8) 0 rfl rfl rfl rfl rfl ?_
      exact tCall [(((172 : Nat) : Int), 0), (0, 0), (s 172 45, 0), (s 172 8, 0)] [(((172 : Nat) : Int), 0)] rfl rfl rfl (fun m l => h0 g1 g2 m (Nat.lt_of_lt_of_le l (Nat.le_refl n)))
    · refine tL ((172 : Nat) : Int) 0 rfl rfl rfl ?_
      refine tK rfl ?_
      refine tCall [(((172 : Nat) : Int), 0), (1, 0)] [] rfl rfl rfl (fun m4 l4 => c_X11_fails (b_X11_fails_0 1 s ?_))
      · show zT (zE 1477) (Pt PX11_needsFlight) m4 (29, [((172 : Nat) : Int), s 172 45], [(0, 0)], zu s 172 9 (w32 (1 + (w32 (16 * (s 172 5)))))) Q
        exact tR rfl (h1 g1 g2)
  · refine tK rfl ?_
    exact tR rfl (h2 g1)

theorem b_X11_needsFlight_41 {n : Nat} {Q : Zr → Prop} (x1 v0 : Int) (s : Zs) 
    (h0 : ∀ (g1 : 0 ≤ v0), ∀ m, m < n → zC m 1482 [(((172 : Nat) : Int), 0)] (zu s 172 45 v0) (fun p => zT (zE 1477) (Pt PX11_needsFlight) m (61, [((172 : Nat) : Int), x1], p.1 ++ [], p.2) Q))
    (h1 : ∀ (g1 : v0 < 0), Q ([(0, 0)], zu (zu s 172 45 v0) 172 9 (w32 (4 + (w32 (16 * (s 172 5))))))) : zT (zE 1477) (Pt PX11_needsFlight) n (41, [((172 : Nat) : Int), x1], [(v0, 0), (((172 : Nat) : Int), 0)], s) Q := by
  refine tPut 172 rfl rfl ?_
  refine tL ((172 : Nat) : Int) 0 rfl rfl rfl ?_
  refine tFv (c := 172) v0 0 rfl rfl rfl rfl rfl ?_
  refine tI3 rfl (fun g1 _ l1 => zT_le ?_ (Nat.le_of_lt l1)) (fun g1 _ l1 => zT_le ?_ (Nat.le_of_lt l1))
  · refine tL ((172 : Nat) : Int) 0 rfl rfl rfl ?_
    exact tCall [(((172 : Nat) : Int), 0)] [] rfl rfl rfl (fun m l => h0 g1 m (Nat.lt_of_lt_of_le l (Nat.le_refl n)))
  · refine tL ((172 : Nat) : Int) 0 rfl rfl rfl ?_
    refine tK rfl ?_
    refine tCall [(((172 : Nat) : Int), 0), (4, 0)] [] rfl rfl rfl (fun m3 l3 => c_X11_fails (b_X11_fails_0 4 (zu s 172 45 v0) ?_))
    · show zT (zE 1477) (Pt PX11_needsFlight) m3 (56, [((172 : Nat) : Int), x1], [(0, 0)], zu (zu s 172 45 v0) 172 9 (w32 (4 + (w32 (16 * (s 172 5)))))) Q
      exact tR rfl (h1 g1)

theorem b_X11_needsFlight_61 {n : Nat} {Q : Zr → Prop} (x1 : Int) (s : Zs) 
    (h0 : Q ([(1, 0)], s)) : zT (zE 1477) (Pt PX11_needsFlight) n (61, [((172 : Nat) : Int), x1], [], s) Q := by
  refine tK rfl ?_
  exact tR rfl (h0)

theorem c_X11_needsFlight {n : Nat} {Q : Zr → Prop} {a0 : Int} {s : Zs} (h : zT (zE 1477) (Pt PX11_needsFlight) n (0, [a0, 0], [], s) Q) : zC n 1477 [(a0, 0)] s Q := h

theorem b_X11_readsLine_0 {n : Nat} {Q : Zr → Prop} (x1 x2 : Int) (s : Zs) 
    (h0 : ∀ (g2 : s 172 6 ≠ 1), Q ([(0, 0)], zu s 172 9 (w32 (1 + (w32 (16 * (s 172 5)))))))
    (h1 : ∀ (g20 : s 172 6 = 1), ∀ (g21 : zcmpL (s 172 7) 10494723 ≠ 0), ∀ (g25 : zcmpL (s 172 7) 1483114 ≠ 0), ∀ (g29 : zcmpL (s 172 7) 204 ≠ 0), ∀ (g33 : zcmpL (s 172 7) 1627639 ≠ 0), ∀ (g37 : zcmpL (s 172 7) 7622660 ≠ 0), Q ([(0, 0)], zu s 172 9 (w32 (1 + (w32 (16 * (s 172 5)))))))
    (h2 : ∀ (g20 : s 172 6 = 1), ∀ (g21 : zcmpL (s 172 7) 10494723 ≠ 0), ∀ (g25 : zcmpL (s 172 7) 1483114 ≠ 0), ∀ (g29 : zcmpL (s 172 7) 204 ≠ 0), ∀ (g33 : zcmpL (s 172 7) 1627639 ≠ 0), ∀ (g40 : zcmpL (s 172 7) 7622660 = 0), ∀ (g41 : s 207 5 ≠ 40), ∀ m, m < n → zC m 1482 [(((172 : Nat) : Int), 0)] s (fun p => zT (zE 1501) (Pt PX11_readsLine) m (103, [((172 : Nat) : Int), 4, x2], p.1 ++ [], p.2) Q))
    (h3 : ∀ (g20 : s 172 6 = 1), ∀ (g21 : zcmpL (s 172 7) 10494723 ≠ 0), ∀ (g25 : zcmpL (s 172 7) 1483114 ≠ 0), ∀ (g29 : zcmpL (s 172 7) 204 ≠ 0), ∀ (g33 : zcmpL (s 172 7) 1627639 ≠ 0), ∀ (g40 : zcmpL (s 172 7) 7622660 = 0), ∀ (g41 : s 207 5 = 40), Q ([(0, 0)], zu s 172 9 (w32 (5 + (w32 (16 * (s 172 5)))))))
    (h4 : ∀ (g20 : s 172 6 = 1), ∀ (g21 : zcmpL (s 172 7) 10494723 ≠ 0), ∀ (g25 : zcmpL (s 172 7) 1483114 ≠ 0), ∀ (g29 : zcmpL (s 172 7) 204 ≠ 0), ∀ (g45 : zcmpL (s 172 7) 1627639 = 0), ∀ (g46 : s 207 5 ≠ 40), ∀ m, m < n → zC m 1482 [(((172 : Nat) : Int), 0)] s (fun p => zT (zE 1501) (Pt PX11_readsLine) m (103, [((172 : Nat) : Int), 3, x2], p.1 ++ [], p.2) Q))
    (h5 : ∀ (g20 : s 172 6 = 1), ∀ (g21 : zcmpL (s 172 7) 10494723 ≠ 0), ∀ (g25 : zcmpL (s 172 7) 1483114 ≠ 0), ∀ (g29 : zcmpL (s 172 7) 204 ≠ 0), ∀ (g45 : zcmpL (s 172 7) 1627639 = 0), ∀ (g46 : s 207 5 = 40), Q ([(0, 0)], zu s 172 9 (w32 (5 + (w32 (16 * (s 172 5)))))))
    (h6 : ∀ (g20 : s 172 6 = 1), ∀ (g21 : zcmpL (s 172 7) 10494723 ≠ 0), ∀ (g25 : zcmpL (s 172 7) 1483114 ≠ 0), ∀ (g50 : zcmpL (s 172 7) 204 = 0), ∀ (g51 : s 207 5 ≠ 40), ∀ m, m < n → zC m 1482 [(((172 : Nat) : Int), 0)] s (fun p => zT (zE 1501) (Pt PX11_readsLine) m (103, [((172 : Nat) : Int), 2, x2], p.1 ++ [], p.2) Q))
    (h7 : ∀ (g20 : s 172 6 = 1), ∀ (g21 : zcmpL (s 172 7) 10494723 ≠ 0), ∀ (g25 : zcmpL (s 172 7) 1483114 ≠ 0), ∀ (g50 : zcmpL (s 172 7) 204 = 0), ∀ (g51 : s 207 5 = 40), Q ([(0, 0)], zu s 172 9 (w32 (5 + (w32 (16 * (s 172 5)))))))
    (h8 : ∀ (g20 : s 172 6 = 1), ∀ (g21 : zcmpL (s 172 7) 10494723 ≠ 0), ∀ (g55 : zcmpL (s 172 7) 1483114 = 0), ∀ (g56 : s 207 5 ≠ 40), ∀ m, m < n → zC m 1482 [(((172 : Nat) : Int), 0)] s (fun p => zT (zE 1501) (Pt PX11_readsLine) m (103, [((172 : Nat) : Int), 1, x2], p.1 ++ [], p.2) Q))
    (h9 : ∀ (g20 : s 172 6 = 1), ∀ (g21 : zcmpL (s 172 7) 10494723 ≠ 0), ∀ (g55 : zcmpL (s 172 7) 1483114 = 0), ∀ (g56 : s 207 5 = 40), Q ([(0, 0)], zu s 172 9 (w32 (5 + (w32 (16 * (s 172 5)))))))
    (h10 : ∀ (g59 : s 172 6 = 1), ∀ (g60 : zcmpL (s 172 7) 10494723 = 0), ∀ (g61 : s 207 5 ≠ 40), ∀ m, m < n → zC m 1482 [(((172 : Nat) : Int), 0)] s (fun p => zT (zE 1501) (Pt PX11_readsLine) m (103, [((172 : Nat) : Int), 0, x2], p.1 ++ [], p.2) Q))
    (h11 : ∀ (g59 : s 172 6 = 1), ∀ (g60 : zcmpL (s 172 7) 10494723 = 0), ∀ (g61 : s 207 5 = 40), Q ([(0, 0)], zu s 172 9 (w32 (5 + (w32 (16 * (s 172 5))))))) : zT (zE 1501) (Pt PX11_readsLine) n (0, [((172 : Nat) : Int), x1, x2], [], s) Q := by
  refine tL ((172 : Nat) : Int) 0 rfl rfl rfl ?_
  refine tKL rfl ?_
  refine tCall [(((172 : Nat) : Int), 0), (10494723, 1)] [] rfl rfl rfl (fun m1 l1 => c_X11_isWord (b_X11_isWord_0 10494723 0 s ?_ ?_ ?_))
  · intro g2
    show zT (zE 1501) (Pt PX11_readsLine) m1 (7, [((172 : Nat) : Int), x1, x2], [(0, 0)], s) Q
    refine tI0 rfl (fun g _ l => zT_le ?_ (Nat.le_of_lt l)) (fun g _ l => (absurd g (by decide)))
    refine tL ((172 : Nat) : Int) 0 rfl rfl rfl ?_
    refine tKL rfl ?_
    refine tCall [(((172 : Nat) : Int), 0), (1483114, 1)] [] rfl rfl rfl (fun m3 l3 => c_X11_isWord (b_X11_isWord_0 1483114 0 s ?_ ?_ ?_))
    · intro g4
      show zT (zE 1501) (Pt PX11_readsLine) m3 (21, [((172 : Nat) : Int), x1, x2], [(0, 0)], s) Q
      refine tI0 rfl (fun g _ l => zT_le ?_ (Nat.le_of_lt l)) (fun g _ l => (absurd g (by decide)))
      refine tL ((172 : Nat) : Int) 0 rfl rfl rfl ?_
      refine tKL rfl ?_
      refine tCall [(((172 : Nat) : Int), 0), (204, 1)] [] rfl rfl rfl (fun m5 l5 => c_X11_isWord (b_X11_isWord_0 204 0 s ?_ ?_ ?_))
      · intro g6
        show zT (zE 1501) (Pt PX11_readsLine) m5 (35, [((172 : Nat) : Int), x1, x2], [(0, 0)], s) Q
        refine tI0 rfl (fun g _ l => zT_le ?_ (Nat.le_of_lt l)) (fun g _ l => (absurd g (by decide)))
        refine tL ((172 : Nat) : Int) 0 rfl rfl rfl ?_
        refine tKL rfl ?_
        refine tCall [(((172 : Nat) : Int), 0), (1627639, 1)] [] rfl rfl rfl (fun m7 l7 => c_X11_isWord (b_X11_isWord_0 1627639 0 s ?_ ?_ ?_))
        · intro g8
          show zT (zE 1501) (Pt PX11_readsLine) m7 (49, [((172 : Nat) : Int), x1, x2], [(0, 0)], s) Q
          refine tI0 rfl (fun g _ l => zT_le ?_ (Nat.le_of_lt l)) (fun g _ l => (absurd g (by decide)))
          refine tL ((172 : Nat) : Int) 0 rfl rfl rfl ?_
          refine tKL rfl ?_
          refine tCall [(((172 : Nat) : Int), 0), (7622660, 1)] [] rfl rfl rfl (fun m9 l9 => c_X11_isWord (b_X11_isWord_0 7622660 0 s ?_ ?_ ?_))
          · intro g10
            show zT (zE 1501) (Pt PX11_readsLine) m9 (63, [((172 : Nat) : Int), x1, x2], [(0, 0)], s) Q
            refine tI0 rfl (fun g _ l => zT_le ?_ (Nat.le_of_lt l)) (fun g _ l => (absurd g (by decide)))
            refine tK rfl ?_
            refine tS [((172 : Nat) : Int), (-1), x2] rfl rfl ?_
            refine tL (-1) 0 rfl rfl rfl ?_
            refine tI3 rfl (fun g _ l => (absurd g (by decide))) (fun g _ l => zT_le ?_ (Nat.le_of_lt l))
            refine tL ((172 : Nat) : Int) 0 rfl rfl rfl ?_
            refine tK rfl ?_
            refine tCall [(((172 : Nat) : Int), 0), (1, 0)] [] rfl rfl rfl (fun m11 l11 => c_X11_fails (b_X11_fails_0 1 s ?_))
            · show zT (zE 1501) (Pt PX11_readsLine) m11 (81, [((172 : Nat) : Int), (-1), x2], [(0, 0)], zu s 172 9 (w32 (1 + (w32 (16 * (s 172 5)))))) Q
              exact tR rfl (h0 g2)
          · exact fun (g12 : s 172 6 = 1) _ => False.elim (by omega)
          · exact fun (g13 : s 172 6 = 1) _ => False.elim (by omega)
        · exact fun (g14 : s 172 6 = 1) _ => False.elim (by omega)
        · exact fun (g15 : s 172 6 = 1) _ => False.elim (by omega)
      · exact fun (g16 : s 172 6 = 1) _ => False.elim (by omega)
      · exact fun (g17 : s 172 6 = 1) _ => False.elim (by omega)
    · exact fun (g18 : s 172 6 = 1) _ => False.elim (by omega)
    · exact fun (g19 : s 172 6 = 1) _ => False.elim (by omega)
  · intro g20 g21
    show zT (zE 1501) (Pt PX11_readsLine) m1 (7, [((172 : Nat) : Int), x1, x2], [(0, 0)], s) Q
    refine tI0 rfl (fun g _ l => zT_le ?_ (Nat.le_of_lt l)) (fun g _ l => (absurd g (by decide)))
    refine tL ((172 : Nat) : Int) 0 rfl rfl rfl ?_
    refine tKL rfl ?_
    refine tCall [(((172 : Nat) : Int), 0), (1483114, 1)] [] rfl rfl rfl (fun m22 l22 => c_X11_isWord (b_X11_isWord_0 1483114 0 s ?_ ?_ ?_))
    · exact fun (g23 : s 172 6 ≠ 1)  => False.elim (by omega)
    · intro g24 g25
      show zT (zE 1501) (Pt PX11_readsLine) m22 (21, [((172 : Nat) : Int), x1, x2], [(0, 0)], s) Q
      refine tI0 rfl (fun g _ l => zT_le ?_ (Nat.le_of_lt l)) (fun g _ l => (absurd g (by decide)))
      refine tL ((172 : Nat) : Int) 0 rfl rfl rfl ?_
      refine tKL rfl ?_
      refine tCall [(((172 : Nat) : Int), 0), (204, 1)] [] rfl rfl rfl (fun m26 l26 => c_X11_isWord (b_X11_isWord_0 204 0 s ?_ ?_ ?_))
      · exact fun (g27 : s 172 6 ≠ 1)  => False.elim (by omega)
      · intro g28 g29
        show zT (zE 1501) (Pt PX11_readsLine) m26 (35, [((172 : Nat) : Int), x1, x2], [(0, 0)], s) Q
        refine tI0 rfl (fun g _ l => zT_le ?_ (Nat.le_of_lt l)) (fun g _ l => (absurd g (by decide)))
        refine tL ((172 : Nat) : Int) 0 rfl rfl rfl ?_
        refine tKL rfl ?_
        refine tCall [(((172 : Nat) : Int), 0), (1627639, 1)] [] rfl rfl rfl (fun m30 l30 => c_X11_isWord (b_X11_isWord_0 1627639 0 s ?_ ?_ ?_))
        · exact fun (g31 : s 172 6 ≠ 1)  => False.elim (by omega)
        · intro g32 g33
          show zT (zE 1501) (Pt PX11_readsLine) m30 (49, [((172 : Nat) : Int), x1, x2], [(0, 0)], s) Q
          refine tI0 rfl (fun g _ l => zT_le ?_ (Nat.le_of_lt l)) (fun g _ l => (absurd g (by decide)))
          refine tL ((172 : Nat) : Int) 0 rfl rfl rfl ?_
          refine tKL rfl ?_
          refine tCall [(((172 : Nat) : Int), 0), (7622660, 1)] [] rfl rfl rfl (fun m34 l34 => c_X11_isWord (b_X11_isWord_0 7622660 0 s ?_ ?_ ?_))
          · exact fun (g35 : s 172 6 ≠ 1)  => False.elim (by omega)
          · intro g36 g37
            show zT (zE 1501) (Pt PX11_readsLine) m34 (63, [((172 : Nat) : Int), x1, x2], [(0, 0)], s) Q
            refine tI0 rfl (fun g _ l => zT_le ?_ (Nat.le_of_lt l)) (fun g _ l => (absurd g (by decide)))
            refine tK rfl ?_
            refine tS [((172 : Nat) : Int), (-1), x2] rfl rfl ?_
            refine tL (-1) 0 rfl rfl rfl ?_
            refine tI3 rfl (fun g _ l => (absurd g (by decide))) (fun g _ l => zT_le ?_ (Nat.le_of_lt l))
            refine tL ((172 : Nat) : Int) 0 rfl rfl rfl ?_
            refine tK rfl ?_
            refine tCall [(((172 : Nat) : Int), 0), (1, 0)] [] rfl rfl rfl (fun m38 l38 => c_X11_fails (b_X11_fails_0 1 s ?_))
            · show zT (zE 1501) (Pt PX11_readsLine) m38 (81, [((172 : Nat) : Int), (-1), x2], [(0, 0)], zu s 172 9 (w32 (1 + (w32 (16 * (s 172 5)))))) Q
              exact tR rfl (h1 g20 g21 g25 g29 g33 g37)
          · intro g39 g40
            show zT (zE 1501) (Pt PX11_readsLine) m34 (63, [((172 : Nat) : Int), x1, x2], [(1, 0)], s) Q
            refine tI0 rfl (fun g _ l => (absurd g (by decide))) (fun g _ l => zT_le ?_ (Nat.le_of_lt l))
            refine tK rfl ?_
            refine tG rfl ?_
            refine tS [((172 : Nat) : Int), 4, x2] rfl rfl ?_
            refine tL 4 0 rfl rfl rfl ?_
            refine tI3 rfl (fun g _ l => zT_le ?_ (Nat.le_of_lt l)) (fun g _ l => (absurd g (by decide)))
            refine tL ((172 : Nat) : Int) 0 rfl rfl rfl ?_
            refine tFR (c := 172) 207 rfl rfl rfl rfl rfl ?_
            refine tK rfl ?_
            refine tAv 207 5 (s 207 5) 0 rfl rfl rfl (by decide) rfl rfl ?_
            refine tK rfl ?_
            refine tJ1 rfl (fun g41 _ l41 => zT_le ?_ (Nat.le_of_lt l41)) (fun g41 _ l41 => zT_le ?_ (Nat.le_of_lt l41))
            · refine tL ((172 : Nat) : Int) 0 rfl rfl rfl ?_
              exact tCall [(((172 : Nat) : Int), 0)] [] rfl rfl rfl (fun m l => h2 g20 g21 g25 g29 g33 g40 g41 m (Nat.lt_of_lt_of_le l (Nat.le_trans (Nat.le_of_lt l34) (Nat.le_trans (Nat.le_of_lt l30) (Nat.le_trans (Nat.le_of_lt l26) (Nat.le_trans (Nat.le_of_lt l22) (Nat.le_trans (Nat.le_of_lt l1) (Nat.le_refl n))))))))
            · refine tL ((172 : Nat) : Int) 0 rfl rfl rfl ?_
              refine tK rfl ?_
              refine tCall [(((172 : Nat) : Int), 0), (5, 0)] [] rfl rfl rfl (fun m43 l43 => c_X11_fails (b_X11_fails_0 5 s ?_))
              · show zT (zE 1501) (Pt PX11_readsLine) m43 (98, [((172 : Nat) : Int), 4, x2], [(0, 0)], zu s 172 9 (w32 (5 + (w32 (16 * (s 172 5)))))) Q
                exact tR rfl (h3 g20 g21 g25 g29 g33 g40 g41)
        · intro g44 g45
          show zT (zE 1501) (Pt PX11_readsLine) m30 (49, [((172 : Nat) : Int), x1, x2], [(1, 0)], s) Q
          refine tI0 rfl (fun g _ l => (absurd g (by decide))) (fun g _ l => zT_le ?_ (Nat.le_of_lt l))
          refine tK rfl ?_
          refine tG rfl ?_
          refine tS [((172 : Nat) : Int), 3, x2] rfl rfl ?_
          refine tL 3 0 rfl rfl rfl ?_
          refine tI3 rfl (fun g _ l => zT_le ?_ (Nat.le_of_lt l)) (fun g _ l => (absurd g (by decide)))
          refine tL ((172 : Nat) : Int) 0 rfl rfl rfl ?_
          refine tFR (c := 172) 207 rfl rfl rfl rfl rfl ?_
          refine tK rfl ?_
          refine tAv 207 5 (s 207 5) 0 rfl rfl rfl (by decide) rfl rfl ?_
          refine tK rfl ?_
          refine tJ1 rfl (fun g46 _ l46 => zT_le ?_ (Nat.le_of_lt l46)) (fun g46 _ l46 => zT_le ?_ (Nat.le_of_lt l46))
          · refine tL ((172 : Nat) : Int) 0 rfl rfl rfl ?_
            exact tCall [(((172 : Nat) : Int), 0)] [] rfl rfl rfl (fun m l => h4 g20 g21 g25 g29 g45 g46 m (Nat.lt_of_lt_of_le l (Nat.le_trans (Nat.le_of_lt l30) (Nat.le_trans (Nat.le_of_lt l26) (Nat.le_trans (Nat.le_of_lt l22) (Nat.le_trans (Nat.le_of_lt l1) (Nat.le_refl n)))))))
          · refine tL ((172 : Nat) : Int) 0 rfl rfl rfl ?_
            refine tK rfl ?_
            refine tCall [(((172 : Nat) : Int), 0), (5, 0)] [] rfl rfl rfl (fun m48 l48 => c_X11_fails (b_X11_fails_0 5 s ?_))
            · show zT (zE 1501) (Pt PX11_readsLine) m48 (98, [((172 : Nat) : Int), 3, x2], [(0, 0)], zu s 172 9 (w32 (5 + (w32 (16 * (s 172 5)))))) Q
              exact tR rfl (h5 g20 g21 g25 g29 g45 g46)
      · intro g49 g50
        show zT (zE 1501) (Pt PX11_readsLine) m26 (35, [((172 : Nat) : Int), x1, x2], [(1, 0)], s) Q
        refine tI0 rfl (fun g _ l => (absurd g (by decide))) (fun g _ l => zT_le ?_ (Nat.le_of_lt l))
        refine tK rfl ?_
        refine tG rfl ?_
        refine tS [((172 : Nat) : Int), 2, x2] rfl rfl ?_
        refine tL 2 0 rfl rfl rfl ?_
        refine tI3 rfl (fun g _ l => zT_le ?_ (Nat.le_of_lt l)) (fun g _ l => (absurd g (by decide)))
        refine tL ((172 : Nat) : Int) 0 rfl rfl rfl ?_
        refine tFR (c := 172) 207 rfl rfl rfl rfl rfl ?_
        refine tK rfl ?_
        refine tAv 207 5 (s 207 5) 0 rfl rfl rfl (by decide) rfl rfl ?_
        refine tK rfl ?_
        refine tJ1 rfl (fun g51 _ l51 => zT_le ?_ (Nat.le_of_lt l51)) (fun g51 _ l51 => zT_le ?_ (Nat.le_of_lt l51))
        · refine tL ((172 : Nat) : Int) 0 rfl rfl rfl ?_
          exact tCall [(((172 : Nat) : Int), 0)] [] rfl rfl rfl (fun m l => h6 g20 g21 g25 g50 g51 m (Nat.lt_of_lt_of_le l (Nat.le_trans (Nat.le_of_lt l26) (Nat.le_trans (Nat.le_of_lt l22) (Nat.le_trans (Nat.le_of_lt l1) (Nat.le_refl n))))))
        · refine tL ((172 : Nat) : Int) 0 rfl rfl rfl ?_
          refine tK rfl ?_
          refine tCall [(((172 : Nat) : Int), 0), (5, 0)] [] rfl rfl rfl (fun m53 l53 => c_X11_fails (b_X11_fails_0 5 s ?_))
          · show zT (zE 1501) (Pt PX11_readsLine) m53 (98, [((172 : Nat) : Int), 2, x2], [(0, 0)], zu s 172 9 (w32 (5 + (w32 (16 * (s 172 5)))))) Q
            exact tR rfl (h7 g20 g21 g25 g50 g51)
    · intro g54 g55
      show zT (zE 1501) (Pt PX11_readsLine) m22 (21, [((172 : Nat) : Int), x1, x2], [(1, 0)], s) Q
      refine tI0 rfl (fun g _ l => (absurd g (by decide))) (fun g _ l => zT_le ?_ (Nat.le_of_lt l))
      refine tK rfl ?_
      refine tG rfl ?_
      refine tS [((172 : Nat) : Int), 1, x2] rfl rfl ?_
      refine tL 1 0 rfl rfl rfl ?_
      refine tI3 rfl (fun g _ l => zT_le ?_ (Nat.le_of_lt l)) (fun g _ l => (absurd g (by decide)))
      refine tL ((172 : Nat) : Int) 0 rfl rfl rfl ?_
      refine tFR (c := 172) 207 rfl rfl rfl rfl rfl ?_
      refine tK rfl ?_
      refine tAv 207 5 (s 207 5) 0 rfl rfl rfl (by decide) rfl rfl ?_
      refine tK rfl ?_
      refine tJ1 rfl (fun g56 _ l56 => zT_le ?_ (Nat.le_of_lt l56)) (fun g56 _ l56 => zT_le ?_ (Nat.le_of_lt l56))
      · refine tL ((172 : Nat) : Int) 0 rfl rfl rfl ?_
        exact tCall [(((172 : Nat) : Int), 0)] [] rfl rfl rfl (fun m l => h8 g20 g21 g55 g56 m (Nat.lt_of_lt_of_le l (Nat.le_trans (Nat.le_of_lt l22) (Nat.le_trans (Nat.le_of_lt l1) (Nat.le_refl n)))))
      · refine tL ((172 : Nat) : Int) 0 rfl rfl rfl ?_
        refine tK rfl ?_
        refine tCall [(((172 : Nat) : Int), 0), (5, 0)] [] rfl rfl rfl (fun m58 l58 => c_X11_fails (b_X11_fails_0 5 s ?_))
        · show zT (zE 1501) (Pt PX11_readsLine) m58 (98, [((172 : Nat) : Int), 1, x2], [(0, 0)], zu s 172 9 (w32 (5 + (w32 (16 * (s 172 5)))))) Q
          exact tR rfl (h9 g20 g21 g55 g56)
  · intro g59 g60
    show zT (zE 1501) (Pt PX11_readsLine) m1 (7, [((172 : Nat) : Int), x1, x2], [(1, 0)], s) Q
    refine tI0 rfl (fun g _ l => (absurd g (by decide))) (fun g _ l => zT_le ?_ (Nat.le_of_lt l))
    refine tK rfl ?_
    refine tG rfl ?_
    refine tS [((172 : Nat) : Int), 0, x2] rfl rfl ?_
    refine tL 0 0 rfl rfl rfl ?_
    refine tI3 rfl (fun g _ l => zT_le ?_ (Nat.le_of_lt l)) (fun g _ l => (absurd g (by decide)))
    refine tL ((172 : Nat) : Int) 0 rfl rfl rfl ?_
    refine tFR (c := 172) 207 rfl rfl rfl rfl rfl ?_
    refine tK rfl ?_
    refine tAv 207 5 (s 207 5) 0 rfl rfl rfl (by decide) rfl rfl ?_
    refine tK rfl ?_
    refine tJ1 rfl (fun g61 _ l61 => zT_le ?_ (Nat.le_of_lt l61)) (fun g61 _ l61 => zT_le ?_ (Nat.le_of_lt l61))
    · refine tL ((172 : Nat) : Int) 0 rfl rfl rfl ?_
      exact tCall [(((172 : Nat) : Int), 0)] [] rfl rfl rfl (fun m l => h10 g59 g60 g61 m (Nat.lt_of_lt_of_le l (Nat.le_trans (Nat.le_of_lt l1) (Nat.le_refl n))))
    · refine tL ((172 : Nat) : Int) 0 rfl rfl rfl ?_
      refine tK rfl ?_
      refine tCall [(((172 : Nat) : Int), 0), (5, 0)] [] rfl rfl rfl (fun m63 l63 => c_X11_fails (b_X11_fails_0 5 s ?_))
      · show zT (zE 1501) (Pt PX11_readsLine) m63 (98, [((172 : Nat) : Int), 0, x2], [(0, 0)], zu s 172 9 (w32 (5 + (w32 (16 * (s 172 5)))))) Q
        exact tR rfl (h11 g59 g60 g61)

theorem b_X11_readsLine_103 {n : Nat} {Q : Zr → Prop} (x1 x2 : Int) (s : Zs) 
    (h0 : ∀ (g1 : 1 < x1), ∀ (g2 : 4 ≤ x1), ∀ m, m < n → zC m 1425 [(((172 : Nat) : Int), 0)] (zu (zu s 208 ((w32 (200 + (s 207 5))).toNat) x1) 207 5 (w32 ((s 207 5) + 1))) (fun p => zT (zE 1501) (Pt PX11_readsLine) m (234, [((172 : Nat) : Int), x1, w32 (200 + (s 207 5))], p.1 ++ [], p.2) Q))
    (h1 : ∀ (g1 : 1 < x1), ∀ (g2 : x1 < 4), ∀ m, m < n → zC m 1480 [(((172 : Nat) : Int), 0), (0, 0), (1, 0)] (zu s 208 ((w32 (200 + (s 207 5))).toNat) x1) (fun p => zT (zE 1501) (Pt PX11_readsLine) m (159, [((172 : Nat) : Int), x1, w32 (200 + (s 207 5))], p.1 ++ [], p.2) Q))
    (h2 : ∀ (g1 : x1 ≤ 1), ∀ m, m < n → zC m 1477 [(((172 : Nat) : Int), 0)] (zu s 208 ((w32 (200 + (s 207 5))).toNat) x1) (fun p => zT (zE 1501) (Pt PX11_readsLine) m (130, [((172 : Nat) : Int), x1, w32 (200 + (s 207 5))], p.1 ++ [], p.2) Q)) : zT (zE 1501) (Pt PX11_readsLine) n (103, [((172 : Nat) : Int), x1, x2], [], s) Q := by
  refine tK rfl ?_
  refine tL ((172 : Nat) : Int) 0 rfl rfl rfl ?_
  refine tFR (c := 172) 207 rfl rfl rfl rfl rfl ?_
  refine tK rfl ?_
  refine tAv 207 5 (s 207 5) 0 rfl rfl rfl (by decide) rfl rfl ?_
  refine tB (v := w32 (200 + (s 207 5))) rfl rfl ?_
  refine tS [((172 : Nat) : Int), x1, w32 (200 + (s 207 5))] rfl rfl ?_
  refine tL ((172 : Nat) : Int) 0 rfl rfl rfl ?_
  refine tFR (c := 172) 208 rfl rfl rfl rfl rfl ?_
  refine tL (w32 (200 + (s 207 5))) 0 rfl rfl rfl ?_
  refine tL x1 0 rfl rfl rfl ?_
  refine tAS 208 ((w32 (200 + (s 207 5))).toNat) rfl rfl rfl (by decide) ?_
  refine tL x1 0 rfl rfl rfl ?_
  refine tK rfl ?_
  refine tJ4 rfl (fun g1 _ l1 => zT_le ?_ (Nat.le_of_lt l1)) (fun g1 _ l1 => zT_le ?_ (Nat.le_of_lt l1))
  · refine tL x1 0 rfl rfl rfl ?_
    refine tK rfl ?_
    refine tJ3 rfl (fun g2 _ l2 => zT_le ?_ (Nat.le_of_lt l2)) (fun g2 _ l2 => zT_le ?_ (Nat.le_of_lt l2))
    · refine tL ((172 : Nat) : Int) 0 rfl rfl rfl ?_
      refine tFR (c := 172) 207 rfl rfl rfl rfl rfl ?_
      refine tK rfl ?_
      refine tD2 rfl ?_
      refine tAv 207 5 (s 207 5) 0 rfl rfl rfl (by decide) rfl rfl ?_
      refine tK rfl ?_
      refine tB (v := w32 ((s 207 5) + 1)) rfl rfl ?_
      refine tAS 207 5 rfl rfl rfl (by decide) ?_
      refine tL ((172 : Nat) : Int) 0 rfl rfl rfl ?_
      exact tCall [(((172 : Nat) : Int), 0)] [] rfl rfl rfl (fun m l => h0 g1 g2 m (Nat.lt_of_lt_of_le l (Nat.le_refl n)))
    · refine tL ((172 : Nat) : Int) 0 rfl rfl rfl ?_
      refine tK rfl ?_
      refine tK rfl ?_
      exact tCall [(((172 : Nat) : Int), 0), (0, 0), (1, 0)] [] rfl rfl rfl (fun m l => h1 g1 g2 m (Nat.lt_of_lt_of_le l (Nat.le_refl n)))
  · refine tL ((172 : Nat) : Int) 0 rfl rfl rfl ?_
    exact tCall [(((172 : Nat) : Int), 0)] [] rfl rfl rfl (fun m l => h2 g1 m (Nat.lt_of_lt_of_le l (Nat.le_refl n)))

theorem b_X11_readsLine_234 {n : Nat} {Q : Zr → Prop} (x1 x2 v0 : Int) (s : Zs) 
    (h0 : Q ([(v0, 0)], s)) : zT (zE 1501) (Pt PX11_readsLine) n (234, [((172 : Nat) : Int), x1, x2], [(v0, 0)], s) Q := by
  exact tR rfl (h0)

theorem b_X11_readsLine_159 {n : Nat} {Q : Zr → Prop} (x1 x2 v0 : Int) (s : Zs) 
    (h0 : ∀ (g1 : v0 ≠ 0), ∀ (g2 : x1 ≠ 3), ∀ m, m < n → zC m 1479 [(((172 : Nat) : Int), 0), (0, 0)] (zu s 209 x2.toNat (s 172 45)) (fun p => zT (zE 1501) (Pt PX11_readsLine) m (205, [((172 : Nat) : Int), x1, x2], p.1 ++ [], p.2) Q))
    (h1 : ∀ (g1 : v0 ≠ 0), ∀ (g2 : x1 = 3), ∀ m, m < n → zC m 1480 [(((172 : Nat) : Int), 0), (0, 0), (2, 0)] (zu s 209 x2.toNat (s 172 45)) (fun p => zT (zE 1501) (Pt PX11_readsLine) m (185, [((172 : Nat) : Int), x1, x2], p.1 ++ [], p.2) Q))
    (h2 : ∀ (g1 : v0 = 0), Q ([(0, 0)], s)) : zT (zE 1501) (Pt PX11_readsLine) n (159, [((172 : Nat) : Int), x1, x2], [(v0, 0)], s) Q := by
  refine tI1 rfl (fun g1 _ l1 => zT_le ?_ (Nat.le_of_lt l1)) (fun g1 _ l1 => zT_le ?_ (Nat.le_of_lt l1))
  · refine tL ((172 : Nat) : Int) 0 rfl rfl rfl ?_
    refine tFR (c := 172) 209 rfl rfl rfl rfl rfl ?_
    refine tL x2 0 rfl rfl rfl ?_
    refine tL ((172 : Nat) : Int) 0 rfl rfl rfl ?_
    refine tFv (c := 172) (s 172 45) 0 rfl rfl rfl rfl rfl ?_
    refine tAS 209 x2.toNat rfl rfl rfl (by decide) ?_
    refine tL x1 0 rfl rfl rfl ?_
    refine tK rfl ?_
    refine tJ1 rfl (fun g2 _ l2 => zT_le ?_ (Nat.le_of_lt l2)) (fun g2 _ l2 => zT_le ?_ (Nat.le_of_lt l2))
    · refine tL ((172 : Nat) : Int) 0 rfl rfl rfl ?_
      refine tK rfl ?_
      exact tCall [(((172 : Nat) : Int), 0), (0, 0)] [] rfl rfl rfl (fun m l => h0 g1 g2 m (Nat.lt_of_lt_of_le l (Nat.le_refl n)))
    · refine tL ((172 : Nat) : Int) 0 rfl rfl rfl ?_
      refine tK rfl ?_
      refine tK rfl ?_
      exact tCall [(((172 : Nat) : Int), 0), (0, 0), (2, 0)] [] rfl rfl rfl (fun m l => h1 g1 g2 m (Nat.lt_of_lt_of_le l (Nat.le_refl n)))
  · refine tK rfl ?_
    exact tR rfl (h2 g1)

theorem b_X11_readsLine_130 {n : Nat} {Q : Zr → Prop} (x1 x2 v0 : Int) (s : Zs) 
    (h0 : ∀ (g1 : v0 ≠ 0), ∀ m, m < n → zC m 1425 [(((172 : Nat) : Int), 0)] (zu (zu s 209 x2.toNat (s 172 45)) 207 5 (w32 ((s 207 5) + 1))) (fun p => zT (zE 1501) (Pt PX11_readsLine) m (234, [((172 : Nat) : Int), x1, x2], p.1 ++ [], p.2) Q))
    (h1 : ∀ (g1 : v0 = 0), Q ([(0, 0)], s)) : zT (zE 1501) (Pt PX11_readsLine) n (130, [((172 : Nat) : Int), x1, x2], [(v0, 0)], s) Q := by
  refine tI1 rfl (fun g1 _ l1 => zT_le ?_ (Nat.le_of_lt l1)) (fun g1 _ l1 => zT_le ?_ (Nat.le_of_lt l1))
  · refine tL ((172 : Nat) : Int) 0 rfl rfl rfl ?_
    refine tFR (c := 172) 209 rfl rfl rfl rfl rfl ?_
    refine tL x2 0 rfl rfl rfl ?_
    refine tL ((172 : Nat) : Int) 0 rfl rfl rfl ?_
    refine tFv (c := 172) (s 172 45) 0 rfl rfl rfl rfl rfl ?_
    refine tAS 209 x2.toNat rfl rfl rfl (by decide) ?_
    refine tG rfl ?_
    refine tL ((172 : Nat) : Int) 0 rfl rfl rfl ?_
    refine tFR (c := 172) 207 rfl rfl rfl rfl rfl ?_
    refine tK rfl ?_
    refine tD2 rfl ?_
    refine tAv 207 5 (s 207 5) 0 rfl rfl rfl (by decide) rfl rfl ?_
    refine tK rfl ?_
    refine tB (v := w32 ((s 207 5) + 1)) rfl rfl ?_
    refine tAS 207 5 rfl rfl rfl (by decide) ?_
    refine tL ((172 : Nat) : Int) 0 rfl rfl rfl ?_
    exact tCall [(((172 : Nat) : Int), 0)] [] rfl rfl rfl (fun m l => h0 g1 m (Nat.lt_of_lt_of_le l (Nat.le_refl n)))
  · refine tK rfl ?_
    exact tR rfl (h1 g1)

theorem b_X11_readsLine_205 {n : Nat} {Q : Zr → Prop} (x1 x2 v0 : Int) (s : Zs) 
    (h0 : ∀ (g1 : v0 ≠ 0), ∀ m, m < n → zC m 1425 [(((172 : Nat) : Int), 0)] (zu (zu s 210 x2.toNat (s 172 45)) 207 5 (w32 ((s 207 5) + 1))) (fun p => zT (zE 1501) (Pt PX11_readsLine) m (234, [((172 : Nat) : Int), x1, x2], p.1 ++ [], p.2) Q))
    (h1 : ∀ (g1 : v0 = 0), Q ([(0, 0)], s)) : zT (zE 1501) (Pt PX11_readsLine) n (205, [((172 : Nat) : Int), x1, x2], [(v0, 0)], s) Q := by
  refine tI1 rfl (fun g1 _ l1 => zT_le ?_ (Nat.le_of_lt l1)) (fun g1 _ l1 => zT_le ?_ (Nat.le_of_lt l1))
  · refine tL ((172 : Nat) : Int) 0 rfl rfl rfl ?_
    refine tFR (c := 172) 210 rfl rfl rfl rfl rfl ?_
    refine tL x2 0 rfl rfl rfl ?_
    refine tL ((172 : Nat) : Int) 0 rfl rfl rfl ?_
    refine tFv (c := 172) (s 172 45) 0 rfl rfl rfl rfl rfl ?_
    refine tAS 210 x2.toNat rfl rfl rfl (by decide) ?_
    refine tL ((172 : Nat) : Int) 0 rfl rfl rfl ?_
    refine tFR (c := 172) 207 rfl rfl rfl rfl rfl ?_
    refine tK rfl ?_
    refine tD2 rfl ?_
    refine tAv 207 5 (s 207 5) 0 rfl rfl rfl (by decide) rfl rfl ?_
    refine tK rfl ?_
    refine tB (v := w32 ((s 207 5) + 1)) rfl rfl ?_
    refine tAS 207 5 rfl rfl rfl (by decide) ?_
    refine tL ((172 : Nat) : Int) 0 rfl rfl rfl ?_
    exact tCall [(((172 : Nat) : Int), 0)] [] rfl rfl rfl (fun m l => h0 g1 m (Nat.lt_of_lt_of_le l (Nat.le_refl n)))
  · refine tK rfl ?_
    exact tR rfl (h1 g1)

theorem b_X11_readsLine_185 {n : Nat} {Q : Zr → Prop} (x1 x2 v0 : Int) (s : Zs) 
    (h0 : ∀ (g1 : v0 ≠ 0), ∀ m, m < n → zC m 1479 [(((172 : Nat) : Int), 0), (0, 0)] (zu s 211 x2.toNat (s 172 45)) (fun p => zT (zE 1501) (Pt PX11_readsLine) m (205, [((172 : Nat) : Int), x1, x2], p.1 ++ [], p.2) Q))
    (h1 : ∀ (g1 : v0 = 0), Q ([(0, 0)], s)) : zT (zE 1501) (Pt PX11_readsLine) n (185, [((172 : Nat) : Int), x1, x2], [(v0, 0)], s) Q := by
  refine tI1 rfl (fun g1 _ l1 => zT_le ?_ (Nat.le_of_lt l1)) (fun g1 _ l1 => zT_le ?_ (Nat.le_of_lt l1))
  · refine tL ((172 : Nat) : Int) 0 rfl rfl rfl ?_
    refine tFR (c := 172) 211 rfl rfl rfl rfl rfl ?_
    refine tL x2 0 rfl rfl rfl ?_
    refine tL ((172 : Nat) : Int) 0 rfl rfl rfl ?_
    refine tFv (c := 172) (s 172 45) 0 rfl rfl rfl rfl rfl ?_
    refine tAS 211 x2.toNat rfl rfl rfl (by decide) ?_
    refine tL ((172 : Nat) : Int) 0 rfl rfl rfl ?_
    refine tK rfl ?_
    exact tCall [(((172 : Nat) : Int), 0), (0, 0)] [] rfl rfl rfl (fun m l => h0 g1 m (Nat.lt_of_lt_of_le l (Nat.le_refl n)))
  · refine tK rfl ?_
    exact tR rfl (h1 g1)

theorem c_X11_readsLine {n : Nat} {Q : Zr → Prop} {a0 : Int} {s : Zs} (h : zT (zE 1501) (Pt PX11_readsLine) n (0, [a0, 0, 0], [], s) Q) : zC n 1501 [(a0, 0)] s Q := h

theorem b_X11_laysLines_0 {n : Nat} {Q : Zr → Prop} (x1 x2 x3 : Int) (s : Zs) 
    (h0 : zT (zE 1463) (Pt PX11_laysLines) n (14, [((172 : Nat) : Int), x1, x2, 0], [], zu s 207 x2.toNat (s 207 x1.toNat)) Q) : zT (zE 1463) (Pt PX11_laysLines) n (0, [((172 : Nat) : Int), x1, x2, x3], [], s) Q := by
  refine tL ((172 : Nat) : Int) 0 rfl rfl rfl ?_
  refine tFR (c := 172) 207 rfl rfl rfl rfl rfl ?_
  refine tL x2 0 rfl rfl rfl ?_
  refine tL ((172 : Nat) : Int) 0 rfl rfl rfl ?_
  refine tFR (c := 172) 207 rfl rfl rfl rfl rfl ?_
  refine tL x1 0 rfl rfl rfl ?_
  refine tAv 207 x1.toNat (s 207 x1.toNat) 0 rfl rfl rfl (by decide) rfl rfl ?_
  refine tAS 207 x2.toNat rfl rfl rfl (by decide) ?_
  refine tK rfl ?_
  refine tS [((172 : Nat) : Int), x1, x2, 0] rfl rfl ?_
  exact zT_le (h0) (Nat.le_refl n)

theorem b_X11_laysLines_14 {n : Nat} {Q : Zr → Prop} (x1 x2 x3 : Int) (s : Zs) 
    (h0 : ∀ (g1 : 40 ≤ x3), Q ([], s))
    (h1 : ∀ (g1 : x3 < 40), ∀ m, m < n → zT (zE 1463) (Pt PX11_laysLines) m (14, [((172 : Nat) : Int), x1, x2, w32 (x3 + 1)], [], zu (zu (zu (zu s 208 ((w32 ((w32 (40 * x2)) + x3)).toNat) (s 208 ((w32 ((w32 (40 * x1)) + x3)).toNat))) 209 ((w32 ((w32 (40 * x2)) + x3)).toNat) (s 209 ((w32 ((w32 (40 * x1)) + x3)).toNat))) 210 ((w32 ((w32 (40 * x2)) + x3)).toNat) (s 210 ((w32 ((w32 (40 * x1)) + x3)).toNat))) 211 ((w32 ((w32 (40 * x2)) + x3)).toNat) (s 211 ((w32 ((w32 (40 * x1)) + x3)).toNat))) Q) : zT (zE 1463) (Pt PX11_laysLines) n (14, [((172 : Nat) : Int), x1, x2, x3], [], s) Q := by
  refine tL x3 0 rfl rfl rfl ?_
  refine tK rfl ?_
  refine tJ3 rfl (fun g1 _ l1 => zT_le ?_ (Nat.le_of_lt l1)) (fun g1 _ l1 => zT_le ?_ (Nat.le_of_lt l1))
  · exact tR rfl (h0 g1)
  · refine tL ((172 : Nat) : Int) 0 rfl rfl rfl ?_
    refine tFR (c := 172) 208 rfl rfl rfl rfl rfl ?_
    refine tK rfl ?_
    refine tL x2 0 rfl rfl rfl ?_
    refine tM (v := w32 (40 * x2)) rfl rfl ?_
    refine tL x3 0 rfl rfl rfl ?_
    refine tB (v := w32 ((w32 (40 * x2)) + x3)) rfl rfl ?_
    refine tL ((172 : Nat) : Int) 0 rfl rfl rfl ?_
    refine tFR (c := 172) 208 rfl rfl rfl rfl rfl ?_
    refine tK rfl ?_
    refine tL x1 0 rfl rfl rfl ?_
    refine tM (v := w32 (40 * x1)) rfl rfl ?_
    refine tL x3 0 rfl rfl rfl ?_
    refine tB (v := w32 ((w32 (40 * x1)) + x3)) rfl rfl ?_
    refine tAv 208 ((w32 ((w32 (40 * x1)) + x3)).toNat) (s 208 ((w32 ((w32 (40 * x1)) + x3)).toNat)) 0 rfl rfl rfl (by decide) rfl rfl ?_
    refine tAS 208 ((w32 ((w32 (40 * x2)) + x3)).toNat) rfl rfl rfl (by decide) ?_
    refine tL ((172 : Nat) : Int) 0 rfl rfl rfl ?_
    refine tFR (c := 172) 209 rfl rfl rfl rfl rfl ?_
    refine tK rfl ?_
    refine tL x2 0 rfl rfl rfl ?_
    refine tM (v := w32 (40 * x2)) rfl rfl ?_
    refine tL x3 0 rfl rfl rfl ?_
    refine tB (v := w32 ((w32 (40 * x2)) + x3)) rfl rfl ?_
    refine tL ((172 : Nat) : Int) 0 rfl rfl rfl ?_
    refine tFR (c := 172) 209 rfl rfl rfl rfl rfl ?_
    refine tK rfl ?_
    refine tL x1 0 rfl rfl rfl ?_
    refine tM (v := w32 (40 * x1)) rfl rfl ?_
    refine tL x3 0 rfl rfl rfl ?_
    refine tB (v := w32 ((w32 (40 * x1)) + x3)) rfl rfl ?_
    refine tAv 209 ((w32 ((w32 (40 * x1)) + x3)).toNat) (s 209 ((w32 ((w32 (40 * x1)) + x3)).toNat)) 0 rfl rfl rfl (by decide) rfl rfl ?_
    refine tAS 209 ((w32 ((w32 (40 * x2)) + x3)).toNat) rfl rfl rfl (by decide) ?_
    refine tL ((172 : Nat) : Int) 0 rfl rfl rfl ?_
    refine tFR (c := 172) 210 rfl rfl rfl rfl rfl ?_
    refine tK rfl ?_
    refine tL x2 0 rfl rfl rfl ?_
    refine tM (v := w32 (40 * x2)) rfl rfl ?_
    refine tL x3 0 rfl rfl rfl ?_
    refine tB (v := w32 ((w32 (40 * x2)) + x3)) rfl rfl ?_
    refine tL ((172 : Nat) : Int) 0 rfl rfl rfl ?_
    refine tFR (c := 172) 210 rfl rfl rfl rfl rfl ?_
    refine tK rfl ?_
    refine tL x1 0 rfl rfl rfl ?_
    refine tM (v := w32 (40 * x1)) rfl rfl ?_
    refine tL x3 0 rfl rfl rfl ?_
    refine tB (v := w32 ((w32 (40 * x1)) + x3)) rfl rfl ?_
    refine tAv 210 ((w32 ((w32 (40 * x1)) + x3)).toNat) (s 210 ((w32 ((w32 (40 * x1)) + x3)).toNat)) 0 rfl rfl rfl (by decide) rfl rfl ?_
    refine tAS 210 ((w32 ((w32 (40 * x2)) + x3)).toNat) rfl rfl rfl (by decide) ?_
    refine tL ((172 : Nat) : Int) 0 rfl rfl rfl ?_
    refine tFR (c := 172) 211 rfl rfl rfl rfl rfl ?_
    refine tK rfl ?_
    refine tL x2 0 rfl rfl rfl ?_
    refine tM (v := w32 (40 * x2)) rfl rfl ?_
    refine tL x3 0 rfl rfl rfl ?_
    refine tB (v := w32 ((w32 (40 * x2)) + x3)) rfl rfl ?_
    refine tL ((172 : Nat) : Int) 0 rfl rfl rfl ?_
    refine tFR (c := 172) 211 rfl rfl rfl rfl rfl ?_
    refine tK rfl ?_
    refine tL x1 0 rfl rfl rfl ?_
    refine tM (v := w32 (40 * x1)) rfl rfl ?_
    refine tL x3 0 rfl rfl rfl ?_
    refine tB (v := w32 ((w32 (40 * x1)) + x3)) rfl rfl ?_
    refine tAv 211 ((w32 ((w32 (40 * x1)) + x3)).toNat) (s 211 ((w32 ((w32 (40 * x1)) + x3)).toNat)) 0 rfl rfl rfl (by decide) rfl rfl ?_
    refine tAS 211 ((w32 ((w32 (40 * x2)) + x3)).toNat) rfl rfl rfl (by decide) ?_
    refine tInc [((172 : Nat) : Int), x1, x2, w32 (x3 + 1)] rfl rfl ?_
    exact tGb rfl (fun m2 l2 => h1 g1 m2 (Nat.lt_of_lt_of_le l2 (Nat.le_refl n)))

theorem c_X11_laysLines {n : Nat} {Q : Zr → Prop} {a0 a1 a2 : Int} {s : Zs} (h : zT (zE 1463) (Pt PX11_laysLines) n (0, [a0, a1, a2, 0], [], s) Q) : zC n 1463 [(a0, 0), (a1, 0), (a2, 0)] s Q := h

theorem b_X11_nights_0 {n : Nat} {Q : Zr → Prop} (s : Zs) 
    (h0 : ∀ m, m < n → zC m 1512 [(((172 : Nat) : Int), 0)] (zu (zu s 172 0 0) 207 5 0) (fun p => zT (zE 1484) (Pt PX11_nights) m (16, [((172 : Nat) : Int)], p.1 ++ [], p.2) Q)) : zT (zE 1484) (Pt PX11_nights) n (0, [((172 : Nat) : Int)], [], s) Q := by
  refine tL ((172 : Nat) : Int) 0 rfl rfl rfl ?_
  refine tK rfl ?_
  refine tPut 172 rfl rfl ?_
  refine tL ((172 : Nat) : Int) 0 rfl rfl rfl ?_
  refine tFR (c := 172) 207 rfl rfl rfl rfl rfl ?_
  refine tK rfl ?_
  refine tK rfl ?_
  refine tAS 207 5 rfl rfl rfl (by decide) ?_
  refine tL ((172 : Nat) : Int) 0 rfl rfl rfl ?_
  exact tCall [(((172 : Nat) : Int), 0)] [] rfl rfl rfl (fun m l => h0 m (Nat.lt_of_lt_of_le l (Nat.le_refl n)))

theorem b_X11_nights_16 {n : Nat} {Q : Zr → Prop} (s : Zs) 
    (h0 : ∀ (g1 : s 172 6 = 0), ∀ m, m < n → zC m 1463 [(((172 : Nat) : Int), 0), (5, 0), (0, 0)] s (fun p => zT (zE 1484) (Pt PX11_nights) m (41, [((172 : Nat) : Int)], p.1 ++ [], p.2) Q))
    (h1 : ∀ (g1 : s 172 6 ≠ 0), ∀ m, m < n → zC m 1501 [(((172 : Nat) : Int), 0)] s (fun p => zT (zE 1484) (Pt PX11_nights) m (27, [((172 : Nat) : Int)], p.1 ++ [], p.2) Q)) : zT (zE 1484) (Pt PX11_nights) n (16, [((172 : Nat) : Int)], [], s) Q := by
  refine tL ((172 : Nat) : Int) 0 rfl rfl rfl ?_
  refine tFv (c := 172) (s 172 6) 0 rfl rfl rfl rfl rfl ?_
  refine tI0 rfl (fun g1 _ l1 => zT_le ?_ (Nat.le_of_lt l1)) (fun g1 _ l1 => zT_le ?_ (Nat.le_of_lt l1))
  · refine tL ((172 : Nat) : Int) 0 rfl rfl rfl ?_
    refine tK rfl ?_
    refine tK rfl ?_
    exact tCall [(((172 : Nat) : Int), 0), (5, 0), (0, 0)] [] rfl rfl rfl (fun m l => h0 g1 m (Nat.lt_of_lt_of_le l (Nat.le_refl n)))
  · refine tL ((172 : Nat) : Int) 0 rfl rfl rfl ?_
    exact tCall [(((172 : Nat) : Int), 0)] [] rfl rfl rfl (fun m l => h1 g1 m (Nat.lt_of_lt_of_le l (Nat.le_refl n)))

theorem b_X11_nights_41 {n : Nat} {Q : Zr → Prop} (s : Zs) 
    (h0 : Q ([(0, 0)], s)) : zT (zE 1484) (Pt PX11_nights) n (41, [((172 : Nat) : Int)], [], s) Q := by
  refine tK rfl ?_
  exact tR rfl (h0)

theorem b_X11_nights_27 {n : Nat} {Q : Zr → Prop} (v0 : Int) (s : Zs) 
    (h0 : ∀ (g1 : v0 ≠ 0), ∀ m, m < n → zT (zE 1484) (Pt PX11_nights) m (16, [((172 : Nat) : Int)], [], s) Q)
    (h1 : ∀ (g1 : v0 = 0), Q ([(s 172 9, 0)], s)) : zT (zE 1484) (Pt PX11_nights) n (27, [((172 : Nat) : Int)], [(v0, 0)], s) Q := by
  refine tI1 rfl (fun g1 m2 l2 => h0 g1 m2 (Nat.lt_of_lt_of_le l2 (Nat.le_refl n))) (fun g1 _ l1 => zT_le ?_ (Nat.le_of_lt l1))
  refine tL ((172 : Nat) : Int) 0 rfl rfl rfl ?_
  refine tFv (c := 172) (s 172 9) 0 rfl rfl rfl rfl rfl ?_
  exact tR rfl (h1 g1)

theorem c_X11_nights {n : Nat} {Q : Zr → Prop} {a0 : Int} {s : Zs} (h : zT (zE 1484) (Pt PX11_nights) n (0, [a0], [], s) Q) : zC n 1484 [(a0, 0)] s Q := h

section Zmn
variable {N : Nat} {s : Zs} {T : Nat → Int} {n p : Nat} {D : ZD}
/-- what the town tells, as the model has it -/
def mT (s : Zs) (D : ZD) : Prop := (∀ k, k < 5 → s 174 k = (cnt D k : Int)) ∧ (∀ k i w, k < 5 → k ≠ 1 → (dN D k)[i]? = some w → s (mnc k) i = enc 27 w) ∧ (∀ k j i v, k < 5 → j < wd2 k → (dC D (10 * k + j))[i]? = some v → s (mcc k + j) i = v)
def mN (s : Zs) (T : Nat → Int) (n p : Nat) (D : ZD) : Prop := mst s T n p ∧ mT s D ∧ wD D ∧ wF D ∧ True
theorem mT_e {s' : Zs} (f : ∀ c j, 174 ≤ c → c ≤ 191 → s' c j = s c j) (h : mT s D) : mT s' D := by
  obtain ⟨h1, h2, h3⟩ := h
  refine ⟨fun k hk => by rw [f _ _ (by omega) (by omega)]; exact h1 k hk, fun k i w hk hk1 hw => ?_, fun k j i v hk hj hv => ?_⟩
  · have := mnc_b k
    rw [f _ _ (by omega) (by omega)]
    exact h2 k i w hk hk1 hw
  · have := mcc_b hk hj
    rw [f _ _ (by omega) (by omega)]
    exact h3 k j i v hk hj hv
theorem mN_N {s' : Zs} {p' : Nat} (f : frN s s') (h : mN s T n p D) (hst : mst s' T n p') (hp : p ≤ p') : mN s' T n p' D := ⟨hst, mT_e (fun c j a b => f _ _ (by omega)) h.2.1, h.2.2.1, h.2.2.2.1, trivial⟩
theorem lNk0 (h : mN s T n p D) {k : Nat} (hk : k < 5) (hk1 : k ≠ 1) : (dN D k).length = cnt D k := by unfold cnt; rw [if_neg hk1]
theorem houseNamed_ok0 (h : mN s T n p D) (hn : eQ T n (kB T n p) = 2) : zC N 1443 [(((172 : Nat) : Int), 0), (0, 0)] s (fun r => r = ([(ixW (eW T n (kB T n p)) (dN D 0), 0)], s)) := by
  have hc : s 174 0 = ((cnt D 0 : Nat) : Int) := h.2.1.1 0 (by omega)
  have hm : cnt D 0 ≤ 5 := h.2.2.1.1 0 (by omega)
  refine c_X11_houseNamed (b_X11_houseNamed_0 0 s (fun m _ => ?_))
  show zC m 1475 [(((175 : Nat) : Int), 0), (0, 0), (s 174 0, 0), (s 172 7, 1)] s _
  rw [hc, h.1.2.2.2.2.2.1 hn]
  refine zC_q (named_ok (c := 175) (f := 0) (eW_ok (kB_bd h.1.2.1)) (lNk0 h (by omega) (by omega)) (by omega) (by omega) (fun w hw => (h.2.2.1.2.1 0 w hw).1) (fun i w hw => by rw [Nat.zero_add]; exact h.2.1.2.1 0 i w (by omega) (by omega) hw)) (fun r hr => ?_)
  subst hr
  exact b_X11_houseNamed_25 _ _ s rfl
theorem thingNamed_ok0 (h : mN s T n p D) (hn : eQ T n (kB T n p) = 2) : zC N 1520 [(((172 : Nat) : Int), 0), (0, 0)] s (fun r => r = ([(ixW (eW T n (kB T n p)) (dN D 2), 0)], s)) := by
  have hc : s 174 2 = ((cnt D 2 : Nat) : Int) := h.2.1.1 2 (by omega)
  have hm : cnt D 2 ≤ 4 := h.2.2.1.1 2 (by omega)
  refine c_X11_thingNamed (b_X11_thingNamed_0 0 s (fun m _ => ?_))
  show zC m 1475 [(((176 : Nat) : Int), 0), (0, 0), (s 174 2, 0), (s 172 7, 1)] s _
  rw [hc, h.1.2.2.2.2.2.1 hn]
  refine zC_q (named_ok (c := 176) (f := 0) (eW_ok (kB_bd h.1.2.1)) (lNk0 h (by omega) (by omega)) (by omega) (by omega) (fun w hw => (h.2.2.1.2.1 2 w hw).1) (fun i w hw => by rw [Nat.zero_add]; exact h.2.1.2.1 2 i w (by omega) (by omega) hw)) (fun r hr => ?_)
  subst hr
  exact b_X11_thingNamed_25 _ _ s rfl
theorem personNamed_ok0 (h : mN s T n p D) (hn : eQ T n (kB T n p) = 2) : zC N 1489 [(((172 : Nat) : Int), 0), (0, 0)] s (fun r => r = ([(ixW (eW T n (kB T n p)) (dN D 3), 0)], s)) := by
  have hc : s 174 3 = ((cnt D 3 : Nat) : Int) := h.2.1.1 3 (by omega)
  have hm : cnt D 3 ≤ 5 := h.2.2.1.1 3 (by omega)
  refine c_X11_personNamed (b_X11_personNamed_0 0 s (fun m _ => ?_))
  show zC m 1475 [(((177 : Nat) : Int), 0), (0, 0), (s 174 3, 0), (s 172 7, 1)] s _
  rw [hc, h.1.2.2.2.2.2.1 hn]
  refine zC_q (named_ok (c := 177) (f := 0) (eW_ok (kB_bd h.1.2.1)) (lNk0 h (by omega) (by omega)) (by omega) (by omega) (fun w hw => (h.2.2.1.2.1 3 w hw).1) (fun i w hw => by rw [Nat.zero_add]; exact h.2.1.2.1 3 i w (by omega) (by omega) hw)) (fun r hr => ?_)
  subst hr
  exact b_X11_personNamed_25 _ _ s rfl
theorem needsTold0_q {Q : Zr → Prop} (h : mN s T n p D) (k0 : ∀ s', (gTo T n (dN D 0) (0, p)).1 ≠ 0 → frN s s' → s' 172 9 = (gTo T n (dN D 0) (0, p)).1 → Q ([(0, 0)], s')) (k1 : ∀ s', gTo T n (dN D 0) (0, p) = (0, kE T n p) → frN s s' → mN s' T n (kE T n p) D → s' 172 45 = vTo T n (dN D 0) (0, p) → 0 ≤ vTo T n (dN D 0) (0, p) → vTo T n (dN D 0) (0, p) < (dN D 0).length → Q ([(1, 0)], s')) : zC N 1480 [(((172 : Nat) : Int), 0), (0, 0), (0, 0)] s Q := by
  refine c_X11_needsTold (b_X11_needsTold_0 _ _ s (fun m hm => ?_))
  refine zC_q (isKept_ok h.1) (fun r hr => ?_)
  subst hr
  have hb := ixW_bd (w := eW T n (kB T n p)) (dN D 0)
  refine b_X11_needsTold_4 _ _ _ s (fun g g2 => absurd rfl g2) (fun g g2 => absurd rfl g2) (fun g g2 m1 hm1 => ?_) (fun g => ?_)
  · have hn : isNm T n (kB T n p) = true := Decidable.byContradiction fun c => by rw [if_neg c] at g; omega
    have hq := (isNm_iff.mp hn).1
    have e0 : gNm T n (0, p) = (0, p) := if_pos hn
    have ev : vTo T n (dN D 0) (0, p) = ixW (eW T n (kB T n p)) (dN D 0) := if_pos (by rw [e0])
    refine zC_q (houseNamed_ok0 h hq) (fun r hr => ?_)
    subst hr
    refine b_X11_needsTold_23 _ _ _ s (fun g1 m2 hm2 => ?_) (fun g1 => ?_)
    · have e1 : gTo T n (dN D 0) (0, p) = (0, kE T n p) := by
        unfold gTo
        rw [e0, if_neg (fun q => by have q2 : ixW (eW T n (kB T n p)) (dN D 0) = -1 := q.2; omega)]
        rfl
      refine mst_next (mst_45 h.1) (fun s' f p' => ?_)
      have ff : frN s s' := frN_tr (frN_u (frN_rf s) (by omega)) (frN_M f)
      have hkb := kE_bd (T := T) h.1.2.1
      refine b_X11_needsTold_64 _ _ s' (k1 s' e1 ff (mN_N ff h p' (by omega)) ?_ (by omega) (by omega))
      rw [f 172 45 (by omega), zu_eq, ev]
    · have e1 : gTo T n (dN D 0) (0, p) = gF T n 2 (0, p) := by
        unfold gTo
        rw [e0, if_pos ⟨rfl, by show ixW (eW T n (kB T n p)) (dN D 0) = -1; omega⟩]
      exact mfail_q (s := zu s 172 45 (ixW (eW T n (kB T n p)) (dN D 0))) (k' := 2) (by decide) (mst_45 h.1) e1 (fun s' a f b => k0 s' a (frN_tr (frN_u (frN_rf s) (by omega)) f) b)
  · have hn : isNm T n (kB T n p) ≠ true := fun c => by rw [if_pos c] at g; omega
    have e0 : gNm T n (0, p) = gF T n 1 (0, p) := if_neg hn
    refine mfail_q (k' := 1) (by decide) h.1 ?_ k0
    have hne := gF_ne (T := T) (n := n) (k := 1) (by decide) (x := (0, p)) rfl
    unfold gTo
    rw [e0, if_neg (fun q => hne q.1), gNx_nz hne]
theorem needsTold1_q {Q : Zr → Prop} (h : mN s T n p D) (k0 : ∀ s', (gTo T n (dN D 3) (0, p)).1 ≠ 0 → frN s s' → s' 172 9 = (gTo T n (dN D 3) (0, p)).1 → Q ([(0, 0)], s')) (k1 : ∀ s', gTo T n (dN D 3) (0, p) = (0, kE T n p) → frN s s' → mN s' T n (kE T n p) D → s' 172 45 = vTo T n (dN D 3) (0, p) → 0 ≤ vTo T n (dN D 3) (0, p) → vTo T n (dN D 3) (0, p) < (dN D 3).length → Q ([(1, 0)], s')) : zC N 1480 [(((172 : Nat) : Int), 0), (0, 0), (1, 0)] s Q := by
  refine c_X11_needsTold (b_X11_needsTold_0 _ _ s (fun m hm => ?_))
  refine zC_q (isKept_ok h.1) (fun r hr => ?_)
  subst hr
  have hb := ixW_bd (w := eW T n (kB T n p)) (dN D 3)
  refine b_X11_needsTold_4 _ _ _ s (fun g g2 g3 => absurd rfl g3) (fun g g2 g3 m1 hm1 => ?_) (fun g g2 => absurd g2 (by decide)) (fun g => ?_)
  · have hn : isNm T n (kB T n p) = true := Decidable.byContradiction fun c => by rw [if_neg c] at g; omega
    have hq := (isNm_iff.mp hn).1
    have e0 : gNm T n (0, p) = (0, p) := if_pos hn
    have ev : vTo T n (dN D 3) (0, p) = ixW (eW T n (kB T n p)) (dN D 3) := if_pos (by rw [e0])
    refine zC_q (personNamed_ok0 h hq) (fun r hr => ?_)
    subst hr
    refine b_X11_needsTold_36 _ _ _ s (fun g1 m2 hm2 => ?_) (fun g1 => ?_)
    · have e1 : gTo T n (dN D 3) (0, p) = (0, kE T n p) := by
        unfold gTo
        rw [e0, if_neg (fun q => by have q2 : ixW (eW T n (kB T n p)) (dN D 3) = -1 := q.2; omega)]
        rfl
      refine mst_next (mst_45 h.1) (fun s' f p' => ?_)
      have ff : frN s s' := frN_tr (frN_u (frN_rf s) (by omega)) (frN_M f)
      have hkb := kE_bd (T := T) h.1.2.1
      refine b_X11_needsTold_64 _ _ s' (k1 s' e1 ff (mN_N ff h p' (by omega)) ?_ (by omega) (by omega))
      rw [f 172 45 (by omega), zu_eq, ev]
    · have e1 : gTo T n (dN D 3) (0, p) = gF T n 2 (0, p) := by
        unfold gTo
        rw [e0, if_pos ⟨rfl, by show ixW (eW T n (kB T n p)) (dN D 3) = -1; omega⟩]
      exact mfail_q (s := zu s 172 45 (ixW (eW T n (kB T n p)) (dN D 3))) (k' := 2) (by decide) (mst_45 h.1) e1 (fun s' a f b => k0 s' a (frN_tr (frN_u (frN_rf s) (by omega)) f) b)
  · have hn : isNm T n (kB T n p) ≠ true := fun c => by rw [if_pos c] at g; omega
    have e0 : gNm T n (0, p) = gF T n 1 (0, p) := if_neg hn
    refine mfail_q (k' := 1) (by decide) h.1 ?_ k0
    have hne := gF_ne (T := T) (n := n) (k := 1) (by decide) (x := (0, p)) rfl
    unfold gTo
    rw [e0, if_neg (fun q => hne q.1), gNx_nz hne]
theorem needsTold2_q {Q : Zr → Prop} (h : mN s T n p D) (k0 : ∀ s', (gTo T n (dN D 2) (0, p)).1 ≠ 0 → frN s s' → s' 172 9 = (gTo T n (dN D 2) (0, p)).1 → Q ([(0, 0)], s')) (k1 : ∀ s', gTo T n (dN D 2) (0, p) = (0, kE T n p) → frN s s' → mN s' T n (kE T n p) D → s' 172 45 = vTo T n (dN D 2) (0, p) → 0 ≤ vTo T n (dN D 2) (0, p) → vTo T n (dN D 2) (0, p) < (dN D 2).length → Q ([(1, 0)], s')) : zC N 1480 [(((172 : Nat) : Int), 0), (0, 0), (2, 0)] s Q := by
  refine c_X11_needsTold (b_X11_needsTold_0 _ _ s (fun m hm => ?_))
  refine zC_q (isKept_ok h.1) (fun r hr => ?_)
  subst hr
  have hb := ixW_bd (w := eW T n (kB T n p)) (dN D 2)
  refine b_X11_needsTold_4 _ _ _ s (fun g g2 g3 m1 hm1 => ?_) (fun g g2 g3 => absurd g3 (by decide)) (fun g g2 => absurd g2 (by decide)) (fun g => ?_)
  · have hn : isNm T n (kB T n p) = true := Decidable.byContradiction fun c => by rw [if_neg c] at g; omega
    have hq := (isNm_iff.mp hn).1
    have e0 : gNm T n (0, p) = (0, p) := if_pos hn
    have ev : vTo T n (dN D 2) (0, p) = ixW (eW T n (kB T n p)) (dN D 2) := if_pos (by rw [e0])
    refine zC_q (thingNamed_ok0 h hq) (fun r hr => ?_)
    subst hr
    refine b_X11_needsTold_44 _ _ _ s (fun g1 m2 hm2 => ?_) (fun g1 => ?_)
    · have e1 : gTo T n (dN D 2) (0, p) = (0, kE T n p) := by
        unfold gTo
        rw [e0, if_neg (fun q => by have q2 : ixW (eW T n (kB T n p)) (dN D 2) = -1 := q.2; omega)]
        rfl
      refine mst_next (mst_45 h.1) (fun s' f p' => ?_)
      have ff : frN s s' := frN_tr (frN_u (frN_rf s) (by omega)) (frN_M f)
      have hkb := kE_bd (T := T) h.1.2.1
      refine b_X11_needsTold_64 _ _ s' (k1 s' e1 ff (mN_N ff h p' (by omega)) ?_ (by omega) (by omega))
      rw [f 172 45 (by omega), zu_eq, ev]
    · have e1 : gTo T n (dN D 2) (0, p) = gF T n 2 (0, p) := by
        unfold gTo
        rw [e0, if_pos ⟨rfl, by show ixW (eW T n (kB T n p)) (dN D 2) = -1; omega⟩]
      exact mfail_q (s := zu s 172 45 (ixW (eW T n (kB T n p)) (dN D 2))) (k' := 2) (by decide) (mst_45 h.1) e1 (fun s' a f b => k0 s' a (frN_tr (frN_u (frN_rf s) (by omega)) f) b)
  · have hn : isNm T n (kB T n p) ≠ true := fun c => by rw [if_pos c] at g; omega
    have e0 : gNm T n (0, p) = gF T n 1 (0, p) := if_neg hn
    refine mfail_q (k' := 1) (by decide) h.1 ?_ k0
    have hne := gF_ne (T := T) (n := n) (k := 1) (by decide) (x := (0, p)) rfl
    unfold gTo
    rw [e0, if_neg (fun q => hne q.1), gNx_nz hne]
theorem needsNumber_q0 {lo hi : Int} {Q : Zr → Prop} (h : mN s T n p D) (k0 : ∀ s', (gN T n lo hi (0, p)).1 ≠ 0 → frN s s' → s' 172 9 = (gN T n lo hi (0, p)).1 → Q ([(0, 0)], s')) (k1 : ∀ s', gN T n lo hi (0, p) = (0, kE T n p) → frN s s' → mN s' T n (kE T n p) D → s' 172 45 = eM T n (kB T n p) → lo ≤ eM T n (kB T n p) → eM T n (kB T n p) ≤ hi → Q ([(1, 0)], s')) : zC N 1478 [(((172 : Nat) : Int), 0), (lo, 0), (hi, 0)] s Q := by
  refine zC_q (needsNumber_ok h.1) (fun r hr => ?_)
  obtain ⟨r1, s'⟩ := r
  obtain ⟨⟨e, f, a, b⟩, v⟩ := hr
  have e : r1 = [(if (gN T n lo hi (0, p)).1 = 0 then 1 else 0, 0)] := e
  subst e
  by_cases c : (gN T n lo hi (0, p)).1 = 0
  · rw [if_pos c]
    have e1 : gN T n lo hi (0, p) = (0, kE T n p) ∧ lo ≤ eM T n (kB T n p) ∧ eM T n (kB T n p) ≤ hi := by
      unfold gN at c ⊢
      dsimp only at c ⊢
      split at c
      · split at c
        · rename_i c1 c2
          rw [if_pos c1, if_pos c2]
          exact ⟨rfl, c2⟩
        · exact absurd c (gF_ne (by decide) rfl)
      · exact absurd c (gF_ne (by decide) rfl)
    have a := a c
    rw [e1.1] at a
    have hkb := kE_bd (T := T) h.1.2.1
    exact k1 s' e1.1 f (mN_N f h a (by omega)) (v c) e1.2.1 e1.2.2
  · rw [if_neg c]
    exact k0 s' c f (b c)
theorem closes_q0 {Q : Zr → Prop} (h : mN s T n p D) (k0 : ∀ s', (gS T n 59 (0, p)).1 ≠ 0 → frN s s' → s' 172 9 = (gS T n 59 (0, p)).1 → Q ([(0, 0)], s')) (k1 : ∀ s', gS T n 59 (0, p) = (0, kE T n p) → frN s s' → mN s' T n (kE T n p) D → Q ([(1, 0)], s')) : zC N 1425 [(((172 : Nat) : Int), 0)] s Q := by
  refine zC_q (closes_ok h.1) (fun r hr => ?_)
  obtain ⟨r1, s'⟩ := r
  obtain ⟨e, f, a, b⟩ := hr
  have e : r1 = [(if (gS T n 59 (0, p)).1 = 0 then 1 else 0, 0)] := e
  subst e
  by_cases c : (gS T n 59 (0, p)).1 = 0
  · rw [if_pos c]
    have e1 : gS T n 59 (0, p) = (0, kE T n p) := by
      unfold gS at c ⊢
      split at c
      · rename_i c1
        rw [if_pos c1]
        rfl
      · exact absurd c (gF_ne (by decide) rfl)
    have a := a c
    rw [e1] at a
    have hkb := kE_bd (T := T) h.1.2.1
    exact k1 s' e1 f (mN_N f h a (by omega))
  · rw [if_neg c]
    exact k0 s' c f (b c)
theorem flr_m0 (h : mN s T n p D) {v : Int} (h0 : 0 ≤ v) (h1 : v < (dN D 0).length) : s 179 (w32 v).toNat = flr D v ∧ 1 ≤ flr D v ∧ flr D v ≤ 5 := by
  have hl : (dN D 0).length = cnt D 0 := lNk0 h (by omega) (by omega)
  have hm : cnt D 0 ≤ 5 := h.2.2.1.1 0 (by omega)
  have hc := h.2.2.1.2.2.2.1
  have hlt : v.toNat < (dC D 0).length := by omega
  have e : flr D v = (dC D 0)[v.toNat] := by
    unfold flr
    rw [if_pos ⟨h0, h1⟩, List.getElem?_eq_getElem hlt]
    rfl
  have e2 := h.2.1.2.2 0 0 v.toNat _ (by omega) (by decide) (List.getElem?_eq_getElem hlt)
  rw [w32_id (by omega) (by omega), e]
  exact ⟨e2, h.2.2.1.2.2.2.2.2.1 _ (List.getElem_mem hlt)⟩
theorem needsPlace_q0 {Q : Zr → Prop} (h : mN s T n p D) (k0 : ∀ s', (gPl T n D (0, p)).1 ≠ 0 → frN s s' → s' 172 9 = (gPl T n D (0, p)).1 → Q ([(0, 0)], s')) (k1 : ∀ s', gPl T n D (0, p) = (0, kE T n (kE T n p)) → frN s s' → mN s' T n (kE T n (kE T n p)) D → s' 172 45 = vPl T n D (0, p) → Q ([(1, 0)], s')) : zC N 1479 [(((172 : Nat) : Int), 0), (0, 0)] s Q := by
  refine c_X11_needsPlace (b_X11_needsPlace_0 _ 0 s (fun m hm => needsTold0_q h (fun s' a f b => ?_) (fun s' e f h' v l1 l2 => ?_)))
  · refine b_X11_needsPlace_6 _ _ _ s' (fun q => absurd rfl q) (fun _ => k0 s' ?_ f ?_)
    · unfold gPl; rw [gN_nz a]; exact a
    · unfold gPl; rw [gN_nz a]; exact b
  · have ef := flr_m0 h' l1 l2
    have eg : gPl T n D (0, p) = gN T n 0 (flr D (vTo T n (dN D 0) (0, p))) (0, kE T n p) := by unfold gPl; rw [e]
    refine b_X11_needsPlace_6 _ _ _ s' (fun _ m' hm' => ?_) (fun q => absurd q (by decide))
    rw [v]
    rw [show w32 (w32 (5 * 0) + vTo T n (dN D 0) (0, p)) = w32 (vTo T n (dN D 0) (0, p)) from by rw [show w32 (5 * 0) = 0 from rfl, Int.zero_add], ef.1]
    refine needsNumber_q0 h' (fun s2 a f2 b => ?_) (fun s2 e2 f2 h2 v2 l3 l4 => ?_)
    · refine b_X11_needsPlace_31 _ _ _ s2 (fun q => absurd rfl q) (fun _ => k0 s2 ?_ (frN_tr f f2) ?_)
      · rw [eg]; exact a
      · rw [eg]; exact b
    · have hl : (dN D 0).length = cnt D 0 := lNk0 h (by omega) (by omega)
      have hm : cnt D 0 ≤ 5 := h.2.2.1.1 0 (by omega)
      have e3 : gPl T n D (0, p) = (0, kE T n (kE T n p)) := eg.trans e2
      have ev : w32 (s2 172 45 + w32 (6 * vTo T n (dN D 0) (0, p))) = vPl T n D (0, p) := by
        unfold vPl
        rw [if_pos (by rw [e3]), e, v2, w32_id (z := 6 * vTo T n (dN D 0) (0, p)) (by omega) (by omega), w32_id (by omega) (by omega)]
        show _ = vTo T n (dN D 0) (0, p) * 6 + eM T n (kB T n (kE T n p))
        omega
      refine b_X11_needsPlace_31 _ _ _ s2 (fun _ => ?_) (fun q => absurd q (by decide))
      refine k1 _ e3 (frN_tr f (frN_u f2 (by omega))) (mN_N (frN_u (frN_rf s2) (by omega)) h2 (mst_45 h2.1) (Nat.le_refl _)) ?_
      rw [zu_eq, ev]
theorem flightOf_ok0 (h : mN s T n p D) {hh f : Int} : zC N 1438 [(((172 : Nat) : Int), 0), (0, 0), (hh, 0), (f, 0)] s (fun r => r = ([(fxI D hh f, 0)], s)) := by
  have hc : s 174 (w32 (w32 (7 * 0) + 1)).toNat = ((cnt D 1 : Nat) : Int) := h.2.1.1 1 (by omega)
  have hm : cnt D 1 ≤ 10 := h.2.2.1.1 1 (by omega)
  have la : (dC D 10).length = cnt D 1 := h.2.2.1.2.2.2.2.1 1 0 (by omega) (by omega) (by decide)
  have lb : (dC D 11).length = cnt D 1 := h.2.2.1.2.2.2.2.1 1 1 (by omega) (by omega) (by decide)
  have loop : ∀ (M i : Nat), i ≤ cnt D 1 → (∀ (j : Nat) (a b : Int), j < i → (dC D 10)[j]? = some a → (dC D 11)[j]? = some b → ¬ (a = hh ∧ b = f)) → zT (zE 1438) (Pt PX11_flightOf) M (3, [((172 : Nat) : Int), 0, hh, f, (i : Int)], [], s) (fun r => r = ([(fxI D hh f, 0)], s)) := by
    intro M
    induction M using Nat.strongRecOn with
    | ind M ih =>
      intro i hi hno
      have ia : ∀ (hi : i < cnt D 1), s 180 (w32 (w32 (10 * 0) + (i : Int))).toNat = (dC D 10)[i]'(by omega) := fun hi => by
        rw [show w32 (w32 (10 * 0) + (i : Int)) = ((i : Nat) : Int) from by rw [show w32 (10 * 0) = 0 from rfl, w32_id (by omega) (by omega)]; omega, Int.toNat_natCast]
        exact h.2.1.2.2 1 0 i _ (by omega) (by decide) (List.getElem?_eq_getElem (show i < (dC D 10).length by omega))
      have ib : ∀ (hi : i < cnt D 1), s 181 (w32 (w32 (10 * 0) + (i : Int))).toNat = (dC D 11)[i]'(by omega) := fun hi => by
        rw [show w32 (w32 (10 * 0) + (i : Int)) = ((i : Nat) : Int) from by rw [show w32 (10 * 0) = 0 from rfl, w32_id (by omega) (by omega)]; omega, Int.toNat_natCast]
        exact h.2.1.2.2 1 1 i _ (by omega) (by decide) (List.getElem?_eq_getElem (show i < (dC D 11).length by omega))
      have on : i < cnt D 1 → (∀ (hi : i < cnt D 1), ¬ ((dC D 10)[i]'(by omega) = hh ∧ (dC D 11)[i]'(by omega) = f)) → ∀ k, k < M → zT (zE 1438) (Pt PX11_flightOf) k (3, [((172 : Nat) : Int), 0, hh, f, w32 ((i : Int) + 1)], [], s) (fun r => r = ([(fxI D hh f, 0)], s)) := fun hi' hne k hk => by
        rw [w32_id (by omega) (by omega), show (i : Int) + 1 = ((i + 1 : Nat) : Int) from by omega]
        refine ih k hk (i + 1) (by omega) (fun j a b hj ha hb => ?_)
        by_cases e : j = i
        · subst e
          rw [List.getElem?_eq_getElem (by omega)] at ha hb
          cases ha
          cases hb
          exact hne hi'
        · exact hno j a b (by omega) ha hb
      refine b_X11_flightOf_3 _ _ _ _ s (fun g => ?_) (fun g g2 k hk => ?_) (fun g g2 g3 k hk => ?_) (fun g g2 g3 => ?_)
      · rw [hc] at g
        have : fxI D hh f = -1 := fxl_no _ _ (fun j a b ha hb => hno j a b (by have := (List.getElem?_eq_some_iff.mp ha).1; omega) ha hb)
        rw [this]
      · rw [hc] at g
        exact on (by omega) (fun hi e => g2 ((ia hi).trans e.1)) k hk
      · rw [hc] at g
        exact on (by omega) (fun hi e => g3 ((ib hi).trans e.2)) k hk
      · rw [hc] at g
        have hi' : i < cnt D 1 := by omega
        have : fxI D hh f = (i : Int) := fxl_yes i _ _ (by rw [List.getElem?_eq_getElem (by omega), ← ia hi', g2]) (by rw [List.getElem?_eq_getElem (by omega), ← ib hi', g3]) hno
        rw [this]
  exact c_X11_flightOf (b_X11_flightOf_0 _ _ _ _ s (loop N 0 (by omega) (fun j _ _ hj => by omega)))
theorem gFl_nz {x : PS} (h : x.1 ≠ 0) : gFl T n D x = x := by
  have e : gTo T n (dN D 0) x = x := gTo_nz h
  unfold gFl
  rw [e, gNh_nz h, gF_nz h, gNx_nz h]
  split <;> rfl
theorem gFl_to {x : PS} (h : (gTo T n (dN D 0) x).1 ≠ 0) : gFl T n D x = gTo T n (dN D 0) x := by
  unfold gFl
  rw [gNh_nz h, gF_nz h, gNx_nz h]
  split <;> rfl
/-- a flight of NIGHTS, the model's side -/
theorem needsFlight_q {Q : Zr → Prop} (h : mN s T n p D) (k0 : ∀ s', (gFl T n D (0, p)).1 ≠ 0 → frN s s' → s' 172 9 = (gFl T n D (0, p)).1 → Q ([(0, 0)], s')) (k1 : ∀ s', gFl T n D (0, p) = (0, kE T n (kE T n p)) → frN s s' → mN s' T n (kE T n (kE T n p)) D → s' 172 45 = vFl T n D (0, p) → Q ([(1, 0)], s')) : zC N 1477 [(((172 : Nat) : Int), 0)] s Q := by
  refine c_X11_needsFlight (b_X11_needsFlight_0 0 s (fun m _ => needsTold0_q h (fun s' a f b => ?_) (fun s' e f h' v l1 l2 => ?_)))
  · have e := gFl_to a
    exact b_X11_needsFlight_6 _ _ s' (fun q => absurd rfl q) (fun q => absurd rfl q) (fun _ => k0 s' (by rw [e]; exact a) f (by rw [e]; exact b))
  · refine b_X11_needsFlight_6 _ _ s' (fun _ g m2 _ => ?_) (fun _ g => ?_) (fun q => absurd q (by decide))
    · have q3 : eQ T n (kB T n (kE T n p)) = 3 := mQ_2.mp (h'.1.2.2.2.2.1.symm.trans g)
      rw [v, h'.1.2.2.2.2.2.2 q3]
      refine zC_q (flightOf_ok0 h') (fun r hr => ?_)
      subst hr
      have ev : vFl T n D (0, p) = fxI D (vTo T n (dN D 0) (0, p)) (eM T n (kB T n (kE T n p))) := by unfold vFl vE; rw [e]
      have en : gNh T n (gTo T n (dN D 0) (0, p)) = (0, kE T n p) := by rw [e]; exact if_pos q3
      rw [← ev]
      refine b_X11_needsFlight_41 _ _ s' (fun g2 m3 _ => ?_) (fun g2 => ?_)
      · refine mst_next (mst_45 h'.1) (fun s2 f2 p2 => ?_)
        have hkb := kE_bd (T := T) h'.1.2.1
        have ff : frN s' s2 := frN_tr (frN_u (frN_rf s') (by omega)) (frN_M f2)
        refine b_X11_needsFlight_61 _ s2 (k1 s2 ?_ (frN_tr f ff) (mN_N ff h' p2 (by omega)) ?_)
        · unfold gFl
          rw [if_neg (by omega), en]
          rfl
        · rw [f2 172 45 (by omega), zu_eq]
      · have hb := fxl_bd (h := vTo T n (dN D 0) (0, p)) (f := eM T n (kB T n (kE T n p))) (dC D 10) (dC D 11)
        have e9 : vFl T n D (0, p) = -1 := by
          have : vFl T n D (0, p) = fxI.fxl (vTo T n (dN D 0) (0, p)) (eM T n (kB T n (kE T n p))) (dC D 10) (dC D 11) := ev
          omega
        refine mfail_q (s := zu s' 172 45 (vFl T n D (0, p))) (x := gFl T n D (0, p)) (k' := 4) (by decide) (mst_45 h'.1) ?_ (fun s2 a f2 b => k0 s2 a (frN_tr f (frN_tr (frN_u (frN_rf s') (by omega)) f2)) b)
        unfold gFl
        rw [if_pos e9, en]
    · have q3 : eQ T n (kB T n (kE T n p)) ≠ 3 := fun c => g (h'.1.2.2.2.2.1.trans (mQ_2.mpr c))
      have en : gNh T n (gTo T n (dN D 0) (0, p)) = gF T n 1 (0, kE T n p) := by rw [e]; exact if_neg q3
      refine mfail_q (x := gFl T n D (0, p)) (k' := 1) (by decide) h'.1 ?_ (fun s2 a f2 b => k0 s2 a (frN_tr f f2) b)
      unfold gFl
      have hne := gF_ne (T := T) (n := n) (k := 1) (by decide) (x := (0, kE T n p)) rfl
      rw [en, gF_nz hne, gNx_nz hne]
      split <;> rfl
def rowM (s : Zs) (i : Nat) (r : Int × Int × Int × Int) : Prop := s 208 i = r.1 ∧ 0 ≤ r.1 ∧ r.1 ≤ 4 ∧ (r.1 ≤ 3 → s 209 i = r.2.1) ∧ (r.1 = 2 ∨ r.1 = 3 → s 210 i = r.2.2.1) ∧ (r.1 = 3 → s 211 i = r.2.2.2)
def linM (s : Zs) (b : Nat) (L : NL) : Prop := L.length ≤ 40 ∧ ∀ (i : Nat) r, L[i]? = some r → rowM s (b + i) r
def mNi (s : Zs) (T : Nat → Int) (n p : Nat) (D : ZD) (L : NL) : Prop := mN s T n p D ∧ s 207 5 = (L.length : Int) ∧ linM s 200 L
def frQ (s s' : Zs) : Prop := ∀ c j, ¬ (c = 172 ∧ (4 ≤ j ∧ j ≤ 9 ∨ j = 45)) → ¬ (c = 207 ∧ j = 5) → ¬ (208 ≤ c ∧ c ≤ 211 ∧ 200 ≤ j) → s' c j = s c j
theorem frQ_N {s' s'' : Zs} (h : frQ s s') (f : frN s' s'') : frQ s s'' := fun c j a b d => (f c j a).trans (h c j a b d)
theorem frQ_u {s' : Zs} {c j : Nat} {v : Int} (h : frQ s s') (hc : (c = 207 ∧ j = 5) ∨ (208 ≤ c ∧ c ≤ 211 ∧ 200 ≤ j)) : frQ s (zu s' c j v) := fun c' j' a b d => by
  rw [zu_n (by rintro ⟨rfl, rfl⟩; exact hc.elim b d)]
  exact h c' j' a b d
theorem mst_o {s' : Zs} (h : mst s T n p) (e : ∀ c j, c ≤ 206 → s' c j = s c j) : mst s' T n p := by
  obtain ⟨⟨a1, a2, a3⟩, b, c1, c2, c3, c4, c5⟩ := h
  exact ⟨⟨by rw [e _ _ (by omega)]; exact a1, a2, fun i hi => by rw [e _ _ (by omega)]; exact a3 i hi⟩, b, by rw [e _ _ (by omega)]; exact c1, by rw [e _ _ (by omega)]; exact c2, by rw [e _ _ (by omega)]; exact c3, fun q => by rw [e _ _ (by omega)]; exact c4 q, fun q => by rw [e _ _ (by omega)]; exact c5 q⟩
theorem mN_o {s' : Zs} (h : mN s T n p D) (e : ∀ c j, c ≤ 206 → s' c j = s c j) : mN s' T n p D := ⟨mst_o h.1 e, mT_e (fun c j _ b => e _ _ (by omega)) h.2.1, h.2.2⟩
theorem mN_u {c j : Nat} {v : Int} (h : mN s T n p D) (hc : 207 ≤ c) : mN (zu s c j v) T n p D := mN_o h (fun c' j' h' => zu_n (by omega))
theorem rowM_e {s' : Zs} {i : Nat} {r : Int × Int × Int × Int} (h : rowM s i r) (e : ∀ c, 208 ≤ c → c ≤ 211 → s' c i = s c i) : rowM s' i r := by
  obtain ⟨h1, h2, h3, h4, h5, h6⟩ := h
  exact ⟨by rw [e _ (by omega) (by omega)]; exact h1, h2, h3, fun q => by rw [e _ (by omega) (by omega)]; exact h4 q, fun q => by rw [e _ (by omega) (by omega)]; exact h5 q, fun q => by rw [e _ (by omega) (by omega)]; exact h6 q⟩
theorem linM_app {s' : Zs} {b : Nat} {L : NL} {r : Int × Int × Int × Int} (h : linM s b L) (hl : L.length < 40) (e : ∀ c j, 208 ≤ c → c ≤ 211 → b ≤ j → j < b + L.length → s' c j = s c j) (hr : rowM s' (b + L.length) r) : linM s' b (L ++ [r]) := by
  refine ⟨by rw [List.length_append]; simp; omega, fun i q hq => ?_⟩
  by_cases hi : i < L.length
  · rw [List.getElem?_append_left hi] at hq
    exact rowM_e (h.2 i q hq) (fun c a b' => e c _ a b' (by omega) (by omega))
  · by_cases h2 : i = L.length
    · subst h2
      rw [List.getElem?_append_right (Nat.le_refl _), Nat.sub_self] at hq
      cases hq
      exact hr
    · rw [List.getElem?_eq_none (by rw [List.length_append]; simp; omega)] at hq
      cases hq
theorem gPl_to {x : PS} (h : (gTo T n (dN D 0) x).1 ≠ 0) : gPl T n D x = gTo T n (dN D 0) x := by unfold gPl; exact gN_nz h
theorem gS_fz {c : Int} {x : PS} (h : x.1 ≠ 0) : (gS T n c x).1 = x.1 := by rw [gS_nz h]
theorem mLine_on {L : NL} {w x2 : Int} (hw : 0 ≤ w ∧ w ≤ 4) (h : mNi s T n p D L) (h40 : L.length < 40) {R : PS × (Int × Int × Int × Int)} (hR : pNR T n D (17 + w) (0, p) = R) {Q : Zr → Prop} (k0 : ∀ s', R.1.1 ≠ 0 → frQ s s' → s' 172 9 = R.1.1 → Q ([(0, 0)], s')) (k1 : ∀ s', R.1.1 = 0 → frQ s s' → mNi s' T n R.1.2 D (L ++ [R.2]) → Q ([(1, 0)], s')) : zT (zE 1501) (Pt PX11_readsLine) N (103, [((172 : Nat) : Int), w, x2], [], s) Q := by
  obtain ⟨hN, hc, hl⟩ := h
  have ix : w32 (200 + s 207 5) = ((200 + L.length : Nat) : Int) := by rw [hc, w32_id (by omega) (by omega)]; omega
  have fr0 : frQ s s := fun _ _ _ _ _ => rfl
  have fin : ∀ (m' p4 : Nat) (s4 : Zs) (x1 x2 : Int) (r : Int × Int × Int × Int), mN s4 T n p4 D → frQ s s4 → s4 207 5 = (L.length : Int) → (∀ c j, 208 ≤ c → c ≤ 211 → 200 ≤ j → j < 200 + L.length → s4 c j = s c j) → rowM s4 (200 + L.length) r → R = (gS T n 59 (0, p4), r) → zC m' 1425 [(((172 : Nat) : Int), 0)] (zu s4 207 5 (w32 (s4 207 5 + 1))) (fun p => zT (zE 1501) (Pt PX11_readsLine) m' (234, [((172 : Nat) : Int), x1, x2], p.1 ++ [], p.2) Q) := fun m' p4 s4 x1 x2 r h4 f4 c4 l4 r4 e4 => by
    refine closes_q0 (mN_u h4 (by omega)) (fun s5 a f b => ?_) (fun s5 e f h5 => ?_)
    · exact b_X11_readsLine_234 _ _ _ s5 (k0 s5 (by rw [e4]; exact a) (frQ_N (frQ_u f4 (Or.inl ⟨rfl, rfl⟩)) f) (by rw [e4]; exact b))
    · refine b_X11_readsLine_234 _ _ _ s5 (k1 s5 (by rw [e4, e]) (frQ_N (frQ_u f4 (Or.inl ⟨rfl, rfl⟩)) f) ?_)
      have o : ∀ c j, 208 ≤ c → s5 c j = s4 c j := fun c j hc => by rw [f c j (by omega), zu_n (by omega)]
      rw [e4, e]
      refine ⟨h5, ?_, linM_app hl h40 (fun c j a b d g => by rw [o c j a]; exact l4 c j a b d g) (rowM_e r4 (fun c a _ => o c _ a))⟩
      rw [f 207 5 (by omega), zu_eq, c4, w32_id (by omega) (by omega)]
      show _ = (((L ++ [r]).length : Nat) : Int)
      rw [List.length_append]
      simp
  have hu : ∀ {s4 : Zs} {c : Nat} {v : Int}, frQ s s4 → 208 ≤ c ∧ c ≤ 211 → frQ s (zu s4 c (200 + L.length) v) := fun f hc => frQ_u f (Or.inr ⟨hc.1, hc.2, by omega⟩)
  refine b_X11_readsLine_103 _ _ s (fun g1 g2 m _ => ?_) (fun g1 g2 m _ => ?_) (fun g1 m _ => ?_)
  all_goals rw [ix, Int.toNat_natCast]
  · have w4 : w = 4 := by omega
    subst w4
    have hR : R = (gS T n 59 (0, p), (4, 0, 0, 0)) := hR.symm.trans pNR_d
    have e : (s 207 5) = (zu s 208 (200 + L.length) 4) 207 5 := by rw [zu_n (by omega)]
    rw [e]
    refine fin m p _ _ _ _ (mN_u hN (by omega)) (hu fr0 (by omega)) (by rw [zu_n (by omega)]; exact hc) (fun c j a b d g => zu_n (by omega)) ⟨zu_eq _ _ _ _, by decide, by decide, fun q => absurd q (by decide), fun q => absurd q (by decide), fun q => absurd q (by decide)⟩ hR
  · refine needsTold1_q (mN_u hN (by omega)) (fun s1 a f1 b => ?_) (fun s1 e1 f1 h1 v1 l1 l2 => ?_)
    · refine b_X11_readsLine_159 _ _ _ s1 (fun q => absurd rfl q) (fun q => absurd rfl q) (fun _ => k0 s1 ?_ (frQ_N (hu fr0 (by omega)) f1) ?_)
      · rcases (show w = 2 ∨ w = 3 by omega) with rfl | rfl
        · rw [← hR.symm.trans pNR_b |>.symm]
          show (gS T n 59 (gPl T n D (gTo T n (dN D 3) (0, p)))).1 ≠ 0
          rw [gPl_nz a, gS_nz a]; exact a
        · rw [← hR.symm.trans pNR_c |>.symm]
          show (gS T n 59 (gPl T n D (gTo T n (dN D 2) (gTo T n (dN D 3) (0, p))))).1 ≠ 0
          rw [gTo_nz a, gPl_nz a, gS_nz a]; exact a
      · rcases (show w = 2 ∨ w = 3 by omega) with rfl | rfl
        · rw [← hR.symm.trans pNR_b |>.symm]
          show _ = (gS T n 59 (gPl T n D (gTo T n (dN D 3) (0, p)))).1
          rw [gPl_nz a, gS_nz a]; exact b
        · rw [← hR.symm.trans pNR_c |>.symm]
          show _ = (gS T n 59 (gPl T n D (gTo T n (dN D 2) (gTo T n (dN D 3) (0, p))))).1
          rw [gTo_nz a, gPl_nz a, gS_nz a]; exact b
    · have o1 : ∀ c j, 207 ≤ c → s1 c j = zu s 208 (200 + L.length) w c j := fun c j hc => f1 c j (by omega)
      have F1 : frQ s s1 := frQ_N (hu fr0 (by omega)) f1
      -- the place, behind the person (and the thing)
      have pl : ∀ (m' p3 : Nat) (s3 : Zs) (y : PS) (r : Int × Int × Int × Int), y = (0, p3) → R = (gS T n 59 (gPl T n D y), r) → r.2.2.1 = vPl T n D y → mN s3 T n p3 D → frQ s s3 → s3 207 5 = (L.length : Int) → (∀ c j, 208 ≤ c → c ≤ 211 → 200 ≤ j → j < 200 + L.length → s3 c j = s c j) → s3 208 (200 + L.length) = r.1 → 2 ≤ r.1 → r.1 ≤ 3 → s3 209 (200 + L.length) = r.2.1 → (r.1 = 3 → s3 211 (200 + L.length) = r.2.2.2) → zC m' 1479 [(((172 : Nat) : Int), 0), (0, 0)] s3 (fun p => zT (zE 1501) (Pt PX11_readsLine) m' (205, [((172 : Nat) : Int), w, ((200 + L.length : Nat) : Int)], p.1 ++ [], p.2) Q) := fun m' p3 s3 y r ey er e4 h3 f3 c3 l3 a1 a2 a3 a4 a5 => by
        subst ey
        refine needsPlace_q0 h3 (fun s4 a f b => ?_) (fun s4 e f h4 v => ?_)
        · exact b_X11_readsLine_205 _ _ _ s4 (fun q => absurd rfl q) (fun _ => k0 s4 (by rw [er]; show (gS T n 59 _).1 ≠ 0; rw [gS_nz a]; exact a) (frQ_N f3 f) (by rw [er]; show _ = (gS T n 59 _).1; rw [gS_nz a]; exact b))
        · have o : ∀ c j, 207 ≤ c → s4 c j = s3 c j := fun c j hc => f c j (by omega)
          refine b_X11_readsLine_205 _ _ _ s4 (fun _ m2 _ => ?_) (fun q => absurd q (by decide))
          rw [Int.toNat_natCast]
          have e9 : s4 207 5 = (zu s4 210 (200 + L.length) (s4 172 45)) 207 5 := by rw [zu_n (by omega)]
          rw [e9]
          refine fin m2 _ _ _ _ r (mN_u h4 (by omega)) (hu (frQ_N f3 f) (by omega)) (by rw [zu_n (by omega), o _ _ (by omega)]; exact c3) (fun c j a b d g => by rw [zu_n (by omega), o _ _ (by omega)]; exact l3 c j a b d g) ⟨by rw [zu_n (by omega), o _ _ (by omega)]; exact a1, by omega, by omega, fun _ => by rw [zu_n (by omega), o _ _ (by omega)]; exact a4, fun _ => by rw [zu_eq, v]; exact e4.symm, fun q => by rw [zu_n (by omega), o _ _ (by omega)]; exact a5 q⟩ (by rw [er, e])
      refine b_X11_readsLine_159 _ _ _ s1 (fun _ g m2 _ => ?_) (fun _ g m2 _ => ?_) (fun q => absurd q (by decide))
      all_goals rw [Int.toNat_natCast]
      · have w2 : w = 2 := by omega
        subst w2
        refine pl m2 _ _ _ _ e1 (hR.symm.trans pNR_b) rfl (mN_u h1 (by omega)) (hu F1 (by omega)) ?_ (fun c j a b d g => ?_) ?_ (show (2 : Int) ≤ 2 by decide) (show (2 : Int) ≤ 3 by decide) ?_ (fun q => absurd (show (2 : Int) = 3 from q) (by decide))
        · rw [zu_n (by omega), o1 _ _ (by omega), zu_n (by omega)]; exact hc
        · rw [zu_n (by omega), o1 _ _ (by omega), zu_n (by omega)]
        · rw [zu_n (by omega), o1 _ _ (by omega), zu_eq]
        · rw [zu_eq]; exact v1
      · subst g
        refine needsTold2_q (mN_u h1 (by omega)) (fun s2 a f2 b => ?_) (fun s2 e2 f2 h2 v2 l3 l4 => ?_)
        · have er : R = _ := hR.symm.trans pNR_c
          rw [e1] at er
          refine b_X11_readsLine_185 _ _ _ s2 (fun q => absurd rfl q) (fun _ => k0 s2 (by rw [er]; show (gS T n 59 (gPl T n D _)).1 ≠ 0; rw [gPl_nz a, gS_nz a]; exact a) (frQ_N (hu F1 (by omega)) f2) (by rw [er]; show _ = (gS T n 59 (gPl T n D _)).1; rw [gPl_nz a, gS_nz a]; exact b))
        · have o2 : ∀ c j, 207 ≤ c → s2 c j = zu s1 209 (200 + L.length) (s1 172 45) c j := fun c j hc => f2 c j (by omega)
          refine b_X11_readsLine_185 _ _ _ s2 (fun _ m3 _ => ?_) (fun q => absurd q (by decide))
          rw [Int.toNat_natCast]
          have er : R = _ := hR.symm.trans pNR_c
          rw [e1] at er
          refine pl m3 _ _ _ _ e2 er rfl (mN_u h2 (by omega)) (hu (frQ_N (hu F1 (by omega)) f2) (by omega)) ?_ (fun c j a b d g => ?_) ?_ (show (2 : Int) ≤ 3 by decide) (show (3 : Int) ≤ 3 by decide) ?_ (fun _ => ?_)
          · rw [zu_n (by omega), o2 _ _ (by omega), zu_n (by omega), o1 _ _ (by omega), zu_n (by omega)]; exact hc
          · rw [zu_n (by omega), o2 _ _ (by omega), zu_n (by omega), o1 _ _ (by omega), zu_n (by omega)]
          · rw [zu_n (by omega), o2 _ _ (by omega), zu_n (by omega), o1 _ _ (by omega), zu_eq]
          · rw [zu_n (by omega), o2 _ _ (by omega), zu_eq]; exact v1
          · rw [zu_eq]; exact v2
  · have er : R = (gS T n 59 (gFl T n D (0, p)), (17 + w - 17, vFl T n D (0, p), 0, 0)) := hR.symm.trans (pNR_a (by omega))
    refine needsFlight_q (mN_u hN (by omega)) (fun s1 a f1 b => ?_) (fun s1 e1 f1 h1 v1 => ?_)
    · exact b_X11_readsLine_130 _ _ _ s1 (fun q => absurd rfl q) (fun _ => k0 s1 (by rw [er]; show (gS T n 59 _).1 ≠ 0; rw [gS_nz a]; exact a) (frQ_N (hu fr0 (by omega)) f1) (by rw [er]; show _ = (gS T n 59 _).1; rw [gS_nz a]; exact b))
    · have o1 : ∀ c j, 207 ≤ c → s1 c j = zu s 208 (200 + L.length) w c j := fun c j hc => f1 c j (by omega)
      refine b_X11_readsLine_130 _ _ _ s1 (fun _ m2 _ => ?_) (fun q => absurd q (by decide))
      rw [Int.toNat_natCast]
      have e9 : s1 207 5 = (zu s1 209 (200 + L.length) (s1 172 45)) 207 5 := by rw [zu_n (by omega)]
      rw [e9]
      refine fin m2 _ _ _ _ _ (mN_u h1 (by omega)) (hu (frQ_N (hu fr0 (by omega)) f1) (by omega)) (by rw [zu_n (by omega), o1 _ _ (by omega), zu_n (by omega)]; exact hc) (fun c j a b d g => by rw [zu_n (by omega), o1 _ _ (by omega), zu_n (by omega)]) ⟨?_, ?_, ?_, fun _ => ?_, fun q => ?_, fun q => ?_⟩ (by rw [er, e1])
      · rw [zu_n (by omega), o1 _ _ (by omega), zu_eq]; show w = 17 + w - 17; omega
      · show 0 ≤ 17 + w - 17; omega
      · show 17 + w - 17 ≤ 4; omega
      · rw [zu_eq]; exact v1
      · have q : 17 + w - 17 = 2 ∨ 17 + w - 17 = 3 := q
        omega
      · have q : 17 + w - 17 = 3 := q
        omega
theorem kwL_kw {i : Int} (h : isKw T n (kB T n p) i = true) : kwL T n (0, p) = i := by
  unfold isKw at h
  rw [Bool.and_eq_true, decide_eq_true_eq, decide_eq_true_eq] at h
  unfold kwL
  rw [if_pos h.1]
  exact h.2
theorem kw_kwL {i : Int} (h : kwL T n (0, p) = i) (hi : i ≠ -1) : isKw T n (kB T n p) i = true := by
  unfold kwL at h
  unfold isKw
  rw [Bool.and_eq_true, decide_eq_true_eq, decide_eq_true_eq]
  split at h
  · rename_i q; exact ⟨q, h⟩
  · exact absurd h.symm hi
theorem mLine {L : NL} (h : mNi s T n p D L) {Q : Zr → Prop} (k0 : ∀ s', (pNL T n D (0, p) L).1.1 ≠ 0 → frQ s s' → s' 172 9 = (pNL T n D (0, p) L).1.1 → Q ([(0, 0)], s')) (k1 : ∀ s', (pNL T n D (0, p) L).1.1 = 0 → frQ s s' → mNi s' T n (pNL T n D (0, p) L).1.2 D (pNL T n D (0, p) L).2 → Q ([(1, 0)], s')) : zC N 1501 [(((172 : Nat) : Int), 0)] s Q := by
  have q17 := mK (i := 17) (C := 10494723) h.1.1 (by omega) (by decide)
  have q18 := mK (i := 18) (C := 1483114) h.1.1 (by omega) (by decide)
  have q19 := mK (i := 19) (C := 204) h.1.1 (by omega) (by decide)
  have q20 := mK (i := 20) (C := 1627639) h.1.1 (by omega) (by decide)
  have q21 := mK (i := 21) (C := 7622660) h.1.1 (by omega) (by decide)
  have fr0 : frQ s s := fun _ _ _ _ _ => rfl
  have b40 := h.2.2.1
  have hc := h.2.1
  have bad1 : (kwL T n (0, p) < 17 ∨ 21 < kwL T n (0, p)) → Q ([(0, 0)], zu s 172 9 (w32 (1 + w32 (16 * s 172 5)))) := fun q => by
    have e := pNL_1 (D := D) (L := L) q
    exact mfail_q (x := gF T n 1 (0, p)) (k' := 1) (by decide) h.1.1 rfl (fun s2 a f b => k0 s2 (by rw [e]; exact a) (frQ_N fr0 f) (by rw [e]; exact b))
  have bad5 : ∀ i : Int, 17 ≤ i → i ≤ 21 → kwL T n (0, p) = i → s 207 5 = 40 → Q ([(0, 0)], zu s 172 9 (w32 (5 + w32 (16 * s 172 5)))) := fun i i1 i2 q q2 => by
    have e := pNL_2 (D := D) (L := L) (x := ((0, p) : PS)) (T := T) (n := n) (by omega) (by omega) (by omega)
    exact mfail_q (x := gF T n 5 (0, p)) (k' := 5) (by decide) h.1.1 rfl (fun s2 a f b => k0 s2 (by rw [e]; exact a) (frQ_N fr0 f) (by rw [e]; exact b))
  have on : ∀ w : Int, 0 ≤ w → w ≤ 4 → kwL T n (0, p) = 17 + w → s 207 5 ≠ 40 → ∀ (m : Nat) (x2 : Int), zC m 1482 [(((172 : Nat) : Int), 0)] s (fun p => zT (zE 1501) (Pt PX11_readsLine) m (103, [((172 : Nat) : Int), w, x2], p.1 ++ [], p.2) Q) := fun w w0 w4 q q2 m x2 => by
    have e := pNL_3 (D := D) (L := L) (x := ((0, p) : PS)) (T := T) (n := n) (by omega) (by omega) (by omega)
    rw [q, show gNx T n ((0, p) : PS) = (0, kE T n p) from rfl] at e
    refine mst_next h.1.1 (fun s1 f1 p1 => ?_)
    have hkb := kE_bd (T := T) h.1.1.2.1
    have fN : frN s s1 := frN_M f1
    have F1 := frQ_N fr0 fN
    refine mLine_on ⟨w0, w4⟩ ⟨mN_N fN h.1 p1 (by omega), by rw [fN _ _ (by omega)]; exact hc, b40, fun i r hr => rowM_e (h.2.2.2 i r hr) (fun c a b => fN _ _ (by omega))⟩ (by omega) rfl (fun s2 a f b => ?_) (fun s2 a f b => ?_)
    · exact k0 s2 (by rw [e]; exact a) (fun c j u v w => (f c j u v w).trans (F1 c j u v w)) (by rw [e]; exact b)
    · refine k1 s2 (by rw [e]; exact a) (fun c j u v w => (f c j u v w).trans (F1 c j u v w)) ?_
      rw [e]
      dsimp only
      rw [if_pos a]
      exact b
  refine c_X11_readsLine (b_X11_readsLine_0 0 0 s (fun g => bad1 ?_) (fun g g1 g2 g3 g4 g5 => bad1 ?_) (fun g g1 g2 g3 g4 g5 g6 m _ => on 4 (by decide) (by decide) (kwL_kw (q21.mpr ⟨g, g5⟩)) g6 m _) (fun g g1 g2 g3 g4 g5 g6 => bad5 21 (by decide) (by decide) (kwL_kw (q21.mpr ⟨g, g5⟩)) g6) (fun g g1 g2 g3 g4 g5 m _ => on 3 (by decide) (by decide) (kwL_kw (q20.mpr ⟨g, g4⟩)) g5 m _) (fun g g1 g2 g3 g4 g5 => bad5 20 (by decide) (by decide) (kwL_kw (q20.mpr ⟨g, g4⟩)) g5) (fun g g1 g2 g3 g4 m _ => on 2 (by decide) (by decide) (kwL_kw (q19.mpr ⟨g, g3⟩)) g4 m _) (fun g g1 g2 g3 g4 => bad5 19 (by decide) (by decide) (kwL_kw (q19.mpr ⟨g, g3⟩)) g4) (fun g g1 g2 g3 m _ => on 1 (by decide) (by decide) (kwL_kw (q18.mpr ⟨g, g2⟩)) g3 m _) (fun g g1 g2 g3 => bad5 18 (by decide) (by decide) (kwL_kw (q18.mpr ⟨g, g2⟩)) g3) (fun g g1 g2 m _ => on 0 (by decide) (by decide) (kwL_kw (q17.mpr ⟨g, g1⟩)) g2 m _) (fun g g1 g2 => bad5 17 (by decide) (by decide) (kwL_kw (q17.mpr ⟨g, g1⟩)) g2))
  · have : eQ T n (kB T n p) ≠ 2 := fun c => g (h.1.1.2.2.2.2.1.trans (mQ_1.mpr c))
    have : kwL T n (0, p) = -1 := if_neg this
    omega
  · refine Decidable.byContradiction fun c => ?_
    rcases (show kwL T n (0, p) = 17 ∨ kwL T n (0, p) = 18 ∨ kwL T n (0, p) = 19 ∨ kwL T n (0, p) = 20 ∨ kwL T n (0, p) = 21 by omega) with q | q | q | q | q
    · exact g1 (q17.mp (kw_kwL q (by decide))).2
    · exact g2 (q18.mp (kw_kwL q (by decide))).2
    · exact g3 (q19.mp (kw_kwL q (by decide))).2
    · exact g4 (q20.mp (kw_kwL q (by decide))).2
    · exact g5 (q21.mp (kw_kwL q (by decide))).2
theorem gle_Fl {x : PS} (hx : x.2 ≤ n) : gle n x (gFl T n D x) := by
  have s1 := gle_To (T := T) (ws := dN D 0) hx
  have s2 := gle_tr s1 (gle_Nh (T := T) s1.2.1)
  unfold gFl
  split
  · exact gle_tr s2 (gle_F s2.2.1)
  · exact gle_tr s2 (gle_Nx s2.2.1)
theorem pNR_le {k : Int} {x : PS} (hx : x.2 ≤ n) : gle n x (pNR T n D k x).1 := by
  unfold pNR
  split
  · have s1 := gle_Fl (T := T) (D := D) hx
    exact gle_tr s1 (gle_S (T := T) (c := 59) s1.2.1)
  · split
    · have s1 := gle_To (T := T) (ws := dN D 3) hx
      have s2 := gle_tr s1 (gle_Pl (T := T) (D := D) s1.2.1)
      exact gle_tr s2 (gle_S (T := T) (c := 59) s2.2.1)
    · split
      · have s1 := gle_To (T := T) (ws := dN D 3) hx
        have s2 := gle_tr s1 (gle_To (T := T) (ws := dN D 2) s1.2.1)
        have s3 := gle_tr s2 (gle_Pl (T := T) (D := D) s2.2.1)
        exact gle_tr s3 (gle_S (T := T) (c := 59) s3.2.1)
      · exact gle_S (T := T) (c := 59) hx
theorem pNL_gt {L : NL} (hp : p ≤ n) (hne : eQ T n (kB T n p) ≠ 1) (hy : (pNL T n D (0, p) L).1.1 = 0) : p < (pNL T n D (0, p) L).1.2 := by
  unfold pNL at hy ⊢
  by_cases c1 : kwL T n (0, p) < 17 ∨ 21 < kwL T n (0, p)
  · rw [if_pos c1] at hy
    exact absurd hy (gF_ne (by decide) rfl)
  · rw [if_neg c1] at hy ⊢
    by_cases c2 : 40 ≤ L.length
    · rw [if_pos c2] at hy
      exact absurd hy (gF_ne (by decide) rfl)
    · rw [if_neg c2] at hy ⊢
      exact line_on (k := 5) (by decide) hp hne (a := gNx T n (0, p)) (Or.inl rfl) (fun hx => pNR_le hx) hy
theorem pos_lt (hp : p ≤ n) (hne : eQ T n (kB T n p) ≠ 1) : p < n := by
  have hlt := eQ_lt hp hne
  have hb := kE_bd (T := T) hp
  omega
/-- all lines -/
def qNm (T : Nat → Int) (n : Nat) (a : PS × NL) (r : Zr) : Prop := r.1 = [(a.1.1, 0)] ∧ r.2 172 1 = 0 ∧ (a.1.1 = 0 → r.2 207 0 = (a.2.length : Int) ∧ linM r.2 0 a.2)
theorem laysLines_ok {L : NL} (h : s 207 5 = (L.length : Int)) (hl : linM s 200 L) (ht : s 172 1 = 0) : zC N 1463 [(((172 : Nat) : Int), 0), (5, 0), (0, 0)] s (fun r => r.1 = [] ∧ r.2 172 1 = 0 ∧ r.2 207 0 = (L.length : Int) ∧ linM r.2 0 L) := by
  have loop : ∀ (M k : Nat) (s1 : Zs), k ≤ 40 → (∀ c j, 208 ≤ c → c ≤ 211 → 200 ≤ j → s1 c j = s c j) → (∀ c j, 208 ≤ c → c ≤ 211 → j < k → s1 c j = s c (200 + j)) → s1 207 0 = (L.length : Int) → s1 172 1 = 0 → zT (zE 1463) (Pt PX11_laysLines) M (14, [((172 : Nat) : Int), 5, 0, (k : Int)], [], s1) (fun r => r.1 = [] ∧ r.2 172 1 = 0 ∧ r.2 207 0 = (L.length : Int) ∧ linM r.2 0 L) := by
    intro M
    induction M using Nat.strongRecOn with
    | ind M ih =>
      intro k s1 k40 h1 h2 h3 h4
      refine b_X11_laysLines_14 _ _ _ s1 (fun g => ⟨rfl, h4, h3, hl.1, fun i r hr => ?_⟩) (fun g m hm => ?_)
      · have hi : i < L.length := (List.getElem?_eq_some_iff.mp hr).1
        have h40 := hl.1
        obtain ⟨a1, a2, a3, a4, a5, a6⟩ := hl.2 i r hr
        rw [Nat.zero_add]
        show rowM s1 i r
        exact ⟨by rw [h2 _ _ (by omega) (by omega) (by omega)]; exact a1, a2, a3, fun q => by rw [h2 _ _ (by omega) (by omega) (by omega)]; exact a4 q, fun q => by rw [h2 _ _ (by omega) (by omega) (by omega)]; exact a5 q, fun q => by rw [h2 _ _ (by omega) (by omega) (by omega)]; exact a6 q⟩
      · have i1 : (w32 (w32 (40 * 0) + (k : Int))).toNat = k := by rw [show w32 (40 * 0) = 0 from rfl, w32_id (by omega) (by omega)]; omega
        have i2 : (w32 (w32 (40 * 5) + (k : Int))).toNat = 200 + k := by rw [show w32 (40 * 5) = 200 from rfl, w32_id (by omega) (by omega)]; omega
        rw [i1, i2, w32_id (z := (k : Int) + 1) (by omega) (by omega), show (k : Int) + 1 = ((k + 1 : Nat) : Int) from by omega]
        refine ih m hm (k + 1) _ (by omega) (fun c j a b d => ?_) (fun c j a b d => ?_) ?_ ?_
        · rw [zu_n (by omega), zu_n (by omega), zu_n (by omega), zu_n (by omega)]; exact h1 c j a b d
        · by_cases e : j = k
          · subst e
            have g : ∀ c, 208 ≤ c → c ≤ 211 → s1 c (200 + j) = s c (200 + j) := fun c a b => h1 c _ a b (Nat.le_add_right 200 j)
            rcases (show c = 208 ∨ c = 209 ∨ c = 210 ∨ c = 211 by omega) with rfl | rfl | rfl | rfl
            · rw [zu_n (by omega), zu_n (by omega), zu_n (by omega), zu_eq, g _ (by omega) (by omega)]
            · rw [zu_n (by omega), zu_n (by omega), zu_eq, g _ (by omega) (by omega)]
            · rw [zu_n (by omega), zu_eq, g _ (by omega) (by omega)]
            · rw [zu_eq, g _ (by omega) (by omega)]
          · rw [zu_n (by omega), zu_n (by omega), zu_n (by omega), zu_n (by omega)]; exact h2 c j a b (by omega)
        · rw [zu_n (by omega), zu_n (by omega), zu_n (by omega), zu_n (by omega)]; exact h3
        · rw [zu_n (by omega), zu_n (by omega), zu_n (by omega), zu_n (by omega)]; exact h4
  refine c_X11_laysLines (b_X11_laysLines_0 _ _ _ s (loop N 0 _ (by omega) (fun c j a b d => zu_n (by omega)) (fun c j a b d => absurd d (Nat.not_lt_zero j)) ?_ ?_))
  · show zu s 207 (0 : Int).toNat (s 207 (5 : Int).toNat) 207 0 = _
    exact (zu_eq _ _ _ _).trans h
  · rw [zu_n (by omega)]; exact ht
theorem mLines : ∀ (M f p : Nat) (L : NL) (s : Zs), n - p ≤ f → mNi s T n p D L → s 172 1 = 0 → zT (zE 1484) (Pt PX11_nights) M (16, [((172 : Nat) : Int)], [], s) (qNm T n (pNA T n D f (0, p) L)) := by
  intro M
  induction M using Nat.strongRecOn with
  | ind M ih =>
    intro f p L s hf h ht
    have hq : s 172 6 = mQ (eQ T n (kB T n p)) := h.1.1.2.2.2.2.1
    refine b_X11_nights_16 s (fun g m hm => ?_) (fun g m hm => ?_)
    · have e1 : eQ T n (kB T n p) = 1 := mQ_0.mp (hq.symm.trans g)
      have e : pNA T n D f (0, p) L = ((0, p), L) := by
        cases f with
        | zero => rfl
        | succ f => exact if_neg (fun q => q.2 e1)
      rw [e]
      refine zC_q (laysLines_ok h.2.1 h.2.2 ht) (fun r hr => ?_)
      obtain ⟨r1, s1⟩ := r
      obtain ⟨a, b, c, d⟩ := hr
      have a : r1 = [] := a
      subst a
      exact b_X11_nights_41 s1 ⟨rfl, b, fun _ => ⟨c, d⟩⟩
    · have e1 : eQ T n (kB T n p) ≠ 1 := fun q => g (hq.trans (mQ_0.mpr q))
      have hp : p < n := pos_lt h.1.1.2.1 e1
      obtain ⟨f', rfl⟩ : ∃ f', f = f' + 1 := ⟨f - 1, by omega⟩
      have e : pNA T n D (f' + 1) (0, p) L = pNA T n D f' (pNL T n D (0, p) L).1 (pNL T n D (0, p) L).2 := if_pos ⟨rfl, e1⟩
      rw [e]
      refine mLine h (fun s1 a f1 b => ?_) (fun s1 a f1 h1 => ?_)
      · refine b_X11_nights_27 _ s1 (fun q => absurd rfl q) (fun _ => ?_)
        have e2 : pNA T n D f' (pNL T n D (0, p) L).1 (pNL T n D (0, p) L).2 = ((pNL T n D (0, p) L).1, (pNL T n D (0, p) L).2) := by
          cases f' with
          | zero => rfl
          | succ f => exact if_neg (fun q => a q.1)
        rw [e2]
        have t9 : s1 172 1 = 0 := by rw [f1 172 1 (by omega) (by omega) (by omega)]; exact ht
        exact ⟨by rw [b], t9, fun q => absurd q a⟩
      · refine b_X11_nights_27 _ s1 (fun _ m2 hm2 => ?_) (fun q => absurd q (by decide))
        have ep : ((pNL T n D (0, p) L).1 : PS) = (0, (pNL T n D (0, p) L).1.2) := Prod.ext a rfl
        rw [ep]
        refine ih m2 (by omega) f' _ _ s1 ?_ h1 (by rw [f1 _ _ (by omega) (by omega) (by omega)]; exact ht)
        have := pNL_gt (T := T) (D := D) (L := L) h.1.1.2.1 e1 a
        omega
/-- nights of the model -/
theorem nights_m (h1 : s 172 1 = (n : Int)) (hn : n ≤ 1000) (hT : ∀ i, i < n → s 173 i = T i) (hm : mT s D) (hw : wD D) (hF : wF D) : zC N 1484 [(((172 : Nat) : Int), 0)] s (qNm T n (pNA T n D 1000 (0, 0) [])) := by
  refine c_X11_nights (b_X11_nights_0 s (fun m _ => ?_))
  refine starts_q (n := n) (T := T) (by rw [zu_n (by omega), zu_n (by omega)]; exact h1) hn (fun i hi => by rw [zu_n (by omega), zu_n (by omega)]; exact hT i hi) (fun s1 f1 _ _ t1 st => ?_)
  have o : ∀ c j, c ≠ 172 → c ≠ 207 → s1 c j = s c j := fun c j a b => by rw [f1 c j a, zu_n (by omega), zu_n (by omega)]
  refine mLines m 1000 0 [] s1 (by omega) ⟨⟨st, mT_e (fun c j a b => o c j (by omega) (by omega)) hm, hw, hF, trivial⟩, ?_, by decide, fun i r hr => by simp at hr⟩ t1
  rw [f1 207 5 (by omega), zu_eq]
  rfl
end Zmn
