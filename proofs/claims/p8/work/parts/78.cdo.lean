/-! what a state does: the class -/
theorem b_X6_steals_0 {n : Nat} {Q : Zr → Prop} {t b : Nat} (x2 x3 x4 x5 : Int) (s : Zs) (ht : t = 7 ∨ t = 43) (hb : isSt b = true)
    (h0 : ∀ m, m < n → zC m 775 [(((b : Nat) : Int), 0), (((t : Nat) : Int), 0), (x2, 0)] s (fun p => zT (zE 779) (Pt PX6_steals) m (6, [((b : Nat) : Int), ((t : Nat) : Int), x2, x3, x4, x5], p.1 ++ [], p.2) Q)) : zT (zE 779) (Pt PX6_steals) n (0, [((b : Nat) : Int), ((t : Nat) : Int), x2, x3, x4, x5], [], s) Q := by
  refine tL ((b : Nat) : Int) 0 rfl rfl rfl ?_
  refine tL ((t : Nat) : Int) 0 rfl rfl rfl ?_
  refine tL x2 0 rfl rfl rfl ?_
  exact tCall [(((b : Nat) : Int), 0), (((t : Nat) : Int), 0), (x2, 0)] [] rfl rfl rfl (fun m l => h0 m (Nat.lt_of_lt_of_le l (Nat.le_refl n)))

theorem b_X6_steals_6 {n : Nat} {Q : Zr → Prop} {t b : Nat} (x2 x3 x4 x5 v0 : Int) (s : Zs) (ht : t = 7 ∨ t = 43) (hb : isSt b = true)
    (h0 : ∀ (g1 : v0 = 0), Q ([((-1), 0)], s))
    (h1 : ∀ (g1 : v0 ≠ 0), ∀ m, m < n → zC m 1033 [(((t : Nat) : Int), 0), (zshl 1 x2, 0), (s b 0, 0)] s (fun p => zT (zE 779) (Pt PX6_steals) m (20, [((b : Nat) : Int), ((t : Nat) : Int), x2, x3, x4, x5], p.1 ++ [], p.2) Q)) : zT (zE 779) (Pt PX6_steals) n (6, [((b : Nat) : Int), ((t : Nat) : Int), x2, x3, x4, x5], [(v0, 0)], s) Q := by
  refine tI0 rfl (fun g1 _ l1 => zT_le ?_ (Nat.le_of_lt l1)) (fun g1 _ l1 => zT_le ?_ (Nat.le_of_lt l1))
  · refine tK rfl ?_
    exact tR rfl (h0 g1)
  · refine tL ((t : Nat) : Int) 0 rfl rfl rfl ?_
    refine tK rfl ?_
    refine tL x2 0 rfl rfl rfl ?_
    refine tB (v := zshl 1 x2) rfl rfl ?_
    refine tL ((b : Nat) : Int) 0 rfl rfl rfl ?_
    refine tFv (c := b) (s b 0) 0 rfl rfl rfl rfl rfl ?_
    exact tCall [(((t : Nat) : Int), 0), (zshl 1 x2, 0), (s b 0, 0)] [] rfl rfl rfl (fun m l => h1 g1 m (Nat.lt_of_lt_of_le l (Nat.le_refl n)))

theorem b_X6_steals_20 {n : Nat} {Q : Zr → Prop} {t b : Nat} (x2 x3 x4 x5 v0 : Int) (s : Zs) (ht : t = 7 ∨ t = 43) (hb : isSt b = true)
    (h0 : ∀ (g1 : v0 ≠ 0), ∀ m, m < n → zC m 1536 [(s b 0, 0)] s (fun p => zT (zE 779) (Pt PX6_steals) m (38, [((b : Nat) : Int), ((t : Nat) : Int), x2, x3, x4, x5], p.1 ++ [(s (t + 1) 1, 0)], p.2) Q))
    (h1 : ∀ (g1 : v0 = 0), Q ([((-1), 0)], s)) : zT (zE 779) (Pt PX6_steals) n (20, [((b : Nat) : Int), ((t : Nat) : Int), x2, x3, x4, x5], [(v0, 0)], s) Q := by
  refine tI1 rfl (fun g1 _ l1 => zT_le ?_ (Nat.le_of_lt l1)) (fun g1 _ l1 => zT_le ?_ (Nat.le_of_lt l1))
  · refine tL ((t : Nat) : Int) 0 rfl rfl rfl ?_
    refine tFR (c := t) (t + 1) rfl rfl rfl rfl (zt8_0 ht) ?_
    refine tK rfl ?_
    refine tAv (t + 1) 1 (s (t + 1) 1) 0 rfl rfl rfl (by decide) rfl rfl ?_
    refine tL ((b : Nat) : Int) 0 rfl rfl rfl ?_
    refine tFv (c := b) (s b 0) 0 rfl rfl rfl rfl rfl ?_
    exact tCall [(s b 0, 0)] [(s (t + 1) 1, 0)] rfl rfl rfl (fun m l => h0 g1 m (Nat.lt_of_lt_of_le l (Nat.le_refl n)))
  · refine tK rfl ?_
    exact tR rfl (h1 g1)

theorem b_X6_steals_38 {n : Nat} {Q : Zr → Prop} {t b : Nat} (x2 x3 x4 x5 v0 y0 : Int) (s : Zs) (ht : t = 7 ∨ t = 43) (hb : isSt b = true)
    (h0 : ∀ m, m < n → zC m 521 [((((t + 29) : Nat) : Int), 0), (s (zrho (t + 12) x2.toNat) 2, 0), (s b 4, 0), (w32 (y0 - v0), 0)] s (fun p => zT (zE 779) (Pt PX6_steals) m (60, [((b : Nat) : Int), ((t : Nat) : Int), x2, w32 (y0 - v0), x4, x5], p.1 ++ [], p.2) Q)) : zT (zE 779) (Pt PX6_steals) n (38, [((b : Nat) : Int), ((t : Nat) : Int), x2, x3, x4, x5], [(v0, 0), (y0, 0)], s) Q := by
  refine tB (v := w32 (y0 - v0)) rfl rfl ?_
  refine tS [((b : Nat) : Int), ((t : Nat) : Int), x2, w32 (y0 - v0), x4, x5] rfl rfl ?_
  refine tL ((t : Nat) : Int) 0 rfl rfl rfl ?_
  refine tFR (c := t) (t + 29) rfl rfl rfl rfl (zt8_7 ht) ?_
  refine tL ((t : Nat) : Int) 0 rfl rfl rfl ?_
  refine tFR (c := t) (t + 12) rfl rfl rfl rfl (zt8_1 ht) ?_
  refine tL x2 0 rfl rfl rfl ?_
  refine tAR (zrho (t + 12) x2.toNat) rfl rfl ?_
  refine tK rfl ?_
  refine tAv (zrho (t + 12) x2.toNat) 2 (s (zrho (t + 12) x2.toNat) 2) 0 rfl rfl rfl (by decide) rfl rfl ?_
  refine tL ((b : Nat) : Int) 0 rfl rfl rfl ?_
  refine tFv (c := b) (s b 4) 0 rfl rfl rfl rfl rfl ?_
  refine tL (w32 (y0 - v0)) 0 rfl rfl rfl ?_
  exact tCall [((((t + 29) : Nat) : Int), 0), (s (zrho (t + 12) x2.toNat) 2, 0), (s b 4, 0), (w32 (y0 - v0), 0)] [] rfl rfl rfl (fun m l => h0 m (Nat.lt_of_lt_of_le l (Nat.le_refl n)))

theorem b_X6_steals_60 {n : Nat} {Q : Zr → Prop} {t b : Nat} (x2 x3 x4 x5 v0 : Int) (s : Zs) (ht : t = 7 ∨ t = 43) (hb : isSt b = true)
    (h0 : Q ([(if 0 < if v0 < 999 then v0 else 999 then if v0 < 999 then v0 else 999 else 0, 0)], zu (zu s b 0 (zand (s b 0) (zxor (zshl 1 x2) (-1)))) b 5 (w32 (((zu s b 0 (zand (s b 0) (zxor (zshl 1 x2) (-1)))) b 5) + (if 0 < if v0 < 999 then v0 else 999 then if v0 < 999 then v0 else 999 else 0))))) : zT (zE 779) (Pt PX6_steals) n (60, [((b : Nat) : Int), ((t : Nat) : Int), x2, x3, x4, x5], [(v0, 0)], s) Q := by
  refine tS [((b : Nat) : Int), ((t : Nat) : Int), x2, x3, v0, x5] rfl rfl ?_
  refine tK rfl ?_
  refine tK rfl ?_
  refine tL v0 0 rfl rfl rfl ?_
  refine tE1 rfl rfl ?_
  refine tE0 rfl rfl ?_
  refine tS [((b : Nat) : Int), ((t : Nat) : Int), x2, x3, v0, if 0 < if v0 < 999 then v0 else 999 then if v0 < 999 then v0 else 999 else 0] rfl rfl ?_
  refine tL ((b : Nat) : Int) 0 rfl rfl rfl ?_
  refine tD rfl ?_
  refine tFv (c := b) (s b 0) 0 rfl rfl rfl rfl rfl ?_
  refine tK rfl ?_
  refine tL x2 0 rfl rfl rfl ?_
  refine tB (v := zshl 1 x2) rfl rfl ?_
  refine tK rfl ?_
  refine tB (v := zxor (zshl 1 x2) (-1)) rfl rfl ?_
  refine tB (v := zand (s b 0) (zxor (zshl 1 x2) (-1))) rfl rfl ?_
  refine tPut b rfl rfl ?_
  refine tL ((b : Nat) : Int) 0 rfl rfl rfl ?_
  refine tD rfl ?_
  refine tFv (c := b) ((zu s b 0 (zand (s b 0) (zxor (zshl 1 x2) (-1)))) b 5) 0 rfl rfl rfl rfl rfl ?_
  refine tL (if 0 < if v0 < 999 then v0 else 999 then if v0 < 999 then v0 else 999 else 0) 0 rfl rfl rfl ?_
  refine tB (v := w32 (((zu s b 0 (zand (s b 0) (zxor (zshl 1 x2) (-1)))) b 5) + (if 0 < if v0 < 999 then v0 else 999 then if v0 < 999 then v0 else 999 else 0))) rfl rfl ?_
  refine tPut b rfl rfl ?_
  refine tL (if 0 < if v0 < 999 then v0 else 999 then if v0 < 999 then v0 else 999 else 0) 0 rfl rfl rfl ?_
  exact tR rfl (h0)

theorem c_X6_steals {n : Nat} {Q : Zr → Prop} {a0 a1 a2 : Int} {s : Zs} (h : zT (zE 779) (Pt PX6_steals) n (0, [a0, a1, a2, 0, 0, 0], [], s) Q) : zC n 779 [(a0, 0), (a1, 0), (a2, 0)] s Q := h

theorem b_X6_builds_0 {n : Nat} {Q : Zr → Prop} {t b : Nat} (x2 : Int) (s : Zs) (ht : t = 7 ∨ t = 43) (hb : isSt b = true)
    (h0 : ∀ (g2 : x2 < 0), Q ([((-1), 0)], s))
    (h1 : ∀ (g3 : 0 ≤ x2), ∀ (g4 : s (t + 1) 1 ≤ x2), Q ([((-1), 0)], s))
    (h2 : ∀ (g5 : 0 ≤ x2), ∀ (g6 : x2 < s (t + 1) 1), ∀ m, m < n → zC m 775 [(((b : Nat) : Int), 0), (((t : Nat) : Int), 0), (x2, 0)] s (fun p => zT (zE 769) (Pt PX6_builds) m (15, [((b : Nat) : Int), ((t : Nat) : Int), x2], p.1 ++ [], p.2) Q)) : zT (zE 769) (Pt PX6_builds) n (0, [((b : Nat) : Int), ((t : Nat) : Int), x2], [], s) Q := by
  refine tL ((t : Nat) : Int) 0 rfl rfl rfl ?_
  refine tK rfl ?_
  refine tL x2 0 rfl rfl rfl ?_
  refine tCall [(((t : Nat) : Int), 0), (1, 0), (x2, 0)] [] rfl rfl rfl (fun m1 l1 => c_X8_has (b_X8_has_0 1 x2 s ht ?_ ?_ ?_))
  · intro g2
    show zT (zE 769) (Pt PX6_builds) m1 (6, [((b : Nat) : Int), ((t : Nat) : Int), x2], [(0, 0)], s) Q
    refine tI0 rfl (fun g _ l => zT_le ?_ (Nat.le_of_lt l)) (fun g _ l => (absurd g (by decide)))
    refine tK rfl ?_
    exact tR rfl (h0 g2)
  · intro g3 g4
    show zT (zE 769) (Pt PX6_builds) m1 (6, [((b : Nat) : Int), ((t : Nat) : Int), x2], [(0, 0)], s) Q
    refine tI0 rfl (fun g _ l => zT_le ?_ (Nat.le_of_lt l)) (fun g _ l => (absurd g (by decide)))
    refine tK rfl ?_
    exact tR rfl (h1 g3 g4)
  · intro g5 g6
    show zT (zE 769) (Pt PX6_builds) m1 (6, [((b : Nat) : Int), ((t : Nat) : Int), x2], [(1, 0)], s) Q
    refine tI0 rfl (fun g _ l => (absurd g (by decide))) (fun g _ l => zT_le ?_ (Nat.le_of_lt l))
    refine tL ((b : Nat) : Int) 0 rfl rfl rfl ?_
    refine tL ((t : Nat) : Int) 0 rfl rfl rfl ?_
    refine tL x2 0 rfl rfl rfl ?_
    exact tCall [(((b : Nat) : Int), 0), (((t : Nat) : Int), 0), (x2, 0)] [] rfl rfl rfl (fun m l => h2 g5 g6 m (Nat.lt_of_lt_of_le l (Nat.le_trans (Nat.le_of_lt l1) (Nat.le_refl n))))

theorem b_X6_builds_15 {n : Nat} {Q : Zr → Prop} {t b : Nat} (x2 v0 : Int) (s : Zs) (ht : t = 7 ∨ t = 43) (hb : isSt b = true)
    (h0 : ∀ (g1 : v0 ≠ 0), Q ([((-1), 0)], s))
    (h1 : ∀ (g1 : v0 = 0), ∀ (g2 : s (zrho (t + 12) x2.toNat) 2 ≤ s b 3), Q ([((zu (zu s b 0 (zor (s b 0) (zshl 1 x2))) b 3 (w32 (((zu s b 0 (zor (s b 0) (zshl 1 x2))) b 3) - ((zu s b 0 (zor (s b 0) (zshl 1 x2))) (zrho (t + 12) x2.toNat) 2)))) b 3, 0)], zu (zu s b 0 (zor (s b 0) (zshl 1 x2))) b 3 (w32 (((zu s b 0 (zor (s b 0) (zshl 1 x2))) b 3) - ((zu s b 0 (zor (s b 0) (zshl 1 x2))) (zrho (t + 12) x2.toNat) 2)))))
    (h2 : ∀ (g1 : v0 = 0), ∀ (g2 : s b 3 < s (zrho (t + 12) x2.toNat) 2), Q ([((-1), 0)], s)) : zT (zE 769) (Pt PX6_builds) n (15, [((b : Nat) : Int), ((t : Nat) : Int), x2], [(v0, 0)], s) Q := by
  refine tI1 rfl (fun g1 _ l1 => zT_le ?_ (Nat.le_of_lt l1)) (fun g1 _ l1 => zT_le ?_ (Nat.le_of_lt l1))
  · refine tK rfl ?_
    exact tR rfl (h0 g1)
  · refine tL ((b : Nat) : Int) 0 rfl rfl rfl ?_
    refine tFv (c := b) (s b 3) 0 rfl rfl rfl rfl rfl ?_
    refine tL ((t : Nat) : Int) 0 rfl rfl rfl ?_
    refine tFR (c := t) (t + 12) rfl rfl rfl rfl (zt8_1 ht) ?_
    refine tL x2 0 rfl rfl rfl ?_
    refine tAR (zrho (t + 12) x2.toNat) rfl rfl ?_
    refine tK rfl ?_
    refine tAv (zrho (t + 12) x2.toNat) 2 (s (zrho (t + 12) x2.toNat) 2) 0 rfl rfl rfl (by decide) rfl rfl ?_
    refine tJ3 rfl (fun g2 _ l2 => zT_le ?_ (Nat.le_of_lt l2)) (fun g2 _ l2 => zT_le ?_ (Nat.le_of_lt l2))
    · refine tL ((b : Nat) : Int) 0 rfl rfl rfl ?_
      refine tD rfl ?_
      refine tFv (c := b) (s b 0) 0 rfl rfl rfl rfl rfl ?_
      refine tK rfl ?_
      refine tL x2 0 rfl rfl rfl ?_
      refine tB (v := zshl 1 x2) rfl rfl ?_
      refine tB (v := zor (s b 0) (zshl 1 x2)) rfl rfl ?_
      refine tPut b rfl rfl ?_
      refine tL ((b : Nat) : Int) 0 rfl rfl rfl ?_
      refine tD rfl ?_
      refine tFv (c := b) ((zu s b 0 (zor (s b 0) (zshl 1 x2))) b 3) 0 rfl rfl rfl rfl rfl ?_
      refine tL ((t : Nat) : Int) 0 rfl rfl rfl ?_
      refine tFR (c := t) (t + 12) rfl rfl rfl rfl (zt8_1 ht) ?_
      refine tL x2 0 rfl rfl rfl ?_
      refine tAR (zrho (t + 12) x2.toNat) rfl rfl ?_
      refine tK rfl ?_
      refine tAv (zrho (t + 12) x2.toNat) 2 ((zu s b 0 (zor (s b 0) (zshl 1 x2))) (zrho (t + 12) x2.toNat) 2) 0 rfl rfl rfl (by decide) rfl rfl ?_
      refine tB (v := w32 (((zu s b 0 (zor (s b 0) (zshl 1 x2))) b 3) - ((zu s b 0 (zor (s b 0) (zshl 1 x2))) (zrho (t + 12) x2.toNat) 2))) rfl rfl ?_
      refine tPut b rfl rfl ?_
      refine tL ((b : Nat) : Int) 0 rfl rfl rfl ?_
      refine tFv (c := b) ((zu (zu s b 0 (zor (s b 0) (zshl 1 x2))) b 3 (w32 (((zu s b 0 (zor (s b 0) (zshl 1 x2))) b 3) - ((zu s b 0 (zor (s b 0) (zshl 1 x2))) (zrho (t + 12) x2.toNat) 2)))) b 3) 0 rfl rfl rfl rfl rfl ?_
      exact tR rfl (h1 g1 g2)
    · refine tK rfl ?_
      exact tR rfl (h2 g1 g2)

theorem c_X6_builds {n : Nat} {Q : Zr → Prop} {a0 a1 a2 : Int} {s : Zs} (h : zT (zE 769) (Pt PX6_builds) n (0, [a0, a1, a2], [], s) Q) : zC n 769 [(a0, 0), (a1, 0), (a2, 0)] s Q := h

theorem b_X6_goes_0 {n : Nat} {Q : Zr → Prop} {t b : Nat} (x2 x3 : Int) (s : Zs) (ht : t = 7 ∨ t = 43) (hb : isSt b = true)
    (h0 : ∀ (g2 : x2 < 0), Q ([(0, 0)], s))
    (h1 : ∀ (g3 : 0 ≤ x2), ∀ (g4 : s (t + 1) 3 ≤ x2), Q ([(0, 0)], s))
    (h2 : ∀ (g5 : 0 ≤ x2), ∀ (g6 : x2 < s (t + 1) 3), ∀ m, m < n → zC m 1043 [(((t : Nat) : Int), 0), (s (b + 1) x2.toNat, 0), (x3, 0)] s (fun p => zT (zE 774) (Pt PX6_goes) m (22, [((b : Nat) : Int), ((t : Nat) : Int), x2, x3], p.1 ++ [], p.2) Q)) : zT (zE 774) (Pt PX6_goes) n (0, [((b : Nat) : Int), ((t : Nat) : Int), x2, x3], [], s) Q := by
  refine tL ((t : Nat) : Int) 0 rfl rfl rfl ?_
  refine tK rfl ?_
  refine tL x2 0 rfl rfl rfl ?_
  refine tCall [(((t : Nat) : Int), 0), (3, 0), (x2, 0)] [] rfl rfl rfl (fun m1 l1 => c_X8_has (b_X8_has_0 3 x2 s ht ?_ ?_ ?_))
  · intro g2
    show zT (zE 774) (Pt PX6_goes) m1 (6, [((b : Nat) : Int), ((t : Nat) : Int), x2, x3], [(0, 0)], s) Q
    refine tI1 rfl (fun g _ l => (absurd g (by decide))) (fun g _ l => zT_le ?_ (Nat.le_of_lt l))
    refine tK rfl ?_
    exact tR rfl (h0 g2)
  · intro g3 g4
    show zT (zE 774) (Pt PX6_goes) m1 (6, [((b : Nat) : Int), ((t : Nat) : Int), x2, x3], [(0, 0)], s) Q
    refine tI1 rfl (fun g _ l => (absurd g (by decide))) (fun g _ l => zT_le ?_ (Nat.le_of_lt l))
    refine tK rfl ?_
    exact tR rfl (h1 g3 g4)
  · intro g5 g6
    show zT (zE 774) (Pt PX6_goes) m1 (6, [((b : Nat) : Int), ((t : Nat) : Int), x2, x3], [(1, 0)], s) Q
    refine tI1 rfl (fun g _ l => zT_le ?_ (Nat.le_of_lt l)) (fun g _ l => (absurd g (by decide)))
    refine tL ((t : Nat) : Int) 0 rfl rfl rfl ?_
    refine tL ((b : Nat) : Int) 0 rfl rfl rfl ?_
    refine tFR (c := b) (b + 1) rfl rfl rfl rfl (zs6_1 hb) ?_
    refine tL x2 0 rfl rfl rfl ?_
    refine tAv (b + 1) x2.toNat (s (b + 1) x2.toNat) 0 rfl rfl rfl (by decide) rfl rfl ?_
    refine tL x3 0 rfl rfl rfl ?_
    exact tCall [(((t : Nat) : Int), 0), (s (b + 1) x2.toNat, 0), (x3, 0)] [] rfl rfl rfl (fun m l => h2 g5 g6 m (Nat.lt_of_lt_of_le l (Nat.le_trans (Nat.le_of_lt l1) (Nat.le_refl n))))

theorem b_X6_goes_22 {n : Nat} {Q : Zr → Prop} {t b : Nat} (x2 x3 v0 : Int) (s : Zs) (ht : t = 7 ∨ t = 43) (hb : isSt b = true)
    (h0 : ∀ m, m < n → zC m 778 [(((b : Nat) : Int), 0), (((t : Nat) : Int), 0), (x2, 0), ((-1), 0)] s (fun p => zT (zE 774) (Pt PX6_goes) m (29, [((b : Nat) : Int), ((t : Nat) : Int), x2, x3], p.1 ++ [(v0, 0)], p.2) Q)) : zT (zE 774) (Pt PX6_goes) n (22, [((b : Nat) : Int), ((t : Nat) : Int), x2, x3], [(v0, 0)], s) Q := by
  refine tL ((b : Nat) : Int) 0 rfl rfl rfl ?_
  refine tL ((t : Nat) : Int) 0 rfl rfl rfl ?_
  refine tL x2 0 rfl rfl rfl ?_
  refine tK rfl ?_
  exact tCall [(((b : Nat) : Int), 0), (((t : Nat) : Int), 0), (x2, 0), ((-1), 0)] [(v0, 0)] rfl rfl rfl (fun m l => h0 m (Nat.lt_of_lt_of_le l (Nat.le_refl n)))

theorem b_X6_goes_29 {n : Nat} {Q : Zr → Prop} {t b : Nat} (x2 x3 v0 y0 : Int) (s : Zs) (ht : t = 7 ∨ t = 43) (hb : isSt b = true)
    (h0 : ∀ (g1 : zand y0 (zxor v0 (-1)) = 0), Q ([(1, 0)], zu s (b + 1) x2.toNat x3))
    (h1 : ∀ (g1 : zand y0 (zxor v0 (-1)) ≠ 0), Q ([(0, 0)], s)) : zT (zE 774) (Pt PX6_goes) n (29, [((b : Nat) : Int), ((t : Nat) : Int), x2, x3], [(v0, 0), (y0, 0)], s) Q := by
  refine tK rfl ?_
  refine tB (v := zxor v0 (-1)) rfl rfl ?_
  refine tB (v := zand y0 (zxor v0 (-1))) rfl rfl ?_
  refine tI0 rfl (fun g1 _ l1 => zT_le ?_ (Nat.le_of_lt l1)) (fun g1 _ l1 => zT_le ?_ (Nat.le_of_lt l1))
  · refine tL ((b : Nat) : Int) 0 rfl rfl rfl ?_
    refine tFR (c := b) (b + 1) rfl rfl rfl rfl (zs6_1 hb) ?_
    refine tL x2 0 rfl rfl rfl ?_
    refine tL x3 0 rfl rfl rfl ?_
    refine tAS (b + 1) x2.toNat rfl rfl rfl (by decide) ?_
    refine tK rfl ?_
    exact tR rfl (h0 g1)
  · refine tK rfl ?_
    exact tR rfl (h1 g1)

theorem c_X6_goes {n : Nat} {Q : Zr → Prop} {a0 a1 a2 a3 : Int} {s : Zs} (h : zT (zE 774) (Pt PX6_goes) n (0, [a0, a1, a2, a3], [], s) Q) : zC n 774 [(a0, 0), (a1, 0), (a2, 0), (a3, 0)] s Q := h

theorem b_X6_carries_0 {n : Nat} {Q : Zr → Prop} {t b : Nat} (x2 x3 x4 : Int) (s : Zs) (ht : t = 7 ∨ t = 43) (hb : isSt b = true)
    (h0 : ∀ (g2 : x2 < 0), Q ([(0, 0)], s))
    (h1 : ∀ (g3 : 0 ≤ x2), ∀ (g4 : s (t + 1) 3 ≤ x2), Q ([(0, 0)], s))
    (h2 : ∀ (g5 : 0 ≤ x2), ∀ (g6 : x2 < s (t + 1) 3), ∀ (g8 : x3 < 0), Q ([(0, 0)], s))
    (h3 : ∀ (g5 : 0 ≤ x2), ∀ (g6 : x2 < s (t + 1) 3), ∀ (g9 : 0 ≤ x3), ∀ (g10 : s (t + 1) 2 ≤ x3), Q ([(0, 0)], s))
    (h4 : ∀ (g5 : 0 ≤ x2), ∀ (g6 : x2 < s (t + 1) 3), ∀ (g11 : 0 ≤ x3), ∀ (g12 : x3 < s (t + 1) 2), ∀ (g13 : s (b + 2) x3.toNat = s (b + 1) x2.toNat), ∀ m, m < n → zC m 1043 [(((t : Nat) : Int), 0), (s (b + 1) x2.toNat, 0), (x4, 0)] s (fun p => zT (zE 770) (Pt PX6_carries) m (47, [((b : Nat) : Int), ((t : Nat) : Int), x2, x3, x4], p.1 ++ [], p.2) Q))
    (h5 : ∀ (g5 : 0 ≤ x2), ∀ (g6 : x2 < s (t + 1) 3), ∀ (g11 : 0 ≤ x3), ∀ (g12 : x3 < s (t + 1) 2), ∀ (g13 : s (b + 2) x3.toNat ≠ s (b + 1) x2.toNat), Q ([(0, 0)], s)) : zT (zE 770) (Pt PX6_carries) n (0, [((b : Nat) : Int), ((t : Nat) : Int), x2, x3, x4], [], s) Q := by
  refine tL ((t : Nat) : Int) 0 rfl rfl rfl ?_
  refine tK rfl ?_
  refine tL x2 0 rfl rfl rfl ?_
  refine tCall [(((t : Nat) : Int), 0), (3, 0), (x2, 0)] [] rfl rfl rfl (fun m1 l1 => c_X8_has (b_X8_has_0 3 x2 s ht ?_ ?_ ?_))
  · intro g2
    show zT (zE 770) (Pt PX6_carries) m1 (6, [((b : Nat) : Int), ((t : Nat) : Int), x2, x3, x4], [(0, 0)], s) Q
    refine tI0 rfl (fun g _ l => zT_le ?_ (Nat.le_of_lt l)) (fun g _ l => (absurd g (by decide)))
    refine tK rfl ?_
    exact tR rfl (h0 g2)
  · intro g3 g4
    show zT (zE 770) (Pt PX6_carries) m1 (6, [((b : Nat) : Int), ((t : Nat) : Int), x2, x3, x4], [(0, 0)], s) Q
    refine tI0 rfl (fun g _ l => zT_le ?_ (Nat.le_of_lt l)) (fun g _ l => (absurd g (by decide)))
    refine tK rfl ?_
    exact tR rfl (h1 g3 g4)
  · intro g5 g6
    show zT (zE 770) (Pt PX6_carries) m1 (6, [((b : Nat) : Int), ((t : Nat) : Int), x2, x3, x4], [(1, 0)], s) Q
    refine tI0 rfl (fun g _ l => (absurd g (by decide))) (fun g _ l => zT_le ?_ (Nat.le_of_lt l))
    refine tL ((t : Nat) : Int) 0 rfl rfl rfl ?_
    refine tK rfl ?_
    refine tL x3 0 rfl rfl rfl ?_
    refine tCall [(((t : Nat) : Int), 0), (2, 0), (x3, 0)] [] rfl rfl rfl (fun m7 l7 => c_X8_has (b_X8_has_0 2 x3 s ht ?_ ?_ ?_))
    · intro g8
      show zT (zE 770) (Pt PX6_carries) m7 (15, [((b : Nat) : Int), ((t : Nat) : Int), x2, x3, x4], [(0, 0)], s) Q
      refine tI0 rfl (fun g _ l => zT_le ?_ (Nat.le_of_lt l)) (fun g _ l => (absurd g (by decide)))
      refine tK rfl ?_
      exact tR rfl (h2 g5 g6 g8)
    · intro g9 g10
      show zT (zE 770) (Pt PX6_carries) m7 (15, [((b : Nat) : Int), ((t : Nat) : Int), x2, x3, x4], [(0, 0)], s) Q
      refine tI0 rfl (fun g _ l => zT_le ?_ (Nat.le_of_lt l)) (fun g _ l => (absurd g (by decide)))
      refine tK rfl ?_
      exact tR rfl (h3 g5 g6 g9 g10)
    · intro g11 g12
      show zT (zE 770) (Pt PX6_carries) m7 (15, [((b : Nat) : Int), ((t : Nat) : Int), x2, x3, x4], [(1, 0)], s) Q
      refine tI0 rfl (fun g _ l => (absurd g (by decide))) (fun g _ l => zT_le ?_ (Nat.le_of_lt l))
      refine tL ((b : Nat) : Int) 0 rfl rfl rfl ?_
      refine tFR (c := b) (b + 2) rfl rfl rfl rfl (zs6_2 hb) ?_
      refine tL x3 0 rfl rfl rfl ?_
      refine tAv (b + 2) x3.toNat (s (b + 2) x3.toNat) 0 rfl rfl rfl (by decide) rfl rfl ?_
      refine tL ((b : Nat) : Int) 0 rfl rfl rfl ?_
      refine tFR (c := b) (b + 1) rfl rfl rfl rfl (zs6_1 hb) ?_
      refine tL x2 0 rfl rfl rfl ?_
      refine tAv (b + 1) x2.toNat (s (b + 1) x2.toNat) 0 rfl rfl rfl (by decide) rfl rfl ?_
      refine tJ0 rfl (fun g13 _ l13 => zT_le ?_ (Nat.le_of_lt l13)) (fun g13 _ l13 => zT_le ?_ (Nat.le_of_lt l13))
      · refine tL ((t : Nat) : Int) 0 rfl rfl rfl ?_
        refine tL ((b : Nat) : Int) 0 rfl rfl rfl ?_
        refine tFR (c := b) (b + 1) rfl rfl rfl rfl (zs6_1 hb) ?_
        refine tL x2 0 rfl rfl rfl ?_
        refine tAv (b + 1) x2.toNat (s (b + 1) x2.toNat) 0 rfl rfl rfl (by decide) rfl rfl ?_
        refine tL x4 0 rfl rfl rfl ?_
        exact tCall [(((t : Nat) : Int), 0), (s (b + 1) x2.toNat, 0), (x4, 0)] [] rfl rfl rfl (fun m l => h4 g5 g6 g11 g12 g13 m (Nat.lt_of_lt_of_le l (Nat.le_trans (Nat.le_of_lt l7) (Nat.le_trans (Nat.le_of_lt l1) (Nat.le_refl n)))))
      · refine tK rfl ?_
        exact tR rfl (h5 g5 g6 g11 g12 g13)

theorem b_X6_carries_47 {n : Nat} {Q : Zr → Prop} {t b : Nat} (x2 x3 x4 v0 : Int) (s : Zs) (ht : t = 7 ∨ t = 43) (hb : isSt b = true)
    (h0 : ∀ m, m < n → zC m 778 [(((b : Nat) : Int), 0), (((t : Nat) : Int), 0), (x2, 0), (x3, 0)] s (fun p => zT (zE 770) (Pt PX6_carries) m (54, [((b : Nat) : Int), ((t : Nat) : Int), x2, x3, x4], p.1 ++ [(v0, 0)], p.2) Q)) : zT (zE 770) (Pt PX6_carries) n (47, [((b : Nat) : Int), ((t : Nat) : Int), x2, x3, x4], [(v0, 0)], s) Q := by
  refine tL ((b : Nat) : Int) 0 rfl rfl rfl ?_
  refine tL ((t : Nat) : Int) 0 rfl rfl rfl ?_
  refine tL x2 0 rfl rfl rfl ?_
  refine tL x3 0 rfl rfl rfl ?_
  exact tCall [(((b : Nat) : Int), 0), (((t : Nat) : Int), 0), (x2, 0), (x3, 0)] [(v0, 0)] rfl rfl rfl (fun m l => h0 m (Nat.lt_of_lt_of_le l (Nat.le_refl n)))

theorem b_X6_carries_54 {n : Nat} {Q : Zr → Prop} {t b : Nat} (x2 x3 x4 v0 y0 : Int) (s : Zs) (ht : t = 7 ∨ t = 43) (hb : isSt b = true)
    (h0 : ∀ (g1 : zand y0 (zxor v0 (-1)) = 0), Q ([(1, 0)], zu (zu s (b + 1) x2.toNat x4) (b + 2) x3.toNat x4))
    (h1 : ∀ (g1 : zand y0 (zxor v0 (-1)) ≠ 0), Q ([(0, 0)], s)) : zT (zE 770) (Pt PX6_carries) n (54, [((b : Nat) : Int), ((t : Nat) : Int), x2, x3, x4], [(v0, 0), (y0, 0)], s) Q := by
  refine tK rfl ?_
  refine tB (v := zxor v0 (-1)) rfl rfl ?_
  refine tB (v := zand y0 (zxor v0 (-1))) rfl rfl ?_
  refine tI0 rfl (fun g1 _ l1 => zT_le ?_ (Nat.le_of_lt l1)) (fun g1 _ l1 => zT_le ?_ (Nat.le_of_lt l1))
  · refine tL ((b : Nat) : Int) 0 rfl rfl rfl ?_
    refine tFR (c := b) (b + 1) rfl rfl rfl rfl (zs6_1 hb) ?_
    refine tL x2 0 rfl rfl rfl ?_
    refine tL x4 0 rfl rfl rfl ?_
    refine tAS (b + 1) x2.toNat rfl rfl rfl (by decide) ?_
    refine tL ((b : Nat) : Int) 0 rfl rfl rfl ?_
    refine tFR (c := b) (b + 2) rfl rfl rfl rfl (zs6_2 hb) ?_
    refine tL x3 0 rfl rfl rfl ?_
    refine tL x4 0 rfl rfl rfl ?_
    refine tAS (b + 2) x3.toNat rfl rfl rfl (by decide) ?_
    refine tK rfl ?_
    exact tR rfl (h0 g1)
  · refine tK rfl ?_
    exact tR rfl (h1 g1)

theorem c_X6_carries {n : Nat} {Q : Zr → Prop} {a0 a1 a2 a3 a4 : Int} {s : Zs} (h : zT (zE 770) (Pt PX6_carries) n (0, [a0, a1, a2, a3, a4], [], s) Q) : zC n 770 [(a0, 0), (a1, 0), (a2, 0), (a3, 0), (a4, 0)] s Q := h

theorem b_X6_copy_0 {n : Nat} {Q : Zr → Prop} {t b d : Nat} (s : Zs) (ht : t = 7 ∨ t = 43) (hb : isSt b = true) (hd : isSt d = true)
    (h0 : Q ([], zu (zu (zu (zcpy (zcpy (zu s b 0 (s d 0)) (d + 1) (b + 1) ((zq_len (b + 1)).toNat)) (d + 2) (b + 2) ((zq_len (b + 2)).toNat)) b 3 ((zcpy (zcpy (zu s b 0 (s d 0)) (d + 1) (b + 1) ((zq_len (b + 1)).toNat)) (d + 2) (b + 2) ((zq_len (b + 2)).toNat)) d 3)) b 4 ((zu (zcpy (zcpy (zu s b 0 (s d 0)) (d + 1) (b + 1) ((zq_len (b + 1)).toNat)) (d + 2) (b + 2) ((zq_len (b + 2)).toNat)) b 3 ((zcpy (zcpy (zu s b 0 (s d 0)) (d + 1) (b + 1) ((zq_len (b + 1)).toNat)) (d + 2) (b + 2) ((zq_len (b + 2)).toNat)) d 3)) d 4)) b 5 ((zu (zu (zcpy (zcpy (zu s b 0 (s d 0)) (d + 1) (b + 1) ((zq_len (b + 1)).toNat)) (d + 2) (b + 2) ((zq_len (b + 2)).toNat)) b 3 ((zcpy (zcpy (zu s b 0 (s d 0)) (d + 1) (b + 1) ((zq_len (b + 1)).toNat)) (d + 2) (b + 2) ((zq_len (b + 2)).toNat)) d 3)) b 4 ((zu (zcpy (zcpy (zu s b 0 (s d 0)) (d + 1) (b + 1) ((zq_len (b + 1)).toNat)) (d + 2) (b + 2) ((zq_len (b + 2)).toNat)) b 3 ((zcpy (zcpy (zu s b 0 (s d 0)) (d + 1) (b + 1) ((zq_len (b + 1)).toNat)) (d + 2) (b + 2) ((zq_len (b + 2)).toNat)) d 3)) d 4)) d 5))) : zT (zE 772) (Pt PX6_copy) n (0, [((b : Nat) : Int), ((d : Nat) : Int)], [], s) Q := by
  refine tL ((b : Nat) : Int) 0 rfl rfl rfl ?_
  refine tL ((d : Nat) : Int) 0 rfl rfl rfl ?_
  refine tFv (c := d) (s d 0) 0 rfl rfl rfl rfl rfl ?_
  refine tPut b rfl rfl ?_
  refine tL ((d : Nat) : Int) 0 rfl rfl rfl ?_
  refine tFR (c := d) (d + 1) rfl rfl rfl rfl (zs6_1 hd) ?_
  refine tK rfl ?_
  refine tL ((b : Nat) : Int) 0 rfl rfl rfl ?_
  refine tFR (c := b) (b + 1) rfl rfl rfl rfl (zs6_1 hb) ?_
  refine tK rfl ?_
  refine tL ((b : Nat) : Int) 0 rfl rfl rfl ?_
  refine tFR (c := b) (b + 1) rfl rfl rfl rfl (zs6_1 hb) ?_
  refine tN (zq_len (b + 1)) rfl rfl ?_
  refine tE5 (b + 1) (d + 1) ((zq_len (b + 1)).toNat) rfl rfl rfl rfl rfl ?_
  refine tL ((d : Nat) : Int) 0 rfl rfl rfl ?_
  refine tFR (c := d) (d + 2) rfl rfl rfl rfl (zs6_2 hd) ?_
  refine tK rfl ?_
  refine tL ((b : Nat) : Int) 0 rfl rfl rfl ?_
  refine tFR (c := b) (b + 2) rfl rfl rfl rfl (zs6_2 hb) ?_
  refine tK rfl ?_
  refine tL ((b : Nat) : Int) 0 rfl rfl rfl ?_
  refine tFR (c := b) (b + 2) rfl rfl rfl rfl (zs6_2 hb) ?_
  refine tN (zq_len (b + 2)) rfl rfl ?_
  refine tE5 (b + 2) (d + 2) ((zq_len (b + 2)).toNat) rfl rfl rfl rfl rfl ?_
  refine tL ((b : Nat) : Int) 0 rfl rfl rfl ?_
  refine tL ((d : Nat) : Int) 0 rfl rfl rfl ?_
  refine tFv (c := d) ((zcpy (zcpy (zu s b 0 (s d 0)) (d + 1) (b + 1) ((zq_len (b + 1)).toNat)) (d + 2) (b + 2) ((zq_len (b + 2)).toNat)) d 3) 0 rfl rfl rfl rfl rfl ?_
  refine tPut b rfl rfl ?_
  refine tL ((b : Nat) : Int) 0 rfl rfl rfl ?_
  refine tL ((d : Nat) : Int) 0 rfl rfl rfl ?_
  refine tFv (c := d) ((zu (zcpy (zcpy (zu s b 0 (s d 0)) (d + 1) (b + 1) ((zq_len (b + 1)).toNat)) (d + 2) (b + 2) ((zq_len (b + 2)).toNat)) b 3 ((zcpy (zcpy (zu s b 0 (s d 0)) (d + 1) (b + 1) ((zq_len (b + 1)).toNat)) (d + 2) (b + 2) ((zq_len (b + 2)).toNat)) d 3)) d 4) 0 rfl rfl rfl rfl rfl ?_
  refine tPut b rfl rfl ?_
  refine tL ((b : Nat) : Int) 0 rfl rfl rfl ?_
  refine tL ((d : Nat) : Int) 0 rfl rfl rfl ?_
  refine tFv (c := d) ((zu (zu (zcpy (zcpy (zu s b 0 (s d 0)) (d + 1) (b + 1) ((zq_len (b + 1)).toNat)) (d + 2) (b + 2) ((zq_len (b + 2)).toNat)) b 3 ((zcpy (zcpy (zu s b 0 (s d 0)) (d + 1) (b + 1) ((zq_len (b + 1)).toNat)) (d + 2) (b + 2) ((zq_len (b + 2)).toNat)) d 3)) b 4 ((zu (zcpy (zcpy (zu s b 0 (s d 0)) (d + 1) (b + 1) ((zq_len (b + 1)).toNat)) (d + 2) (b + 2) ((zq_len (b + 2)).toNat)) b 3 ((zcpy (zcpy (zu s b 0 (s d 0)) (d + 1) (b + 1) ((zq_len (b + 1)).toNat)) (d + 2) (b + 2) ((zq_len (b + 2)).toNat)) d 3)) d 4)) d 5) 0 rfl rfl rfl rfl rfl ?_
  refine tPut b rfl rfl ?_
  exact tR rfl (h0)

theorem c_X6_copy {n : Nat} {Q : Zr → Prop} {a0 a1 : Int} {s : Zs} (h : zT (zE 772) (Pt PX6_copy) n (0, [a0, a1], [], s) Q) : zC n 772 [(a0, 0), (a1, 0)] s Q := h

theorem b_X4_joined_0 {n : Nat} {Q : Zr → Prop} (x0 x1 x2 : Int) (s : Zs) 
    (h0 : ∀ (g1_0 : x0 = (-10)), Q ([(w32 (x1 - x2), 0)], s))
    (h1 : ∀ (g1_1 : x0 = (-9)), Q ([(w32 (x1 + x2), 0)], s))
    (h2 : ∀ (g1_2 : x0 = (-8)), ∀ (g2 : x1 ≠ x2), Q ([(0, 0)], s))
    (h3 : ∀ (g1_2 : x0 = (-8)), ∀ (g2 : x1 = x2), Q ([(1, 0)], s))
    (h4 : ∀ (g1_3 : x0 = (-7)), ∀ (g3 : x2 ≤ x1), Q ([(0, 0)], s))
    (h5 : ∀ (g1_3 : x0 = (-7)), ∀ (g3 : x1 < x2), Q ([(1, 0)], s))
    (h6 : ∀ (g1_4 : x0 = (-6)), ∀ (g4 : x1 ≠ 0), Q ([(1, 0)], s))
    (h7 : ∀ (g1_4 : x0 = (-6)), ∀ (g4 : x1 = 0), ∀ (g5 : x2 = 0), Q ([(0, 0)], s))
    (h8 : ∀ (g1_4 : x0 = (-6)), ∀ (g4 : x1 = 0), ∀ (g5 : x2 ≠ 0), Q ([(1, 0)], s))
    (h9 : ∀ (g1_5 : x0 = (-5)), ∀ (g6 : x1 = 0), Q ([(0, 0)], s))
    (h10 : ∀ (g1_5 : x0 = (-5)), ∀ (g6 : x1 ≠ 0), ∀ (g7 : x2 = 0), Q ([(0, 0)], s))
    (h11 : ∀ (g1_5 : x0 = (-5)), ∀ (g6 : x1 ≠ 0), ∀ (g7 : x2 ≠ 0), Q ([(1, 0)], s))
    (h12 : ∀ (g1_0 : ¬ x0 = (-10)), ∀ (g1_1 : ¬ x0 = (-9)), ∀ (g1_2 : ¬ x0 = (-8)), ∀ (g1_3 : ¬ x0 = (-7)), ∀ (g1_4 : ¬ x0 = (-6)), ∀ (g1_5 : ¬ x0 = (-5)), Q ([(w32 (x1 * x2), 0)], s)) : zT (zE 518) (Pt PX4_joined) n (0, [x0, x1, x2], [], s) Q := by
  refine tL x0 0 rfl rfl rfl ?_
  by_cases g1_0 : x0 = (-10)
  · refine zW_d (t := 94) rfl (fun go => by rw [g1_0]; rfl) (fun _ l => zT_le ?_ (Nat.le_of_lt l))
    refine tL x1 0 rfl rfl rfl ?_
    refine tL x2 0 rfl rfl rfl ?_
    refine tB (v := w32 (x1 - x2)) rfl rfl ?_
    exact tR rfl (h0 g1_0)
  by_cases g1_1 : x0 = (-9)
  · refine zW_d (t := 90) rfl (fun go => by rw [g1_1]; rfl) (fun _ l => zT_le ?_ (Nat.le_of_lt l))
    refine tL x1 0 rfl rfl rfl ?_
    refine tL x2 0 rfl rfl rfl ?_
    refine tB (v := w32 (x1 + x2)) rfl rfl ?_
    exact tR rfl (h1 g1_1)
  by_cases g1_2 : x0 = (-8)
  · refine zW_d (t := 79) rfl (fun go => by rw [g1_2]; rfl) (fun _ l => zT_le ?_ (Nat.le_of_lt l))
    refine tL x1 0 rfl rfl rfl ?_
    refine tL x2 0 rfl rfl rfl ?_
    refine tJ1 rfl (fun g2 _ l2 => zT_le ?_ (Nat.le_of_lt l2)) (fun g2 _ l2 => zT_le ?_ (Nat.le_of_lt l2))
    · refine tK rfl ?_
      exact tR rfl (h2 g1_2 g2)
    · refine tK rfl ?_
      refine tG rfl ?_
      exact tR rfl (h3 g1_2 g2)
  by_cases g1_3 : x0 = (-7)
  · refine zW_d (t := 68) rfl (fun go => by rw [g1_3]; rfl) (fun _ l => zT_le ?_ (Nat.le_of_lt l))
    refine tL x1 0 rfl rfl rfl ?_
    refine tL x2 0 rfl rfl rfl ?_
    refine tJ3 rfl (fun g3 _ l3 => zT_le ?_ (Nat.le_of_lt l3)) (fun g3 _ l3 => zT_le ?_ (Nat.le_of_lt l3))
    · refine tK rfl ?_
      exact tR rfl (h4 g1_3 g3)
    · refine tK rfl ?_
      refine tG rfl ?_
      exact tR rfl (h5 g1_3 g3)
  by_cases g1_4 : x0 = (-6)
  · refine zW_d (t := 54) rfl (fun go => by rw [g1_4]; rfl) (fun _ l => zT_le ?_ (Nat.le_of_lt l))
    refine tL x1 0 rfl rfl rfl ?_
    refine tI1 rfl (fun g4 _ l4 => zT_le ?_ (Nat.le_of_lt l4)) (fun g4 _ l4 => zT_le ?_ (Nat.le_of_lt l4))
    · refine tK rfl ?_
      refine tG rfl ?_
      exact tR rfl (h6 g1_4 g4)
    · refine tL x2 0 rfl rfl rfl ?_
      refine tI0 rfl (fun g5 _ l5 => zT_le ?_ (Nat.le_of_lt l5)) (fun g5 _ l5 => zT_le ?_ (Nat.le_of_lt l5))
      · refine tK rfl ?_
        exact tR rfl (h7 g1_4 g4 g5)
      · refine tK rfl ?_
        refine tG rfl ?_
        exact tR rfl (h8 g1_4 g4 g5)
  by_cases g1_5 : x0 = (-5)
  · refine zW_d (t := 40) rfl (fun go => by rw [g1_5]; rfl) (fun _ l => zT_le ?_ (Nat.le_of_lt l))
    refine tL x1 0 rfl rfl rfl ?_
    refine tI0 rfl (fun g6 _ l6 => zT_le ?_ (Nat.le_of_lt l6)) (fun g6 _ l6 => zT_le ?_ (Nat.le_of_lt l6))
    · refine tK rfl ?_
      exact tR rfl (h9 g1_5 g6)
    · refine tL x2 0 rfl rfl rfl ?_
      refine tI0 rfl (fun g7 _ l7 => zT_le ?_ (Nat.le_of_lt l7)) (fun g7 _ l7 => zT_le ?_ (Nat.le_of_lt l7))
      · refine tK rfl ?_
        exact tR rfl (h10 g1_5 g6 g7)
      · refine tK rfl ?_
        refine tG rfl ?_
        exact tR rfl (h11 g1_5 g6 g7)
  refine zW_d (t := 98) rfl (fun go => zsw_out _ _ (by simp only [List.length_cons, List.length_nil]; omega)) (fun _ l => zT_le ?_ (Nat.le_of_lt l))
  refine tL x1 0 rfl rfl rfl ?_
  refine tL x2 0 rfl rfl rfl ?_
  refine tM (v := w32 (x1 * x2)) rfl rfl ?_
  exact tR rfl (h12 g1_0 g1_1 g1_2 g1_3 g1_4 g1_5)

theorem c_X4_joined {n : Nat} {Q : Zr → Prop} {a0 a1 a2 : Int} {s : Zs} (h : zT (zE 518) (Pt PX4_joined) n (0, [a0, a1, a2], [], s) Q) : zC n 518 [(a0, 0), (a1, 0), (a2, 0)] s Q := h

theorem b_J6_bitCount_0f7a4_0 {n : Nat} {Q : Zr → Prop} (x0 : Int) (s : Zs) 
    (h0 : Q ([(zand (w32 ((w32 ((zand (w32 ((w32 ((zand (w32 (x0 - (zand (zushr x0 1) 1431655765))) 858993459) + (zand (zushr (w32 (x0 - (zand (zushr x0 1) 1431655765))) 2) 858993459))) + (zushr (w32 ((zand (w32 (x0 - (zand (zushr x0 1) 1431655765))) 858993459) + (zand (zushr (w32 (x0 - (zand (zushr x0 1) 1431655765))) 2) 858993459))) 4))) 252645135) + (zushr (zand (w32 ((w32 ((zand (w32 (x0 - (zand (zushr x0 1) 1431655765))) 858993459) + (zand (zushr (w32 (x0 - (zand (zushr x0 1) 1431655765))) 2) 858993459))) + (zushr (w32 ((zand (w32 (x0 - (zand (zushr x0 1) 1431655765))) 858993459) + (zand (zushr (w32 (x0 - (zand (zushr x0 1) 1431655765))) 2) 858993459))) 4))) 252645135) 8))) + (zushr (w32 ((zand (w32 ((w32 ((zand (w32 (x0 - (zand (zushr x0 1) 1431655765))) 858993459) + (zand (zushr (w32 (x0 - (zand (zushr x0 1) 1431655765))) 2) 858993459))) + (zushr (w32 ((zand (w32 (x0 - (zand (zushr x0 1) 1431655765))) 858993459) + (zand (zushr (w32 (x0 - (zand (zushr x0 1) 1431655765))) 2) 858993459))) 4))) 252645135) + (zushr (zand (w32 ((w32 ((zand (w32 (x0 - (zand (zushr x0 1) 1431655765))) 858993459) + (zand (zushr (w32 (x0 - (zand (zushr x0 1) 1431655765))) 2) 858993459))) + (zushr (w32 ((zand (w32 (x0 - (zand (zushr x0 1) 1431655765))) 858993459) + (zand (zushr (w32 (x0 - (zand (zushr x0 1) 1431655765))) 2) 858993459))) 4))) 252645135) 8))) 16))) 63, 0)], s)) : zT (zE 1536) (Pt PJ6_bitCount_0f7a4) n (0, [x0], [], s) Q := by
  refine tL x0 0 rfl rfl rfl ?_
  refine tL x0 0 rfl rfl rfl ?_
  refine tK rfl ?_
  refine tB (v := zushr x0 1) rfl rfl ?_
  refine tK rfl ?_
  refine tB (v := zand (zushr x0 1) 1431655765) rfl rfl ?_
  refine tB (v := w32 (x0 - (zand (zushr x0 1) 1431655765))) rfl rfl ?_
  refine tS [w32 (x0 - (zand (zushr x0 1) 1431655765))] rfl rfl ?_
  refine tL (w32 (x0 - (zand (zushr x0 1) 1431655765))) 0 rfl rfl rfl ?_
  refine tK rfl ?_
  refine tB (v := zand (w32 (x0 - (zand (zushr x0 1) 1431655765))) 858993459) rfl rfl ?_
  refine tL (w32 (x0 - (zand (zushr x0 1) 1431655765))) 0 rfl rfl rfl ?_
  refine tK rfl ?_
  refine tB (v := zushr (w32 (x0 - (zand (zushr x0 1) 1431655765))) 2) rfl rfl ?_
  refine tK rfl ?_
  refine tB (v := zand (zushr (w32 (x0 - (zand (zushr x0 1) 1431655765))) 2) 858993459) rfl rfl ?_
  refine tB (v := w32 ((zand (w32 (x0 - (zand (zushr x0 1) 1431655765))) 858993459) + (zand (zushr (w32 (x0 - (zand (zushr x0 1) 1431655765))) 2) 858993459))) rfl rfl ?_
  refine tS [w32 ((zand (w32 (x0 - (zand (zushr x0 1) 1431655765))) 858993459) + (zand (zushr (w32 (x0 - (zand (zushr x0 1) 1431655765))) 2) 858993459))] rfl rfl ?_
  refine tL (w32 ((zand (w32 (x0 - (zand (zushr x0 1) 1431655765))) 858993459) + (zand (zushr (w32 (x0 - (zand (zushr x0 1) 1431655765))) 2) 858993459))) 0 rfl rfl rfl ?_
  refine tL (w32 ((zand (w32 (x0 - (zand (zushr x0 1) 1431655765))) 858993459) + (zand (zushr (w32 (x0 - (zand (zushr x0 1) 1431655765))) 2) 858993459))) 0 rfl rfl rfl ?_
  refine tK rfl ?_
  refine tB (v := zushr (w32 ((zand (w32 (x0 - (zand (zushr x0 1) 1431655765))) 858993459) + (zand (zushr (w32 (x0 - (zand (zushr x0 1) 1431655765))) 2) 858993459))) 4) rfl rfl ?_
  refine tB (v := w32 ((w32 ((zand (w32 (x0 - (zand (zushr x0 1) 1431655765))) 858993459) + (zand (zushr (w32 (x0 - (zand (zushr x0 1) 1431655765))) 2) 858993459))) + (zushr (w32 ((zand (w32 (x0 - (zand (zushr x0 1) 1431655765))) 858993459) + (zand (zushr (w32 (x0 - (zand (zushr x0 1) 1431655765))) 2) 858993459))) 4))) rfl rfl ?_
  refine tK rfl ?_
  refine tB (v := zand (w32 ((w32 ((zand (w32 (x0 - (zand (zushr x0 1) 1431655765))) 858993459) + (zand (zushr (w32 (x0 - (zand (zushr x0 1) 1431655765))) 2) 858993459))) + (zushr (w32 ((zand (w32 (x0 - (zand (zushr x0 1) 1431655765))) 858993459) + (zand (zushr (w32 (x0 - (zand (zushr x0 1) 1431655765))) 2) 858993459))) 4))) 252645135) rfl rfl ?_
  refine tS [zand (w32 ((w32 ((zand (w32 (x0 - (zand (zushr x0 1) 1431655765))) 858993459) + (zand (zushr (w32 (x0 - (zand (zushr x0 1) 1431655765))) 2) 858993459))) + (zushr (w32 ((zand (w32 (x0 - (zand (zushr x0 1) 1431655765))) 858993459) + (zand (zushr (w32 (x0 - (zand (zushr x0 1) 1431655765))) 2) 858993459))) 4))) 252645135] rfl rfl ?_
  refine tL (zand (w32 ((w32 ((zand (w32 (x0 - (zand (zushr x0 1) 1431655765))) 858993459) + (zand (zushr (w32 (x0 - (zand (zushr x0 1) 1431655765))) 2) 858993459))) + (zushr (w32 ((zand (w32 (x0 - (zand (zushr x0 1) 1431655765))) 858993459) + (zand (zushr (w32 (x0 - (zand (zushr x0 1) 1431655765))) 2) 858993459))) 4))) 252645135) 0 rfl rfl rfl ?_
  refine tL (zand (w32 ((w32 ((zand (w32 (x0 - (zand (zushr x0 1) 1431655765))) 858993459) + (zand (zushr (w32 (x0 - (zand (zushr x0 1) 1431655765))) 2) 858993459))) + (zushr (w32 ((zand (w32 (x0 - (zand (zushr x0 1) 1431655765))) 858993459) + (zand (zushr (w32 (x0 - (zand (zushr x0 1) 1431655765))) 2) 858993459))) 4))) 252645135) 0 rfl rfl rfl ?_
  refine tK rfl ?_
  refine tB (v := zushr (zand (w32 ((w32 ((zand (w32 (x0 - (zand (zushr x0 1) 1431655765))) 858993459) + (zand (zushr (w32 (x0 - (zand (zushr x0 1) 1431655765))) 2) 858993459))) + (zushr (w32 ((zand (w32 (x0 - (zand (zushr x0 1) 1431655765))) 858993459) + (zand (zushr (w32 (x0 - (zand (zushr x0 1) 1431655765))) 2) 858993459))) 4))) 252645135) 8) rfl rfl ?_
  refine tB (v := w32 ((zand (w32 ((w32 ((zand (w32 (x0 - (zand (zushr x0 1) 1431655765))) 858993459) + (zand (zushr (w32 (x0 - (zand (zushr x0 1) 1431655765))) 2) 858993459))) + (zushr (w32 ((zand (w32 (x0 - (zand (zushr x0 1) 1431655765))) 858993459) + (zand (zushr (w32 (x0 - (zand (zushr x0 1) 1431655765))) 2) 858993459))) 4))) 252645135) + (zushr (zand (w32 ((w32 ((zand (w32 (x0 - (zand (zushr x0 1) 1431655765))) 858993459) + (zand (zushr (w32 (x0 - (zand (zushr x0 1) 1431655765))) 2) 858993459))) + (zushr (w32 ((zand (w32 (x0 - (zand (zushr x0 1) 1431655765))) 858993459) + (zand (zushr (w32 (x0 - (zand (zushr x0 1) 1431655765))) 2) 858993459))) 4))) 252645135) 8))) rfl rfl ?_
  refine tS [w32 ((zand (w32 ((w32 ((zand (w32 (x0 - (zand (zushr x0 1) 1431655765))) 858993459) + (zand (zushr (w32 (x0 - (zand (zushr x0 1) 1431655765))) 2) 858993459))) + (zushr (w32 ((zand (w32 (x0 - (zand (zushr x0 1) 1431655765))) 858993459) + (zand (zushr (w32 (x0 - (zand (zushr x0 1) 1431655765))) 2) 858993459))) 4))) 252645135) + (zushr (zand (w32 ((w32 ((zand (w32 (x0 - (zand (zushr x0 1) 1431655765))) 858993459) + (zand (zushr (w32 (x0 - (zand (zushr x0 1) 1431655765))) 2) 858993459))) + (zushr (w32 ((zand (w32 (x0 - (zand (zushr x0 1) 1431655765))) 858993459) + (zand (zushr (w32 (x0 - (zand (zushr x0 1) 1431655765))) 2) 858993459))) 4))) 252645135) 8))] rfl rfl ?_
  refine tL (w32 ((zand (w32 ((w32 ((zand (w32 (x0 - (zand (zushr x0 1) 1431655765))) 858993459) + (zand (zushr (w32 (x0 - (zand (zushr x0 1) 1431655765))) 2) 858993459))) + (zushr (w32 ((zand (w32 (x0 - (zand (zushr x0 1) 1431655765))) 858993459) + (zand (zushr (w32 (x0 - (zand (zushr x0 1) 1431655765))) 2) 858993459))) 4))) 252645135) + (zushr (zand (w32 ((w32 ((zand (w32 (x0 - (zand (zushr x0 1) 1431655765))) 858993459) + (zand (zushr (w32 (x0 - (zand (zushr x0 1) 1431655765))) 2) 858993459))) + (zushr (w32 ((zand (w32 (x0 - (zand (zushr x0 1) 1431655765))) 858993459) + (zand (zushr (w32 (x0 - (zand (zushr x0 1) 1431655765))) 2) 858993459))) 4))) 252645135) 8))) 0 rfl rfl rfl ?_
  refine tL (w32 ((zand (w32 ((w32 ((zand (w32 (x0 - (zand (zushr x0 1) 1431655765))) 858993459) + (zand (zushr (w32 (x0 - (zand (zushr x0 1) 1431655765))) 2) 858993459))) + (zushr (w32 ((zand (w32 (x0 - (zand (zushr x0 1) 1431655765))) 858993459) + (zand (zushr (w32 (x0 - (zand (zushr x0 1) 1431655765))) 2) 858993459))) 4))) 252645135) + (zushr (zand (w32 ((w32 ((zand (w32 (x0 - (zand (zushr x0 1) 1431655765))) 858993459) + (zand (zushr (w32 (x0 - (zand (zushr x0 1) 1431655765))) 2) 858993459))) + (zushr (w32 ((zand (w32 (x0 - (zand (zushr x0 1) 1431655765))) 858993459) + (zand (zushr (w32 (x0 - (zand (zushr x0 1) 1431655765))) 2) 858993459))) 4))) 252645135) 8))) 0 rfl rfl rfl ?_
  refine tK rfl ?_
  refine tB (v := zushr (w32 ((zand (w32 ((w32 ((zand (w32 (x0 - (zand (zushr x0 1) 1431655765))) 858993459) + (zand (zushr (w32 (x0 - (zand (zushr x0 1) 1431655765))) 2) 858993459))) + (zushr (w32 ((zand (w32 (x0 - (zand (zushr x0 1) 1431655765))) 858993459) + (zand (zushr (w32 (x0 - (zand (zushr x0 1) 1431655765))) 2) 858993459))) 4))) 252645135) + (zushr (zand (w32 ((w32 ((zand (w32 (x0 - (zand (zushr x0 1) 1431655765))) 858993459) + (zand (zushr (w32 (x0 - (zand (zushr x0 1) 1431655765))) 2) 858993459))) + (zushr (w32 ((zand (w32 (x0 - (zand (zushr x0 1) 1431655765))) 858993459) + (zand (zushr (w32 (x0 - (zand (zushr x0 1) 1431655765))) 2) 858993459))) 4))) 252645135) 8))) 16) rfl rfl ?_
  refine tB (v := w32 ((w32 ((zand (w32 ((w32 ((zand (w32 (x0 - (zand (zushr x0 1) 1431655765))) 858993459) + (zand (zushr (w32 (x0 - (zand (zushr x0 1) 1431655765))) 2) 858993459))) + (zushr (w32 ((zand (w32 (x0 - (zand (zushr x0 1) 1431655765))) 858993459) + (zand (zushr (w32 (x0 - (zand (zushr x0 1) 1431655765))) 2) 858993459))) 4))) 252645135) + (zushr (zand (w32 ((w32 ((zand (w32 (x0 - (zand (zushr x0 1) 1431655765))) 858993459) + (zand (zushr (w32 (x0 - (zand (zushr x0 1) 1431655765))) 2) 858993459))) + (zushr (w32 ((zand (w32 (x0 - (zand (zushr x0 1) 1431655765))) 858993459) + (zand (zushr (w32 (x0 - (zand (zushr x0 1) 1431655765))) 2) 858993459))) 4))) 252645135) 8))) + (zushr (w32 ((zand (w32 ((w32 ((zand (w32 (x0 - (zand (zushr x0 1) 1431655765))) 858993459) + (zand (zushr (w32 (x0 - (zand (zushr x0 1) 1431655765))) 2) 858993459))) + (zushr (w32 ((zand (w32 (x0 - (zand (zushr x0 1) 1431655765))) 858993459) + (zand (zushr (w32 (x0 - (zand (zushr x0 1) 1431655765))) 2) 858993459))) 4))) 252645135) + (zushr (zand (w32 ((w32 ((zand (w32 (x0 - (zand (zushr x0 1) 1431655765))) 858993459) + (zand (zushr (w32 (x0 - (zand (zushr x0 1) 1431655765))) 2) 858993459))) + (zushr (w32 ((zand (w32 (x0 - (zand (zushr x0 1) 1431655765))) 858993459) + (zand (zushr (w32 (x0 - (zand (zushr x0 1) 1431655765))) 2) 858993459))) 4))) 252645135) 8))) 16))) rfl rfl ?_
  refine tS [w32 ((w32 ((zand (w32 ((w32 ((zand (w32 (x0 - (zand (zushr x0 1) 1431655765))) 858993459) + (zand (zushr (w32 (x0 - (zand (zushr x0 1) 1431655765))) 2) 858993459))) + (zushr (w32 ((zand (w32 (x0 - (zand (zushr x0 1) 1431655765))) 858993459) + (zand (zushr (w32 (x0 - (zand (zushr x0 1) 1431655765))) 2) 858993459))) 4))) 252645135) + (zushr (zand (w32 ((w32 ((zand (w32 (x0 - (zand (zushr x0 1) 1431655765))) 858993459) + (zand (zushr (w32 (x0 - (zand (zushr x0 1) 1431655765))) 2) 858993459))) + (zushr (w32 ((zand (w32 (x0 - (zand (zushr x0 1) 1431655765))) 858993459) + (zand (zushr (w32 (x0 - (zand (zushr x0 1) 1431655765))) 2) 858993459))) 4))) 252645135) 8))) + (zushr (w32 ((zand (w32 ((w32 ((zand (w32 (x0 - (zand (zushr x0 1) 1431655765))) 858993459) + (zand (zushr (w32 (x0 - (zand (zushr x0 1) 1431655765))) 2) 858993459))) + (zushr (w32 ((zand (w32 (x0 - (zand (zushr x0 1) 1431655765))) 858993459) + (zand (zushr (w32 (x0 - (zand (zushr x0 1) 1431655765))) 2) 858993459))) 4))) 252645135) + (zushr (zand (w32 ((w32 ((zand (w32 (x0 - (zand (zushr x0 1) 1431655765))) 858993459) + (zand (zushr (w32 (x0 - (zand (zushr x0 1) 1431655765))) 2) 858993459))) + (zushr (w32 ((zand (w32 (x0 - (zand (zushr x0 1) 1431655765))) 858993459) + (zand (zushr (w32 (x0 - (zand (zushr x0 1) 1431655765))) 2) 858993459))) 4))) 252645135) 8))) 16))] rfl rfl ?_
  refine tL (w32 ((w32 ((zand (w32 ((w32 ((zand (w32 (x0 - (zand (zushr x0 1) 1431655765))) 858993459) + (zand (zushr (w32 (x0 - (zand (zushr x0 1) 1431655765))) 2) 858993459))) + (zushr (w32 ((zand (w32 (x0 - (zand (zushr x0 1) 1431655765))) 858993459) + (zand (zushr (w32 (x0 - (zand (zushr x0 1) 1431655765))) 2) 858993459))) 4))) 252645135) + (zushr (zand (w32 ((w32 ((zand (w32 (x0 - (zand (zushr x0 1) 1431655765))) 858993459) + (zand (zushr (w32 (x0 - (zand (zushr x0 1) 1431655765))) 2) 858993459))) + (zushr (w32 ((zand (w32 (x0 - (zand (zushr x0 1) 1431655765))) 858993459) + (zand (zushr (w32 (x0 - (zand (zushr x0 1) 1431655765))) 2) 858993459))) 4))) 252645135) 8))) + (zushr (w32 ((zand (w32 ((w32 ((zand (w32 (x0 - (zand (zushr x0 1) 1431655765))) 858993459) + (zand (zushr (w32 (x0 - (zand (zushr x0 1) 1431655765))) 2) 858993459))) + (zushr (w32 ((zand (w32 (x0 - (zand (zushr x0 1) 1431655765))) 858993459) + (zand (zushr (w32 (x0 - (zand (zushr x0 1) 1431655765))) 2) 858993459))) 4))) 252645135) + (zushr (zand (w32 ((w32 ((zand (w32 (x0 - (zand (zushr x0 1) 1431655765))) 858993459) + (zand (zushr (w32 (x0 - (zand (zushr x0 1) 1431655765))) 2) 858993459))) + (zushr (w32 ((zand (w32 (x0 - (zand (zushr x0 1) 1431655765))) 858993459) + (zand (zushr (w32 (x0 - (zand (zushr x0 1) 1431655765))) 2) 858993459))) 4))) 252645135) 8))) 16))) 0 rfl rfl rfl ?_
  refine tK rfl ?_
  refine tB (v := zand (w32 ((w32 ((zand (w32 ((w32 ((zand (w32 (x0 - (zand (zushr x0 1) 1431655765))) 858993459) + (zand (zushr (w32 (x0 - (zand (zushr x0 1) 1431655765))) 2) 858993459))) + (zushr (w32 ((zand (w32 (x0 - (zand (zushr x0 1) 1431655765))) 858993459) + (zand (zushr (w32 (x0 - (zand (zushr x0 1) 1431655765))) 2) 858993459))) 4))) 252645135) + (zushr (zand (w32 ((w32 ((zand (w32 (x0 - (zand (zushr x0 1) 1431655765))) 858993459) + (zand (zushr (w32 (x0 - (zand (zushr x0 1) 1431655765))) 2) 858993459))) + (zushr (w32 ((zand (w32 (x0 - (zand (zushr x0 1) 1431655765))) 858993459) + (zand (zushr (w32 (x0 - (zand (zushr x0 1) 1431655765))) 2) 858993459))) 4))) 252645135) 8))) + (zushr (w32 ((zand (w32 ((w32 ((zand (w32 (x0 - (zand (zushr x0 1) 1431655765))) 858993459) + (zand (zushr (w32 (x0 - (zand (zushr x0 1) 1431655765))) 2) 858993459))) + (zushr (w32 ((zand (w32 (x0 - (zand (zushr x0 1) 1431655765))) 858993459) + (zand (zushr (w32 (x0 - (zand (zushr x0 1) 1431655765))) 2) 858993459))) 4))) 252645135) + (zushr (zand (w32 ((w32 ((zand (w32 (x0 - (zand (zushr x0 1) 1431655765))) 858993459) + (zand (zushr (w32 (x0 - (zand (zushr x0 1) 1431655765))) 2) 858993459))) + (zushr (w32 ((zand (w32 (x0 - (zand (zushr x0 1) 1431655765))) 858993459) + (zand (zushr (w32 (x0 - (zand (zushr x0 1) 1431655765))) 2) 858993459))) 4))) 252645135) 8))) 16))) 63) rfl rfl ?_
  exact tR rfl (h0)

theorem c_J6_bitCount_0f7a4 {n : Nat} {Q : Zr → Prop} {a0 : Int} {s : Zs} (h : zT (zE 1536) (Pt PJ6_bitCount_0f7a4) n (0, [a0], [], s) Q) : zC n 1536 [(a0, 0)] s Q := h

def bcV (x0 : Int) : Int := zand (w32 ((w32 ((zand (w32 ((w32 ((zand (w32 (x0 - (zand (zushr x0 1) 1431655765))) 858993459) + (zand (zushr (w32 (x0 - (zand (zushr x0 1) 1431655765))) 2) 858993459))) + (zushr (w32 ((zand (w32 (x0 - (zand (zushr x0 1) 1431655765))) 858993459) + (zand (zushr (w32 (x0 - (zand (zushr x0 1) 1431655765))) 2) 858993459))) 4))) 252645135) + (zushr (zand (w32 ((w32 ((zand (w32 (x0 - (zand (zushr x0 1) 1431655765))) 858993459) + (zand (zushr (w32 (x0 - (zand (zushr x0 1) 1431655765))) 2) 858993459))) + (zushr (w32 ((zand (w32 (x0 - (zand (zushr x0 1) 1431655765))) 858993459) + (zand (zushr (w32 (x0 - (zand (zushr x0 1) 1431655765))) 2) 858993459))) 4))) 252645135) 8))) + (zushr (w32 ((zand (w32 ((w32 ((zand (w32 (x0 - (zand (zushr x0 1) 1431655765))) 858993459) + (zand (zushr (w32 (x0 - (zand (zushr x0 1) 1431655765))) 2) 858993459))) + (zushr (w32 ((zand (w32 (x0 - (zand (zushr x0 1) 1431655765))) 858993459) + (zand (zushr (w32 (x0 - (zand (zushr x0 1) 1431655765))) 2) 858993459))) 4))) 252645135) + (zushr (zand (w32 ((w32 ((zand (w32 (x0 - (zand (zushr x0 1) 1431655765))) 858993459) + (zand (zushr (w32 (x0 - (zand (zushr x0 1) 1431655765))) 2) 858993459))) + (zushr (w32 ((zand (w32 (x0 - (zand (zushr x0 1) 1431655765))) 858993459) + (zand (zushr (w32 (x0 - (zand (zushr x0 1) 1431655765))) 2) 858993459))) 4))) 252645135) 8))) 16))) 63
theorem b_X4_valueOf_0 {n : Nat} {Q : Zr → Prop} {u : Nat} (x1 x2 x3 x4 x5 x6 : Int) (s : Zs) (hu : u = 36 ∨ u = 72)
    (h0 : zT (zE 521) (Pt PX4_valueOf) n (6, [((u : Nat) : Int), x1, x2, x3, 0, 0, x6], [], s) Q) : zT (zE 521) (Pt PX4_valueOf) n (0, [((u : Nat) : Int), x1, x2, x3, x4, x5, x6], [], s) Q := by
  refine tK rfl ?_
  refine tS [((u : Nat) : Int), x1, x2, x3, 0, x5, x6] rfl rfl ?_
  refine tK rfl ?_
  refine tS [((u : Nat) : Int), x1, x2, x3, 0, 0, x6] rfl rfl ?_
  exact zT_le (h0) (Nat.le_refl n)

theorem b_X4_valueOf_6 {n : Nat} {Q : Zr → Prop} {u : Nat} (x1 x2 x3 x4 x5 x6 : Int) (s : Zs) (hu : u = 36 ∨ u = 72)
    (h0 : ∀ (g1 : s u 1 ≤ x5), Q ([(s (u + 2) 0, 0)], s))
    (h1 : ∀ (g1 : x5 < s u 1), ∀ (g2 : s (u + 1) x5.toNat < (-3)), ∀ (g3 : s (u + 1) x5.toNat ≠ (-4)), ∀ (g4 : x4 ≤ 1), ∀ m, m < n → zT (zE 521) (Pt PX4_valueOf) m (6, [((u : Nat) : Int), x1, x2, x3, x4, w32 (x5 + 1), s (u + 1) x5.toNat], [], s) Q)
    (h2 : ∀ (g1 : x5 < s u 1), ∀ (g2 : s (u + 1) x5.toNat < (-3)), ∀ (g3 : s (u + 1) x5.toNat ≠ (-4)), ∀ (g4 : 1 < x4), ∀ m, m < n → zC m 518 [(s (u + 1) x5.toNat, 0), (s (u + 2) ((w32 ((w32 (x4 + (-1))) - 1)).toNat), 0), (s (u + 2) ((w32 (x4 + (-1))).toNat), 0)] s (fun p => zT (zE 521) (Pt PX4_valueOf) m (162, [((u : Nat) : Int), x1, x2, x3, w32 (x4 + (-1)), x5, s (u + 1) x5.toNat], p.1 ++ [(w32 ((w32 (x4 + (-1))) - 1), 0), ((((u + 2) : Nat) : Int), 0)], p.2) Q))
    (h3 : ∀ (g1 : x5 < s u 1), ∀ (g2 : s (u + 1) x5.toNat < (-3)), ∀ (g3 : s (u + 1) x5.toNat = (-4)), ∀ (g6 : x4 ≤ 0), ∀ (g7 : x4 ≤ 1), ∀ m, m < n → zT (zE 521) (Pt PX4_valueOf) m (6, [((u : Nat) : Int), x1, x2, x3, x4, w32 (x5 + 1), s (u + 1) x5.toNat], [], s) Q)
    (h4 : ∀ (g1 : x5 < s u 1), ∀ (g2 : s (u + 1) x5.toNat < (-3)), ∀ (g3 : s (u + 1) x5.toNat = (-4)), ∀ (g6 : x4 ≤ 0), ∀ (g7 : 1 < x4), ∀ m, m < n → zC m 518 [(s (u + 1) x5.toNat, 0), (s (u + 2) ((w32 ((w32 (x4 + (-1))) - 1)).toNat), 0), (s (u + 2) ((w32 (x4 + (-1))).toNat), 0)] s (fun p => zT (zE 521) (Pt PX4_valueOf) m (162, [((u : Nat) : Int), x1, x2, x3, w32 (x4 + (-1)), x5, s (u + 1) x5.toNat], p.1 ++ [(w32 ((w32 (x4 + (-1))) - 1), 0), ((((u + 2) : Nat) : Int), 0)], p.2) Q))
    (h5 : ∀ (g1 : x5 < s u 1), ∀ (g2 : s (u + 1) x5.toNat < (-3)), ∀ (g3 : s (u + 1) x5.toNat = (-4)), ∀ (g6 : 0 < x4), ∀ (g9 : s (u + 2) ((w32 (x4 - 1)).toNat) ≠ 0), ∀ m, m < n → zT (zE 521) (Pt PX4_valueOf) m (6, [((u : Nat) : Int), x1, x2, x3, x4, w32 (x5 + 1), s (u + 1) x5.toNat], [], zu s (u + 2) ((w32 (x4 - 1)).toNat) 0) Q)
    (h6 : ∀ (g1 : x5 < s u 1), ∀ (g2 : s (u + 1) x5.toNat < (-3)), ∀ (g3 : s (u + 1) x5.toNat = (-4)), ∀ (g6 : 0 < x4), ∀ (g9 : s (u + 2) ((w32 (x4 - 1)).toNat) = 0), ∀ m, m < n → zT (zE 521) (Pt PX4_valueOf) m (6, [((u : Nat) : Int), x1, x2, x3, x4, w32 (x5 + 1), s (u + 1) x5.toNat], [], zu s (u + 2) ((w32 (x4 - 1)).toNat) 1) Q)
    (h7 : ∀ (g1 : x5 < s u 1), ∀ (g2 : (-3) ≤ s (u + 1) x5.toNat), ∀ (g10 : 24 ≤ x4), ∀ (g11 : s (u + 1) x5.toNat ≠ (-4)), ∀ (g12 : x4 ≤ 1), ∀ m, m < n → zT (zE 521) (Pt PX4_valueOf) m (6, [((u : Nat) : Int), x1, x2, x3, x4, w32 (x5 + 1), s (u + 1) x5.toNat], [], s) Q)
    (h8 : ∀ (g1 : x5 < s u 1), ∀ (g2 : (-3) ≤ s (u + 1) x5.toNat), ∀ (g10 : 24 ≤ x4), ∀ (g11 : s (u + 1) x5.toNat ≠ (-4)), ∀ (g12 : 1 < x4), ∀ m, m < n → zC m 518 [(s (u + 1) x5.toNat, 0), (s (u + 2) ((w32 ((w32 (x4 + (-1))) - 1)).toNat), 0), (s (u + 2) ((w32 (x4 + (-1))).toNat), 0)] s (fun p => zT (zE 521) (Pt PX4_valueOf) m (162, [((u : Nat) : Int), x1, x2, x3, w32 (x4 + (-1)), x5, s (u + 1) x5.toNat], p.1 ++ [(w32 ((w32 (x4 + (-1))) - 1), 0), ((((u + 2) : Nat) : Int), 0)], p.2) Q))
    (h9 : ∀ (g1 : x5 < s u 1), ∀ (g2 : (-3) ≤ s (u + 1) x5.toNat), ∀ (g10 : 24 ≤ x4), ∀ (g11 : s (u + 1) x5.toNat = (-4)), ∀ (g14 : x4 ≤ 0), ∀ (g15 : x4 ≤ 1), ∀ m, m < n → zT (zE 521) (Pt PX4_valueOf) m (6, [((u : Nat) : Int), x1, x2, x3, x4, w32 (x5 + 1), s (u + 1) x5.toNat], [], s) Q)
    (h10 : ∀ (g1 : x5 < s u 1), ∀ (g2 : (-3) ≤ s (u + 1) x5.toNat), ∀ (g10 : 24 ≤ x4), ∀ (g11 : s (u + 1) x5.toNat = (-4)), ∀ (g14 : x4 ≤ 0), ∀ (g15 : 1 < x4), ∀ m, m < n → zC m 518 [(s (u + 1) x5.toNat, 0), (s (u + 2) ((w32 ((w32 (x4 + (-1))) - 1)).toNat), 0), (s (u + 2) ((w32 (x4 + (-1))).toNat), 0)] s (fun p => zT (zE 521) (Pt PX4_valueOf) m (162, [((u : Nat) : Int), x1, x2, x3, w32 (x4 + (-1)), x5, s (u + 1) x5.toNat], p.1 ++ [(w32 ((w32 (x4 + (-1))) - 1), 0), ((((u + 2) : Nat) : Int), 0)], p.2) Q))
    (h11 : ∀ (g1 : x5 < s u 1), ∀ (g2 : (-3) ≤ s (u + 1) x5.toNat), ∀ (g10 : 24 ≤ x4), ∀ (g11 : s (u + 1) x5.toNat = (-4)), ∀ (g14 : 0 < x4), ∀ (g17 : s (u + 2) ((w32 (x4 - 1)).toNat) ≠ 0), ∀ m, m < n → zT (zE 521) (Pt PX4_valueOf) m (6, [((u : Nat) : Int), x1, x2, x3, x4, w32 (x5 + 1), s (u + 1) x5.toNat], [], zu s (u + 2) ((w32 (x4 - 1)).toNat) 0) Q)
    (h12 : ∀ (g1 : x5 < s u 1), ∀ (g2 : (-3) ≤ s (u + 1) x5.toNat), ∀ (g10 : 24 ≤ x4), ∀ (g11 : s (u + 1) x5.toNat = (-4)), ∀ (g14 : 0 < x4), ∀ (g17 : s (u + 2) ((w32 (x4 - 1)).toNat) = 0), ∀ m, m < n → zT (zE 521) (Pt PX4_valueOf) m (6, [((u : Nat) : Int), x1, x2, x3, x4, w32 (x5 + 1), s (u + 1) x5.toNat], [], zu s (u + 2) ((w32 (x4 - 1)).toNat) 1) Q)
    (h13 : ∀ (g1 : x5 < s u 1), ∀ (g2 : (-3) ≤ s (u + 1) x5.toNat), ∀ (g10 : x4 < 24), ∀ (g18 : s (u + 1) x5.toNat < 0), ∀ (g19 : s (u + 1) x5.toNat ≠ (-1)), ∀ (g20 : s (u + 1) x5.toNat ≠ (-2)), ∀ m, m < n → zT (zE 521) (Pt PX4_valueOf) m (6, [((u : Nat) : Int), x1, x2, x3, w32 (x4 + 1), w32 (x5 + 1), s (u + 1) x5.toNat], [], zu s (u + 2) x4.toNat x3) Q)
    (h14 : ∀ (g1 : x5 < s u 1), ∀ (g2 : (-3) ≤ s (u + 1) x5.toNat), ∀ (g10 : x4 < 24), ∀ (g18 : s (u + 1) x5.toNat < 0), ∀ (g19 : s (u + 1) x5.toNat ≠ (-1)), ∀ (g20 : s (u + 1) x5.toNat = (-2)), ∀ m, m < n → zT (zE 521) (Pt PX4_valueOf) m (6, [((u : Nat) : Int), x1, x2, x3, w32 (x4 + 1), w32 (x5 + 1), s (u + 1) x5.toNat], [], zu s (u + 2) x4.toNat x2) Q)
    (h15 : ∀ (g1 : x5 < s u 1), ∀ (g2 : (-3) ≤ s (u + 1) x5.toNat), ∀ (g10 : x4 < 24), ∀ (g18 : s (u + 1) x5.toNat < 0), ∀ (g19 : s (u + 1) x5.toNat = (-1)), ∀ m, m < n → zT (zE 521) (Pt PX4_valueOf) m (6, [((u : Nat) : Int), x1, x2, x3, w32 (x4 + 1), w32 (x5 + 1), s (u + 1) x5.toNat], [], zu s (u + 2) x4.toNat x1) Q)
    (h16 : ∀ (g1 : x5 < s u 1), ∀ (g2 : (-3) ≤ s (u + 1) x5.toNat), ∀ (g10 : x4 < 24), ∀ (g18 : 0 ≤ s (u + 1) x5.toNat), ∀ m, m < n → zT (zE 521) (Pt PX4_valueOf) m (6, [((u : Nat) : Int), x1, x2, x3, w32 (x4 + 1), w32 (x5 + 1), s (u + 1) x5.toNat], [], zu s (u + 2) x4.toNat (s (u + 1) x5.toNat)) Q) : zT (zE 521) (Pt PX4_valueOf) n (6, [((u : Nat) : Int), x1, x2, x3, x4, x5, x6], [], s) Q := by
  refine tL x5 0 rfl rfl rfl ?_
  refine tL ((u : Nat) : Int) 0 rfl rfl rfl ?_
  refine tFv (c := u) (s u 1) 0 rfl rfl rfl rfl rfl ?_
  refine tJ3 rfl (fun g1 _ l1 => zT_le ?_ (Nat.le_of_lt l1)) (fun g1 _ l1 => zT_le ?_ (Nat.le_of_lt l1))
  · refine tL ((u : Nat) : Int) 0 rfl rfl rfl ?_
    refine tFR (c := u) (u + 2) rfl rfl rfl rfl (zp4_2 hu) ?_
    refine tK rfl ?_
    refine tAv (u + 2) 0 (s (u + 2) 0) 0 rfl rfl rfl (by decide) rfl rfl ?_
    exact tR rfl (h0 g1)
  · refine tL ((u : Nat) : Int) 0 rfl rfl rfl ?_
    refine tFR (c := u) (u + 1) rfl rfl rfl rfl (zp4_0 hu) ?_
    refine tL x5 0 rfl rfl rfl ?_
    refine tAv (u + 1) x5.toNat (s (u + 1) x5.toNat) 0 rfl rfl rfl (by decide) rfl rfl ?_
    refine tS [((u : Nat) : Int), x1, x2, x3, x4, x5, s (u + 1) x5.toNat] rfl rfl ?_
    refine tL (s (u + 1) x5.toNat) 0 rfl rfl rfl ?_
    refine tK rfl ?_
    refine tJ2 rfl (fun g2 _ l2 => zT_le ?_ (Nat.le_of_lt l2)) (fun g2 _ l2 => zT_le ?_ (Nat.le_of_lt l2))
    · refine tL (s (u + 1) x5.toNat) 0 rfl rfl rfl ?_
      refine tK rfl ?_
      refine tJ1 rfl (fun g3 _ l3 => zT_le ?_ (Nat.le_of_lt l3)) (fun g3 _ l3 => zT_le ?_ (Nat.le_of_lt l3))
      · refine tL x4 0 rfl rfl rfl ?_
        refine tK rfl ?_
        refine tJ5 rfl (fun g4 _ l4 => zT_le ?_ (Nat.le_of_lt l4)) (fun g4 _ l4 => zT_le ?_ (Nat.le_of_lt l4))
        · refine tInc [((u : Nat) : Int), x1, x2, x3, x4, w32 (x5 + 1), s (u + 1) x5.toNat] rfl rfl ?_
          exact tGb rfl (fun m2 l2 => h1 g1 g2 g3 g4 m2 (Nat.lt_of_lt_of_le l2 (Nat.le_refl n)))
        · refine tInc [((u : Nat) : Int), x1, x2, x3, w32 (x4 + (-1)), x5, s (u + 1) x5.toNat] rfl rfl ?_
          refine tL ((u : Nat) : Int) 0 rfl rfl rfl ?_
          refine tFR (c := u) (u + 2) rfl rfl rfl rfl (zp4_2 hu) ?_
          refine tL (w32 (x4 + (-1))) 0 rfl rfl rfl ?_
          refine tK rfl ?_
          refine tB (v := w32 ((w32 (x4 + (-1))) - 1)) rfl rfl ?_
          refine tL (s (u + 1) x5.toNat) 0 rfl rfl rfl ?_
          refine tL ((u : Nat) : Int) 0 rfl rfl rfl ?_
          refine tFR (c := u) (u + 2) rfl rfl rfl rfl (zp4_2 hu) ?_
          refine tL (w32 (x4 + (-1))) 0 rfl rfl rfl ?_
          refine tK rfl ?_
          refine tB (v := w32 ((w32 (x4 + (-1))) - 1)) rfl rfl ?_
          refine tAv (u + 2) ((w32 ((w32 (x4 + (-1))) - 1)).toNat) (s (u + 2) ((w32 ((w32 (x4 + (-1))) - 1)).toNat)) 0 rfl rfl rfl (by decide) rfl rfl ?_
          refine tL ((u : Nat) : Int) 0 rfl rfl rfl ?_
          refine tFR (c := u) (u + 2) rfl rfl rfl rfl (zp4_2 hu) ?_
          refine tL (w32 (x4 + (-1))) 0 rfl rfl rfl ?_
          refine tAv (u + 2) ((w32 (x4 + (-1))).toNat) (s (u + 2) ((w32 (x4 + (-1))).toNat)) 0 rfl rfl rfl (by decide) rfl rfl ?_
          exact tCall [(s (u + 1) x5.toNat, 0), (s (u + 2) ((w32 ((w32 (x4 + (-1))) - 1)).toNat), 0), (s (u + 2) ((w32 (x4 + (-1))).toNat), 0)] [(w32 ((w32 (x4 + (-1))) - 1), 0), ((((u + 2) : Nat) : Int), 0)] rfl rfl rfl (fun m l => h2 g1 g2 g3 g4 m (Nat.lt_of_lt_of_le l (Nat.le_refl n)))
      · refine tL x4 0 rfl rfl rfl ?_
        refine tI5 rfl (fun g6 _ l6 => zT_le ?_ (Nat.le_of_lt l6)) (fun g6 _ l6 => zT_le ?_ (Nat.le_of_lt l6))
        · refine tL x4 0 rfl rfl rfl ?_
          refine tK rfl ?_
          refine tJ5 rfl (fun g7 _ l7 => zT_le ?_ (Nat.le_of_lt l7)) (fun g7 _ l7 => zT_le ?_ (Nat.le_of_lt l7))
          · refine tInc [((u : Nat) : Int), x1, x2, x3, x4, w32 (x5 + 1), s (u + 1) x5.toNat] rfl rfl ?_
            exact tGb rfl (fun m2 l2 => h3 g1 g2 g3 g6 g7 m2 (Nat.lt_of_lt_of_le l2 (Nat.le_refl n)))
          · refine tInc [((u : Nat) : Int), x1, x2, x3, w32 (x4 + (-1)), x5, s (u + 1) x5.toNat] rfl rfl ?_
            refine tL ((u : Nat) : Int) 0 rfl rfl rfl ?_
            refine tFR (c := u) (u + 2) rfl rfl rfl rfl (zp4_2 hu) ?_
            refine tL (w32 (x4 + (-1))) 0 rfl rfl rfl ?_
            refine tK rfl ?_
            refine tB (v := w32 ((w32 (x4 + (-1))) - 1)) rfl rfl ?_
            refine tL (s (u + 1) x5.toNat) 0 rfl rfl rfl ?_
            refine tL ((u : Nat) : Int) 0 rfl rfl rfl ?_
            refine tFR (c := u) (u + 2) rfl rfl rfl rfl (zp4_2 hu) ?_
            refine tL (w32 (x4 + (-1))) 0 rfl rfl rfl ?_
            refine tK rfl ?_
            refine tB (v := w32 ((w32 (x4 + (-1))) - 1)) rfl rfl ?_
            refine tAv (u + 2) ((w32 ((w32 (x4 + (-1))) - 1)).toNat) (s (u + 2) ((w32 ((w32 (x4 + (-1))) - 1)).toNat)) 0 rfl rfl rfl (by decide) rfl rfl ?_
            refine tL ((u : Nat) : Int) 0 rfl rfl rfl ?_
            refine tFR (c := u) (u + 2) rfl rfl rfl rfl (zp4_2 hu) ?_
            refine tL (w32 (x4 + (-1))) 0 rfl rfl rfl ?_
            refine tAv (u + 2) ((w32 (x4 + (-1))).toNat) (s (u + 2) ((w32 (x4 + (-1))).toNat)) 0 rfl rfl rfl (by decide) rfl rfl ?_
            exact tCall [(s (u + 1) x5.toNat, 0), (s (u + 2) ((w32 ((w32 (x4 + (-1))) - 1)).toNat), 0), (s (u + 2) ((w32 (x4 + (-1))).toNat), 0)] [(w32 ((w32 (x4 + (-1))) - 1), 0), ((((u + 2) : Nat) : Int), 0)] rfl rfl rfl (fun m l => h4 g1 g2 g3 g6 g7 m (Nat.lt_of_lt_of_le l (Nat.le_refl n)))
        · refine tL ((u : Nat) : Int) 0 rfl rfl rfl ?_
          refine tFR (c := u) (u + 2) rfl rfl rfl rfl (zp4_2 hu) ?_
          refine tL x4 0 rfl rfl rfl ?_
          refine tK rfl ?_
          refine tB (v := w32 (x4 - 1)) rfl rfl ?_
          refine tL ((u : Nat) : Int) 0 rfl rfl rfl ?_
          refine tFR (c := u) (u + 2) rfl rfl rfl rfl (zp4_2 hu) ?_
          refine tL x4 0 rfl rfl rfl ?_
          refine tK rfl ?_
          refine tB (v := w32 (x4 - 1)) rfl rfl ?_
          refine tAv (u + 2) ((w32 (x4 - 1)).toNat) (s (u + 2) ((w32 (x4 - 1)).toNat)) 0 rfl rfl rfl (by decide) rfl rfl ?_
          refine tI1 rfl (fun g9 _ l9 => zT_le ?_ (Nat.le_of_lt l9)) (fun g9 _ l9 => zT_le ?_ (Nat.le_of_lt l9))
          · refine tK rfl ?_
            refine tAS (u + 2) ((w32 (x4 - 1)).toNat) rfl rfl rfl (by decide) ?_
            refine tG rfl ?_
            refine tInc [((u : Nat) : Int), x1, x2, x3, x4, w32 (x5 + 1), s (u + 1) x5.toNat] rfl rfl ?_
            exact tGb rfl (fun m2 l2 => h5 g1 g2 g3 g6 g9 m2 (Nat.lt_of_lt_of_le l2 (Nat.le_refl n)))
          · refine tK rfl ?_
            refine tG rfl ?_
            refine tAS (u + 2) ((w32 (x4 - 1)).toNat) rfl rfl rfl (by decide) ?_
            refine tG rfl ?_
            refine tInc [((u : Nat) : Int), x1, x2, x3, x4, w32 (x5 + 1), s (u + 1) x5.toNat] rfl rfl ?_
            exact tGb rfl (fun m2 l2 => h6 g1 g2 g3 g6 g9 m2 (Nat.lt_of_lt_of_le l2 (Nat.le_refl n)))
    · refine tL x4 0 rfl rfl rfl ?_
      refine tK rfl ?_
      refine tJ3 rfl (fun g10 _ l10 => zT_le ?_ (Nat.le_of_lt l10)) (fun g10 _ l10 => zT_le ?_ (Nat.le_of_lt l10))
      · refine tL (s (u + 1) x5.toNat) 0 rfl rfl rfl ?_
        refine tK rfl ?_
        refine tJ1 rfl (fun g11 _ l11 => zT_le ?_ (Nat.le_of_lt l11)) (fun g11 _ l11 => zT_le ?_ (Nat.le_of_lt l11))
        · refine tL x4 0 rfl rfl rfl ?_
          refine tK rfl ?_
          refine tJ5 rfl (fun g12 _ l12 => zT_le ?_ (Nat.le_of_lt l12)) (fun g12 _ l12 => zT_le ?_ (Nat.le_of_lt l12))
          · refine tInc [((u : Nat) : Int), x1, x2, x3, x4, w32 (x5 + 1), s (u + 1) x5.toNat] rfl rfl ?_
            exact tGb rfl (fun m2 l2 => h7 g1 g2 g10 g11 g12 m2 (Nat.lt_of_lt_of_le l2 (Nat.le_refl n)))
          · refine tInc [((u : Nat) : Int), x1, x2, x3, w32 (x4 + (-1)), x5, s (u + 1) x5.toNat] rfl rfl ?_
            refine tL ((u : Nat) : Int) 0 rfl rfl rfl ?_
            refine tFR (c := u) (u + 2) rfl rfl rfl rfl (zp4_2 hu) ?_
            refine tL (w32 (x4 + (-1))) 0 rfl rfl rfl ?_
            refine tK rfl ?_
            refine tB (v := w32 ((w32 (x4 + (-1))) - 1)) rfl rfl ?_
            refine tL (s (u + 1) x5.toNat) 0 rfl rfl rfl ?_
            refine tL ((u : Nat) : Int) 0 rfl rfl rfl ?_
            refine tFR (c := u) (u + 2) rfl rfl rfl rfl (zp4_2 hu) ?_
            refine tL (w32 (x4 + (-1))) 0 rfl rfl rfl ?_
            refine tK rfl ?_
            refine tB (v := w32 ((w32 (x4 + (-1))) - 1)) rfl rfl ?_
            refine tAv (u + 2) ((w32 ((w32 (x4 + (-1))) - 1)).toNat) (s (u + 2) ((w32 ((w32 (x4 + (-1))) - 1)).toNat)) 0 rfl rfl rfl (by decide) rfl rfl ?_
            refine tL ((u : Nat) : Int) 0 rfl rfl rfl ?_
            refine tFR (c := u) (u + 2) rfl rfl rfl rfl (zp4_2 hu) ?_
            refine tL (w32 (x4 + (-1))) 0 rfl rfl rfl ?_
            refine tAv (u + 2) ((w32 (x4 + (-1))).toNat) (s (u + 2) ((w32 (x4 + (-1))).toNat)) 0 rfl rfl rfl (by decide) rfl rfl ?_
            exact tCall [(s (u + 1) x5.toNat, 0), (s (u + 2) ((w32 ((w32 (x4 + (-1))) - 1)).toNat), 0), (s (u + 2) ((w32 (x4 + (-1))).toNat), 0)] [(w32 ((w32 (x4 + (-1))) - 1), 0), ((((u + 2) : Nat) : Int), 0)] rfl rfl rfl (fun m l => h8 g1 g2 g10 g11 g12 m (Nat.lt_of_lt_of_le l (Nat.le_refl n)))
        · refine tL x4 0 rfl rfl rfl ?_
          refine tI5 rfl (fun g14 _ l14 => zT_le ?_ (Nat.le_of_lt l14)) (fun g14 _ l14 => zT_le ?_ (Nat.le_of_lt l14))
          · refine tL x4 0 rfl rfl rfl ?_
            refine tK rfl ?_
            refine tJ5 rfl (fun g15 _ l15 => zT_le ?_ (Nat.le_of_lt l15)) (fun g15 _ l15 => zT_le ?_ (Nat.le_of_lt l15))
            · refine tInc [((u : Nat) : Int), x1, x2, x3, x4, w32 (x5 + 1), s (u + 1) x5.toNat] rfl rfl ?_
              exact tGb rfl (fun m2 l2 => h9 g1 g2 g10 g11 g14 g15 m2 (Nat.lt_of_lt_of_le l2 (Nat.le_refl n)))
            · refine tInc [((u : Nat) : Int), x1, x2, x3, w32 (x4 + (-1)), x5, s (u + 1) x5.toNat] rfl rfl ?_
              refine tL ((u : Nat) : Int) 0 rfl rfl rfl ?_
              refine tFR (c := u) (u + 2) rfl rfl rfl rfl (zp4_2 hu) ?_
              refine tL (w32 (x4 + (-1))) 0 rfl rfl rfl ?_
              refine tK rfl ?_
              refine tB (v := w32 ((w32 (x4 + (-1))) - 1)) rfl rfl ?_
              refine tL (s (u + 1) x5.toNat) 0 rfl rfl rfl ?_
              refine tL ((u : Nat) : Int) 0 rfl rfl rfl ?_
              refine tFR (c := u) (u + 2) rfl rfl rfl rfl (zp4_2 hu) ?_
              refine tL (w32 (x4 + (-1))) 0 rfl rfl rfl ?_
              refine tK rfl ?_
              refine tB (v := w32 ((w32 (x4 + (-1))) - 1)) rfl rfl ?_
              refine tAv (u + 2) ((w32 ((w32 (x4 + (-1))) - 1)).toNat) (s (u + 2) ((w32 ((w32 (x4 + (-1))) - 1)).toNat)) 0 rfl rfl rfl (by decide) rfl rfl ?_
              refine tL ((u : Nat) : Int) 0 rfl rfl rfl ?_
              refine tFR (c := u) (u + 2) rfl rfl rfl rfl (zp4_2 hu) ?_
              refine tL (w32 (x4 + (-1))) 0 rfl rfl rfl ?_
              refine tAv (u + 2) ((w32 (x4 + (-1))).toNat) (s (u + 2) ((w32 (x4 + (-1))).toNat)) 0 rfl rfl rfl (by decide) rfl rfl ?_
              exact tCall [(s (u + 1) x5.toNat, 0), (s (u + 2) ((w32 ((w32 (x4 + (-1))) - 1)).toNat), 0), (s (u + 2) ((w32 (x4 + (-1))).toNat), 0)] [(w32 ((w32 (x4 + (-1))) - 1), 0), ((((u + 2) : Nat) : Int), 0)] rfl rfl rfl (fun m l => h10 g1 g2 g10 g11 g14 g15 m (Nat.lt_of_lt_of_le l (Nat.le_refl n)))
          · refine tL ((u : Nat) : Int) 0 rfl rfl rfl ?_
            refine tFR (c := u) (u + 2) rfl rfl rfl rfl (zp4_2 hu) ?_
            refine tL x4 0 rfl rfl rfl ?_
            refine tK rfl ?_
            refine tB (v := w32 (x4 - 1)) rfl rfl ?_
            refine tL ((u : Nat) : Int) 0 rfl rfl rfl ?_
            refine tFR (c := u) (u + 2) rfl rfl rfl rfl (zp4_2 hu) ?_
            refine tL x4 0 rfl rfl rfl ?_
            refine tK rfl ?_
            refine tB (v := w32 (x4 - 1)) rfl rfl ?_
            refine tAv (u + 2) ((w32 (x4 - 1)).toNat) (s (u + 2) ((w32 (x4 - 1)).toNat)) 0 rfl rfl rfl (by decide) rfl rfl ?_
            refine tI1 rfl (fun g17 _ l17 => zT_le ?_ (Nat.le_of_lt l17)) (fun g17 _ l17 => zT_le ?_ (Nat.le_of_lt l17))
            · refine tK rfl ?_
              refine tAS (u + 2) ((w32 (x4 - 1)).toNat) rfl rfl rfl (by decide) ?_
              refine tG rfl ?_
              refine tInc [((u : Nat) : Int), x1, x2, x3, x4, w32 (x5 + 1), s (u + 1) x5.toNat] rfl rfl ?_
              exact tGb rfl (fun m2 l2 => h11 g1 g2 g10 g11 g14 g17 m2 (Nat.lt_of_lt_of_le l2 (Nat.le_refl n)))
            · refine tK rfl ?_
              refine tG rfl ?_
              refine tAS (u + 2) ((w32 (x4 - 1)).toNat) rfl rfl rfl (by decide) ?_
              refine tG rfl ?_
              refine tInc [((u : Nat) : Int), x1, x2, x3, x4, w32 (x5 + 1), s (u + 1) x5.toNat] rfl rfl ?_
              exact tGb rfl (fun m2 l2 => h12 g1 g2 g10 g11 g14 g17 m2 (Nat.lt_of_lt_of_le l2 (Nat.le_refl n)))
      · refine tL ((u : Nat) : Int) 0 rfl rfl rfl ?_
        refine tFR (c := u) (u + 2) rfl rfl rfl rfl (zp4_2 hu) ?_
        refine tL x4 0 rfl rfl rfl ?_
        refine tL (s (u + 1) x5.toNat) 0 rfl rfl rfl ?_
        refine tI2 rfl (fun g18 _ l18 => zT_le ?_ (Nat.le_of_lt l18)) (fun g18 _ l18 => zT_le ?_ (Nat.le_of_lt l18))
        · refine tL (s (u + 1) x5.toNat) 0 rfl rfl rfl ?_
          refine tK rfl ?_
          refine tJ1 rfl (fun g19 _ l19 => zT_le ?_ (Nat.le_of_lt l19)) (fun g19 _ l19 => zT_le ?_ (Nat.le_of_lt l19))
          · refine tL (s (u + 1) x5.toNat) 0 rfl rfl rfl ?_
            refine tK rfl ?_
            refine tJ1 rfl (fun g20 _ l20 => zT_le ?_ (Nat.le_of_lt l20)) (fun g20 _ l20 => zT_le ?_ (Nat.le_of_lt l20))
            · refine tL x3 0 rfl rfl rfl ?_
              refine tAS (u + 2) x4.toNat rfl rfl rfl (by decide) ?_
              refine tInc [((u : Nat) : Int), x1, x2, x3, w32 (x4 + 1), x5, s (u + 1) x5.toNat] rfl rfl ?_
              refine tG rfl ?_
              refine tInc [((u : Nat) : Int), x1, x2, x3, w32 (x4 + 1), w32 (x5 + 1), s (u + 1) x5.toNat] rfl rfl ?_
              exact tGb rfl (fun m2 l2 => h13 g1 g2 g10 g18 g19 g20 m2 (Nat.lt_of_lt_of_le l2 (Nat.le_refl n)))
            · refine tL x2 0 rfl rfl rfl ?_
              refine tG rfl ?_
              refine tAS (u + 2) x4.toNat rfl rfl rfl (by decide) ?_
              refine tInc [((u : Nat) : Int), x1, x2, x3, w32 (x4 + 1), x5, s (u + 1) x5.toNat] rfl rfl ?_
              refine tG rfl ?_
              refine tInc [((u : Nat) : Int), x1, x2, x3, w32 (x4 + 1), w32 (x5 + 1), s (u + 1) x5.toNat] rfl rfl ?_
              exact tGb rfl (fun m2 l2 => h14 g1 g2 g10 g18 g19 g20 m2 (Nat.lt_of_lt_of_le l2 (Nat.le_refl n)))
          · refine tL x1 0 rfl rfl rfl ?_
            refine tG rfl ?_
            refine tAS (u + 2) x4.toNat rfl rfl rfl (by decide) ?_
            refine tInc [((u : Nat) : Int), x1, x2, x3, w32 (x4 + 1), x5, s (u + 1) x5.toNat] rfl rfl ?_
            refine tG rfl ?_
            refine tInc [((u : Nat) : Int), x1, x2, x3, w32 (x4 + 1), w32 (x5 + 1), s (u + 1) x5.toNat] rfl rfl ?_
            exact tGb rfl (fun m2 l2 => h15 g1 g2 g10 g18 g19 m2 (Nat.lt_of_lt_of_le l2 (Nat.le_refl n)))
        · refine tL (s (u + 1) x5.toNat) 0 rfl rfl rfl ?_
          refine tG rfl ?_
          refine tAS (u + 2) x4.toNat rfl rfl rfl (by decide) ?_
          refine tInc [((u : Nat) : Int), x1, x2, x3, w32 (x4 + 1), x5, s (u + 1) x5.toNat] rfl rfl ?_
          refine tG rfl ?_
          refine tInc [((u : Nat) : Int), x1, x2, x3, w32 (x4 + 1), w32 (x5 + 1), s (u + 1) x5.toNat] rfl rfl ?_
          exact tGb rfl (fun m2 l2 => h16 g1 g2 g10 g18 m2 (Nat.lt_of_lt_of_le l2 (Nat.le_refl n)))

theorem b_X4_valueOf_162 {n : Nat} {Q : Zr → Prop} {u : Nat} (x1 x2 x3 x4 x5 x6 v0 y0 : Int) (s : Zs) (hu : u = 36 ∨ u = 72)
    (h0 : ∀ m, m < n → zT (zE 521) (Pt PX4_valueOf) m (6, [((u : Nat) : Int), x1, x2, x3, x4, w32 (x5 + 1), x6], [], zu s (u + 2) y0.toNat v0) Q) : zT (zE 521) (Pt PX4_valueOf) n (162, [((u : Nat) : Int), x1, x2, x3, x4, x5, x6], [(v0, 0), (y0, 0), ((((u + 2) : Nat) : Int), 0)], s) Q := by
  refine tAS (u + 2) y0.toNat rfl rfl rfl (by decide) ?_
  refine tInc [((u : Nat) : Int), x1, x2, x3, x4, w32 (x5 + 1), x6] rfl rfl ?_
  exact tGb rfl (fun m2 l2 => h0 m2 (Nat.lt_of_lt_of_le l2 (Nat.le_refl n)))

theorem c_X4_valueOf {n : Nat} {Q : Zr → Prop} {a0 a1 a2 a3 : Int} {s : Zs} (h : zT (zE 521) (Pt PX4_valueOf) n (0, [a0, a1, a2, a3, 0, 0, 0], [], s) Q) : zC n 521 [(a0, 0), (a1, 0), (a2, 0), (a3, 0)] s Q := h

theorem b_X1_keep_0 {n : Nat} {Q : Zr → Prop} {d : Nat} (s : Zs) (hd : isSt d = true)
    (h0 : ∀ m, m < n → zC m 772 [((((zrho 137 ((s 88 1).toNat)) : Nat) : Int), 0), (((d : Nat) : Int), 0)] s (fun p => zT (zE 129) (Pt PX1_keep) m (13, [((88 : Nat) : Int), ((d : Nat) : Int)], p.1 ++ [], p.2) Q)) : zT (zE 129) (Pt PX1_keep) n (0, [((88 : Nat) : Int), ((d : Nat) : Int)], [], s) Q := by
  refine tL ((88 : Nat) : Int) 0 rfl rfl rfl ?_
  refine tFR (c := 88) 137 rfl rfl rfl rfl rfl ?_
  refine tL ((88 : Nat) : Int) 0 rfl rfl rfl ?_
  refine tFv (c := 88) (s 88 1) 0 rfl rfl rfl rfl rfl ?_
  refine tAR (zrho 137 ((s 88 1).toNat)) rfl rfl ?_
  refine tL ((d : Nat) : Int) 0 rfl rfl rfl ?_
  exact tCall [((((zrho 137 ((s 88 1).toNat)) : Nat) : Int), 0), (((d : Nat) : Int), 0)] [] rfl rfl rfl (fun m l => h0 m (Nat.lt_of_lt_of_le l (Nat.le_refl n)))

theorem b_X1_keep_13 {n : Nat} {Q : Zr → Prop} {d : Nat} (s : Zs) (hd : isSt d = true)
    (h0 : Q ([], zu (zu s 88 1 (zrem (w32 ((s 88 1) + 1)) 16)) 88 0 (if w32 ((s 88 0) + 1) < 16 then w32 ((s 88 0) + 1) else 16))) : zT (zE 129) (Pt PX1_keep) n (13, [((88 : Nat) : Int), ((d : Nat) : Int)], [], s) Q := by
  refine tL ((88 : Nat) : Int) 0 rfl rfl rfl ?_
  refine tL ((88 : Nat) : Int) 0 rfl rfl rfl ?_
  refine tFv (c := 88) (s 88 1) 0 rfl rfl rfl rfl rfl ?_
  refine tK rfl ?_
  refine tB (v := w32 ((s 88 1) + 1)) rfl rfl ?_
  refine tK rfl ?_
  refine tB (v := zrem (w32 ((s 88 1) + 1)) 16) rfl rfl ?_
  refine tPut 88 rfl rfl ?_
  refine tL ((88 : Nat) : Int) 0 rfl rfl rfl ?_
  refine tK rfl ?_
  refine tL ((88 : Nat) : Int) 0 rfl rfl rfl ?_
  refine tFv (c := 88) (s 88 0) 0 rfl rfl rfl rfl rfl ?_
  refine tK rfl ?_
  refine tB (v := w32 ((s 88 0) + 1)) rfl rfl ?_
  refine tE1 rfl rfl ?_
  refine tPut 88 rfl rfl ?_
  exact tR rfl (h0)

theorem c_X1_keep {n : Nat} {Q : Zr → Prop} {a0 a1 : Int} {s : Zs} (h : zT (zE 129) (Pt PX1_keep) n (0, [a0, a1], [], s) Q) : zC n 129 [(a0, 0), (a1, 0)] s Q := h

theorem b_X1_takeBack_0 {n : Nat} {Q : Zr → Prop} {d : Nat} (s : Zs) (hd : isSt d = true)
    (h0 : ∀ (g1 : s 88 0 ≠ 0), ∀ m, m < n → zC m 772 [(((d : Nat) : Int), 0), ((((zrho 137 ((zrem (w32 ((w32 ((s 88 1) + 16)) - 1)) 16).toNat)) : Nat) : Int), 0)] (zu (zu s 88 1 (zrem (w32 ((w32 ((s 88 1) + 16)) - 1)) 16)) 88 0 (w32 ((s 88 0) - 1))) (fun p => zT (zE 130) (Pt PX1_takeBack) m (48, [((88 : Nat) : Int), ((d : Nat) : Int)], p.1 ++ [], p.2) Q))
    (h1 : ∀ (g1 : s 88 0 = 0), Q ([(0, 0)], s)) : zT (zE 130) (Pt PX1_takeBack) n (0, [((88 : Nat) : Int), ((d : Nat) : Int)], [], s) Q := by
  refine tL ((88 : Nat) : Int) 0 rfl rfl rfl ?_
  refine tFv (c := 88) (s 88 0) 0 rfl rfl rfl rfl rfl ?_
  refine tI1 rfl (fun g1 _ l1 => zT_le ?_ (Nat.le_of_lt l1)) (fun g1 _ l1 => zT_le ?_ (Nat.le_of_lt l1))
  · refine tL ((88 : Nat) : Int) 0 rfl rfl rfl ?_
    refine tL ((88 : Nat) : Int) 0 rfl rfl rfl ?_
    refine tFv (c := 88) (s 88 1) 0 rfl rfl rfl rfl rfl ?_
    refine tK rfl ?_
    refine tB (v := w32 ((s 88 1) + 16)) rfl rfl ?_
    refine tK rfl ?_
    refine tB (v := w32 ((w32 ((s 88 1) + 16)) - 1)) rfl rfl ?_
    refine tK rfl ?_
    refine tB (v := zrem (w32 ((w32 ((s 88 1) + 16)) - 1)) 16) rfl rfl ?_
    refine tPut 88 rfl rfl ?_
    refine tL ((88 : Nat) : Int) 0 rfl rfl rfl ?_
    refine tD rfl ?_
    refine tFv (c := 88) (s 88 0) 0 rfl rfl rfl rfl rfl ?_
    refine tK rfl ?_
    refine tB (v := w32 ((s 88 0) - 1)) rfl rfl ?_
    refine tPut 88 rfl rfl ?_
    refine tL ((d : Nat) : Int) 0 rfl rfl rfl ?_
    refine tL ((88 : Nat) : Int) 0 rfl rfl rfl ?_
    refine tFR (c := 88) 137 rfl rfl rfl rfl rfl ?_
    refine tL ((88 : Nat) : Int) 0 rfl rfl rfl ?_
    refine tFv (c := 88) (zrem (w32 ((w32 ((s 88 1) + 16)) - 1)) 16) 0 rfl rfl rfl rfl rfl ?_
    refine tAR (zrho 137 ((zrem (w32 ((w32 ((s 88 1) + 16)) - 1)) 16).toNat)) rfl rfl ?_
    exact tCall [(((d : Nat) : Int), 0), ((((zrho 137 ((zrem (w32 ((w32 ((s 88 1) + 16)) - 1)) 16).toNat)) : Nat) : Int), 0)] [] rfl rfl rfl (fun m l => h0 g1 m (Nat.lt_of_lt_of_le l (Nat.le_refl n)))
  · refine tK rfl ?_
    exact tR rfl (h1 g1)

theorem b_X1_takeBack_48 {n : Nat} {Q : Zr → Prop} {d : Nat} (s : Zs) (hd : isSt d = true)
    (h0 : Q ([(1, 0)], s)) : zT (zE 130) (Pt PX1_takeBack) n (48, [((88 : Nat) : Int), ((d : Nat) : Int)], [], s) Q := by
  refine tK rfl ?_
  exact tR rfl (h0)

theorem c_X1_takeBack {n : Nat} {Q : Zr → Prop} {a0 a1 : Int} {s : Zs} (h : zT (zE 130) (Pt PX1_takeBack) n (0, [a0, a1], [], s) Q) : zC n 130 [(a0, 0), (a1, 0)] s Q := h

theorem b_X10_steal_0 {n : Nat} {Q : Zr → Prop} {t : Nat} (x1 x2 : Int) (s : Zs) (ht : t = 7 ∨ t = 43)
    (h0 : ∀ m, m < n → zC m 772 [(((82 : Nat) : Int), 0), (((79 : Nat) : Int), 0)] s (fun p => zT (zE 1315) (Pt PX10_steal) m (11, [((0 : Nat) : Int), x1, x2], p.1 ++ [], p.2) Q)) : zT (zE 1315) (Pt PX10_steal) n (0, [((0 : Nat) : Int), x1, x2], [], s) Q := by
  refine tL ((0 : Nat) : Int) 0 rfl rfl rfl ?_
  refine tFR (c := 0) 82 rfl rfl rfl rfl rfl ?_
  refine tL ((0 : Nat) : Int) 0 rfl rfl rfl ?_
  refine tFR (c := 0) 79 rfl rfl rfl rfl rfl ?_
  exact tCall [(((82 : Nat) : Int), 0), (((79 : Nat) : Int), 0)] [] rfl rfl rfl (fun m l => h0 m (Nat.lt_of_lt_of_le l (Nat.le_refl n)))

theorem b_X10_steal_11 {n : Nat} {Q : Zr → Prop} {t : Nat} (x1 x2 : Int) (s : Zs) (ht : t = 7 ∨ t = 43)
    (h0 : ∀ m, m < n → zC m 779 [(((79 : Nat) : Int), 0), (s 0 3, 0), (x1, 0)] s (fun p => zT (zE 1315) (Pt PX10_steal) m (23, [((0 : Nat) : Int), x1, x2], p.1 ++ [], p.2) Q)) : zT (zE 1315) (Pt PX10_steal) n (11, [((0 : Nat) : Int), x1, x2], [], s) Q := by
  refine tL ((0 : Nat) : Int) 0 rfl rfl rfl ?_
  refine tFR (c := 0) 79 rfl rfl rfl rfl rfl ?_
  refine tL ((0 : Nat) : Int) 0 rfl rfl rfl ?_
  refine tFv (c := 0) (s 0 3) 0 rfl rfl rfl rfl rfl ?_
  refine tL x1 0 rfl rfl rfl ?_
  exact tCall [(((79 : Nat) : Int), 0), (s 0 3, 0), (x1, 0)] [] rfl rfl rfl (fun m l => h0 m (Nat.lt_of_lt_of_le l (Nat.le_refl n)))

theorem b_X10_steal_23 {n : Nat} {Q : Zr → Prop} {t : Nat} (x1 x2 v0 : Int) (s : Zs) (ht : t = 7 ∨ t = 43)
    (h0 : ∀ (g1 : v0 = (-1)), Q ([(v0, 0)], s))
    (h1 : ∀ (g1 : v0 ≠ (-1)), ∀ m, m < n → zC m 129 [(((88 : Nat) : Int), 0), (((82 : Nat) : Int), 0)] s (fun p => zT (zE 1315) (Pt PX10_steal) m (40, [((0 : Nat) : Int), x1, v0], p.1 ++ [], p.2) Q)) : zT (zE 1315) (Pt PX10_steal) n (23, [((0 : Nat) : Int), x1, x2], [(v0, 0)], s) Q := by
  refine tS [((0 : Nat) : Int), x1, v0] rfl rfl ?_
  refine tL v0 0 rfl rfl rfl ?_
  refine tK rfl ?_
  refine tJ0 rfl (fun g1 _ l1 => zT_le ?_ (Nat.le_of_lt l1)) (fun g1 _ l1 => zT_le ?_ (Nat.le_of_lt l1))
  · refine tL v0 0 rfl rfl rfl ?_
    exact tR rfl (h0 g1)
  · refine tL ((0 : Nat) : Int) 0 rfl rfl rfl ?_
    refine tFR (c := 0) 88 rfl rfl rfl rfl rfl ?_
    refine tL ((0 : Nat) : Int) 0 rfl rfl rfl ?_
    refine tFR (c := 0) 82 rfl rfl rfl rfl rfl ?_
    exact tCall [(((88 : Nat) : Int), 0), (((82 : Nat) : Int), 0)] [] rfl rfl rfl (fun m l => h1 g1 m (Nat.lt_of_lt_of_le l (Nat.le_refl n)))

theorem b_X10_steal_40 {n : Nat} {Q : Zr → Prop} {t : Nat} (x1 x2 : Int) (s : Zs) (ht : t = 7 ∨ t = 43)
    (h0 : Q ([(x2, 0)], s)) : zT (zE 1315) (Pt PX10_steal) n (40, [((0 : Nat) : Int), x1, x2], [], s) Q := by
  refine tL x2 0 rfl rfl rfl ?_
  exact tR rfl (h0)

theorem c_X10_steal {n : Nat} {Q : Zr → Prop} {a0 a1 : Int} {s : Zs} (h : zT (zE 1315) (Pt PX10_steal) n (0, [a0, a1, 0], [], s) Q) : zC n 1315 [(a0, 0), (a1, 0)] s Q := h

theorem b_X10_build_0 {n : Nat} {Q : Zr → Prop} {t : Nat} (x1 x2 : Int) (s : Zs) (ht : t = 7 ∨ t = 43)
    (h0 : ∀ m, m < n → zC m 772 [(((82 : Nat) : Int), 0), (((79 : Nat) : Int), 0)] s (fun p => zT (zE 1284) (Pt PX10_build) m (11, [((0 : Nat) : Int), x1, x2], p.1 ++ [], p.2) Q)) : zT (zE 1284) (Pt PX10_build) n (0, [((0 : Nat) : Int), x1, x2], [], s) Q := by
  refine tL ((0 : Nat) : Int) 0 rfl rfl rfl ?_
  refine tFR (c := 0) 82 rfl rfl rfl rfl rfl ?_
  refine tL ((0 : Nat) : Int) 0 rfl rfl rfl ?_
  refine tFR (c := 0) 79 rfl rfl rfl rfl rfl ?_
  exact tCall [(((82 : Nat) : Int), 0), (((79 : Nat) : Int), 0)] [] rfl rfl rfl (fun m l => h0 m (Nat.lt_of_lt_of_le l (Nat.le_refl n)))

theorem b_X10_build_11 {n : Nat} {Q : Zr → Prop} {t : Nat} (x1 x2 : Int) (s : Zs) (ht : t = 7 ∨ t = 43)
    (h0 : ∀ m, m < n → zC m 769 [(((79 : Nat) : Int), 0), (s 0 3, 0), (x1, 0)] s (fun p => zT (zE 1284) (Pt PX10_build) m (23, [((0 : Nat) : Int), x1, x2], p.1 ++ [], p.2) Q)) : zT (zE 1284) (Pt PX10_build) n (11, [((0 : Nat) : Int), x1, x2], [], s) Q := by
  refine tL ((0 : Nat) : Int) 0 rfl rfl rfl ?_
  refine tFR (c := 0) 79 rfl rfl rfl rfl rfl ?_
  refine tL ((0 : Nat) : Int) 0 rfl rfl rfl ?_
  refine tFv (c := 0) (s 0 3) 0 rfl rfl rfl rfl rfl ?_
  refine tL x1 0 rfl rfl rfl ?_
  exact tCall [(((79 : Nat) : Int), 0), (s 0 3, 0), (x1, 0)] [] rfl rfl rfl (fun m l => h0 m (Nat.lt_of_lt_of_le l (Nat.le_refl n)))

theorem b_X10_build_23 {n : Nat} {Q : Zr → Prop} {t : Nat} (x1 x2 v0 : Int) (s : Zs) (ht : t = 7 ∨ t = 43)
    (h0 : ∀ (g1 : v0 = (-1)), Q ([(v0, 0)], s))
    (h1 : ∀ (g1 : v0 ≠ (-1)), ∀ m, m < n → zC m 129 [(((88 : Nat) : Int), 0), (((82 : Nat) : Int), 0)] s (fun p => zT (zE 1284) (Pt PX10_build) m (40, [((0 : Nat) : Int), x1, v0], p.1 ++ [], p.2) Q)) : zT (zE 1284) (Pt PX10_build) n (23, [((0 : Nat) : Int), x1, x2], [(v0, 0)], s) Q := by
  refine tS [((0 : Nat) : Int), x1, v0] rfl rfl ?_
  refine tL v0 0 rfl rfl rfl ?_
  refine tK rfl ?_
  refine tJ0 rfl (fun g1 _ l1 => zT_le ?_ (Nat.le_of_lt l1)) (fun g1 _ l1 => zT_le ?_ (Nat.le_of_lt l1))
  · refine tL v0 0 rfl rfl rfl ?_
    exact tR rfl (h0 g1)
  · refine tL ((0 : Nat) : Int) 0 rfl rfl rfl ?_
    refine tFR (c := 0) 88 rfl rfl rfl rfl rfl ?_
    refine tL ((0 : Nat) : Int) 0 rfl rfl rfl ?_
    refine tFR (c := 0) 82 rfl rfl rfl rfl rfl ?_
    exact tCall [(((88 : Nat) : Int), 0), (((82 : Nat) : Int), 0)] [] rfl rfl rfl (fun m l => h1 g1 m (Nat.lt_of_lt_of_le l (Nat.le_refl n)))

theorem b_X10_build_40 {n : Nat} {Q : Zr → Prop} {t : Nat} (x1 x2 : Int) (s : Zs) (ht : t = 7 ∨ t = 43)
    (h0 : Q ([(x2, 0)], s)) : zT (zE 1284) (Pt PX10_build) n (40, [((0 : Nat) : Int), x1, x2], [], s) Q := by
  refine tL x2 0 rfl rfl rfl ?_
  exact tR rfl (h0)

theorem c_X10_build {n : Nat} {Q : Zr → Prop} {a0 a1 : Int} {s : Zs} (h : zT (zE 1284) (Pt PX10_build) n (0, [a0, a1, 0], [], s) Q) : zC n 1284 [(a0, 0), (a1, 0)] s Q := h

theorem b_X10_go_0 {n : Nat} {Q : Zr → Prop} {t : Nat} (x1 x2 x3 : Int) (s : Zs) (ht : t = 7 ∨ t = 43)
    (h0 : ∀ m, m < n → zC m 772 [(((82 : Nat) : Int), 0), (((79 : Nat) : Int), 0)] s (fun p => zT (zE 1299) (Pt PX10_go) m (11, [((0 : Nat) : Int), x1, x2, x3], p.1 ++ [], p.2) Q)) : zT (zE 1299) (Pt PX10_go) n (0, [((0 : Nat) : Int), x1, x2, x3], [], s) Q := by
  refine tL ((0 : Nat) : Int) 0 rfl rfl rfl ?_
  refine tFR (c := 0) 82 rfl rfl rfl rfl rfl ?_
  refine tL ((0 : Nat) : Int) 0 rfl rfl rfl ?_
  refine tFR (c := 0) 79 rfl rfl rfl rfl rfl ?_
  exact tCall [(((82 : Nat) : Int), 0), (((79 : Nat) : Int), 0)] [] rfl rfl rfl (fun m l => h0 m (Nat.lt_of_lt_of_le l (Nat.le_refl n)))

theorem b_X10_go_11 {n : Nat} {Q : Zr → Prop} {t : Nat} (x1 x2 x3 : Int) (s : Zs) (ht : t = 7 ∨ t = 43)
    (h0 : ∀ m, m < n → zC m 774 [(((79 : Nat) : Int), 0), (s 0 3, 0), (x1, 0), (x2, 0)] s (fun p => zT (zE 1299) (Pt PX10_go) m (24, [((0 : Nat) : Int), x1, x2, x3], p.1 ++ [], p.2) Q)) : zT (zE 1299) (Pt PX10_go) n (11, [((0 : Nat) : Int), x1, x2, x3], [], s) Q := by
  refine tL ((0 : Nat) : Int) 0 rfl rfl rfl ?_
  refine tFR (c := 0) 79 rfl rfl rfl rfl rfl ?_
  refine tL ((0 : Nat) : Int) 0 rfl rfl rfl ?_
  refine tFv (c := 0) (s 0 3) 0 rfl rfl rfl rfl rfl ?_
  refine tL x1 0 rfl rfl rfl ?_
  refine tL x2 0 rfl rfl rfl ?_
  exact tCall [(((79 : Nat) : Int), 0), (s 0 3, 0), (x1, 0), (x2, 0)] [] rfl rfl rfl (fun m l => h0 m (Nat.lt_of_lt_of_le l (Nat.le_refl n)))

theorem b_X10_go_24 {n : Nat} {Q : Zr → Prop} {t : Nat} (x1 x2 x3 v0 : Int) (s : Zs) (ht : t = 7 ∨ t = 43)
    (h0 : ∀ (g1 : v0 = 0), Q ([(v0, 0)], s))
    (h1 : ∀ (g1 : v0 ≠ 0), ∀ m, m < n → zC m 129 [(((88 : Nat) : Int), 0), (((82 : Nat) : Int), 0)] s (fun p => zT (zE 1299) (Pt PX10_go) m (40, [((0 : Nat) : Int), x1, x2, v0], p.1 ++ [], p.2) Q)) : zT (zE 1299) (Pt PX10_go) n (24, [((0 : Nat) : Int), x1, x2, x3], [(v0, 0)], s) Q := by
  refine tS [((0 : Nat) : Int), x1, x2, v0] rfl rfl ?_
  refine tL v0 0 rfl rfl rfl ?_
  refine tI0 rfl (fun g1 _ l1 => zT_le ?_ (Nat.le_of_lt l1)) (fun g1 _ l1 => zT_le ?_ (Nat.le_of_lt l1))
  · refine tL v0 0 rfl rfl rfl ?_
    exact tR rfl (h0 g1)
  · refine tL ((0 : Nat) : Int) 0 rfl rfl rfl ?_
    refine tFR (c := 0) 88 rfl rfl rfl rfl rfl ?_
    refine tL ((0 : Nat) : Int) 0 rfl rfl rfl ?_
    refine tFR (c := 0) 82 rfl rfl rfl rfl rfl ?_
    exact tCall [(((88 : Nat) : Int), 0), (((82 : Nat) : Int), 0)] [] rfl rfl rfl (fun m l => h1 g1 m (Nat.lt_of_lt_of_le l (Nat.le_refl n)))

theorem b_X10_go_40 {n : Nat} {Q : Zr → Prop} {t : Nat} (x1 x2 x3 : Int) (s : Zs) (ht : t = 7 ∨ t = 43)
    (h0 : Q ([(x3, 0)], s)) : zT (zE 1299) (Pt PX10_go) n (40, [((0 : Nat) : Int), x1, x2, x3], [], s) Q := by
  refine tL x3 0 rfl rfl rfl ?_
  exact tR rfl (h0)

theorem c_X10_go {n : Nat} {Q : Zr → Prop} {a0 a1 a2 : Int} {s : Zs} (h : zT (zE 1299) (Pt PX10_go) n (0, [a0, a1, a2, 0], [], s) Q) : zC n 1299 [(a0, 0), (a1, 0), (a2, 0)] s Q := h

theorem b_X10_carry_0 {n : Nat} {Q : Zr → Prop} {t : Nat} (x1 x2 x3 x4 : Int) (s : Zs) (ht : t = 7 ∨ t = 43)
    (h0 : ∀ m, m < n → zC m 772 [(((82 : Nat) : Int), 0), (((79 : Nat) : Int), 0)] s (fun p => zT (zE 1285) (Pt PX10_carry) m (11, [((0 : Nat) : Int), x1, x2, x3, x4], p.1 ++ [], p.2) Q)) : zT (zE 1285) (Pt PX10_carry) n (0, [((0 : Nat) : Int), x1, x2, x3, x4], [], s) Q := by
  refine tL ((0 : Nat) : Int) 0 rfl rfl rfl ?_
  refine tFR (c := 0) 82 rfl rfl rfl rfl rfl ?_
  refine tL ((0 : Nat) : Int) 0 rfl rfl rfl ?_
  refine tFR (c := 0) 79 rfl rfl rfl rfl rfl ?_
  exact tCall [(((82 : Nat) : Int), 0), (((79 : Nat) : Int), 0)] [] rfl rfl rfl (fun m l => h0 m (Nat.lt_of_lt_of_le l (Nat.le_refl n)))

theorem b_X10_carry_11 {n : Nat} {Q : Zr → Prop} {t : Nat} (x1 x2 x3 x4 : Int) (s : Zs) (ht : t = 7 ∨ t = 43)
    (h0 : ∀ m, m < n → zC m 770 [(((79 : Nat) : Int), 0), (s 0 3, 0), (x1, 0), (x2, 0), (x3, 0)] s (fun p => zT (zE 1285) (Pt PX10_carry) m (25, [((0 : Nat) : Int), x1, x2, x3, x4], p.1 ++ [], p.2) Q)) : zT (zE 1285) (Pt PX10_carry) n (11, [((0 : Nat) : Int), x1, x2, x3, x4], [], s) Q := by
  refine tL ((0 : Nat) : Int) 0 rfl rfl rfl ?_
  refine tFR (c := 0) 79 rfl rfl rfl rfl rfl ?_
  refine tL ((0 : Nat) : Int) 0 rfl rfl rfl ?_
  refine tFv (c := 0) (s 0 3) 0 rfl rfl rfl rfl rfl ?_
  refine tL x1 0 rfl rfl rfl ?_
  refine tL x2 0 rfl rfl rfl ?_
  refine tL x3 0 rfl rfl rfl ?_
  exact tCall [(((79 : Nat) : Int), 0), (s 0 3, 0), (x1, 0), (x2, 0), (x3, 0)] [] rfl rfl rfl (fun m l => h0 m (Nat.lt_of_lt_of_le l (Nat.le_refl n)))

theorem b_X10_carry_25 {n : Nat} {Q : Zr → Prop} {t : Nat} (x1 x2 x3 x4 v0 : Int) (s : Zs) (ht : t = 7 ∨ t = 43)
    (h0 : ∀ (g1 : v0 = 0), Q ([(v0, 0)], s))
    (h1 : ∀ (g1 : v0 ≠ 0), ∀ m, m < n → zC m 129 [(((88 : Nat) : Int), 0), (((82 : Nat) : Int), 0)] s (fun p => zT (zE 1285) (Pt PX10_carry) m (43, [((0 : Nat) : Int), x1, x2, x3, v0], p.1 ++ [], p.2) Q)) : zT (zE 1285) (Pt PX10_carry) n (25, [((0 : Nat) : Int), x1, x2, x3, x4], [(v0, 0)], s) Q := by
  refine tS [((0 : Nat) : Int), x1, x2, x3, v0] rfl rfl ?_
  refine tL v0 0 rfl rfl rfl ?_
  refine tI0 rfl (fun g1 _ l1 => zT_le ?_ (Nat.le_of_lt l1)) (fun g1 _ l1 => zT_le ?_ (Nat.le_of_lt l1))
  · refine tL v0 0 rfl rfl rfl ?_
    exact tR rfl (h0 g1)
  · refine tL ((0 : Nat) : Int) 0 rfl rfl rfl ?_
    refine tFR (c := 0) 88 rfl rfl rfl rfl rfl ?_
    refine tL ((0 : Nat) : Int) 0 rfl rfl rfl ?_
    refine tFR (c := 0) 82 rfl rfl rfl rfl rfl ?_
    exact tCall [(((88 : Nat) : Int), 0), (((82 : Nat) : Int), 0)] [] rfl rfl rfl (fun m l => h1 g1 m (Nat.lt_of_lt_of_le l (Nat.le_refl n)))

theorem b_X10_carry_43 {n : Nat} {Q : Zr → Prop} {t : Nat} (x1 x2 x3 x4 : Int) (s : Zs) (ht : t = 7 ∨ t = 43)
    (h0 : Q ([(x4, 0)], s)) : zT (zE 1285) (Pt PX10_carry) n (43, [((0 : Nat) : Int), x1, x2, x3, x4], [], s) Q := by
  refine tL x4 0 rfl rfl rfl ?_
  exact tR rfl (h0)

theorem c_X10_carry {n : Nat} {Q : Zr → Prop} {a0 a1 a2 a3 : Int} {s : Zs} (h : zT (zE 1285) (Pt PX10_carry) n (0, [a0, a1, a2, a3, 0], [], s) Q) : zC n 1285 [(a0, 0), (a1, 0), (a2, 0), (a3, 0)] s Q := h

theorem b_X10_night_0 {n : Nat} {Q : Zr → Prop} {t : Nat} (s : Zs) (ht : t = 7 ∨ t = 43)
    (h0 : ∀ m, m < n → zC m 129 [(((88 : Nat) : Int), 0), (((79 : Nat) : Int), 0)] s (fun p => zT (zE 1303) (Pt PX10_night) m (11, [((0 : Nat) : Int)], p.1 ++ [], p.2) Q)) : zT (zE 1303) (Pt PX10_night) n (0, [((0 : Nat) : Int)], [], s) Q := by
  refine tL ((0 : Nat) : Int) 0 rfl rfl rfl ?_
  refine tFR (c := 0) 88 rfl rfl rfl rfl rfl ?_
  refine tL ((0 : Nat) : Int) 0 rfl rfl rfl ?_
  refine tFR (c := 0) 79 rfl rfl rfl rfl rfl ?_
  exact tCall [(((88 : Nat) : Int), 0), (((79 : Nat) : Int), 0)] [] rfl rfl rfl (fun m l => h0 m (Nat.lt_of_lt_of_le l (Nat.le_refl n)))

theorem b_X10_night_11 {n : Nat} {Q : Zr → Prop} {t : Nat} (s : Zs) (ht : t = 7 ∨ t = 43)
    (h0 : Q ([(w32 ((s 79 4) + 1), 0)], zu s 79 4 (w32 ((s 79 4) + 1)))) : zT (zE 1303) (Pt PX10_night) n (11, [((0 : Nat) : Int)], [], s) Q := by
  refine tL ((0 : Nat) : Int) 0 rfl rfl rfl ?_
  refine tFR (c := 0) 79 rfl rfl rfl rfl rfl ?_
  refine tD rfl ?_
  refine tFv (c := 79) (s 79 4) 0 rfl rfl rfl rfl rfl ?_
  refine tK rfl ?_
  refine tB (v := w32 ((s 79 4) + 1)) rfl rfl ?_
  refine tPut 79 rfl rfl ?_
  refine tL ((0 : Nat) : Int) 0 rfl rfl rfl ?_
  refine tFR (c := 0) 79 rfl rfl rfl rfl rfl ?_
  refine tFv (c := 79) (w32 ((s 79 4) + 1)) 0 rfl rfl rfl rfl rfl ?_
  exact tR rfl (h0)

theorem c_X10_night {n : Nat} {Q : Zr → Prop} {a0 : Int} {s : Zs} (h : zT (zE 1303) (Pt PX10_night) n (0, [a0], [], s) Q) : zC n 1303 [(a0, 0)] s Q := h

theorem b_X10_undo_0 {n : Nat} {Q : Zr → Prop} {t : Nat} (s : Zs) (ht : t = 7 ∨ t = 43)
    (h0 : ∀ m, m < n → zC m 130 [(((88 : Nat) : Int), 0), (((79 : Nat) : Int), 0)] s (fun p => zT (zE 1319) (Pt PX10_undo) m (11, [((0 : Nat) : Int)], p.1 ++ [], p.2) Q)) : zT (zE 1319) (Pt PX10_undo) n (0, [((0 : Nat) : Int)], [], s) Q := by
  refine tL ((0 : Nat) : Int) 0 rfl rfl rfl ?_
  refine tFR (c := 0) 88 rfl rfl rfl rfl rfl ?_
  refine tL ((0 : Nat) : Int) 0 rfl rfl rfl ?_
  refine tFR (c := 0) 79 rfl rfl rfl rfl rfl ?_
  exact tCall [(((88 : Nat) : Int), 0), (((79 : Nat) : Int), 0)] [] rfl rfl rfl (fun m l => h0 m (Nat.lt_of_lt_of_le l (Nat.le_refl n)))

theorem b_X10_undo_11 {n : Nat} {Q : Zr → Prop} {t : Nat} (v0 : Int) (s : Zs) (ht : t = 7 ∨ t = 43)
    (h0 : Q ([(v0, 0)], s)) : zT (zE 1319) (Pt PX10_undo) n (11, [((0 : Nat) : Int)], [(v0, 0)], s) Q := by
  exact tR rfl (h0)

theorem c_X10_undo {n : Nat} {Q : Zr → Prop} {a0 : Int} {s : Zs} (h : zT (zE 1319) (Pt PX10_undo) n (0, [a0], [], s) Q) : zC n 1319 [(a0, 0)] s Q := h

/-! what a night does -/
def stlT (S : ZS) (f : Nat) : ZS := (ndf (sTh S) (2 ^ f), S.2)
def bldT (D : ZD) (S : ZS) (f : Nat) : ZS := (sTh S ||| 2 ^ f, S.2.1, S.2.2.1, w32 (sHp S - colD D 12 f), sNi S)
def goT (S : ZS) (p : Nat) (x : Int) : ZS := (S.1, (fun q => if q = p then x else S.2.1 q), S.2.2)
def carT (S : ZS) (p i : Nat) (x : Int) : ZS := (S.1, (fun q => if q = p then x else S.2.1 q), (fun q => if q = i then x else S.2.2.1 q), S.2.2.2)
def nigT (S : ZS) : ZS := (S.1, S.2.1, S.2.2.1, S.2.2.2.1, w32 (sNi S + 1))
def begT (D : ZD) : ZS := (2 ^ cnt D 1 - 1, (fun p => colD D 30 p), (fun i => colD D 21 i), dHeap D, 0)
def canS (D : ZD) (S : ZS) (x : Int) : Prop := 0 ≤ x ∧ x < cnt D 1 ∧ (sTh S).testBit x.toNat = true ∧ abv D x.toNat &&& sTh S = 0
def canB (D : ZD) (S : ZS) (x : Int) : Prop := 0 ≤ x ∧ x < cnt D 1 ∧ ¬ (sTh S).testBit x.toNat = true ∧ colD D 12 x.toNat ≤ sHp S
def canG (D : ZD) (S : ZS) (x y : Int) : Prop := 0 ≤ x ∧ x < cnt D 3 ∧ plI D y ∧ wok D (opn D S x.toNat (-1)) (sPe S x.toNat).toNat y.toNat
def canC (D : ZD) (S : ZS) (x i y : Int) : Prop := 0 ≤ x ∧ x < cnt D 3 ∧ 0 ≤ i ∧ i < cnt D 2 ∧ sTg S i.toNat = sPe S x.toNat ∧ plI D y ∧ wok D (opn D S x.toNat i) (sPe S x.toNat).toNat y.toNat
theorem wS_stl {D : ZD} {S : ZS} (hw : wD D) (h : wS D S) (f : Nat) : wS D (stlT S f) := by
  have b := wS_lt hw h
  exact ⟨Nat.lt_of_le_of_lt (ndf_le (by omega)) h.1, h.2⟩
theorem bld_hp {D : ZD} {S : ZS} (hw : wD D) (hX : wX D) (h : wS D S) {x : Int} (c : canB D S x) : sHp (bldT D S x.toNat) = sHp S - colD D 12 x.toNat ∧ 0 ≤ sHp (bldT D S x.toNat) ∧ sHp (bldT D S x.toNat) ≤ 999 := by
  obtain ⟨k, rfl⟩ := Int.eq_ofNat_of_zero_le c.1
  have hk : k < cnt D 1 := by have := c.2.1; omega
  have r := hX.2.1 _ (col_mem' hw (k := 1) (j := 2) (by omega) (by omega) (by decide) hk)
  have r : 1 ≤ colD D 12 k ∧ colD D 12 k ≤ 40 := r
  have c4 : colD D 12 k ≤ sHp S := c.2.2.2
  have b := h.2.2.2
  have e : sHp (bldT D S k) = sHp S - colD D 12 k := w32_id (by omega) (by omega)
  show sHp (bldT D S k) = _ ∧ 0 ≤ sHp (bldT D S k) ∧ sHp (bldT D S k) ≤ 999
  rw [e]
  show _ = sHp S - colD D 12 k ∧ _
  omega
theorem wS_bld {D : ZD} {S : ZS} (hw : wD D) (hX : wX D) (h : wS D S) {x : Int} (c : canB D S x) : wS D (bldT D S x.toNat) := by
  have b := bld_hp hw hX h c
  have := c.1
  have := c.2.1
  exact ⟨Nat.or_lt_two_pow h.1 (Nat.pow_lt_pow_right (by decide) (by omega)), h.2.1, h.2.2.1, b.2.1, b.2.2⟩
theorem wS_go {D : ZD} {S : ZS} (h : wS D S) {p : Nat} {x : Int} (hx : plI D x) : wS D (goT S p x) := ⟨h.1, fun q hq => by
  show plI D (if q = p then x else S.2.1 q)
  split
  · exact hx
  · exact h.2.1 q hq, h.2.2⟩
theorem wS_car {D : ZD} {S : ZS} (h : wS D S) {p i : Nat} {x : Int} (hx : plI D x) : wS D (carT S p i x) := ⟨h.1, fun q hq => by
  show plI D (if q = p then x else S.2.1 q)
  split
  · exact hx
  · exact h.2.1 q hq, fun q hq => by
  show plI D (if q = i then x else S.2.2.1 q)
  split
  · exact hx
  · exact h.2.2.1 q hq, h.2.2.2⟩
theorem wS_nig {D : ZD} {S : ZS} (h : wS D S) : wS D (nigT S) := h
theorem wS_beg {D : ZD} (hw : wD D) (hX : wX D) (hh : 0 ≤ dHeap D ∧ dHeap D ≤ 999) : wS D (begT D) := by
  refine ⟨?_, fun p hp => ?_, fun i hi => ?_, hh.1, hh.2⟩
  · have : 0 < 2 ^ cnt D 1 := Nat.two_pow_pos _
    show 2 ^ cnt D 1 - 1 < _
    omega
  · exact hX.2.2.2.2.2.1 _ (col_mem' hw (k := 3) (j := 0) (by omega) (by omega) (by decide) hp)
  · exact hX.2.2.2.2.1 _ (col_mem' hw (k := 2) (j := 1) (by omega) (by omega) (by decide) hi)
theorem st_apart : (stcL.all fun b => stcL.all fun d => b == d || decide (b + 3 ≤ d) || decide (d + 3 ≤ b)) = true := by decide +kernel
theorem st_ap {b d : Nat} (hb : isSt b = true) (hd : isSt d = true) (h : b ≠ d) : b + 3 ≤ d ∨ d + 3 ≤ b := by
  have := List.all_eq_true.mp (List.all_eq_true.mp st_apart b (List.contains_iff_mem.mp hb)) d (List.contains_iff_mem.mp hd)
  rw [Bool.or_eq_true, Bool.or_eq_true, decide_eq_true_eq, decide_eq_true_eq, beq_iff_eq] at this
  omega
theorem st_far : (stcL.all fun b => decide (79 ≤ b) && decide (b ≤ 147) && decide (zq_len (b + 1) = 5) && decide (zq_len (b + 2) = 4)) = true := by decide +kernel
theorem st_b {b : Nat} (hb : isSt b = true) : 79 ≤ b ∧ b ≤ 147 ∧ zq_len (b + 1) = 5 ∧ zq_len (b + 2) = 4 := by
  have := List.all_eq_true.mp st_far b (List.contains_iff_mem.mp hb)
  rw [Bool.and_eq_true, Bool.and_eq_true, Bool.and_eq_true, decide_eq_true_eq, decide_eq_true_eq, decide_eq_true_eq, decide_eq_true_eq] at this
  exact ⟨this.1.1.1, this.1.1.2, this.1.2, this.2⟩
theorem cSt_e {s s' : Zs} {b : Nat} {D : ZD} {S : ZS} (h : cSt s b D S) (e : ∀ c j, b ≤ c → c ≤ b + 2 → ¬ (c = b ∧ j = 5) → s' c j = s c j) : cSt s' b D S := by
  obtain ⟨a1, a2, a3, a4, a5⟩ := h
  exact ⟨by rw [e _ _ (by omega) (by omega) (by omega)]; exact a1, fun p hp => by rw [e _ _ (by omega) (by omega) (by omega)]; exact a2 p hp, fun p hp => by rw [e _ _ (by omega) (by omega) (by omega)]; exact a3 p hp, by rw [e _ _ (by omega) (by omega) (by omega)]; exact a4, by rw [e _ _ (by omega) (by omega) (by omega)]; exact a5⟩
/-- how many bits -/
def bcn (x : Nat) : Nat := ((List.range 10).filter fun i => x.testBit i).length
theorem bcV_all : ((List.range 1024).all fun x => decide (bcV (x : Int) = (bcn x : Int))) = true := by decide +kernel
theorem bits_ok {N : Nat} {s : Zs} {x : Nat} (h : x < 1024) : zC N 1536 [((x : Int), 0)] s (fun r => r = ([(((bcn x : Nat) : Int), 0)], s)) := by
  have e : bcV (x : Int) = (bcn x : Int) := of_decide_eq_true (List.all_eq_true.mp bcV_all x (List.mem_range.mpr h))
  refine c_J6_bitCount_0f7a4 (b_J6_bitCount_0f7a4_0 _ s ?_)
  show ([(bcV (x : Int), 0)], s) = _
  rw [e]
section Zcd
variable {N t b d : Nat} {s : Zs} {D : ZD} {S : ZS}
theorem valueOf_fr {u : Nat} (hu : u = 36 ∨ u = 72) {x1 x2 x3 : Int} : zC N 521 [((u : Int), 0), (x1, 0), (x2, 0), (x3, 0)] s (fun r => (∃ v, r.1 = [(v, 0)]) ∧ ∀ c j, c ≠ u + 2 → r.2 c j = s c j) := by
  have loop : ∀ (M : Nat) (x4 x5 x6 : Int) (s1 : Zs), (∀ c j, c ≠ u + 2 → s1 c j = s c j) → zT (zE 521) (Pt PX4_valueOf) M (6, [((u : Nat) : Int), x1, x2, x3, x4, x5, x6], [], s1) (fun r => (∃ v, r.1 = [(v, 0)]) ∧ ∀ c j, c ≠ u + 2 → r.2 c j = s c j) := by
    intro M
    induction M using Nat.strongRecOn with
    | ind M ih =>
      intro x4 x5 x6 s1 f1
      have up : ∀ (j' : Nat) (v : Int) (c j : Nat), c ≠ u + 2 → zu s1 (u + 2) j' v c j = s c j := fun j' v c j hc => by rw [zu_n (fun q => hc q.1)]; exact f1 c j hc
      have jn : ∀ (m : Nat) (y0 y1 y2 y3 : Int) (w4 w6 : Int), m < M → zC m 518 [(y0, 0), (y1, 0), (y2, 0)] s1 (fun p => zT (zE 521) (Pt PX4_valueOf) m (162, [((u : Nat) : Int), x1, x2, x3, w4, x5, w6], p.1 ++ [(y3, 0), ((((u + 2) : Nat) : Int), 0)], p.2) (fun r => (∃ v, r.1 = [(v, 0)]) ∧ ∀ c j, c ≠ u + 2 → r.2 c j = s c j)) := fun m y0 y1 y2 y3 w4 w6 hm => by
        have fin : ∀ v0 : Int, zT (zE 521) (Pt PX4_valueOf) m (162, [((u : Nat) : Int), x1, x2, x3, w4, x5, w6], [(v0, 0)] ++ [(y3, 0), ((((u + 2) : Nat) : Int), 0)], s1) (fun r => (∃ v, r.1 = [(v, 0)]) ∧ ∀ c j, c ≠ u + 2 → r.2 c j = s c j) := fun v0 => b_X4_valueOf_162 _ _ _ _ _ _ _ _ s1 hu (fun m2 hm2 => ih m2 (by omega) _ _ _ _ (up _ _))
        exact c_X4_joined (b_X4_joined_0 _ _ _ s1 (fun _ => fin _) (fun _ => fin _) (fun _ _ => fin _) (fun _ _ => fin _) (fun _ _ => fin _) (fun _ _ => fin _) (fun _ _ => fin _) (fun _ _ _ => fin _) (fun _ _ _ => fin _) (fun _ _ => fin _) (fun _ _ _ => fin _) (fun _ _ _ => fin _) (fun _ _ _ _ _ _ => fin _))
      refine b_X4_valueOf_6 _ _ _ _ _ _ s1 hu (fun _ => ⟨⟨_, rfl⟩, f1⟩) ?_ ?_ ?_ ?_ ?_ ?_ ?_ ?_ ?_ ?_ ?_ ?_ ?_ ?_ ?_ ?_ <;> intros <;> first
        | exact ih _ (by assumption) _ _ _ _ f1
        | exact ih _ (by assumption) _ _ _ _ (up _ _)
        | exact jn _ _ _ _ _ _ _ (by assumption)
  exact c_X4_valueOf (b_X4_valueOf_0 _ _ _ _ _ _ s hu (loop N 0 0 _ s (fun _ _ _ => rfl)))
theorem isThere_ok (ht : t = 7 ∨ t = 43) (hb : isSt b = true) (hd : cDn s t D) (hw : wD D) (hS : cSt s b D S) (hs : wS D S) {x : Int} : zC N 775 [((b : Int), 0), ((t : Int), 0), (x, 0)] s (fun r => r = ([(if dcP (0 ≤ x ∧ x < cnt D 1 ∧ (sTh S).testBit x.toNat = true) = true then 1 else 0, 0)], s)) := by
  have hc : s (t + 1) 1 = ((cnt D 1 : Nat) : Int) := hd.1 1 (by omega)
  have h10 : cnt D 1 ≤ 10 := hw.1 1 (by omega)
  have hl := wS_lt hw hs
  refine c_X6_isThere (b_X6_isThere_0 _ s ht hb (fun g => ?_) (fun g g2 => ?_) (fun g g2 g3 => ?_) (fun g g2 g3 => ?_))
  · show ([((0 : Int), 0)], s) = _
    rw [if_neg (by rw [dcP_no (fun q => by omega)]; decide)]
  · show ([((0 : Int), 0)], s) = _
    rw [if_neg (by rw [dcP_no (fun q => by omega)]; decide)]
  · show ([((0 : Int), 0)], s) = _
    obtain ⟨k, rfl⟩ := Int.eq_ofNat_of_zero_le g
    rw [hS.1] at g3
    rw [if_neg (by rw [dcP_no (fun q => g3 ((zbit1 (by omega) (by omega)).mpr q.2.2))]; decide)]
  · show ([((1 : Int), 0)], s) = _
    obtain ⟨k, rfl⟩ := Int.eq_ofNat_of_zero_le g
    rw [hS.1] at g3
    rw [if_pos (dcP_yes ⟨g, by omega, (zbit1 (by omega) (by omega)).mp g3⟩)]
/-- all above are away, or of the set -/
def frT1 (D : ZD) (st th : Nat) : Prop := ∀ f, f < cnt D 1 → st.testBit f = true → ndf (abv D f &&& th) st = 0
theorem fromTop_ok (ht : t = 7 ∨ t = 43) (hd : cDn s t D) (hw : wD D) (ha : ∀ f : Nat, f < cnt D 1 → s (t + 35) f = ((abv D f : Nat) : Int)) {st th : Nat} (h1 : st < 1024) (h2 : th < 1024) : zC N 1033 [((t : Int), 0), ((st : Int), 0), ((th : Int), 0)] s (fun r => r = ([(if dcP (frT1 D st th) = true then 1 else 0, 0)], s)) := by
  have hc : s (t + 1) 1 = ((cnt D 1 : Nat) : Int) := hd.1 1 (by omega)
  have h10 : cnt D 1 ≤ 10 := hw.1 1 (by omega)
  have loop : ∀ (M k : Nat), k ≤ cnt D 1 → (∀ f, f < k → st.testBit f = true → ndf (abv D f &&& th) st = 0) → zT (zE 1033) (Pt PX8_fromTop) M (2, [((t : Nat) : Int), (st : Int), (th : Int), (k : Int)], [], s) (fun r => r = ([(if dcP (frT1 D st th) = true then 1 else 0, 0)], s)) := by
    intro M
    induction M using Nat.strongRecOn with
    | ind M ih =>
      intro k hk hf
      have on : ∀ m, m < M → k < cnt D 1 → (st.testBit k = true → ndf (abv D k &&& th) st = 0) → zT (zE 1033) (Pt PX8_fromTop) m (2, [((t : Nat) : Int), (st : Int), (th : Int), w32 ((k : Int) + 1)], [], s) (fun r => r = ([(if dcP (frT1 D st th) = true then 1 else 0, 0)], s)) := fun m hm hk2 hv => by
        rw [w32_id (by omega) (by omega), show (k : Int) + 1 = ((k + 1 : Nat) : Int) from by omega]
        refine ih m hm (k + 1) (by omega) (fun f hf2 => ?_)
        by_cases e : f = k
        · rw [e]; exact hv
        · exact hf f (by omega)
      have ab : k < cnt D 1 → zand (zand (s (t + 35) (k : Int).toNat) (th : Int)) (zxor (st : Int) (-1)) = ((ndf (abv D k &&& th) st : Nat) : Int) := fun hk2 => by
        have b1 : abv D k < 1024 := bset_10 hw
        rw [Int.toNat_natCast, ha k hk2, zand_nat (by omega) (by omega), zandn (Nat.lt_of_le_of_lt Nat.and_le_left (by omega))]
      refine b_X8_fromTop_2 _ _ _ s ht (fun g => ?_) (fun g g2 m hm => ?_) (fun g g2 g3 m hm => ?_) (fun g g2 g3 => ?_)
      · have : k = cnt D 1 := by omega
        subst this
        rw [if_pos (dcP_yes (show frT1 D st th from hf))]
      · exact on m hm (by omega) (fun q => absurd ((zbit1 (by omega) (by omega)).mpr q) g2)
      · rw [ab (by omega)] at g3
        exact on m hm (by omega) (fun _ => by omega)
      · rw [ab (by omega)] at g3
        rw [if_neg (by rw [dcP_no (fun q => g3 (by rw [q k (by omega) ((zbit1 (by omega) (by omega)).mp g2)]; rfl))]; decide)]
  exact c_X8_fromTop (b_X8_fromTop_0 _ _ _ s ht (loop N 0 (by omega) (fun f hf => absurd hf (Nat.not_lt_zero f))))
theorem abv_self (f : Nat) : (abv D f).testBit f = false := by
  unfold abv
  rw [bset_tb]
  unfold abvB
  rw [decide_eq_false (show ¬ colD D 11 f < colD D 11 f by omega), Bool.and_false, Bool.and_false]
theorem frT1_one (hw : wD D) {f th : Nat} (hf : f < cnt D 1) (h2 : th < 1024) : frT1 D (2 ^ f) th ↔ abv D f &&& th = 0 := by
  have h10 : cnt D 1 ≤ 10 := hw.1 1 (by omega)
  have b1 : abv D f < 1024 := bset_10 hw
  have bf : 2 ^ f ≤ 2 ^ 10 := Nat.pow_le_pow_right (by decide) (by omega)
  have ba : abv D f &&& th < 1024 := Nat.lt_of_le_of_lt Nat.and_le_left b1
  have e : ndf (abv D f &&& th) (2 ^ f) = abv D f &&& th := by
    apply Nat.eq_of_testBit_eq
    intro i
    rw [ndf_tb (by omega) (by omega), Nat.testBit_two_pow]
    by_cases q : f = i
    · subst q
      rw [Nat.testBit_and, abv_self]; rfl
    · rw [decide_eq_false q]; simp
  constructor
  · intro h
    have := h f hf (by rw [Nat.testBit_two_pow]; exact decide_eq_true rfl)
    rwa [e] at this
  · intro h g hg hb
    rw [Nat.testBit_two_pow] at hb
    have q : f = g := of_decide_eq_true hb
    rw [← q, e]
    exact h
theorem steals_ok (ht : t = 7 ∨ t = 43) (hb : isSt b = true) (hd : cDn s t D) (hw : wD D) (hS : cSt s b D S) (hs : wS D S) (ha : ∀ f : Nat, f < cnt D 1 → s (t + 35) f = ((abv D f : Nat) : Int)) {x : Int} : zC N 779 [((b : Int), 0), ((t : Int), 0), (x, 0)] s (fun r => (canS D S x → (∃ v, r.1 = [(v, 0)] ∧ 0 ≤ v) ∧ cSt r.2 b D (stlT S x.toNat) ∧ ∀ c j, ¬ (c = b ∧ (j = 0 ∨ j = 5)) → c ≠ t + 31 → r.2 c j = s c j) ∧ (¬ canS D S x → r = ([((-1 : Int), 0)], s))) := by
  have h10 : cnt D 1 ≤ 10 := hw.1 1 (by omega)
  have hl := wS_lt hw hs
  have sb := st_b hb
  have no : ¬ canS D S x → (canS D S x → (∃ v, (([((-1 : Int), 0)], s) : Zr).1 = [(v, 0)] ∧ 0 ≤ v) ∧ cSt (([((-1 : Int), 0)], s) : Zr).2 b D (stlT S x.toNat) ∧ ∀ c j, ¬ (c = b ∧ (j = 0 ∨ j = 5)) → c ≠ t + 31 → (([((-1 : Int), 0)], s) : Zr).2 c j = s c j) ∧ (¬ canS D S x → (([((-1 : Int), 0)], s) : Zr) = ([((-1 : Int), 0)], s)) := fun h => ⟨fun q => absurd q h, fun _ => rfl⟩
  refine c_X6_steals (b_X6_steals_0 _ _ _ _ s ht hb (fun m _ => ?_))
  refine zC_q (isThere_ok ht hb hd hw hS hs) (fun r hr => ?_)
  subst hr
  refine b_X6_steals_6 _ _ _ _ _ s ht hb (fun g => no (fun q => by rw [if_pos (dcP_yes ⟨q.1, q.2.1, q.2.2.1⟩)] at g; omega)) (fun g m2 _ => ?_)
  have ex : 0 ≤ x ∧ x < cnt D 1 ∧ (sTh S).testBit x.toNat = true := Classical.byContradiction fun c => g (if_neg (by rw [dcP_no c]; decide))
  obtain ⟨k, rfl⟩ := Int.eq_ofNat_of_zero_le ex.1
  have hk : k < cnt D 1 := by omega
  have bk : 2 ^ k ≤ 2 ^ 9 := Nat.pow_le_pow_right (by decide) (by omega)
  have bk9 : 2 ^ 9 = 512 := by decide
  rw [hS.1, zshl_1 k (by omega)]
  refine zC_q (fromTop_ok ht hd hw ha (by omega) hl) (fun r hr => ?_)
  subst hr
  refine b_X6_steals_20 _ _ _ _ _ s ht hb (fun g2 m3 _ => ?_) (fun g2 => no (fun q => by rw [if_pos (dcP_yes ((frT1_one hw hk hl).mpr q.2.2.2))] at g2; omega))
  have ft : frT1 D (2 ^ k) (sTh S) := Classical.byContradiction fun c => g2 (if_neg (by rw [dcP_no c]; decide))
  have can : canS D S ((k : Nat) : Int) := ⟨ex.1, ex.2.1, ex.2.2, (frT1_one hw hk hl).mp ft⟩
  refine c_J6_bitCount_0f7a4 (b_J6_bitCount_0f7a4_0 _ s ?_)
  refine b_X6_steals_38 _ _ _ _ _ _ s ht hb (fun m4 _ => ?_)
  refine zC_q (valueOf_fr (u := t + 29) (by omega)) (fun r hr => ?_)
  obtain ⟨r1, s1⟩ := r
  obtain ⟨⟨v, e⟩, f1⟩ := hr
  have e : r1 = [(v, 0)] := e
  subst e
  have f1 : ∀ c j, c ≠ t + 29 + 2 → s1 c j = s c j := f1
  refine b_X6_steals_60 _ _ _ _ _ s1 ht hb ?_
  have S1 : cSt s1 b D S := cSt_e hS (fun c j h1 h2 _ => f1 c j (by omega))
  have W : ∀ (v9 : Int) (s9 : Zs), 0 ≤ v9 → (∀ c j, ¬ (c = b ∧ (j = 0 ∨ j = 5)) → s9 c j = s1 c j) → s9 b 0 = zand (s1 b 0) (zxor (zshl 1 ((k : Nat) : Int)) (-1)) → (canS D S ((k : Nat) : Int) → (∃ v, (([(v9, 0)], s9) : Zr).1 = [(v, 0)] ∧ 0 ≤ v) ∧ cSt (([(v9, 0)], s9) : Zr).2 b D (stlT S ((k : Nat) : Int).toNat) ∧ ∀ c j, ¬ (c = b ∧ (j = 0 ∨ j = 5)) → c ≠ t + 31 → (([(v9, 0)], s9) : Zr).2 c j = s c j) ∧ (¬ canS D S ((k : Nat) : Int) → (([(v9, 0)], s9) : Zr) = ([((-1 : Int), 0)], s)) := fun v9 s9 h0 h1 h2 => by
    refine ⟨fun _ => ⟨⟨v9, rfl, h0⟩, ?_, fun c j hc hc2 => (h1 c j hc).trans (f1 c j (by omega))⟩, fun q => absurd can q⟩
    obtain ⟨a1, a2, a3, a4, a5⟩ := S1
    refine ⟨?_, fun p hp => (h1 _ _ (by omega)).trans (a2 p hp), fun p hp => (h1 _ _ (by omega)).trans (a3 p hp), (h1 _ _ (by omega)).trans a4, (h1 _ _ (by omega)).trans a5⟩
    show s9 b 0 = _
    rw [h2, a1, zshl_1 k (by omega), zandn (by omega)]
    rfl
  refine W _ _ (by split <;> omega) (fun c j hc => by rw [zu_n (by omega), zu_n (by omega)]) (by rw [zu_n (by omega), zu_eq])
theorem builds_ok (ht : t = 7 ∨ t = 43) (hb : isSt b = true) (hd : cDn s t D) (hw : wD D) (hX : wX D) (hS : cSt s b D S) (hs : wS D S) {x : Int} : zC N 769 [((b : Int), 0), ((t : Int), 0), (x, 0)] s (fun r => (canB D S x → r.1 = [(sHp (bldT D S x.toNat), 0)] ∧ cSt r.2 b D (bldT D S x.toNat) ∧ ∀ c j, ¬ (c = b ∧ (j = 0 ∨ j = 3)) → r.2 c j = s c j) ∧ (¬ canB D S x → r = ([((-1 : Int), 0)], s))) := by
  have h10 : cnt D 1 ≤ 10 := hw.1 1 (by omega)
  have hl := wS_lt hw hs
  have sb := st_b hb
  have hc : s (t + 1) 1 = ((cnt D 1 : Nat) : Int) := hd.1 1 (by omega)
  have no : ¬ canB D S x → (canB D S x → (([((-1 : Int), 0)], s) : Zr).1 = [(sHp (bldT D S x.toNat), 0)] ∧ cSt (([((-1 : Int), 0)], s) : Zr).2 b D (bldT D S x.toNat) ∧ ∀ c j, ¬ (c = b ∧ (j = 0 ∨ j = 3)) → (([((-1 : Int), 0)], s) : Zr).2 c j = s c j) ∧ (¬ canB D S x → (([((-1 : Int), 0)], s) : Zr) = ([((-1 : Int), 0)], s)) := fun h => ⟨fun q => absurd q h, fun _ => rfl⟩
  refine c_X6_builds (b_X6_builds_0 _ s ht hb (fun g => no (fun q => by have := q.1; omega)) (fun g g2 => no (fun q => by have := q.2.1; omega)) (fun g g2 m _ => ?_))
  obtain ⟨k, rfl⟩ := Int.eq_ofNat_of_zero_le g
  have hk : k < cnt D 1 := by omega
  have bk : 2 ^ k ≤ 2 ^ 9 := Nat.pow_le_pow_right (by decide) (by omega)
  have bk9 : 2 ^ 9 = 512 := by decide
  have r2 : s (zrho (t + 12) (k : Int).toNat) 2 = colD D 12 k := by rw [Int.toNat_natCast, zrow1 ht (by omega)]; exact cDn_col hd hw (k := 1) (j := 2) (by omega) (by omega) (by decide) hk
  have rho : zrho (t + 12) (k : Int).toNat = t + 2 + k := by rw [Int.toNat_natCast, zrow1 ht (by omega)]
  have W : ∀ (s9 : Zs) (v9 : Int), canB D S ((k : Nat) : Int) → s9 = zu (zu s b 0 (zor (s b 0) (zshl 1 ((k : Nat) : Int)))) b 3 (w32 (((zu s b 0 (zor (s b 0) (zshl 1 ((k : Nat) : Int)))) b 3) - ((zu s b 0 (zor (s b 0) (zshl 1 ((k : Nat) : Int)))) (zrho (t + 12) ((k : Nat) : Int).toNat) 2))) → v9 = s9 b 3 → (canB D S ((k : Nat) : Int) → (([(v9, 0)], s9) : Zr).1 = [(sHp (bldT D S ((k : Nat) : Int).toNat), 0)] ∧ cSt (([(v9, 0)], s9) : Zr).2 b D (bldT D S ((k : Nat) : Int).toNat) ∧ ∀ c j, ¬ (c = b ∧ (j = 0 ∨ j = 3)) → (([(v9, 0)], s9) : Zr).2 c j = s c j) ∧ (¬ canB D S ((k : Nat) : Int) → (([(v9, 0)], s9) : Zr) = ([((-1 : Int), 0)], s)) := fun s9 v9 can e ev => by
    obtain ⟨a1, a2, a3, a4, a5⟩ := hS
    have f9 : ∀ c j, ¬ (c = b ∧ (j = 0 ∨ j = 3)) → s9 c j = s c j := fun c j hc => by rw [e, zu_n (by omega), zu_n (by omega)]
    have e3 : s9 b 3 = sHp (bldT D S k) := by
      rw [e, zu_eq, zu_n (by omega), zu_n (by rw [rho]; omega), r2, a4]
      rfl
    refine ⟨fun _ => ⟨?_, ⟨?_, fun p hp => (f9 _ _ (by omega)).trans (a2 p hp), fun p hp => (f9 _ _ (by omega)).trans (a3 p hp), e3, (f9 _ _ (by omega)).trans a5⟩, f9⟩, fun q => absurd can q⟩
    · show [(v9, 0)] = _
      rw [ev, e3]; rfl
    · show s9 b 0 = _
      rw [e, zu_n (by omega), zu_eq, a1, zshl_1 k (by omega), zor_nat (by omega) (by omega)]
      rfl
  refine zC_q (isThere_ok ht hb hd hw hS hs) (fun r hr => ?_)
  subst hr
  refine b_X6_builds_15 _ _ s ht hb (fun g3 => no (fun q => ?_)) (fun g3 g4 => ?_) (fun g3 g4 => no (fun q => ?_))
  · exact g3 (if_neg (by rw [dcP_no (fun u => q.2.2.1 u.2.2)]; decide))
  · rw [r2, hS.2.2.2.1] at g4
    have nt : ¬ (sTh S).testBit k = true := fun u => by rw [if_pos (dcP_yes ⟨g, by omega, u⟩)] at g3; omega
    exact W _ _ ⟨g, by omega, nt, g4⟩ rfl rfl
  · rw [r2, hS.2.2.2.1] at g4
    have := q.2.2.2
    rw [Int.toNat_natCast] at this
    omega
theorem go_iff (hw : wD D) (hX : wX D) (hs : wS D S) {p : Nat} (hp : p < cnt D 3) {w y : Int} : zand (waV D (sPe S p) y) (zxor ((opn D S p w : Nat) : Int) (-1)) = 0 ↔ plI D y ∧ wok D (opn D S p w) (sPe S p).toNat y.toNat := by
  have b1 := wS_lt hw hs
  have b2 : cli D S p w < 1024 := bset_10 hw
  have b3 : opn D S p w < 1024 := Nat.or_lt_two_pow (n := 10) b1 b2
  rw [way_iff hw hX (by omega)]
  exact ⟨fun q => q.2, fun q => ⟨hs.2.1 p hp, q⟩⟩
theorem goes_ok (ht : t = 7 ∨ t = 43) (hb : isSt b = true) (hd : cDn s t D) (hw : wD D) (hX : wX D) (hS : cSt s b D S) (hs : wS D S) {x y : Int} (hy : y < 2147483648) : zC N 774 [((b : Int), 0), ((t : Int), 0), (x, 0), (y, 0)] s (fun r => (canG D S x y → r.1 = [((1 : Int), 0)] ∧ cSt r.2 b D (goT S x.toNat y) ∧ ∀ c j, c ≠ b + 1 → r.2 c j = s c j) ∧ (¬ canG D S x y → r = ([((0 : Int), 0)], s))) := by
  have h5 : cnt D 3 ≤ 5 := hw.1 3 (by omega)
  have sb := st_b hb
  have hc : s (t + 1) 3 = ((cnt D 3 : Nat) : Int) := hd.1 3 (by omega)
  have no : ¬ canG D S x y → (canG D S x y → (([((0 : Int), 0)], s) : Zr).1 = [((1 : Int), 0)] ∧ cSt (([((0 : Int), 0)], s) : Zr).2 b D (goT S x.toNat y) ∧ ∀ c j, c ≠ b + 1 → (([((0 : Int), 0)], s) : Zr).2 c j = s c j) ∧ (¬ canG D S x y → (([((0 : Int), 0)], s) : Zr) = ([((0 : Int), 0)], s)) := fun h => ⟨fun q => absurd q h, fun _ => rfl⟩
  refine c_X6_goes (b_X6_goes_0 _ _ s ht hb (fun g => no (fun q => by have := q.1; omega)) (fun g g2 => no (fun q => by have := q.2.1; omega)) (fun g g2 m _ => ?_))
  obtain ⟨k, rfl⟩ := Int.eq_ofNat_of_zero_le g
  have hk : k < cnt D 3 := by omega
  rw [Int.toNat_natCast, hS.2.1 k hk]
  have np := plI_nat hw (hs.2.1 k hk)
  refine zC_q (way_ok ht hd hw hX (by omega) hy) (fun r hr => ?_)
  subst hr
  refine b_X6_goes_22 _ _ _ s ht hb (fun m2 _ => ?_)
  refine zC_q (open_ok ht hb hd hw hX hS hs hk) (fun r hr => ?_)
  subst hr
  refine b_X6_goes_29 _ _ _ _ s ht hb (fun g3 => ?_) (fun g3 => no (fun q => g3 ((go_iff hw hX hs hk).mpr q.2.2)))
  have can : canG D S ((k : Nat) : Int) y := ⟨g, by omega, (go_iff hw hX hs hk).mp g3⟩
  obtain ⟨a1, a2, a3, a4, a5⟩ := hS
  refine ⟨fun _ => ⟨rfl, ⟨?_, fun p hp => ?_, fun p hp => ?_, ?_, ?_⟩, fun c j hc => zu_n (fun q => hc q.1)⟩, fun q => absurd can q⟩
  · exact (zu_n (by omega)).trans a1
  · show zu s (b + 1) (k : Int).toNat y (b + 1) p = if p = k then y else S.2.1 p
    rw [Int.toNat_natCast]
    by_cases q : p = k
    · rw [if_pos q, q, zu_eq]
    · rw [if_neg q, zu_n (by omega)]; exact a2 p hp
  · exact (zu_n (by omega)).trans (a3 p hp)
  · exact (zu_n (by omega)).trans a4
  · exact (zu_n (by omega)).trans a5
theorem carries_ok (ht : t = 7 ∨ t = 43) (hb : isSt b = true) (hd : cDn s t D) (hw : wD D) (hX : wX D) (hS : cSt s b D S) (hs : wS D S) {x i y : Int} (hy : y < 2147483648) : zC N 770 [((b : Int), 0), ((t : Int), 0), (x, 0), (i, 0), (y, 0)] s (fun r => (canC D S x i y → r.1 = [((1 : Int), 0)] ∧ cSt r.2 b D (carT S x.toNat i.toNat y) ∧ ∀ c j, c ≠ b + 1 → c ≠ b + 2 → r.2 c j = s c j) ∧ (¬ canC D S x i y → r = ([((0 : Int), 0)], s))) := by
  have h5 : cnt D 3 ≤ 5 := hw.1 3 (by omega)
  have h4 : cnt D 2 ≤ 4 := hw.1 2 (by omega)
  have sb := st_b hb
  have hc : s (t + 1) 3 = ((cnt D 3 : Nat) : Int) := hd.1 3 (by omega)
  have hc2 : s (t + 1) 2 = ((cnt D 2 : Nat) : Int) := hd.1 2 (by omega)
  have no : ¬ canC D S x i y → (canC D S x i y → (([((0 : Int), 0)], s) : Zr).1 = [((1 : Int), 0)] ∧ cSt (([((0 : Int), 0)], s) : Zr).2 b D (carT S x.toNat i.toNat y) ∧ ∀ c j, c ≠ b + 1 → c ≠ b + 2 → (([((0 : Int), 0)], s) : Zr).2 c j = s c j) ∧ (¬ canC D S x i y → (([((0 : Int), 0)], s) : Zr) = ([((0 : Int), 0)], s)) := fun h => ⟨fun q => absurd q h, fun _ => rfl⟩
  refine c_X6_carries (b_X6_carries_0 _ _ _ s ht hb (fun g => no (fun q => by have := q.1; omega)) (fun g g2 => no (fun q => by have := q.2.1; omega)) (fun g g2 g3 => no (fun q => by have := q.2.2.1; omega)) (fun g g2 g3 g4 => no (fun q => by have := q.2.2.2.1; omega)) (fun g g2 g3 g4 g5 m _ => ?_) (fun g g2 g3 g4 g5 => no (fun q => ?_)))
  rotate_left
  · obtain ⟨k, rfl⟩ := Int.eq_ofNat_of_zero_le g
    obtain ⟨l, rfl⟩ := Int.eq_ofNat_of_zero_le g3
    rw [Int.toNat_natCast, Int.toNat_natCast, hS.2.1 k (by omega), hS.2.2.1 l (by omega)] at g5
    exact g5 q.2.2.2.2.1
  obtain ⟨k, rfl⟩ := Int.eq_ofNat_of_zero_le g
  obtain ⟨l, rfl⟩ := Int.eq_ofNat_of_zero_le g3
  have hk : k < cnt D 3 := by omega
  have hl : l < cnt D 2 := by omega
  rw [Int.toNat_natCast, Int.toNat_natCast, hS.2.1 k hk, hS.2.2.1 l hl] at g5
  rw [Int.toNat_natCast, hS.2.1 k hk]
  have np := plI_nat hw (hs.2.1 k hk)
  refine zC_q (way_ok ht hd hw hX (by omega) hy) (fun r hr => ?_)
  subst hr
  refine b_X6_carries_47 _ _ _ _ s ht hb (fun m2 _ => ?_)
  refine zC_q (open_ok ht hb hd hw hX hS hs hk) (fun r hr => ?_)
  subst hr
  refine b_X6_carries_54 _ _ _ _ _ s ht hb (fun g6 => ?_) (fun g6 => no (fun q => g6 ((go_iff hw hX hs hk).mpr q.2.2.2.2.2)))
  have can : canC D S ((k : Nat) : Int) ((l : Nat) : Int) y := ⟨g, by omega, g3, by omega, g5, (go_iff hw hX hs hk).mp g6⟩
  obtain ⟨a1, a2, a3, a4, a5⟩ := hS
  refine ⟨fun _ => ⟨rfl, ⟨?_, fun p hp => ?_, fun p hp => ?_, ?_, ?_⟩, fun c j hc hc2 => (zu_n (fun q => hc2 q.1)).trans (zu_n (fun q => hc q.1))⟩, fun q => absurd can q⟩
  · exact (zu_n (by omega)).trans ((zu_n (by omega)).trans a1)
  · show zu (zu s (b + 1) (k : Int).toNat y) (b + 2) (l : Int).toNat y (b + 1) p = if p = k then y else S.2.1 p
    rw [Int.toNat_natCast, zu_n (by omega)]
    by_cases q : p = k
    · rw [if_pos q, q, zu_eq]
    · rw [if_neg q, zu_n (by omega)]; exact a2 p hp
  · show zu (zu s (b + 1) (k : Int).toNat y) (b + 2) (l : Int).toNat y (b + 2) p = if p = l then y else S.2.2.1 p
    rw [Int.toNat_natCast, Int.toNat_natCast]
    by_cases q : p = l
    · rw [if_pos q, q, zu_eq]
    · rw [if_neg q, zu_n (by omega), zu_n (by omega)]; exact a3 p hp
  · exact (zu_n (by omega)).trans ((zu_n (by omega)).trans a4)
  · exact (zu_n (by omega)).trans ((zu_n (by omega)).trans a5)
theorem copy_ok (ht : t = 7 ∨ t = 43) (hb : isSt b = true) (hd : isSt d = true) (hbd : b ≠ d) : zC N 772 [((b : Int), 0), ((d : Int), 0)] s (fun r => r.1 = [] ∧ (∀ c j, ¬ (b ≤ c ∧ c ≤ b + 2) → r.2 c j = s c j) ∧ ∀ D S, wD D → cSt s d D S → cSt r.2 b D S) := by
  have ap := st_ap hb hd hbd
  have sb := st_b hb
  have W : ∀ s9 : Zs, s9 = zu (zu (zu (zcpy (zcpy (zu s b 0 (s d 0)) (d + 1) (b + 1) ((zq_len (b + 1)).toNat)) (d + 2) (b + 2) ((zq_len (b + 2)).toNat)) b 3 (s d 3)) b 4 (s d 4)) b 5 (s d 5) → (([], s9) : Zr).1 = [] ∧ (∀ c j, ¬ (b ≤ c ∧ c ≤ b + 2) → (([], s9) : Zr).2 c j = s c j) ∧ ∀ D S, wD D → cSt s d D S → cSt (([], s9) : Zr).2 b D S := fun s9 e => by
    have l5 : (zq_len (b + 1)).toNat = 5 := by rw [sb.2.2.1]; rfl
    have l4 : (zq_len (b + 2)).toNat = 4 := by rw [sb.2.2.2]; rfl
    rw [l5, l4] at e
    have f9 : ∀ c j, ¬ (b ≤ c ∧ c ≤ b + 2) → s9 c j = s c j := fun c j hc => by
      rw [e, zu_n (by omega), zu_n (by omega), zu_n (by omega)]
      unfold zcpy
      rw [if_neg (by omega), if_neg (by omega), zu_n (by omega)]
    refine ⟨rfl, f9, fun D S hw ⟨a1, a2, a3, a4, a5⟩ => ?_⟩
    have h5 : cnt D 3 ≤ 5 := hw.1 3 (by omega)
    have h4 : cnt D 2 ≤ 4 := hw.1 2 (by omega)
    refine ⟨?_, fun p hp => ?_, fun p hp => ?_, ?_, ?_⟩
    · show s9 b 0 = _
      rw [e, zu_n (by omega), zu_n (by omega), zu_n (by omega)]
      unfold zcpy
      rw [if_neg (by omega), if_neg (by omega), zu_eq]
      exact a1
    · show s9 (b + 1) p = _
      rw [e, zu_n (by omega), zu_n (by omega), zu_n (by omega)]
      unfold zcpy
      rw [if_neg (by omega), if_pos rfl, if_pos (by omega), zu_n (by omega)]
      exact a2 p hp
    · show s9 (b + 2) p = _
      rw [e, zu_n (by omega), zu_n (by omega), zu_n (by omega)]
      unfold zcpy
      rw [if_pos rfl, if_pos (by omega), if_neg (by omega), zu_n (by omega)]
      exact a3 p hp
    · show s9 b 3 = _
      rw [e, zu_n (by omega), zu_n (by omega), zu_eq]
      exact a4
    · show s9 b 4 = _
      rw [e, zu_n (by omega), zu_eq]
      exact a5
  refine c_X6_copy (b_X6_copy_0 s ht hb hd (W _ ?_))
  have k1 : ∀ (x : Zs) j, (∀ j, x d j = s d j) → zcpy x (d + 1) (b + 1) ((zq_len (b + 1)).toNat) d j = s d j := fun x j h => by
    unfold zcpy
    rw [if_neg (by omega)]; exact h j
  have k2 : ∀ (x : Zs) j, (∀ j, x d j = s d j) → zcpy x (d + 2) (b + 2) ((zq_len (b + 2)).toNat) d j = s d j := fun x j h => by
    unfold zcpy
    rw [if_neg (by omega)]; exact h j
  have k0 : ∀ (v : Int) j, zu s b 0 v d j = s d j := fun v j => zu_n (by omega)
  have k3 : ∀ j, zcpy (zcpy (zu s b 0 (s d 0)) (d + 1) (b + 1) ((zq_len (b + 1)).toNat)) (d + 2) (b + 2) ((zq_len (b + 2)).toNat) d j = s d j := fun j => k2 _ j (fun j => k1 _ j (k0 _))
  rw [k3 3, zu_n (show ¬ (d = b ∧ 4 = 3) by omega), k3 4, zu_n (show ¬ (d = b ∧ 5 = 4) by omega), zu_n (show ¬ (d = b ∧ 5 = 3) by omega), k3 5]
/-! what can be undone: the newest first -/
theorem hc_all : ((List.range 16).all fun k => decide (zrho 137 k = 89 + 3 * k) && isSt (89 + 3 * k)) = true := by decide +kernel
theorem hc_1 {k : Nat} (hk : k < 16) : zrho 137 k = 89 + 3 * k ∧ isSt (89 + 3 * k) = true := by
  have := List.all_eq_true.mp hc_all k (List.mem_range.mpr hk)
  rw [Bool.and_eq_true, decide_eq_true_eq] at this
  exact this
def cHi (s : Zs) (D : ZD) (H : List ZS) : Prop := H.length ≤ 16 ∧ s 88 0 = ((H.length : Nat) : Int) ∧ ∃ nx : Nat, nx < 16 ∧ s 88 1 = ((nx : Nat) : Int) ∧ ∀ i S, H[i]? = some S → cSt s (89 + 3 * ((nx + 15 - i) % 16)) D S
theorem cHi_e {s s' : Zs} {H : List ZS} (h : cHi s D H) (e : ∀ c j, 88 ≤ c → c ≤ 136 → s' c j = s c j) : cHi s' D H := by
  obtain ⟨h1, h2, nx, h3, h4, h5⟩ := h
  exact ⟨h1, by rw [e _ _ (by omega) (by omega)]; exact h2, nx, h3, by rw [e _ _ (by omega) (by omega)]; exact h4, fun i S hi => cSt_e (h5 i S hi) (fun c j a b _ => e c j (by omega) (by omega))⟩
theorem zrem16 : ∀ k : Nat, k < 32 → zrem (k : Int) 16 = ((k % 16 : Nat) : Int) := fun k hk => by
  rw [zrem_pos (by omega) (by omega) (by decide) (by decide)]; omega
theorem keep_ok (ht : t = 7 ∨ t = 43) (hd : isSt d = true) (hfar : d < 89 ∨ 137 ≤ d) (hw : wD D) {H : List ZS} (hH : cHi s D H) (hS : cSt s d D S) : zC N 129 [((88 : Int), 0), ((d : Int), 0)] s (fun r => r.1 = [] ∧ cHi r.2 D ((S :: H).take 16) ∧ ∀ c j, ¬ (88 ≤ c ∧ c ≤ 136) → r.2 c j = s c j) := by
  obtain ⟨h1, h2, nx, h3, h4, h5⟩ := hH
  refine c_X1_keep (b_X1_keep_0 s hd (fun m _ => ?_))
  have hz := hc_1 h3
  rw [h4, Int.toNat_natCast, hz.1]
  refine zC_q (copy_ok ht hz.2 hd (by omega)) (fun r hr => ?_)
  obtain ⟨r1, s1⟩ := r
  obtain ⟨e, f1, cp⟩ := hr
  have e : r1 = [] := e
  subst e
  have f1 : ∀ c j, ¬ (89 + 3 * nx ≤ c ∧ c ≤ 89 + 3 * nx + 2) → s1 c j = s c j := f1
  have S1 : cSt s1 (89 + 3 * nx) D S := cp D S hw hS
  have W : ∀ s9 : Zs, s9 = zu (zu s1 88 1 (zrem (w32 ((s1 88 1) + 1)) 16)) 88 0 (if w32 ((s1 88 0) + 1) < 16 then w32 ((s1 88 0) + 1) else 16) → (([], s9) : Zr).1 = [] ∧ cHi (([], s9) : Zr).2 D ((S :: H).take 16) ∧ ∀ c j, ¬ (88 ≤ c ∧ c ≤ 136) → (([], s9) : Zr).2 c j = s c j := fun s9 e9 => by
    have q0 : s1 88 0 = ((H.length : Nat) : Int) := (f1 _ _ (by omega)).trans h2
    have q1 : s1 88 1 = ((nx : Nat) : Int) := (f1 _ _ (by omega)).trans h4
    rw [q0, q1, w32_id (by omega) (by omega), w32_id (by omega) (by omega), show ((nx : Nat) : Int) + 1 = ((nx + 1 : Nat) : Int) from by omega, zrem16 _ (by omega)] at e9
    have f9 : ∀ c j, c ≠ 88 → s9 c j = s1 c j := fun c j hc => by rw [e9, zu_n (by omega), zu_n (by omega)]
    refine ⟨rfl, ⟨List.length_take_le .., ?_, (nx + 1) % 16, by omega, ?_, fun i S' hi => ?_⟩, fun c j hc => (f9 c j (by omega)).trans (f1 c j (by omega))⟩
    · show s9 88 0 = _
      rw [e9, zu_eq, List.length_take, List.length_cons]
      split <;> omega
    · show s9 88 1 = _
      rw [e9, zu_n (by omega), zu_eq]
    · show cSt s9 _ D S'
      have hi16 : i < 16 := by
        have := (List.getElem?_eq_some_iff.mp hi).1
        rw [List.length_take] at this
        omega
      rw [List.getElem?_take_of_lt hi16] at hi
      cases i with
      | zero =>
        have hi : S = S' := by simpa using hi
        subst hi
        rw [show ((nx + 1) % 16 + 15 - 0) % 16 = nx by omega]
        exact cSt_e S1 (fun c j a b _ => f9 c j (by omega))
      | succ i =>
        have hi : H[i]? = some S' := by simpa using hi
        have q := h5 i S' hi
        rw [show ((nx + 1) % 16 + 15 - (i + 1)) % 16 = (nx + 15 - i) % 16 by omega]
        have ne : (nx + 15 - i) % 16 ≠ nx := by omega
        have lt : (nx + 15 - i) % 16 < 16 := by omega
        generalize (nx + 15 - i) % 16 = k at q ne lt
        exact cSt_e q (fun c j a b _ => (f9 c j (by omega)).trans (f1 c j (by omega)))
  exact b_X1_keep_13 s1 hd (W _ rfl)
theorem back_ok (ht : t = 7 ∨ t = 43) (hd : isSt d = true) (hfar : d < 86 ∨ 137 ≤ d) (hw : wD D) {H : List ZS} (hH : cHi s D H) : zC N 130 [((88 : Int), 0), ((d : Int), 0)] s (fun r => (∀ S H', H = S :: H' → r.1 = [((1 : Int), 0)] ∧ cHi r.2 D H' ∧ cSt r.2 d D S ∧ ∀ c j, c ≠ 88 → ¬ (d ≤ c ∧ c ≤ d + 2) → r.2 c j = s c j) ∧ (H = [] → r = ([((0 : Int), 0)], s))) := by
  obtain ⟨h1, h2, nx, h3, h4, h5⟩ := hH
  refine c_X1_takeBack (b_X1_takeBack_0 s hd (fun g m _ => ?_) (fun g => ?_))
  rotate_left
  · refine ⟨fun S H' e => ?_, fun _ => rfl⟩
    rw [h2, e, List.length_cons] at g
    omega
  rw [h4, h2, w32_id (z := ((nx : Nat) : Int) + 16) (by omega) (by omega), w32_id (by omega) (by omega), show ((nx : Nat) : Int) + 16 - 1 = ((nx + 15 : Nat) : Int) from by omega, zrem16 _ (by omega), Int.toNat_natCast]
  have lt : (nx + 15) % 16 < 16 := by omega
  have hz := hc_1 lt
  rw [hz.1]
  cases H with
  | nil => exact absurd h2 g
  | cons S H' =>
    rw [List.length_cons] at h1
    have q := h5 0 S rfl
    rw [show (nx + 15 - 0) % 16 = (nx + 15) % 16 by omega] at q
    rw [List.length_cons, w32_id (by omega) (by omega)]
    have hs1 : cSt (zu (zu s 88 1 (((nx + 15) % 16 : Nat) : Int)) 88 0 (((H'.length + 1 : Nat) : Int) - 1)) (89 + 3 * ((nx + 15) % 16)) D S := cSt_e q (fun c j a b _ => by rw [zu_n (by omega), zu_n (by omega)])
    refine zC_q (copy_ok ht hd hz.2 (by omega)) (fun r hr => ?_)
    obtain ⟨r1, s1⟩ := r
    obtain ⟨e, f1, cp⟩ := hr
    have e : r1 = [] := e
    subst e
    refine b_X1_takeBack_48 s1 hd ⟨fun S' H'' e => ?_, fun e => by cases e⟩
    cases e
    have S1 : cSt s1 d D S := cp D S hw hs1
    have f1 : ∀ c j, ¬ (d ≤ c ∧ c ≤ d + 2) → s1 c j = zu (zu s 88 1 (((nx + 15) % 16 : Nat) : Int)) 88 0 (((H'.length + 1 : Nat) : Int) - 1) c j := f1
    refine ⟨rfl, ⟨by omega, ?_, (nx + 15) % 16, lt, ?_, fun i S' hi => ?_⟩, S1, fun c j hc hd2 => ?_⟩
    · show s1 88 0 = _
      rw [f1 _ _ (by omega), zu_eq]; omega
    · show s1 88 1 = _
      rw [f1 _ _ (by omega), zu_n (by omega), zu_eq]
    · have hl : i < H'.length := (List.getElem?_eq_some_iff.mp hi).1
      have q := h5 (i + 1) S' (by simpa using hi)
      rw [show ((nx + 15) % 16 + 15 - i) % 16 = (nx + 15 - (i + 1)) % 16 by omega]
      have lt2 : (nx + 15 - (i + 1)) % 16 < 16 := by omega
      generalize (nx + 15 - (i + 1)) % 16 = k at q lt2
      exact cSt_e q (fun c j a b _ => by
        show s1 c j = _
        rw [f1 _ _ (by omega), zu_n (by omega), zu_n (by omega)])
    · show s1 c j = _
      rw [f1 _ _ hd2, zu_n (by omega), zu_n (by omega)]
def frDo (t : Nat) (s s' : Zs) : Prop := ∀ c j, ¬ (79 ≤ c ∧ c ≤ 84) → ¬ (88 ≤ c ∧ c ≤ 136) → c ≠ t + 31 → s' c j = s c j
theorem steal_c (ht : t = 7 ∨ t = 43) (e3 : s 0 3 = ((t : Nat) : Int)) (hd : cDn s t D) (hw : wD D) (hX : wX D) (ha : ∀ f : Nat, f < cnt D 1 → s (t + 35) f = ((abv D f : Nat) : Int)) (hS : cSt s 79 D S) (hs : wS D S) {H : List ZS} (hH : cHi s D H) {x : Int} : zC N 1315 [(((0 : Nat) : Int), 0), (x, 0)] s (fun r => (canS D S x → (∃ v, r.1 = [(v, 0)] ∧ 0 ≤ v) ∧ cSt r.2 79 D (stlT S x.toNat) ∧ cHi r.2 D ((S :: H).take 16)) ∧ (¬ canS D S x → r.1 = [(-1, 0)] ∧ cSt r.2 79 D S ∧ cHi r.2 D H) ∧ frDo t s r.2) := by
  refine c_X10_steal (b_X10_steal_0 _ _ s ht (fun m _ => ?_))
  refine zC_q (copy_ok ht (b := 82) (d := 79) rfl rfl (by decide)) (fun r hr => ?_)
  obtain ⟨r1, s1⟩ := r
  obtain ⟨e, f1, cp⟩ := hr
  have e : r1 = [] := e
  subst e
  have f1 : ∀ c j, ¬ (82 ≤ c ∧ c ≤ 84) → s1 c j = s c j := fun c j hc => f1 c j (by omega)
  have T1 : cSt s1 82 D S := cp D S hw hS
  have S1 : cSt s1 79 D S := cSt_e hS (fun c j a b _ => f1 c j (by omega))
  have D1 : cDn s1 t D := cDn_e hd hw (fun c j hc => f1 c j (by omega))
  have H1 : cHi s1 D H := cHi_e hH (fun c j a b => f1 c j (by omega))
  refine b_X10_steal_11 _ _ s1 ht (fun m2 _ => ?_)
  rw [f1 0 3 (by omega), e3]
  refine zC_q (steals_ok ht (b := 79) rfl D1 hw S1 hs (fun f hf => (f1 _ _ (by omega)).trans (ha f hf))) (fun r hr => ?_)
  obtain ⟨r1, s2⟩ := r
  obtain ⟨y1, n1⟩ := hr
  by_cases can : canS D S x
  · obtain ⟨⟨v, e, hv⟩, S2, f2⟩ := y1 can
    have e : r1 = [(v, 0)] := e
    subst e
    have f2 : ∀ c j, ¬ (79 ≤ c ∧ c ≤ 81) → c ≠ t + 31 → s2 c j = s1 c j := fun c j a b => f2 c j (by omega) b
    refine b_X10_steal_23 _ _ _ s2 ht (fun g => absurd g (by omega)) (fun g m3 _ => ?_)
    have T2 : cSt s2 82 D S := cSt_e T1 (fun c j a b _ => f2 c j (by omega) (by omega))
    have H2 : cHi s2 D H := cHi_e H1 (fun c j a b => f2 c j (by omega) (by omega))
    refine zC_q (keep_ok ht (d := 82) rfl (by omega) hw H2 T2) (fun r hr => ?_)
    obtain ⟨r1, s3⟩ := r
    obtain ⟨e, H3, f3⟩ := hr
    have e : r1 = [] := e
    subst e
    have f3 : ∀ c j, ¬ (88 ≤ c ∧ c ≤ 136) → s3 c j = s2 c j := f3
    refine b_X10_steal_40 _ _ s3 ht ⟨fun _ => ⟨⟨_, rfl, hv⟩, cSt_e S2 (fun c j a b _ => f3 c j (by omega)), H3⟩, fun q => absurd can q, fun c j a b d => (f3 c j b).trans ((f2 c j (by omega) d).trans (f1 c j (by omega)))⟩
  · have e := n1 can
    cases e
    refine b_X10_steal_23 _ _ _ s1 ht (fun g => ⟨fun q => absurd q can, fun _ => ⟨rfl, S1, H1⟩, fun c j a b d => f1 c j (by omega)⟩) (fun g => absurd rfl g)
theorem build_c (ht : t = 7 ∨ t = 43) (e3 : s 0 3 = ((t : Nat) : Int)) (hd : cDn s t D) (hw : wD D) (hX : wX D) (ha : ∀ f : Nat, f < cnt D 1 → s (t + 35) f = ((abv D f : Nat) : Int)) (hS : cSt s 79 D S) (hs : wS D S) {H : List ZS} (hH : cHi s D H) {x : Int} : zC N 1284 [(((0 : Nat) : Int), 0), (x, 0)] s (fun r => (canB D S x → r.1 = [(sHp (bldT D S x.toNat), 0)] ∧ cSt r.2 79 D (bldT D S x.toNat) ∧ cHi r.2 D ((S :: H).take 16)) ∧ (¬ canB D S x → r.1 = [(-1, 0)] ∧ cSt r.2 79 D S ∧ cHi r.2 D H) ∧ frDo t s r.2) := by
  refine c_X10_build (b_X10_build_0 _ _ s ht (fun m _ => ?_))
  refine zC_q (copy_ok ht (b := 82) (d := 79) rfl rfl (by decide)) (fun r hr => ?_)
  obtain ⟨r1, s1⟩ := r
  obtain ⟨e, f1, cp⟩ := hr
  have e : r1 = [] := e
  subst e
  have f1 : ∀ c j, ¬ (82 ≤ c ∧ c ≤ 84) → s1 c j = s c j := fun c j hc => f1 c j (by omega)
  have T1 : cSt s1 82 D S := cp D S hw hS
  have S1 : cSt s1 79 D S := cSt_e hS (fun c j a b _ => f1 c j (by omega))
  have D1 : cDn s1 t D := cDn_e hd hw (fun c j hc => f1 c j (by omega))
  have H1 : cHi s1 D H := cHi_e hH (fun c j a b => f1 c j (by omega))
  refine b_X10_build_11 _ _ s1 ht (fun m2 _ => ?_)
  rw [f1 0 3 (by omega), e3]
  refine zC_q (builds_ok ht (b := 79) rfl D1 hw hX S1 hs) (fun r hr => ?_)
  obtain ⟨r1, s2⟩ := r
  obtain ⟨y1, n1⟩ := hr
  by_cases can : canB D S x
  · obtain ⟨e, S2, f2⟩ := y1 can
    have e : r1 = [(sHp (bldT D S x.toNat), 0)] := e
    subst e
    have f2 : ∀ c j, ¬ (79 ≤ c ∧ c ≤ 81) → c ≠ t + 31 → s2 c j = s1 c j := fun c j a b => f2 c j (by omega)
    refine b_X10_build_23 _ _ _ s2 ht (fun g => absurd g (by have := bld_hp hw hX hs can; omega)) (fun g m3 _ => ?_)
    have T2 : cSt s2 82 D S := cSt_e T1 (fun c j a b _ => f2 c j (by omega) (by omega))
    have H2 : cHi s2 D H := cHi_e H1 (fun c j a b => f2 c j (by omega) (by omega))
    refine zC_q (keep_ok ht (d := 82) rfl (by omega) hw H2 T2) (fun r hr => ?_)
    obtain ⟨r1, s3⟩ := r
    obtain ⟨e, H3, f3⟩ := hr
    have e : r1 = [] := e
    subst e
    have f3 : ∀ c j, ¬ (88 ≤ c ∧ c ≤ 136) → s3 c j = s2 c j := f3
    refine b_X10_build_40 _ _ s3 ht ⟨fun _ => ⟨rfl, cSt_e S2 (fun c j a b _ => f3 c j (by omega)), H3⟩, fun q => absurd can q, fun c j a b d => (f3 c j b).trans ((f2 c j (by omega) d).trans (f1 c j (by omega)))⟩
  · have e := n1 can
    cases e
    refine b_X10_build_23 _ _ _ s1 ht (fun g => ⟨fun q => absurd q can, fun _ => ⟨rfl, S1, H1⟩, fun c j a b d => f1 c j (by omega)⟩) (fun g => absurd rfl g)
theorem go_c (ht : t = 7 ∨ t = 43) (e3 : s 0 3 = ((t : Nat) : Int)) (hd : cDn s t D) (hw : wD D) (hX : wX D) (ha : ∀ f : Nat, f < cnt D 1 → s (t + 35) f = ((abv D f : Nat) : Int)) (hS : cSt s 79 D S) (hs : wS D S) {H : List ZS} (hH : cHi s D H) {x y : Int} (hy : y < 2147483648) : zC N 1299 [(((0 : Nat) : Int), 0), (x, 0), (y, 0)] s (fun r => (canG D S x y → r.1 = [(1, 0)] ∧ cSt r.2 79 D (goT S x.toNat y) ∧ cHi r.2 D ((S :: H).take 16)) ∧ (¬ canG D S x y → r.1 = [(0, 0)] ∧ cSt r.2 79 D S ∧ cHi r.2 D H) ∧ frDo t s r.2) := by
  refine c_X10_go (b_X10_go_0 _ _ _ s ht (fun m _ => ?_))
  refine zC_q (copy_ok ht (b := 82) (d := 79) rfl rfl (by decide)) (fun r hr => ?_)
  obtain ⟨r1, s1⟩ := r
  obtain ⟨e, f1, cp⟩ := hr
  have e : r1 = [] := e
  subst e
  have f1 : ∀ c j, ¬ (82 ≤ c ∧ c ≤ 84) → s1 c j = s c j := fun c j hc => f1 c j (by omega)
  have T1 : cSt s1 82 D S := cp D S hw hS
  have S1 : cSt s1 79 D S := cSt_e hS (fun c j a b _ => f1 c j (by omega))
  have D1 : cDn s1 t D := cDn_e hd hw (fun c j hc => f1 c j (by omega))
  have H1 : cHi s1 D H := cHi_e hH (fun c j a b => f1 c j (by omega))
  refine b_X10_go_11 _ _ _ s1 ht (fun m2 _ => ?_)
  rw [f1 0 3 (by omega), e3]
  refine zC_q (goes_ok ht (b := 79) rfl D1 hw hX S1 hs hy) (fun r hr => ?_)
  obtain ⟨r1, s2⟩ := r
  obtain ⟨y1, n1⟩ := hr
  by_cases can : canG D S x y
  · obtain ⟨e, S2, f2⟩ := y1 can
    have e : r1 = [(1, 0)] := e
    subst e
    have f2 : ∀ c j, ¬ (79 ≤ c ∧ c ≤ 81) → c ≠ t + 31 → s2 c j = s1 c j := fun c j a b => f2 c j (by omega)
    refine b_X10_go_24 _ _ _ _ s2 ht (fun g => absurd g (by omega)) (fun g m3 _ => ?_)
    have T2 : cSt s2 82 D S := cSt_e T1 (fun c j a b _ => f2 c j (by omega) (by omega))
    have H2 : cHi s2 D H := cHi_e H1 (fun c j a b => f2 c j (by omega) (by omega))
    refine zC_q (keep_ok ht (d := 82) rfl (by omega) hw H2 T2) (fun r hr => ?_)
    obtain ⟨r1, s3⟩ := r
    obtain ⟨e, H3, f3⟩ := hr
    have e : r1 = [] := e
    subst e
    have f3 : ∀ c j, ¬ (88 ≤ c ∧ c ≤ 136) → s3 c j = s2 c j := f3
    refine b_X10_go_40 _ _ _ s3 ht ⟨fun _ => ⟨rfl, cSt_e S2 (fun c j a b _ => f3 c j (by omega)), H3⟩, fun q => absurd can q, fun c j a b d => (f3 c j b).trans ((f2 c j (by omega) d).trans (f1 c j (by omega)))⟩
  · have e := n1 can
    cases e
    refine b_X10_go_24 _ _ _ _ s1 ht (fun g => ⟨fun q => absurd q can, fun _ => ⟨rfl, S1, H1⟩, fun c j a b d => f1 c j (by omega)⟩) (fun g => absurd rfl g)
theorem carry_c (ht : t = 7 ∨ t = 43) (e3 : s 0 3 = ((t : Nat) : Int)) (hd : cDn s t D) (hw : wD D) (hX : wX D) (ha : ∀ f : Nat, f < cnt D 1 → s (t + 35) f = ((abv D f : Nat) : Int)) (hS : cSt s 79 D S) (hs : wS D S) {H : List ZS} (hH : cHi s D H) {x i y : Int} (hy : y < 2147483648) : zC N 1285 [(((0 : Nat) : Int), 0), (x, 0), (i, 0), (y, 0)] s (fun r => (canC D S x i y → r.1 = [(1, 0)] ∧ cSt r.2 79 D (carT S x.toNat i.toNat y) ∧ cHi r.2 D ((S :: H).take 16)) ∧ (¬ canC D S x i y → r.1 = [(0, 0)] ∧ cSt r.2 79 D S ∧ cHi r.2 D H) ∧ frDo t s r.2) := by
  refine c_X10_carry (b_X10_carry_0 _ _ _ _ s ht (fun m _ => ?_))
  refine zC_q (copy_ok ht (b := 82) (d := 79) rfl rfl (by decide)) (fun r hr => ?_)
  obtain ⟨r1, s1⟩ := r
  obtain ⟨e, f1, cp⟩ := hr
  have e : r1 = [] := e
  subst e
  have f1 : ∀ c j, ¬ (82 ≤ c ∧ c ≤ 84) → s1 c j = s c j := fun c j hc => f1 c j (by omega)
  have T1 : cSt s1 82 D S := cp D S hw hS
  have S1 : cSt s1 79 D S := cSt_e hS (fun c j a b _ => f1 c j (by omega))
  have D1 : cDn s1 t D := cDn_e hd hw (fun c j hc => f1 c j (by omega))
  have H1 : cHi s1 D H := cHi_e hH (fun c j a b => f1 c j (by omega))
  refine b_X10_carry_11 _ _ _ _ s1 ht (fun m2 _ => ?_)
  rw [f1 0 3 (by omega), e3]
  refine zC_q (carries_ok ht (b := 79) rfl D1 hw hX S1 hs hy) (fun r hr => ?_)
  obtain ⟨r1, s2⟩ := r
  obtain ⟨y1, n1⟩ := hr
  by_cases can : canC D S x i y
  · obtain ⟨e, S2, f2⟩ := y1 can
    have e : r1 = [(1, 0)] := e
    subst e
    have f2 : ∀ c j, ¬ (79 ≤ c ∧ c ≤ 81) → c ≠ t + 31 → s2 c j = s1 c j := fun c j a b => f2 c j (by omega) (by omega)
    refine b_X10_carry_25 _ _ _ _ _ s2 ht (fun g => absurd g (by omega)) (fun g m3 _ => ?_)
    have T2 : cSt s2 82 D S := cSt_e T1 (fun c j a b _ => f2 c j (by omega) (by omega))
    have H2 : cHi s2 D H := cHi_e H1 (fun c j a b => f2 c j (by omega) (by omega))
    refine zC_q (keep_ok ht (d := 82) rfl (by omega) hw H2 T2) (fun r hr => ?_)
    obtain ⟨r1, s3⟩ := r
    obtain ⟨e, H3, f3⟩ := hr
    have e : r1 = [] := e
    subst e
    have f3 : ∀ c j, ¬ (88 ≤ c ∧ c ≤ 136) → s3 c j = s2 c j := f3
    refine b_X10_carry_43 _ _ _ _ s3 ht ⟨fun _ => ⟨rfl, cSt_e S2 (fun c j a b _ => f3 c j (by omega)), H3⟩, fun q => absurd can q, fun c j a b d => (f3 c j b).trans ((f2 c j (by omega) d).trans (f1 c j (by omega)))⟩
  · have e := n1 can
    cases e
    refine b_X10_carry_25 _ _ _ _ _ s1 ht (fun g => ⟨fun q => absurd q can, fun _ => ⟨rfl, S1, H1⟩, fun c j a b d => f1 c j (by omega)⟩) (fun g => absurd rfl g)
theorem night_c (ht : t = 7 ∨ t = 43) (hw : wD D) (hS : cSt s 79 D S) {H : List ZS} (hH : cHi s D H) : zC N 1303 [(((0 : Nat) : Int), 0)] s (fun r => r.1 = [(sNi (nigT S), 0)] ∧ cSt r.2 79 D (nigT S) ∧ cHi r.2 D ((S :: H).take 16) ∧ frDo t s r.2) := by
  refine c_X10_night (b_X10_night_0 s ht (fun m _ => ?_))
  refine zC_q (keep_ok ht (d := 79) rfl (by omega) hw hH hS) (fun r hr => ?_)
  obtain ⟨r1, s1⟩ := r
  obtain ⟨e, H1, f1⟩ := hr
  have e : r1 = [] := e
  subst e
  have f1 : ∀ c j, ¬ (88 ≤ c ∧ c ≤ 136) → s1 c j = s c j := f1
  have S1 : cSt s1 79 D S := cSt_e hS (fun c j a b _ => f1 c j (by omega))
  obtain ⟨a1, a2, a3, a4, a5⟩ := S1
  have W : ∀ (s9 : Zs) (v9 : Int), s9 = zu s1 79 4 (w32 (s1 79 4 + 1)) → v9 = w32 (s1 79 4 + 1) → (([(v9, 0)], s9) : Zr).1 = [(sNi (nigT S), 0)] ∧ cSt (([(v9, 0)], s9) : Zr).2 79 D (nigT S) ∧ cHi (([(v9, 0)], s9) : Zr).2 D ((S :: H).take 16) ∧ frDo t s (([(v9, 0)], s9) : Zr).2 := fun s9 v9 e9 ev => by
    rw [a5] at e9 ev
    have f9 : ∀ c j, ¬ (c = 79 ∧ j = 4) → s9 c j = s1 c j := fun c j hc => by rw [e9, zu_n hc]
    have e4 : s9 79 4 = sNi (nigT S) := by rw [e9, zu_eq]; rfl
    exact ⟨by rw [ev]; rfl, ⟨(f9 _ _ (by omega)).trans a1, fun p hp => (f9 _ _ (by omega)).trans (a2 p hp), fun p hp => (f9 _ _ (by omega)).trans (a3 p hp), (f9 _ _ (by omega)).trans a4, e4⟩, cHi_e H1 (fun c j a b => f9 c j (by omega)), fun c j a b d => (f9 c j (by omega)).trans (f1 c j b)⟩
  exact b_X10_night_11 s1 ht (W _ _ rfl rfl)
theorem undo_c (ht : t = 7 ∨ t = 43) (hw : wD D) (hS : cSt s 79 D S) {H : List ZS} (hH : cHi s D H) : zC N 1319 [(((0 : Nat) : Int), 0)] s (fun r => (∀ S' H', H = S' :: H' → r.1 = [(1, 0)] ∧ cSt r.2 79 D S' ∧ cHi r.2 D H') ∧ (H = [] → r.1 = [(0, 0)] ∧ cSt r.2 79 D S ∧ cHi r.2 D H) ∧ frDo t s r.2) := by
  refine c_X10_undo (b_X10_undo_0 s ht (fun m _ => ?_))
  refine zC_q (back_ok ht (d := 79) rfl (by omega) hw hH) (fun r hr => ?_)
  obtain ⟨r1, s1⟩ := r
  obtain ⟨y, no⟩ := hr
  cases H with
  | nil =>
    have e := no rfl
    cases e
    exact b_X10_undo_11 _ s ht ⟨fun S' H' q => (by cases q), fun _ => ⟨rfl, hS, hH⟩, fun c j _ _ _ => rfl⟩
  | cons S' H' =>
    obtain ⟨e, H1, S1, f1⟩ := y S' H' rfl
    have e : r1 = [(1, 0)] := e
    subst e
    refine b_X10_undo_11 _ s1 ht ⟨fun S'' H'' q => ?_, (fun q => by cases q), fun c j a b d => f1 c j (by omega) (by omega)⟩
    cases q
    exact ⟨rfl, S1, H1⟩
end Zcd
