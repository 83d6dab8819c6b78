/-! see; how many are seen -/
theorem b_X5_addSeen_0 {n : Nat} {Q : Zr → Prop} (x1 x2 : Int) (s : Zs) 
    (h0 : ∀ (g1 : s 85 2 < 8), ∀ (g2 : x2 = 0), Q ([(1, 0)], zu (zu (zu s 87 ((s 85 2).toNat) x1) 85 4 (zor (s 85 4) 0)) 85 2 (w32 ((s 85 2) + 1))))
    (h1 : ∀ (g1 : s 85 2 < 8), ∀ (g2 : x2 ≠ 0), Q ([(1, 0)], zu (zu (zu s 87 ((s 85 2).toNat) x1) 85 4 (zor (s 85 4) (zshl 1 (s 85 2)))) 85 2 (w32 ((s 85 2) + 1))))
    (h2 : ∀ (g1 : 8 ≤ s 85 2), Q ([(0, 0)], s)) : zT (zE 640) (Pt PX5_addSeen) n (0, [((85 : Nat) : Int), x1, x2], [], s) Q := by
  refine tL ((85 : Nat) : Int) 0 rfl rfl rfl ?_
  refine tFv (c := 85) (s 85 2) 0 rfl rfl rfl rfl rfl ?_
  refine tK rfl ?_
  refine tJ2 rfl (fun g1 _ l1 => zT_le ?_ (Nat.le_of_lt l1)) (fun g1 _ l1 => zT_le ?_ (Nat.le_of_lt l1))
  · refine tL ((85 : Nat) : Int) 0 rfl rfl rfl ?_
    refine tFR (c := 85) 87 rfl rfl rfl rfl rfl ?_
    refine tL ((85 : Nat) : Int) 0 rfl rfl rfl ?_
    refine tFv (c := 85) (s 85 2) 0 rfl rfl rfl rfl rfl ?_
    refine tL x1 0 rfl rfl rfl ?_
    refine tAS 87 ((s 85 2).toNat) rfl rfl rfl (by decide) ?_
    refine tL ((85 : Nat) : Int) 0 rfl rfl rfl ?_
    refine tD rfl ?_
    refine tFv (c := 85) (s 85 4) 0 rfl rfl rfl rfl rfl ?_
    refine tL x2 0 rfl rfl rfl ?_
    refine tI0 rfl (fun g2 _ l2 => zT_le ?_ (Nat.le_of_lt l2)) (fun g2 _ l2 => zT_le ?_ (Nat.le_of_lt l2))
    · refine tK rfl ?_
      refine tB (v := zor (s 85 4) 0) rfl rfl ?_
      refine tPut 85 rfl rfl ?_
      refine tL ((85 : Nat) : Int) 0 rfl rfl rfl ?_
      refine tD rfl ?_
      refine tFv (c := 85) (s 85 2) 0 rfl rfl rfl rfl rfl ?_
      refine tK rfl ?_
      refine tB (v := w32 ((s 85 2) + 1)) rfl rfl ?_
      refine tPut 85 rfl rfl ?_
      refine tK rfl ?_
      exact tR rfl (h0 g1 g2)
    · refine tK rfl ?_
      refine tL ((85 : Nat) : Int) 0 rfl rfl rfl ?_
      refine tFv (c := 85) (s 85 2) 0 rfl rfl rfl rfl rfl ?_
      refine tB (v := zshl 1 (s 85 2)) rfl rfl ?_
      refine tG rfl ?_
      refine tB (v := zor (s 85 4) (zshl 1 (s 85 2))) rfl rfl ?_
      refine tPut 85 rfl rfl ?_
      refine tL ((85 : Nat) : Int) 0 rfl rfl rfl ?_
      refine tD rfl ?_
      refine tFv (c := 85) (s 85 2) 0 rfl rfl rfl rfl rfl ?_
      refine tK rfl ?_
      refine tB (v := w32 ((s 85 2) + 1)) rfl rfl ?_
      refine tPut 85 rfl rfl ?_
      refine tK rfl ?_
      exact tR rfl (h1 g1 g2)
  · refine tK rfl ?_
    exact tR rfl (h2 g1)

theorem c_X5_addSeen {n : Nat} {Q : Zr → Prop} {a0 a1 a2 : Int} {s : Zs} (h : zT (zE 640) (Pt PX5_addSeen) n (0, [a0, a1, a2], [], s) Q) : zC n 640 [(a0, 0), (a1, 0), (a2, 0)] s Q := h

theorem b_X10_see_0 {n : Nat} {Q : Zr → Prop} {t : Nat} (x1 x2 x3 x4 : Int) (s : Zs) (ht : t = 7 ∨ t = 43)
    (h0 : ∀ m, m < n → zC m 1034 [(s 0 3, 0), (3, 0), (x1, 0)] s (fun p => zT (zE 1313) (Pt PX10_see) m (9, [((0 : Nat) : Int), x1, x2, x3, x4], p.1 ++ [], p.2) Q)) : zT (zE 1313) (Pt PX10_see) n (0, [((0 : Nat) : Int), x1, x2, x3, x4], [], s) Q := by
  refine tL ((0 : Nat) : Int) 0 rfl rfl rfl ?_
  refine tFv (c := 0) (s 0 3) 0 rfl rfl rfl rfl rfl ?_
  refine tK rfl ?_
  refine tL x1 0 rfl rfl rfl ?_
  exact tCall [(s 0 3, 0), (3, 0), (x1, 0)] [] rfl rfl rfl (fun m l => h0 m (Nat.lt_of_lt_of_le l (Nat.le_refl n)))

theorem b_X10_see_9 {n : Nat} {Q : Zr → Prop} {t : Nat} (x1 x2 x3 x4 v0 : Int) (s : Zs) (ht : t = 7 ∨ t = 43)
    (h0 : ∀ (g1 : v0 = 0), Q ([(0, 0)], s))
    (h1 : ∀ (g1 : v0 ≠ 0), ∀ m, m < n → zC m 1036 [(s 0 3, 0), (x2, 0)] s (fun p => zT (zE 1313) (Pt PX10_see) m (20, [((0 : Nat) : Int), x1, x2, x3, x4], p.1 ++ [], p.2) Q)) : zT (zE 1313) (Pt PX10_see) n (9, [((0 : Nat) : Int), x1, x2, x3, x4], [(v0, 0)], s) Q := by
  refine tI0 rfl (fun g1 _ l1 => zT_le ?_ (Nat.le_of_lt l1)) (fun g1 _ l1 => zT_le ?_ (Nat.le_of_lt l1))
  · refine tK rfl ?_
    exact tR rfl (h0 g1)
  · refine tL ((0 : Nat) : Int) 0 rfl rfl rfl ?_
    refine tFv (c := 0) (s 0 3) 0 rfl rfl rfl rfl rfl ?_
    refine tL x2 0 rfl rfl rfl ?_
    exact tCall [(s 0 3, 0), (x2, 0)] [] rfl rfl rfl (fun m l => h1 g1 m (Nat.lt_of_lt_of_le l (Nat.le_refl n)))

theorem b_X10_see_20 {n : Nat} {Q : Zr → Prop} {t : Nat} (x1 x2 x3 x4 v0 : Int) (s : Zs) (ht : t = 7 ∨ t = 43)
    (h0 : ∀ (g1 : v0 ≠ 0), ∀ m, m < n → zC m 1043 [(s 0 3, 0), (s 80 x1.toNat, 0), (x2, 0)] s (fun p => zT (zE 1313) (Pt PX10_see) m (42, [((0 : Nat) : Int), x1, x2, x3, x4], p.1 ++ [], p.2) Q))
    (h1 : ∀ (g1 : v0 = 0), Q ([(0, 0)], s)) : zT (zE 1313) (Pt PX10_see) n (20, [((0 : Nat) : Int), x1, x2, x3, x4], [(v0, 0)], s) Q := by
  refine tI1 rfl (fun g1 _ l1 => zT_le ?_ (Nat.le_of_lt l1)) (fun g1 _ l1 => zT_le ?_ (Nat.le_of_lt l1))
  · refine tL ((0 : Nat) : Int) 0 rfl rfl rfl ?_
    refine tFv (c := 0) (s 0 3) 0 rfl rfl rfl rfl rfl ?_
    refine tL ((0 : Nat) : Int) 0 rfl rfl rfl ?_
    refine tFR (c := 0) 79 rfl rfl rfl rfl rfl ?_
    refine tFR (c := 79) 80 rfl rfl rfl rfl rfl ?_
    refine tL x1 0 rfl rfl rfl ?_
    refine tAv 80 x1.toNat (s 80 x1.toNat) 0 rfl rfl rfl (by decide) rfl rfl ?_
    refine tL x2 0 rfl rfl rfl ?_
    exact tCall [(s 0 3, 0), (s 80 x1.toNat, 0), (x2, 0)] [] rfl rfl rfl (fun m l => h0 g1 m (Nat.lt_of_lt_of_le l (Nat.le_refl n)))
  · refine tK rfl ?_
    exact tR rfl (h1 g1)

theorem b_X10_see_42 {n : Nat} {Q : Zr → Prop} {t : Nat} (x1 x2 x3 x4 v0 : Int) (s : Zs) (ht : t = 7 ∨ t = 43)
    (h0 : ∀ m, m < n → zC m 771 [(((79 : Nat) : Int), 0), (s 0 3, 0), (x1, 0), ((-1), 0)] s (fun p => zT (zE 1313) (Pt PX10_see) m (63, [((0 : Nat) : Int), x1, x2, x3, v0], p.1 ++ [(v0, 0), (((85 : Nat) : Int), 0)], p.2) Q)) : zT (zE 1313) (Pt PX10_see) n (42, [((0 : Nat) : Int), x1, x2, x3, x4], [(v0, 0)], s) Q := by
  refine tS [((0 : Nat) : Int), x1, x2, x3, v0] rfl rfl ?_
  refine tL ((0 : Nat) : Int) 0 rfl rfl rfl ?_
  refine tFR (c := 0) 85 rfl rfl rfl rfl rfl ?_
  refine tL v0 0 rfl rfl rfl ?_
  refine tL ((0 : Nat) : Int) 0 rfl rfl rfl ?_
  refine tFR (c := 0) 79 rfl rfl rfl rfl rfl ?_
  refine tL ((0 : Nat) : Int) 0 rfl rfl rfl ?_
  refine tFv (c := 0) (s 0 3) 0 rfl rfl rfl rfl rfl ?_
  refine tL x1 0 rfl rfl rfl ?_
  refine tK rfl ?_
  exact tCall [(((79 : Nat) : Int), 0), (s 0 3, 0), (x1, 0), ((-1), 0)] [(v0, 0), (((85 : Nat) : Int), 0)] rfl rfl rfl (fun m l => h0 m (Nat.lt_of_lt_of_le l (Nat.le_refl n)))

theorem b_X10_see_63 {n : Nat} {Q : Zr → Prop} {t : Nat} (x1 x2 x3 x4 v0 y0 : Int) (s : Zs) (ht : t = 7 ∨ t = 43)
    (h0 : ∀ m, m < n → zC m 640 [(((85 : Nat) : Int), 0), (zand y0 (zxor v0 (-1)), 0), (x3, 0)] s (fun p => zT (zE 1313) (Pt PX10_see) m (70, [((0 : Nat) : Int), x1, x2, x3, x4], p.1 ++ [], p.2) Q)) : zT (zE 1313) (Pt PX10_see) n (63, [((0 : Nat) : Int), x1, x2, x3, x4], [(v0, 0), (y0, 0), (((85 : Nat) : Int), 0)], s) Q := by
  refine tK rfl ?_
  refine tB (v := zxor v0 (-1)) rfl rfl ?_
  refine tB (v := zand y0 (zxor v0 (-1))) rfl rfl ?_
  refine tL x3 0 rfl rfl rfl ?_
  exact tCall [(((85 : Nat) : Int), 0), (zand y0 (zxor v0 (-1)), 0), (x3, 0)] [] rfl rfl rfl (fun m l => h0 m (Nat.lt_of_lt_of_le l (Nat.le_refl n)))

theorem b_X10_see_70 {n : Nat} {Q : Zr → Prop} {t : Nat} (x1 x2 x3 x4 v0 : Int) (s : Zs) (ht : t = 7 ∨ t = 43)
    (h0 : Q ([(v0, 0)], s)) : zT (zE 1313) (Pt PX10_see) n (70, [((0 : Nat) : Int), x1, x2, x3, x4], [(v0, 0)], s) Q := by
  exact tR rfl (h0)

theorem c_X10_see {n : Nat} {Q : Zr → Prop} {a0 a1 a2 a3 : Int} {s : Zs} (h : zT (zE 1313) (Pt PX10_see) n (0, [a0, a1, a2, a3, 0], [], s) Q) : zC n 1313 [(a0, 0), (a1, 0), (a2, 0), (a3, 0)] s Q := h

theorem b_X11_see_0 {n : Nat} {Q : Zr → Prop} (x1 x2 x3 : Int) (s : Zs) 
    (h0 : ∀ (g2 : x1 < 0), Q ([(0, 0)], zu s 172 0 0))
    (h1 : ∀ (g3 : 0 ≤ x1), ∀ (g4 : s 174 3 ≤ x1), Q ([(0, 0)], zu s 172 0 0))
    (h2 : ∀ (g5 : 0 ≤ x1), ∀ (g6 : x1 < s 174 3), ∀ m, m < n → zC m 1453 [(((172 : Nat) : Int), 0), (x2, 0)] (zu s 172 0 0) (fun p => zT (zE 1508) (Pt PX11_see) m (18, [((172 : Nat) : Int), x1, x2, x3], p.1 ++ [], p.2) Q)) : zT (zE 1508) (Pt PX11_see) n (0, [((172 : Nat) : Int), x1, x2, x3], [], s) Q := by
  refine tL ((172 : Nat) : Int) 0 rfl rfl rfl ?_
  refine tK rfl ?_
  refine tPut 172 rfl rfl ?_
  refine tL ((172 : Nat) : Int) 0 rfl rfl rfl ?_
  refine tL x1 0 rfl rfl rfl ?_
  refine tCall [(((172 : Nat) : Int), 0), (x1, 0)] [] rfl rfl rfl (fun m1 l1 => c_X11_isPerson (b_X11_isPerson_0 x1 (zu s 172 0 0) ?_ ?_ ?_))
  · intro g2
    show zT (zE 1508) (Pt PX11_see) m1 (10, [((172 : Nat) : Int), x1, x2, x3], [(0, 0)], zu s 172 0 0) Q
    refine tI0 rfl (fun g _ l => zT_le ?_ (Nat.le_of_lt l)) (fun g _ l => (absurd g (by decide)))
    refine tK rfl ?_
    exact tR rfl (h0 g2)
  · intro g3 g4
    show zT (zE 1508) (Pt PX11_see) m1 (10, [((172 : Nat) : Int), x1, x2, x3], [(0, 0)], zu s 172 0 0) Q
    refine tI0 rfl (fun g _ l => zT_le ?_ (Nat.le_of_lt l)) (fun g _ l => (absurd g (by decide)))
    refine tK rfl ?_
    exact tR rfl (h1 g3 g4)
  · intro g5 g6
    show zT (zE 1508) (Pt PX11_see) m1 (10, [((172 : Nat) : Int), x1, x2, x3], [(1, 0)], zu s 172 0 0) Q
    refine tI0 rfl (fun g _ l => (absurd g (by decide))) (fun g _ l => zT_le ?_ (Nat.le_of_lt l))
    refine tL ((172 : Nat) : Int) 0 rfl rfl rfl ?_
    refine tL x2 0 rfl rfl rfl ?_
    exact tCall [(((172 : Nat) : Int), 0), (x2, 0)] [] rfl rfl rfl (fun m l => h2 g5 g6 m (Nat.lt_of_lt_of_le l (Nat.le_trans (Nat.le_of_lt l1) (Nat.le_refl n))))

theorem b_X11_see_18 {n : Nat} {Q : Zr → Prop} (x1 x2 x3 v0 : Int) (s : Zs) 
    (h0 : ∀ (g1 : v0 = 0), Q ([(0, 0)], s))
    (h1 : ∀ (g1 : v0 ≠ 0), ∀ (g2 : s 212 0 ≠ 8), Q ([(1, 0)], zu (zu (zu (zu s 213 ((s 212 0).toNat) x1) 214 ((s 212 0).toNat) x2) 215 ((s 212 0).toNat) (zst3 x3)) 212 0 (w32 ((s 212 0) + 1))))
    (h2 : ∀ (g1 : v0 ≠ 0), ∀ (g2 : s 212 0 = 8), Q ([(0, 0)], s)) : zT (zE 1508) (Pt PX11_see) n (18, [((172 : Nat) : Int), x1, x2, x3], [(v0, 0)], s) Q := by
  refine tI0 rfl (fun g1 _ l1 => zT_le ?_ (Nat.le_of_lt l1)) (fun g1 _ l1 => zT_le ?_ (Nat.le_of_lt l1))
  · refine tK rfl ?_
    exact tR rfl (h0 g1)
  · refine tL ((172 : Nat) : Int) 0 rfl rfl rfl ?_
    refine tFR (c := 172) 212 rfl rfl rfl rfl rfl ?_
    refine tK rfl ?_
    refine tAv 212 0 (s 212 0) 0 rfl rfl rfl (by decide) rfl rfl ?_
    refine tK rfl ?_
    refine tJ1 rfl (fun g2 _ l2 => zT_le ?_ (Nat.le_of_lt l2)) (fun g2 _ l2 => zT_le ?_ (Nat.le_of_lt l2))
    · refine tL ((172 : Nat) : Int) 0 rfl rfl rfl ?_
      refine tFR (c := 172) 213 rfl rfl rfl rfl rfl ?_
      refine tL ((172 : Nat) : Int) 0 rfl rfl rfl ?_
      refine tFR (c := 172) 212 rfl rfl rfl rfl rfl ?_
      refine tK rfl ?_
      refine tAv 212 0 (s 212 0) 0 rfl rfl rfl (by decide) rfl rfl ?_
      refine tL x1 0 rfl rfl rfl ?_
      refine tAS 213 ((s 212 0).toNat) rfl rfl rfl (by decide) ?_
      refine tL ((172 : Nat) : Int) 0 rfl rfl rfl ?_
      refine tFR (c := 172) 214 rfl rfl rfl rfl rfl ?_
      refine tL ((172 : Nat) : Int) 0 rfl rfl rfl ?_
      refine tFR (c := 172) 212 rfl rfl rfl rfl rfl ?_
      refine tK rfl ?_
      refine tAv 212 0 (s 212 0) 0 rfl rfl rfl (by decide) rfl rfl ?_
      refine tL x2 0 rfl rfl rfl ?_
      refine tAS 214 ((s 212 0).toNat) rfl rfl rfl (by decide) ?_
      refine tL ((172 : Nat) : Int) 0 rfl rfl rfl ?_
      refine tFR (c := 172) 215 rfl rfl rfl rfl rfl ?_
      refine tL ((172 : Nat) : Int) 0 rfl rfl rfl ?_
      refine tFR (c := 172) 212 rfl rfl rfl rfl rfl ?_
      refine tK rfl ?_
      refine tAv 212 0 (s 212 0) 0 rfl rfl rfl (by decide) rfl rfl ?_
      refine tL x3 0 rfl rfl rfl ?_
      refine tAS3 215 ((s 212 0).toNat) rfl rfl rfl ?_
      refine tL ((172 : Nat) : Int) 0 rfl rfl rfl ?_
      refine tFR (c := 172) 212 rfl rfl rfl rfl rfl ?_
      refine tK rfl ?_
      refine tD2 rfl ?_
      refine tAv 212 0 (s 212 0) 0 rfl rfl rfl (by decide) rfl rfl ?_
      refine tK rfl ?_
      refine tB (v := w32 ((s 212 0) + 1)) rfl rfl ?_
      refine tAS 212 0 rfl rfl rfl (by decide) ?_
      refine tK rfl ?_
      exact tR rfl (h1 g1 g2)
    · refine tK rfl ?_
      exact tR rfl (h2 g1 g2)

theorem c_X11_see {n : Nat} {Q : Zr → Prop} {a0 a1 a2 a3 : Int} {s : Zs} (h : zT (zE 1508) (Pt PX11_see) n (0, [a0, a1, a2, a3], [], s) Q) : zC n 1508 [(a0, 0), (a1, 0), (a2, 0), (a3, 0)] s Q := h

section Zsd
variable {N t : Nat} {s : Zs} {D : ZD} {S : ZS} {H : List ZS} {K : Nat → Option ZS}
theorem said_ex {d e : Nat} (hd : isSd d = true) (he : isSd e = true) (hde : d + 2 < e ∨ e + 2 < d) : zC N 642 [((d : Int), 0), ((e : Int), 0)] s (fun r => r.1 = [] ∧ (r.2 d 1 = s e 1 ∧ r.2 d 2 = s e 2) ∧ ∀ c j, ¬ (d ≤ c ∧ c ≤ d + 2) → r.2 c j = s c j) := by
  refine c_X5_copy (b_X5_copy_0 s hd he (fun m _ => ?_))
  refine c_X5_tellG (b_X5_tellG_0 _ s hd he ?_)
  have W : ∀ (s1 s9 : Zs) (k k2 : Nat) (b : Int), s1 = zu (zcpy s (e + 1) (d + 1) k) d 1 (s e 1) → s9 = zu (zcpy (zu s1 d 2 (s1 e 2)) (e + 2) (d + 2) k2) d 4 b → (([], s9) : Zr).1 = [] ∧ ((([], s9) : Zr).2 d 1 = s e 1 ∧ (([], s9) : Zr).2 d 2 = s e 2) ∧ ∀ c j, ¬ (d ≤ c ∧ c ≤ d + 2) → (([], s9) : Zr).2 c j = s c j := fun s1 s9 k k2 b e1 e9 => by
    have f1 : ∀ c j, c ≠ d + 1 → ¬ (c = d ∧ j = 1) → s1 c j = s c j := fun c j a b => by
      rw [e1, zu_n b]
      unfold zcpy
      rw [if_neg a]
    have f9 : ∀ c j, c ≠ d + 2 → ¬ (c = d ∧ (j = 2 ∨ j = 4)) → s9 c j = s1 c j := fun c j a b => by
      rw [e9, zu_n (by omega)]
      unfold zcpy
      rw [if_neg a, zu_n (by omega)]
    refine ⟨rfl, ⟨?_, ?_⟩, fun c j hc => ?_⟩
    · show s9 d 1 = _
      rw [f9 _ _ (by omega) (by omega), e1, zu_eq]
    · show s9 d 2 = _
      rw [e9, zu_n (by omega)]
      unfold zcpy
      rw [if_neg (by omega), zu_eq]
      exact f1 e 2 (by omega) (by omega)
    · show s9 c j = _
      rw [f9 _ _ (by omega) (by omega), f1 _ _ (by omega) (by omega)]
  exact b_X5_copy_12 _ hd he (W _ _ _ _ _ rfl rfl)
def mkQc (K : Nat → Option ZS) (x bk : Int) (s s' : Zs) : Prop := (¬ canM K x bk → s' = s) ∧ (canM K x bk → (bk = 0 → (s' (151 + 3 * x.toNat) 1 = s 85 1 ∧ s' (151 + 3 * x.toNat) 2 = s 85 2) ∧ (∀ j, s' 85 j = s 85 j) ∧ ∀ m j, m < 4 → m ≠ x.toNat → s' (151 + 3 * m) j = s (151 + 3 * m) j) ∧ (bk ≠ 0 → (s' 85 1 = s (151 + 3 * x.toNat) 1 ∧ s' 85 2 = s (151 + 3 * x.toNat) 2) ∧ ∀ m j, m < 4 → s' (151 + 3 * m) j = s (151 + 3 * m) j))
theorem mark_cs (ht : t = 7 ∨ t = 43) (hK : mkC s D K) {x bk : Int} : zC N 1302 [(((0 : Nat) : Int), 0), (x, 0), (bk, 0)] s (fun r => mkQc K x bk s r.2) := by
  obtain ⟨⟨L, l1, l2, l3⟩, -⟩ := hK
  have no : ¬ canM K x bk → mkQc K x bk s s := fun h => ⟨fun _ => rfl, fun q => absurd q h⟩
  refine c_X10_mark (b_X10_mark_0 _ _ s ht (fun g => no (fun q => by have := q.1; omega)) (fun g g2 g3 g4 m _ => ?_) (fun g g2 g3 g4 => no (fun q => ?_)) (fun g g2 g3 m _ => ?_) (fun g g2 => no (fun q => by have := q.2.1; omega)))
  all_goals obtain ⟨k, rfl⟩ := Int.eq_ofNat_of_zero_le g
  · have hk : k < 4 := by omega
    have z := mk_1 hk
    rw [l2] at g4
    have tb : L.testBit k = true := by
      cases q : L.testBit k with
      | true => rfl
      | false => exact absurd ((zbit0 (by omega) (by omega)).mpr (by rw [q]; decide)) g4
    have ks : (K k).isSome = true := (l3 k hk).symm.trans tb
    rw [Int.toNat_natCast, z.1]
    refine zC_q (copy_ok ht (b := 79) rfl z.2.2.1 (by omega)) (fun r hr => ?_)
    obtain ⟨r1, s1⟩ := r
    obtain ⟨e, f1, -⟩ := hr
    have e : r1 = [] := e
    subst e
    have f1 : ∀ c j, ¬ (79 ≤ c ∧ c ≤ 81) → s1 c j = s c j := fun c j hc => f1 c j (by omega)
    refine b_X10_mark_81 _ _ s1 ht (fun m2 _ => ?_)
    rw [Int.toNat_natCast, z.2.1]
    refine zC_q (said_ex (d := 85) rfl z.2.2.2 (by omega)) (fun r hr => ?_)
    obtain ⟨r1, s2⟩ := r
    obtain ⟨e, g5, f2⟩ := hr
    have e : r1 = [] := e
    subst e
    have g5 : s2 85 1 = s1 (151 + 3 * k) 1 ∧ s2 85 2 = s1 (151 + 3 * k) 2 := g5
    have f2 : ∀ c j, ¬ (85 ≤ c ∧ c ≤ 87) → s2 c j = s1 c j := f2
    refine b_X10_mark_94 _ _ s2 ht (fun m3 _ => ?_)
    refine c_X1_clear (b_X1_clear_0 s2 ?_)
    have W : ∀ s9 : Zs, s9 = zu s2 88 0 0 → mkQc K ((k : Nat) : Int) bk s s9 := fun s9 e9 => by
      have f9 : ∀ c j, c ≠ 88 → s9 c j = s2 c j := fun c j a => by rw [e9, zu_n (fun q => a q.1)]
      refine ⟨fun q => absurd ⟨g, g2, fun _ => ks⟩ q, fun _ => ⟨fun q => absurd q g3, fun _ => ⟨⟨?_, ?_⟩, fun m j hm => ?_⟩⟩⟩
      · rw [Int.toNat_natCast, f9 _ _ (by omega), g5.1, f1 _ _ (by omega)]
      · rw [Int.toNat_natCast, f9 _ _ (by omega), g5.2, f1 _ _ (by omega)]
      · rw [f9 _ _ (by omega), f2 _ _ (by omega), f1 _ _ (by omega)]
    exact b_X10_mark_101 _ _ _ ht (W _ rfl)
  · have hk : k < 4 := by omega
    have ks : (K k).isSome = true := q.2.2 g3
    rw [l2] at g4
    exact (zbit0 (by omega) (by omega)).mp g4 ((l3 k hk).trans ks)
  · have hk : k < 4 := by omega
    have z := mk_1 hk
    rw [Int.toNat_natCast, z.1]
    refine zC_q (copy_ok ht (d := 79) z.2.2.1 rfl (by omega)) (fun r hr => ?_)
    obtain ⟨r1, s1⟩ := r
    obtain ⟨e, f1, -⟩ := hr
    have e : r1 = [] := e
    subst e
    have f1 : ∀ c j, ¬ (138 + 3 * k ≤ c ∧ c ≤ 138 + 3 * k + 2) → s1 c j = s c j := f1
    refine b_X10_mark_28 _ _ s1 ht (fun m2 _ => ?_)
    rw [Int.toNat_natCast, z.2.1]
    refine zC_q (said_ex (e := 85) z.2.2.2 rfl (by omega)) (fun r hr => ?_)
    obtain ⟨r1, s2⟩ := r
    obtain ⟨e, g5, f2⟩ := hr
    have e : r1 = [] := e
    subst e
    have g5 : s2 (151 + 3 * k) 1 = s1 85 1 ∧ s2 (151 + 3 * k) 2 = s1 85 2 := g5
    have f2 : ∀ c j, ¬ (151 + 3 * k ≤ c ∧ c ≤ 151 + 3 * k + 2) → s2 c j = s1 c j := f2
    have W : ∀ s9 : Zs, s9 = zu s2 0 11 (zor (s2 0 11) (zshl 1 ((k : Nat) : Int))) → mkQc K ((k : Nat) : Int) bk s s9 := fun s9 e9 => by
      have f9 : ∀ c j, c ≠ 0 → s9 c j = s2 c j := fun c j a => by rw [e9, zu_n (fun q => a q.1)]
      refine ⟨fun q => absurd ⟨g, g2, fun q2 => absurd g3 q2⟩ q, fun _ => ⟨fun _ => ⟨⟨?_, ?_⟩, fun j => ?_, fun m j hm hn => ?_⟩, fun q => absurd g3 q⟩⟩
      · rw [Int.toNat_natCast, f9 _ _ (by omega), g5.1, f1 _ _ (by omega)]
      · rw [Int.toNat_natCast, f9 _ _ (by omega), g5.2, f1 _ _ (by omega)]
      · rw [f9 _ _ (by omega), f2 _ _ (by omega), f1 _ _ (by omega)]
      · rw [Int.toNat_natCast] at hn
        rw [f9 _ _ (by omega), f2 _ _ (by omega), f1 _ _ (by omega)]
    exact b_X10_mark_41 _ _ s2 ht (W _ rfl)
theorem layL_ex {x y : Nat} : zC N 1463 [(((172 : Nat) : Int), 0), ((x : Int), 0), ((y : Int), 0)] s (fun r => r.1 = [] ∧ ∀ c j, ¬ (208 ≤ c ∧ c ≤ 211) → r.2 c j = zu s 207 y (s 207 x) c j) := by
  have loop : ∀ (M : Nat) (x3 : Int) (s1 : Zs), (∀ c j, ¬ (208 ≤ c ∧ c ≤ 211) → s1 c j = zu s 207 y (s 207 x) c j) → zT (zE 1463) (Pt PX11_laysLines) M (14, [((172 : Nat) : Int), (x : Int), (y : Int), x3], [], s1) (fun r => r.1 = [] ∧ ∀ c j, ¬ (208 ≤ c ∧ c ≤ 211) → r.2 c j = zu s 207 y (s 207 x) c j) := by
    intro M
    induction M using Nat.strongRecOn with
    | ind M ih => exact fun x3 s1 f1 => b_X11_laysLines_14 _ _ _ s1 (fun _ => ⟨rfl, f1⟩) (fun _ m hm => ih m hm _ _ (fun c j hc => by rw [zu_n (by omega), zu_n (by omega), zu_n (by omega), zu_n (by omega)]; exact f1 c j hc))
  exact c_X11_laysLines (b_X11_laysLines_0 _ _ _ s (loop N 0 _ (fun c j _ => by rw [Int.toNat_natCast, Int.toNat_natCast])))
theorem layS_ex {x y : Nat} : zC N 1465 [(((172 : Nat) : Int), 0), ((x : Int), 0), ((y : Int), 0)] s (fun r => r.1 = [] ∧ ∀ c j, ¬ (213 ≤ c ∧ c ≤ 215) → r.2 c j = zu s 212 y (s 212 x) c j) := by
  have loop : ∀ (M : Nat) (x3 : Int) (s1 : Zs), (∀ c j, ¬ (213 ≤ c ∧ c ≤ 215) → s1 c j = zu s 212 y (s 212 x) c j) → zT (zE 1465) (Pt PX11_laysSeen) M (14, [((172 : Nat) : Int), (x : Int), (y : Int), x3], [], s1) (fun r => r.1 = [] ∧ ∀ c j, ¬ (213 ≤ c ∧ c ≤ 215) → r.2 c j = zu s 212 y (s 212 x) c j) := by
    intro M
    induction M using Nat.strongRecOn with
    | ind M ih => exact fun x3 s1 f1 => b_X11_laysSeen_14 _ _ _ s1 (fun _ => ⟨rfl, f1⟩) (fun _ m hm => ih m hm _ _ (fun c j hc => by rw [zu_n (by omega), zu_n (by omega), zu_n (by omega)]; exact f1 c j hc))
  exact c_X11_laysSeen (b_X11_laysSeen_0 _ _ _ s (loop N 0 _ (fun c j _ => by rw [Int.toNat_natCast, Int.toNat_natCast])))
def mkQm (K : Nat → Option ZS) (x bk : Int) (s s' : Zs) : Prop := (¬ canM K x bk → ∀ j, s' 207 j = s 207 j ∧ s' 212 j = s 212 j) ∧ (canM K x bk → (bk = 0 → ∀ c, c = 207 ∨ c = 212 → s' c (1 + x.toNat) = s c 0 ∧ ∀ j, j ≠ 1 + x.toNat → s' c j = s c j) ∧ (bk ≠ 0 → ∀ c, c = 207 ∨ c = 212 → s' c 0 = s c (1 + x.toNat) ∧ ∀ j, j ≠ 0 → s' c j = s c j))
theorem mark_ms (hK : mkM s D K) {x bk : Int} : zC N 1472 [(((172 : Nat) : Int), 0), (x, 0), (bk, 0)] s (fun r => mkQm K x bk s r.2) := by
  have no : ¬ canM K x bk → mkQm K x bk s (zu s 172 0 0) := fun h => ⟨fun _ j => ⟨zu_n (by omega), zu_n (by omega)⟩, fun q => absurd q h⟩
  refine c_X11_mark (b_X11_mark_0 _ _ _ _ s (fun m _ => ?_))
  have out : ∀ z : Int, z < 0 ∨ 3 < z → z = x → ¬ canM K x bk := fun z h e q => by have := q.1; have := q.2.1; omega
  refine c_X11_within (b_X11_within_0 _ _ _ _ (fun g => ?_) (fun g g2 => ?_) (fun g g2 => ?_))
  · refine b_X11_mark_11 _ _ _ _ _ _ (fun _ => no (out x (by omega) rfl)) (fun q => absurd rfl q) (fun q => absurd rfl q) (fun q => absurd rfl q)
  · refine b_X11_mark_11 _ _ _ _ _ _ (fun _ => no (out x (by omega) rfl)) (fun q => absurd rfl q) (fun q => absurd rfl q) (fun q => absurd rfl q)
  obtain ⟨k, rfl⟩ := Int.eq_ofNat_of_zero_le g
  have hk : k < 4 := by omega
  have kz : zu s 172 0 0 220 ((k : Nat) : Int).toNat = if (K k).isSome = true then 1 else 0 := by rw [Int.toNat_natCast, zu_n (by omega)]; exact (hK k hk).1
  have ek : w32 (1 + ((k : Nat) : Int)) = ((1 + k : Nat) : Int) := by rw [w32_id (by omega) (by omega)]; omega
  have lay : ∀ (m x3 x4 : Nat) (Q : Zr → Prop) (s1 : Zs), (∀ s3 m', (∀ c j, ¬ (208 ≤ c ∧ c ≤ 211) → ¬ (213 ≤ c ∧ c ≤ 215) → s3 c j = zu (zu s1 207 x4 (s1 207 x3)) 212 x4 (s1 212 x3) c j) → zT (zE 1472) (Pt PX11_mark) m' (75, [((172 : Nat) : Int), ((k : Nat) : Int), bk, (x3 : Int), (x4 : Int)], [], s3) Q) → zC m 1463 [(((172 : Nat) : Int), 0), ((x3 : Int), 0), ((x4 : Int), 0)] s1 (fun p => zT (zE 1472) (Pt PX11_mark) m (68, [((172 : Nat) : Int), ((k : Nat) : Int), bk, (x3 : Int), (x4 : Int)], p.1 ++ [], p.2) Q) := fun m x3 x4 Q s1 go => by
    refine zC_q layL_ex (fun r hr => ?_)
    obtain ⟨r1, s2⟩ := r
    obtain ⟨e, f2⟩ := hr
    have e : r1 = [] := e
    subst e
    have f2 : ∀ c j, ¬ (208 ≤ c ∧ c ≤ 211) → s2 c j = zu s1 207 x4 (s1 207 x3) c j := f2
    refine b_X11_mark_68 _ _ _ _ s2 (fun m' _ => ?_)
    refine zC_q layS_ex (fun r hr => ?_)
    obtain ⟨r1, s3⟩ := r
    obtain ⟨e, f3⟩ := hr
    have e : r1 = [] := e
    subst e
    have f3 : ∀ c j, ¬ (213 ≤ c ∧ c ≤ 215) → s3 c j = zu s2 212 x4 (s2 212 x3) c j := f3
    refine go s3 m' (fun c j hc hd => ?_)
    rw [f3 c j hd, show s2 212 x3 = s1 212 x3 from (f2 _ _ (by omega)).trans (zu_n (by omega))]
    by_cases q : c = 212 ∧ j = x4
    · rw [q.1, q.2, zu_eq, zu_eq]
    · rw [zu_n q, zu_n q]
      exact f2 c j hc
  have z0 : ∀ c j, c ≠ 172 → c ≠ 220 → zu (zu s 172 0 0) 220 ((k : Nat) : Int).toNat (zst3 1) c j = s c j := fun c j a b => by rw [zu_n (fun q => b q.1), zu_n (fun q => a q.1)]
  generalize zu s 172 0 0 = s0 at kz z0 no ⊢
  refine b_X11_mark_11 _ _ _ _ _ _ (fun q => absurd q (by decide)) (fun _ b0 m2 _ => ?_) (fun _ b1 b2 m2 _ => ?_) (fun _ b1 b2 => ?_)
  · rw [ek]
    refine lay m2 0 (1 + k) _ _ (fun s3 m' f3 => ?_)
    refine b_X11_mark_75 _ _ _ _ s3 (fun _ m3 _ => ?_) (fun q => absurd b0 q)
    rw [w32_id (z := 13 * ((k : Nat) : Int)) (by omega) (by omega), show 13 * ((k : Nat) : Int) = ((13 * k : Nat) : Int) from by omega]
    refine zC_q (copies_ok (f := 216) (e := 218) (a := 0) (by omega) (by omega) (by omega)) (fun r hr => ?_)
    obtain ⟨r1, s4⟩ := r
    obtain ⟨e, -, c2⟩ := hr
    have e : r1 = [] := e
    subst e
    have c2 : ∀ c j, ¬ (c = 218 ∧ 13 * k ≤ j ∧ j < 13 * k + 13) → s4 c j = s3 c j := c2
    refine b_X11_mark_119 _ _ _ _ s4 ?_
    show mkQm K ((k : Nat) : Int) bk s s4
    refine ⟨fun q => absurd ⟨g, by omega, fun q2 => absurd b0 q2⟩ q, fun _ => ⟨fun _ c hc => ⟨?_, fun j hj => ?_⟩, fun q => absurd b0 q⟩⟩
    · rw [Int.toNat_natCast, c2 _ _ (by omega), f3 _ _ (by omega) (by omega)]
      rcases hc with rfl | rfl
      · rw [zu_n (by omega), zu_eq, z0 _ _ (by omega) (by omega)]
      · rw [zu_eq, z0 _ _ (by omega) (by omega)]
    · rw [Int.toNat_natCast] at hj
      rw [c2 _ _ (by omega), f3 _ _ (by omega) (by omega), zu_n (by omega), zu_n (by omega), z0 _ _ (by omega) (by omega)]
  · rw [ek]
    have can : canM K ((k : Nat) : Int) bk := ⟨g, by omega, fun _ => by
      have b2 : s0 220 ((k : Nat) : Int).toNat ≠ 0 := b2
      rw [kz] at b2
      rw [Int.toNat_natCast]
      cases q : (K k).isSome with
      | true => rfl
      | false => rw [q] at b2; exact absurd (if_neg (by decide)) b2⟩
    refine lay m2 (1 + k) 0 _ _ (fun s3 m' f3 => ?_)
    refine b_X11_mark_75 _ _ _ _ s3 (fun q => absurd q b1) (fun _ m3 _ => ?_)
    rw [w32_id (z := 13 * ((k : Nat) : Int)) (by omega) (by omega), show 13 * ((k : Nat) : Int) = ((13 * k : Nat) : Int) from by omega]
    refine zC_q (copies_ok (f := 218) (e := 216) (b := 0) (by omega) (by omega) (by omega)) (fun r hr => ?_)
    obtain ⟨r1, s4⟩ := r
    obtain ⟨e, -, c2⟩ := hr
    have e : r1 = [] := e
    subst e
    have c2 : ∀ c j, ¬ (c = 216 ∧ 0 ≤ j ∧ j < 0 + 13) → s4 c j = s3 c j := c2
    have W : ∀ s9 : Zs, s9 = zu s4 172 60 0 → mkQm K ((k : Nat) : Int) bk s s9 := fun s9 e9 => by
      have f9 : ∀ c j, c ≠ 172 → s9 c j = s4 c j := fun c j a => by rw [e9, zu_n (fun q => a q.1)]
      refine ⟨fun q => absurd can q, fun _ => ⟨fun q => absurd q b1, fun _ c hc => ⟨?_, fun j hj => ?_⟩⟩⟩
      · rw [Int.toNat_natCast, f9 _ _ (by omega), c2 _ _ (by omega), f3 _ _ (by omega) (by omega)]
        rcases hc with rfl | rfl
        · rw [zu_n (by omega), zu_eq, z0 _ _ (by omega) (by omega)]
        · rw [zu_eq, z0 _ _ (by omega) (by omega)]
      · rw [f9 _ _ (by omega), c2 _ _ (by omega), f3 _ _ (by omega) (by omega), zu_n (by omega), zu_n (by omega), z0 _ _ (by omega) (by omega)]
    exact b_X11_mark_95 _ _ _ _ s4 (W _ rfl)
  · refine no (fun q => ?_)
    have ks : (K k).isSome = true := q.2.2 b1
    have b2 : s0 220 ((k : Nat) : Int).toNat = 0 := b2
    rw [kz, if_pos ks] at b2
    exact absurd b2 (by decide)
noncomputable def seP (D : ZD) (x y : Int) (n : Int) : Bool := dcP (0 ≤ x ∧ x < cnt D 3 ∧ plI D y ∧ n < 8)
theorem see_c (ht : t = 7 ∨ t = 43) (e3 : s 0 3 = ((t : Nat) : Int)) (hd : cDn s t D) (hw : wD D) (hX : wX D) (hS : cSt s 79 D S) (hn : 0 ≤ s 85 2 ∧ s 85 2 ≤ 8) {x y z : Int} (hy : y < 2147483648) (hs : wS D S) : zC N 1313 [(((0 : Nat) : Int), 0), (x, 0), (y, 0), (z, 0)] s (fun r => r.1 = [((if seP D x y (s 85 2) = true then 1 else 0), 0)] ∧ r.2 85 2 = s 85 2 + (if seP D x y (s 85 2) = true then 1 else 0) ∧ ∀ c j, c ≠ 87 → ¬ (c = 85 ∧ (j = 2 ∨ j = 4)) → r.2 c j = s c j) := by
  have no : ¬ (0 ≤ x ∧ x < cnt D 3 ∧ plI D y ∧ s 85 2 < 8) → (([(0, 0)], s) : Zr).1 = [((if seP D x y (s 85 2) = true then 1 else 0), 0)] ∧ (([(0, 0)], s) : Zr).2 85 2 = s 85 2 + (if seP D x y (s 85 2) = true then 1 else 0) ∧ ∀ c j, c ≠ 87 → ¬ (c = 85 ∧ (j = 2 ∨ j = 4)) → (([(0, 0)], s) : Zr).2 c j = s c j := fun q => by
    have e : seP D x y (s 85 2) = false := dcP_no q
    rw [e, if_neg (by decide)]
    exact ⟨rfl, (Int.add_zero _).symm, fun _ _ _ _ => rfl⟩
  refine c_X10_see (b_X10_see_0 _ _ _ _ s ht (fun m _ => ?_))
  rw [e3]
  refine zC_q (has_ok ht hd (k := 3) (by omega)) (fun r hr => ?_)
  subst hr
  refine b_X10_see_9 _ _ _ _ _ s ht (fun g => no (fun q => by rw [if_pos (dcP_yes ⟨q.1, q.2.1⟩)] at g; omega)) (fun g m2 _ => ?_)
  have c : 0 ≤ x ∧ x < cnt D 3 := Classical.byContradiction fun c => g (if_neg (by rw [dcP_no c]; decide))
  obtain ⟨k, rfl⟩ := Int.eq_ofNat_of_zero_le c.1
  have hk : k < cnt D 3 := by omega
  have np := plI_nat hw (hs.2.1 k hk)
  have ep : s 80 (k : Int).toNat = sPe S k := by rw [Int.toNat_natCast]; exact hS.2.1 k hk
  rw [e3]
  refine zC_q (isPlace_ok ht hd hw hy) (fun r hr => ?_)
  subst hr
  refine b_X10_see_20 _ _ _ _ _ s ht (fun g2 m3 _ => ?_) (fun g2 => no (fun q => by rw [if_pos (dcP_yes q.2.2.1)] at g2; omega))
  have pl : plI D y := Classical.byContradiction fun c => g2 (if_neg (by rw [dcP_no c]; decide))
  rw [e3, ep]
  refine zC_q (way_ok ht hd hw hX (by omega) hy) (fun r hr => ?_)
  subst hr
  refine b_X10_see_42 _ _ _ _ _ s ht (fun m4 _ => ?_)
  rw [e3]
  refine zC_q (climbs_ok ht (b := 79) rfl hd hw hX hS hk) (fun r hr => ?_)
  subst hr
  refine b_X10_see_63 _ _ _ _ _ _ s ht (fun m5 _ => ?_)
  have yes : s 85 2 < 8 → ∀ (a : Int) (i : Nat) (b : Int) (s9 : Zs), s9 = zu (zu (zu s 87 i a) 85 4 b) 85 2 (w32 (s 85 2 + 1)) → (([(1, 0)], s9) : Zr).1 = [((if seP D (k : Int) y (s 85 2) = true then 1 else 0), 0)] ∧ (([(1, 0)], s9) : Zr).2 85 2 = s 85 2 + (if seP D (k : Int) y (s 85 2) = true then 1 else 0) ∧ ∀ c j, c ≠ 87 → ¬ (c = 85 ∧ (j = 2 ∨ j = 4)) → (([(1, 0)], s9) : Zr).2 c j = s c j := fun q a i b s9 e9 => by
    have e : seP D (k : Int) y (s 85 2) = true := dcP_yes ⟨c.1, c.2, pl, q⟩
    rw [e, if_pos rfl]
    refine ⟨rfl, ?_, fun c j a b => ?_⟩
    · show s9 85 2 = _
      rw [e9, zu_eq, w32_id (by omega) (by omega)]
    · show s9 c j = _
      rw [e9, zu_n (by omega), zu_n (by omega), zu_n (by omega)]
  refine c_X5_addSeen (b_X5_addSeen_0 _ _ s (fun g3 _ => ?_) (fun g3 _ => ?_) (fun g3 => ?_))
  · exact b_X10_see_70 _ _ _ _ _ _ ht (yes g3 _ _ _ _ rfl)
  · exact b_X10_see_70 _ _ _ _ _ _ ht (yes g3 _ _ _ _ rfl)
  · exact b_X10_see_70 _ _ _ _ _ _ ht (no (fun q => by have := q.2.2.2; omega))
theorem see_m (hm : mT s D) (hw : wD D) (hn : 0 ≤ s 212 0 ∧ s 212 0 ≤ 8) {x y z : Int} (hy : y < 2147483648) : zC N 1508 [(((172 : Nat) : Int), 0), (x, 0), (y, 0), (z, 0)] s (fun r => r.1 = [((if seP D x y (s 212 0) = true then 1 else 0), 0)] ∧ r.2 212 0 = s 212 0 + (if seP D x y (s 212 0) = true then 1 else 0) ∧ ∀ c j, ¬ (213 ≤ c ∧ c ≤ 215) → ¬ (c = 212 ∧ j = 0) → ¬ (c = 172 ∧ j = 0) → r.2 c j = s c j) := by
  have hc : s 174 3 = ((cnt D 3 : Nat) : Int) := hm.1 3 (by omega)
  have no : ¬ (0 ≤ x ∧ x < cnt D 3 ∧ plI D y ∧ s 212 0 < 8) → (([(0, 0)], zu s 172 0 0) : Zr).1 = [((if seP D x y (s 212 0) = true then 1 else 0), 0)] ∧ (([(0, 0)], zu s 172 0 0) : Zr).2 212 0 = s 212 0 + (if seP D x y (s 212 0) = true then 1 else 0) ∧ ∀ c j, ¬ (213 ≤ c ∧ c ≤ 215) → ¬ (c = 212 ∧ j = 0) → ¬ (c = 172 ∧ j = 0) → (([(0, 0)], zu s 172 0 0) : Zr).2 c j = s c j := fun q => by
    have e : seP D x y (s 212 0) = false := dcP_no q
    rw [e, if_neg (by decide)]
    exact ⟨rfl, by
      show zu s 172 0 0 212 0 = _
      rw [zu_n (by omega)]
      exact (Int.add_zero _).symm, fun c j _ _ h => zu_n h⟩
  refine c_X11_see (b_X11_see_0 _ _ _ s (fun g => no (fun q => by omega)) (fun g g2 => no (fun q => by omega)) (fun g g2 m _ => ?_))
  have hm1 : mT (zu s 172 0 0) D := mT_e (fun c j a b => zu_n (by omega)) hm
  refine zC_q (isPlace_m hm1 hw hy) (fun r hr => ?_)
  subst hr
  have e0 : zu s 172 0 0 212 0 = s 212 0 := zu_n (by omega)
  refine b_X11_see_18 _ _ _ _ _ (fun g3 => no (fun q => by rw [if_pos (dcP_yes q.2.2.1)] at g3; omega)) (fun g3 g4 => ?_) (fun g3 g4 => no (fun q => by have g4 : zu s 172 0 0 212 0 = 8 := g4; rw [e0] at g4; have := q.2.2.2; omega))
  have pl : plI D y := Classical.byContradiction fun c => g3 (if_neg (by rw [dcP_no c]; decide))
  have g4 : zu s 172 0 0 212 0 ≠ 8 := g4
  rw [e0] at g4
  have W : ∀ (i j k : Nat) (a b c : Int) (s9 : Zs), s9 = zu (zu (zu (zu (zu s 172 0 0) 213 i a) 214 j b) 215 k c) 212 0 (w32 (zu s 172 0 0 212 0 + 1)) → (([(1, 0)], s9) : Zr).1 = [((if seP D x y (s 212 0) = true then 1 else 0), 0)] ∧ (([(1, 0)], s9) : Zr).2 212 0 = s 212 0 + (if seP D x y (s 212 0) = true then 1 else 0) ∧ ∀ c j, ¬ (213 ≤ c ∧ c ≤ 215) → ¬ (c = 212 ∧ j = 0) → ¬ (c = 172 ∧ j = 0) → (([(1, 0)], s9) : Zr).2 c j = s c j := fun i j k a b c s9 e9 => by
    have e : seP D x y (s 212 0) = true := dcP_yes ⟨g, by omega, pl, by omega⟩
    rw [e, if_pos rfl]
    refine ⟨rfl, ?_, fun c j a b d => ?_⟩
    · show s9 212 0 = _
      rw [e9, zu_eq, e0, w32_id (by omega) (by omega)]
    · show s9 c j = _
      rw [e9, zu_n (by omega), zu_n (by omega), zu_n (by omega), zu_n (by omega), zu_n (by omega)]
  exact W _ _ _ _ _ _ _ rfl
/-- how many are seen, on both sides, and at the marks -/
def sdC (c j : Nat) : Prop := (c = 85 ∧ j = 2) ∨ ((c = 151 ∨ c = 154 ∨ c = 157 ∨ c = 160) ∧ j = 2) ∨ (c = 212 ∧ j < 5)
def sdR (s : Zs) (K : Nat → Option ZS) : Prop := (s 212 0 = s 85 2 ∧ 0 ≤ s 85 2 ∧ s 85 2 ≤ 8) ∧ ∀ m, m < 4 → (K m).isSome = true → s 212 (1 + m) = s (151 + 3 * m) 2 ∧ 0 ≤ s (151 + 3 * m) 2 ∧ s (151 + 3 * m) 2 ≤ 8
theorem sd_m {m : Nat} (h : m < 4) : sdC (151 + 3 * m) 2 := by unfold sdC; omega
theorem sd_e {s s' : Zs} {K : Nat → Option ZS} (h : sdR s K) (e : ∀ c j, sdC c j → s' c j = s c j) : sdR s' K := by
  have e0 := e 212 0 (Or.inr (Or.inr ⟨rfl, by omega⟩))
  have e1 := e 85 2 (Or.inl ⟨rfl, rfl⟩)
  refine ⟨by rw [e0, e1]; exact h.1, fun m hm hK => ?_⟩
  rw [e 212 (1 + m) (Or.inr (Or.inr ⟨rfl, by omega⟩)), e _ _ (sd_m hm)]
  exact h.2 m hm hK
def mkX (s : Zs) (D : ZD) (K : Nat → Option ZS) : Prop := mkM s D K ∧ sdR s K
theorem mkX_e {s s' : Zs} {D : ZD} {K : Nat → Option ZS} (hw : wD D) (h : mkX s D K) (e0 : ∀ j, s' 220 j = s 220 j) (e1 : ∀ j, s' 218 j = s 218 j) (e2 : ∀ c j, sdC c j → s' c j = s c j) : mkX s' D K := ⟨mkM_e hw h.1 e0 e1, sd_e h.2 e2⟩
theorem sd_mark {s s1 s2 : Zs} {K : Nat → Option ZS} {S : ZS} {x bk : Int} (h : sdR s K) (c1 : mkQc K x bk s s1) (f1 : ∀ j, s1 212 j = s 212 j) (c2 : mkQm K x bk s1 s2) (f2 : ∀ c j, (85 ≤ c ∧ c ≤ 162) → s2 c j = s1 c j) : (¬ canM K x bk → sdR s2 K) ∧ (canM K x bk → bk = 0 → sdR s2 (mkS K x.toNat S)) ∧ (canM K x bk → bk ≠ 0 → sdR s2 K) := by
  refine ⟨fun no => ?_, fun can b => ?_, fun can b => ?_⟩
  · refine sd_e h (fun c j q => ?_)
    have a1 := c1.1 no
    unfold sdC at q
    by_cases e : c = 212
    · rw [e, (c2.1 no j).2, f1]
    · rw [f2 _ _ (by omega), a1]
  · obtain ⟨⟨-, u1⟩, u2, u3⟩ := (c1.2 can).1 b
    obtain ⟨y1, y2⟩ := (c2.2 can).1 b 212 (Or.inr rfl)
    have hk : x.toNat < 4 := by have := can.1; have := can.2.1; omega
    refine ⟨?_, fun m hm hK => ?_⟩
    · rw [y2 0 (by omega), f1, f2 _ _ (by omega), u2]
      exact h.1
    · by_cases e : m = x.toNat
      · rw [e, y1, f1, f2 _ _ (by omega), u1]
        exact h.1
      · rw [y2 _ (by omega), f1, f2 _ _ (by omega), u3 m 2 hm e]
        have hK : (if m = x.toNat then some S else K m).isSome = true := hK
        rw [if_neg e] at hK
        exact h.2 m hm hK
  · obtain ⟨⟨-, u1⟩, u2⟩ := (c1.2 can).2 b
    obtain ⟨y1, y2⟩ := (c2.2 can).2 b 212 (Or.inr rfl)
    have hk : x.toNat < 4 := by have := can.1; have := can.2.1; omega
    refine ⟨?_, fun m hm hK => ?_⟩
    · rw [y1, f1, f2 _ _ (by omega), u1]
      exact h.2 _ hk (can.2.2 b)
    · rw [y2 _ (by omega), f1, f2 _ _ (by omega), u2 m 2 hm]
      exact h.2 m hm hK
end Zsd
