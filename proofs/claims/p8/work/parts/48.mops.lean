/-! taking tokens: the model -/
def mst (s : Zs) (T : Nat → Int) (n p : Nat) : Prop := mtS s T n ∧ p ≤ n ∧ mtK s T n (kB T n p)
def frN (s s' : Zs) : Prop := ∀ c j, ¬ (c = 172 ∧ (4 ≤ j ∧ j ≤ 9 ∨ j = 45)) → s' c j = s c j
theorem frN_rf (s : Zs) : frN s s := fun _ _ _ => rfl
theorem frN_tr {s s' s'' : Zs} (h1 : frN s s') (h2 : frN s' s'') : frN s s'' := fun c j h => (h2 c j h).trans (h1 c j h)
theorem frN_M {s s' : Zs} (h : frM s s') : frN s s' := fun c j hc => h c j (fun e => hc ⟨e.1, Or.inl ⟨e.2.1, by omega⟩⟩)
theorem frN_u {s s' : Zs} {j : Nat} {v : Int} (h : frN s s') (hj : 4 ≤ j ∧ j ≤ 9 ∨ j = 45) : frN s (zu s' 172 j v) := fun c i hc => by
  rw [zu_n (fun e => hc ⟨e.1, by rw [e.2]; exact hj⟩)]
  exact h c i hc
theorem mtS_N {s s' : Zs} {T : Nat → Int} {n : Nat} (t : mtS s T n) (f : frN s s') : mtS s' T n := by
  obtain ⟨h1, h2, h3⟩ := t
  exact ⟨by rw [f 172 3 (by omega)]; exact h1, h2, fun i hi => by rw [f 173 i (by omega)]; exact h3 i hi⟩
/-- an answer of the model: good and on, or bad with its fault -/
def mre (T : Nat → Int) (n : Nat) (x : PS) (s : Zs) (r : Zr) : Prop := r.1 = [(if x.1 = 0 then 1 else 0, 0)] ∧ frN s r.2 ∧ (x.1 = 0 → mst r.2 T n x.2) ∧ (x.1 ≠ 0 → r.2 172 9 = x.1)
theorem mst_next {N : Nat} {s : Zs} {T : Nat → Int} {n p : Nat} {Q : Zr → Prop} (h : mst s T n p) (k : ∀ s', frM s s' → mst s' T n (kE T n p) → Q ([], s')) : zC N 1482 [(((172 : Nat) : Int), 0)] s Q := by
  refine zC_q (nextToken_ok h.1 (p := kE T n p) h.2.2.2.1 (kE_bd (T := T) h.2.1).2.2.2) (fun q hq => ?_)
  obtain ⟨q1, q2⟩ := q
  have e : q1 = [] := hq.1
  subst e
  exact k q2 hq.2.1 ⟨mtS_fr h.1 hq.2.1, (kE_bd (T := T) h.2.1).2.2.2, hq.2.2⟩
theorem mst_45 {s : Zs} {T : Nat → Int} {n p : Nat} {v : Int} (h : mst s T n p) : mst (zu s 172 45 v) T n p := h
theorem mst_fail {s : Zs} {T : Nat → Int} {n p : Nat} {k : Int} (hk : 1 ≤ k ∧ k ≤ 5) (h : mst s T n p) {x : PS} (hx : x = gF T n k (0, p)) : mre T n x s ([(0, 0)], zu s 172 9 (w32 (k + w32 (16 * s 172 5)))) := by
  obtain ⟨h1, h2, h3⟩ := h
  have hb := kB_bd (T := T) h2
  have hn := h1.2.1
  have e : w32 (k + w32 (16 * s 172 5)) = k + 16 * (kB T n p : Int) := by
    rw [h3.1, w32_id (z := 16 * (kB T n p : Int)) (by omega) (by omega), w32_id (by omega) (by omega)]
  have hne : x.1 ≠ 0 := by rw [hx]; exact gF_ne hk.1 rfl
  refine ⟨by rw [if_neg hne], frN_u (frN_rf s) (by omega), fun q => absurd q hne, fun _ => ?_⟩
  show w32 (k + w32 (16 * s 172 5)) = x.1
  rw [e, hx]
  rfl
theorem mQ_1 {q : Int} : mQ q = 1 ↔ q = 2 := by
  unfold mQ
  by_cases h1 : q = 1
  · subst h1; decide
  by_cases h2 : q = 2
  · subst h2; decide
  by_cases h3 : q = 3
  · subst h3; decide
  by_cases h4 : q = 4
  · subst h4; decide
  simp [h1, h2, h3, h4]
theorem mQ_2 {q : Int} : mQ q = 2 ↔ q = 3 := by
  unfold mQ
  by_cases h1 : q = 1
  · subst h1; decide
  by_cases h2 : q = 2
  · subst h2; decide
  by_cases h3 : q = 3
  · subst h3; decide
  by_cases h4 : q = 4
  · subst h4; decide
  simp [h1, h2, h3, h4]
theorem mQ_3 {q : Int} : mQ q = 3 ↔ q = 4 := by
  unfold mQ
  by_cases h1 : q = 1
  · subst h1; decide
  by_cases h2 : q = 2
  · subst h2; decide
  by_cases h3 : q = 3
  · subst h3; decide
  by_cases h4 : q = 4
  · subst h4; decide
  simp [h1, h2, h3, h4]
theorem mQ_0 {q : Int} : mQ q = 0 ↔ q = 1 := by
  unfold mQ
  by_cases h1 : q = 1
  · subst h1; decide
  by_cases h2 : q = 2
  · subst h2; decide
  by_cases h3 : q = 3
  · subst h3; decide
  by_cases h4 : q = 4
  · subst h4; decide
  simp [h1, h2, h3, h4]
theorem mword {s : Zs} {T : Nat → Int} {n p i : Nat} (h : mst s T n p) (hi : i < 28) (hq : eQ T n (kB T n p) = 2) : s 172 7 = enc 27 (KW i) ↔ eW T n (kB T n p) = KW i := by
  rw [h.2.2.2.2.2.1 hq]
  constructor
  · intro e
    exact enc_inj (Or.inl rfl) _ _ (eW_ok (kB_bd h.2.1)) (KW_ok i hi) e
  · intro e
    rw [e]
theorem b_X11_needsWord_0 {n : Nat} {Q : Zr → Prop} (x1 x2 : Int) (s : Zs) 
    (h0 : ∀ (g2 : s 172 6 ≠ 1), Q ([(0, 0)], zu s 172 9 (w32 (1 + (w32 (16 * (s 172 5)))))))
    (h1 : ∀ (g4 : s 172 6 = 1), ∀ (g5 : zcmpL (s 172 7) x1 ≠ 0), Q ([(0, 0)], zu s 172 9 (w32 (1 + (w32 (16 * (s 172 5)))))))
    (h2 : ∀ (g7 : s 172 6 = 1), ∀ (g8 : zcmpL (s 172 7) x1 = 0), ∀ m, m < n → zC m 1482 [(((172 : Nat) : Int), 0)] s (fun p => zT (zE 1481) (Pt PX11_needsWord) m (18, [((172 : Nat) : Int), x1, x2], p.1 ++ [], p.2) Q)) : zT (zE 1481) (Pt PX11_needsWord) n (0, [((172 : Nat) : Int), x1, x2], [], s) Q := by
  refine tL ((172 : Nat) : Int) 0 rfl rfl rfl ?_
  refine tL x1 1 rfl rfl rfl ?_
  refine tCall [(((172 : Nat) : Int), 0), (x1, 1)] [] rfl rfl rfl (fun m1 l1 => c_X11_isWord (b_X11_isWord_0 x1 0 s ?_ ?_ ?_))
  · intro g2
    show zT (zE 1481) (Pt PX11_needsWord) m1 (5, [((172 : Nat) : Int), x1, x2], [(0, 0)], s) Q
    refine tI1 rfl (fun g _ l => (absurd g (by decide))) (fun g _ l => zT_le ?_ (Nat.le_of_lt l))
    refine tL ((172 : Nat) : Int) 0 rfl rfl rfl ?_
    refine tK rfl ?_
    refine tCall [(((172 : Nat) : Int), 0), (1, 0)] [] rfl rfl rfl (fun m3 l3 => c_X11_fails (b_X11_fails_0 1 s ?_))
    · show zT (zE 1481) (Pt PX11_needsWord) m3 (13, [((172 : Nat) : Int), x1, x2], [(0, 0)], zu s 172 9 (w32 (1 + (w32 (16 * (s 172 5)))))) Q
      exact tR rfl (h0 g2)
  · intro g4 g5
    show zT (zE 1481) (Pt PX11_needsWord) m1 (5, [((172 : Nat) : Int), x1, x2], [(0, 0)], s) Q
    refine tI1 rfl (fun g _ l => (absurd g (by decide))) (fun g _ l => zT_le ?_ (Nat.le_of_lt l))
    refine tL ((172 : Nat) : Int) 0 rfl rfl rfl ?_
    refine tK rfl ?_
    refine tCall [(((172 : Nat) : Int), 0), (1, 0)] [] rfl rfl rfl (fun m6 l6 => c_X11_fails (b_X11_fails_0 1 s ?_))
    · show zT (zE 1481) (Pt PX11_needsWord) m6 (13, [((172 : Nat) : Int), x1, x2], [(0, 0)], zu s 172 9 (w32 (1 + (w32 (16 * (s 172 5)))))) Q
      exact tR rfl (h1 g4 g5)
  · intro g7 g8
    show zT (zE 1481) (Pt PX11_needsWord) m1 (5, [((172 : Nat) : Int), x1, x2], [(1, 0)], s) Q
    refine tI1 rfl (fun g _ l => zT_le ?_ (Nat.le_of_lt l)) (fun g _ l => (absurd g (by decide)))
    refine tL ((172 : Nat) : Int) 0 rfl rfl rfl ?_
    exact tCall [(((172 : Nat) : Int), 0)] [] rfl rfl rfl (fun m l => h2 g7 g8 m (Nat.lt_of_lt_of_le l (Nat.le_trans (Nat.le_of_lt l1) (Nat.le_refl n))))

theorem b_X11_needsWord_18 {n : Nat} {Q : Zr → Prop} (x1 x2 : Int) (s : Zs) 
    (h0 : Q ([(1, 0)], s)) : zT (zE 1481) (Pt PX11_needsWord) n (18, [((172 : Nat) : Int), x1, x2], [], s) Q := by
  refine tK rfl ?_
  exact tR rfl (h0)

theorem c_X11_needsWord {n : Nat} {Q : Zr → Prop} {a0 a1 : Int} {s : Zs} (h : zT (zE 1481) (Pt PX11_needsWord) n (0, [a0, a1, 0], [], s) Q) : zC n 1481 [(a0, 0), (a1, 1)] s Q := h

theorem b_X11_needsNumber_0 {n : Nat} {Q : Zr → Prop} (x1 x2 : Int) (s : Zs) 
    (h0 : ∀ (g1 : s 172 6 = 2), ∀ (g3 : s 172 8 < x1), Q ([(0, 0)], zu s 172 9 (w32 (4 + (w32 (16 * (s 172 5)))))))
    (h1 : ∀ (g1 : s 172 6 = 2), ∀ (g5 : x1 ≤ s 172 8), ∀ (g6 : x2 < s 172 8), Q ([(0, 0)], zu s 172 9 (w32 (4 + (w32 (16 * (s 172 5)))))))
    (h2 : ∀ (g1 : s 172 6 = 2), ∀ (g8 : x1 ≤ s 172 8), ∀ (g9 : s 172 8 ≤ x2), ∀ m, m < n → zC m 1482 [(((172 : Nat) : Int), 0)] (zu s 172 45 (s 172 8)) (fun p => zT (zE 1478) (Pt PX11_needsNumber) m (44, [((172 : Nat) : Int), x1, x2], p.1 ++ [], p.2) Q))
    (h3 : ∀ (g1 : s 172 6 ≠ 2), Q ([(0, 0)], zu s 172 9 (w32 (1 + (w32 (16 * (s 172 5))))))) : zT (zE 1478) (Pt PX11_needsNumber) n (0, [((172 : Nat) : Int), x1, x2], [], s) Q := by
  refine tL ((172 : Nat) : Int) 0 rfl rfl rfl ?_
  refine tFv (c := 172) (s 172 6) 0 rfl rfl rfl rfl rfl ?_
  refine tK rfl ?_
  refine tJ0 rfl (fun g1 _ l1 => zT_le ?_ (Nat.le_of_lt l1)) (fun g1 _ l1 => zT_le ?_ (Nat.le_of_lt l1))
  · refine tL ((172 : Nat) : Int) 0 rfl rfl rfl ?_
    refine tFv (c := 172) (s 172 8) 0 rfl rfl rfl rfl rfl ?_
    refine tL x1 0 rfl rfl rfl ?_
    refine tL x2 0 rfl rfl rfl ?_
    refine tCall [(s 172 8, 0), (x1, 0), (x2, 0)] [] rfl rfl rfl (fun m2 l2 => c_X11_within (b_X11_within_0 (s 172 8) x1 x2 s ?_ ?_ ?_))
    · intro g3
      show zT (zE 1478) (Pt PX11_needsNumber) m2 (23, [((172 : Nat) : Int), x1, x2], [(0, 0)], s) Q
      refine tI1 rfl (fun g _ l => (absurd g (by decide))) (fun g _ l => zT_le ?_ (Nat.le_of_lt l))
      refine tL ((172 : Nat) : Int) 0 rfl rfl rfl ?_
      refine tK rfl ?_
      refine tCall [(((172 : Nat) : Int), 0), (4, 0)] [] rfl rfl rfl (fun m4 l4 => c_X11_fails (b_X11_fails_0 4 s ?_))
      · show zT (zE 1478) (Pt PX11_needsNumber) m4 (31, [((172 : Nat) : Int), x1, x2], [(0, 0)], zu s 172 9 (w32 (4 + (w32 (16 * (s 172 5)))))) Q
        exact tR rfl (h0 g1 g3)
    · intro g5 g6
      show zT (zE 1478) (Pt PX11_needsNumber) m2 (23, [((172 : Nat) : Int), x1, x2], [(0, 0)], s) Q
      refine tI1 rfl (fun g _ l => (absurd g (by decide))) (fun g _ l => zT_le ?_ (Nat.le_of_lt l))
      refine tL ((172 : Nat) : Int) 0 rfl rfl rfl ?_
      refine tK rfl ?_
      refine tCall [(((172 : Nat) : Int), 0), (4, 0)] [] rfl rfl rfl (fun m7 l7 => c_X11_fails (b_X11_fails_0 4 s ?_))
      · show zT (zE 1478) (Pt PX11_needsNumber) m7 (31, [((172 : Nat) : Int), x1, x2], [(0, 0)], zu s 172 9 (w32 (4 + (w32 (16 * (s 172 5)))))) Q
        exact tR rfl (h1 g1 g5 g6)
    · intro g8 g9
      show zT (zE 1478) (Pt PX11_needsNumber) m2 (23, [((172 : Nat) : Int), x1, x2], [(1, 0)], s) Q
      refine tI1 rfl (fun g _ l => zT_le ?_ (Nat.le_of_lt l)) (fun g _ l => (absurd g (by decide)))
      refine tL ((172 : Nat) : Int) 0 rfl rfl rfl ?_
      refine tL ((172 : Nat) : Int) 0 rfl rfl rfl ?_
      refine tFv (c := 172) (s 172 8) 0 rfl rfl rfl rfl rfl ?_
      refine tPut 172 rfl rfl ?_
      refine tL ((172 : Nat) : Int) 0 rfl rfl rfl ?_
      exact tCall [(((172 : Nat) : Int), 0)] [] rfl rfl rfl (fun m l => h2 g1 g8 g9 m (Nat.lt_of_lt_of_le l (Nat.le_trans (Nat.le_of_lt l2) (Nat.le_refl n))))
  · refine tL ((172 : Nat) : Int) 0 rfl rfl rfl ?_
    refine tK rfl ?_
    refine tCall [(((172 : Nat) : Int), 0), (1, 0)] [] rfl rfl rfl (fun m11 l11 => c_X11_fails (b_X11_fails_0 1 s ?_))
    · show zT (zE 1478) (Pt PX11_needsNumber) m11 (13, [((172 : Nat) : Int), x1, x2], [(0, 0)], zu s 172 9 (w32 (1 + (w32 (16 * (s 172 5)))))) Q
      exact tR rfl (h3 g1)

theorem b_X11_needsNumber_44 {n : Nat} {Q : Zr → Prop} (x1 x2 : Int) (s : Zs) 
    (h0 : Q ([(1, 0)], s)) : zT (zE 1478) (Pt PX11_needsNumber) n (44, [((172 : Nat) : Int), x1, x2], [], s) Q := by
  refine tK rfl ?_
  exact tR rfl (h0)

theorem c_X11_needsNumber {n : Nat} {Q : Zr → Prop} {a0 a1 a2 : Int} {s : Zs} (h : zT (zE 1478) (Pt PX11_needsNumber) n (0, [a0, a1, a2], [], s) Q) : zC n 1478 [(a0, 0), (a1, 0), (a2, 0)] s Q := h

theorem b_X11_needsBoth_0 {n : Nat} {Q : Zr → Prop} (x1 x2 x3 x4 : Int) (s : Zs) 
    (h0 : ∀ m, m < n → zC m 1481 [(((172 : Nat) : Int), 0), (x1, 1)] s (fun p => zT (zE 1476) (Pt PX11_needsBoth) m (5, [((172 : Nat) : Int), x1, x2, x3, x4], p.1 ++ [], p.2) Q)) : zT (zE 1476) (Pt PX11_needsBoth) n (0, [((172 : Nat) : Int), x1, x2, x3, x4], [], s) Q := by
  refine tL ((172 : Nat) : Int) 0 rfl rfl rfl ?_
  refine tL x1 1 rfl rfl rfl ?_
  exact tCall [(((172 : Nat) : Int), 0), (x1, 1)] [] rfl rfl rfl (fun m l => h0 m (Nat.lt_of_lt_of_le l (Nat.le_refl n)))

theorem b_X11_needsBoth_5 {n : Nat} {Q : Zr → Prop} (x1 x2 x3 x4 v0 : Int) (s : Zs) 
    (h0 : ∀ (g1 : v0 = 0), Q ([(0, 0)], s))
    (h1 : ∀ (g1 : v0 ≠ 0), ∀ m, m < n → zC m 1478 [(((172 : Nat) : Int), 0), (x3, 0), (x4, 0)] s (fun p => zT (zE 1476) (Pt PX11_needsBoth) m (15, [((172 : Nat) : Int), x1, x2, x3, x4], p.1 ++ [], p.2) Q)) : zT (zE 1476) (Pt PX11_needsBoth) n (5, [((172 : Nat) : Int), x1, x2, x3, x4], [(v0, 0)], s) Q := by
  refine tI0 rfl (fun g1 _ l1 => zT_le ?_ (Nat.le_of_lt l1)) (fun g1 _ l1 => zT_le ?_ (Nat.le_of_lt l1))
  · refine tK rfl ?_
    exact tR rfl (h0 g1)
  · refine tL ((172 : Nat) : Int) 0 rfl rfl rfl ?_
    refine tL x3 0 rfl rfl rfl ?_
    refine tL x4 0 rfl rfl rfl ?_
    exact tCall [(((172 : Nat) : Int), 0), (x3, 0), (x4, 0)] [] rfl rfl rfl (fun m l => h1 g1 m (Nat.lt_of_lt_of_le l (Nat.le_refl n)))

theorem b_X11_needsBoth_15 {n : Nat} {Q : Zr → Prop} (x1 x2 x3 x4 v0 : Int) (s : Zs) 
    (h0 : ∀ (g1 : v0 = 0), Q ([(0, 0)], s))
    (h1 : ∀ (g1 : v0 ≠ 0), Q ([(1, 0)], s)) : zT (zE 1476) (Pt PX11_needsBoth) n (15, [((172 : Nat) : Int), x1, x2, x3, x4], [(v0, 0)], s) Q := by
  refine tI0 rfl (fun g1 _ l1 => zT_le ?_ (Nat.le_of_lt l1)) (fun g1 _ l1 => zT_le ?_ (Nat.le_of_lt l1))
  · refine tK rfl ?_
    exact tR rfl (h0 g1)
  · refine tK rfl ?_
    refine tG rfl ?_
    exact tR rfl (h1 g1)

theorem c_X11_needsBoth {n : Nat} {Q : Zr → Prop} {a0 a1 a3 a4 : Int} {s : Zs} (h : zT (zE 1476) (Pt PX11_needsBoth) n (0, [a0, a1, 0, a3, a4], [], s) Q) : zC n 1476 [(a0, 0), (a1, 1), (a3, 0), (a4, 0)] s Q := h

theorem b_X11_closes_0 {n : Nat} {Q : Zr → Prop} (s : Zs) 
    (h0 : ∀ (g2 : s 172 6 ≠ 3), Q ([(0, 0)], zu s 172 9 (w32 (1 + (w32 (16 * (s 172 5)))))))
    (h1 : ∀ (g4 : s 172 6 = 3), ∀ (g5 : s 173 ((s 172 5).toNat) ≠ 59), Q ([(0, 0)], zu s 172 9 (w32 (1 + (w32 (16 * (s 172 5)))))))
    (h2 : ∀ (g7 : s 172 6 = 3), ∀ (g8 : s 173 ((s 172 5).toNat) = 59), ∀ m, m < n → zC m 1482 [(((172 : Nat) : Int), 0)] s (fun p => zT (zE 1425) (Pt PX11_closes) m (19, [((172 : Nat) : Int)], p.1 ++ [], p.2) Q)) : zT (zE 1425) (Pt PX11_closes) n (0, [((172 : Nat) : Int)], [], s) Q := by
  refine tL ((172 : Nat) : Int) 0 rfl rfl rfl ?_
  refine tK rfl ?_
  refine tCall [(((172 : Nat) : Int), 0), (59, 0)] [] rfl rfl rfl (fun m1 l1 => c_X11_isSign (b_X11_isSign_0 59 s ?_ ?_ ?_))
  · intro g2
    show zT (zE 1425) (Pt PX11_closes) m1 (6, [((172 : Nat) : Int)], [(0, 0)], s) Q
    refine tI1 rfl (fun g _ l => (absurd g (by decide))) (fun g _ l => zT_le ?_ (Nat.le_of_lt l))
    refine tL ((172 : Nat) : Int) 0 rfl rfl rfl ?_
    refine tK rfl ?_
    refine tCall [(((172 : Nat) : Int), 0), (1, 0)] [] rfl rfl rfl (fun m3 l3 => c_X11_fails (b_X11_fails_0 1 s ?_))
    · show zT (zE 1425) (Pt PX11_closes) m3 (14, [((172 : Nat) : Int)], [(0, 0)], zu s 172 9 (w32 (1 + (w32 (16 * (s 172 5)))))) Q
      exact tR rfl (h0 g2)
  · intro g4 g5
    show zT (zE 1425) (Pt PX11_closes) m1 (6, [((172 : Nat) : Int)], [(0, 0)], s) Q
    refine tI1 rfl (fun g _ l => (absurd g (by decide))) (fun g _ l => zT_le ?_ (Nat.le_of_lt l))
    refine tL ((172 : Nat) : Int) 0 rfl rfl rfl ?_
    refine tK rfl ?_
    refine tCall [(((172 : Nat) : Int), 0), (1, 0)] [] rfl rfl rfl (fun m6 l6 => c_X11_fails (b_X11_fails_0 1 s ?_))
    · show zT (zE 1425) (Pt PX11_closes) m6 (14, [((172 : Nat) : Int)], [(0, 0)], zu s 172 9 (w32 (1 + (w32 (16 * (s 172 5)))))) Q
      exact tR rfl (h1 g4 g5)
  · intro g7 g8
    show zT (zE 1425) (Pt PX11_closes) m1 (6, [((172 : Nat) : Int)], [(1, 0)], s) Q
    refine tI1 rfl (fun g _ l => zT_le ?_ (Nat.le_of_lt l)) (fun g _ l => (absurd g (by decide)))
    refine tL ((172 : Nat) : Int) 0 rfl rfl rfl ?_
    exact tCall [(((172 : Nat) : Int), 0)] [] rfl rfl rfl (fun m l => h2 g7 g8 m (Nat.lt_of_lt_of_le l (Nat.le_trans (Nat.le_of_lt l1) (Nat.le_refl n))))

theorem b_X11_closes_19 {n : Nat} {Q : Zr → Prop} (s : Zs) 
    (h0 : Q ([(1, 0)], s)) : zT (zE 1425) (Pt PX11_closes) n (19, [((172 : Nat) : Int)], [], s) Q := by
  refine tK rfl ?_
  exact tR rfl (h0)

theorem c_X11_closes {n : Nat} {Q : Zr → Prop} {a0 : Int} {s : Zs} (h : zT (zE 1425) (Pt PX11_closes) n (0, [a0], [], s) Q) : zC n 1425 [(a0, 0)] s Q := h

theorem needsWord_ok {N i : Nat} (hi : i < 28) {C : Int} (hC : C = enc 27 (KW i)) {s : Zs} {T : Nat → Int} {n p : Nat} (h : mst s T n p) : zC N 1481 [(((172 : Nat) : Int), 0), (C, 1)] s (mre T n (gW T n i (0, p)) s) := by
  have h6 : s 172 6 = mQ (eQ T n (kB T n p)) := h.2.2.2.2.1
  refine c_X11_needsWord (b_X11_needsWord_0 C 0 s (fun g2 => ?_) (fun g4 g5 => ?_) (fun g7 g8 m hm => ?_))
  · refine mst_fail (by decide) h (if_neg (fun q => ?_))
    have := mQ_1.mpr (show eQ T n (kB T n p) = 2 from q.1)
    omega
  · have hq := mQ_1.mp (h6.symm.trans (by assumption))
    refine mst_fail (by decide) h (if_neg (fun q => ?_))
    have e := (mword h hi hq).mpr q.2
    exact absurd (zcmpL_eq.mpr (e.trans hC.symm)) (by assumption)
  · have hq := mQ_1.mp (h6.symm.trans (by assumption))
    have hz : zcmpL (s 172 7) C = 0 := by assumption
    have e : gW T n i (0, p) = gNx T n (0, p) := if_pos ⟨hq, (mword h hi hq).mp ((zcmpL_eq.mp hz).trans hC)⟩
    rw [e]
    exact mst_next h (fun s' f p' => b_X11_needsWord_18 C 0 s' ⟨rfl, frN_M f, fun _ => p', fun q => absurd rfl q⟩)
theorem needsNumber_ok {N : Nat} {lo hi : Int} {s : Zs} {T : Nat → Int} {n p : Nat} (h : mst s T n p) : zC N 1478 [(((172 : Nat) : Int), 0), (lo, 0), (hi, 0)] s (fun r => mre T n (gN T n lo hi (0, p)) s r ∧ ((gN T n lo hi (0, p)).1 = 0 → r.2 172 45 = eM T n (kB T n p))) := by
  have h6 : s 172 6 = mQ (eQ T n (kB T n p)) := h.2.2.2.2.1
  have bad : ∀ k : Int, 1 ≤ k ∧ k ≤ 5 → gN T n lo hi (0, p) = gF T n k (0, p) → mre T n (gN T n lo hi (0, p)) s ([(0, 0)], zu s 172 9 (w32 (k + w32 (16 * s 172 5)))) ∧ ((gN T n lo hi (0, p)).1 = 0 → (zu s 172 9 (w32 (k + w32 (16 * s 172 5)))) 172 45 = eM T n (kB T n p)) := fun k hk e =>
    ⟨mst_fail hk h e, fun q => absurd (show (gF T n k (0, p)).1 = 0 by rw [← e]; exact q) (gF_ne hk.1 rfl)⟩
  refine c_X11_needsNumber (b_X11_needsNumber_0 lo hi s (fun g1 g3 => ?_) (fun g1 g5 g6 => ?_) (fun g1 g8 g9 m hm => ?_) (fun g1 => ?_))
  · have hq := mQ_2.mp (h6.symm.trans (by assumption))
    have hm := h.2.2.2.2.2.2 hq
    refine bad 4 (by decide) ?_
    unfold gN
    dsimp only
    rw [if_pos hq, if_neg (by omega)]
  · have hq := mQ_2.mp (h6.symm.trans (by assumption))
    have hm := h.2.2.2.2.2.2 hq
    refine bad 4 (by decide) ?_
    unfold gN
    dsimp only
    rw [if_pos hq, if_neg (by omega)]
  · have hq := mQ_2.mp (h6.symm.trans (by assumption))
    have hm := h.2.2.2.2.2.2 hq
    have e : gN T n lo hi (0, p) = gNx T n (0, p) := by unfold gN; dsimp only; rw [if_pos hq, if_pos (by omega)]
    rw [e]
    exact mst_next (mst_45 h) (fun s' f p' => b_X11_needsNumber_44 lo hi s' ⟨⟨rfl, frN_tr (frN_u (frN_rf s) (by omega)) (frN_M f), fun _ => p', fun q => absurd rfl q⟩, fun _ => (f 172 45 (by omega)).trans hm⟩)
  · refine bad 1 (by decide) (if_neg (fun q => ?_))
    have := mQ_2.mpr (show eQ T n (kB T n p) = 3 from q)
    omega
theorem needsBoth_ok {N i : Nat} (hi' : i < 28) {C : Int} (hC : C = enc 27 (KW i)) {lo hi : Int} {s : Zs} {T : Nat → Int} {n p : Nat} (h : mst s T n p) : zC N 1476 [(((172 : Nat) : Int), 0), (C, 1), (lo, 0), (hi, 0)] s (fun r => mre T n (gN T n lo hi (gW T n i (0, p))) s r ∧ ((gN T n lo hi (gW T n i (0, p))).1 = 0 → r.2 172 45 = eM T n (kB T n (gW T n i (0, p)).2))) := by
  refine c_X11_needsBoth (b_X11_needsBoth_0 C 0 lo hi s (fun m hm => zC_q (needsWord_ok hi' hC h) (fun q hq => ?_)))
  obtain ⟨q1, s1⟩ := q
  obtain ⟨e, f, g1, g2⟩ := hq
  have e : q1 = [(if (gW T n i (0, p)).1 = 0 then 1 else 0, 0)] := e
  subst e
  show zT _ _ m (5, [((172 : Nat) : Int), C, 0, lo, hi], [(if (gW T n i (0, p)).1 = 0 then 1 else 0, 0)], s1) _
  by_cases h0 : (gW T n i (0, p)).1 = 0
  · rw [if_pos h0]
    have e0 : gW T n i (0, p) = (0, (gW T n i (0, p)).2) := Prod.ext h0 rfl
    have g1 := g1 h0
    generalize (gW T n i (0, p)).2 = p1 at e0 g1
    rw [e0]
    refine b_X11_needsBoth_5 C 0 lo hi 1 s1 (fun q => absurd q (by decide)) (fun _ m' hm' => zC_q (needsNumber_ok g1) (fun q hq => ?_))
    obtain ⟨q1, s2⟩ := q
    obtain ⟨⟨k1, k2, k3, k4⟩, k5⟩ := hq
    have k1 : q1 = [(if (gN T n lo hi (0, p1)).1 = 0 then 1 else 0, 0)] := k1
    subst k1
    by_cases h1 : (gN T n lo hi (0, p1)).1 = 0
    · rw [if_pos h1]
      exact b_X11_needsBoth_15 C 0 lo hi 1 s2 (fun q => absurd q (by decide)) (fun _ => ⟨⟨by rw [if_pos h1], frN_tr f k2, k3, k4⟩, k5⟩)
    · rw [if_neg h1]
      exact b_X11_needsBoth_15 C 0 lo hi 0 s2 (fun _ => ⟨⟨by rw [if_neg h1], frN_tr f k2, k3, k4⟩, k5⟩) (fun q => absurd rfl q)
  · rw [if_neg h0, gN_nz h0]
    exact b_X11_needsBoth_5 C 0 lo hi 0 s1 (fun _ => ⟨⟨by rw [if_neg h0], f, g1, g2⟩, fun q => absurd q h0⟩) (fun q => absurd rfl q)
theorem closes_ok {N : Nat} {s : Zs} {T : Nat → Int} {n p : Nat} (h : mst s T n p) : zC N 1425 [(((172 : Nat) : Int), 0)] s (mre T n (gS T n 59 (0, p)) s) := by
  have h6 : s 172 6 = mQ (eQ T n (kB T n p)) := h.2.2.2.2.1
  have hT : eQ T n (kB T n p) = 4 → s 173 (s 172 5).toNat = T (kB T n p) := fun hq => by
    rw [h.2.2.1, Int.toNat_natCast]
    refine h.1.2.2 _ ?_
    have hb := kB_bd (T := T) h.2.1
    by_cases hlt : kB T n p < n
    · exact hlt
    · exfalso
      unfold eQ at hq
      rw [if_pos (by omega)] at hq
      cases hq
  refine c_X11_closes (b_X11_closes_0 s (fun g2 => ?_) (fun g4 g5 => ?_) (fun g7 g8 m hm => ?_))
  · refine mst_fail (by decide) h (if_neg (fun q => ?_))
    have := mQ_3.mpr (show eQ T n (kB T n p) = 4 from q.1)
    omega
  · have hq := mQ_3.mp (h6.symm.trans (by assumption))
    refine mst_fail (by decide) h (if_neg (fun q => ?_))
    exact absurd ((hT hq).trans q.2) (by assumption)
  · have hq := mQ_3.mp (h6.symm.trans (by assumption))
    have hz : s 173 (s 172 5).toNat = 59 := by assumption
    have e : gS T n 59 (0, p) = gNx T n (0, p) := if_pos ⟨hq, (hT hq).symm.trans hz⟩
    rw [e]
    exact mst_next h (fun s' f p' => b_X11_closes_19 s' ⟨rfl, frN_M f, fun _ => p', fun q => absurd rfl q⟩)
