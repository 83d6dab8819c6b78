/-! a town read, whole: the model's loop -/
section Zmw
variable {N : Nat} {s : Zs} {T : Nat → Int} {n p : Nat} {D : ZD}
theorem starts_q {Q : Zr → Prop} (h1 : s 172 1 = (n : Int)) (hn : n ≤ 1000) (hT : ∀ i, i < n → s 173 i = T i) (k : ∀ s', (∀ c j, c ≠ 172 → s' c j = s c j) → s' 172 31 = s 172 31 → (s' 172 32 = s 172 32 ∧ s' 172 60 = s 172 60) → s' 172 1 = 0 → mst s' T n 0 → Q ([], s')) : zC N 1512 [(((172 : Nat) : Int), 0)] s Q := by
  refine c_X11_starts (b_X11_starts_0 s (fun m hm => ?_))
  have t : mtS (zu (zu (zu s 172 3 (s 172 1)) 172 1 0) 172 4 0) T n := by
    refine ⟨?_, hn, fun i hi => ?_⟩
    · rw [zu_n (by omega), zu_n (by omega), zu_eq]; exact h1
    · rw [zu_n (by omega), zu_n (by omega), zu_n (by omega)]; exact hT i hi
  refine zC_q (nextToken_ok t (p := 0) (by rw [zu_eq]; rfl) (Nat.zero_le n)) (fun q hq => ?_)
  obtain ⟨q1, s'⟩ := q
  obtain ⟨e, f, g⟩ := hq
  have e : q1 = [] := e
  subst e
  have f : frM (zu (zu (zu s 172 3 (s 172 1)) 172 1 0) 172 4 0) s' := f
  refine b_X11_starts_22 s' (k s' (fun c j hc => ?_) ?_ ?_ ?_ ⟨mtS_fr t f, Nat.zero_le n, g⟩)
  · rw [f c j (by omega), zu_n (by omega), zu_n (by omega), zu_n (by omega)]
  · rw [f 172 31 (by omega), zu_n (by omega), zu_n (by omega), zu_n (by omega)]
  · exact ⟨by rw [f 172 32 (by omega), zu_n (by omega), zu_n (by omega), zu_n (by omega)], by rw [f 172 60 (by omega), zu_n (by omega), zu_n (by omega), zu_n (by omega)]⟩
  · rw [f 172 1 (by omega), zu_n (by omega), zu_eq]
def qAll (c1 : Zs) (T : Nat → Int) (n : Nat) (a : PS × ZD) (r : Zr) : Prop := r.1 = [(if a.1.1 = 0 then 1 else 0, 0)] ∧ frH c1 r.2 ∧ (a.1.1 = 0 → mP r.2 T n a.1.2 a.2) ∧ (a.1.1 ≠ 0 → r.2 172 9 = a.1.1)
theorem pAll_bad {f : Nat} {y : PS} (h : y.1 ≠ 0) : pAll T n f y D = (y, D) := by
  cases f with
  | zero => rfl
  | succ f => unfold pAll; exact if_neg (fun q => h q.1)
theorem all_loop {c1 : Zs} : ∀ (M i p : Nat) (D : ZD) (s : Zs) (x1 : Int), i ≤ p → frH c1 s → mP s T n p D → zT (zE 1497) (Pt PX11_readsAll) M (66, [((172 : Nat) : Int), x1], [], s) (qAll c1 T n (pAll T n (1000 - i) (0, p) D)) := by
  intro M
  induction M using Nat.strongRecOn with
  | ind M ih =>
    intro i p D s x1 hi hc h
    have hp := h.1.2.1
    have hn := h.1.1.2.1
    have h6 : s 172 6 = mQ (eQ T n (kB T n p)) := h.1.2.2.2.2.1
    have hne : s 172 6 ≠ 0 → eQ T n (kB T n p) ≠ 1 := fun q q2 => q (h6.trans (mQ_0.mpr q2))
    have kw : ∀ i : Int, isKw T n (kB T n p) i = true ↔ (eQ T n (kB T n p) = 2 ∧ kwi (eW T n (kB T n p)) = i) := fun i => by unfold isKw; simp
    have step : s 172 6 ≠ 0 → pAll T n (1000 - i) (0, p) D = pAll T n (1000 - (i + 1)) (pLine T n (0, p) D).1 (pLine T n (0, p) D).2 := fun q => by
      have := eQ_lt hp (hne q)
      have hkb := kE_bd (T := T) hp
      rw [show 1000 - i = (1000 - (i + 1)) + 1 from by omega]
      have e : ∀ f, pAll T n (f + 1) (0, p) D = if (0 : Int) = 0 ∧ eQ T n (kB T n p) ≠ 1 then pAll T n f (pLine T n (0, p) D).1 (pLine T n (0, p) D).2 else ((0, p), D) := fun _ => rfl
      rw [e, if_pos ⟨rfl, hne q⟩]
    have fin0 : eQ T n (kB T n p) = 1 → qAll c1 T n (pAll T n (1000 - i) (0, p) D) ([(1, 0)], s) := fun q => by
      have e : pAll T n (1000 - i) (0, p) D = ((0, p), D) := by
        cases 1000 - i with
        | zero => rfl
        | succ f => unfold pAll; exact if_neg (fun q2 => q2.2 q)
      rw [e]
      exact ⟨rfl, hc, fun _ => h, fun q => absurd rfl q⟩
    have el : pLine T n (0, p) D = (fun k : Int => if k = 0 then pHouse T n (0, p) D else if k = 2 then pFlight T n (0, p) D else if k = 5 then pThing T n (0, p) D else if k = 8 then pPerson T n (0, p) D else if k = 12 then pHill T n (0, p) D
  else if k = 14 then pHeap T n (0, p) D else if k = 15 then pWalk T n (0, p) D else if k = 16 then pPrice T n (0, p) D else (gF T n 1 (0, p), D)) (if eQ T n (kB T n p) = 2 then kwi (eW T n (kB T n p)) else -1) := rfl
    have bad : s 172 6 ≠ 0 → (fun k : Int => k ≠ 0 ∧ k ≠ 2 ∧ k ≠ 5 ∧ k ≠ 8 ∧ k ≠ 12 ∧ k ≠ 14 ∧ k ≠ 15 ∧ k ≠ 16) (if eQ T n (kB T n p) = 2 then kwi (eW T n (kB T n p)) else -1) → qAll c1 T n (pAll T n (1000 - i) (0, p) D) ([(0, 0)], zu s 172 9 (w32 (1 + w32 (16 * s 172 5)))) := fun q q2 => by
      have e : pLine T n (0, p) D = (gF T n 1 (0, p), D) := by
        rw [el]
        revert q2
        generalize (if eQ T n (kB T n p) = 2 then kwi (eW T n (kB T n p)) else -1) = k
        intro q2
        dsimp only at q2 ⊢
        rw [if_neg q2.1, if_neg q2.2.1, if_neg q2.2.2.1, if_neg q2.2.2.2.1, if_neg q2.2.2.2.2.1, if_neg q2.2.2.2.2.2.1, if_neg q2.2.2.2.2.2.2.1, if_neg q2.2.2.2.2.2.2.2]
      have hne1 := gF_ne (T := T) (n := n) (k := 1) (by decide) (x := (0, p)) rfl
      rw [step q, e, pAll_bad hne1]
      obtain ⟨e1, f, a, b⟩ := mst_fail (k := 1) (by decide) h.1 rfl
      exact ⟨e1, (by first | exact frH_N f | exact frH_N (frN_M f) : frH _ _).trans hc, fun q => absurd q hne1, b⟩
    have on : s 172 6 ≠ 0 → ∀ m, m < M → ∀ (G : Int → Int → Zs → Prop), (∀ x1 v s', (v = 0 → qAll c1 T n (pAll T n (1000 - i) (0, p) D) ([(0, 0)], s')) → (v ≠ 0 → ∀ m2, m2 < m → zT (zE 1497) (Pt PX11_readsAll) m2 (66, [((172 : Nat) : Int), v], [], s') (qAll c1 T n (pAll T n (1000 - i) (0, p) D))) → G x1 v s') → ∀ x1 (r : Zr), qLn s T n (pLine T n (0, p) D) r → ∃ v, r.1 = [(v, 0)] ∧ G x1 v r.2 := fun q m hm G hG x1 r hr => by
      obtain ⟨e, t, a, b⟩ := hr
      refine ⟨_, e, hG _ _ _ (fun q0 => ?_) (fun q0 m2 hm2 => ?_)⟩
      · have hy : (pLine T n (0, p) D).1.1 ≠ 0 := fun c => by rw [if_pos c] at q0; omega
        rw [step q, pAll_bad hy]
        exact ⟨by rw [if_neg hy], t.trans hc, fun c => absurd c hy, b⟩
      · have hy : (pLine T n (0, p) D).1.1 = 0 := Decidable.byContradiction fun c => by rw [if_neg c] at q0; omega
        have hlt := pLine_on (D := D) hp (hne q) hy
        have h2 := a hy
        have e2 : (pLine T n (0, p) D).1 = (0, (pLine T n (0, p) D).1.2) := Prod.ext hy rfl
        rw [step q, e2]
        exact ih m2 (by omega) (i + 1) _ _ r.2 _ (by omega) (t.trans hc) h2
    have h0 := h
    replace h := h.1
    have k0 := mK (i := 0) (C := 4562600) h (by omega) (by decide)
    rw [kw] at k0
    have k2 := mK (i := 2) (C := 92653220) h (by omega) (by decide)
    rw [kw] at k2
    have k5 := mK (i := 5) (C := 10793230) h (by omega) (by decide)
    rw [kw] at k5
    have k8 := mK (i := 8) (C := 232608281) h (by omega) (by decide)
    rw [kw] at k8
    have k12 := mK (i := 12) (C := 164361) h (by omega) (by decide)
    rw [kw] at k12
    have k14 := mK (i := 14) (C := 161152) h (by omega) (by decide)
    rw [kw] at k14
    have k15 := mK (i := 15) (C := 453773) h (by omega) (by decide)
    rw [kw] at k15
    have k16 := mK (i := 16) (C := 8863997) h (by omega) (by decide)
    rw [kw] at k16
    replace h := h0
    refine b_X11_readsAll_66 _ s (fun g1 => ?_) (fun g1 g3 => ?_) (fun g1 g33 g34 g38 g42 g46 g50 g54 g58 g62 => ?_) (fun g1 g33 g34 g38 g42 g46 g50 g54 g58 gz m hm => ?_) (fun g1 g33 g34 g38 g42 g46 g50 g54 gz m hm => ?_) (fun g1 g33 g34 g38 g42 g46 g50 gz m hm => ?_) (fun g1 g33 g34 g38 g42 g46 gz m hm => ?_) (fun g1 g33 g34 g38 g42 gz m hm => ?_) (fun g1 g33 g34 g38 gz m hm => ?_) (fun g1 g33 g34 gz m hm => ?_) (fun g1 g85 g86 m hm => ?_)
    · exact fin0 (mQ_0.mp (h6.symm.trans g1))
    · refine bad g1 (by
        rw [if_neg (fun q => g3 (h6.trans (mQ_1.mpr q)))]
        decide)
    · refine bad g1 (by
        rw [if_pos (mQ_1.mp (h6.symm.trans g33))]
        have hq := mQ_1.mp (h6.symm.trans g33)
        exact ⟨fun q => g34 (k0.mp ⟨hq, q⟩).2, fun q => g38 (k2.mp ⟨hq, q⟩).2, fun q => g42 (k5.mp ⟨hq, q⟩).2, fun q => g46 (k8.mp ⟨hq, q⟩).2, fun q => g50 (k12.mp ⟨hq, q⟩).2, fun q => g54 (k14.mp ⟨hq, q⟩).2, fun q => g58 (k15.mp ⟨hq, q⟩).2, fun q => g62 (k16.mp ⟨hq, q⟩).2⟩)
    · have hq := mQ_1.mp (h6.symm.trans g33)
      have hk : (if eQ T n (kB T n p) = 2 then kwi (eW T n (kB T n p)) else -1 : Int) = 16 := by rw [if_pos hq]; exact (k16.mpr ⟨g33, gz⟩).2
      have e : pLine T n (0, p) D = pPrice T n (0, p) D := by rw [el, hk]; rfl
      refine zC_q (mPrice_ok h) (fun r hr => ?_)
      rw [← e] at hr
      obtain ⟨v, ev, G⟩ := on g1 m hm (fun x1 v s' => zT (zE 1497) (Pt PX11_readsAll) m (214, [((172 : Nat) : Int), x1], [(v, 0)], s') (qAll c1 T n (pAll T n (1000 - i) (0, p) D))) (fun x1 v s' Y0 Y1 => b_X11_readsAll_214 _ _ s' Y1 Y0) x1 r hr
      obtain ⟨r1, s'⟩ := r
      have ev : r1 = [(v, 0)] := ev
      subst ev
      exact G
    · have hq := mQ_1.mp (h6.symm.trans g33)
      have hk : (if eQ T n (kB T n p) = 2 then kwi (eW T n (kB T n p)) else -1 : Int) = 15 := by rw [if_pos hq]; exact (k15.mpr ⟨g33, gz⟩).2
      have e : pLine T n (0, p) D = pWalk T n (0, p) D := by rw [el, hk]; rfl
      refine zC_q (mWalk_ok h) (fun r hr => ?_)
      rw [← e] at hr
      obtain ⟨v, ev, G⟩ := on g1 m hm (fun x1 v s' => zT (zE 1497) (Pt PX11_readsAll) m (197, [((172 : Nat) : Int), x1], [(v, 0)], s') (qAll c1 T n (pAll T n (1000 - i) (0, p) D))) (fun x1 v s' Y0 Y1 => b_X11_readsAll_197 _ _ s' Y1 Y0) x1 r hr
      obtain ⟨r1, s'⟩ := r
      have ev : r1 = [(v, 0)] := ev
      subst ev
      exact G
    · have hq := mQ_1.mp (h6.symm.trans g33)
      have hk : (if eQ T n (kB T n p) = 2 then kwi (eW T n (kB T n p)) else -1 : Int) = 14 := by rw [if_pos hq]; exact (k14.mpr ⟨g33, gz⟩).2
      have e : pLine T n (0, p) D = pHeap T n (0, p) D := by rw [el, hk]; rfl
      refine zC_q (mHeap_ok h) (fun r hr => ?_)
      rw [← e] at hr
      obtain ⟨v, ev, G⟩ := on g1 m hm (fun x1 v s' => zT (zE 1497) (Pt PX11_readsAll) m (176, [((172 : Nat) : Int), x1], [(v, 0)], s') (qAll c1 T n (pAll T n (1000 - i) (0, p) D))) (fun x1 v s' Y0 Y1 => b_X11_readsAll_176 _ _ s' Y1 Y0) x1 r hr
      obtain ⟨r1, s'⟩ := r
      have ev : r1 = [(v, 0)] := ev
      subst ev
      exact G
    · have hq := mQ_1.mp (h6.symm.trans g33)
      have hk : (if eQ T n (kB T n p) = 2 then kwi (eW T n (kB T n p)) else -1 : Int) = 12 := by rw [if_pos hq]; exact (k12.mpr ⟨g33, gz⟩).2
      have e : pLine T n (0, p) D = pHill T n (0, p) D := by rw [el, hk]; rfl
      refine zC_q (mHill_ok h) (fun r hr => ?_)
      rw [← e] at hr
      obtain ⟨v, ev, G⟩ := on g1 m hm (fun x1 v s' => zT (zE 1497) (Pt PX11_readsAll) m (155, [((172 : Nat) : Int), x1], [(v, 0)], s') (qAll c1 T n (pAll T n (1000 - i) (0, p) D))) (fun x1 v s' Y0 Y1 => b_X11_readsAll_155 _ _ s' Y1 Y0) x1 r hr
      obtain ⟨r1, s'⟩ := r
      have ev : r1 = [(v, 0)] := ev
      subst ev
      exact G
    · have hq := mQ_1.mp (h6.symm.trans g33)
      have hk : (if eQ T n (kB T n p) = 2 then kwi (eW T n (kB T n p)) else -1 : Int) = 8 := by rw [if_pos hq]; exact (k8.mpr ⟨g33, gz⟩).2
      have e : pLine T n (0, p) D = pPerson T n (0, p) D := by rw [el, hk]; rfl
      refine zC_q (mPerson_ok h) (fun r hr => ?_)
      rw [← e] at hr
      obtain ⟨v, ev, G⟩ := on g1 m hm (fun x1 v s' => zT (zE 1497) (Pt PX11_readsAll) m (138, [((172 : Nat) : Int), x1], [(v, 0)], s') (qAll c1 T n (pAll T n (1000 - i) (0, p) D))) (fun x1 v s' Y0 Y1 => b_X11_readsAll_138 _ _ s' Y1 Y0) x1 r hr
      obtain ⟨r1, s'⟩ := r
      have ev : r1 = [(v, 0)] := ev
      subst ev
      exact G
    · have hq := mQ_1.mp (h6.symm.trans g33)
      have hk : (if eQ T n (kB T n p) = 2 then kwi (eW T n (kB T n p)) else -1 : Int) = 5 := by rw [if_pos hq]; exact (k5.mpr ⟨g33, gz⟩).2
      have e : pLine T n (0, p) D = pThing T n (0, p) D := by rw [el, hk]; rfl
      refine zC_q (mThing_ok h) (fun r hr => ?_)
      rw [← e] at hr
      obtain ⟨v, ev, G⟩ := on g1 m hm (fun x1 v s' => zT (zE 1497) (Pt PX11_readsAll) m (121, [((172 : Nat) : Int), x1], [(v, 0)], s') (qAll c1 T n (pAll T n (1000 - i) (0, p) D))) (fun x1 v s' Y0 Y1 => b_X11_readsAll_121 _ _ s' Y1 Y0) x1 r hr
      obtain ⟨r1, s'⟩ := r
      have ev : r1 = [(v, 0)] := ev
      subst ev
      exact G
    · have hq := mQ_1.mp (h6.symm.trans g33)
      have hk : (if eQ T n (kB T n p) = 2 then kwi (eW T n (kB T n p)) else -1 : Int) = 2 := by rw [if_pos hq]; exact (k2.mpr ⟨g33, gz⟩).2
      have e : pLine T n (0, p) D = pFlight T n (0, p) D := by rw [el, hk]; rfl
      refine zC_q (mFlight_ok h) (fun r hr => ?_)
      rw [← e] at hr
      obtain ⟨v, ev, G⟩ := on g1 m hm (fun x1 v s' => zT (zE 1497) (Pt PX11_readsAll) m (104, [((172 : Nat) : Int), x1], [(v, 0)], s') (qAll c1 T n (pAll T n (1000 - i) (0, p) D))) (fun x1 v s' Y0 Y1 => b_X11_readsAll_104 _ _ s' Y1 Y0) x1 r hr
      obtain ⟨r1, s'⟩ := r
      have ev : r1 = [(v, 0)] := ev
      subst ev
      exact G
    · have hq := mQ_1.mp (h6.symm.trans g85)
      have hk : (if eQ T n (kB T n p) = 2 then kwi (eW T n (kB T n p)) else -1 : Int) = 0 := by rw [if_pos hq]; exact (k0.mpr ⟨g85, g86⟩).2
      have e : pLine T n (0, p) D = pHouse T n (0, p) D := by rw [el, hk]; rfl
      refine zC_q (mHouse_ok h) (fun r hr => ?_)
      rw [← e] at hr
      obtain ⟨v, ev, G⟩ := on g1 m hm (fun x1 v s' => zT (zE 1497) (Pt PX11_readsAll) m (87, [((172 : Nat) : Int), x1], [(v, 0)], s') (qAll c1 T n (pAll T n (1000 - i) (0, p) D))) (fun x1 v s' Y0 Y1 => b_X11_readsAll_87 _ _ s' Y1 Y0) x1 r hr
      obtain ⟨r1, s'⟩ := r
      have ev : r1 = [(v, 0)] := ev
      subst ev
      exact G
theorem readsAll_ok (h1 : s 172 1 = (n : Int)) (hn : n ≤ 1000) (hT : ∀ i, i < n → s 173 i = T i) : zC N 1497 [(((172 : Nat) : Int), 0)] s (qAll (zu s 172 1 0) T n (pAll T n 1000 (0, 0) d0)) := by
  have fill : ∀ (M k : Nat) (s1 : Zs), 7 ≤ k → k ≤ 14 → (∀ i, 7 ≤ i → i < k → s1 174 i = if i = 13 then 5 else 0) → (∀ i, i < 7 → s1 174 i = s 174 i) → (∀ c j, c ≠ 174 → s1 c j = s c j) → zT (zE 1497) (Pt PX11_readsAll) M (3, [((172 : Nat) : Int), (k : Int)], [], s1) (qAll (zu s 172 1 0) T n (pAll T n 1000 (0, 0) d0)) := by
    intro M
    induction M using Nat.strongRecOn with
    | ind M ih =>
      intro k s1 k7 k14 hf hlo ho
      have st : ∀ v : Int, v = (if k = 13 then 5 else 0) → k < 14 → ∀ m, m < M → zT (zE 1497) (Pt PX11_readsAll) m (3, [((172 : Nat) : Int), w32 ((k : Int) + 1)], [], zu s1 174 ((k : Int)).toNat v) (qAll (zu s 172 1 0) T n (pAll T n 1000 (0, 0) d0)) := fun v hv hk m hm => by
        rw [w32_id (by omega) (by omega), show (k : Int) + 1 = ((k + 1 : Nat) : Int) from by omega, Int.toNat_natCast]
        refine ih m hm (k + 1) _ (by omega) (by omega) (fun i i7 ik => ?_) (fun i i7 => by rw [zu_n (by omega)]; exact hlo i i7) (fun c j hc => by rw [zu_n (by omega)]; exact ho c j hc)
        by_cases e : i = k
        · rw [e, zu_eq]; exact hv
        · rw [zu_n (by omega)]; exact hf i i7 (by omega)
      refine b_X11_readsAll_3 _ s1 (fun g m hm => ?_) (fun g g3 m hm => st 0 (by rw [if_neg (by omega)]) (by omega) m hm) (fun g g3 m hm => st 5 (by rw [if_pos (by omega)]) (by omega) m hm)
      have z : ∀ {c j : Nat}, ¬ (192 ≤ c ∧ c ≤ 193) → ¬ (c = 172 ∧ (j = 31 ∨ j = 32)) → zu (zu (zu (zu s1 192 1 1000) 193 1 1000) 172 32 0) 172 31 1000 c j = s1 c j := fun a b => by rw [zu_n (by omega), zu_n (by omega), zu_n (by omega), zu_n (by omega)]
      have y1 : zu (zu (zu (zu s1 192 1 1000) 193 1 1000) 172 32 0) 172 31 1000 192 1 = 1000 := by rw [zu_n (by omega), zu_n (by omega), zu_n (by omega), zu_eq]
      have y2 : zu (zu (zu (zu s1 192 1 1000) 193 1 1000) 172 32 0) 172 31 1000 193 1 = 1000 := by rw [zu_n (by omega), zu_n (by omega), zu_eq]
      have y3 : zu (zu (zu (zu s1 192 1 1000) 193 1 1000) 172 32 0) 172 31 1000 172 32 = 0 := by rw [zu_n (by omega), zu_eq]
      have y4 : zu (zu (zu (zu s1 192 1 1000) 193 1 1000) 172 32 0) 172 31 1000 172 31 = 1000 := zu_eq _ _ _ _
      generalize zu (zu (zu (zu s1 192 1 1000) 193 1 1000) 172 32 0) 172 31 1000 = s2 at z y1 y2 y3 y4 ⊢
      refine starts_q (T := T) (n := n) (by rw [z (by omega) (by omega), ho _ _ (by omega)]; exact h1) hn (fun i hi => by rw [z (by omega) (by omega), ho _ _ (by omega)]; exact hT i hi) (fun s3 f3 e31 e32a e1 hst => ?_)
      have e32 := e32a.1
      have w : ∀ i, 7 ≤ i → i < 14 → s3 174 i = if i = 13 then 5 else 0 := fun i a b => by
        rw [f3 _ _ (by omega), z (by omega) (by omega)]; exact hf i a (by omega)
      have e9 : frH (zu s 172 1 0) s3 := by
        refine ⟨by rw [e1, zu_eq], fun c j a b d => ?_, fun c j a => ?_, ?_⟩
        · rw [f3 _ _ (by omega), z (by omega) (by omega), zu_n (by omega)]
          by_cases hc : c = 174
          · subst hc
            have h9 : hbf 174 = 7 := rfl
            exact hlo j (by omega)
          · exact ho c j hc
        · rw [f3 _ _ (by omega), z (by omega) (by omega), zu_n (by omega)]
          exact ho c j (by omega)
        · rw [e32a.2, z (by omega) (by omega), zu_n (by omega)]
          exact ho 172 60 (by omega)
      refine all_loop m 0 0 d0 s3 _ (Nat.le_refl _) e9 ⟨hst, ⟨fun k' hk' => ?_, fun k' i' w' a b c => ?_, fun k' j i' v a b c => ?_⟩, wD_0, fun i' a b ha => ?_, ?_, ?_, ?_, ?_, ?_, ?_⟩
      · have e0 : cnt d0 k' = 0 := by unfold cnt; split <;> rfl
        rw [w _ (by omega) (by omega), if_neg (by omega), e0]
        rfl
      · have c : ([] : List (List Int))[i']? = some w' := c
        simp at c
      · have c : ([] : List Int)[i']? = some v := c
        simp at c
      · have ha : ([] : List Int)[i']? = some a := ha
        simp at ha
      · rw [e32, y3]; rfl
      · rw [w 12 (by omega) (by omega)]; rfl
      · rw [w 13 (by omega) (by omega)]; rfl
      · rw [f3 _ _ (by omega), f3 _ _ (by omega), y1, y2]
        exact ⟨fun q => absurd q (by decide), fun q => absurd rfl q⟩
      · rw [e31, y4]; decide
      · rw [e31, y4]; decide
  exact c_X11_readsAll (b_X11_readsAll_0 _ s (fill N 7 s (by omega) (by omega) (fun i a b => by omega) (fun _ _ => rfl) (fun _ _ _ => rfl)))
end Zmw
