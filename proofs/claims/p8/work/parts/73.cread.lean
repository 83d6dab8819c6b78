/-! what a town read tells, as the class keeps it -/
def clD (D : ZD) : ZD := (D.1, D.2.1, (if dHeap D = -1 then 0 else dHeap D), (if dWalk D = -1 then 5 else dWalk D), 1)
def colD (D : ZD) (c i : Nat) : Int := ((dC D c)[i]?).getD 0
def abvB (D : ZD) (f o : Nat) : Bool := decide (colD D 10 o = colD D 10 f) && decide (colD D 11 f < colD D 11 o)
def abv (D : ZD) (f : Nat) : Nat := bset (abvB D f) (cnt D 1)
section Zre
variable {N t : Nat} {s : Zs} {T : Nat → Int} {n : Nat} {x : PS} {D : ZD} {Q : Zr → Prop}
theorem cDn_e {s' : Zs} (h : cDn s t D) (hw : wD D) (e : ∀ c j, c = t + 1 ∨ (t + 2 ≤ c ∧ c ≤ t + 27) ∨ (t + 32 ≤ c ∧ c ≤ t + 34) → s' c j = s c j) : cDn s' t D := by
  obtain ⟨d1, d2, d3, d4, d5⟩ := h
  refine ⟨fun k hk => by rw [e _ _ (by omega)]; exact d1 k hk, fun q hq => by rw [e _ _ (by omega)]; exact d2 q hq, fun i v hv => by rw [e _ _ (by omega)]; exact d3 i v hv, fun k j i v h1 h2 h3 hv => ?_, fun q hq => by rw [e _ _ (by omega)]; exact d5 q hq⟩
  have hi := (List.getElem?_eq_some_iff.mp hv).1
  have hl := hw.2.2.2.2.1 k j h1 h2 h3
  have hm := hw.1 k h2
  have hb : rbk k + i ≤ 27 ∧ 2 ≤ rbk k := by
    have hm2 : i < most k := by omega
    rcases (show k = 1 ∨ k = 2 ∨ k = 3 ∨ k = 4 by omega) with rfl | rfl | rfl | rfl <;> (simp [rbk, most] at hm2 ⊢; omega)
  rw [e _ _ (by omega)]
  exact d4 k j i v h1 h2 h3 hv
theorem cDn_col (h : cDn s t D) (hw : wD D) {k j i : Nat} (h1 : 1 ≤ k) (h2 : k < 5) (h3 : j < wdt k) (hi : i < cnt D k) : s (t + rbk k + i) j = colD D (10 * k + j) i := by
  have hl := hw.2.2.2.2.1 k j h1 h2 h3
  have e := List.getElem?_eq_getElem (l := dC D (10 * k + j)) (i := i) (by omega)
  unfold colD
  rw [e]
  exact h.2.2.2.1 k j i _ h1 h2 h3 e
theorem findAboveE (ht : t = 7 ∨ t = 43) (h : cDn s t D) (hw : wD D) {a : Nat} (ha : a < cnt D 1) : zC N 1030 [((t : Int), 0), ((a : Int), 0)] s (fun r => r = ([(((abv D a : Nat) : Int), 0)], s)) := by
  have h10 : cnt D 1 ≤ 10 := hw.1 1 (by omega)
  have hc : s (t + 1) 1 = ((cnt D 1 : Nat) : Int) := h.1 1 (by omega)
  have r0 : ∀ i, i < cnt D 1 → s (zrho (t + 12) i) 0 = colD D 10 i := fun i hi => by rw [zrow1 ht (by omega)]; exact cDn_col h hw (k := 1) (j := 0) (by omega) (by omega) (by decide) hi
  have r1 : ∀ i, i < cnt D 1 → s (zrho (t + 12) i) 1 = colD D 11 i := fun i hi => by rw [zrow1 ht (by omega)]; exact cDn_col h hw (k := 1) (j := 1) (by omega) (by omega) (by decide) hi
  have loop : ∀ (M k : Nat) (x4 : Int), k ≤ cnt D 1 → zT (zE 1030) (Pt PX8_findAbove) M (4, [((t : Nat) : Int), (a : Int), ((bset (abvB D a) k : Nat) : Int), (k : Int), x4], [], s) (fun r => r = ([(((abv D a : Nat) : Int), 0)], s)) := by
    intro M
    induction M using Nat.strongRecOn with
    | ind M ih =>
      intro k x4 hk
      have on : ∀ (m : Nat) (v x5 : Int), m < M → k < cnt D 1 → v = ((bset (abvB D a) (k + 1) : Nat) : Int) → zT (zE 1030) (Pt PX8_findAbove) m (4, [((t : Nat) : Int), (a : Int), v, w32 ((k : Int) + 1), x5], [], s) (fun r => r = ([(((abv D a : Nat) : Int), 0)], s)) := fun m v x5 hm hk2 hv => by
        rw [hv, w32_id (by omega) (by omega), show (k : Int) + 1 = ((k + 1 : Nat) : Int) from by omega]
        exact ih m hm (k + 1) x5 (by omega)
      refine b_X8_findAbove_4 _ _ _ _ s ht (fun g => ?_) (fun g g2 m hm => ?_) (fun g g2 g3 m hm => ?_) (fun g g2 g3 m hm => ?_)
      · have : k = cnt D 1 := by omega
        subst this
        rfl
      all_goals
        rw [hc] at g
        have hk2 : k < cnt D 1 := by omega
        rw [Int.toNat_natCast, Int.toNat_natCast, r0 k hk2, r0 a ha] at g2
      · exact on m _ _ hm hk2 (by rw [bset_no]; unfold abvB; rw [decide_eq_false g2]; rfl)
      · rw [Int.toNat_natCast, Int.toNat_natCast, r1 k hk2, r1 a ha] at g3
        exact on m _ _ hm hk2 (by rw [bset_no]; unfold abvB; rw [decide_eq_false (show ¬ colD D 11 a < colD D 11 k by omega), Bool.and_false])
      · rw [Int.toNat_natCast, Int.toNat_natCast, r1 k hk2, r1 a ha] at g3
        exact on m _ _ hm hk2 (bset_zor (by unfold abvB; rw [decide_eq_true g2, decide_eq_true g3]; rfl) (by omega))
  exact c_X8_findAbove (b_X8_findAbove_0 _ _ _ _ s ht (loop N 0 _ (by omega)))
theorem close_tail (ht : t = 7 ∨ t = 43) (h : cDn s t D) (hw : wD D) : zT (zE 1028) (Pt PX8_close) N (45, [((t : Nat) : Int), 0], [], s) (fun r => r.1 = [] ∧ (∀ c j, c ≠ t + 35 → r.2 c j = s c j) ∧ ∀ f : Nat, f < cnt D 1 → r.2 (t + 35) f = ((abv D f : Nat) : Int)) := by
  have h10 : cnt D 1 ≤ 10 := hw.1 1 (by omega)
  have loop : ∀ (M k : Nat) (s1 : Zs), k ≤ cnt D 1 → (∀ c j, c ≠ t + 35 → s1 c j = s c j) → (∀ f : Nat, f < k → s1 (t + 35) f = ((abv D f : Nat) : Int)) → zT (zE 1028) (Pt PX8_close) M (45, [((t : Nat) : Int), (k : Int)], [], s1) (fun r => r.1 = [] ∧ (∀ c j, c ≠ t + 35 → r.2 c j = s c j) ∧ ∀ f : Nat, f < cnt D 1 → r.2 (t + 35) f = ((abv D f : Nat) : Int)) := by
    intro M
    induction M using Nat.strongRecOn with
    | ind M ih =>
      intro k s1 hk f1 f2
      have h1 : cDn s1 t D := cDn_e h hw (fun c j hc => f1 c j (by omega))
      have hc : s1 (t + 1) 1 = ((cnt D 1 : Nat) : Int) := h1.1 1 (by omega)
      refine b_X8_close_45 _ s1 ht (fun g => ⟨rfl, f1, fun f hf => f2 f (by omega)⟩) (fun g m hm => ?_)
      have hk2 : k < cnt D 1 := by omega
      refine zC_q (findAboveE ht h1 hw hk2) (fun r hr => ?_)
      subst hr
      refine b_X8_close_65 _ _ _ s1 ht (fun m2 hm2 => ?_)
      rw [w32_id (by omega) (by omega), show (k : Int) + 1 = ((k + 1 : Nat) : Int) from by omega, Int.toNat_natCast]
      refine ih m2 (by omega) (k + 1) _ (by omega) (fun c j hc => by rw [zu_n (by omega)]; exact f1 c j hc) (fun f hf => ?_)
      by_cases e : f = k
      · rw [e, zu_eq]
      · rw [zu_n (by omega)]; exact f2 f (by omega)
  exact loop N 0 s (by omega) (fun _ _ _ => rfl) (fun f hf => absurd hf (Nat.not_lt_zero f))
theorem close_price (ht : t = 7 ∨ t = 43) {x1 : Int} (h2 : 0 ≤ s (t + 29) 1) (k : ∀ (m : Nat) (s' : Zs), (∀ c j, ¬ (c = t + 29 ∧ j = 1) → ¬ (c = t + 30 ∧ j = 0) → s' c j = s c j) → (0 < s (t + 29) 1 → ∀ j, s' (t + 30) j = s (t + 30) j) → s' (t + 29) 1 = (if s (t + 29) 1 = 0 then 1 else s (t + 29) 1) → (s (t + 29) 1 = 0 → s' (t + 30) 0 = -1) → zT (zE 1028) (Pt PX8_close) m (45, [((t : Nat) : Int), 0], [], s') Q) : zC N 516 [((((t + 29) : Nat) : Int), 0)] s (fun p => zT (zE 1028) (Pt PX8_close) N (33, [((t : Nat) : Int), x1], p.1 ++ [], p.2) Q) := by
  have hu : t + 29 = 36 ∨ t + 29 = 72 := by omega
  have e0 : zrho (t + 29) 0 = t + 30 := zp4_0 hu
  refine c_X4_isTold (b_X4_isTold_0 s hu (fun g => ?_) (fun g => ?_))
  · have z : s (t + 29) 1 = 0 := by omega
    refine b_X8_close_33 _ _ s ht (fun g => absurd rfl g) (fun _ m2 hm2 => ?_)
    refine c_X4_beHigh (b_X4_beHigh_0 s hu (fun m3 hm3 => ?_))
    have el : zq_len (zrho (t + 29) 0) = 1000 := by rw [e0]; rcases ht with rfl | rfl <;> rfl
    refine c_X4_add (b_X4_add_0 _ _ hu (fun g => ?_) (fun g => ?_))
    · rw [el, zu_eq] at g
      omega
    · rw [zu_eq, e0, zu_n (by omega), zu_eq]
      have W : ∀ (m9 : Nat) (s9 : Zs), s9 = zu (zu (zu s (t + 29) 1 0) (t + 30) (Int.toNat 0) (-1)) (t + 29) 1 (w32 (0 + 1)) → zT (zE 1028) (Pt PX8_close) m9 (45, [((t : Nat) : Int), 0], [], s9) Q := fun m9 s9 e9 => by
        refine k m9 s9 (fun c j a b => by rw [e9, zu_n a, zu_n (show ¬ (c = t + 30 ∧ j = Int.toNat 0) from b), zu_n a]) (fun q => absurd z (by omega)) ?_ (fun _ => ?_)
        · rw [e9, zu_eq, if_pos z]; decide
        · rw [e9, zu_n (by omega)]
          exact zu_eq _ _ _ _
      exact b_X4_beHigh_10 _ hu (b_X8_close_43 _ _ ht (W _ _ rfl))
  · exact b_X8_close_33 _ _ s ht (fun _ => k _ s (fun _ _ _ _ => rfl) (fun _ _ => rfl) (by rw [if_neg (by omega)]) (fun q => by omega)) (fun q => absurd q (by decide))
/-- how the law of price stands behind close -/
def prcE (s s' : Zs) (t : Nat) : Prop := (0 < s (t + 29) 1 → (∀ j, s' (t + 30) j = s (t + 30) j) ∧ s' (t + 29) 1 = s (t + 29) 1) ∧ (s (t + 29) 1 = 0 → s' (t + 29) 1 = 1 ∧ s' (t + 30) 0 = -1)
theorem closeE (ht : t = 7 ∨ t = 43) (h : cDn s t D) (hw : wD D) (hd : cDh s t D) : zC N 1028 [((t : Int), 0)] s (fun r => r.1 = [] ∧ (∀ c j, ¬ (t ≤ c ∧ c ≤ t + 35) → r.2 c j = s c j) ∧ cDn r.2 t D ∧ cDh r.2 t (clD D) ∧ (∀ f : Nat, f < cnt D 1 → r.2 (t + 35) f = ((abv D f : Nat) : Int)) ∧ prcE s r.2 t) := by
  have go : ∀ (m : Nat) (x1 : Int) (s1 : Zs), (∀ c j, ¬ (c = t ∧ (j = 5 ∨ j = 6)) → s1 c j = s c j) → s1 t 5 = dHeap (clD D) → s1 t 6 = dWalk (clD D) → zC m 516 [((((t + 29) : Nat) : Int), 0)] s1 (fun p => zT (zE 1028) (Pt PX8_close) m (33, [((t : Nat) : Int), x1], p.1 ++ [], p.2) (fun r => r.1 = [] ∧ (∀ c j, ¬ (t ≤ c ∧ c ≤ t + 35) → r.2 c j = s c j) ∧ cDn r.2 t D ∧ cDh r.2 t (clD D) ∧ (∀ f : Nat, f < cnt D 1 → r.2 (t + 35) f = ((abv D f : Nat) : Int)) ∧ prcE s r.2 t)) := fun m x1 s1 f1 a1 a2 => by
    have e29 : s1 (t + 29) 1 = s (t + 29) 1 := f1 _ _ (by omega)
    refine close_price ht (by rw [e29]; exact hd.2.2.1) (fun m2 s2 f2 p1 p2 p3 => ?_)
    rw [e29] at p1 p2 p3
    have h2 : cDn s2 t D := cDn_e h hw (fun c j hc => by rw [f2 c j (by omega) (by omega), f1 c j (by omega)])
    refine zT_q (close_tail ht h2 hw) (fun r hr => ?_)
    obtain ⟨e, f3, q⟩ := hr
    refine ⟨e, fun c j hc => by rw [f3 c j (by omega), f2 c j (by omega) (by omega), f1 c j (by omega)], cDn_e h2 hw (fun c j hc => f3 c j (by omega)), ⟨?_, ?_, ?_, ?_⟩, q, ?_⟩
    · rw [f3 t 5 (by omega), f2 t 5 (by omega) (by omega)]; exact a1
    · rw [f3 t 6 (by omega), f2 t 6 (by omega) (by omega)]; exact a2
    · rw [f3 _ _ (by omega), p2]
      have := hd.2.2.1
      split <;> omega
    · rw [f3 _ _ (by omega), p2]
      refine ⟨fun z => ?_, fun z => absurd (show (1 : Int) = 0 from z) (by decide)⟩
      split at z <;> omega
    · refine ⟨fun z => ⟨fun j => by rw [f3 _ _ (by omega), p1 z, f1 _ _ (by omega)], by rw [f3 _ _ (by omega), p2, if_neg (by omega)]⟩, fun z => ⟨by rw [f3 _ _ (by omega), p2, if_pos z], by rw [f3 _ _ (by omega), p3 z]⟩⟩
  obtain ⟨d1, d2, -, -⟩ := hd
  have k1 : s t 5 ≠ -1 → s t 5 = dHeap (clD D) := fun q => by
    show _ = if dHeap D = -1 then 0 else dHeap D
    rw [if_neg (by rw [← d1]; exact q)]; exact d1
  have k2 : s t 6 ≠ -1 → s t 6 = dWalk (clD D) := fun q => by
    show _ = if dWalk D = -1 then 5 else dWalk D
    rw [if_neg (by rw [← d2]; exact q)]; exact d2
  have k3 : s t 5 = -1 → (0 : Int) = dHeap (clD D) := fun q => (if_pos (by rw [← d1]; exact q)).symm
  have k4 : s t 6 = -1 → (5 : Int) = dWalk (clD D) := fun q => (if_pos (by rw [← d2]; exact q)).symm
  refine c_X8_close (b_X8_close_0 _ s ht (fun g1 g2 m hm => ?_) (fun g1 g2 m hm => ?_) (fun g1 g2 m hm => ?_) (fun g1 g2 m hm => ?_))
  · exact go m _ s (fun _ _ _ => rfl) (k1 g1) (k2 g2)
  · exact go m _ _ (fun c j hc => zu_n (by omega)) (by rw [zu_n (by omega)]; exact k1 g1) (by rw [zu_eq]; exact k4 g2)
  · rw [zu_n (by omega)] at g2
    exact go m _ _ (fun c j hc => zu_n (by omega)) (by rw [zu_eq]; exact k3 g1) (by rw [zu_n (by omega)]; exact k2 g2)
  · rw [zu_n (by omega)] at g2
    exact go m _ _ (fun c j hc => by rw [zu_n (by omega), zu_n (by omega)]) (by rw [zu_n (by omega), zu_eq]; exact k3 g1) (by rw [zu_eq]; exact k4 g2)
/-- a town read, whole: its fault, and if there is none, what it tells -/
def qRe (s : Zs) (t : Nat) (T : Nat → Int) (n : Nat) (a : PS × ZD) (r : Zr) : Prop := r.1 = [(a.1.1, 0)] ∧ frT t s r.2 ∧ tkS r.2 T n ∧ (a.1.1 = 0 → cDn r.2 t a.2 ∧ wD a.2 ∧ cDh r.2 t (clD a.2) ∧ ∀ f : Nat, f < cnt a.2 1 → r.2 (t + 35) f = ((abv a.2 f : Nat) : Int))
theorem re_end {i : Int} {s0 : Zs} (ht : t = 7 ∨ t = 43) (f : frT t s0 s) (h : cP s t T n x D) : zC N 1028 [((t : Int), 0)] s (fun p => zT (zE 1153) (Pt PX9_read) N (301, [((4 : Nat) : Int), ((t : Nat) : Int), i], p.1 ++ [], p.2) (qRe s0 t T n (x, D))) := by
  by_cases hx : x.1 = 0
  · refine zC_q (closeE ht h.2.1 h.2.2.1 (h.2.2.2.1 hx)) (fun r hr => ?_)
    obtain ⟨r1, s2⟩ := r
    obtain ⟨e, f2, a1, a2, a3, -⟩ := hr
    have e : r1 = [] := e
    subst e
    have f2 : ∀ c j, ¬ (t ≤ c ∧ c ≤ t + 35) → s2 c j = s c j := f2
    have ft : frT t s0 s2 := frT_tr f (frT_row f2)
    refine b_X9_read_301 _ s2 ht ⟨?_, ft, (pst_T h.1 (fun c j hc => f2 c j (by omega))).2.1, fun _ => ⟨a1, h.2.2.1, a2, a3⟩⟩
    have e1 : s2 1 1 = s 1 1 := f2 1 1 (by omega)
    rw [e1, h.1.1]
  · refine zC_q (close_ok ht) (fun r hr => ?_)
    obtain ⟨r1, s2⟩ := r
    obtain ⟨e, f2⟩ := hr
    have e : r1 = [] := e
    subst e
    have f2 : ∀ c j, ¬ (t ≤ c ∧ c ≤ t + 35) → s2 c j = s c j := f2
    have ft : frT t s0 s2 := frT_tr f (frT_row f2)
    refine b_X9_read_301 _ s2 ht ⟨?_, ft, (pst_T h.1 (fun c j hc => f2 c j (by omega))).2.1, fun q => absurd q hx⟩
    have e1 : s2 1 1 = s 1 1 := f2 1 1 (by omega)
    rw [e1, h.1.1]
theorem re_loop (ht : t = 7 ∨ t = 43) {s0 : Zs} : ∀ (N : Nat) (i : Nat) (x : PS) (D : ZD) (s : Zs), i ≤ 1000 → frT t s0 s → cP s t T n x D → zT (zE 1153) (Pt PX9_read) N (13, [((4 : Nat) : Int), ((t : Nat) : Int), (i : Int)], [], s) (qRe s0 t T n (pAll T n (1000 - i) x D)) := by
  intro N
  induction N using Nat.strongRecOn with
  | ind N ih =>
    intro i x D s hi f h
    have hend : (i = 1000 ∨ ¬ (x.1 = 0 ∧ eQ T n (kB T n x.2) ≠ 1)) → pAll T n (1000 - i) x D = (x, D) := fun q => by
      rcases q with q | q
      · rw [q]; rfl
      · by_cases hz : i = 1000
        · rw [hz]; rfl
        · rw [show 1000 - i = (1000 - i - 1) + 1 from by omega]
          unfold pAll
          exact if_neg q
    have h1 := h.1.1
    have hA : s 1 1 = 0 → s 1 4 = eQ T n (kB T n x.2) := fun q => (h.1.2.2.2.2 (by omega)).2.2.1
    have hK : s 1 1 = 0 → s 1 4 = 2 → s 1 8 = kwi (eW T n (kB T n x.2)) := fun q q2 => ((h.1.2.2.2.2 (by omega)).2.2.2.1 (by rw [← hA q]; exact q2)).2
    have hstep : s 1 1 = 0 → s 1 4 ≠ 1 → (i : Int) < 1000 → pAll T n (1000 - i) x D = pAll T n (1000 - (i + 1)) (pLine T n x D).1 (pLine T n x D).2 := fun q q2 q3 => by
      rw [show 1000 - i = (1000 - (i + 1)) + 1 from by omega]
      have e : ∀ f, pAll T n (f + 1) x D = if x.1 = 0 ∧ eQ T n (kB T n x.2) ≠ 1 then pAll T n f (pLine T n x D).1 (pLine T n x D).2 else (x, D) := fun _ => rfl
      rw [e, if_pos ⟨by omega, by rw [← hA q]; exact q2⟩]
    have nxt : ∀ {v : PS × ZD}, s 1 1 = 0 → s 1 4 ≠ 1 → (i : Int) < 1000 → pLine T n x D = v → ∀ (m : Nat) (s' : Zs), m < N → frT t s s' → cP s' t T n v.1 v.2 → zT (zE 1153) (Pt PX9_read) m (13, [((4 : Nat) : Int), ((t : Nat) : Int), w32 ((i : Int) + 1)], [], s') (qRe s0 t T n (pAll T n (1000 - i) x D)) := fun {v} q q2 q3 q4 m s' hm f' h' => by
      rw [hstep q q2 q3, q4, w32_id (z := (i : Int) + 1) (by omega) (by omega), show (i : Int) + 1 = ((i + 1 : Nat) : Int) from by omega]
      exact ih m hm (i + 1) v.1 v.2 s' (by omega) (frT_tr f f') h'
    have ln : s 1 1 = 0 → ∀ k : Int, (if eQ T n (kB T n x.2) = 2 then kwi (eW T n (kB T n x.2)) else -1) = k → pLine T n x D = if k = 0 then pHouse T n x D else if k = 2 then pFlight T n x D else if k = 5 then pThing T n x D else if k = 8 then pPerson T n x D else if k = 12 then pHill T n x D
  else if k = 14 then pHeap T n x D else if k = 15 then pWalk T n x D else if k = 16 then pPrice T n x D else (gF T n 1 x, D) := fun _ k q => by
      unfold pLine
      dsimp only
      rw [q]
    have lk : s 1 1 = 0 → s 1 4 = 2 → (if eQ T n (kB T n x.2) = 2 then kwi (eW T n (kB T n x.2)) else -1 : Int) = s 1 8 := fun q q2 => by
      rw [if_pos (by rw [← hA q]; exact q2), hK q q2]
    have bad : s 1 1 = 0 → s 1 4 ≠ 1 → (i : Int) < 1000 → pLine T n x D = (gF T n 1 x, D) → ∀ m, m < N → zC m 899 [(((1 : Nat) : Int), 0), (1, 0)] s (fun p => zT (zE 1153) (Pt PX9_read) m (291, [((4 : Nat) : Int), ((t : Nat) : Int), (i : Int)], p.1 ++ [], p.2) (qRe s0 t T n (pAll T n (1000 - i) x D))) := fun q q2 q3 q4 m hm => by
      refine cFa (k' := 1) ht (by decide) h (fun s1 f1 h1 => ?_)
      refine b_X9_read_291 _ s1 ht (fun m2 hm2 => ?_)
      exact nxt q q2 q3 q4 m2 s1 (by omega) f1 h1
    have badk : s 1 1 = 0 → s 1 4 ≠ 1 → (i : Int) < 1000 → s 1 4 = 2 → (s 1 8 ≠ 0 ∧ s 1 8 ≠ 2 ∧ s 1 8 ≠ 5 ∧ s 1 8 ≠ 8 ∧ s 1 8 ≠ 12 ∧ s 1 8 ≠ 14 ∧ s 1 8 ≠ 15 ∧ s 1 8 ≠ 16) → ∀ m, m < N → zC m 899 [(((1 : Nat) : Int), 0), (1, 0)] s (fun p => zT (zE 1153) (Pt PX9_read) m (291, [((4 : Nat) : Int), ((t : Nat) : Int), (i : Int)], p.1 ++ [], p.2) (qRe s0 t T n (pAll T n (1000 - i) x D))) := fun q q2 q3 q4 q5 => by
      refine bad q q2 q3 ?_
      rw [ln q _ (lk q q4), if_neg q5.1, if_neg q5.2.1, if_neg q5.2.2.1, if_neg q5.2.2.2.1, if_neg q5.2.2.2.2.1, if_neg q5.2.2.2.2.2.1, if_neg q5.2.2.2.2.2.2.1, if_neg q5.2.2.2.2.2.2.2]
    have good : s 1 1 = 0 → s 1 4 = 2 → ∀ k : Int, s 1 8 = k → pLine T n x D = if k = 0 then pHouse T n x D else if k = 2 then pFlight T n x D else if k = 5 then pThing T n x D else if k = 8 then pPerson T n x D else if k = 12 then pHill T n x D
  else if k = 14 then pHeap T n x D else if k = 15 then pWalk T n x D else if k = 16 then pPrice T n x D else (gF T n 1 x, D) := fun q q2 k q3 => ln q k ((lk q q2).trans q3)
    refine b_X9_read_13 _ s ht (fun g1 m hm => ?_) (fun g1 g4 m hm => ?_) (fun g1 g6 g7 m hm => ?_) (fun g1 g9 g10 g14 m hm => ?_) (fun g1 g9 g10 g18 g19_0 m hm => ?_) (fun g1 g9 g10 g18 g19_1 m hm => ?_) (fun g1 g9 g10 g18 g19_2 m hm => ?_) (fun g1 g9 g10 g18 g19_3 m hm => ?_) (fun g1 g9 g10 g18 g19_4 m hm => ?_) (fun g1 g9 g10 g18 g19_5 m hm => ?_) (fun g1 g9 g10 g18 g19_6 m hm => ?_) (fun g1 g9 g10 g18 g19_7 m hm => ?_) (fun g1 g9 g10 g18 g19_8 m hm => ?_) (fun g1 g9 g10 g18 g19_9 m hm => ?_) (fun g1 g9 g10 g18 g19_10 m hm => ?_) (fun g1 g9 g10 g18 g19_11 m hm => ?_) (fun g1 g9 g10 g18 g19_12 m hm => ?_) (fun g1 g9 g10 g18 g19_13 m hm => ?_) (fun g1 g9 g10 g18 g19_14 g34 m hm => ?_) (fun g1 g9 g10 g18 g19_14 g34 m hm => ?_) (fun g1 g9 g10 g18 g19_15 g37 m hm => ?_) (fun g1 g9 g10 g18 g19_15 g37 m hm => ?_) (fun g1 g9 g10 g18 g19_16 m hm => ?_) (fun g1 g9 g10 g18 g19_0 g19_1 g19_2 g19_3 g19_4 g19_5 g19_6 g19_7 g19_8 g19_9 g19_10 g19_11 g19_12 g19_13 g19_14 g19_15 g19_16 m hm => ?_)
    · rw [hend (Or.inl (by omega))]; exact re_end ht f h
    · rw [hend (Or.inr (fun q => g4 (h1.trans q.1)))]; exact re_end ht f h
    · rw [hend (Or.inr (fun q => q.2 (by rw [← hA g6]; exact g7)))]; exact re_end ht f h
    · refine bad g9 g10 g1 ?_ m hm
      rw [ln g9 (-1) (if_neg (fun q => g14 (by rw [hA g9]; exact q)))]
      rfl
    · have h0 : x.1 = 0 := by omega
      refine cHouse ht h0 h (fun s1 f1 h1' => ?_)
      refine b_X9_read_125 _ s1 ht (fun m2 hm2 => ?_)
      exact nxt g9 g10 g1 (good g9 g18 0 g19_0) m2 s1 (by omega) f1 h1'
    · exact badk g9 g10 g1 g18 ⟨by omega, by omega, by omega, by omega, by omega, by omega, by omega, by omega⟩ m hm
    · have h0 : x.1 = 0 := by omega
      refine cFlight ht h0 h (fun s1 f1 h1' => ?_)
      refine b_X9_read_133 _ s1 ht (fun m2 hm2 => ?_)
      exact nxt g9 g10 g1 (good g9 g18 2 g19_2) m2 s1 (by omega) f1 h1'
    · exact badk g9 g10 g1 g18 ⟨by omega, by omega, by omega, by omega, by omega, by omega, by omega, by omega⟩ m hm
    · exact badk g9 g10 g1 g18 ⟨by omega, by omega, by omega, by omega, by omega, by omega, by omega, by omega⟩ m hm
    · have h0 : x.1 = 0 := by omega
      refine cThing ht h0 h (fun s1 f1 h1' => ?_)
      refine b_X9_read_141 _ s1 ht (fun m2 hm2 => ?_)
      exact nxt g9 g10 g1 (good g9 g18 5 g19_5) m2 s1 (by omega) f1 h1'
    · exact badk g9 g10 g1 g18 ⟨by omega, by omega, by omega, by omega, by omega, by omega, by omega, by omega⟩ m hm
    · exact badk g9 g10 g1 g18 ⟨by omega, by omega, by omega, by omega, by omega, by omega, by omega, by omega⟩ m hm
    · have h0 : x.1 = 0 := by omega
      refine cPerson ht h0 h (fun s1 f1 h1' => ?_)
      refine b_X9_read_149 _ s1 ht (fun m2 hm2 => ?_)
      exact nxt g9 g10 g1 (good g9 g18 8 g19_8) m2 s1 (by omega) f1 h1'
    · exact badk g9 g10 g1 g18 ⟨by omega, by omega, by omega, by omega, by omega, by omega, by omega, by omega⟩ m hm
    · exact badk g9 g10 g1 g18 ⟨by omega, by omega, by omega, by omega, by omega, by omega, by omega, by omega⟩ m hm
    · exact badk g9 g10 g1 g18 ⟨by omega, by omega, by omega, by omega, by omega, by omega, by omega, by omega⟩ m hm
    · have h0 : x.1 = 0 := by omega
      refine cHill ht h0 h (fun s1 f1 h1' => ?_)
      refine b_X9_read_157 _ s1 ht (fun m2 hm2 => ?_)
      exact nxt g9 g10 g1 (good g9 g18 12 g19_12) m2 s1 (by omega) f1 h1'
    · exact badk g9 g10 g1 g18 ⟨by omega, by omega, by omega, by omega, by omega, by omega, by omega, by omega⟩ m hm
    · have h0 : x.1 = 0 := by omega
      have hd := (h.2.2.2.1 h0).1
      refine cHeap ht h0 ⟨fun _ => decide_eq_false (fun q => q (hd.symm.trans g34)), fun _ => rfl⟩ h (fun m2 s1 hm2 f1 h1' => ?_)
      exact nxt g9 g10 g1 (good g9 g18 14 g19_14) m2 s1 (by omega) f1 h1'
    · have h0 : x.1 = 0 := by omega
      have hd := (h.2.2.2.1 h0).1
      refine cHeap ht h0 ⟨fun q => absurd q (by decide), fun q => absurd (hd.trans (Decidable.byContradiction (of_decide_eq_false q))) g34⟩ h (fun m2 s1 hm2 f1 h1' => ?_)
      exact nxt g9 g10 g1 (good g9 g18 14 g19_14) m2 s1 (by omega) f1 h1'
    · have h0 : x.1 = 0 := by omega
      have hd := (h.2.2.2.1 h0).2.1
      refine cWalk ht h0 ⟨fun _ => decide_eq_false (fun q => q (hd.symm.trans g37)), fun _ => rfl⟩ h (fun m2 s1 hm2 f1 h1' => ?_)
      exact nxt g9 g10 g1 (good g9 g18 15 g19_15) m2 s1 (by omega) f1 h1'
    · have h0 : x.1 = 0 := by omega
      have hd := (h.2.2.2.1 h0).2.1
      refine cWalk ht h0 ⟨fun q => absurd q (by decide), fun q => absurd (hd.trans (Decidable.byContradiction (of_decide_eq_false q))) g37⟩ h (fun m2 s1 hm2 f1 h1' => ?_)
      exact nxt g9 g10 g1 (good g9 g18 15 g19_15) m2 s1 (by omega) f1 h1'
    · have h0 : x.1 = 0 := by omega
      refine cPrice ht h0 h (fun m2 s1 hm2 f1 h1' => ?_)
      exact nxt g9 g10 g1 (good g9 g18 16 g19_16) m2 s1 (by omega) f1 h1'
    · exact badk g9 g10 g1 g18 ⟨by omega, by omega, by omega, by omega, by omega, by omega, by omega, by omega⟩ m hm
theorem readE_ok (ht : t = 7 ∨ t = 43) (h : tkS s T n) (hz : zM s) : zC N 1153 [(((4 : Nat) : Int), 0), (((t : Nat) : Int), 0)] s (qRe s t T n (pAll T n 1000 (0, 0) d0)) := by
  refine c_X9_read (b_X9_read_0 _ s ht (fun m hm => ?_))
  refine zC_q (clear_ok ht) (fun r hr => ?_)
  obtain ⟨r1, s1⟩ := r
  obtain ⟨e, f1, a1, a2, a3⟩ := hr
  have e : r1 = [] := e
  subst e
  have f1 : frT t s s1 := f1
  have a1 : cDn s1 t d0 := a1
  have a2 : cDh s1 t d0 := a2
  refine b_X9_read_4 _ s1 ht (fun m hm => ?_)
  refine zC_q (begin_ok (frT_S ht f1 h)) (fun r hr => ?_)
  obtain ⟨r1, s2⟩ := r
  obtain ⟨e, f2, p2⟩ := hr
  have e : r1 = [] := e
  subst e
  have f2 : frF s1 s2 := f2
  refine b_X9_read_11 _ s2 ht ?_
  exact re_loop ht m 0 (0, 0) d0 s2 (by omega) (frT_tr f1 (frT_F f2)) ⟨p2, cDn_F ht f2 a1, wD_0, fun _ => cDh_F ht f2 a2, fun j => by rw [show s2 1000 j = s1 1000 j from f2 1000 j (by omega), f1 1000 j (by omega) (by omega)]; exact hz j⟩
end Zre
