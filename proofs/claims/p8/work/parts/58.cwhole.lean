/-! a town read, whole: the class -/
theorem fill_ok {N c : Nat} {v : Int} {s : Zs} (hc : zq_len c ≤ 1000000) : zC N 1664 [((c : Int), 0), (v, 0)] s (fun r => r.1 = [] ∧ (∀ i : Nat, (i : Int) < zq_len c → r.2 c i = v) ∧ ∀ d j, d ≠ c → r.2 d j = s d j) := by
  have loop : ∀ (M : Nat) (k : Nat) (s1 : Zs), (∀ i : Nat, i < k → s1 c i = v) → (∀ d j, d ≠ c → s1 d j = s d j) → zT (zE 1664) (Pt PJ7_fill_53178) M (5, [((c : Nat) : Int), v, (k : Int), zq_len c], [], s1) (fun r => r.1 = [] ∧ (∀ i : Nat, (i : Int) < zq_len c → r.2 c i = v) ∧ ∀ d j, d ≠ c → r.2 d j = s d j) := by
    intro M
    induction M using Nat.strongRecOn with
    | ind M ih =>
      intro k s1 h1 h2
      refine b_J7_fill_53178_5 _ _ _ s1 (fun g => ⟨rfl, fun i hi => h1 i (by omega), h2⟩) (fun g m hm => ?_)
      rw [w32_id (z := (k : Int) + 1) (by omega) (by omega), show (k : Int) + 1 = ((k + 1 : Nat) : Int) from by omega, Int.toNat_natCast]
      refine ih m hm (k + 1) _ (fun i hi => ?_) (fun d j hd => by rw [zu_n (fun e => hd e.1)]; exact h2 d j hd)
      by_cases e : i = k
      · rw [e, zu_eq]
      · rw [zu_n (fun q => e q.2)]; exact h1 i (by omega)
  exact c_J7_fill_53178 (b_J7_fill_53178_0 _ _ _ s (loop N 0 s (fun i hi => by omega) (fun _ _ _ => rfl)))
theorem fillL_ok {N c : Nat} {v : Int} {s : Zs} (hc : zq_len c ≤ 1000000) : zC N 1665 [((c : Int), 0), (v, 1)] s (fun r => r.1 = [] ∧ (∀ i : Nat, (i : Int) < zq_len c → r.2 c i = v) ∧ ∀ d j, d ≠ c → r.2 d j = s d j) := by
  have loop : ∀ (M : Nat) (k : Nat) (x2 : Int) (s1 : Zs), (∀ i : Nat, i < k → s1 c i = v) → (∀ d j, d ≠ c → s1 d j = s d j) → zT (zE 1665) (Pt PJ7_fill_d0a16) M (6, [((c : Nat) : Int), v, x2, (k : Int), zq_len c], [], s1) (fun r => r.1 = [] ∧ (∀ i : Nat, (i : Int) < zq_len c → r.2 c i = v) ∧ ∀ d j, d ≠ c → r.2 d j = s d j) := by
    intro M
    induction M using Nat.strongRecOn with
    | ind M ih =>
      intro k x2 s1 h1 h2
      refine b_J7_fill_d0a16_6 _ _ _ _ s1 (fun g => ⟨rfl, fun i hi => h1 i (by omega), h2⟩) (fun g m hm => ?_)
      rw [w32_id (z := (k : Int) + 1) (by omega) (by omega), show (k : Int) + 1 = ((k + 1 : Nat) : Int) from by omega, Int.toNat_natCast]
      refine ih m hm (k + 1) _ _ (fun i hi => ?_) (fun d j hd => by rw [zu_n (fun e => hd e.1)]; exact h2 d j hd)
      by_cases e : i = k
      · rw [e, zu_eq]
      · rw [zu_n (fun q => e q.2)]; exact h1 i (by omega)
  exact c_J7_fill_d0a16 (b_J7_fill_d0a16_0 _ _ _ _ s (loop N 0 _ s (fun i hi => by omega) (fun _ _ _ => rfl)))
section Zrw
variable {N t : Nat} {s : Zs} {T : Nat → Int} {n : Nat} {x : PS} {D : ZD}
theorem wD_0 : wD d0 := by
  refine ⟨fun k _ => ?_, fun k w hw => ?_, rfl, rfl, fun k j _ _ _ => ?_, fun v hv => ?_, fun v hv => ?_, fun v hv => ?_⟩
  · have : cnt d0 k = 0 := by unfold cnt; split <;> rfl
    omega
  · have hw : w ∈ ([] : List (List Int)) := hw
    cases hw
  · have : cnt d0 k = 0 := by unfold cnt; split <;> rfl
    rw [this]
    rfl
  all_goals
    have hv : v ∈ ([] : List Int) := hv
    cases hv
theorem clear_ok (ht : t = 7 ∨ t = 43) : zC N 1027 [((t : Int), 0)] s (fun r => r.1 = [] ∧ frT t s r.2 ∧ cDn r.2 t d0 ∧ cDh r.2 t d0 ∧ ∀ c j, c ≤ 3 → r.2 c j = s c j) := by
  have l1 : zq_len (t + 1) = 5 := by rcases ht with rfl | rfl <;> rfl
  have l2 : zq_len (t + 32) = 25 := by rcases ht with rfl | rfl <;> rfl
  have l3 : zq_len (t + 34) = 30 := by rcases ht with rfl | rfl <;> rfl
  refine c_X8_clear (b_X8_clear_0 s ht (fun m hm => ?_))
  refine zC_q (fill_ok (c := t + 1) (by omega)) (fun r hr => ?_)
  obtain ⟨r1, s1⟩ := r
  obtain ⟨e, a1, b1⟩ := hr
  have e : r1 = [] := e
  subst e
  refine b_X8_clear_8 s1 ht (fun m hm => ?_)
  refine zC_q (fillL_ok (c := t + 32) (by omega)) (fun r hr => ?_)
  obtain ⟨r1, s2⟩ := r
  obtain ⟨e, a2, b2⟩ := hr
  have e : r1 = [] := e
  subst e
  refine b_X8_clear_16 s2 ht (fun m hm => ?_)
  refine zC_q (fill_ok (c := t + 34) (by omega)) (fun r hr => ?_)
  obtain ⟨r1, s3⟩ := r
  obtain ⟨e, a3, b3⟩ := hr
  have e : r1 = [] := e
  subst e
  have a1 : ∀ i : Nat, (i : Int) < zq_len (t + 1) → s1 (t + 1) i = 0 := a1
  have a2 : ∀ i : Nat, (i : Int) < zq_len (t + 32) → s2 (t + 32) i = 0 := a2
  have a3 : ∀ i : Nat, (i : Int) < zq_len (t + 34) → s3 (t + 34) i = -1 := a3
  have b1 : ∀ d j, d ≠ t + 1 → s1 d j = s d j := b1
  have b2 : ∀ d j, d ≠ t + 32 → s2 d j = s1 d j := b2
  have b3 : ∀ d j, d ≠ t + 34 → s3 d j = s2 d j := b3
  refine b_X8_clear_24 s3 ht (fun m hm => ?_)
  have hu : t + 29 = 36 ∨ t + 29 = 72 := by omega
  refine c_X4_clear (b_X4_clear_0 _ hu ?_)
  refine b_X8_clear_41 _ ht ?_
  have out : ∀ c j, c ≠ t → c ≠ t + 1 → c ≠ t + 29 → c ≠ t + 32 → c ≠ t + 34 → zu (zu (zu s3 t 5 (-1)) t 6 (-1)) (t + 29) 1 0 c j = s c j := fun c j h1 h2 h3 h4 h5 => by
    rw [zu_n (by omega), zu_n (by omega), zu_n (by omega), b3 c j (by omega), b2 c j (by omega), b1 c j (by omega)]
  refine ⟨rfl, fun c j h1 h2 => out c j (by omega) (by omega) (by omega) (by omega) (by omega), ⟨fun k hk => ?_, fun q hq => ?_, fun i v hv => ?_, fun k j i v k1 k2 k3 hv => ?_, fun q hq => ?_⟩, ⟨?_, ?_, ?_, ?_⟩, fun c j hc => out c j (by omega) (by omega) (by omega) (by omega) (by omega)⟩
  · show zu (zu (zu s3 t 5 (-1)) t 6 (-1)) (t + 29) 1 0 (t + 1) k = _
    rw [zu_n (by omega), zu_n (by omega), zu_n (by omega), b3 _ _ (by omega), b2 _ _ (by omega), a1 k (by omega)]
    have : cnt d0 k = 0 := by unfold cnt; split <;> rfl
    rw [this]
    rfl
  · show zu (zu (zu s3 t 5 (-1)) t 6 (-1)) (t + 29) 1 0 (t + 32) q = _
    rw [zu_n (by omega), zu_n (by omega), zu_n (by omega), b3 _ _ (by omega), a2 q (by omega)]
    rfl
  · have hv : ([] : List Int)[i]? = some v := hv
    simp at hv
  · have hv : ([] : List Int)[i]? = some v := hv
    simp at hv
  · show zu (zu (zu s3 t 5 (-1)) t 6 (-1)) (t + 29) 1 0 (t + 34) q = _
    rw [zu_n (by omega), zu_n (by omega), zu_n (by omega), a3 q (by omega)]
    rfl
  · show zu (zu (zu s3 t 5 (-1)) t 6 (-1)) (t + 29) 1 0 t 5 = _
    rw [zu_n (by omega), zu_n (by omega), zu_eq]
    rfl
  · show zu (zu (zu s3 t 5 (-1)) t 6 (-1)) (t + 29) 1 0 t 6 = _
    rw [zu_n (by omega), zu_eq]
    rfl
  · show 0 ≤ zu (zu (zu s3 t 5 (-1)) t 6 (-1)) (t + 29) 1 0 (t + 29) 1
    rw [zu_eq]
    exact Int.le_refl 0
  · show zu (zu (zu s3 t 5 (-1)) t 6 (-1)) (t + 29) 1 0 (t + 29) 1 = 0 ↔ _
    rw [zu_eq]
    exact ⟨fun _ => rfl, fun _ => rfl⟩
theorem begin_ok (h : tkS s T n) : zC N 896 [(((1 : Nat) : Int), 0)] s (fun r => r.1 = [] ∧ frF s r.2 ∧ pst r.2 T n (0, 0)) := by
  refine c_X7_begin (b_X7_begin_0 s (fun m hm => ?_))
  have h' : tkS (zu (zu s 1 1 0) 1 6 0) T n := h
  refine zC_q (next_ok h' (p := 0) (by rw [zu_eq]; rfl) (Nat.zero_le n)) (fun q hq => ?_)
  obtain ⟨r1, s2⟩ := q
  obtain ⟨e, f, q3⟩ := hq
  have e : r1 = [] := e
  subst e
  have f : frK (zu (zu s 1 1 0) 1 6 0) s2 := f
  have fF : frF s s2 := fun c j hc => by rw [f c j (fun e => hc ⟨e.1, Or.inr e.2⟩), zu_n (by omega), zu_n (by omega)]
  refine b_X7_begin_14 s2 ⟨rfl, fF, ⟨?_, tkS_fr h' f, Nat.zero_le n, Int.le_refl 0, fun _ => q3⟩⟩
  show s2 1 1 = 0
  rw [f 1 1 (by omega), zu_n (by omega), zu_eq]
theorem findAbove_ok (ht : t = 7 ∨ t = 43) {a : Int} : zC N 1030 [((t : Int), 0), (a, 0)] s (fun r => ∃ v : Int, r = ([(v, 0)], s)) := by
  have loop : ∀ (M : Nat) (x2 x3 x4 : Int), zT (zE 1030) (Pt PX8_findAbove) M (4, [((t : Nat) : Int), a, x2, x3, x4], [], s) (fun r => ∃ v : Int, r = ([(v, 0)], s)) := by
    intro M
    induction M using Nat.strongRecOn with
    | ind M ih =>
      intro x2 x3 x4
      exact b_X8_findAbove_4 _ _ _ _ s ht (fun g => ⟨x2, rfl⟩) (fun g g2 m hm => ih m hm _ _ _) (fun g g2 g3 m hm => ih m hm _ _ _) (fun g g2 g3 m hm => ih m hm _ _ _)
  exact c_X8_findAbove (b_X8_findAbove_0 _ _ _ _ s ht (loop N _ _ _))
theorem close_ok (ht : t = 7 ∨ t = 43) : zC N 1028 [((t : Int), 0)] s (fun r => r.1 = [] ∧ ∀ c j, ¬ (t ≤ c ∧ c ≤ t + 35) → r.2 c j = s c j) := by
  have hu : t + 29 = 36 ∨ t + 29 = 72 := by omega
  have loop : ∀ (M : Nat) (x1 : Int) (s1 : Zs), (∀ c j, ¬ (t ≤ c ∧ c ≤ t + 35) → s1 c j = s c j) → zT (zE 1028) (Pt PX8_close) M (45, [((t : Nat) : Int), x1], [], s1) (fun r => r.1 = [] ∧ ∀ c j, ¬ (t ≤ c ∧ c ≤ t + 35) → r.2 c j = s c j) := by
    intro M
    induction M using Nat.strongRecOn with
    | ind M ih =>
      intro x1 s1 f1
      refine b_X8_close_45 _ s1 ht (fun g => ⟨rfl, f1⟩) (fun g m hm => ?_)
      refine zC_q (findAbove_ok ht) (fun r hr => ?_)
      obtain ⟨v, hr⟩ := hr
      subst hr
      refine b_X8_close_65 _ _ _ s1 ht (fun m2 hm2 => ?_)
      exact ih m2 (by omega) _ _ (fun c j hc => by rw [zu_n (by omega)]; exact f1 c j hc)
  have go : ∀ (m : Nat) (s1 : Zs), (∀ c j, ¬ (t ≤ c ∧ c ≤ t + 35) → s1 c j = s c j) → zC m 516 [((((t + 29) : Nat) : Int), 0)] s1 (fun p => zT (zE 1028) (Pt PX8_close) m (33, [((t : Nat) : Int), 0], p.1 ++ [], p.2) (fun r => r.1 = [] ∧ ∀ c j, ¬ (t ≤ c ∧ c ≤ t + 35) → r.2 c j = s c j)) := fun m s1 f1 => by
    have hi : ∀ v : Int, zT (zE 1028) (Pt PX8_close) m (33, [((t : Nat) : Int), 0], [(v, 0)], s1) (fun r => r.1 = [] ∧ ∀ c j, ¬ (t ≤ c ∧ c ≤ t + 35) → r.2 c j = s c j) := fun v => by
      refine b_X8_close_33 _ _ s1 ht (fun g => loop m _ s1 f1) (fun g m2 hm2 => ?_)
      refine c_X4_beHigh (b_X4_beHigh_0 s1 hu (fun m3 hm3 => ?_))
      have add_fr : ∀ {m' : Nat} {v : Int} {s' : Zs}, zC m' 512 [(((t + 29 : Nat) : Int), 0), (v, 0)] s' (fun r => r.1 = [] ∧ ∀ c j, ¬ (t ≤ c ∧ c ≤ t + 35) → r.2 c j = s' c j) := fun {m' v s'} => by
        have e0 : zrho (t + 29) 0 = t + 29 + 1 := zp4_0 hu
        refine c_X4_add (b_X4_add_0 v s' hu (fun g => ⟨rfl, fun _ _ _ => rfl⟩) (fun g => ⟨rfl, fun c j hc => ?_⟩))
        show zu (zu s' (zrho (t + 29) 0) (s' (t + 29) 1).toNat v) (t + 29) 1 _ c j = s' c j
        rw [e0, zu_n (by omega), zu_n (by omega)]
      refine zC_q add_fr (fun r hr => ?_)
      obtain ⟨r1, s2⟩ := r
      obtain ⟨e, f2⟩ := hr
      have e : r1 = [] := e
      subst e
      have f2 : ∀ c j, ¬ (t ≤ c ∧ c ≤ t + 35) → s2 c j = zu s1 (t + 29) 1 0 c j := f2
      exact b_X4_beHigh_10 s2 hu (b_X8_close_43 _ s2 ht (loop _ _ s2 (fun c j hc => by rw [f2 c j hc, zu_n (by omega)]; exact f1 c j hc)))
    exact c_X4_isTold (b_X4_isTold_0 s1 hu (fun g => hi 0) (fun g => hi 1))
  refine c_X8_close (b_X8_close_0 _ s ht (fun g1 g2 m hm => ?_) (fun g1 g2 m hm => ?_) (fun g1 g2 m hm => ?_) (fun g1 g2 m hm => ?_))
  · exact go m s (fun _ _ _ => rfl)
  · exact go m _ (fun c j hc => zu_n (by omega))
  · exact go m _ (fun c j hc => zu_n (by omega))
  · exact go m _ (fun c j hc => by rw [zu_n (by omega), zu_n (by omega)])
def qRd (s : Zs) (t : Nat) (T : Nat → Int) (n : Nat) (a : PS × ZD) (r : Zr) : Prop := r.1 = [(a.1.1, 0)] ∧ frT t s r.2 ∧ tkS r.2 T n
theorem rd_end {N : Nat} {i : Int} {s0 : Zs} (ht : t = 7 ∨ t = 43) (f : frT t s0 s) (h : cP s t T n x D) : zC N 1028 [((t : Int), 0)] s (fun p => zT (zE 1153) (Pt PX9_read) N (301, [((4 : Nat) : Int), ((t : Nat) : Int), i], p.1 ++ [], p.2) (qRd s0 t T n (x, D))) := by
  refine zC_q (close_ok ht) (fun r hr => ?_)
  obtain ⟨r1, s2⟩ := r
  obtain ⟨e, f2⟩ := hr
  have e : r1 = [] := e
  subst e
  have f2 : ∀ c j, ¬ (t ≤ c ∧ c ≤ t + 35) → s2 c j = s c j := f2
  have ft : frT t s0 s2 := frT_tr f (frT_row f2)
  refine b_X9_read_301 _ s2 ht ⟨?_, ft, (pst_T h.1 (fun c j hc => f2 c j (by omega))).2.1⟩
  have e1 : s2 1 1 = s 1 1 := f2 1 1 (by omega)
  rw [e1, h.1.1]
theorem rd_loop (ht : t = 7 ∨ t = 43) {s0 : Zs} : ∀ (N : Nat) (i : Nat) (x : PS) (D : ZD) (s : Zs), i ≤ 1000 → frT t s0 s → cP s t T n x D → zT (zE 1153) (Pt PX9_read) N (13, [((4 : Nat) : Int), ((t : Nat) : Int), (i : Int)], [], s) (qRd s0 t T n (pAll T n (1000 - i) x D)) := by
  intro N
  induction N using Nat.strongRecOn with
  | ind N ih =>
    intro i x D s hi f h
    have hend : (i = 1000 ∨ ¬ (x.1 = 0 ∧ eQ T n (kB T n x.2) ≠ 1)) → pAll T n (1000 - i) x D = (x, D) := fun q => by
      rcases q with q | q
      · rw [q]; rfl
      · by_cases hz : i = 1000
        · rw [hz]; rfl
        · rw [show 1000 - i = (1000 - i - 1) + 1 from by omega]
          unfold pAll
          exact if_neg q
    have h1 := h.1.1
    have hA : s 1 1 = 0 → s 1 4 = eQ T n (kB T n x.2) := fun q => (h.1.2.2.2.2 (by omega)).2.2.1
    have hK : s 1 1 = 0 → s 1 4 = 2 → s 1 8 = kwi (eW T n (kB T n x.2)) := fun q q2 => ((h.1.2.2.2.2 (by omega)).2.2.2.1 (by rw [← hA q]; exact q2)).2
    have hstep : s 1 1 = 0 → s 1 4 ≠ 1 → (i : Int) < 1000 → pAll T n (1000 - i) x D = pAll T n (1000 - (i + 1)) (pLine T n x D).1 (pLine T n x D).2 := fun q q2 q3 => by
      rw [show 1000 - i = (1000 - (i + 1)) + 1 from by omega]
      have e : ∀ f, pAll T n (f + 1) x D = if x.1 = 0 ∧ eQ T n (kB T n x.2) ≠ 1 then pAll T n f (pLine T n x D).1 (pLine T n x D).2 else (x, D) := fun _ => rfl
      rw [e, if_pos ⟨by omega, by rw [← hA q]; exact q2⟩]
    have nxt : ∀ {v : PS × ZD}, s 1 1 = 0 → s 1 4 ≠ 1 → (i : Int) < 1000 → pLine T n x D = v → ∀ (m : Nat) (s' : Zs), m < N → frT t s s' → cP s' t T n v.1 v.2 → zT (zE 1153) (Pt PX9_read) m (13, [((4 : Nat) : Int), ((t : Nat) : Int), w32 ((i : Int) + 1)], [], s') (qRd s0 t T n (pAll T n (1000 - i) x D)) := fun {v} q q2 q3 q4 m s' hm f' h' => by
      rw [hstep q q2 q3, q4, w32_id (z := (i : Int) + 1) (by omega) (by omega), show (i : Int) + 1 = ((i + 1 : Nat) : Int) from by omega]
      exact ih m hm (i + 1) v.1 v.2 s' (by omega) (frT_tr f f') h'
    have ln : s 1 1 = 0 → ∀ k : Int, (if eQ T n (kB T n x.2) = 2 then kwi (eW T n (kB T n x.2)) else -1) = k → pLine T n x D = if k = 0 then pHouse T n x D else if k = 2 then pFlight T n x D else if k = 5 then pThing T n x D else if k = 8 then pPerson T n x D else if k = 12 then pHill T n x D
  else if k = 14 then pHeap T n x D else if k = 15 then pWalk T n x D else if k = 16 then pPrice T n x D else (gF T n 1 x, D) := fun _ k q => by
      unfold pLine
      dsimp only
      rw [q]
    have lk : s 1 1 = 0 → s 1 4 = 2 → (if eQ T n (kB T n x.2) = 2 then kwi (eW T n (kB T n x.2)) else -1 : Int) = s 1 8 := fun q q2 => by
      rw [if_pos (by rw [← hA q]; exact q2), hK q q2]
    have bad : s 1 1 = 0 → s 1 4 ≠ 1 → (i : Int) < 1000 → pLine T n x D = (gF T n 1 x, D) → ∀ m, m < N → zC m 899 [(((1 : Nat) : Int), 0), (1, 0)] s (fun p => zT (zE 1153) (Pt PX9_read) m (291, [((4 : Nat) : Int), ((t : Nat) : Int), (i : Int)], p.1 ++ [], p.2) (qRd s0 t T n (pAll T n (1000 - i) x D))) := fun q q2 q3 q4 m hm => by
      refine cFa (k' := 1) ht (by decide) h (fun s1 f1 h1 => ?_)
      refine b_X9_read_291 _ s1 ht (fun m2 hm2 => ?_)
      exact nxt q q2 q3 q4 m2 s1 (by omega) f1 h1
    have badk : s 1 1 = 0 → s 1 4 ≠ 1 → (i : Int) < 1000 → s 1 4 = 2 → (s 1 8 ≠ 0 ∧ s 1 8 ≠ 2 ∧ s 1 8 ≠ 5 ∧ s 1 8 ≠ 8 ∧ s 1 8 ≠ 12 ∧ s 1 8 ≠ 14 ∧ s 1 8 ≠ 15 ∧ s 1 8 ≠ 16) → ∀ m, m < N → zC m 899 [(((1 : Nat) : Int), 0), (1, 0)] s (fun p => zT (zE 1153) (Pt PX9_read) m (291, [((4 : Nat) : Int), ((t : Nat) : Int), (i : Int)], p.1 ++ [], p.2) (qRd s0 t T n (pAll T n (1000 - i) x D))) := fun q q2 q3 q4 q5 => by
      refine bad q q2 q3 ?_
      rw [ln q _ (lk q q4), if_neg q5.1, if_neg q5.2.1, if_neg q5.2.2.1, if_neg q5.2.2.2.1, if_neg q5.2.2.2.2.1, if_neg q5.2.2.2.2.2.1, if_neg q5.2.2.2.2.2.2.1, if_neg q5.2.2.2.2.2.2.2]
    have good : s 1 1 = 0 → s 1 4 = 2 → ∀ k : Int, s 1 8 = k → pLine T n x D = if k = 0 then pHouse T n x D else if k = 2 then pFlight T n x D else if k = 5 then pThing T n x D else if k = 8 then pPerson T n x D else if k = 12 then pHill T n x D
  else if k = 14 then pHeap T n x D else if k = 15 then pWalk T n x D else if k = 16 then pPrice T n x D else (gF T n 1 x, D) := fun q q2 k q3 => ln q k ((lk q q2).trans q3)
    refine b_X9_read_13 _ s ht (fun g1 m hm => ?_) (fun g1 g4 m hm => ?_) (fun g1 g6 g7 m hm => ?_) (fun g1 g9 g10 g14 m hm => ?_) (fun g1 g9 g10 g18 g19_0 m hm => ?_) (fun g1 g9 g10 g18 g19_1 m hm => ?_) (fun g1 g9 g10 g18 g19_2 m hm => ?_) (fun g1 g9 g10 g18 g19_3 m hm => ?_) (fun g1 g9 g10 g18 g19_4 m hm => ?_) (fun g1 g9 g10 g18 g19_5 m hm => ?_) (fun g1 g9 g10 g18 g19_6 m hm => ?_) (fun g1 g9 g10 g18 g19_7 m hm => ?_) (fun g1 g9 g10 g18 g19_8 m hm => ?_) (fun g1 g9 g10 g18 g19_9 m hm => ?_) (fun g1 g9 g10 g18 g19_10 m hm => ?_) (fun g1 g9 g10 g18 g19_11 m hm => ?_) (fun g1 g9 g10 g18 g19_12 m hm => ?_) (fun g1 g9 g10 g18 g19_13 m hm => ?_) (fun g1 g9 g10 g18 g19_14 g34 m hm => ?_) (fun g1 g9 g10 g18 g19_14 g34 m hm => ?_) (fun g1 g9 g10 g18 g19_15 g37 m hm => ?_) (fun g1 g9 g10 g18 g19_15 g37 m hm => ?_) (fun g1 g9 g10 g18 g19_16 m hm => ?_) (fun g1 g9 g10 g18 g19_0 g19_1 g19_2 g19_3 g19_4 g19_5 g19_6 g19_7 g19_8 g19_9 g19_10 g19_11 g19_12 g19_13 g19_14 g19_15 g19_16 m hm => ?_)
    · rw [hend (Or.inl (by omega))]; exact rd_end ht f h
    · rw [hend (Or.inr (fun q => g4 (h1.trans q.1)))]; exact rd_end ht f h
    · rw [hend (Or.inr (fun q => q.2 (by rw [← hA g6]; exact g7)))]; exact rd_end ht f h
    · refine bad g9 g10 g1 ?_ m hm
      rw [ln g9 (-1) (if_neg (fun q => g14 (by rw [hA g9]; exact q)))]
      rfl
    · have h0 : x.1 = 0 := by omega
      refine cHouse ht h0 h (fun s1 f1 h1' => ?_)
      refine b_X9_read_125 _ s1 ht (fun m2 hm2 => ?_)
      exact nxt g9 g10 g1 (good g9 g18 0 g19_0) m2 s1 (by omega) f1 h1'
    · exact badk g9 g10 g1 g18 ⟨by omega, by omega, by omega, by omega, by omega, by omega, by omega, by omega⟩ m hm
    · have h0 : x.1 = 0 := by omega
      refine cFlight ht h0 h (fun s1 f1 h1' => ?_)
      refine b_X9_read_133 _ s1 ht (fun m2 hm2 => ?_)
      exact nxt g9 g10 g1 (good g9 g18 2 g19_2) m2 s1 (by omega) f1 h1'
    · exact badk g9 g10 g1 g18 ⟨by omega, by omega, by omega, by omega, by omega, by omega, by omega, by omega⟩ m hm
    · exact badk g9 g10 g1 g18 ⟨by omega, by omega, by omega, by omega, by omega, by omega, by omega, by omega⟩ m hm
    · have h0 : x.1 = 0 := by omega
      refine cThing ht h0 h (fun s1 f1 h1' => ?_)
      refine b_X9_read_141 _ s1 ht (fun m2 hm2 => ?_)
      exact nxt g9 g10 g1 (good g9 g18 5 g19_5) m2 s1 (by omega) f1 h1'
    · exact badk g9 g10 g1 g18 ⟨by omega, by omega, by omega, by omega, by omega, by omega, by omega, by omega⟩ m hm
    · exact badk g9 g10 g1 g18 ⟨by omega, by omega, by omega, by omega, by omega, by omega, by omega, by omega⟩ m hm
    · have h0 : x.1 = 0 := by omega
      refine cPerson ht h0 h (fun s1 f1 h1' => ?_)
      refine b_X9_read_149 _ s1 ht (fun m2 hm2 => ?_)
      exact nxt g9 g10 g1 (good g9 g18 8 g19_8) m2 s1 (by omega) f1 h1'
    · exact badk g9 g10 g1 g18 ⟨by omega, by omega, by omega, by omega, by omega, by omega, by omega, by omega⟩ m hm
    · exact badk g9 g10 g1 g18 ⟨by omega, by omega, by omega, by omega, by omega, by omega, by omega, by omega⟩ m hm
    · exact badk g9 g10 g1 g18 ⟨by omega, by omega, by omega, by omega, by omega, by omega, by omega, by omega⟩ m hm
    · have h0 : x.1 = 0 := by omega
      refine cHill ht h0 h (fun s1 f1 h1' => ?_)
      refine b_X9_read_157 _ s1 ht (fun m2 hm2 => ?_)
      exact nxt g9 g10 g1 (good g9 g18 12 g19_12) m2 s1 (by omega) f1 h1'
    · exact badk g9 g10 g1 g18 ⟨by omega, by omega, by omega, by omega, by omega, by omega, by omega, by omega⟩ m hm
    · have h0 : x.1 = 0 := by omega
      have hd := (h.2.2.2.1 h0).1
      refine cHeap ht h0 ⟨fun _ => decide_eq_false (fun q => q (hd.symm.trans g34)), fun _ => rfl⟩ h (fun m2 s1 hm2 f1 h1' => ?_)
      exact nxt g9 g10 g1 (good g9 g18 14 g19_14) m2 s1 (by omega) f1 h1'
    · have h0 : x.1 = 0 := by omega
      have hd := (h.2.2.2.1 h0).1
      refine cHeap ht h0 ⟨fun q => absurd q (by decide), fun q => absurd (hd.trans (Decidable.byContradiction (of_decide_eq_false q))) g34⟩ h (fun m2 s1 hm2 f1 h1' => ?_)
      exact nxt g9 g10 g1 (good g9 g18 14 g19_14) m2 s1 (by omega) f1 h1'
    · have h0 : x.1 = 0 := by omega
      have hd := (h.2.2.2.1 h0).2.1
      refine cWalk ht h0 ⟨fun _ => decide_eq_false (fun q => q (hd.symm.trans g37)), fun _ => rfl⟩ h (fun m2 s1 hm2 f1 h1' => ?_)
      exact nxt g9 g10 g1 (good g9 g18 15 g19_15) m2 s1 (by omega) f1 h1'
    · have h0 : x.1 = 0 := by omega
      have hd := (h.2.2.2.1 h0).2.1
      refine cWalk ht h0 ⟨fun q => absurd q (by decide), fun q => absurd (hd.trans (Decidable.byContradiction (of_decide_eq_false q))) g37⟩ h (fun m2 s1 hm2 f1 h1' => ?_)
      exact nxt g9 g10 g1 (good g9 g18 15 g19_15) m2 s1 (by omega) f1 h1'
    · have h0 : x.1 = 0 := by omega
      refine cPrice ht h0 h (fun m2 s1 hm2 f1 h1' => ?_)
      exact nxt g9 g10 g1 (good g9 g18 16 g19_16) m2 s1 (by omega) f1 h1'
    · exact badk g9 g10 g1 g18 ⟨by omega, by omega, by omega, by omega, by omega, by omega, by omega, by omega⟩ m hm
theorem read_ok (ht : t = 7 ∨ t = 43) (h : tkS s T n) (hz : zM s) : zC N 1153 [(((4 : Nat) : Int), 0), (((t : Nat) : Int), 0)] s (qRd s t T n (pAll T n 1000 (0, 0) d0)) := by
  refine c_X9_read (b_X9_read_0 _ s ht (fun m hm => ?_))
  refine zC_q (clear_ok ht) (fun r hr => ?_)
  obtain ⟨r1, s1⟩ := r
  obtain ⟨e, f1, a1, a2, a3⟩ := hr
  have e : r1 = [] := e
  subst e
  have f1 : frT t s s1 := f1
  have a1 : cDn s1 t d0 := a1
  have a2 : cDh s1 t d0 := a2
  refine b_X9_read_4 _ s1 ht (fun m hm => ?_)
  refine zC_q (begin_ok (frT_S ht f1 h)) (fun r hr => ?_)
  obtain ⟨r1, s2⟩ := r
  obtain ⟨e, f2, p2⟩ := hr
  have e : r1 = [] := e
  subst e
  have f2 : frF s1 s2 := f2
  refine b_X9_read_11 _ s2 ht ?_
  exact rd_loop ht m 0 (0, 0) d0 s2 (by omega) (frT_tr f1 (frT_F f2)) ⟨p2, cDn_F ht f2 a1, wD_0, fun _ => cDh_F ht f2 a2, fun j => by rw [show s2 1000 j = s1 1000 j from f2 1000 j (by omega), f1 1000 j (by omega) (by omega)]; exact hz j⟩
end Zrw
