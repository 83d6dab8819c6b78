/-! a town told anew: how it stands then -/
theorem pow_all {k : Nat} (hk : k ≤ 10) : w32 (zshl 1 ((k : Nat) : Int) - 1) = ((2 ^ k - 1 : Nat) : Int) := by
  have b : 2 ^ k ≤ 2 ^ 10 := Nat.pow_le_pow_right (by decide) hk
  have b2 : 2 ^ 10 = 1024 := by decide
  have b3 := Nat.two_pow_pos k
  rw [zshl_1 k (by omega), w32_id (by omega) (by omega)]
  omega
section Zt81
variable {N t n : Nat} {s : Zs} {D : ZD} {T : Nat → Int}
theorem begin_c (ht : t = 7 ∨ t = 43) (hd : cDn s t D) (hw : wD D) (hh : s t 5 = dHeap D) : zC N 768 [(((79 : Nat) : Int), 0), (((t : Nat) : Int), 0)] s (fun r => r.1 = [] ∧ (∀ c j, ¬ (79 ≤ c ∧ c ≤ 81) → r.2 c j = s c j) ∧ cSt r.2 79 D (begT D)) := by
  have h10 : cnt D 1 ≤ 10 := hw.1 1 (by omega)
  have h5 : cnt D 3 ≤ 5 := hw.1 3 (by omega)
  have h4 : cnt D 2 ≤ 4 := hw.1 2 (by omega)
  have hc : s (t + 1) 1 = ((cnt D 1 : Nat) : Int) := hd.1 1 (by omega)
  have p0 : ∀ p, p < cnt D 3 → s (zrho (t + 23) p) 0 = colD D 30 p := fun p hp => by rw [zrow3 ht (by omega)]; exact cDn_col hd hw (k := 3) (j := 0) (by omega) (by omega) (by decide) hp
  have q0 : ∀ p, p < cnt D 2 → s (zrho (t + 17) p) 1 = colD D 21 p := fun p hp => by rw [zrow2 ht (by omega)]; exact cDn_col hd hw (k := 2) (j := 1) (by omega) (by omega) (by decide) hp
  have rp : ∀ p, p < cnt D 3 → zrho (t + 23) p = t + 18 + p := fun p hp => zrow3 ht (by omega)
  have rq : ∀ p, p < cnt D 2 → zrho (t + 17) p = t + 13 + p := fun p hp => zrow2 ht (by omega)
  have l2 : ∀ (M k : Nat) (s1 : Zs), k ≤ 4 → (∀ c j, ¬ (79 ≤ c ∧ c ≤ 81) → s1 c j = s c j) → s1 79 0 = ((2 ^ cnt D 1 - 1 : Nat) : Int) → (∀ p, p < cnt D 3 → s1 80 p = colD D 30 p) → (∀ i, i < k → i < cnt D 2 → s1 81 i = colD D 21 i) → zT (zE 768) (Pt PX6_begin) M (41, [((79 : Nat) : Int), ((t : Nat) : Int), (k : Int)], [], s1) (fun r => r.1 = [] ∧ (∀ c j, ¬ (79 ≤ c ∧ c ≤ 81) → r.2 c j = s c j) ∧ cSt r.2 79 D (begT D)) := by
    intro M
    induction M using Nat.strongRecOn with
    | ind M ih =>
      intro k s1 hk f1 g0 g1 g2
      refine b_X6_begin_41 _ s1 ht (fun g => ?_) (fun g m hm => ?_)
      · have W : ∀ s9 : Zs, s9 = zu (zu (zu s1 79 3 (s1 t 5)) 79 4 0) 79 5 0 → (([], s9) : Zr).1 = [] ∧ (∀ c j, ¬ (79 ≤ c ∧ c ≤ 81) → (([], s9) : Zr).2 c j = s c j) ∧ cSt (([], s9) : Zr).2 79 D (begT D) := fun s9 e9 => by
          have f9 : ∀ c j, ¬ (c = 79 ∧ (j = 3 ∨ j = 4 ∨ j = 5)) → s9 c j = s1 c j := fun c j hc => by rw [e9, zu_n (by omega), zu_n (by omega), zu_n (by omega)]
          refine ⟨rfl, fun c j hc => (f9 c j (by omega)).trans (f1 c j hc), (f9 _ _ (by omega)).trans g0, fun p hp => (f9 _ _ (by omega)).trans (g1 p hp), fun i hi => (f9 _ _ (by omega)).trans (g2 i (by omega) hi), ?_, ?_⟩
          · show s9 79 3 = dHeap D
            rw [e9, zu_n (by omega), zu_n (by omega), zu_eq, f1 t 5 (by omega)]; exact hh
          · show s9 79 4 = 0
            rw [e9, zu_n (by omega), zu_eq]
        exact W _ rfl
      · rw [w32_id (by omega) (by omega), show (k : Int) + 1 = ((k + 1 : Nat) : Int) from by omega, Int.toNat_natCast]
        refine ih m hm (k + 1) _ (by omega) (fun c j hc => by rw [zu_n (by omega)]; exact f1 c j hc) (by rw [zu_n (by omega)]; exact g0) (fun p hp => by rw [zu_n (by omega)]; exact g1 p hp) (fun i hi hi2 => ?_)
        by_cases q : i = k
        · have hk2 : k < cnt D 2 := by omega
          rw [q, zu_eq, f1 _ _ (by rw [rq k hk2]; omega)]
          exact q0 k hk2
        · rw [zu_n (by omega)]; exact g2 i (by omega) hi2
  have l1 : ∀ (M k : Nat) (s1 : Zs), k ≤ 5 → (∀ c j, ¬ (79 ≤ c ∧ c ≤ 81) → s1 c j = s c j) → s1 79 0 = ((2 ^ cnt D 1 - 1 : Nat) : Int) → (∀ p, p < k → p < cnt D 3 → s1 80 p = colD D 30 p) → zT (zE 768) (Pt PX6_begin) M (10, [((79 : Nat) : Int), ((t : Nat) : Int), (k : Int)], [], s1) (fun r => r.1 = [] ∧ (∀ c j, ¬ (79 ≤ c ∧ c ≤ 81) → r.2 c j = s c j) ∧ cSt r.2 79 D (begT D)) := by
    intro M
    induction M using Nat.strongRecOn with
    | ind M ih =>
      intro k s1 hk f1 g0 g1
      refine b_X6_begin_10 _ s1 ht (fun g => l2 M 0 s1 (by omega) f1 g0 (fun p hp => g1 p (by omega) hp) (fun i hi => absurd hi (Nat.not_lt_zero i))) (fun g m hm => ?_)
      rw [w32_id (by omega) (by omega), show (k : Int) + 1 = ((k + 1 : Nat) : Int) from by omega, Int.toNat_natCast]
      refine ih m hm (k + 1) _ (by omega) (fun c j hc => by rw [zu_n (by omega)]; exact f1 c j hc) (by rw [zu_n (by omega)]; exact g0) (fun i hi hi2 => ?_)
      by_cases q : i = k
      · have hk2 : k < cnt D 3 := by omega
        rw [q, zu_eq, f1 _ _ (by rw [rp k hk2]; omega)]
        exact p0 k hk2
      · rw [zu_n (by omega)]; exact g1 i (by omega) hi2
  refine c_X6_begin (b_X6_begin_0 _ s ht (fun m _ => ?_))
  refine c_X8_all (b_X8_all_0 s ht ?_)
  rw [hc, pow_all h10]
  refine b_X6_begin_5 _ _ s ht (l1 m 0 _ (by omega) (fun c j hc => zu_n (by omega)) (zu_eq _ _ _ _) (fun p hp => absurd hp (Nat.not_lt_zero p)))
theorem freshE (hm : mT s D) (hw : wD D) (hh : s 174 5 = dHeap D) : zC N 1440 [(((172 : Nat) : Int), 0)] s (fun r => r.1 = [] ∧ (∀ c j, c ≠ 216 → r.2 c j = s c j) ∧ mSt r.2 216 0 D (begT D)) := by
  have h10 : cnt D 1 ≤ 10 := hw.1 1 (by omega)
  have h5 : cnt D 3 ≤ 5 := hw.1 3 (by omega)
  have h4 : cnt D 2 ≤ 4 := hw.1 2 (by omega)
  have c1 : s 174 1 = ((cnt D 1 : Nat) : Int) := hm.1 1 (by omega)
  have c3 : s 174 3 = ((cnt D 3 : Nat) : Int) := hm.1 3 (by omega)
  have c2 : s 174 2 = ((cnt D 2 : Nat) : Int) := hm.1 2 (by omega)
  have p0 : ∀ p, p < cnt D 3 → s 186 p = colD D 30 p := fun p hp => mcol hm hw (k := 3) (j := 0) (by omega) (by omega) (by decide) (by decide) hp
  have q0 : ∀ p, p < cnt D 2 → s 185 p = colD D 21 p := fun p hp => mcol hm hw (k := 2) (j := 1) (by omega) (by omega) (by decide) (by decide) hp
  have l3 : ∀ (M k : Nat) (s1 : Zs), k ≤ cnt D 2 → (∀ c j, c ≠ 216 → s1 c j = s c j) → s1 216 0 = ((2 ^ cnt D 1 - 1 : Nat) : Int) → s1 216 11 = 0 → (∀ p, p < cnt D 3 → s1 216 (1 + p) = colD D 30 p) → (∀ i, i < k → s1 216 (6 + i) = colD D 21 i) → zT (zE 1440) (Pt PX11_fresh) M (65, [((172 : Nat) : Int), (k : Int)], [], s1) (fun r => r.1 = [] ∧ (∀ c j, c ≠ 216 → r.2 c j = s c j) ∧ mSt r.2 216 0 D (begT D)) := by
    intro M
    induction M using Nat.strongRecOn with
    | ind M ih =>
      intro k s1 hk f1 g0 g11 g1 g2
      refine b_X11_fresh_65 _ s1 (fun g => ?_) (fun g m hm' => ?_)
      · rw [f1 _ _ (by omega), c2] at g
        have W : ∀ s9 : Zs, s9 = zu s1 216 10 (s1 174 5) → (([], s9) : Zr).1 = [] ∧ (∀ c j, c ≠ 216 → (([], s9) : Zr).2 c j = s c j) ∧ mSt (([], s9) : Zr).2 216 0 D (begT D) := fun s9 e9 => by
          have f9 : ∀ c j, ¬ (c = 216 ∧ j = 10) → s9 c j = s1 c j := fun c j hc => by rw [e9, zu_n hc]
          refine ⟨rfl, fun c j hc => (f9 c j (by omega)).trans (f1 c j hc), (f9 _ _ (by omega)).trans g0, fun p hp => ?_, fun i hi => ?_, ?_, (f9 _ _ (by omega)).trans g11⟩
          · show s9 216 (0 + 1 + p) = _
            rw [Nat.zero_add, f9 _ _ (by omega)]; exact g1 p hp
          · show s9 216 (0 + 6 + i) = _
            rw [Nat.zero_add, f9 _ _ (by omega)]; exact g2 i (by omega)
          · show s9 216 10 = dHeap D
            rw [e9, zu_eq, f1 _ _ (by omega)]; exact hh
        exact W _ rfl
      · rw [f1 _ _ (by omega), c2] at g
        have e1 : w32 ((k : Int) + 1) = ((k + 1 : Nat) : Int) := by rw [w32_id (by omega) (by omega)]; omega
        have e6 : (w32 (6 + (k : Int))).toNat = 6 + k := by clear e1; rw [w32_id (by omega) (by omega)]; omega
        rw [e6, e1, Int.toNat_natCast]
        clear e1 e6
        refine ih m hm' (k + 1) _ (by omega) (fun c j hc => by rw [zu_n (by omega)]; exact f1 c j hc) (by rw [zu_n (by omega)]; exact g0) (by rw [zu_n (by omega)]; exact g11) (fun p hp => by rw [zu_n (by omega)]; exact g1 p hp) (fun i hi => ?_)
        by_cases q : i = k
        · rw [q, zu_eq, f1 _ _ (by omega)]
          exact q0 k (by omega)
        · rw [zu_n (by omega)]; exact g2 i (by omega)
  have l2 : ∀ (M k : Nat) (s1 : Zs), k ≤ cnt D 3 → (∀ c j, c ≠ 216 → s1 c j = s c j) → s1 216 0 = ((2 ^ cnt D 1 - 1 : Nat) : Int) → s1 216 11 = 0 → (∀ p, p < k → s1 216 (1 + p) = colD D 30 p) → zT (zE 1440) (Pt PX11_fresh) M (33, [((172 : Nat) : Int), (k : Int)], [], s1) (fun r => r.1 = [] ∧ (∀ c j, c ≠ 216 → r.2 c j = s c j) ∧ mSt r.2 216 0 D (begT D)) := by
    intro M
    induction M using Nat.strongRecOn with
    | ind M ih =>
      intro k s1 hk f1 g0 g11 g1
      refine b_X11_fresh_33 _ s1 (fun g => ?_) (fun g m hm' => ?_)
      all_goals rw [f1 _ _ (by omega), c3] at g
      · exact l3 M 0 s1 (by omega) f1 g0 g11 (fun p hp => g1 p (by omega)) (fun i hi => absurd hi (Nat.not_lt_zero i))
      · have e1 : w32 ((k : Int) + 1) = ((k + 1 : Nat) : Int) := by rw [w32_id (by omega) (by omega)]; omega
        have e6 : (w32 (1 + (k : Int))).toNat = 1 + k := by clear e1; rw [w32_id (by omega) (by omega)]; omega
        rw [e6, e1, Int.toNat_natCast]
        clear e1 e6
        refine ih m hm' (k + 1) _ (by omega) (fun c j hc => by rw [zu_n (by omega)]; exact f1 c j hc) (by rw [zu_n (by omega)]; exact g0) (by rw [zu_n (by omega)]; exact g11) (fun i hi => ?_)
        by_cases q : i = k
        · rw [q, zu_eq, f1 _ _ (by omega)]
          exact p0 k (by omega)
        · rw [zu_n (by omega)]; exact g1 i (by omega)
  have l1 : ∀ (M k : Nat) (s1 : Zs), k ≤ 13 → (∀ c j, c ≠ 216 → s1 c j = s c j) → (∀ i, i < k → s1 216 i = 0) → zT (zE 1440) (Pt PX11_fresh) M (2, [((172 : Nat) : Int), (k : Int)], [], s1) (fun r => r.1 = [] ∧ (∀ c j, c ≠ 216 → r.2 c j = s c j) ∧ mSt r.2 216 0 D (begT D)) := by
    intro M
    induction M using Nat.strongRecOn with
    | ind M ih =>
      intro k s1 hk f1 g1
      refine b_X11_fresh_2 _ s1 (fun g m hm' => ?_) (fun g m hm' => ?_)
      · refine c_X11_allFlights (b_X11_allFlights_0 s1 ?_)
        rw [f1 _ _ (by omega), c1, pow_all h10]
        refine b_X11_fresh_30 _ _ s1 (l2 m 0 _ (by omega) (fun c j hc => by rw [zu_n (by omega)]; exact f1 c j hc) (zu_eq _ _ _ _) (by rw [zu_n (by omega)]; exact g1 11 (by omega)) (fun p hp => absurd hp (Nat.not_lt_zero p)))
      · rw [w32_id (by omega) (by omega), show (k : Int) + 1 = ((k + 1 : Nat) : Int) from by omega, Int.toNat_natCast]
        refine ih m hm' (k + 1) _ (by omega) (fun c j hc => by rw [zu_n (by omega)]; exact f1 c j hc) (fun i hi => ?_)
        by_cases q : i = k
        · rw [q, zu_eq]
        · rw [zu_n (by omega)]; exact g1 i (by omega)
  exact c_X11_fresh (b_X11_fresh_0 _ s (l1 N 0 s (by omega) (fun _ _ _ => rfl) (fun i hi => absurd hi (Nat.not_lt_zero i))))
/-- town of the model, and how it stands then -/
def qFm (s : Zs) (a : PS × ZD) (r : Zr) : Prop := r.1 = [(a.1.1, 0)] ∧ r.2 172 1 = 0 ∧ (a.1.1 ≠ 0 → (∀ c j, 174 ≤ c → c ≤ 191 → j < hbf c → r.2 c j = s c j) ∧ (∀ c j, 207 ≤ c → r.2 c j = s c j) ∧ r.2 172 60 = s 172 60) ∧ (a.1.1 = 0 → mT r.2 a.2 ∧ wD a.2 ∧ wF a.2 ∧ r.2 174 5 = dHeap (clD a.2) ∧ r.2 174 6 = dWalk (clD a.2) ∧ mSt r.2 216 0 (clD a.2) (begT (clD a.2)) ∧ r.2 172 60 = 0 ∧ (∀ k, k < 4 → r.2 220 k = 0) ∧ r.2 207 0 = 0 ∧ r.2 212 0 = 0)
theorem townF_m (h1 : s 172 1 = (n : Int)) (hn : n ≤ 1000) (hT : ∀ i, i < n → s 173 i = T i) : zC N 1521 [(((172 : Nat) : Int), 0)] s (qFm s (pAll T n 1000 (0, 0) d0)) := by
  refine c_X11_town (b_X11_town_0 _ s (fun m hm => ?_))
  refine zC_q (readsAll_ok (T := T) (n := n) (by rw [zu_n (by omega)]; exact h1) hn (fun i hi => by rw [zu_n (by omega)]; exact hT i hi)) (fun r hr => ?_)
  obtain ⟨r1, s1⟩ := r
  obtain ⟨e, t, a, b⟩ := hr
  generalize pAll T n 1000 (0, 0) d0 = y at e a b ⊢
  have e : r1 = [(if y.1.1 = 0 then 1 else 0, 0)] := e
  subst e
  have t : frH (zu (zu s 172 0 0) 172 1 0) s1 := t
  have t1 : s1 172 1 = 0 := t.1.trans (zu_eq _ _ _ _)
  have t2 : ∀ c j, 174 ≤ c → c ≤ 191 → j < hbf c → s1 c j = s c j := fun c j u v w => by
    rw [t.2.1 c j u v w, zu_n (by omega), zu_n (by omega)]
  have t3 : ∀ c j, 207 ≤ c → s1 c j = s c j := fun c j u => by
    rw [t.2.2.1 c j u, zu_n (by omega), zu_n (by omega)]
  have t4 : s1 172 60 = s 172 60 := by
    rw [t.2.2.2, zu_n (by omega), zu_n (by omega)]
  refine b_X11_town_9 _ _ s1 (fun g m1 hm1 => ?_) (fun g => ?_)
  · have hy : y.1.1 = 0 := Decidable.byContradiction fun c => g (if_neg c)
    have P : mP s1 T n y.1.2 y.2 := a hy
    have dh := P.2.2.2.2
    refine zC_q laysE (fun r hr => ?_)
    obtain ⟨r1, s2⟩ := r
    obtain ⟨e, f2, g2⟩ := hr
    have e : r1 = [] := e
    subst e
    have f2 : ∀ c j, 174 ≤ c → c ≤ 191 → j < hbf c → s2 c j = s1 c (hbf c + j) := f2
    have g2 : ∀ c j, ¬ (174 ≤ c ∧ c ≤ 194) → s2 c j = s1 c j := g2
    have T2 : mT s2 (clD y.2) := mT_lay (D := y.2) P.2.1 P.2.2.1 f2
    have w2 : wD (clD y.2) := P.2.2.1
    have h5 : s2 174 5 = dHeap (clD y.2) := (f2 174 5 (by omega) (by omega) (by decide)).trans dh.2.1
    have h6 : s2 174 6 = dWalk (clD y.2) := (f2 174 6 (by omega) (by omega) (by decide)).trans dh.2.2.1
    refine b_X11_town_21 _ s2 (fun m2 hm2 => ?_)
    refine zC_q (freshE T2 w2 h5) (fun r hr => ?_)
    obtain ⟨r1, s3⟩ := r
    obtain ⟨e, f3, S3⟩ := hr
    have e : r1 = [] := e
    subst e
    have f3 : ∀ c j, c ≠ 216 → s3 c j = s2 c j := f3
    have S3 : mSt s3 216 0 (clD y.2) (begT (clD y.2)) := S3
    have loop : ∀ (M k : Nat) (s4 : Zs), (∀ c j, (c ≤ 191 ∨ c = 216) → ¬ (c = 172 ∧ j = 60) → s4 c j = s3 c j) → s4 172 60 = 0 → s4 207 0 = 0 → s4 212 0 = 0 → (∀ i, i < k → s4 220 i = 0) → zT (zE 1521) (Pt PX11_town) M (46, [((172 : Nat) : Int), (k : Int)], [], s4) (qFm s y) := by
      intro M
      induction M using Nat.strongRecOn with
      | ind M ih =>
        intro k s4 h z1 z2 z3 z4
        refine b_X11_town_46 _ s4 (fun g4 => ⟨by rw [hy], ?_, fun q => absurd hy q, fun _ => ⟨mT_e (fun c j u v => (h c j (by omega) (by omega)).trans (f3 c j (by omega))) T2, w2, P.2.2.2.1, ?_, ?_, mSt_e S3 (fun j => h _ _ (by omega) (by omega)), z1, fun i hi => z4 i (by omega), z2, z3⟩⟩) (fun g4 m hm => ?_)
        · show s4 172 1 = 0
          rw [h 172 1 (by omega) (by omega), f3 172 1 (by omega), g2 172 1 (by omega)]; exact t1
        · show s4 174 5 = _
          rw [h 174 5 (by omega) (by omega), f3 174 5 (by omega)]; exact h5
        · show s4 174 6 = _
          rw [h 174 6 (by omega) (by omega), f3 174 6 (by omega)]; exact h6
        · rw [w32_id (by omega) (by omega), show (k : Int) + 1 = ((k + 1 : Nat) : Int) from by omega, Int.toNat_natCast]
          refine ih m hm (k + 1) _ (fun c j hc hd => by rw [zu_n (by omega)]; exact h c j hc hd) (by rw [zu_n (by omega)]; exact z1) (by rw [zu_n (by omega)]; exact z2) (by rw [zu_n (by omega)]; exact z3) (fun i hi => ?_)
          by_cases q : i = k
          · rw [q, zu_eq]; rfl
          · rw [zu_n (by omega)]; exact z4 i (by omega)
    refine b_X11_town_25 _ s3 (loop _ 0 _ (fun c j hc hd => by rw [zu_n (by omega), zu_n (by omega), zu_n (by omega)]) (zu_eq _ _ _ _) ?_ ?_ (fun i hi => absurd hi (Nat.not_lt_zero i)))
    · rw [zu_n (by omega), zu_n (by omega), zu_eq]
    · rw [zu_n (by omega), zu_eq]
  · have hy : y.1.1 ≠ 0 := fun c => by rw [if_pos c] at g; exact absurd g (by decide)
    refine ⟨?_, t1, fun _ => ⟨t2, t3, t4⟩, fun q => absurd q hy⟩
    show [(s1 172 9, 0)] = [(y.1.1, 0)]
    have b9 : s1 172 9 = y.1.1 := b hy
    rw [b9]
/-- town of the class, and how it stands then -/
def qFc (s : Zs) (t : Nat) (a : PS × ZD) (r : Zr) : Prop := qTc s t a r ∧ (a.1.1 = 0 → cSt r.2 79 (clD a.2) (begT (clD a.2)) ∧ r.2 88 0 = 0 ∧ r.2 88 1 = s 88 1 ∧ r.2 0 11 = 0 ∧ r.2 85 1 = 0 ∧ r.2 85 2 = 0)
theorem townF_c {t : Nat} (ht' : t = 7 ∨ t = 43) (et : s 0 4 = ((t : Nat) : Int)) (h : tkS s T n) (hz : zM s) : zC N 1318 [(((0 : Nat) : Int), 0)] s (qFc s t (pAll T n 1000 (0, 0) d0)) := by
  refine c_X10_town (b_X10_town_0 _ _ s (fun m hm => ?_))
  rw [et]
  refine zC_q (readE_ok (T := T) (n := n) ht' h hz) (fun r hr => ?_)
  obtain ⟨r1, s1⟩ := r
  generalize pAll T n 1000 (0, 0) d0 = y at hr ⊢
  obtain ⟨e, f1, -, a⟩ := hr
  have e : r1 = [(y.1.1, 0)] := e
  subst e
  have f1 : frT t s s1 := f1
  have z0 : ∀ j, s1 0 j = s 0 j := fun j => f1 0 j (by omega) (by omega)
  have z3 : ∀ j, s1 3 j = s 3 j := fun j => f1 3 j (by omega) (by omega)
  refine b_X10_town_11 _ _ _ s1 (fun g => ?_) (fun g m1 hm1 => ?_)
  · refine ⟨⟨rfl, zu_eq s1 1 0 0, fun j => ?_, fun _ c j hc hd => ?_, fun q => absurd q g⟩, fun q => absurd q g⟩
    · show zu s1 1 0 0 3 j = _; rw [zu_n (by omega)]; exact z3 j
    · show zu s1 1 0 0 c j = _; rw [zu_n (by omega)]; exact f1 c j (by omega) hd
  · obtain ⟨a1, a2, a3, a4⟩ := a g
    have a1 : cDn s1 t y.2 := a1
    have a3 : cDh s1 t (clD y.2) := a3
    have a4 : ∀ f : Nat, f < cnt y.2 1 → s1 (t + 35) f = ((abv y.2 f : Nat) : Int) := a4
    rw [show s1 0 4 = ((t : Nat) : Int) from (z0 4).trans et]
    have k1 : ∀ c j, 2 ≤ c → zu (zu (zu s1 1 0 0) 0 3 ((t : Nat) : Int)) 0 4 (s1 0 3) c j = s1 c j := fun c j hc => by rw [zu_n (by omega), zu_n (by omega), zu_n (by omega)]
    refine zC_q (begin_c (D := clD y.2) ht' (cDn_e (D := clD y.2) a1 a2 (fun c j hc => k1 c j (by omega))) a2 ((k1 _ _ (by omega)).trans a3.1)) (fun r hr => ?_)
    obtain ⟨r1, s2⟩ := r
    obtain ⟨e, f2, S2⟩ := hr
    have e : r1 = [] := e
    subst e
    have f2 : ∀ c j, ¬ (79 ≤ c ∧ c ≤ 81) → s2 c j = zu (zu (zu s1 1 0 0) 0 3 ((t : Nat) : Int)) 0 4 (s1 0 3) c j := f2
    have S2 : cSt s2 79 (clD y.2) (begT (clD y.2)) := S2
    refine b_X10_town_53 _ _ s2 (fun m2 hm2 => ?_)
    refine c_X5_clear (b_X5_clear_0 s2 ?_)
    refine b_X10_town_60 _ _ _ (fun m3 hm3 => ?_)
    refine c_X1_clear (b_X1_clear_0 _ ?_)
    refine b_X10_town_67 _ _ _ ?_
    have W : ∀ s9 : Zs, s9 = zu (zu (zu (zu (zu s2 85 1 0) 85 2 0) 85 4 0) 88 0 0) 0 11 0 → qFc s t y ([(y.1.1, 0)], s9) := fun s9 e9 => by
      have w : ∀ c j, ¬ (79 ≤ c ∧ c ≤ 88) → ¬ (c = 0 ∧ j = 11) → s9 c j = zu (zu (zu s1 1 0 0) 0 3 ((t : Nat) : Int)) 0 4 (s1 0 3) c j := fun c j a b => by
        rw [e9, zu_n (by omega), zu_n (by omega), zu_n (by omega), zu_n (by omega), zu_n (by omega)]
        exact f2 c j (by omega)
      have v : ∀ c j, t ≤ c → c ≤ t + 35 → s9 c j = s1 c j := fun c j a b => by
        rw [w c j (by omega) (by omega), zu_n (by omega), zu_n (by omega), zu_n (by omega)]
      have u : ∀ c j, 79 ≤ c → c ≤ 81 → s9 c j = s2 c j := fun c j a b => by
        rw [e9, zu_n (by omega), zu_n (by omega), zu_n (by omega), zu_n (by omega), zu_n (by omega)]
      refine ⟨⟨rfl, ?_, fun j => ?_, fun q => absurd g q, fun _ => ⟨?_, ?_, cDn_e a1 a2 (fun c j hc => v c j (by omega) (by omega)), a2, ?_, fun f hf => ?_⟩⟩, fun _ => ⟨cSt_e S2 (fun c j a b _ => u c j a (by omega)), ?_, ?_, ?_, ?_, ?_⟩⟩
      · refine (w 1 0 (by omega) (by omega)).trans ?_
        rw [zu_n (by omega), zu_n (by omega), zu_eq]
      · refine (w 3 j (by omega) (by omega)).trans ?_
        rw [zu_n (by omega), zu_n (by omega), zu_n (by omega)]; exact z3 j
      · refine (w 0 3 (by omega) (by omega)).trans ?_
        rw [zu_n (by omega), zu_eq]; exact et.symm
      · refine (w 0 4 (by omega) (by omega)).trans ?_
        rw [zu_eq]; exact z0 3
      · obtain ⟨b1, b2, b3, b4⟩ := a3
        unfold cDh
        dsimp only
        rw [v _ _ (by omega) (by omega), v _ _ (by omega) (by omega), v _ _ (by omega) (by omega)]
        exact ⟨b1, b2, b3, b4⟩
      · show s9 (t + 35) f = _
        rw [v _ _ (by omega) (by omega)]
        exact a4 f hf
      · show s9 88 0 = 0
        rw [e9, zu_n (by omega), zu_eq]
      · show s9 88 1 = _
        rw [e9, zu_n (by omega), zu_n (by omega), zu_n (by omega), zu_n (by omega), zu_n (by omega), f2 _ _ (by omega), k1 _ _ (by omega)]
        exact f1 _ _ (by omega) (by omega)
      · show s9 0 11 = 0
        rw [e9, zu_eq]
      · show s9 85 1 = 0
        rw [e9, zu_n (by omega), zu_n (by omega), zu_n (by omega), zu_n (by omega), zu_eq]
      · show s9 85 2 = 0
        rw [e9, zu_n (by omega), zu_n (by omega), zu_n (by omega), zu_eq]
    exact W _ rfl
end Zt81
