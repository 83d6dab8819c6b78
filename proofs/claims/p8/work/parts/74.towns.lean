/-! town of both, with what it tells -/
section Zt4
variable {N : Nat} {s : Zs} {T : Nat → Int} {n : Nat} {D : ZD}
theorem movesE {c n : Nat} (hn : n ≤ 1000) : zC N 1473 [((c : Int), 0), ((n : Int), 0)] s (fun r => r.1 = [] ∧ (∀ j : Nat, j < n → r.2 c j = s c (n + j)) ∧ ∀ d j, ¬ (d = c ∧ j < n) → r.2 d j = s d j) := by
  have loop : ∀ (M k : Nat) (s1 : Zs), k ≤ n → (∀ j : Nat, j < k → s1 c j = s c (n + j)) → (∀ d j, ¬ (d = c ∧ j < k) → s1 d j = s d j) → zT (zE 1473) (Pt PX11_moves) M (2, [((c : Nat) : Int), (n : Int), (k : Int)], [], s1) (fun r => r.1 = [] ∧ (∀ j : Nat, j < n → r.2 c j = s c (n + j)) ∧ ∀ d j, ¬ (d = c ∧ j < n) → r.2 d j = s d j) := by
    intro M
    induction M using Nat.strongRecOn with
    | ind M ih =>
      intro k s1 hk h1 h2
      refine b_X11_moves_2 _ _ s1 (fun g => ?_) (fun g m hm => ?_)
      · have : k = n := by omega
        subst this
        exact ⟨rfl, h1, h2⟩
      · have e1 : (w32 ((n : Int) + (k : Int))).toNat = n + k := by rw [w32_id (by omega) (by omega)]; omega
        rw [e1, Int.toNat_natCast, w32_id (z := (k : Int) + 1) (by omega) (by omega), show (k : Int) + 1 = ((k + 1 : Nat) : Int) from by omega]
        refine ih m hm (k + 1) _ (by omega) (fun j hj => ?_) (fun d j hd => by rw [zu_n (by omega)]; exact h2 d j (by omega))
        by_cases e : j = k
        · rw [e, zu_eq]; exact h2 c _ (by omega)
        · rw [zu_n (by omega)]; exact h1 j (by omega)
  exact c_X11_moves (b_X11_moves_0 _ _ s (loop N 0 s (by omega) (fun j hj => absurd hj (Nat.not_lt_zero j)) (fun _ _ _ => rfl)))
theorem movesLE {c n : Nat} (hn : n ≤ 1000) : zC N 1474 [((c : Int), 0), ((n : Int), 0)] s (fun r => r.1 = [] ∧ (∀ j : Nat, j < n → r.2 c j = s c (n + j)) ∧ ∀ d j, ¬ (d = c ∧ j < n) → r.2 d j = s d j) := by
  have loop : ∀ (M k : Nat) (s1 : Zs), k ≤ n → (∀ j : Nat, j < k → s1 c j = s c (n + j)) → (∀ d j, ¬ (d = c ∧ j < k) → s1 d j = s d j) → zT (zE 1474) (Pt PX11_movesNames) M (2, [((c : Nat) : Int), (n : Int), (k : Int)], [], s1) (fun r => r.1 = [] ∧ (∀ j : Nat, j < n → r.2 c j = s c (n + j)) ∧ ∀ d j, ¬ (d = c ∧ j < n) → r.2 d j = s d j) := by
    intro M
    induction M using Nat.strongRecOn with
    | ind M ih =>
      intro k s1 hk h1 h2
      refine b_X11_movesNames_2 _ _ s1 (fun g => ?_) (fun g m hm => ?_)
      · have : k = n := by omega
        subst this
        exact ⟨rfl, h1, h2⟩
      · have e1 : (w32 ((n : Int) + (k : Int))).toNat = n + k := by rw [w32_id (by omega) (by omega)]; omega
        rw [e1, Int.toNat_natCast, w32_id (z := (k : Int) + 1) (by omega) (by omega), show (k : Int) + 1 = ((k + 1 : Nat) : Int) from by omega]
        refine ih m hm (k + 1) _ (by omega) (fun j hj => ?_) (fun d j hd => by rw [zu_n (by omega)]; exact h2 d j (by omega))
        by_cases e : j = k
        · rw [e, zu_eq]; exact h2 c _ (by omega)
        · rw [zu_n (by omega)]; exact h1 j (by omega)
  exact c_X11_movesNames (b_X11_movesNames_0 _ _ s (loop N 0 s (by omega) (fun j hj => absurd hj (Nat.not_lt_zero j)) (fun _ _ _ => rfl)))
/-- the halves moved so far -/
def mvd (s s' : Zs) (m : Nat) : Prop := ∀ c j, s' c j = if 174 ≤ c ∧ c < m ∧ j < hbf c then s c (hbf c + j) else s c j
theorem mv_0 : mvd s s 174 := fun c j => by rw [if_neg (by omega)]
theorem mv_step {s1 s2 : Zs} {m n : Nat} (h : mvd s s1 m) (hm : 174 ≤ m) (hn : hbf m = n) (e1 : ∀ j : Nat, j < n → s2 m j = s1 m (n + j)) (e2 : ∀ d j, ¬ (d = m ∧ j < n) → s2 d j = s1 d j) : mvd s s2 (m + 1) := fun c j => by
  by_cases hc : c = m
  · subst hc
    rw [hn]
    by_cases hj : j < n
    · rw [if_pos ⟨hm, by omega, hj⟩, e1 j hj, h c, if_neg (by omega)]
    · rw [if_neg (by omega), e2 c j (by omega), h c, if_neg (by omega)]
  · rw [e2 c j (by omega), h c j]
    by_cases q : 174 ≤ c ∧ c < m ∧ j < hbf c
    · rw [if_pos q, if_pos ⟨q.1, by omega, q.2.2⟩]
    · rw [if_neg q, if_neg (fun q2 => q ⟨q2.1, by omega, q2.2.2⟩)]
theorem laysE : zC N 1462 [(((172 : Nat) : Int), 0)] s (fun r => r.1 = [] ∧ (∀ c j, 174 ≤ c → c ≤ 191 → j < hbf c → r.2 c j = s c (hbf c + j)) ∧ ∀ c j, ¬ (174 ≤ c ∧ c ≤ 194) → r.2 c j = s c j) := by
  have W : ∀ {s18 : Zs} (s19 s20 : Zs), (∀ c j, c ≠ 194 → s19 c j = s18 c j) → mvd s s18 192 → s20 = zu (zu s19 192 0 (w32 (s19 192 1 - 1000))) 193 0 (w32 (s19 193 1 - 1000)) → (fun r : Zr => r.1 = [] ∧ (∀ c j, 174 ≤ c → c ≤ 191 → j < hbf c → r.2 c j = s c (hbf c + j)) ∧ ∀ c j, ¬ (174 ≤ c ∧ c ≤ 194) → r.2 c j = s c j) ([], s20) := fun {s18} s19 s20 f19 w18 e20 => by
    refine ⟨rfl, fun c j a b d => ?_, fun c j a => ?_⟩
    · show s20 c j = _
      rw [e20, zu_n (by omega), zu_n (by omega), f19 c j (by omega), w18 c j, if_pos ⟨a, by omega, d⟩]
    · show s20 c j = _
      rw [e20, zu_n (by omega), zu_n (by omega), f19 c j (by omega), w18 c j, if_neg (by omega)]
  refine c_X11_lays (b_X11_lays_0 s (fun m0 _ => ?_))
  refine zC_q (movesE (c := 174) (n := 7) (by omega)) (fun r hr => ?_)
  obtain ⟨r1, s1⟩ := r
  obtain ⟨e, e1, f1⟩ := hr
  have e : r1 = [] := e
  subst e
  have e1 : ∀ j : Nat, j < 7 → s1 174 j = s 174 (7 + j) := e1
  have f1 : ∀ d j, ¬ (d = 174 ∧ j < 7) → s1 d j = s d j := f1
  have w1 : mvd s s1 175 := mv_step mv_0 (by omega) (show hbf 174 = 7 from rfl) e1 f1
  refine b_X11_lays_9 s1 (fun m1 _ => ?_)
  refine zC_q (movesLE (c := 175) (n := 5) (by omega)) (fun r hr => ?_)
  obtain ⟨r1, s2⟩ := r
  obtain ⟨e, e2, f2⟩ := hr
  have e : r1 = [] := e
  subst e
  have e2 : ∀ j : Nat, j < 5 → s2 175 j = s1 175 (5 + j) := e2
  have f2 : ∀ d j, ¬ (d = 175 ∧ j < 5) → s2 d j = s1 d j := f2
  have w2 : mvd s s2 176 := mv_step w1 (by omega) (show hbf 175 = 5 from rfl) e2 f2
  refine b_X11_lays_17 s2 (fun m2 _ => ?_)
  refine zC_q (movesLE (c := 176) (n := 4) (by omega)) (fun r hr => ?_)
  obtain ⟨r1, s3⟩ := r
  obtain ⟨e, e3, f3⟩ := hr
  have e : r1 = [] := e
  subst e
  have e3 : ∀ j : Nat, j < 4 → s3 176 j = s2 176 (4 + j) := e3
  have f3 : ∀ d j, ¬ (d = 176 ∧ j < 4) → s3 d j = s2 d j := f3
  have w3 : mvd s s3 177 := mv_step w2 (by omega) (show hbf 176 = 4 from rfl) e3 f3
  refine b_X11_lays_25 s3 (fun m3 _ => ?_)
  refine zC_q (movesLE (c := 177) (n := 5) (by omega)) (fun r hr => ?_)
  obtain ⟨r1, s4⟩ := r
  obtain ⟨e, e4, f4⟩ := hr
  have e : r1 = [] := e
  subst e
  have e4 : ∀ j : Nat, j < 5 → s4 177 j = s3 177 (5 + j) := e4
  have f4 : ∀ d j, ¬ (d = 177 ∧ j < 5) → s4 d j = s3 d j := f4
  have w4 : mvd s s4 178 := mv_step w3 (by omega) (show hbf 177 = 5 from rfl) e4 f4
  refine b_X11_lays_33 s4 (fun m4 _ => ?_)
  refine zC_q (movesLE (c := 178) (n := 4) (by omega)) (fun r hr => ?_)
  obtain ⟨r1, s5⟩ := r
  obtain ⟨e, e5, f5⟩ := hr
  have e : r1 = [] := e
  subst e
  have e5 : ∀ j : Nat, j < 4 → s5 178 j = s4 178 (4 + j) := e5
  have f5 : ∀ d j, ¬ (d = 178 ∧ j < 4) → s5 d j = s4 d j := f5
  have w5 : mvd s s5 179 := mv_step w4 (by omega) (show hbf 178 = 4 from rfl) e5 f5
  refine b_X11_lays_41 s5 (fun m5 _ => ?_)
  refine zC_q (movesE (c := 179) (n := 5) (by omega)) (fun r hr => ?_)
  obtain ⟨r1, s6⟩ := r
  obtain ⟨e, e6, f6⟩ := hr
  have e : r1 = [] := e
  subst e
  have e6 : ∀ j : Nat, j < 5 → s6 179 j = s5 179 (5 + j) := e6
  have f6 : ∀ d j, ¬ (d = 179 ∧ j < 5) → s6 d j = s5 d j := f6
  have w6 : mvd s s6 180 := mv_step w5 (by omega) (show hbf 179 = 5 from rfl) e6 f6
  refine b_X11_lays_49 s6 (fun m6 _ => ?_)
  refine zC_q (movesE (c := 180) (n := 10) (by omega)) (fun r hr => ?_)
  obtain ⟨r1, s7⟩ := r
  obtain ⟨e, e7, f7⟩ := hr
  have e : r1 = [] := e
  subst e
  have e7 : ∀ j : Nat, j < 10 → s7 180 j = s6 180 (10 + j) := e7
  have f7 : ∀ d j, ¬ (d = 180 ∧ j < 10) → s7 d j = s6 d j := f7
  have w7 : mvd s s7 181 := mv_step w6 (by omega) (show hbf 180 = 10 from rfl) e7 f7
  refine b_X11_lays_58 s7 (fun m7 _ => ?_)
  refine zC_q (movesE (c := 181) (n := 10) (by omega)) (fun r hr => ?_)
  obtain ⟨r1, s8⟩ := r
  obtain ⟨e, e8, f8⟩ := hr
  have e : r1 = [] := e
  subst e
  have e8 : ∀ j : Nat, j < 10 → s8 181 j = s7 181 (10 + j) := e8
  have f8 : ∀ d j, ¬ (d = 181 ∧ j < 10) → s8 d j = s7 d j := f8
  have w8 : mvd s s8 182 := mv_step w7 (by omega) (show hbf 181 = 10 from rfl) e8 f8
  refine b_X11_lays_67 s8 (fun m8 _ => ?_)
  refine zC_q (movesE (c := 182) (n := 10) (by omega)) (fun r hr => ?_)
  obtain ⟨r1, s9⟩ := r
  obtain ⟨e, e9, f9⟩ := hr
  have e : r1 = [] := e
  subst e
  have e9 : ∀ j : Nat, j < 10 → s9 182 j = s8 182 (10 + j) := e9
  have f9 : ∀ d j, ¬ (d = 182 ∧ j < 10) → s9 d j = s8 d j := f9
  have w9 : mvd s s9 183 := mv_step w8 (by omega) (show hbf 182 = 10 from rfl) e9 f9
  refine b_X11_lays_76 s9 (fun m9 _ => ?_)
  refine zC_q (movesE (c := 183) (n := 10) (by omega)) (fun r hr => ?_)
  obtain ⟨r1, s10⟩ := r
  obtain ⟨e, e10, f10⟩ := hr
  have e : r1 = [] := e
  subst e
  have e10 : ∀ j : Nat, j < 10 → s10 183 j = s9 183 (10 + j) := e10
  have f10 : ∀ d j, ¬ (d = 183 ∧ j < 10) → s10 d j = s9 d j := f10
  have w10 : mvd s s10 184 := mv_step w9 (by omega) (show hbf 183 = 10 from rfl) e10 f10
  refine b_X11_lays_85 s10 (fun m10 _ => ?_)
  refine zC_q (movesE (c := 184) (n := 4) (by omega)) (fun r hr => ?_)
  obtain ⟨r1, s11⟩ := r
  obtain ⟨e, e11, f11⟩ := hr
  have e : r1 = [] := e
  subst e
  have e11 : ∀ j : Nat, j < 4 → s11 184 j = s10 184 (4 + j) := e11
  have f11 : ∀ d j, ¬ (d = 184 ∧ j < 4) → s11 d j = s10 d j := f11
  have w11 : mvd s s11 185 := mv_step w10 (by omega) (show hbf 184 = 4 from rfl) e11 f11
  refine b_X11_lays_93 s11 (fun m11 _ => ?_)
  refine zC_q (movesE (c := 185) (n := 4) (by omega)) (fun r hr => ?_)
  obtain ⟨r1, s12⟩ := r
  obtain ⟨e, e12, f12⟩ := hr
  have e : r1 = [] := e
  subst e
  have e12 : ∀ j : Nat, j < 4 → s12 185 j = s11 185 (4 + j) := e12
  have f12 : ∀ d j, ¬ (d = 185 ∧ j < 4) → s12 d j = s11 d j := f12
  have w12 : mvd s s12 186 := mv_step w11 (by omega) (show hbf 185 = 4 from rfl) e12 f12
  refine b_X11_lays_101 s12 (fun m12 _ => ?_)
  refine zC_q (movesE (c := 186) (n := 5) (by omega)) (fun r hr => ?_)
  obtain ⟨r1, s13⟩ := r
  obtain ⟨e, e13, f13⟩ := hr
  have e : r1 = [] := e
  subst e
  have e13 : ∀ j : Nat, j < 5 → s13 186 j = s12 186 (5 + j) := e13
  have f13 : ∀ d j, ¬ (d = 186 ∧ j < 5) → s13 d j = s12 d j := f13
  have w13 : mvd s s13 187 := mv_step w12 (by omega) (show hbf 186 = 5 from rfl) e13 f13
  refine b_X11_lays_109 s13 (fun m13 _ => ?_)
  refine zC_q (movesE (c := 187) (n := 5) (by omega)) (fun r hr => ?_)
  obtain ⟨r1, s14⟩ := r
  obtain ⟨e, e14, f14⟩ := hr
  have e : r1 = [] := e
  subst e
  have e14 : ∀ j : Nat, j < 5 → s14 187 j = s13 187 (5 + j) := e14
  have f14 : ∀ d j, ¬ (d = 187 ∧ j < 5) → s14 d j = s13 d j := f14
  have w14 : mvd s s14 188 := mv_step w13 (by omega) (show hbf 187 = 5 from rfl) e14 f14
  refine b_X11_lays_117 s14 (fun m14 _ => ?_)
  refine zC_q (movesE (c := 188) (n := 5) (by omega)) (fun r hr => ?_)
  obtain ⟨r1, s15⟩ := r
  obtain ⟨e, e15, f15⟩ := hr
  have e : r1 = [] := e
  subst e
  have e15 : ∀ j : Nat, j < 5 → s15 188 j = s14 188 (5 + j) := e15
  have f15 : ∀ d j, ¬ (d = 188 ∧ j < 5) → s15 d j = s14 d j := f15
  have w15 : mvd s s15 189 := mv_step w14 (by omega) (show hbf 188 = 5 from rfl) e15 f15
  refine b_X11_lays_125 s15 (fun m15 _ => ?_)
  refine zC_q (movesE (c := 189) (n := 5) (by omega)) (fun r hr => ?_)
  obtain ⟨r1, s16⟩ := r
  obtain ⟨e, e16, f16⟩ := hr
  have e : r1 = [] := e
  subst e
  have e16 : ∀ j : Nat, j < 5 → s16 189 j = s15 189 (5 + j) := e16
  have f16 : ∀ d j, ¬ (d = 189 ∧ j < 5) → s16 d j = s15 d j := f16
  have w16 : mvd s s16 190 := mv_step w15 (by omega) (show hbf 189 = 5 from rfl) e16 f16
  refine b_X11_lays_133 s16 (fun m16 _ => ?_)
  refine zC_q (movesE (c := 190) (n := 4) (by omega)) (fun r hr => ?_)
  obtain ⟨r1, s17⟩ := r
  obtain ⟨e, e17, f17⟩ := hr
  have e : r1 = [] := e
  subst e
  have e17 : ∀ j : Nat, j < 4 → s17 190 j = s16 190 (4 + j) := e17
  have f17 : ∀ d j, ¬ (d = 190 ∧ j < 4) → s17 d j = s16 d j := f17
  have w17 : mvd s s17 191 := mv_step w16 (by omega) (show hbf 190 = 4 from rfl) e17 f17
  refine b_X11_lays_141 s17 (fun m17 _ => ?_)
  refine zC_q (movesE (c := 191) (n := 4) (by omega)) (fun r hr => ?_)
  obtain ⟨r1, s18⟩ := r
  obtain ⟨e, e18, f18⟩ := hr
  have e : r1 = [] := e
  subst e
  have e18 : ∀ j : Nat, j < 4 → s18 191 j = s17 191 (4 + j) := e18
  have f18 : ∀ d j, ¬ (d = 191 ∧ j < 4) → s18 d j = s17 d j := f18
  have w18 : mvd s s18 192 := mv_step w17 (by omega) (show hbf 191 = 4 from rfl) e18 f18
  refine b_X11_lays_149 s18 (fun m18 _ => ?_)
  refine zC_q (movesE (c := 194) (n := 1000) (by omega)) (fun r hr => ?_)
  obtain ⟨r1, s19⟩ := r
  obtain ⟨e, e19, f19⟩ := hr
  have e : r1 = [] := e
  subst e
  have e19 : ∀ j : Nat, j < 1000 → s19 194 j = s18 194 (1000 + j) := e19
  have f19 : ∀ d j, ¬ (d = 194 ∧ j < 1000) → s19 d j = s18 d j := f19
  refine b_X11_lays_159 s19 (W s19 _ (fun c j hc => f19 c j (fun q => hc q.1)) w18 rfl)
theorem freshF : zC N 1440 [(((172 : Nat) : Int), 0)] s (fun r => r.1 = [] ∧ ∀ c j, c ≠ 216 → r.2 c j = s c j) := by
  have l3 : ∀ (M : Nat) (x1 : Int) (s1 : Zs), (∀ c j, c ≠ 216 → s1 c j = s c j) → zT (zE 1440) (Pt PX11_fresh) M (65, [((172 : Nat) : Int), x1], [], s1) (fun r => r.1 = [] ∧ ∀ c j, c ≠ 216 → r.2 c j = s c j) := by
    intro M
    induction M using Nat.strongRecOn with
    | ind M ih =>
      intro x1 s1 h
      exact b_X11_fresh_65 _ s1 (fun _ => ⟨rfl, fun c j hc => by dsimp only; rw [zu_n (by omega)]; exact h c j hc⟩) (fun _ m hm => ih m hm _ _ (fun c j hc => by rw [zu_n (by omega)]; exact h c j hc))
  have l2 : ∀ (M : Nat) (x1 : Int) (s1 : Zs), (∀ c j, c ≠ 216 → s1 c j = s c j) → zT (zE 1440) (Pt PX11_fresh) M (33, [((172 : Nat) : Int), x1], [], s1) (fun r => r.1 = [] ∧ ∀ c j, c ≠ 216 → r.2 c j = s c j) := by
    intro M
    induction M using Nat.strongRecOn with
    | ind M ih =>
      intro x1 s1 h
      exact b_X11_fresh_33 _ s1 (fun _ => l3 _ _ s1 h) (fun _ m hm => ih m hm _ _ (fun c j hc => by rw [zu_n (by omega)]; exact h c j hc))
  have l1 : ∀ (M : Nat) (x1 : Int) (s1 : Zs), (∀ c j, c ≠ 216 → s1 c j = s c j) → zT (zE 1440) (Pt PX11_fresh) M (2, [((172 : Nat) : Int), x1], [], s1) (fun r => r.1 = [] ∧ ∀ c j, c ≠ 216 → r.2 c j = s c j) := by
    intro M
    induction M using Nat.strongRecOn with
    | ind M ih =>
      intro x1 s1 h
      refine b_X11_fresh_2 _ s1 (fun _ m hm => ?_) (fun _ m hm => ih m hm _ _ (fun c j hc => by rw [zu_n (by omega)]; exact h c j hc))
      refine c_X11_allFlights (b_X11_allFlights_0 s1 ?_)
      exact b_X11_fresh_30 _ _ s1 (l2 _ _ _ (fun c j hc => by rw [zu_n (by omega)]; exact h c j hc))
  exact c_X11_fresh (b_X11_fresh_0 _ s (l1 N 0 s (fun _ _ _ => rfl)))
theorem hbf_mnc {k : Nat} (hk : k < 5) (hk1 : k ≠ 1) : hbf (mnc k) = mnb k := by
  rcases (show k = 0 ∨ k = 2 ∨ k = 3 ∨ k = 4 by omega) with rfl | rfl | rfl | rfl <;> rfl
theorem hbf_mcc {k j : Nat} (hk : k < 5) (hj : j < wd2 k) : hbf (mcc k + j) = mnb k := by
  rcases (show k = 0 ∨ k = 1 ∨ k = 2 ∨ k = 3 ∨ k = 4 by omega) with rfl | rfl | rfl | rfl | rfl
  · have hj : j < 1 := hj
    obtain rfl : j = 0 := by omega
    rfl
  · have hj : j < 4 := hj
    rcases (show j = 0 ∨ j = 1 ∨ j = 2 ∨ j = 3 by omega) with rfl | rfl | rfl | rfl <;> rfl
  · have hj : j < 2 := hj
    rcases (show j = 0 ∨ j = 1 by omega) with rfl | rfl <;> rfl
  · have hj : j < 4 := hj
    rcases (show j = 0 ∨ j = 1 ∨ j = 2 ∨ j = 3 by omega) with rfl | rfl | rfl | rfl <;> rfl
  · have hj : j < 2 := hj
    rcases (show j = 0 ∨ j = 1 by omega) with rfl | rfl <;> rfl
theorem cnt_mnb (hw : wD D) {k : Nat} (hk : k < 5) : cnt D k ≤ mnb k := by
  have h := hw.1 k hk
  rcases (show k = 0 ∨ k = 1 ∨ k = 2 ∨ k = 3 ∨ k = 4 by omega) with rfl | rfl | rfl | rfl | rfl <;> exact h
/-- what is told, moved to the first halves -/
theorem mT_lay {s' : Zs} (h : mD s D) (hw : wD D) (e : ∀ c j, 174 ≤ c → c ≤ 191 → j < hbf c → s' c j = s c (hbf c + j)) : mT s' D := by
  obtain ⟨h1, h2, h3⟩ := h
  refine ⟨fun k hk => ?_, fun k i w hk hk1 hv => ?_, fun k j i v hk hj hv => ?_⟩
  · rw [e 174 k (by omega) (by omega) (show k < 7 by omega)]
    exact h1 k hk
  · have hb := mnc_b k
    have hi := (List.getElem?_eq_some_iff.mp hv).1
    have hl : (dN D k).length = cnt D k := by unfold cnt; rw [if_neg hk1]
    have hm := cnt_mnb hw hk
    rw [e _ _ (by omega) (by omega) (by rw [hbf_mnc hk hk1]; omega), hbf_mnc hk hk1]
    exact h2 k i w hk hk1 hv
  · have hb := mcc_b hk hj
    have hi := (List.getElem?_eq_some_iff.mp hv).1
    rw [dC_len hw hk hj] at hi
    have hm := cnt_mnb hw hk
    rw [e _ _ (by omega) (by omega) (by rw [hbf_mcc hk hj]; omega), hbf_mcc hk hj]
    exact h3 k j i v hk hj hv
/-- town of the model -/
def qTm (s : Zs) (T : Nat → Int) (n : Nat) (a : PS × ZD) (r : Zr) : Prop := r.1 = [(a.1.1, 0)] ∧ r.2 172 1 = 0 ∧ (a.1.1 ≠ 0 → ∀ c j, 174 ≤ c → c ≤ 191 → j < hbf c → r.2 c j = s c j) ∧ (a.1.1 = 0 → mT r.2 a.2 ∧ wD a.2 ∧ wF a.2 ∧ r.2 174 5 = dHeap (clD a.2) ∧ r.2 174 6 = dWalk (clD a.2))
theorem townE_m (h1 : s 172 1 = (n : Int)) (hn : n ≤ 1000) (hT : ∀ i, i < n → s 173 i = T i) : zC N 1521 [(((172 : Nat) : Int), 0)] s (qTm s T n (pAll T n 1000 (0, 0) d0)) := by
  refine c_X11_town (b_X11_town_0 _ s (fun m hm => ?_))
  refine zC_q (readsAll_ok (T := T) (n := n) (by rw [zu_n (by omega)]; exact h1) hn (fun i hi => by rw [zu_n (by omega)]; exact hT i hi)) (fun r hr => ?_)
  obtain ⟨r1, s1⟩ := r
  obtain ⟨e, t, a, b⟩ := hr
  generalize pAll T n 1000 (0, 0) d0 = y at e a b ⊢
  have e : r1 = [(if y.1.1 = 0 then 1 else 0, 0)] := e
  subst e
  have t : frH (zu (zu s 172 0 0) 172 1 0) s1 := t
  have t1 : s1 172 1 = 0 := t.1.trans (zu_eq _ _ _ _)
  have t2 : ∀ c j, 174 ≤ c → c ≤ 191 → j < hbf c → s1 c j = s c j := fun c j u v w => by
    rw [t.2.1 c j u v w, zu_n (by omega), zu_n (by omega)]
  refine b_X11_town_9 _ _ s1 (fun g m1 hm1 => ?_) (fun g => ?_)
  · have hy : y.1.1 = 0 := Decidable.byContradiction fun c => g (if_neg c)
    have P : mP s1 T n y.1.2 y.2 := a hy
    have dh := P.2.2.2.2
    refine zC_q laysE (fun r hr => ?_)
    obtain ⟨r1, s2⟩ := r
    obtain ⟨e, f2, g2⟩ := hr
    have e : r1 = [] := e
    subst e
    have f2 : ∀ c j, 174 ≤ c → c ≤ 191 → j < hbf c → s2 c j = s1 c (hbf c + j) := f2
    have g2 : ∀ c j, ¬ (174 ≤ c ∧ c ≤ 194) → s2 c j = s1 c j := g2
    refine b_X11_town_21 _ s2 (fun m2 hm2 => ?_)
    refine zC_q freshF (fun r hr => ?_)
    obtain ⟨r1, s3⟩ := r
    obtain ⟨e, f3⟩ := hr
    have e : r1 = [] := e
    subst e
    have f3 : ∀ c j, c ≠ 216 → s3 c j = s2 c j := f3
    have loop : ∀ (M : Nat) (x1 : Int) (s4 : Zs), (∀ c j, c ≤ 191 → ¬ (c = 172 ∧ j = 60) → s4 c j = s3 c j) → zT (zE 1521) (Pt PX11_town) M (46, [((172 : Nat) : Int), x1], [], s4) (qTm s T n y) := by
      intro M
      induction M using Nat.strongRecOn with
      | ind M ih =>
        intro x1 s4 h
        refine b_X11_town_46 _ s4 (fun _ => ⟨by rw [hy], ?_, fun q => absurd hy q, fun _ => ⟨mT_lay P.2.1 P.2.2.1 (fun c j u v w => ?_), P.2.2.1, P.2.2.2.1, ?_, ?_⟩⟩) (fun _ m hm => ih m hm _ _ (fun c j hc hd => by rw [zu_n (by omega)]; exact h c j hc hd))
        · show s4 172 1 = 0
          rw [h 172 1 (by omega) (by omega), f3 172 1 (by omega), g2 172 1 (by omega)]; exact t1
        · show s4 c j = _
          rw [h c j (by omega) (by omega), f3 c j (by omega), f2 c j u v w]
        · show s4 174 5 = _
          rw [h 174 5 (by omega) (by omega), f3 174 5 (by omega), f2 174 5 (by omega) (by omega) (by decide)]
          exact dh.2.1
        · show s4 174 6 = _
          rw [h 174 6 (by omega) (by omega), f3 174 6 (by omega), f2 174 6 (by omega) (by omega) (by decide)]
          exact dh.2.2.1
    exact b_X11_town_25 _ s3 (loop _ _ _ (fun c j hc hd => by rw [zu_n (by omega), zu_n (by omega), zu_n (by omega)]))
  · have hy : y.1.1 ≠ 0 := fun c => by rw [if_pos c] at g; exact absurd g (by decide)
    refine ⟨?_, t1, fun _ => t2, fun q => absurd q hy⟩
    show [(s1 172 9, 0)] = [(y.1.1, 0)]
    have b9 : s1 172 9 = y.1.1 := b hy
    rw [b9]
/-- town of the class -/
def qTc (s : Zs) (t : Nat) (a : PS × ZD) (r : Zr) : Prop := r.1 = [(a.1.1, 0)] ∧ r.2 1 0 = 0 ∧ (∀ j, r.2 3 j = s 3 j) ∧ (a.1.1 ≠ 0 → ∀ c j, c ≠ 1 → ¬ (t ≤ c ∧ c ≤ t + 35) → r.2 c j = s c j) ∧ (a.1.1 = 0 → r.2 0 3 = s 0 4 ∧ r.2 0 4 = s 0 3 ∧ cDn r.2 t a.2 ∧ wD a.2 ∧ cDh r.2 t (clD a.2) ∧ ∀ f : Nat, f < cnt a.2 1 → r.2 (t + 35) f = ((abv a.2 f : Nat) : Int))
theorem townE_c {t : Nat} (ht' : t = 7 ∨ t = 43) (et : s 0 4 = ((t : Nat) : Int)) (h : tkS s T n) (hz : zM s) : zC N 1318 [(((0 : Nat) : Int), 0)] s (qTc s t (pAll T n 1000 (0, 0) d0)) := by
  refine c_X10_town (b_X10_town_0 _ _ s (fun m hm => ?_))
  rw [et]
  refine zC_q (readE_ok (T := T) (n := n) ht' h hz) (fun r hr => ?_)
  obtain ⟨r1, s1⟩ := r
  generalize pAll T n 1000 (0, 0) d0 = y at hr ⊢
  obtain ⟨e, f1, -, a⟩ := hr
  have e : r1 = [(y.1.1, 0)] := e
  subst e
  have f1 : frT t s s1 := f1
  have z0 : ∀ j, s1 0 j = s 0 j := fun j => f1 0 j (by omega) (by omega)
  have z3 : ∀ j, s1 3 j = s 3 j := fun j => f1 3 j (by omega) (by omega)
  refine b_X10_town_11 _ _ _ s1 (fun g => ?_) (fun g m1 hm1 => ?_)
  · refine ⟨rfl, zu_eq s1 1 0 0, fun j => ?_, fun _ c j hc hd => ?_, fun q => absurd q g⟩
    · show zu s1 1 0 0 3 j = _; rw [zu_n (by omega)]; exact z3 j
    · show zu s1 1 0 0 c j = _; rw [zu_n (by omega)]; exact f1 c j (by omega) hd
  · obtain ⟨a1, a2, a3, a4⟩ := a g
    have a1 : cDn s1 t y.2 := a1
    have a3 : cDh s1 t (clD y.2) := a3
    have a4 : ∀ f : Nat, f < cnt y.2 1 → s1 (t + 35) f = ((abv y.2 f : Nat) : Int) := a4
    rw [show s1 0 4 = ((t : Nat) : Int) from (z0 4).trans et]
    refine zC_q (begin_fr ht') (fun r hr => ?_)
    obtain ⟨r1, s2⟩ := r
    obtain ⟨e, f2⟩ := hr
    have e : r1 = [] := e
    subst e
    have f2 : ∀ c j, ¬ (79 ≤ c ∧ c ≤ 81) → s2 c j = zu (zu (zu s1 1 0 0) 0 3 ((t : Nat) : Int)) 0 4 (s1 0 3) c j := f2
    refine b_X10_town_53 _ _ s2 (fun m2 hm2 => ?_)
    refine c_X5_clear (b_X5_clear_0 s2 ?_)
    refine b_X10_town_60 _ _ _ (fun m3 hm3 => ?_)
    refine c_X1_clear (b_X1_clear_0 _ ?_)
    refine b_X10_town_67 _ _ _ ?_
    have W : ∀ s9 : Zs, s9 = zu (zu (zu (zu (zu s2 85 1 0) 85 2 0) 85 4 0) 88 0 0) 0 11 0 → qTc s t y ([(y.1.1, 0)], s9) := fun s9 e9 => by
      have w : ∀ c j, ¬ (79 ≤ c ∧ c ≤ 88) → ¬ (c = 0 ∧ j = 11) → s9 c j = zu (zu (zu s1 1 0 0) 0 3 ((t : Nat) : Int)) 0 4 (s1 0 3) c j := fun c j a b => by
        rw [e9, zu_n (by omega), zu_n (by omega), zu_n (by omega), zu_n (by omega), zu_n (by omega)]
        exact f2 c j (by omega)
      have v : ∀ c j, t ≤ c → c ≤ t + 35 → s9 c j = s1 c j := fun c j a b => by
        rw [w c j (by omega) (by omega), zu_n (by omega), zu_n (by omega), zu_n (by omega)]
      refine ⟨rfl, ?_, fun j => ?_, fun q => absurd g q, fun _ => ⟨?_, ?_, cDn_e a1 a2 (fun c j hc => v c j (by omega) (by omega)), a2, ?_, fun f hf => ?_⟩⟩
      · refine (w 1 0 (by omega) (by omega)).trans ?_
        rw [zu_n (by omega), zu_n (by omega), zu_eq]
      · refine (w 3 j (by omega) (by omega)).trans ?_
        rw [zu_n (by omega), zu_n (by omega), zu_n (by omega)]; exact z3 j
      · refine (w 0 3 (by omega) (by omega)).trans ?_
        rw [zu_n (by omega), zu_eq]; exact et.symm
      · refine (w 0 4 (by omega) (by omega)).trans ?_
        rw [zu_eq]; exact z0 3
      · obtain ⟨b1, b2, b3, b4⟩ := a3
        unfold cDh
        dsimp only
        rw [v _ _ (by omega) (by omega), v _ _ (by omega) (by omega), v _ _ (by omega) (by omega)]
        exact ⟨b1, b2, b3, b4⟩
      · show s9 (t + 35) f = _
        rw [v _ _ (by omega) (by omega)]
        exact a4 f hf

    exact W _ rfl
end Zt4
