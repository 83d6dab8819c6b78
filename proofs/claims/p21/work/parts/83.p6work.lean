/-! a law of price, worked on both sides -/
section Zpw
variable {N : Nat} {s : Zs}
def frV (s s' : Zs) : Prop := ∀ c j, ¬ (197 ≤ c ∧ c ≤ 205) → s' c j = s c j
theorem mPut_fr : ∀ (d : Nat) (v : Int) (s : Zs), frV s (mPut d v s).2
  | 0, v, s => fun c j h => by
    show mTrm 0 v s c j = s c j
    unfold mTrm
    exact zu_n (by omega)
  | d + 1, v, s => by
    by_cases q : s 205 (d + 1) = 1
    · rw [put_1 q]
      exact mPut_fr d _ s
    · rw [put_nt (Or.inr q)]
      exact fun c j h => by
        show mTrm (d + 1) v s c j = s c j
        unfold mTrm
        exact zu_n (by omega)
theorem mTs_fr (d : Nat) (s : Zs) : frV s (mTs d s) := fun c j h => by
  unfold mTs mSm
  rw [zu_n (by omega), zu_n (by omega), zu_n (by omega), zu_n (by omega), zu_n (by omega), zu_n (by omega)]
theorem mOp_fr (d : Nat) (s : Zs) : frV s (mOp d s) := fun c j h => by
  unfold mOp
  rw [zu_n (by omega), zu_n (by omega), zu_n (by omega), zu_n (by omega), zu_n (by omega)]
theorem frV_tr {s s' s'' : Zs} (h1 : frV s s') (h2 : frV s' s'') : frV s s'' := fun c j h => (h2 c j h).trans (h1 c j h)
theorem opens_ok {d : Nat} : zC N 1485 [(((172 : Nat) : Int), 0), ((d : Int), 0)] s (fun r => r = ([], mOp d s)) := by
  refine c_X11_opens (b_X11_opens_0 _ s ?_)
  rw [Int.toNat_natCast]
  rfl
theorem sums_ok {d : Nat} : zC N 1516 [(((172 : Nat) : Int), 0), ((d : Int), 0)] s (fun r => r = ([], mSm d s)) := by
  refine c_X11_sums (b_X11_sums_0 _ s (fun g => ?_) (fun g => ?_))
  all_goals rw [Int.toNat_natCast] at g ⊢
  · have e : mSmV d s = w32 (s 201 d + s 203 d) := if_neg g
    unfold mSm
    rw [e]
  · have e : mSmV d s = w32 (s 201 d - s 203 d) := if_pos g
    unfold mSm
    rw [e]
theorem mSm_v (d : Nat) (s : Zs) : mSm d s 201 d = mSmV d s ∧ mSm d s 200 d = s 200 d ∧ mSm d s 199 d = s 199 d ∧ mSm d s 198 d = s 198 d ∧ mSm d s 197 d = s 197 d := by
  unfold mSm
  exact ⟨by rw [zu_n (by omega), zu_eq], by rw [zu_n (by omega), zu_n (by omega)], by rw [zu_n (by omega), zu_n (by omega)], by rw [zu_n (by omega), zu_n (by omega)], by rw [zu_n (by omega), zu_n (by omega)]⟩
theorem tests_ok {d : Nat} : zC N 1517 [(((172 : Nat) : Int), 0), ((d : Int), 0)] s (fun r => r = ([], mTs d s)) := by
  refine c_X11_tests (b_X11_tests_0 _ _ s (fun m _ => ?_))
  refine zC_q sums_ok (fun r hr => ?_)
  subst hr
  obtain ⟨e1, e2, e3, e4, e5⟩ := mSm_v d s
  have W : ∀ v : Int, v = mTsV d s → (([], zu (zu (zu (zu (mSm d s) 197 d v) 200 d 0) 201 d 0) 202 d 20) : Zr) = ([], mTs d s) := fun v hv => by rw [hv]; rfl
  refine b_X11_tests_5 _ _ _ ?_ ?_ ?_ ?_ ?_ ?_ ?_ ?_ ?_ ?_ ?_ ?_ ?_ ?_ ?_ ?_ ?_ ?_ ?_ ?_ ?_ ?_ ?_ ?_ ?_ ?_ ?_ <;> intros
  all_goals
    simp only [Int.toNat_natCast, e1, e2, e3, e4, e5] at *
    refine W _ ?_
    unfold mTsV
    first
      | (have t1 : mTtV d s = 1 := by
          unfold mTtV
          first
            | rw [if_pos (by omega), if_pos (by omega)]
            | rw [if_neg (by omega), if_pos (by omega), if_pos (by omega)]
         rw [t1]
         first
            | rw [if_pos (by omega), if_pos (by omega)]
            | rw [if_pos (by omega), if_neg (by omega)]
            | rw [if_neg (by omega), if_pos (by omega), if_pos (by omega)]
            | rw [if_neg (by omega), if_pos (by omega), if_neg (by omega)]
            | rw [if_neg (by omega), if_neg (by omega)])
      | (have t1 : mTtV d s = 0 := by
          unfold mTtV
          first
            | rw [if_pos (by omega), if_neg (by omega)]
            | rw [if_neg (by omega), if_pos (by omega), if_neg (by omega)]
         rw [t1]
         first
            | rw [if_pos (by omega), if_pos (by omega)]
            | rw [if_pos (by omega), if_neg (by omega)]
            | rw [if_neg (by omega), if_pos (by omega), if_pos (by omega)]
            | rw [if_neg (by omega), if_pos (by omega), if_neg (by omega)]
            | rw [if_neg (by omega), if_neg (by omega)])
      | (have t1 : mTtV d s = mSmV d s := by
          unfold mTtV
          rw [if_neg (by omega), if_neg (by omega)]
         rw [t1]
         first
            | rw [if_pos (by omega), if_pos (by omega)]
            | rw [if_pos (by omega), if_neg (by omega)]
            | rw [if_neg (by omega), if_pos (by omega), if_pos (by omega)]
            | rw [if_neg (by omega), if_pos (by omega), if_neg (by omega)]
            | rw [if_neg (by omega), if_neg (by omega)])
/-- nots taken away, then the term -/
theorem put_run {k : Nat} {x4 : Int} {Q : Zr → Prop} : ∀ (d : Nat) (v : Int) (s : Zs) (M : Nat), d ≤ 6 → (∀ m v', m < M → zT (zE 1526) (Pt PX11_worked) m (14, [((172 : Nat) : Int), 0, (((mPut d v s).1 : Nat) : Int), w32 ((k : Int) + 1), x4, v'], [], (mPut d v s).2) Q) → zT (zE 1526) (Pt PX11_worked) M (268, [((172 : Nat) : Int), 0, (d : Int), (k : Int), x4, v], [], s) Q
  | 0, v, s, M, _, h => by
    refine b_X11_worked_268 _ _ _ _ _ s (fun g g2 m hm => ?_) (fun g g2 m hm => ?_) (fun g => absurd g (by decide)) (fun g => absurd g (by decide)) (fun g => absurd g (by decide)) (fun g => absurd g (by decide))
    all_goals rw [Int.toNat_natCast] at g2 ⊢
    · have := h m v hm
      have e : mPut 0 v s = (0, zu s 203 0 (w32 (s 203 0 * v))) := by
        show (0, mTrm 0 v s) = _
        unfold mTrm
        rw [if_neg g2]
      rw [e] at this
      exact this
    · have := h m v hm
      have e : mPut 0 v s = (0, zu s 203 0 v) := by
        show (0, mTrm 0 v s) = _
        unfold mTrm
        rw [if_pos g2]
      rw [e] at this
      exact this
  | d + 1, v, s, M, hd, h => by
    refine b_X11_worked_268 _ _ _ _ _ s (fun g => absurd g (by omega)) (fun g => absurd g (by omega)) (fun g g3 g4 m hm => ?_) (fun g g3 g4 m hm => ?_) (fun g g3 g5 m hm => ?_) (fun g g3 g5 m hm => ?_)
    all_goals rw [Int.toNat_natCast] at g3
    · rw [Int.toNat_natCast] at g4 ⊢
      have := h m v hm
      rw [put_nt (Or.inr g3)] at this
      unfold mTrm at this
      rw [if_neg g4] at this
      exact this
    · rw [Int.toNat_natCast] at g4 ⊢
      have := h m v hm
      rw [put_nt (Or.inr g3)] at this
      unfold mTrm at this
      rw [if_pos g4] at this
      exact this
    · rw [w32_id (by omega) (by omega), show (((d + 1 : Nat) : Int)) + -1 = (d : Int) from by omega]
      rw [put_1 g3, if_neg g5] at h
      exact put_run d 0 s m (by omega) (fun m' v' hm' => h m' v' (by omega))
    · rw [w32_id (by omega) (by omega), show (((d + 1 : Nat) : Int)) + -1 = (d : Int) from by omega]
      rw [put_1 g3, if_pos g5] at h
      exact put_run d 1 s m (by omega) (fun m' v' hm' => h m' v' (by omega))
theorem mEv1_fr (c : Int) (x : Nat × Zs) : frV x.2 (mEv1 c x).2 := by
  obtain ⟨d, s⟩ := x
  unfold mEv1
  split
  · exact fun c j h => (mOp_fr _ _ c j h).trans (zu_n (by omega))
  · split
    · exact fun c j h => by
        show zu (mSm d s) 202 d _ c j = s c j
        unfold mSm
        rw [zu_n (by omega), zu_n (by omega), zu_n (by omega)]
    · split
      · exact fun c j h => zu_n (by omega)
      · split
        · exact fun c j h => by
            show zu (zu (zu (zu (mSm d s) 199 d _) 200 d _) 201 d 0) 202 d 20 c j = s c j
            unfold mSm
            rw [zu_n (by omega), zu_n (by omega), zu_n (by omega), zu_n (by omega), zu_n (by omega), zu_n (by omega)]
        · split
          · exact fun c j h => (zu_n (by omega)).trans (mTs_fr d s c j h)
          · split
            · exact frV_tr (mTs_fr d s) (mPut_fr _ _ _)
            · exact mPut_fr _ _ _
def qWk (g : List Int) (d : Nat) (s0 s1 : Zs) (r : Zr) : Prop := r.1 = [(mTsV 0 (mEv g (d, s1)).2, 0)] ∧ frV s0 r.2
theorem worked_loop {s0 : Zs} {hi : Nat} (h100 : hi ≤ 100000) (h193 : s0 193 0 = (hi : Int)) : ∀ (M : Nat) (g : List Int) (k d : Nat) (x4 x5 : Int) (s1 : Zs), frV s0 s1 → k + g.length = hi → (∀ i c, g[i]? = some c → s0 194 (k + i) = c ∧ c ≤ 100000) → mSafe g (d, s1) → (mEv g (d, s1)).1 = 0 → zT (zE 1526) (Pt PX11_worked) M (14, [((172 : Nat) : Int), 0, (d : Int), (k : Int), x4, x5], [], s1) (qWk g d s0 s1) := by
  intro M
  induction M using Nat.strongRecOn with
  | ind M ih =>
    intro g k d x4 x5 s1 f1 hk hg sf h0
    have e193 : s1 193 (Int.toNat 0) = (hi : Int) := (f1 193 0 (by omega)).trans h193
    cases g with
    | nil =>
      have hk : k = hi := hk
      have h0 : d = 0 := h0
      subst h0
      refine b_X11_worked_14 _ _ _ _ _ s1 (fun _ m hm => ?_) (fun g => absurd g (by omega)) (fun g => absurd g (by omega)) (fun g => absurd g (by omega)) (fun g => absurd g (by omega)) (fun g => absurd g (by omega)) (fun g => absurd g (by omega)) (fun g => absurd g (by omega)) (fun g => absurd g (by omega)) (fun g => absurd g (by omega)) (fun g => absurd g (by omega)) (fun g => absurd g (by omega)) (fun g => absurd g (by omega)) (fun g => absurd g (by omega)) (fun g => absurd g (by omega)) (fun g => absurd g (by omega))
      refine zC_q (tests_ok (d := 0)) (fun r hr => ?_)
      subst hr
      refine b_X11_worked_340 _ _ _ _ _ _ ⟨?_, frV_tr f1 (mTs_fr 0 s1)⟩
      show [(mTs 0 s1 197 0, 0)] = [(mTsV 0 s1, 0)]
      have e : mTs 0 s1 197 0 = mTsV 0 s1 := by
        unfold mTs
        rw [zu_n (by omega), zu_n (by omega), zu_n (by omega), zu_eq]
      rw [e]
    | cons c g =>
      have hlen : k + (g.length + 1) = hi := hk
      have hc := hg 0 c rfl
      rw [Nat.add_zero] at hc
      have e194 : s1 194 (Int.toNat (k : Int)) = c := by rw [Int.toNat_natCast]; exact (f1 _ _ (by omega)).trans hc.1
      obtain ⟨sf1, sf2, sf3⟩ := sf
      have sf2 : d ≤ 5 := sf2
      have sf1 : c = 29 → 1 ≤ d := sf1
      have h0 : (mEv g (mEv1 c (d, s1))).1 = 0 := h0
      have on : ∀ (m d' : Nat) (x4 x5 : Int) (s2 : Zs), m < M → mEv1 c (d, s1) = (d', s2) → zT (zE 1526) (Pt PX11_worked) m (14, [((172 : Nat) : Int), 0, (d' : Int), w32 ((k : Int) + 1), x4, x5], [], s2) (qWk (c :: g) d s0 s1) := fun m d' x4 x5 s2 hm he => by
        have f2 : frV s1 s2 := by have := mEv1_fr c (d, s1); rw [he] at this; exact this
        rw [he] at sf3 h0
        rw [w32_id (by omega) (by omega), show (k : Int) + 1 = ((k + 1 : Nat) : Int) from by omega]
        have q := ih m hm g (k + 1) d' x4 x5 s2 (frV_tr f1 f2) (by omega) (fun i c' hi' => by rw [show k + 1 + i = k + (i + 1) from by omega]; exact hg (i + 1) c' (by simpa using hi')) sf3 h0
        have eq : qWk (c :: g) d s0 s1 = qWk g d' s0 s2 := by
          unfold qWk
          show (fun r : Zr => r.1 = [(mTsV 0 (mEv g (mEv1 c (d, s1))).2, 0)] ∧ frV s0 r.2) = _
          rw [he]
        rw [eq]
        exact q
      have nots : ∀ (v : Int), c ≠ 28 → c ≠ 30 → c ≠ 20 → c ≠ 21 → c ≠ 22 → c ≠ 24 → c ≠ 25 → c ≠ 26 → c ≠ 27 → c ≠ 29 → v = (if 100 ≤ c then c - 100 else if c < 20 then s1 206 c.toNat else 0) → zT (zE 1526) (Pt PX11_worked) M (268, [((172 : Nat) : Int), 0, (d : Int), (k : Int), c, v], [], s1) (qWk (c :: g) d s0 s1) := fun v n1 n2 n3 n4 n5 n6 n7 n8 n9 n10 hv => by
        refine put_run d v s1 M (by omega) (fun m v' hm => on m _ _ _ _ hm ?_)
        unfold mEv1
        rw [if_neg (by omega), if_neg (by omega), if_neg (by omega), if_neg (by omega), if_neg (by omega), if_neg (by omega), ← hv]
      have cl : ∀ (m : Nat) (x : Int), m < M → c = 29 → zC m 1517 [(((172 : Nat) : Int), 0), ((d : Int), 0)] s1 (fun p => zT (zE 1526) (Pt PX11_worked) m (257, [((172 : Nat) : Int), 0, (d : Int), (k : Int), c, x], p.1 ++ [], p.2) (qWk (c :: g) d s0 s1)) := fun m x hm h29 => by
        have d1 := sf1 h29
        refine zC_q tests_ok (fun r hr => ?_)
        subst hr
        refine b_X11_worked_257 _ _ _ _ _ _ ?_
        rw [w32_id (by omega) (by omega), show (d : Int) + -1 = ((d - 1 : Nat) : Int) from by omega, Int.toNat_natCast]
        have e : mTs d s1 197 d = mTsV d s1 := by
          unfold mTs
          rw [zu_n (by omega), zu_n (by omega), zu_n (by omega), zu_eq]
        dsimp only
        rw [e]
        refine put_run (d - 1) _ _ m (by omega) (fun m' v' hm' => on m' _ _ _ _ (by omega) ?_)
        unfold mEv1
        rw [if_neg (by omega), if_neg (by omega), if_neg (by omega), if_neg (by omega), if_neg (by omega), if_pos h29]
      have ed : w32 ((d : Int) + 1) = ((d + 1 : Nat) : Int) := by rw [w32_id (by omega) (by omega)]; omega
      have op : ∀ (m : Nat) (b : Int), m < M → ((c = 28 ∧ b = 0) ∨ (c = 30 ∧ b = 1)) → zC m 1485 [(((172 : Nat) : Int), 0), (((d + 1 : Nat) : Int), 0)] (zu s1 205 (d + 1) b) (fun p => zT (zE 1526) (Pt PX11_worked) m (72, [((172 : Nat) : Int), 0, ((d + 1 : Nat) : Int), (k : Int), c, x5], p.1 ++ [], p.2) (qWk (c :: g) d s0 s1)) := fun m b hm hb => by
        refine zC_q opens_ok (fun r hr => ?_)
        subst hr
        refine b_X11_worked_72 _ _ _ _ _ _ (fun m' hm' => on m' _ _ _ _ (by omega) ?_)
        unfold mEv1
        rw [if_pos (by omega)]
        rcases hb with ⟨rfl, rfl⟩ | ⟨rfl, rfl⟩
        · rw [if_neg (by decide)]
        · rw [if_pos rfl]
      have sm : ∀ (m : Nat), m < M → (c = 20 ∨ c = 21) → zC m 1516 [(((172 : Nat) : Int), 0), ((d : Int), 0)] s1 (fun p => zT (zE 1526) (Pt PX11_worked) m (94, [((172 : Nat) : Int), 0, (d : Int), (k : Int), c, x5], p.1 ++ [], p.2) (qWk (c :: g) d s0 s1)) := fun m hm hcc => by
        refine zC_q sums_ok (fun r hr => ?_)
        subst hr
        refine b_X11_worked_94 _ _ _ _ _ _ (fun m' hm' => ?_)
        rw [Int.toNat_natCast]
        refine on m' _ _ _ _ (by omega) ?_
        unfold mEv1
        rw [if_neg (by omega), if_pos hcc]
      have te : ∀ (m : Nat), m < M → (c = 24 ∨ c = 25) → zC m 1516 [(((172 : Nat) : Int), 0), ((d : Int), 0)] s1 (fun p => zT (zE 1526) (Pt PX11_worked) m (142, [((172 : Nat) : Int), 0, (d : Int), (k : Int), c, x5], p.1 ++ [], p.2) (qWk (c :: g) d s0 s1)) := fun m hm hcc => by
        refine zC_q sums_ok (fun r hr => ?_)
        subst hr
        refine b_X11_worked_142 _ _ _ _ _ _ (fun m' hm' => ?_)
        rw [Int.toNat_natCast]
        dsimp only
        rw [(mSm_v d s1).1]
        refine on m' _ _ _ _ (by omega) ?_
        unfold mEv1
        rw [if_neg (by omega), if_neg (by omega), if_neg (by omega), if_pos hcc]
      have ao : ∀ (m : Nat), m < M → (c = 26 ∨ c = 27) → zC m 1517 [(((172 : Nat) : Int), 0), ((d : Int), 0)] s1 (fun p => zT (zE 1526) (Pt PX11_worked) m (199, [((172 : Nat) : Int), 0, (d : Int), (k : Int), c, x5], p.1 ++ [], p.2) (qWk (c :: g) d s0 s1)) := fun m hm hcc => by
        refine zC_q tests_ok (fun r hr => ?_)
        subst hr
        refine b_X11_worked_199 _ _ _ _ _ _ (fun m' hm' => ?_)
        rw [Int.toNat_natCast]
        refine on m' _ _ _ _ (by omega) ?_
        unfold mEv1
        rw [if_neg (by omega), if_neg (by omega), if_neg (by omega), if_neg (by omega), if_pos hcc]
      refine b_X11_worked_14 _ _ _ _ _ s1 (fun j1 => absurd j1 (by rw [e193]; omega)) (fun _ a1 m hm => ?_) (fun _ a1 a2 a3 m hm => ?_) (fun _ a1 a2 a3 a4 a5 a6 m hm => ?_) (fun _ a1 a2 a3 a4 a5 a6 a7 a8 m hm => ?_) (fun _ a1 a2 a3 a4 a5 a6 a7 a8 a9 b1 b2 b3 => ?_) (fun _ a1 a2 a3 a4 a5 a6 a7 a8 a9 b1 b2 b3 m hm => ?_) (fun _ a1 a2 a3 a4 a5 a6 a7 a8 a9 b1 b2 b3 => ?_) (fun _ a1 a2 a3 a4 a5 a6 a7 a8 a9 b1 b2 b3 m hm => ?_) (fun _ a1 a2 a3 a4 a5 a6 a7 a8 a9 b1 b3 => ?_) (fun _ a1 a2 a3 a4 a5 a6 a7 a8 a9 b1 b3 m hm => ?_) (fun _ a1 a2 a3 a4 a5 a6 a7 a8 a9 m hm => ?_) (fun _ a1 a2 a3 a4 a5 a6 a7 m hm => ?_) (fun _ a1 a2 a3 a4 a5 m hm => ?_) (fun _ a1 a2 a3 a4 m hm => ?_) (fun _ a1 a2 m hm => ?_)
      all_goals simp only [e194] at *
      · rw [ed, Int.toNat_natCast]
        exact op m 0 hm (Or.inl ⟨a1, rfl⟩)
      · exact sm m hm (Or.inl a3)
      · exact te m hm (Or.inl a6)
      · exact ao m hm (Or.inl a8)
      · exact nots _ a1 a2 a3 a4 a5 a6 a7 a8 a9 b3 (by rw [if_neg (by omega), if_neg (by omega)])
      · exact cl m _ hm b3
      · exact nots _ a1 a2 a3 a4 a5 a6 a7 a8 a9 b3 (by rw [if_neg (by omega), if_pos (by omega)])
      · exact cl m _ hm b3
      · exact nots _ a1 a2 a3 a4 a5 a6 a7 a8 a9 b3 (by rw [if_pos (by omega), w32_id (by omega) (by have := hc.2; omega)])
      · exact cl m _ hm b3
      · exact ao m hm (Or.inr a9)
      · exact te m hm (Or.inr a7)
      · rw [Int.toNat_natCast]
        refine on m _ _ _ _ hm ?_
        unfold mEv1
        rw [if_neg (by omega), if_neg (by omega), if_pos a5]
      · exact sm m hm (Or.inr a4)
      · rw [ed, Int.toNat_natCast]
        exact op m 1 hm (Or.inr ⟨a2, rfl⟩)
/-- a law of price of the model, worked -/
theorem worked_ok {dp : Nat} {g q : List Int} {a : Nat} (h192 : s 192 0 = (a : Int)) (h193 : s 193 0 = ((a + g.length : Nat) : Int)) (h100 : a + g.length ≤ 100000) (hg : ∀ i c, g[i]? = some c → s 194 (a + i) = c ∧ c ≤ 100000) (hs : SEM 0 0 g q) (hE : rgE (env s)) : zC N 1526 [(((172 : Nat) : Int), 0), (0, 0)] s (fun r => ∃ v, cEv (env s) q [] = [v] ∧ rgI v ∧ r.1 = [(v, 0)] ∧ frV s r.2) := by
  obtain ⟨v, hv, hc, hm⟩ := hs.2 (env s) hE
  have z := mOp_v (d := 0) (s := s)
  have he : env (mOp 0 s) = env s := by
    unfold env
    rw [mOp_fr 0 s 206 1 (by omega), mOp_fr 0 s 206 2 (by omega), mOp_fr 0 s 206 3 (by omega)]
  have qq := hm 0 (mOp 0 s) (Nat.le_refl 0) he
  unfold OKp at qq
  rw [if_neg (by decide), if_neg (by decide), if_neg (by decide), if_neg (by decide)] at qq
  obtain ⟨s', sf, e, ev, -⟩ := qq (Or.inl rfl) z.1 z.2.1 z.2.2.1 z.2.2.2.1 z.2.2.2.2.1
  have hc0 := hc [] (by decide)
  refine c_X11_worked (b_X11_worked_0 _ _ _ _ _ s (fun m _ => ?_))
  refine zC_q (opens_ok (d := 0)) (fun r hr => ?_)
  subst hr
  refine b_X11_worked_7 _ _ _ _ _ _ ?_
  have e192 : mOp 0 s 192 (Int.toNat 0) = (a : Int) := (mOp_fr 0 s 192 0 (by omega)).trans h192
  dsimp only
  rw [e192]
  refine zT_q (worked_loop (s0 := s) h100 h193 m g a 0 _ _ (mOp 0 s) (mOp_fr 0 s) rfl hg sf (by rw [e])) (fun r hr => ?_)
  obtain ⟨r1, r2⟩ := hr
  rw [e, ev] at r1
  exact ⟨v, hc0, hv, r1, r2⟩
/-- what lies on the class's stack: the last one first -/
def stk (s : Zs) (u : Nat) : List Int → Prop
  | [] => True
  | a :: l => s (u + 2) l.length = a ∧ stk s u l
theorem stk_e {s s' : Zs} {u : Nat} : ∀ l : List Int, (∀ j, j < l.length → s' (u + 2) j = s (u + 2) j) → stk s u l → stk s' u l
  | [], _, _ => True.intro
  | a :: l, h, ⟨h1, h2⟩ => ⟨(h _ (Nat.lt_succ_self _)).trans h1, stk_e l (fun j hj => h j (Nat.lt_succ_of_lt hj)) h2⟩
theorem joined_ok {c a b : Int} : zC N 518 [(c, 0), (a, 0), (b, 0)] s (fun r => r = ([(jnd c a b, 0)], s)) := by
  have W : ∀ v : Int, v = jnd c a b → (([(v, 0)], s) : Zr) = ([(jnd c a b, 0)], s) := fun v hv => by rw [hv]
  refine c_X4_joined (b_X4_joined_0 _ _ _ s ?_ ?_ ?_ ?_ ?_ ?_ ?_ ?_ ?_ ?_ ?_ ?_ ?_) <;> intros
  all_goals
    refine W _ ?_
    unfold jnd
    first
      | rw [if_neg (by omega), if_neg (by omega), if_neg (by omega), if_neg (by omega), if_neg (by omega), if_neg (by omega)]
      | rw [if_neg (by omega), if_neg (by omega), if_neg (by omega), if_neg (by omega), if_neg (by omega), if_pos (by omega)]
      | rw [if_neg (by omega), if_neg (by omega), if_neg (by omega), if_neg (by omega), if_pos (by omega)]
      | rw [if_neg (by omega), if_neg (by omega), if_neg (by omega), if_pos (by omega), if_neg (by omega)]
      | rw [if_neg (by omega), if_neg (by omega), if_neg (by omega), if_pos (by omega), if_pos (by omega)]
      | rw [if_neg (by omega), if_neg (by omega), if_pos (by omega), if_neg (by omega)]
      | rw [if_neg (by omega), if_neg (by omega), if_pos (by omega), if_pos (by omega)]
      | rw [if_neg (by omega), if_pos (by omega), if_neg (by omega)]
      | rw [if_neg (by omega), if_pos (by omega), if_pos (by omega)]
      | rw [if_pos (by omega), if_neg (by omega)]
      | rw [if_pos (by omega), if_pos (by omega)]
theorem cEv_nop {E : Int × Int × Int} {c : Int} {st : List Int} (h : c < -3) (hs : st.length ≤ 1) (h4 : c = -4 → st = []) : cEv1 E c st = st := by
  unfold cEv1
  rw [if_neg (fun q => by have := q.1; omega), if_neg (fun q => q.2 (h4 q.1))]
  match st, hs with
  | [], _ => rfl
  | [a], _ => rfl
  | a :: b :: r, hs => simp at hs
theorem cEv_jn2 {E : Int × Int × Int} {a b c : Int} {st : List Int} (hc : c ≠ -4) (hl : ¬ (-3 ≤ c ∧ (b :: a :: st).length < 24)) : cEv1 E c (b :: a :: st) = jnd c a b :: st := by
  unfold cEv1
  rw [if_neg hl, if_neg (fun q => hc q.1)]
theorem valueOf_ok {u : Nat} (hu : u = 36 ∨ u = 72) {q : List Int} {x1 x2 x3 v : Int} (hl : s u 1 = ((q.length : Nat) : Int)) (hq : ∀ i c, q[i]? = some c → s (u + 1) i = c) (h1000 : q.length ≤ 1000) (hv : cEv (x1, x2, x3) q [] = [v]) : zC N 521 [((u : Int), 0), (x1, 0), (x2, 0), (x3, 0)] s (fun r => r.1 = [(v, 0)] ∧ ∀ c j, c ≠ u + 2 → r.2 c j = s c j) := by
  have loop : ∀ (M : Nat) (q' st : List Int) (i : Nat) (x6 : Int) (s1 : Zs), i + q'.length = q.length → (∀ k c, q'[k]? = some c → s (u + 1) (i + k) = c) → (∀ c j, c ≠ u + 2 → s1 c j = s c j) → stk s1 u st → st.length ≤ i → cEv (x1, x2, x3) q' st = [v] → zT (zE 521) (Pt PX4_valueOf) M (6, [((u : Nat) : Int), x1, x2, x3, ((st.length : Nat) : Int), (i : Int), x6], [], s1) (fun r => r.1 = [(v, 0)] ∧ ∀ c j, c ≠ u + 2 → r.2 c j = s c j) := by
    intro M
    induction M using Nat.strongRecOn with
    | ind M ih =>
      intro q' st i x6 s1 hi hc f1 hst hsl he
      have hl1 : s1 u 1 = ((q.length : Nat) : Int) := (f1 _ _ (by omega)).trans hl
      cases q' with
      | nil =>
        have hi : i = q.length := hi
        have he : st = [v] := he
        subst he
        have hst : s1 (u + 2) 0 = v := hst.1
        have ng : ¬ ((i : Int) < s1 u 1) := by rw [hl1]; omega
        refine b_X4_valueOf_6 _ _ _ _ _ _ s1 hu (fun _ => ⟨?_, f1⟩) (fun g => absurd g ng) (fun g => absurd g ng) (fun g => absurd g ng) (fun g => absurd g ng) (fun g => absurd g ng) (fun g => absurd g ng) (fun g => absurd g ng) (fun g => absurd g ng) (fun g => absurd g ng) (fun g => absurd g ng) (fun g => absurd g ng) (fun g => absurd g ng) (fun g => absurd g ng) (fun g => absurd g ng) (fun g => absurd g ng) (fun g => absurd g ng)
        show [(s1 (u + 2) 0, 0)] = _
        rw [hst]
      | cons c q' =>
        have hlen : i + (q'.length + 1) = q.length := hi
        have e : s1 (u + 1) (Int.toNat (i : Int)) = c := by
          rw [Int.toNat_natCast]
          exact (f1 _ _ (by omega)).trans (hc 0 c rfl)
        have on : ∀ (m : Nat) (st' : List Int) (x4 x6 : Int) (s2 : Zs), m < M → x4 = ((st'.length : Nat) : Int) → cEv1 (x1, x2, x3) c st = st' → stk s2 u st' → (∀ c j, c ≠ u + 2 → s2 c j = s c j) → st'.length ≤ i + 1 → zT (zE 521) (Pt PX4_valueOf) m (6, [((u : Nat) : Int), x1, x2, x3, x4, w32 ((i : Int) + 1), x6], [], s2) (fun r => r.1 = [(v, 0)] ∧ ∀ c j, c ≠ u + 2 → r.2 c j = s c j) := fun m st' x4 x6 s2 hm h4 h5 h6 h7 h8 => by
          rw [h4, w32_id (by omega) (by omega), show (i : Int) + 1 = ((i + 1 : Nat) : Int) from by omega]
          refine ih m hm q' st' (i + 1) x6 s2 (by omega) (fun k c' hk => by rw [show i + 1 + k = i + (k + 1) from by omega]; exact hc (k + 1) c' (by simpa using hk)) h7 h6 h8 ?_
          rw [← h5]
          exact he
        have up : ∀ (j' : Nat) (y : Int) (c j : Nat), c ≠ u + 2 → zu s1 (u + 2) j' y c j = s c j := fun j' y c j hc => by rw [zu_n (fun q => hc q.1)]; exact f1 c j hc
        have jn : ∀ (m : Nat), m < M → c ≠ -4 → ¬ (-3 ≤ c ∧ st.length < 24) → 1 < ((st.length : Nat) : Int) → zC m 518 [(c, 0), (s1 (u + 2) ((w32 ((w32 (((st.length : Nat) : Int) + (-1))) - 1)).toNat), 0), (s1 (u + 2) ((w32 (((st.length : Nat) : Int) + (-1))).toNat), 0)] s1 (fun p => zT (zE 521) (Pt PX4_valueOf) m (162, [((u : Nat) : Int), x1, x2, x3, w32 (((st.length : Nat) : Int) + (-1)), (i : Int), c], p.1 ++ [(w32 ((w32 (((st.length : Nat) : Int) + (-1))) - 1), 0), ((((u + 2) : Nat) : Int), 0)], p.2) (fun r => r.1 = [(v, 0)] ∧ ∀ c j, c ≠ u + 2 → r.2 c j = s c j)) := fun m hm hc4 hcl h1 => by
          match st, hst, hsl, he, hcl, h1, on with
          | [], _, _, _, _, h1, _ => simp at h1
          | [a], _, _, _, _, h1, _ => simp at h1
          | b :: a :: r, hst, hsl, he, hcl, h1, on =>
            have hsl : r.length + 2 ≤ i := hsl
            have e1 : w32 ((((b :: a :: r).length : Nat) : Int) + (-1)) = ((r.length + 1 : Nat) : Int) := by
              have : (b :: a :: r).length = r.length + 2 := rfl
              rw [this, w32_id (by omega) (by omega)]
              omega
            have e2 : w32 (((r.length + 1 : Nat) : Int) - 1) = ((r.length : Nat) : Int) := by
              rw [w32_id (by omega) (by omega)]
              omega
            rw [e1, e2, Int.toNat_natCast, Int.toNat_natCast, show s1 (u + 2) r.length = a from hst.2.1, show s1 (u + 2) (r.length + 1) = b from hst.1]
            refine zC_q joined_ok (fun z hz => ?_)
            subst hz
            refine b_X4_valueOf_162 _ _ _ _ _ _ _ _ s1 hu (fun m2 hm2 => ?_)
            rw [Int.toNat_natCast]
            exact on m2 (jnd c a b :: r) _ _ _ (by omega) rfl (cEv_jn2 hc4 hcl) ⟨zu_eq _ _ _ _, stk_e r (fun j hj => zu_n (by omega)) hst.2.2⟩ (up _ _) (by show r.length + 1 ≤ i + 1; omega)
        have nt : ∀ (m : Nat) (y : Int), m < M → c = -4 → 0 < ((st.length : Nat) : Int) → ((s1 (u + 2) ((w32 (((st.length : Nat) : Int) - 1)).toNat) ≠ 0 ∧ y = 0) ∨ (s1 (u + 2) ((w32 (((st.length : Nat) : Int) - 1)).toNat) = 0 ∧ y = 1)) → zT (zE 521) (Pt PX4_valueOf) m (6, [((u : Nat) : Int), x1, x2, x3, ((st.length : Nat) : Int), w32 ((i : Int) + 1), c], [], zu s1 (u + 2) ((w32 (((st.length : Nat) : Int) - 1)).toNat) y) (fun r => r.1 = [(v, 0)] ∧ ∀ c j, c ≠ u + 2 → r.2 c j = s c j) := fun m y hm hc4 h1 hy => by
          match st, hst, hsl, he, h1, on, hy with
          | [], _, _, _, h1, _, _ => simp at h1
          | a :: r, hst, hsl, he, h1, on, hy =>
            have hsl : r.length + 1 ≤ i := hsl
            have e1 : w32 ((((a :: r).length : Nat) : Int) - 1) = ((r.length : Nat) : Int) := by
              have : (a :: r).length = r.length + 1 := rfl
              rw [this, w32_id (by omega) (by omega)]
              omega
            rw [e1, Int.toNat_natCast] at hy ⊢
            rw [show s1 (u + 2) r.length = a from hst.1] at hy
            have ey : y = if a = 0 then 1 else 0 := by
              rcases hy with ⟨h, rfl⟩ | ⟨h, rfl⟩
              · rw [if_neg h]
              · rw [if_pos h]
            refine on m (y :: r) _ _ _ hm rfl ?_ ⟨zu_eq _ _ _ _, stk_e r (fun j hj => zu_n (by omega)) hst.2⟩ (up _ _) (by show r.length + 1 ≤ i + 1; omega)
            rw [hc4, cEv_not, ← ey]
        have pu : ∀ (m : Nat) (y : Int), m < M → -3 ≤ c → ((st.length : Nat) : Int) < 24 → y = (if 0 ≤ c then c else if c = -1 then x1 else if c = -2 then x2 else x3) → zT (zE 521) (Pt PX4_valueOf) m (6, [((u : Nat) : Int), x1, x2, x3, w32 (((st.length : Nat) : Int) + 1), w32 ((i : Int) + 1), c], [], zu s1 (u + 2) (Int.toNat ((st.length : Nat) : Int)) y) (fun r => r.1 = [(v, 0)] ∧ ∀ c j, c ≠ u + 2 → r.2 c j = s c j) := fun m y hm h3 h24 hy => by
          rw [Int.toNat_natCast]
          refine on m (y :: st) _ _ _ hm (by rw [List.length_cons, w32_id (by omega) (by omega)]; omega) ?_ ⟨zu_eq _ _ _ _, stk_e st (fun j hj => zu_n (by omega)) hst⟩ (up _ _) (by rw [List.length_cons]; omega)
          unfold cEv1
          rw [if_pos ⟨h3, by omega⟩, hy]
        refine b_X4_valueOf_6 _ _ _ _ _ _ s1 hu (fun g => absurd g (by rw [hl1]; omega)) (fun _ a1 a2 a3 m hm => ?_) (fun _ a1 a2 a3 m hm => ?_) (fun _ a1 a2 a3 a4 m hm => ?_) (fun _ a1 a2 a3 a4 => absurd a4 (by omega)) (fun _ a1 a2 a3 a4 m hm => ?_) (fun _ a1 a2 a3 a4 m hm => ?_) (fun _ a1 a2 a3 a4 => absurd a4 (by omega)) (fun _ a1 a2 a3 a4 m hm => ?_) (fun _ a1 a2 a3 => absurd a3 (by omega)) (fun _ a1 a2 a3 => absurd a3 (by omega)) (fun _ a1 a2 a3 => absurd a3 (by omega)) (fun _ a1 a2 a3 => absurd a3 (by omega)) (fun _ a1 a2 a3 a4 a5 m hm => ?_) (fun _ a1 a2 a3 a4 a5 m hm => ?_) (fun _ a1 a2 a3 a4 m hm => ?_) (fun _ a1 a2 a3 m hm => ?_)
        all_goals simp only [e] at *
        · exact on m st _ _ s1 hm rfl (cEv_nop (by omega) (by omega) (fun q => absurd q a2)) hst f1 (by omega)
        · exact jn m hm a2 (by omega) a3
        · exact on m st _ _ s1 hm rfl (cEv_nop (by omega) (by omega) (fun _ => List.length_eq_zero_iff.mp (by omega))) hst f1 (by omega)
        · exact nt m _ hm a2 a3 (Or.inl ⟨a4, rfl⟩)
        · exact nt m _ hm a2 a3 (Or.inr ⟨a4, rfl⟩)
        · exact jn m hm a3 (by omega) a4
        · exact pu m _ hm a1 a2 (by rw [if_neg (by omega), if_neg a4, if_neg a5])
        · exact pu m _ hm a1 a2 (by rw [if_neg (by omega), if_neg a4, if_pos a5])
        · exact pu m _ hm a1 a2 (by rw [if_neg (by omega), if_pos a4])
        · exact pu m _ hm a1 a2 (by rw [if_pos a3])
  exact c_X4_valueOf (b_X4_valueOf_0 _ _ _ _ _ _ s hu (loop N q [] 0 _ s (Nat.zero_add _) (fun k c hk => by rw [Nat.zero_add]; exact hq k c hk) (fun _ _ _ => rfl) True.intro (Nat.le_refl 0) hv))
end Zpw
