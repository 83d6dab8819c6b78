/-! a law of price read by the class, whole: what it lays -/
section Zpx
variable {N t : Nat} {s : Zs} {T : Nat → Int} {n p : Nat} {x : PS} {D : ZD}
theorem aK_f {l : List (Bool × Bool)} (hp : p ≤ n) : aK T n p false l =
    if isSg T n (kB T n p) 43 = true ∨ isSg T n (kB T n p) 45 = true ∨ isSg T n (kB T n p) 42 = true then (if isSg T n (kB T n p) 43 = true then 20 else if isSg T n (kB T n p) 45 = true then 21 else 22) :: aK T n (kE T n p) true l
    else if (isSg T n (kB T n p) 60 = true ∨ isSg T n (kB T n p) 61 = true) ∧ cmpd l = false then (if isSg T n (kB T n p) 60 = true then 24 else 25) :: aK T n (kE T n p) true (setC true l)
    else if isKw T n (kB T n p) 23 = true ∨ isKw T n (kB T n p) 24 = true then (if isKw T n (kB T n p) 23 = true then 26 else 27) :: aK T n (kE T n p) true (setC false l)
    else if isSg T n (kB T n p) 41 = true ∧ 1 < l.length then 29 :: aK T n (kE T n p) false (popZ l.tail)
    else [] := by
  conv => lhs; unfold aK; rw [show n + 2 - p = (n + 1 - p) + 1 from by omega]; unfold aC
  split
  · rename_i c
    exact congrArg (List.cons _) (aK_on hp (fun q => by rcases c with c | c | c <;> (have := (isSg_q c).1; omega)) _ _)
  · split
    · rename_i c
      exact congrArg (List.cons _) (aK_on hp (fun q => by rcases c.1 with c | c <;> (have := (isSg_q c).1; omega)) _ _)
    · split
      · rename_i c
        exact congrArg (List.cons _) (aK_on hp (fun q => by rcases c with c | c <;> (have := (isKw_q c).1; omega)) _ _)
      · split
        · rename_i c
          exact congrArg (List.cons _) (aK_on hp (fun q => by have := (isSg_q c.1).1; omega) _ _)
        · rfl
theorem aKf_end {c : Bool} (hp : p ≤ n) (hj : nj T n 0 c p) : aK T n p false [(false, c)] = [] := by
  have n0 := hj 0 (by omega) (by omega) (by omega)
  have n2 := hj 2 (by omega) (by omega) (by omega)
  have n3 := hj 3 (by omega) (by omega) (by omega)
  have n1 := hj 1 (by omega) (by omega)
  simp only [jn] at n0 n1 n2 n3
  simp at n0 n1 n2 n3
  rw [aK_f hp, if_neg (by rw [n2.1, n2.2, n3]; simp), if_neg (fun q => by have := n1 q.2; rw [this.1, this.2] at q; simp at q), if_neg (by rw [n0.1, n0.2]; simp), if_neg (fun q => by have := q.2; simp at this)]
theorem SEM_ne {g q : List Int} (h : SEM 0 0 g q) : q ≠ [] := fun e => by
  obtain ⟨v, -, h1, -⟩ := h.2 (0, 0, 0) ⟨⟨by decide, by decide⟩, ⟨by decide, by decide⟩, ⟨by decide, by decide⟩⟩
  have h2 := h1 [] (by decide)
  rw [e] at h2
  have h2 : ([] : List Int) = [v] := h2
  cases h2
/-- the steps q lie in the town's law of price -/
def laid (s : Zs) (t : Nat) (q : List Int) : Prop := s (t + 29) 1 = ((q.length : Nat) : Int) ∧ q.length ≤ 1000 ∧ ∀ i c, q[i]? = some c → s (t + 30) i = c
theorem laid_e {s' : Zs} {q : List Int} (h : laid s t q) (e1 : s' (t + 29) 1 = s (t + 29) 1) (e2 : ∀ j, s' (t + 30) j = s (t + 30) j) : laid s' t q := ⟨e1.trans h.1, h.2.1, fun i c hi => (e2 i).trans (h.2.2 i c hi)⟩
/-- the law of price told so far -/
def prC (s : Zs) (t : Nat) (T : Nat → Int) (n : Nat) (D : ZD) : Prop := dPr D ≠ 0 → ∃ q, SEM 0 0 (aK T n ((dPr D).toNat - 1) true [(false, false)]) q ∧ laid s t q
theorem prC_U {s' : Zs} {D' : ZD} (h : prC s t T n D) (f : frU t s s') (ht : t = 7 ∨ t = 43) (e : dPr D' = dPr D) : prC s' t T n D' := fun q => by
  rw [e] at q ⊢
  obtain ⟨w, a, b⟩ := h q
  exact ⟨w, a, laid_e b (f _ _ (by omega) (by omega)) (fun j => f _ _ (by omega) (by omega))⟩
theorem pHouse_pr : dPr (pHouse T n x D).2 = dPr D := by unfold pHouse; dsimp only; split <;> rfl
theorem pFlight_pr : dPr (pFlight T n x D).2 = dPr D := by unfold pFlight; dsimp only; split <;> split <;> rfl
theorem pThing_pr : dPr (pThing T n x D).2 = dPr D := by unfold pThing; dsimp only; split <;> rfl
theorem pPerson_pr : dPr (pPerson T n x D).2 = dPr D := by unfold pPerson; dsimp only; split <;> rfl
theorem pHill_pr : dPr (pHill T n x D).2 = dPr D := by unfold pHill; dsimp only; split <;> rfl
theorem pHeap_pr : dPr (pHeap T n x D).2 = dPr D := rfl
theorem pWalk_pr : dPr (pWalk T n x D).2 = dPr D := rfl
theorem cPriceE {A : Zr → Prop} {i : Int} (ht : t = 7 ∨ t = 43) (h0 : x.1 = 0) (h : cP s t T n x D) (k : ∀ N' s', N' < N → frT t s s' → cP s' t T n (pPrice T n x D).1 (pPrice T n x D).2 → ((pPrice T n x D).1.1 = 0 → prC s' t T n (pPrice T n x D).2) → zT (zE 1153) (Pt PX9_read) N' (13, [((4 : Nat) : Int), ((t : Nat) : Int), w32 (i + 1)], [], s') A) : zC N 516 [((((t + 29) : Nat) : Int), 0)] s (fun p => zT (zE 1153) (Pt PX9_read) N (255, [((4 : Nat) : Int), ((t : Nat) : Int), i], p.1 ++ [(((4 : Nat) : Int), 0)], p.2) A) := by
  have hu : t + 29 = 36 ∨ t + 29 = 72 := by omega
  have hD := h.2.2.2.1 h0
  have hD0 : 0 ≤ s (t + 29) 1 := hD.2.2.1
  have go : ∀ v : Int, (v = 0 ↔ decide (dPr D ≠ 0) = false) → zT (zE 1153) (Pt PX9_read) N (255, [((4 : Nat) : Int), ((t : Nat) : Int), i], [(v, 0), (((4 : Nat) : Int), 0)], s) A := fun v hv => by
    refine b_X9_read_255 _ _ s ht (fun m hm => ?_)
    refine cOn ht h0 hv h (fun s1 f1 h1 => ?_)
    refine b_X9_read_258 _ s1 ht (fun m2 hm2 => ?_)
    have x1n := h1.1.2.2.1
    by_cases hx : (gOn T n (decide (dPr D ≠ 0)) x).1 = 0
    · have hs1 := (h1.2.2.2.1 hx).2.2.1
      have hp0 : dPr D = 0 := Decidable.byContradiction fun q => by
        unfold gOn at hx
        rw [if_pos (decide_eq_true q)] at hx
        exact gF_ne (by decide) h0 hx
      have hz1 : s1 (t + 29) 1 = 0 := (h1.2.2.2.1 hx).2.2.2.mpr hp0
      refine zC_q ((rd_okE (T := T) (n := n) hu m2).2 0 0 false [] (gOn T n (decide (dPr D ≠ 0)) x) s1 (by omega) (by omega) rfl (fun _ => rfl) h1.1 hx hs1 (by rw [hz1]; omega)) (fun r hr => ?_)
      obtain ⟨r1, s2⟩ := r
      obtain ⟨e, f2, y, py, hle, hs2, hb2, hbad, hgood⟩ := hr
      have e : r1 = [] := e
      subst e
      have f2 : prF (t + 29) s1 s2 := f2
      have py : pst s2 T n y := py
      have hb2 : s2 (t + 29) 1 + (((gOn T n (decide (dPr D ≠ 0)) x).2 : Nat) : Int) ≤ s1 (t + 29) 1 + (y.2 : Int) := hb2
      have hgood : y.1 = 0 → ∃ g q, RLvE T n (gOn T n (decide (dPr D ≠ 0)) x) [(false, false)] 0 false [] 0 y g q ∧ emS (t + 29) s1 s2 q := hgood
      refine b_X9_read_271 _ s2 ht (fun m3 hm3 => ?_)
      refine zC_q (takeSign_ok (c := 59) py) (fun r hr => ?_)
      obtain ⟨r1, s3⟩ := r
      obtain ⟨e, f3, py3⟩ := hr
      have e : r1 = [] := e
      subst e
      have f3 : frF s2 s3 := f3
      have py3 : pst s3 T n (gS T n 59 y) := py3
      have ey : gS T n 59 y = (pPrice T n x D).1 := by
        have e1 : (pPrice T n x D).1 = aR T n (gOn T n (decide (dPr D ≠ 0)) x).2 true [(false, false)] := if_pos hx
        rw [e1]
        by_cases hy : y.1 = 0
        · obtain ⟨g0, q0, ⟨c', r1, -, r2, -, -⟩, -⟩ := hgood hy
          rw [r1, aRf_end py.2.2.1 r2]
          obtain ⟨y1, y2⟩ := y
          have : y1 = 0 := hy
          rw [this]
        · rw [hbad hy, gS_nz hy]
      rw [ey] at py3
      have fo : ∀ c j, c ≠ 1 → ¬ (c = t + 29 ∧ j = 1) → c ≠ t + 30 → s3 c j = s1 c j := fun c j a b d => by
        rw [f3 c j (by omega), f2 c j (by omega) b (by omega)]
      have ft : frT t s1 s3 := fun c j a b => by
        rw [f3 c j a, f2 c j a (by omega) (by omega)]
      refine b_X9_read_280 _ s3 ht (fun m4 hm4 => ?_)
      have lay : y.1 = 0 → ∃ q, SEM 0 0 (aK T n (gOn T n (decide (dPr D ≠ 0)) x).2 true [(false, false)]) q ∧ laid s3 t q := fun hy => by
        obtain ⟨g0, q0, ⟨c', r1, rk, r2, -, sm⟩, em⟩ := hgood hy
        have rk : aK T n (gOn T n (decide (dPr D ≠ 0)) x).2 true [(false, false)] = g0 ++ aK T n y.2 false [(false, c')] := rk
        rw [aKf_end py.2.2.1 r2, List.append_nil] at rk
        have e1 : s2 (t + 29) 1 = s1 (t + 29) 1 + ((q0.length : Nat) : Int) := em.1
        have e2 : ∀ i c, q0[i]? = some c → s2 (t + 29 + 1) ((s1 (t + 29) 1).toNat + i) = c := em.2.1
        have hyn : y.2 ≤ n := py.2.2.1
        have hn : n ≤ 1000 := py.2.1.2.1
        rw [hz1] at e1 e2 hb2
        refine ⟨q0, by rw [rk]; exact sm, ?_, by omega, fun i c hi => ?_⟩
        · rw [f3 _ _ (by omega), e1]; exact Int.zero_add _
        · rw [f3 _ _ (by omega)]
          have e3 : s2 (t + 30) (0 + i) = c := e2 i c hi
          rw [Nat.zero_add] at e3
          exact e3
      refine k m4 s3 (by omega) (frT_tr (frU_T f1) ft) ⟨py3, cDn_out (D := D) h1.2.2.1 (fun c j hc => fo c j (by omega) (by omega) (by omega)) h1.2.1, h1.2.2.1, fun q => ?_, fun j => by rw [fo 1000 j (by omega) (by omega) (by omega)]; exact h1.2.2.2.2 j⟩ (fun q => ?_)
      · obtain ⟨d1, d2, d3, d4⟩ := h1.2.2.2.1 hx
        have hy : y.1 = 0 := by rw [← ey] at q; exact gS_z q
        obtain ⟨q0, sm, l1, -⟩ := lay hy
        have p1 : 1 ≤ q0.length := List.length_pos_iff.mpr (SEM_ne sm)
        refine ⟨by rw [fo t 5 (by omega) (by omega) (by omega)]; exact d1, by rw [fo t 6 (by omega) (by omega) (by omega)]; exact d2, by omega, ?_⟩
        have e1 : dPr (pPrice T n x D).2 = (((gOn T n (decide (dPr D ≠ 0)) x).2 + 1 : Nat) : Int) := rfl
        rw [e1]
        omega
      · have hy : y.1 = 0 := by rw [← ey] at q; exact gS_z q
        intro _
        have e1 : dPr (pPrice T n x D).2 = (((gOn T n (decide (dPr D ≠ 0)) x).2 + 1 : Nat) : Int) := rfl
        rw [e1, Int.toNat_natCast, Nat.add_sub_cancel]
        exact lay hy
    · refine zC_q ((rf_ok hu m2 s1 h1.1 hx).2 0 (by omega) 0) (fun r hr => ?_)
      obtain ⟨r1, s2⟩ := r
      obtain ⟨e, f2, py⟩ := hr
      have e : r1 = [] := e
      subst e
      have f2 : frF s1 s2 := f2
      refine b_X9_read_271 _ s2 ht (fun m3 hm3 => ?_)
      have h2 : cP s2 t T n (gOn T n (decide (dPr D ≠ 0)) x) (pPrice T n x D).2 := by
        have := cP_F ht h1 f2 py (fun q => q)
        exact ⟨this.1, this.2.1, this.2.2.1, fun q => absurd q hx, this.2.2.2.2⟩
      refine cS (c := 59) ht h2 (fun s4 f4 h4 => ?_)
      refine b_X9_read_280 _ s4 ht (fun m4 hm4 => ?_)
      have ey : gS T n 59 (gOn T n (decide (dPr D ≠ 0)) x) = (pPrice T n x D).1 := by
        have e1 : (pPrice T n x D).1 = gOn T n (decide (dPr D ≠ 0)) x := if_neg hx
        rw [e1, gS_nz hx]
      rw [ey] at h4
      exact k m4 s4 (by omega) (frT_tr (frU_T f1) (frT_tr (frT_F f2) (frU_T f4))) h4 (fun q => absurd (by rw [← ey, gS_nz hx] at q; exact q) hx)
  refine c_X4_isTold (b_X4_isTold_0 s hu (fun g => ?_) (fun g => ?_))
  · refine go 0 ⟨fun _ => decide_eq_false (fun q => q (hD.2.2.2.mp (by omega))), fun _ => rfl⟩
  · refine go 1 ⟨fun q => absurd q (by decide), fun q => ?_⟩
    have q := of_decide_eq_false q
    exact absurd (hD.2.2.2.mpr (Decidable.byContradiction q)) (by omega)
end Zpx
