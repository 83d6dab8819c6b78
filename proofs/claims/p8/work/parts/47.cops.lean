/-! taking tokens: the fault, and where the token that comes now is read from -/
abbrev PS : Type := Int × Nat
def gF (T : Nat → Int) (n : Nat) (k : Int) (x : PS) : PS := if x.1 = 0 then (k + 16 * (kB T n x.2 : Int), x.2) else x
def gNx (T : Nat → Int) (n : Nat) (x : PS) : PS := if x.1 = 0 then (0, kE T n x.2) else x
def gW (T : Nat → Int) (n i : Nat) (x : PS) : PS := if eQ T n (kB T n x.2) = 2 ∧ eW T n (kB T n x.2) = KW i then gNx T n x else gF T n 1 x
def gS (T : Nat → Int) (n : Nat) (c : Int) (x : PS) : PS := if eQ T n (kB T n x.2) = 4 ∧ T (kB T n x.2) = c then gNx T n x else gF T n 1 x
def gN (T : Nat → Int) (n : Nat) (lo hi : Int) (x : PS) : PS := if eQ T n (kB T n x.2) = 3 then (if lo ≤ eM T n (kB T n x.2) ∧ eM T n (kB T n x.2) ≤ hi then gNx T n x else gF T n 4 x) else gF T n 1 x
def isNm (T : Nat → Int) (n b : Nat) : Bool := decide (eQ T n b = 2) && (decide (kwi (eW T n b) = -1) || decide (25 ≤ kwi (eW T n b)))
def gNm (T : Nat → Int) (n : Nat) (x : PS) : PS := if isNm T n (kB T n x.2) = true then x else gF T n 1 x
def gNh (T : Nat → Int) (n : Nat) (x : PS) : PS := if eQ T n (kB T n x.2) = 3 then x else gF T n 1 x
def pst (s : Zs) (T : Nat → Int) (n : Nat) (x : PS) : Prop := s 1 1 = x.1 ∧ tkS s T n ∧ x.2 ≤ n ∧ 0 ≤ x.1 ∧ (x.1 = 0 → tkA s T n (kB T n x.2))
def frF (s s' : Zs) : Prop := ∀ c j, ¬ (c = 1 ∧ (j = 1 ∨ 4 ≤ j)) → s' c j = s c j
theorem frF_rf (s : Zs) : frF s s := fun _ _ _ => rfl
theorem frF_tr {s s' s'' : Zs} (h1 : frF s s') (h2 : frF s' s'') : frF s s'' := fun c j h => (h2 c j h).trans (h1 c j h)
theorem frF_K {s s' : Zs} (h : frK s s') : frF s s' := fun c j hc => h c j (fun e => hc ⟨e.1, Or.inr e.2⟩)
theorem tkS_f1 {s : Zs} {T : Nat → Int} {n : Nat} {v : Int} (t : tkS s T n) : tkS (zu s 1 1 v) T n := t
theorem gF_nz {T : Nat → Int} {n : Nat} {k : Int} {x : PS} (h : x.1 ≠ 0) : gF T n k x = x := if_neg h
theorem gNx_nz {T : Nat → Int} {n : Nat} {x : PS} (h : x.1 ≠ 0) : gNx T n x = x := if_neg h
theorem gW_nz {T : Nat → Int} {n i : Nat} {x : PS} (h : x.1 ≠ 0) : gW T n i x = x := by unfold gW; rw [gF_nz h, gNx_nz h]; split <;> rfl
theorem gS_nz {T : Nat → Int} {n : Nat} {c : Int} {x : PS} (h : x.1 ≠ 0) : gS T n c x = x := by unfold gS; rw [gF_nz h, gNx_nz h]; split <;> rfl
theorem gN_nz {T : Nat → Int} {n : Nat} {lo hi : Int} {x : PS} (h : x.1 ≠ 0) : gN T n lo hi x = x := by
  unfold gN
  rw [gF_nz h, gF_nz h, gNx_nz h]
  split
  · split <;> rfl
  · rfl
theorem gNm_nz {T : Nat → Int} {n : Nat} {x : PS} (h : x.1 ≠ 0) : gNm T n x = x := by unfold gNm; rw [gF_nz h]; split <;> rfl
theorem gNh_nz {T : Nat → Int} {n : Nat} {x : PS} (h : x.1 ≠ 0) : gNh T n x = x := by unfold gNh; rw [gF_nz h]; split <;> rfl
theorem kB_bd {T : Nat → Int} {n p : Nat} (h : p ≤ n) : kB T n p ≤ n := (kE_bd (T := T) h).2.1
theorem gF_pos {T : Nat → Int} {n : Nat} {k : Int} (hk : 1 ≤ k) {x : PS} (h : 0 ≤ x.1) : 0 ≤ (gF T n k x).1 := by
  unfold gF
  split
  · show 0 ≤ k + 16 * _; omega
  · exact h
/-- the next token -/
theorem pst_next {s s' : Zs} {T : Nat → Int} {n : Nat} {x : PS} (h : pst s T n x) (h0 : x.1 = 0) (q : qNx s T n (kB T n (kE T n x.2)) ([], s')) : frF s s' ∧ pst s' T n (gNx T n x) := by
  obtain ⟨h1, h2, h3, h4, h5⟩ := h
  obtain ⟨-, q2, q3⟩ := q
  have q2 : frK s s' := q2
  refine ⟨frF_K q2, ?_⟩
  unfold gNx
  rw [if_pos h0]
  exact ⟨(q2 1 1 (by omega)).trans (h1.trans h0), tkS_fr h2 q2, (kE_bd (T := T) h3).2.2.2, Int.le_refl 0, fun _ => q3⟩
theorem pst_nextC {N : Nat} {s : Zs} {T : Nat → Int} {n : Nat} {x : PS} {Q : Zr → Prop} (h : pst s T n x) (h0 : x.1 = 0) (k : ∀ s', frF s s' → pst s' T n (gNx T n x) → Q ([], s')) : zC N 910 [(((1 : Nat) : Int), 0)] s Q := by
  refine zC_q (next_ok h.2.1 (p := kE T n x.2) (h.2.2.2.2 h0).2.1 (kE_bd (T := T) h.2.2.1).2.2.2) (fun q hq => ?_)
  obtain ⟨q1, q2⟩ := q
  have e : q1 = [] := hq.1
  subst e
  obtain ⟨z1, z2⟩ := pst_next h h0 hq
  exact k q2 z1 z2
/-- a fault -/
theorem pst_fail {s : Zs} {T : Nat → Int} {n : Nat} {x : PS} {k : Int} (hk : 1 ≤ k ∧ k ≤ 5) (h : pst s T n x) (h0 : x.1 = 0) : pst (zu s 1 1 (w32 (k + w32 (16 * s 1 5)))) T n (gF T n k x) ∧ frF s (zu s 1 1 (w32 (k + w32 (16 * s 1 5)))) := by
  obtain ⟨h1, h2, h3, h4, h5⟩ := h
  have hb := kB_bd (T := T) h3
  have h5' : s 1 5 = (kB T n x.2 : Int) := (h5 h0).1
  have hn := h2.2.1
  have e : w32 (k + w32 (16 * s 1 5)) = k + 16 * (kB T n x.2 : Int) := by
    rw [h5', w32_id (z := 16 * (kB T n x.2 : Int)) (by omega) (by omega), w32_id (by omega) (by omega)]
  refine ⟨?_, fun c j hc => zu_n (fun q => hc ⟨q.1, Or.inl q.2⟩)⟩
  unfold gF
  rw [if_pos h0, e]
  exact ⟨rfl, tkS_f1 h2, h3, by show 0 ≤ k + 16 * (kB T n x.2 : Int); omega, fun q => by exfalso; have q : k + 16 * (kB T n x.2 : Int) = 0 := q; omega⟩
theorem gF_ne {T : Nat → Int} {n : Nat} {k : Int} (hk : 1 ≤ k) {x : PS} (h0 : x.1 = 0) : (gF T n k x).1 ≠ 0 := by
  unfold gF
  rw [if_pos h0]
  show k + 16 * (kB T n x.2 : Int) ≠ 0
  omega
theorem b_X7_isWord_0 {n : Nat} {Q : Zr → Prop} (x1 : Int) (s : Zs) 
    (h0 : ∀ (g2 : s 1 1 ≠ 0), ∀ (g3 : (-1) ≠ x1), Q ([(0, 0)], s))
    (h1 : ∀ (g2 : s 1 1 ≠ 0), ∀ (g3 : (-1) = x1), Q ([(1, 0)], s))
    (h2 : ∀ (g4 : s 1 1 = 0), ∀ (g5 : s 1 4 ≠ 2), ∀ (g6 : (-1) ≠ x1), Q ([(0, 0)], s))
    (h3 : ∀ (g4 : s 1 1 = 0), ∀ (g5 : s 1 4 ≠ 2), ∀ (g6 : (-1) = x1), Q ([(1, 0)], s))
    (h4 : ∀ (g7 : s 1 1 = 0), ∀ (g8 : s 1 4 = 2), ∀ (g9 : s 1 8 ≠ x1), Q ([(0, 0)], s))
    (h5 : ∀ (g7 : s 1 1 = 0), ∀ (g8 : s 1 4 = 2), ∀ (g9 : s 1 8 = x1), Q ([(1, 0)], s)) : zT (zE 906) (Pt PX7_isWord) n (0, [((1 : Nat) : Int), x1], [], s) Q := by
  refine tL ((1 : Nat) : Int) 0 rfl rfl rfl ?_
  refine tCall [(((1 : Nat) : Int), 0)] [] rfl rfl rfl (fun m1 l1 => c_X7_keyHere (b_X7_keyHere_0  s ?_ ?_ ?_))
  · intro g2
    show zT (zE 906) (Pt PX7_isWord) m1 (4, [((1 : Nat) : Int), x1], [((-1), 0)], s) Q
    refine tL x1 0 rfl rfl rfl ?_
    refine tJ1 rfl (fun g3 _ l3 => zT_le ?_ (Nat.le_of_lt l3)) (fun g3 _ l3 => zT_le ?_ (Nat.le_of_lt l3))
    · refine tK rfl ?_
      exact tR rfl (h0 g2 g3)
    · refine tK rfl ?_
      refine tG rfl ?_
      exact tR rfl (h1 g2 g3)
  · intro g4 g5
    show zT (zE 906) (Pt PX7_isWord) m1 (4, [((1 : Nat) : Int), x1], [((-1), 0)], s) Q
    refine tL x1 0 rfl rfl rfl ?_
    refine tJ1 rfl (fun g6 _ l6 => zT_le ?_ (Nat.le_of_lt l6)) (fun g6 _ l6 => zT_le ?_ (Nat.le_of_lt l6))
    · refine tK rfl ?_
      exact tR rfl (h2 g4 g5 g6)
    · refine tK rfl ?_
      refine tG rfl ?_
      exact tR rfl (h3 g4 g5 g6)
  · intro g7 g8
    show zT (zE 906) (Pt PX7_isWord) m1 (4, [((1 : Nat) : Int), x1], [(s 1 8, 0)], s) Q
    refine tL x1 0 rfl rfl rfl ?_
    refine tJ1 rfl (fun g9 _ l9 => zT_le ?_ (Nat.le_of_lt l9)) (fun g9 _ l9 => zT_le ?_ (Nat.le_of_lt l9))
    · refine tK rfl ?_
      exact tR rfl (h4 g7 g8 g9)
    · refine tK rfl ?_
      refine tG rfl ?_
      exact tR rfl (h5 g7 g8 g9)

theorem c_X7_isWord {n : Nat} {Q : Zr → Prop} {a0 a1 : Int} {s : Zs} (h : zT (zE 906) (Pt PX7_isWord) n (0, [a0, a1], [], s) Q) : zC n 906 [(a0, 0), (a1, 0)] s Q := h

theorem b_X7_numberHere_0 {n : Nat} {Q : Zr → Prop} (s : Zs) 
    (h0 : ∀ (g2 : s 1 1 ≠ 0), Q ([((-1), 0)], s))
    (h1 : ∀ (g6 : s 1 1 = 0), ∀ (g7 : s 1 4 ≠ 3), Q ([((-1), 0)], zu s 1 1 (w32 (1 + (w32 (16 * (s 1 5)))))))
    (h2 : ∀ (g11 : s 1 1 = 0), ∀ (g12 : s 1 4 = 3), Q ([(s 1 9, 0)], s)) : zT (zE 911) (Pt PX7_numberHere) n (0, [((1 : Nat) : Int)], [], s) Q := by
  refine tL ((1 : Nat) : Int) 0 rfl rfl rfl ?_
  refine tCall [(((1 : Nat) : Int), 0)] [] rfl rfl rfl (fun m1 l1 => c_X7_isNumber (b_X7_isNumber_0  s ?_ ?_ ?_))
  · intro g2
    show zT (zE 911) (Pt PX7_numberHere) m1 (4, [((1 : Nat) : Int)], [(0, 0)], s) Q
    refine tI1 rfl (fun g _ l => (absurd g (by decide))) (fun g _ l => zT_le ?_ (Nat.le_of_lt l))
    refine tL ((1 : Nat) : Int) 0 rfl rfl rfl ?_
    refine tK rfl ?_
    refine tCall [(((1 : Nat) : Int), 0), (1, 0)] [] rfl rfl rfl (fun m3 l3 => c_X7_fail (b_X7_fail_0 1 s ?_ ?_))
    · intro g4
      show zT (zE 911) (Pt PX7_numberHere) m3 (12, [((1 : Nat) : Int)], [], s) Q
      refine tK rfl ?_
      exact tR rfl (h0 g2)
    · exact fun (g5 : s 1 1 = 0)  => False.elim (by omega)
  · intro g6 g7
    show zT (zE 911) (Pt PX7_numberHere) m1 (4, [((1 : Nat) : Int)], [(0, 0)], s) Q
    refine tI1 rfl (fun g _ l => (absurd g (by decide))) (fun g _ l => zT_le ?_ (Nat.le_of_lt l))
    refine tL ((1 : Nat) : Int) 0 rfl rfl rfl ?_
    refine tK rfl ?_
    refine tCall [(((1 : Nat) : Int), 0), (1, 0)] [] rfl rfl rfl (fun m8 l8 => c_X7_fail (b_X7_fail_0 1 s ?_ ?_))
    · exact fun (g9 : s 1 1 ≠ 0)  => False.elim (by omega)
    · intro g10
      show zT (zE 911) (Pt PX7_numberHere) m8 (12, [((1 : Nat) : Int)], [], zu s 1 1 (w32 (1 + (w32 (16 * (s 1 5)))))) Q
      refine tK rfl ?_
      exact tR rfl (h1 g6 g7)
  · intro g11 g12
    show zT (zE 911) (Pt PX7_numberHere) m1 (4, [((1 : Nat) : Int)], [(1, 0)], s) Q
    refine tI1 rfl (fun g _ l => zT_le ?_ (Nat.le_of_lt l)) (fun g _ l => (absurd g (by decide)))
    refine tL ((1 : Nat) : Int) 0 rfl rfl rfl ?_
    refine tFv (c := 1) (s 1 9) 0 rfl rfl rfl rfl rfl ?_
    exact tR rfl (h2 g11 g12)

theorem c_X7_numberHere {n : Nat} {Q : Zr → Prop} {a0 : Int} {s : Zs} (h : zT (zE 911) (Pt PX7_numberHere) n (0, [a0], [], s) Q) : zC n 911 [(a0, 0)] s Q := h

theorem b_X7_nameHere_0 {n : Nat} {Q : Zr → Prop} (s : Zs) 
    (h0 : ∀ (g1 : s 1 1 ≠ 0), Q ([(0, 1)], s))
    (h1 : ∀ (g1 : s 1 1 = 0), ∀ (g5 : s 1 4 ≠ 2), Q ([(0, 1)], zu s 1 1 (w32 (1 + (w32 (16 * (s 1 5)))))))
    (h2 : ∀ (g1 : s 1 1 = 0), ∀ (g5 : s 1 4 = 2), ∀ (g9 : s 1 8 = (-1)), Q ([(s 1 7, 1)], s))
    (h3 : ∀ (g1 : s 1 1 = 0), ∀ (g5 : s 1 4 = 2), ∀ (g9 : s 1 8 ≠ (-1)), ∀ (g10 : s 1 8 < 25), Q ([(0, 1)], zu s 1 1 (w32 (1 + (w32 (16 * (s 1 5)))))))
    (h4 : ∀ (g1 : s 1 1 = 0), ∀ (g5 : s 1 4 = 2), ∀ (g9 : s 1 8 ≠ (-1)), ∀ (g10 : 25 ≤ s 1 8), Q ([(s 1 7, 1)], s)) : zT (zE 909) (Pt PX7_nameHere) n (0, [((1 : Nat) : Int)], [], s) Q := by
  refine tL ((1 : Nat) : Int) 0 rfl rfl rfl ?_
  refine tFv (c := 1) (s 1 1) 0 rfl rfl rfl rfl rfl ?_
  refine tI1 rfl (fun g1 _ l1 => zT_le ?_ (Nat.le_of_lt l1)) (fun g1 _ l1 => zT_le ?_ (Nat.le_of_lt l1))
  · refine tL ((1 : Nat) : Int) 0 rfl rfl rfl ?_
    refine tK rfl ?_
    refine tCall [(((1 : Nat) : Int), 0), (1, 0)] [] rfl rfl rfl (fun m2 l2 => c_X7_fail (b_X7_fail_0 1 s ?_ ?_))
    · intro g3
      show zT (zE 909) (Pt PX7_nameHere) m2 (42, [((1 : Nat) : Int)], [], s) Q
      refine tKL rfl ?_
      exact tR rfl (h0 g1)
    · exact fun (g4 : s 1 1 = 0)  => False.elim (by omega)
  · refine tL ((1 : Nat) : Int) 0 rfl rfl rfl ?_
    refine tFv (c := 1) (s 1 4) 0 rfl rfl rfl rfl rfl ?_
    refine tK rfl ?_
    refine tJ1 rfl (fun g5 _ l5 => zT_le ?_ (Nat.le_of_lt l5)) (fun g5 _ l5 => zT_le ?_ (Nat.le_of_lt l5))
    · refine tL ((1 : Nat) : Int) 0 rfl rfl rfl ?_
      refine tK rfl ?_
      refine tCall [(((1 : Nat) : Int), 0), (1, 0)] [] rfl rfl rfl (fun m6 l6 => c_X7_fail (b_X7_fail_0 1 s ?_ ?_))
      · exact fun (g7 : s 1 1 ≠ 0)  => False.elim (by omega)
      · intro g8
        show zT (zE 909) (Pt PX7_nameHere) m6 (42, [((1 : Nat) : Int)], [], zu s 1 1 (w32 (1 + (w32 (16 * (s 1 5)))))) Q
        refine tKL rfl ?_
        exact tR rfl (h1 g1 g5)
    · refine tL ((1 : Nat) : Int) 0 rfl rfl rfl ?_
      refine tFv (c := 1) (s 1 8) 0 rfl rfl rfl rfl rfl ?_
      refine tK rfl ?_
      refine tJ0 rfl (fun g9 _ l9 => zT_le ?_ (Nat.le_of_lt l9)) (fun g9 _ l9 => zT_le ?_ (Nat.le_of_lt l9))
      · refine tL ((1 : Nat) : Int) 0 rfl rfl rfl ?_
        refine tFv (c := 1) (s 1 7) 1 rfl rfl rfl rfl rfl ?_
        exact tR rfl (h2 g1 g5 g9)
      · refine tL ((1 : Nat) : Int) 0 rfl rfl rfl ?_
        refine tFv (c := 1) (s 1 8) 0 rfl rfl rfl rfl rfl ?_
        refine tK rfl ?_
        refine tJ2 rfl (fun g10 _ l10 => zT_le ?_ (Nat.le_of_lt l10)) (fun g10 _ l10 => zT_le ?_ (Nat.le_of_lt l10))
        · refine tL ((1 : Nat) : Int) 0 rfl rfl rfl ?_
          refine tK rfl ?_
          refine tCall [(((1 : Nat) : Int), 0), (1, 0)] [] rfl rfl rfl (fun m11 l11 => c_X7_fail (b_X7_fail_0 1 s ?_ ?_))
          · exact fun (g12 : s 1 1 ≠ 0)  => False.elim (by omega)
          · intro g13
            show zT (zE 909) (Pt PX7_nameHere) m11 (42, [((1 : Nat) : Int)], [], zu s 1 1 (w32 (1 + (w32 (16 * (s 1 5)))))) Q
            refine tKL rfl ?_
            exact tR rfl (h3 g1 g5 g9 g10)
        · refine tL ((1 : Nat) : Int) 0 rfl rfl rfl ?_
          refine tFv (c := 1) (s 1 7) 1 rfl rfl rfl rfl rfl ?_
          exact tR rfl (h4 g1 g5 g9 g10)

theorem c_X7_nameHere {n : Nat} {Q : Zr → Prop} {a0 : Int} {s : Zs} (h : zT (zE 909) (Pt PX7_nameHere) n (0, [a0], [], s) Q) : zC n 909 [(a0, 0)] s Q := h

theorem b_X7_takeWord_0 {n : Nat} {Q : Zr → Prop} (x1 : Int) (s : Zs) 
    (h0 : ∀ (g2 : s 1 1 ≠ 0), ∀ (g3 : (-1) ≠ x1), Q ([], s))
    (h1 : ∀ (g7 : s 1 1 ≠ 0), ∀ (g8 : (-1) = x1), ∀ m, m < n → zC m 910 [(((1 : Nat) : Int), 0)] s (fun p => zT (zE 916) (Pt PX7_takeWord) m (12, [((1 : Nat) : Int), x1], p.1 ++ [], p.2) Q))
    (h2 : ∀ (g10 : s 1 1 = 0), ∀ (g11 : s 1 4 ≠ 2), ∀ (g12 : (-1) ≠ x1), Q ([], zu s 1 1 (w32 (1 + (w32 (16 * (s 1 5)))))))
    (h3 : ∀ (g16 : s 1 1 = 0), ∀ (g17 : s 1 4 ≠ 2), ∀ (g18 : (-1) = x1), ∀ m, m < n → zC m 910 [(((1 : Nat) : Int), 0)] s (fun p => zT (zE 916) (Pt PX7_takeWord) m (12, [((1 : Nat) : Int), x1], p.1 ++ [], p.2) Q))
    (h4 : ∀ (g20 : s 1 1 = 0), ∀ (g21 : s 1 4 = 2), ∀ (g22 : s 1 8 ≠ x1), Q ([], zu s 1 1 (w32 (1 + (w32 (16 * (s 1 5)))))))
    (h5 : ∀ (g26 : s 1 1 = 0), ∀ (g27 : s 1 4 = 2), ∀ (g28 : s 1 8 = x1), ∀ m, m < n → zC m 910 [(((1 : Nat) : Int), 0)] s (fun p => zT (zE 916) (Pt PX7_takeWord) m (12, [((1 : Nat) : Int), x1], p.1 ++ [], p.2) Q)) : zT (zE 916) (Pt PX7_takeWord) n (0, [((1 : Nat) : Int), x1], [], s) Q := by
  refine tL ((1 : Nat) : Int) 0 rfl rfl rfl ?_
  refine tL x1 0 rfl rfl rfl ?_
  refine tCall [(((1 : Nat) : Int), 0), (x1, 0)] [] rfl rfl rfl (fun m1 l1 => c_X7_isWord (b_X7_isWord_0 x1 s ?_ ?_ ?_ ?_ ?_ ?_))
  · intro g2 g3
    show zT (zE 916) (Pt PX7_takeWord) m1 (5, [((1 : Nat) : Int), x1], [(0, 0)], s) Q
    refine tI0 rfl (fun g _ l => zT_le ?_ (Nat.le_of_lt l)) (fun g _ l => (absurd g (by decide)))
    refine tL ((1 : Nat) : Int) 0 rfl rfl rfl ?_
    refine tK rfl ?_
    refine tCall [(((1 : Nat) : Int), 0), (1, 0)] [] rfl rfl rfl (fun m4 l4 => c_X7_fail (b_X7_fail_0 1 s ?_ ?_))
    · intro g5
      show zT (zE 916) (Pt PX7_takeWord) m4 (20, [((1 : Nat) : Int), x1], [], s) Q
      exact tR rfl (h0 g2 g3)
    · exact fun (g6 : s 1 1 = 0)  => False.elim (by omega)
  · intro g7 g8
    show zT (zE 916) (Pt PX7_takeWord) m1 (5, [((1 : Nat) : Int), x1], [(1, 0)], s) Q
    refine tI0 rfl (fun g _ l => (absurd g (by decide))) (fun g _ l => zT_le ?_ (Nat.le_of_lt l))
    refine tL ((1 : Nat) : Int) 0 rfl rfl rfl ?_
    exact tCall [(((1 : Nat) : Int), 0)] [] rfl rfl rfl (fun m l => h1 g7 g8 m (Nat.lt_of_lt_of_le l (Nat.le_trans (Nat.le_of_lt l1) (Nat.le_refl n))))
  · intro g10 g11 g12
    show zT (zE 916) (Pt PX7_takeWord) m1 (5, [((1 : Nat) : Int), x1], [(0, 0)], s) Q
    refine tI0 rfl (fun g _ l => zT_le ?_ (Nat.le_of_lt l)) (fun g _ l => (absurd g (by decide)))
    refine tL ((1 : Nat) : Int) 0 rfl rfl rfl ?_
    refine tK rfl ?_
    refine tCall [(((1 : Nat) : Int), 0), (1, 0)] [] rfl rfl rfl (fun m13 l13 => c_X7_fail (b_X7_fail_0 1 s ?_ ?_))
    · exact fun (g14 : s 1 1 ≠ 0)  => False.elim (by omega)
    · intro g15
      show zT (zE 916) (Pt PX7_takeWord) m13 (20, [((1 : Nat) : Int), x1], [], zu s 1 1 (w32 (1 + (w32 (16 * (s 1 5)))))) Q
      exact tR rfl (h2 g10 g11 g12)
  · intro g16 g17 g18
    show zT (zE 916) (Pt PX7_takeWord) m1 (5, [((1 : Nat) : Int), x1], [(1, 0)], s) Q
    refine tI0 rfl (fun g _ l => (absurd g (by decide))) (fun g _ l => zT_le ?_ (Nat.le_of_lt l))
    refine tL ((1 : Nat) : Int) 0 rfl rfl rfl ?_
    exact tCall [(((1 : Nat) : Int), 0)] [] rfl rfl rfl (fun m l => h3 g16 g17 g18 m (Nat.lt_of_lt_of_le l (Nat.le_trans (Nat.le_of_lt l1) (Nat.le_refl n))))
  · intro g20 g21 g22
    show zT (zE 916) (Pt PX7_takeWord) m1 (5, [((1 : Nat) : Int), x1], [(0, 0)], s) Q
    refine tI0 rfl (fun g _ l => zT_le ?_ (Nat.le_of_lt l)) (fun g _ l => (absurd g (by decide)))
    refine tL ((1 : Nat) : Int) 0 rfl rfl rfl ?_
    refine tK rfl ?_
    refine tCall [(((1 : Nat) : Int), 0), (1, 0)] [] rfl rfl rfl (fun m23 l23 => c_X7_fail (b_X7_fail_0 1 s ?_ ?_))
    · exact fun (g24 : s 1 1 ≠ 0)  => False.elim (by omega)
    · intro g25
      show zT (zE 916) (Pt PX7_takeWord) m23 (20, [((1 : Nat) : Int), x1], [], zu s 1 1 (w32 (1 + (w32 (16 * (s 1 5)))))) Q
      exact tR rfl (h4 g20 g21 g22)
  · intro g26 g27 g28
    show zT (zE 916) (Pt PX7_takeWord) m1 (5, [((1 : Nat) : Int), x1], [(1, 0)], s) Q
    refine tI0 rfl (fun g _ l => (absurd g (by decide))) (fun g _ l => zT_le ?_ (Nat.le_of_lt l))
    refine tL ((1 : Nat) : Int) 0 rfl rfl rfl ?_
    exact tCall [(((1 : Nat) : Int), 0)] [] rfl rfl rfl (fun m l => h5 g26 g27 g28 m (Nat.lt_of_lt_of_le l (Nat.le_trans (Nat.le_of_lt l1) (Nat.le_refl n))))

theorem b_X7_takeWord_12 {n : Nat} {Q : Zr → Prop} (x1 : Int) (s : Zs) 
    (h0 : Q ([], s)) : zT (zE 916) (Pt PX7_takeWord) n (12, [((1 : Nat) : Int), x1], [], s) Q := by
  refine tG rfl ?_
  exact tR rfl (h0)

theorem c_X7_takeWord {n : Nat} {Q : Zr → Prop} {a0 a1 : Int} {s : Zs} (h : zT (zE 916) (Pt PX7_takeWord) n (0, [a0, a1], [], s) Q) : zC n 916 [(a0, 0), (a1, 0)] s Q := h

theorem b_X7_takeSign_0 {n : Nat} {Q : Zr → Prop} (x1 : Int) (s : Zs) 
    (h0 : ∀ (g2 : s 1 1 ≠ 0), Q ([], s))
    (h1 : ∀ (g6 : s 1 1 = 0), ∀ (g7 : s 1 4 ≠ 4), Q ([], zu s 1 1 (w32 (1 + (w32 (16 * (s 1 5)))))))
    (h2 : ∀ (g11 : s 1 1 = 0), ∀ (g12 : s 1 4 = 4), ∀ (g13 : s 1 0 ≤ s 1 5), Q ([], zu s 1 1 (w32 (1 + (w32 (16 * (s 1 5)))))))
    (h3 : ∀ (g17 : s 1 1 = 0), ∀ (g18 : s 1 4 = 4), ∀ (g19 : s 1 5 < s 1 0), ∀ (g20 : s 2 ((s 1 5).toNat) ≠ x1), Q ([], zu s 1 1 (w32 (1 + (w32 (16 * (s 1 5)))))))
    (h4 : ∀ (g24 : s 1 1 = 0), ∀ (g25 : s 1 4 = 4), ∀ (g26 : s 1 5 < s 1 0), ∀ (g27 : s 2 ((s 1 5).toNat) = x1), ∀ m, m < n → zC m 910 [(((1 : Nat) : Int), 0)] s (fun p => zT (zE 914) (Pt PX7_takeSign) m (12, [((1 : Nat) : Int), x1], p.1 ++ [], p.2) Q)) : zT (zE 914) (Pt PX7_takeSign) n (0, [((1 : Nat) : Int), x1], [], s) Q := by
  refine tL ((1 : Nat) : Int) 0 rfl rfl rfl ?_
  refine tL x1 0 rfl rfl rfl ?_
  refine tCall [(((1 : Nat) : Int), 0), (x1, 0)] [] rfl rfl rfl (fun m1 l1 => c_X7_isSign (b_X7_isSign_0 x1 s ?_ ?_ ?_ ?_ ?_))
  · intro g2
    show zT (zE 914) (Pt PX7_takeSign) m1 (5, [((1 : Nat) : Int), x1], [(0, 0)], s) Q
    refine tI0 rfl (fun g _ l => zT_le ?_ (Nat.le_of_lt l)) (fun g _ l => (absurd g (by decide)))
    refine tL ((1 : Nat) : Int) 0 rfl rfl rfl ?_
    refine tK rfl ?_
    refine tCall [(((1 : Nat) : Int), 0), (1, 0)] [] rfl rfl rfl (fun m3 l3 => c_X7_fail (b_X7_fail_0 1 s ?_ ?_))
    · intro g4
      show zT (zE 914) (Pt PX7_takeSign) m3 (20, [((1 : Nat) : Int), x1], [], s) Q
      exact tR rfl (h0 g2)
    · exact fun (g5 : s 1 1 = 0)  => False.elim (by omega)
  · intro g6 g7
    show zT (zE 914) (Pt PX7_takeSign) m1 (5, [((1 : Nat) : Int), x1], [(0, 0)], s) Q
    refine tI0 rfl (fun g _ l => zT_le ?_ (Nat.le_of_lt l)) (fun g _ l => (absurd g (by decide)))
    refine tL ((1 : Nat) : Int) 0 rfl rfl rfl ?_
    refine tK rfl ?_
    refine tCall [(((1 : Nat) : Int), 0), (1, 0)] [] rfl rfl rfl (fun m8 l8 => c_X7_fail (b_X7_fail_0 1 s ?_ ?_))
    · exact fun (g9 : s 1 1 ≠ 0)  => False.elim (by omega)
    · intro g10
      show zT (zE 914) (Pt PX7_takeSign) m8 (20, [((1 : Nat) : Int), x1], [], zu s 1 1 (w32 (1 + (w32 (16 * (s 1 5)))))) Q
      exact tR rfl (h1 g6 g7)
  · intro g11 g12 g13
    show zT (zE 914) (Pt PX7_takeSign) m1 (5, [((1 : Nat) : Int), x1], [(0, 0)], s) Q
    refine tI0 rfl (fun g _ l => zT_le ?_ (Nat.le_of_lt l)) (fun g _ l => (absurd g (by decide)))
    refine tL ((1 : Nat) : Int) 0 rfl rfl rfl ?_
    refine tK rfl ?_
    refine tCall [(((1 : Nat) : Int), 0), (1, 0)] [] rfl rfl rfl (fun m14 l14 => c_X7_fail (b_X7_fail_0 1 s ?_ ?_))
    · exact fun (g15 : s 1 1 ≠ 0)  => False.elim (by omega)
    · intro g16
      show zT (zE 914) (Pt PX7_takeSign) m14 (20, [((1 : Nat) : Int), x1], [], zu s 1 1 (w32 (1 + (w32 (16 * (s 1 5)))))) Q
      exact tR rfl (h2 g11 g12 g13)
  · intro g17 g18 g19 g20
    show zT (zE 914) (Pt PX7_takeSign) m1 (5, [((1 : Nat) : Int), x1], [(0, 0)], s) Q
    refine tI0 rfl (fun g _ l => zT_le ?_ (Nat.le_of_lt l)) (fun g _ l => (absurd g (by decide)))
    refine tL ((1 : Nat) : Int) 0 rfl rfl rfl ?_
    refine tK rfl ?_
    refine tCall [(((1 : Nat) : Int), 0), (1, 0)] [] rfl rfl rfl (fun m21 l21 => c_X7_fail (b_X7_fail_0 1 s ?_ ?_))
    · exact fun (g22 : s 1 1 ≠ 0)  => False.elim (by omega)
    · intro g23
      show zT (zE 914) (Pt PX7_takeSign) m21 (20, [((1 : Nat) : Int), x1], [], zu s 1 1 (w32 (1 + (w32 (16 * (s 1 5)))))) Q
      exact tR rfl (h3 g17 g18 g19 g20)
  · intro g24 g25 g26 g27
    show zT (zE 914) (Pt PX7_takeSign) m1 (5, [((1 : Nat) : Int), x1], [(1, 0)], s) Q
    refine tI0 rfl (fun g _ l => (absurd g (by decide))) (fun g _ l => zT_le ?_ (Nat.le_of_lt l))
    refine tL ((1 : Nat) : Int) 0 rfl rfl rfl ?_
    exact tCall [(((1 : Nat) : Int), 0)] [] rfl rfl rfl (fun m l => h4 g24 g25 g26 g27 m (Nat.lt_of_lt_of_le l (Nat.le_trans (Nat.le_of_lt l1) (Nat.le_refl n))))

theorem b_X7_takeSign_12 {n : Nat} {Q : Zr → Prop} (x1 : Int) (s : Zs) 
    (h0 : Q ([], s)) : zT (zE 914) (Pt PX7_takeSign) n (12, [((1 : Nat) : Int), x1], [], s) Q := by
  refine tG rfl ?_
  exact tR rfl (h0)

theorem c_X7_takeSign {n : Nat} {Q : Zr → Prop} {a0 a1 : Int} {s : Zs} (h : zT (zE 914) (Pt PX7_takeSign) n (0, [a0, a1], [], s) Q) : zC n 914 [(a0, 0), (a1, 0)] s Q := h

theorem b_X7_takeNumber_0 {n : Nat} {Q : Zr → Prop} (x1 x2 x3 : Int) (s : Zs) 
    (h0 : ∀ (g2 : s 1 1 ≠ 0), ∀ (g3 : (-1) < x1), Q ([((-1), 0)], s))
    (h1 : ∀ (g2 : s 1 1 ≠ 0), ∀ (g3 : x1 ≤ (-1)), ∀ (g7 : (-1) ≤ x2), ∀ m, m < n → zC m 910 [(((1 : Nat) : Int), 0)] s (fun p => zT (zE 912) (Pt PX7_takeNumber) m (26, [((1 : Nat) : Int), x1, x2, (-1)], p.1 ++ [], p.2) Q))
    (h2 : ∀ (g2 : s 1 1 ≠ 0), ∀ (g3 : x1 ≤ (-1)), ∀ (g7 : x2 < (-1)), Q ([((-1), 0)], s))
    (h3 : ∀ (g12 : s 1 1 = 0), ∀ (g13 : s 1 4 ≠ 3), ∀ (g14 : (-1) < x1), ∀ (g16 : w32 (1 + (w32 (16 * (s 1 5)))) ≠ 0), Q ([((-1), 0)], zu s 1 1 (w32 (1 + (w32 (16 * (s 1 5)))))))
    (h4 : ∀ (g12 : s 1 1 = 0), ∀ (g13 : s 1 4 ≠ 3), ∀ (g14 : (-1) < x1), ∀ (g17 : w32 (1 + (w32 (16 * (s 1 5)))) = 0), Q ([((-1), 0)], zu (zu s 1 1 (w32 (1 + (w32 (16 * (s 1 5)))))) 1 1 (w32 (4 + (w32 (16 * (s 1 5)))))))
    (h5 : ∀ (g12 : s 1 1 = 0), ∀ (g13 : s 1 4 ≠ 3), ∀ (g14 : x1 ≤ (-1)), ∀ (g18 : (-1) ≤ x2), ∀ m, m < n → zC m 910 [(((1 : Nat) : Int), 0)] (zu s 1 1 (w32 (1 + (w32 (16 * (s 1 5)))))) (fun p => zT (zE 912) (Pt PX7_takeNumber) m (26, [((1 : Nat) : Int), x1, x2, (-1)], p.1 ++ [], p.2) Q))
    (h6 : ∀ (g12 : s 1 1 = 0), ∀ (g13 : s 1 4 ≠ 3), ∀ (g14 : x1 ≤ (-1)), ∀ (g18 : x2 < (-1)), ∀ (g21 : w32 (1 + (w32 (16 * (s 1 5)))) ≠ 0), Q ([((-1), 0)], zu s 1 1 (w32 (1 + (w32 (16 * (s 1 5)))))))
    (h7 : ∀ (g12 : s 1 1 = 0), ∀ (g13 : s 1 4 ≠ 3), ∀ (g14 : x1 ≤ (-1)), ∀ (g18 : x2 < (-1)), ∀ (g22 : w32 (1 + (w32 (16 * (s 1 5)))) = 0), Q ([((-1), 0)], zu (zu s 1 1 (w32 (1 + (w32 (16 * (s 1 5)))))) 1 1 (w32 (4 + (w32 (16 * (s 1 5)))))))
    (h8 : ∀ (g23 : s 1 1 = 0), ∀ (g24 : s 1 4 = 3), ∀ (g25 : s 1 9 < x1), Q ([((-1), 0)], zu s 1 1 (w32 (4 + (w32 (16 * (s 1 5)))))))
    (h9 : ∀ (g23 : s 1 1 = 0), ∀ (g24 : s 1 4 = 3), ∀ (g25 : x1 ≤ s 1 9), ∀ (g29 : s 1 9 ≤ x2), ∀ m, m < n → zC m 910 [(((1 : Nat) : Int), 0)] s (fun p => zT (zE 912) (Pt PX7_takeNumber) m (26, [((1 : Nat) : Int), x1, x2, s 1 9], p.1 ++ [], p.2) Q))
    (h10 : ∀ (g23 : s 1 1 = 0), ∀ (g24 : s 1 4 = 3), ∀ (g25 : x1 ≤ s 1 9), ∀ (g29 : x2 < s 1 9), Q ([((-1), 0)], zu s 1 1 (w32 (4 + (w32 (16 * (s 1 5))))))) : zT (zE 912) (Pt PX7_takeNumber) n (0, [((1 : Nat) : Int), x1, x2, x3], [], s) Q := by
  refine tL ((1 : Nat) : Int) 0 rfl rfl rfl ?_
  refine tCall [(((1 : Nat) : Int), 0)] [] rfl rfl rfl (fun m1 l1 => c_X7_numberHere (b_X7_numberHere_0  s ?_ ?_ ?_))
  · intro g2
    show zT (zE 912) (Pt PX7_takeNumber) m1 (4, [((1 : Nat) : Int), x1, x2, x3], [((-1), 0)], s) Q
    refine tS [((1 : Nat) : Int), x1, x2, (-1)] rfl rfl ?_
    refine tL (-1) 0 rfl rfl rfl ?_
    refine tL x1 0 rfl rfl rfl ?_
    refine tJ2 rfl (fun g3 _ l3 => zT_le ?_ (Nat.le_of_lt l3)) (fun g3 _ l3 => zT_le ?_ (Nat.le_of_lt l3))
    · refine tL ((1 : Nat) : Int) 0 rfl rfl rfl ?_
      refine tK rfl ?_
      refine tCall [(((1 : Nat) : Int), 0), (4, 0)] [] rfl rfl rfl (fun m4 l4 => c_X7_fail (b_X7_fail_0 4 s ?_ ?_))
      · intro g5
        show zT (zE 912) (Pt PX7_takeNumber) m4 (20, [((1 : Nat) : Int), x1, x2, (-1)], [], s) Q
        refine tK rfl ?_
        exact tR rfl (h0 g2 g3)
      · exact fun (g6 : s 1 1 = 0)  => False.elim (by omega)
    · refine tL (-1) 0 rfl rfl rfl ?_
      refine tL x2 0 rfl rfl rfl ?_
      refine tJ5 rfl (fun g7 _ l7 => zT_le ?_ (Nat.le_of_lt l7)) (fun g7 _ l7 => zT_le ?_ (Nat.le_of_lt l7))
      · refine tL ((1 : Nat) : Int) 0 rfl rfl rfl ?_
        exact tCall [(((1 : Nat) : Int), 0)] [] rfl rfl rfl (fun m l => h1 g2 g3 g7 m (Nat.lt_of_lt_of_le l (Nat.le_trans (Nat.le_of_lt l1) (Nat.le_refl n))))
      · refine tL ((1 : Nat) : Int) 0 rfl rfl rfl ?_
        refine tK rfl ?_
        refine tCall [(((1 : Nat) : Int), 0), (4, 0)] [] rfl rfl rfl (fun m9 l9 => c_X7_fail (b_X7_fail_0 4 s ?_ ?_))
        · intro g10
          show zT (zE 912) (Pt PX7_takeNumber) m9 (20, [((1 : Nat) : Int), x1, x2, (-1)], [], s) Q
          refine tK rfl ?_
          exact tR rfl (h2 g2 g3 g7)
        · exact fun (g11 : s 1 1 = 0)  => False.elim (by omega)
  · intro g12 g13
    show zT (zE 912) (Pt PX7_takeNumber) m1 (4, [((1 : Nat) : Int), x1, x2, x3], [((-1), 0)], zu s 1 1 (w32 (1 + (w32 (16 * (s 1 5)))))) Q
    refine tS [((1 : Nat) : Int), x1, x2, (-1)] rfl rfl ?_
    refine tL (-1) 0 rfl rfl rfl ?_
    refine tL x1 0 rfl rfl rfl ?_
    refine tJ2 rfl (fun g14 _ l14 => zT_le ?_ (Nat.le_of_lt l14)) (fun g14 _ l14 => zT_le ?_ (Nat.le_of_lt l14))
    · refine tL ((1 : Nat) : Int) 0 rfl rfl rfl ?_
      refine tK rfl ?_
      refine tCall [(((1 : Nat) : Int), 0), (4, 0)] [] rfl rfl rfl (fun m15 l15 => c_X7_fail (b_X7_fail_0 4 (zu s 1 1 (w32 (1 + (w32 (16 * (s 1 5)))))) ?_ ?_))
      · intro g16
        show zT (zE 912) (Pt PX7_takeNumber) m15 (20, [((1 : Nat) : Int), x1, x2, (-1)], [], zu s 1 1 (w32 (1 + (w32 (16 * (s 1 5)))))) Q
        refine tK rfl ?_
        exact tR rfl (h3 g12 g13 g14 g16)
      · intro g17
        show zT (zE 912) (Pt PX7_takeNumber) m15 (20, [((1 : Nat) : Int), x1, x2, (-1)], [], zu (zu s 1 1 (w32 (1 + (w32 (16 * (s 1 5)))))) 1 1 (w32 (4 + (w32 (16 * (s 1 5)))))) Q
        refine tK rfl ?_
        exact tR rfl (h4 g12 g13 g14 g17)
    · refine tL (-1) 0 rfl rfl rfl ?_
      refine tL x2 0 rfl rfl rfl ?_
      refine tJ5 rfl (fun g18 _ l18 => zT_le ?_ (Nat.le_of_lt l18)) (fun g18 _ l18 => zT_le ?_ (Nat.le_of_lt l18))
      · refine tL ((1 : Nat) : Int) 0 rfl rfl rfl ?_
        exact tCall [(((1 : Nat) : Int), 0)] [] rfl rfl rfl (fun m l => h5 g12 g13 g14 g18 m (Nat.lt_of_lt_of_le l (Nat.le_trans (Nat.le_of_lt l1) (Nat.le_refl n))))
      · refine tL ((1 : Nat) : Int) 0 rfl rfl rfl ?_
        refine tK rfl ?_
        refine tCall [(((1 : Nat) : Int), 0), (4, 0)] [] rfl rfl rfl (fun m20 l20 => c_X7_fail (b_X7_fail_0 4 (zu s 1 1 (w32 (1 + (w32 (16 * (s 1 5)))))) ?_ ?_))
        · intro g21
          show zT (zE 912) (Pt PX7_takeNumber) m20 (20, [((1 : Nat) : Int), x1, x2, (-1)], [], zu s 1 1 (w32 (1 + (w32 (16 * (s 1 5)))))) Q
          refine tK rfl ?_
          exact tR rfl (h6 g12 g13 g14 g18 g21)
        · intro g22
          show zT (zE 912) (Pt PX7_takeNumber) m20 (20, [((1 : Nat) : Int), x1, x2, (-1)], [], zu (zu s 1 1 (w32 (1 + (w32 (16 * (s 1 5)))))) 1 1 (w32 (4 + (w32 (16 * (s 1 5)))))) Q
          refine tK rfl ?_
          exact tR rfl (h7 g12 g13 g14 g18 g22)
  · intro g23 g24
    show zT (zE 912) (Pt PX7_takeNumber) m1 (4, [((1 : Nat) : Int), x1, x2, x3], [(s 1 9, 0)], s) Q
    refine tS [((1 : Nat) : Int), x1, x2, s 1 9] rfl rfl ?_
    refine tL (s 1 9) 0 rfl rfl rfl ?_
    refine tL x1 0 rfl rfl rfl ?_
    refine tJ2 rfl (fun g25 _ l25 => zT_le ?_ (Nat.le_of_lt l25)) (fun g25 _ l25 => zT_le ?_ (Nat.le_of_lt l25))
    · refine tL ((1 : Nat) : Int) 0 rfl rfl rfl ?_
      refine tK rfl ?_
      refine tCall [(((1 : Nat) : Int), 0), (4, 0)] [] rfl rfl rfl (fun m26 l26 => c_X7_fail (b_X7_fail_0 4 s ?_ ?_))
      · exact fun (g27 : s 1 1 ≠ 0)  => False.elim (by omega)
      · intro g28
        show zT (zE 912) (Pt PX7_takeNumber) m26 (20, [((1 : Nat) : Int), x1, x2, s 1 9], [], zu s 1 1 (w32 (4 + (w32 (16 * (s 1 5)))))) Q
        refine tK rfl ?_
        exact tR rfl (h8 g23 g24 g25)
    · refine tL (s 1 9) 0 rfl rfl rfl ?_
      refine tL x2 0 rfl rfl rfl ?_
      refine tJ5 rfl (fun g29 _ l29 => zT_le ?_ (Nat.le_of_lt l29)) (fun g29 _ l29 => zT_le ?_ (Nat.le_of_lt l29))
      · refine tL ((1 : Nat) : Int) 0 rfl rfl rfl ?_
        exact tCall [(((1 : Nat) : Int), 0)] [] rfl rfl rfl (fun m l => h9 g23 g24 g25 g29 m (Nat.lt_of_lt_of_le l (Nat.le_trans (Nat.le_of_lt l1) (Nat.le_refl n))))
      · refine tL ((1 : Nat) : Int) 0 rfl rfl rfl ?_
        refine tK rfl ?_
        refine tCall [(((1 : Nat) : Int), 0), (4, 0)] [] rfl rfl rfl (fun m31 l31 => c_X7_fail (b_X7_fail_0 4 s ?_ ?_))
        · exact fun (g32 : s 1 1 ≠ 0)  => False.elim (by omega)
        · intro g33
          show zT (zE 912) (Pt PX7_takeNumber) m31 (20, [((1 : Nat) : Int), x1, x2, s 1 9], [], zu s 1 1 (w32 (4 + (w32 (16 * (s 1 5)))))) Q
          refine tK rfl ?_
          exact tR rfl (h10 g23 g24 g25 g29)

theorem b_X7_takeNumber_26 {n : Nat} {Q : Zr → Prop} (x1 x2 x3 : Int) (s : Zs) 
    (h0 : Q ([(x3, 0)], s)) : zT (zE 912) (Pt PX7_takeNumber) n (26, [((1 : Nat) : Int), x1, x2, x3], [], s) Q := by
  refine tL x3 0 rfl rfl rfl ?_
  exact tR rfl (h0)

theorem c_X7_takeNumber {n : Nat} {Q : Zr → Prop} {a0 a1 a2 : Int} {s : Zs} (h : zT (zE 912) (Pt PX7_takeNumber) n (0, [a0, a1, a2, 0], [], s) Q) : zC n 912 [(a0, 0), (a1, 0), (a2, 0)] s Q := h

theorem takeWord_ok {N i : Nat} (hi : i < 28) {s : Zs} {T : Nat → Int} {n : Nat} {x : PS} (h : pst s T n x) : zC N 916 [(((1 : Nat) : Int), 0), ((i : Int), 0)] s (fun r => r.1 = [] ∧ frF s r.2 ∧ pst r.2 T n (gW T n i x)) := by
  have h1 := h.1
  have bad : x.1 = 0 → ¬ (eQ T n (kB T n x.2) = 2 ∧ eW T n (kB T n x.2) = KW i) → ([] : List Zv) = [] ∧ frF s (zu s 1 1 (w32 (1 + w32 (16 * s 1 5)))) ∧ pst (zu s 1 1 (w32 (1 + w32 (16 * s 1 5)))) T n (gW T n i x) := fun h0 hc => by
    unfold gW
    rw [if_neg hc]
    obtain ⟨z1, z2⟩ := pst_fail (k := 1) (by decide) h h0
    exact ⟨rfl, z2, z1⟩
  refine c_X7_takeWord (b_X7_takeWord_0 (i : Int) s (fun g2 g3 => ?_) (fun g7 g8 m hm => ?_) (fun g10 g11 g12 => ?_) (fun g16 g17 g18 m hm => ?_) (fun g20 g21 g22 => ?_) (fun g26 g27 g28 m hm => ?_))
  · exact ⟨rfl, frF_rf s, by rw [gW_nz (by omega)]; exact h⟩
  · omega
  · have h0 : x.1 = 0 := by omega
    have ha := h.2.2.2.2 h0
    exact bad h0 (fun q => by rw [ha.2.2.1] at *; omega)
  · omega
  · have h0 : x.1 = 0 := by omega
    have ha := h.2.2.2.2 h0
    refine bad h0 (fun q => ?_)
    have hk := (ha.2.2.2.1 q.1).2
    have hk2 := kwi_KW i hi
    rw [← q.2] at hk2
    omega
  · have h0 : x.1 = 0 := by omega
    have ha := h.2.2.2.2 h0
    have hq : eQ T n (kB T n x.2) = 2 := by rw [← ha.2.2.1]; assumption
    have hk : kwi (eW T n (kB T n x.2)) = (i : Int) := by rw [← (ha.2.2.2.1 hq).2]; assumption
    have e : gW T n i x = gNx T n x := if_pos ⟨hq, (kwi_iff hi).mp hk⟩
    rw [e]
    exact pst_nextC h h0 (fun s' f p => b_X7_takeWord_12 (i : Int) s' ⟨rfl, f, p⟩)
theorem takeSign_ok {N : Nat} {c : Int} {s : Zs} {T : Nat → Int} {n : Nat} {x : PS} (h : pst s T n x) : zC N 914 [(((1 : Nat) : Int), 0), (c, 0)] s (fun r => r.1 = [] ∧ frF s r.2 ∧ pst r.2 T n (gS T n c x)) := by
  have h1 := h.1
  have bad : x.1 = 0 → ¬ (eQ T n (kB T n x.2) = 4 ∧ T (kB T n x.2) = c) → ([] : List Zv) = [] ∧ frF s (zu s 1 1 (w32 (1 + w32 (16 * s 1 5)))) ∧ pst (zu s 1 1 (w32 (1 + w32 (16 * s 1 5)))) T n (gS T n c x) := fun h0 hc => by
    unfold gS
    rw [if_neg hc]
    obtain ⟨z1, z2⟩ := pst_fail (k := 1) (by decide) h h0
    exact ⟨rfl, z2, z1⟩
  have hT : x.1 = 0 → s 1 5 < s 1 0 → s 2 (s 1 5).toNat = T (kB T n x.2) := fun h0 hlt => by
    have ha := h.2.2.2.2 h0
    rw [ha.1, h.2.1.1] at hlt
    rw [ha.1, Int.toNat_natCast]
    exact h.2.1.2.2.1 _ (by omega)
  refine c_X7_takeSign (b_X7_takeSign_0 c s (fun g2 => ?_) (fun g6 g7 => ?_) (fun g11 g12 g13 => ?_) (fun g17 g18 g19 g20 => ?_) (fun g24 g25 g26 g27 m hm => ?_))
  · exact ⟨rfl, frF_rf s, by rw [gS_nz (by omega)]; exact h⟩
  · have h0 : x.1 = 0 := by omega
    have ha := h.2.2.2.2 h0
    exact bad h0 (fun q => by rw [ha.2.2.1] at *; omega)
  · have h0 : x.1 = 0 := by omega
    have ha := h.2.2.2.2 h0
    refine bad h0 (fun q => ?_)
    have hq := q.1
    unfold eQ at hq
    rw [if_pos (by have := ha.1; have := h.2.1.1; omega)] at hq
    cases hq
  · have h0 : x.1 = 0 := by omega
    have ha := h.2.2.2.2 h0
    refine bad h0 (fun q => ?_)
    exact g20 ((hT h0 (by assumption)).trans q.2)
  · have h0 : x.1 = 0 := by omega
    have ha := h.2.2.2.2 h0
    have hq : eQ T n (kB T n x.2) = 4 := by rw [← ha.2.2.1]; assumption
    have e : gS T n c x = gNx T n x := if_pos ⟨hq, (hT h0 (by assumption)).symm.trans g27⟩
    rw [e]
    exact pst_nextC h h0 (fun s' f p => b_X7_takeSign_12 c s' ⟨rfl, f, p⟩)
/-- the number that is taken: -1 behind a fault -/
def vN (T : Nat → Int) (n : Nat) (lo hi : Int) (x : PS) : Int := if (gN T n lo hi x).1 = 0 then eM T n (kB T n x.2) else -1
theorem takeNumber_ok {N : Nat} {lo hi : Int} (hlo : 0 ≤ lo) {s : Zs} {T : Nat → Int} {n : Nat} {x : PS} (h : pst s T n x) : zC N 912 [(((1 : Nat) : Int), 0), (lo, 0), (hi, 0)] s (fun r => r.1 = [(vN T n lo hi x, 0)] ∧ frF s r.2 ∧ pst r.2 T n (gN T n lo hi x)) := by
  have h1 := h.1
  have bad : ∀ k : Int, 1 ≤ k ∧ k ≤ 5 → x.1 = 0 → gN T n lo hi x = gF T n k x → [((-1 : Int), 0)] = [(vN T n lo hi x, 0)] ∧ frF s (zu s 1 1 (w32 (k + w32 (16 * s 1 5)))) ∧ pst (zu s 1 1 (w32 (k + w32 (16 * s 1 5)))) T n (gN T n lo hi x) := fun k hk h0 e => by
    obtain ⟨z1, z2⟩ := pst_fail (k := k) hk h h0
    refine ⟨?_, z2, by rw [e]; exact z1⟩
    unfold vN
    rw [if_neg (by rw [e]; exact gF_ne hk.1 h0)]
  refine c_X7_takeNumber (b_X7_takeNumber_0 lo hi 0 s (fun g2 g3 => ?_) (fun g2 g3 g7 m hm => ?_) (fun g2 g3 g7 => ?_) (fun g12 g13 g14 g16 => ?_) (fun g12 g13 g14 g17 => ?_) (fun g12 g13 g14 g18 m hm => ?_) (fun g12 g13 g14 g18 g21 => ?_) (fun g12 g13 g14 g18 g22 => ?_) (fun g23 g24 g25 => ?_) (fun g23 g24 g25 g29 m hm => ?_) (fun g23 g24 g25 g29 => ?_))
  · have hx : x.1 ≠ 0 := by omega
    refine ⟨?_, frF_rf s, by rw [gN_nz hx]; exact h⟩
    unfold vN
    rw [if_neg (by rw [gN_nz hx]; exact hx)]
  · omega
  · omega
  · have h0 : x.1 = 0 := by omega
    have ha := h.2.2.2.2 h0
    exact bad 1 (by decide) h0 (if_neg (fun q => by rw [ha.2.2.1] at *; omega))
  · have h0 : x.1 = 0 := by omega
    have ha := (h.2.2.2.2 h0).1
    have hb := kB_bd (T := T) h.2.2.1
    have hn := h.2.1.2.1
    rw [ha, w32_id (z := 16 * (kB T n x.2 : Int)) (by omega) (by omega), w32_id (by omega) (by omega)] at g17
    omega
  · omega
  · omega
  · omega
  · have h0 : x.1 = 0 := by omega
    have ha := h.2.2.2.2 h0
    have hq : eQ T n (kB T n x.2) = 3 := by rw [← ha.2.2.1]; assumption
    have hm := ha.2.2.2.2 hq
    refine bad 4 (by decide) h0 ?_
    unfold gN
    rw [if_pos hq, if_neg (by omega)]
  · have h0 : x.1 = 0 := by omega
    have ha := h.2.2.2.2 h0
    have hq : eQ T n (kB T n x.2) = 3 := by rw [← ha.2.2.1]; assumption
    have hm := ha.2.2.2.2 hq
    have e : gN T n lo hi x = gNx T n x := by unfold gN; rw [if_pos hq, if_pos (by omega)]
    have ev : vN T n lo hi x = s 1 9 := by
      unfold vN
      rw [e, hm]
      unfold gNx
      rw [if_pos h0, if_pos rfl]
    rw [e, ev]
    exact pst_nextC h h0 (fun s' f p => b_X7_takeNumber_26 lo hi (s 1 9) s' ⟨rfl, f, p⟩)
  · have h0 : x.1 = 0 := by omega
    have ha := h.2.2.2.2 h0
    have hq : eQ T n (kB T n x.2) = 3 := by rw [← ha.2.2.1]; assumption
    have hm := ha.2.2.2.2 hq
    refine bad 4 (by decide) h0 ?_
    unfold gN
    rw [if_pos hq, if_neg (by omega)]
theorem numberHere_ok {N : Nat} {s : Zs} {T : Nat → Int} {n : Nat} {x : PS} (h : pst s T n x) : zC N 911 [(((1 : Nat) : Int), 0)] s (fun r => r.1 = [(if (gNh T n x).1 = 0 then eM T n (kB T n x.2) else -1, 0)] ∧ frF s r.2 ∧ pst r.2 T n (gNh T n x)) := by
  have h1 := h.1
  refine c_X7_numberHere (b_X7_numberHere_0 s (fun g2 => ?_) (fun g6 g7 => ?_) (fun g11 g12 => ?_))
  · have hx : x.1 ≠ 0 := by omega
    rw [gNh_nz hx, if_neg hx]
    exact ⟨rfl, frF_rf s, h⟩
  · have h0 : x.1 = 0 := by omega
    have ha := h.2.2.2.2 h0
    have e : gNh T n x = gF T n 1 x := if_neg (fun q => by rw [ha.2.2.1] at g7; omega)
    obtain ⟨z1, z2⟩ := pst_fail (k := 1) (by decide) h h0
    rw [e, if_neg (gF_ne (by decide) h0)]
    exact ⟨rfl, z2, z1⟩
  · have h0 : x.1 = 0 := by omega
    have ha := h.2.2.2.2 h0
    have hq : eQ T n (kB T n x.2) = 3 := by rw [← ha.2.2.1]; exact g12
    have e : gNh T n x = x := if_pos hq
    rw [e, if_pos h0, ← ha.2.2.2.2 hq]
    exact ⟨rfl, frF_rf s, h⟩
/-- the name that comes now: 0 behind a fault -/
def vW (T : Nat → Int) (n : Nat) (x : PS) : Int := if (gNm T n x).1 = 0 then enc 32 (eW T n (kB T n x.2)) else 0
theorem nameHere_ok {N : Nat} {s : Zs} {T : Nat → Int} {n : Nat} {x : PS} (h : pst s T n x) : zC N 909 [(((1 : Nat) : Int), 0)] s (fun r => r.1 = [(vW T n x, 1)] ∧ frF s r.2 ∧ pst r.2 T n (gNm T n x)) := by
  have h1 := h.1
  have bad : x.1 = 0 → isNm T n (kB T n x.2) = false → [((0 : Int), 1)] = [(vW T n x, 1)] ∧ frF s (zu s 1 1 (w32 (1 + w32 (16 * s 1 5)))) ∧ pst (zu s 1 1 (w32 (1 + w32 (16 * s 1 5)))) T n (gNm T n x) := fun h0 hf => by
    have e : gNm T n x = gF T n 1 x := if_neg (by rw [hf]; decide)
    obtain ⟨z1, z2⟩ := pst_fail (k := 1) (by decide) h h0
    refine ⟨?_, z2, by rw [e]; exact z1⟩
    unfold vW
    rw [e, if_neg (gF_ne (by decide) h0)]
  have good : x.1 = 0 → s 1 4 = 2 → (s 1 8 = -1 ∨ 25 ≤ s 1 8) → [(s 1 7, 1)] = [(vW T n x, 1)] ∧ frF s s ∧ pst s T n (gNm T n x) := fun h0 g4 g8 => by
    have ha := h.2.2.2.2 h0
    have hq : eQ T n (kB T n x.2) = 2 := by rw [← ha.2.2.1]; exact g4
    obtain ⟨w1, w2⟩ := ha.2.2.2.1 hq
    have hn : isNm T n (kB T n x.2) = true := by
      unfold isNm
      rw [w2] at g8
      simp only [Bool.and_eq_true, Bool.or_eq_true, decide_eq_true_eq]
      exact ⟨hq, g8⟩
    have e : gNm T n x = x := if_pos hn
    refine ⟨?_, frF_rf s, by rw [e]; exact h⟩
    unfold vW
    rw [e, if_pos h0, w1]
  refine c_X7_nameHere (b_X7_nameHere_0 s (fun g1 => ?_) (fun g1 g5 => ?_) (fun g1 g5 g9 => ?_) (fun g1 g5 g9 g10 => ?_) (fun g1 g5 g9 g10 => ?_))
  · have hx : x.1 ≠ 0 := by omega
    refine ⟨?_, frF_rf s, by rw [gNm_nz hx]; exact h⟩
    unfold vW
    rw [gNm_nz hx, if_neg hx]
  · have h0 : x.1 = 0 := by omega
    have ha := h.2.2.2.2 h0
    refine bad h0 ?_
    unfold isNm
    rw [ha.2.2.1] at g5
    rw [decide_eq_false g5]
    rfl
  · exact good (by omega) g5 (Or.inl g9)
  · have h0 : x.1 = 0 := by omega
    have ha := h.2.2.2.2 h0
    have hq : eQ T n (kB T n x.2) = 2 := by rw [← ha.2.2.1]; exact g5
    have w2 := (ha.2.2.2.1 hq).2
    refine bad h0 ?_
    rw [w2] at g9 g10
    unfold isNm
    rw [decide_eq_false g9, decide_eq_false (show ¬ 25 ≤ kwi (eW T n (kB T n x.2)) by omega)]
    simp
  · exact good (by omega) g5 (Or.inr g10)
theorem fail_ok {N : Nat} {k : Int} (hk : 1 ≤ k ∧ k ≤ 5) {s : Zs} {T : Nat → Int} {n : Nat} {x : PS} (h : pst s T n x) : zC N 899 [(((1 : Nat) : Int), 0), (k, 0)] s (fun r => r.1 = [] ∧ frF s r.2 ∧ pst r.2 T n (gF T n k x)) := by
  have h1 := h.1
  refine c_X7_fail (b_X7_fail_0 k s (fun g1 => ?_) (fun g1 => ?_))
  · have hx : x.1 ≠ 0 := by omega
    rw [gF_nz hx]
    exact ⟨rfl, frF_rf s, h⟩
  · obtain ⟨z1, z2⟩ := pst_fail (k := k) hk h (by omega)
    exact ⟨rfl, z2, z1⟩
