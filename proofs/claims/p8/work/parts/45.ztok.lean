/-! the tokens of the class -/
def zKW : List (List Int) := [[5, 19, 21, 15, 8], [19, 18, 15, 15, 12, 6], [20, 8, 7, 9, 12, 6], [5, 19, 9, 18], [19, 4, 4, 15], [7, 14, 9, 8, 20], [19, 20, 6, 9, 12], [20, 1], [14, 15, 19, 18, 5, 16], [8, 3, 1, 5, 18], [19, 23, 15, 18, 8, 20], [19, 20, 14, 1, 23], [12, 12, 9, 8], [19, 25, 1, 16], [16, 1, 5, 8], [11, 12, 1, 23], [5, 3, 9, 18, 16], [12, 1, 5, 20, 19], [4, 12, 9, 21, 2], [15, 7], [25, 18, 18, 1, 3], [20, 8, 7, 9, 14], [20, 15, 14], [4, 14, 1], [18, 15], [8, 7, 9, 8], [19, 20, 8, 7, 9, 14], [5, 14, 15, 7]]
def KW (i : Nat) : List Int := (zKW[i]?).getD []
def kwp (w : List Int) : Nat → Int
  | 0 => -1
  | i + 1 => if KW i = w then (i : Int) else kwp w i
def kwi (w : List Int) : Int := kwp w 28
theorem kwp_in {w : List Int} : ∀ (k i : Nat), kwp w k = (i : Int) → i < k ∧ KW i = w
  | 0, i, h => by have h : (-1 : Int) = (i : Int) := h; omega
  | k + 1, i, h => by
    have h : (if KW k = w then (k : Int) else kwp w k) = (i : Int) := h
    split at h
    · rename_i e
      have : k = i := by omega
      subst this
      exact ⟨by omega, e⟩
    · have := kwp_in k i h
      exact ⟨by omega, this.2⟩
theorem kwp_bd {w : List Int} : ∀ (k : Nat), -1 ≤ kwp w k ∧ kwp w k < k
  | 0 => ⟨by show (-1 : Int) ≤ -1; omega, by show (-1 : Int) < 0; omega⟩
  | k + 1 => by
    have := kwp_bd (w := w) k
    unfold kwp
    split <;> omega
theorem kwi_KW : ∀ i, i < 28 → kwi (KW i) = (i : Int) := by decide +kernel
theorem kwi_iff {w : List Int} {i : Nat} (hi : i < 28) : kwi w = (i : Int) ↔ w = KW i := by
  constructor
  · intro h
    exact (kwp_in 28 i h).2.symm
  · intro h
    rw [h]
    exact kwi_KW i hi
theorem KW_ok : ∀ i, i < 28 → okW (KW i) := by
  have h : (zKW.all fun l => l.all fun x => decide (1 ≤ x) && decide (x ≤ 26)) = true := by decide +kernel
  intro i hi x hx
  have hm : KW i ∈ zKW := by
    have : i < zKW.length := hi
    unfold KW
    rw [List.getElem?_eq_getElem this]
    exact List.getElem_mem this
  have := List.all_eq_true.mp (List.all_eq_true.mp h _ hm) x hx
  simp only [Bool.and_eq_true, decide_eq_true_eq] at this
  exact this
/-- what stands behind all tokens: the tape, the words known -/
def tkS (s : Zs) (T : Nat → Int) (n : Nat) : Prop := s 1 0 = (n : Int) ∧ n ≤ 1000 ∧ (∀ i, i < n → s 2 i = T i) ∧ ∀ i, i < 28 → s 3 i = enc 32 (KW i)
/-- a token that begins at b -/
def tkA (s : Zs) (T : Nat → Int) (n b : Nat) : Prop := s 1 5 = (b : Int) ∧ s 1 6 = (eE T n b : Int) ∧ s 1 4 = eQ T n b ∧ (eQ T n b = 2 → s 1 7 = enc 32 (eW T n b) ∧ s 1 8 = kwi (eW T n b)) ∧ (eQ T n b = 3 → s 1 9 = eM T n b)
/-- nothing but the token's own slots changes -/
def frK (s s' : Zs) : Prop := ∀ c j, ¬ (c = 1 ∧ 4 ≤ j) → s' c j = s c j
theorem frK_rf (s : Zs) : frK s s := fun _ _ _ => rfl
theorem frK_tr {s s' s'' : Zs} (h1 : frK s s') (h2 : frK s' s'') : frK s s'' := fun c j h => (h2 c j h).trans (h1 c j h)
theorem frK_u {s s' : Zs} {j : Nat} {v : Int} (h : frK s s') (hj : 4 ≤ j) : frK s (zu s' 1 j v) := fun c i hc => by
  rw [zu_n (fun e => hc ⟨e.1, by omega⟩)]
  exact h c i hc
theorem tkS_fr {s s' : Zs} {T : Nat → Int} {n : Nat} (t : tkS s T n) (f : frK s s') : tkS s' T n := by
  obtain ⟨h1, h2, h3, h4⟩ := t
  exact ⟨by rw [f 1 0 (by omega)]; exact h1, h2, fun i hi => by rw [f 2 i (by omega)]; exact h3 i hi, fun i hi => by rw [f 3 i (by omega)]; exact h4 i hi⟩
theorem b_X7_isLetter_0 {n : Nat} {Q : Zr → Prop} (x0 : Int) (s : Zs) 
    (h0 : ∀ (g1 : x0 < 97), Q ([(0, 0)], s))
    (h1 : ∀ (g1 : 97 ≤ x0), ∀ (g2 : 122 < x0), Q ([(0, 0)], s))
    (h2 : ∀ (g1 : 97 ≤ x0), ∀ (g2 : x0 ≤ 122), Q ([(1, 0)], s)) : zT (zE 903) (Pt PX7_isLetter) n (0, [x0], [], s) Q := by
  refine tL x0 0 rfl rfl rfl ?_
  refine tK rfl ?_
  refine tJ2 rfl (fun g1 _ l1 => zT_le ?_ (Nat.le_of_lt l1)) (fun g1 _ l1 => zT_le ?_ (Nat.le_of_lt l1))
  · refine tK rfl ?_
    exact tR rfl (h0 g1)
  · refine tL x0 0 rfl rfl rfl ?_
    refine tK rfl ?_
    refine tJ4 rfl (fun g2 _ l2 => zT_le ?_ (Nat.le_of_lt l2)) (fun g2 _ l2 => zT_le ?_ (Nat.le_of_lt l2))
    · refine tK rfl ?_
      exact tR rfl (h1 g1 g2)
    · refine tK rfl ?_
      refine tG rfl ?_
      exact tR rfl (h2 g1 g2)

theorem c_X7_isLetter {n : Nat} {Q : Zr → Prop} {a0 : Int} {s : Zs} (h : zT (zE 903) (Pt PX7_isLetter) n (0, [a0], [], s) Q) : zC n 903 [(a0, 0)] s Q := h

theorem b_X7_isDigit_0 {n : Nat} {Q : Zr → Prop} (x0 : Int) (s : Zs) 
    (h0 : ∀ (g1 : x0 < 48), Q ([(0, 0)], s))
    (h1 : ∀ (g1 : 48 ≤ x0), ∀ (g2 : 57 < x0), Q ([(0, 0)], s))
    (h2 : ∀ (g1 : 48 ≤ x0), ∀ (g2 : x0 ≤ 57), Q ([(1, 0)], s)) : zT (zE 902) (Pt PX7_isDigit) n (0, [x0], [], s) Q := by
  refine tL x0 0 rfl rfl rfl ?_
  refine tK rfl ?_
  refine tJ2 rfl (fun g1 _ l1 => zT_le ?_ (Nat.le_of_lt l1)) (fun g1 _ l1 => zT_le ?_ (Nat.le_of_lt l1))
  · refine tK rfl ?_
    exact tR rfl (h0 g1)
  · refine tL x0 0 rfl rfl rfl ?_
    refine tK rfl ?_
    refine tJ4 rfl (fun g2 _ l2 => zT_le ?_ (Nat.le_of_lt l2)) (fun g2 _ l2 => zT_le ?_ (Nat.le_of_lt l2))
    · refine tK rfl ?_
      exact tR rfl (h1 g1 g2)
    · refine tK rfl ?_
      refine tG rfl ?_
      exact tR rfl (h2 g1 g2)

theorem c_X7_isDigit {n : Nat} {Q : Zr → Prop} {a0 : Int} {s : Zs} (h : zT (zE 902) (Pt PX7_isDigit) n (0, [a0], [], s) Q) : zC n 902 [(a0, 0)] s Q := h

theorem b_X7_withLetter_0 {n : Nat} {Q : Zr → Prop} (x0 x1 x2 : Int) (s : Zs) 
    (h0 : Q ([(zorL (zshlL x0 5) (w32 ((w32 (x2 - 97)) + 1)), 1)], s)) : zT (zE 917) (Pt PX7_withLetter) n (0, [x0, x1, x2], [], s) Q := by
  refine tL x0 1 rfl rfl rfl ?_
  refine tK rfl ?_
  refine tBI (v := zshlL x0 5) rfl rfl ?_
  refine tL x2 0 rfl rfl rfl ?_
  refine tK rfl ?_
  refine tB (v := w32 (x2 - 97)) rfl rfl ?_
  refine tK rfl ?_
  refine tB (v := w32 ((w32 (x2 - 97)) + 1)) rfl rfl ?_
  refine tU1 rfl ?_
  refine tBL (v := zorL (zshlL x0 5) (w32 ((w32 (x2 - 97)) + 1))) rfl rfl ?_
  exact tR rfl (h0)

theorem c_X7_withLetter {n : Nat} {Q : Zr → Prop} {a0 a2 : Int} {s : Zs} (h : zT (zE 917) (Pt PX7_withLetter) n (0, [a0, 0, a2], [], s) Q) : zC n 917 [(a0, 1), (a2, 0)] s Q := h

theorem b_X7_keyHere_0 {n : Nat} {Q : Zr → Prop} (s : Zs) 
    (h0 : ∀ (g1 : s 1 1 ≠ 0), Q ([((-1), 0)], s))
    (h1 : ∀ (g1 : s 1 1 = 0), ∀ (g2 : s 1 4 ≠ 2), Q ([((-1), 0)], s))
    (h2 : ∀ (g1 : s 1 1 = 0), ∀ (g2 : s 1 4 = 2), Q ([(s 1 8, 0)], s)) : zT (zE 907) (Pt PX7_keyHere) n (0, [((1 : Nat) : Int)], [], s) Q := by
  refine tL ((1 : Nat) : Int) 0 rfl rfl rfl ?_
  refine tFv (c := 1) (s 1 1) 0 rfl rfl rfl rfl rfl ?_
  refine tI1 rfl (fun g1 _ l1 => zT_le ?_ (Nat.le_of_lt l1)) (fun g1 _ l1 => zT_le ?_ (Nat.le_of_lt l1))
  · refine tK rfl ?_
    exact tR rfl (h0 g1)
  · refine tL ((1 : Nat) : Int) 0 rfl rfl rfl ?_
    refine tFv (c := 1) (s 1 4) 0 rfl rfl rfl rfl rfl ?_
    refine tK rfl ?_
    refine tJ1 rfl (fun g2 _ l2 => zT_le ?_ (Nat.le_of_lt l2)) (fun g2 _ l2 => zT_le ?_ (Nat.le_of_lt l2))
    · refine tK rfl ?_
      exact tR rfl (h1 g1 g2)
    · refine tL ((1 : Nat) : Int) 0 rfl rfl rfl ?_
      refine tFv (c := 1) (s 1 8) 0 rfl rfl rfl rfl rfl ?_
      refine tG rfl ?_
      exact tR rfl (h2 g1 g2)

theorem c_X7_keyHere {n : Nat} {Q : Zr → Prop} {a0 : Int} {s : Zs} (h : zT (zE 907) (Pt PX7_keyHere) n (0, [a0], [], s) Q) : zC n 907 [(a0, 0)] s Q := h

theorem b_X7_isSign_0 {n : Nat} {Q : Zr → Prop} (x1 : Int) (s : Zs) 
    (h0 : ∀ (g1 : s 1 1 ≠ 0), Q ([(0, 0)], s))
    (h1 : ∀ (g1 : s 1 1 = 0), ∀ (g2 : s 1 4 ≠ 4), Q ([(0, 0)], s))
    (h2 : ∀ (g1 : s 1 1 = 0), ∀ (g2 : s 1 4 = 4), ∀ (g3 : s 1 0 ≤ s 1 5), Q ([(0, 0)], s))
    (h3 : ∀ (g1 : s 1 1 = 0), ∀ (g2 : s 1 4 = 4), ∀ (g3 : s 1 5 < s 1 0), ∀ (g4 : s 2 ((s 1 5).toNat) ≠ x1), Q ([(0, 0)], s))
    (h4 : ∀ (g1 : s 1 1 = 0), ∀ (g2 : s 1 4 = 4), ∀ (g3 : s 1 5 < s 1 0), ∀ (g4 : s 2 ((s 1 5).toNat) = x1), Q ([(1, 0)], s)) : zT (zE 905) (Pt PX7_isSign) n (0, [((1 : Nat) : Int), x1], [], s) Q := by
  refine tL ((1 : Nat) : Int) 0 rfl rfl rfl ?_
  refine tFv (c := 1) (s 1 1) 0 rfl rfl rfl rfl rfl ?_
  refine tI1 rfl (fun g1 _ l1 => zT_le ?_ (Nat.le_of_lt l1)) (fun g1 _ l1 => zT_le ?_ (Nat.le_of_lt l1))
  · refine tK rfl ?_
    exact tR rfl (h0 g1)
  · refine tL ((1 : Nat) : Int) 0 rfl rfl rfl ?_
    refine tFv (c := 1) (s 1 4) 0 rfl rfl rfl rfl rfl ?_
    refine tK rfl ?_
    refine tJ1 rfl (fun g2 _ l2 => zT_le ?_ (Nat.le_of_lt l2)) (fun g2 _ l2 => zT_le ?_ (Nat.le_of_lt l2))
    · refine tK rfl ?_
      exact tR rfl (h1 g1 g2)
    · refine tL ((1 : Nat) : Int) 0 rfl rfl rfl ?_
      refine tFv (c := 1) (s 1 5) 0 rfl rfl rfl rfl rfl ?_
      refine tL ((1 : Nat) : Int) 0 rfl rfl rfl ?_
      refine tFv (c := 1) (s 1 0) 0 rfl rfl rfl rfl rfl ?_
      refine tJ3 rfl (fun g3 _ l3 => zT_le ?_ (Nat.le_of_lt l3)) (fun g3 _ l3 => zT_le ?_ (Nat.le_of_lt l3))
      · refine tK rfl ?_
        exact tR rfl (h2 g1 g2 g3)
      · refine tL ((1 : Nat) : Int) 0 rfl rfl rfl ?_
        refine tFR (c := 1) 2 rfl rfl rfl rfl rfl ?_
        refine tL ((1 : Nat) : Int) 0 rfl rfl rfl ?_
        refine tFv (c := 1) (s 1 5) 0 rfl rfl rfl rfl rfl ?_
        refine tAv 2 ((s 1 5).toNat) (s 2 ((s 1 5).toNat)) 0 rfl rfl rfl (by decide) rfl rfl ?_
        refine tL x1 0 rfl rfl rfl ?_
        refine tJ1 rfl (fun g4 _ l4 => zT_le ?_ (Nat.le_of_lt l4)) (fun g4 _ l4 => zT_le ?_ (Nat.le_of_lt l4))
        · refine tK rfl ?_
          exact tR rfl (h3 g1 g2 g3 g4)
        · refine tK rfl ?_
          refine tG rfl ?_
          exact tR rfl (h4 g1 g2 g3 g4)

theorem c_X7_isSign {n : Nat} {Q : Zr → Prop} {a0 a1 : Int} {s : Zs} (h : zT (zE 905) (Pt PX7_isSign) n (0, [a0, a1], [], s) Q) : zC n 905 [(a0, 0), (a1, 0)] s Q := h

theorem b_X7_isNumber_0 {n : Nat} {Q : Zr → Prop} (s : Zs) 
    (h0 : ∀ (g1 : s 1 1 ≠ 0), Q ([(0, 0)], s))
    (h1 : ∀ (g1 : s 1 1 = 0), ∀ (g2 : s 1 4 ≠ 3), Q ([(0, 0)], s))
    (h2 : ∀ (g1 : s 1 1 = 0), ∀ (g2 : s 1 4 = 3), Q ([(1, 0)], s)) : zT (zE 904) (Pt PX7_isNumber) n (0, [((1 : Nat) : Int)], [], s) Q := by
  refine tL ((1 : Nat) : Int) 0 rfl rfl rfl ?_
  refine tFv (c := 1) (s 1 1) 0 rfl rfl rfl rfl rfl ?_
  refine tI1 rfl (fun g1 _ l1 => zT_le ?_ (Nat.le_of_lt l1)) (fun g1 _ l1 => zT_le ?_ (Nat.le_of_lt l1))
  · refine tK rfl ?_
    exact tR rfl (h0 g1)
  · refine tL ((1 : Nat) : Int) 0 rfl rfl rfl ?_
    refine tFv (c := 1) (s 1 4) 0 rfl rfl rfl rfl rfl ?_
    refine tK rfl ?_
    refine tJ1 rfl (fun g2 _ l2 => zT_le ?_ (Nat.le_of_lt l2)) (fun g2 _ l2 => zT_le ?_ (Nat.le_of_lt l2))
    · refine tK rfl ?_
      exact tR rfl (h1 g1 g2)
    · refine tK rfl ?_
      refine tG rfl ?_
      exact tR rfl (h2 g1 g2)

theorem c_X7_isNumber {n : Nat} {Q : Zr → Prop} {a0 : Int} {s : Zs} (h : zT (zE 904) (Pt PX7_isNumber) n (0, [a0], [], s) Q) : zC n 904 [(a0, 0)] s Q := h

theorem b_X7_fail_0 {n : Nat} {Q : Zr → Prop} (x1 : Int) (s : Zs) 
    (h0 : ∀ (g1 : s 1 1 ≠ 0), Q ([], s))
    (h1 : ∀ (g1 : s 1 1 = 0), Q ([], zu s 1 1 (w32 (x1 + (w32 (16 * (s 1 5))))))) : zT (zE 899) (Pt PX7_fail) n (0, [((1 : Nat) : Int), x1], [], s) Q := by
  refine tL ((1 : Nat) : Int) 0 rfl rfl rfl ?_
  refine tFv (c := 1) (s 1 1) 0 rfl rfl rfl rfl rfl ?_
  refine tI1 rfl (fun g1 _ l1 => zT_le ?_ (Nat.le_of_lt l1)) (fun g1 _ l1 => zT_le ?_ (Nat.le_of_lt l1))
  · exact tR rfl (h0 g1)
  · refine tL ((1 : Nat) : Int) 0 rfl rfl rfl ?_
    refine tL x1 0 rfl rfl rfl ?_
    refine tK rfl ?_
    refine tL ((1 : Nat) : Int) 0 rfl rfl rfl ?_
    refine tFv (c := 1) (s 1 5) 0 rfl rfl rfl rfl rfl ?_
    refine tM (v := w32 (16 * (s 1 5))) rfl rfl ?_
    refine tB (v := w32 (x1 + (w32 (16 * (s 1 5))))) rfl rfl ?_
    refine tPut 1 rfl rfl ?_
    exact tR rfl (h1 g1)

theorem c_X7_fail {n : Nat} {Q : Zr → Prop} {a0 a1 : Int} {s : Zs} (h : zT (zE 899) (Pt PX7_fail) n (0, [a0, a1], [], s) Q) : zC n 899 [(a0, 0), (a1, 0)] s Q := h

theorem b_X7_hasMore_0 {n : Nat} {Q : Zr → Prop} (s : Zs) 
    (h0 : ∀ (g1 : s 1 1 ≠ 0), Q ([(0, 0)], s))
    (h1 : ∀ (g1 : s 1 1 = 0), ∀ (g2 : s 1 4 = 1), Q ([(0, 0)], s))
    (h2 : ∀ (g1 : s 1 1 = 0), ∀ (g2 : s 1 4 ≠ 1), Q ([(1, 0)], s)) : zT (zE 901) (Pt PX7_hasMore) n (0, [((1 : Nat) : Int)], [], s) Q := by
  refine tL ((1 : Nat) : Int) 0 rfl rfl rfl ?_
  refine tFv (c := 1) (s 1 1) 0 rfl rfl rfl rfl rfl ?_
  refine tI1 rfl (fun g1 _ l1 => zT_le ?_ (Nat.le_of_lt l1)) (fun g1 _ l1 => zT_le ?_ (Nat.le_of_lt l1))
  · refine tK rfl ?_
    exact tR rfl (h0 g1)
  · refine tL ((1 : Nat) : Int) 0 rfl rfl rfl ?_
    refine tFv (c := 1) (s 1 4) 0 rfl rfl rfl rfl rfl ?_
    refine tK rfl ?_
    refine tJ0 rfl (fun g2 _ l2 => zT_le ?_ (Nat.le_of_lt l2)) (fun g2 _ l2 => zT_le ?_ (Nat.le_of_lt l2))
    · refine tK rfl ?_
      exact tR rfl (h1 g1 g2)
    · refine tK rfl ?_
      refine tG rfl ?_
      exact tR rfl (h2 g1 g2)

theorem c_X7_hasMore {n : Nat} {Q : Zr → Prop} {a0 : Int} {s : Zs} (h : zT (zE 901) (Pt PX7_hasMore) n (0, [a0], [], s) Q) : zC n 901 [(a0, 0)] s Q := h

theorem b_X7_cutNumber_0 {n : Nat} {Q : Zr → Prop} (s : Zs) 
    (h0 : zT (zE 897) (Pt PX7_cutNumber) n (13, [((1 : Nat) : Int)], [], zu (zu s 1 9 0) 1 6 (s 1 5)) Q) : zT (zE 897) (Pt PX7_cutNumber) n (0, [((1 : Nat) : Int)], [], s) Q := by
  refine tL ((1 : Nat) : Int) 0 rfl rfl rfl ?_
  refine tK rfl ?_
  refine tPut 1 rfl rfl ?_
  refine tL ((1 : Nat) : Int) 0 rfl rfl rfl ?_
  refine tL ((1 : Nat) : Int) 0 rfl rfl rfl ?_
  refine tFv (c := 1) (s 1 5) 0 rfl rfl rfl rfl rfl ?_
  refine tPut 1 rfl rfl ?_
  exact zT_le (h0) (Nat.le_refl n)

theorem b_X7_cutNumber_13 {n : Nat} {Q : Zr → Prop} (s : Zs) 
    (h0 : ∀ (g1 : s 1 0 ≤ s 1 6), ∀ (g2 : w32 ((s 1 6) - (s 1 5)) ≤ 4), Q ([], zu s 1 4 3))
    (h1 : ∀ (g1 : s 1 0 ≤ s 1 6), ∀ (g2 : 4 < w32 ((s 1 6) - (s 1 5))), Q ([], zu s 1 4 0))
    (h2 : ∀ (g1 : s 1 6 < s 1 0), ∀ (g4 : s 2 ((s 1 6).toNat) < 48), ∀ (g5 : w32 ((s 1 6) - (s 1 5)) ≤ 4), Q ([], zu s 1 4 3))
    (h3 : ∀ (g1 : s 1 6 < s 1 0), ∀ (g4 : s 2 ((s 1 6).toNat) < 48), ∀ (g5 : 4 < w32 ((s 1 6) - (s 1 5))), Q ([], zu s 1 4 0))
    (h4 : ∀ (g1 : s 1 6 < s 1 0), ∀ (g6 : 48 ≤ s 2 ((s 1 6).toNat)), ∀ (g7 : 57 < s 2 ((s 1 6).toNat)), ∀ (g8 : w32 ((s 1 6) - (s 1 5)) ≤ 4), Q ([], zu s 1 4 3))
    (h5 : ∀ (g1 : s 1 6 < s 1 0), ∀ (g6 : 48 ≤ s 2 ((s 1 6).toNat)), ∀ (g7 : 57 < s 2 ((s 1 6).toNat)), ∀ (g8 : 4 < w32 ((s 1 6) - (s 1 5))), Q ([], zu s 1 4 0))
    (h6 : ∀ (g1 : s 1 6 < s 1 0), ∀ (g9 : 48 ≤ s 2 ((s 1 6).toNat)), ∀ (g10 : s 2 ((s 1 6).toNat) ≤ 57), ∀ m, m < n → zT (zE 897) (Pt PX7_cutNumber) m (13, [((1 : Nat) : Int)], [], zu (zu s 1 9 (w32 ((w32 ((w32 ((s 1 9) * 10)) + (s 2 ((s 1 6).toNat)))) - 48))) 1 6 (w32 ((s 1 6) + 1))) Q) : zT (zE 897) (Pt PX7_cutNumber) n (13, [((1 : Nat) : Int)], [], s) Q := by
  refine tL ((1 : Nat) : Int) 0 rfl rfl rfl ?_
  refine tFv (c := 1) (s 1 6) 0 rfl rfl rfl rfl rfl ?_
  refine tL ((1 : Nat) : Int) 0 rfl rfl rfl ?_
  refine tFv (c := 1) (s 1 0) 0 rfl rfl rfl rfl rfl ?_
  refine tJ3 rfl (fun g1 _ l1 => zT_le ?_ (Nat.le_of_lt l1)) (fun g1 _ l1 => zT_le ?_ (Nat.le_of_lt l1))
  · refine tL ((1 : Nat) : Int) 0 rfl rfl rfl ?_
    refine tL ((1 : Nat) : Int) 0 rfl rfl rfl ?_
    refine tFv (c := 1) (s 1 6) 0 rfl rfl rfl rfl rfl ?_
    refine tL ((1 : Nat) : Int) 0 rfl rfl rfl ?_
    refine tFv (c := 1) (s 1 5) 0 rfl rfl rfl rfl rfl ?_
    refine tB (v := w32 ((s 1 6) - (s 1 5))) rfl rfl ?_
    refine tK rfl ?_
    refine tJ5 rfl (fun g2 _ l2 => zT_le ?_ (Nat.le_of_lt l2)) (fun g2 _ l2 => zT_le ?_ (Nat.le_of_lt l2))
    · refine tK rfl ?_
      refine tPut 1 rfl rfl ?_
      exact tR rfl (h0 g1 g2)
    · refine tK rfl ?_
      refine tG rfl ?_
      refine tPut 1 rfl rfl ?_
      exact tR rfl (h1 g1 g2)
  · refine tL ((1 : Nat) : Int) 0 rfl rfl rfl ?_
    refine tFR (c := 1) 2 rfl rfl rfl rfl rfl ?_
    refine tL ((1 : Nat) : Int) 0 rfl rfl rfl ?_
    refine tFv (c := 1) (s 1 6) 0 rfl rfl rfl rfl rfl ?_
    refine tAv 2 ((s 1 6).toNat) (s 2 ((s 1 6).toNat)) 0 rfl rfl rfl (by decide) rfl rfl ?_
    refine tCall [(s 2 ((s 1 6).toNat), 0)] [] rfl rfl rfl (fun m3 l3 => c_X7_isDigit (b_X7_isDigit_0 (s 2 ((s 1 6).toNat)) s ?_ ?_ ?_))
    · intro g4
      show zT (zE 897) (Pt PX7_cutNumber) m3 (36, [((1 : Nat) : Int)], [(0, 0)], s) Q
      refine tI0 rfl (fun g _ l => zT_le ?_ (Nat.le_of_lt l)) (fun g _ l => (absurd g (by decide)))
      refine tL ((1 : Nat) : Int) 0 rfl rfl rfl ?_
      refine tL ((1 : Nat) : Int) 0 rfl rfl rfl ?_
      refine tFv (c := 1) (s 1 6) 0 rfl rfl rfl rfl rfl ?_
      refine tL ((1 : Nat) : Int) 0 rfl rfl rfl ?_
      refine tFv (c := 1) (s 1 5) 0 rfl rfl rfl rfl rfl ?_
      refine tB (v := w32 ((s 1 6) - (s 1 5))) rfl rfl ?_
      refine tK rfl ?_
      refine tJ5 rfl (fun g5 _ l5 => zT_le ?_ (Nat.le_of_lt l5)) (fun g5 _ l5 => zT_le ?_ (Nat.le_of_lt l5))
      · refine tK rfl ?_
        refine tPut 1 rfl rfl ?_
        exact tR rfl (h2 g1 g4 g5)
      · refine tK rfl ?_
        refine tG rfl ?_
        refine tPut 1 rfl rfl ?_
        exact tR rfl (h3 g1 g4 g5)
    · intro g6 g7
      show zT (zE 897) (Pt PX7_cutNumber) m3 (36, [((1 : Nat) : Int)], [(0, 0)], s) Q
      refine tI0 rfl (fun g _ l => zT_le ?_ (Nat.le_of_lt l)) (fun g _ l => (absurd g (by decide)))
      refine tL ((1 : Nat) : Int) 0 rfl rfl rfl ?_
      refine tL ((1 : Nat) : Int) 0 rfl rfl rfl ?_
      refine tFv (c := 1) (s 1 6) 0 rfl rfl rfl rfl rfl ?_
      refine tL ((1 : Nat) : Int) 0 rfl rfl rfl ?_
      refine tFv (c := 1) (s 1 5) 0 rfl rfl rfl rfl rfl ?_
      refine tB (v := w32 ((s 1 6) - (s 1 5))) rfl rfl ?_
      refine tK rfl ?_
      refine tJ5 rfl (fun g8 _ l8 => zT_le ?_ (Nat.le_of_lt l8)) (fun g8 _ l8 => zT_le ?_ (Nat.le_of_lt l8))
      · refine tK rfl ?_
        refine tPut 1 rfl rfl ?_
        exact tR rfl (h4 g1 g6 g7 g8)
      · refine tK rfl ?_
        refine tG rfl ?_
        refine tPut 1 rfl rfl ?_
        exact tR rfl (h5 g1 g6 g7 g8)
    · intro g9 g10
      show zT (zE 897) (Pt PX7_cutNumber) m3 (36, [((1 : Nat) : Int)], [(1, 0)], s) Q
      refine tI0 rfl (fun g _ l => (absurd g (by decide))) (fun g _ l => zT_le ?_ (Nat.le_of_lt l))
      refine tL ((1 : Nat) : Int) 0 rfl rfl rfl ?_
      refine tL ((1 : Nat) : Int) 0 rfl rfl rfl ?_
      refine tFv (c := 1) (s 1 9) 0 rfl rfl rfl rfl rfl ?_
      refine tK rfl ?_
      refine tM (v := w32 ((s 1 9) * 10)) rfl rfl ?_
      refine tL ((1 : Nat) : Int) 0 rfl rfl rfl ?_
      refine tFR (c := 1) 2 rfl rfl rfl rfl rfl ?_
      refine tL ((1 : Nat) : Int) 0 rfl rfl rfl ?_
      refine tFv (c := 1) (s 1 6) 0 rfl rfl rfl rfl rfl ?_
      refine tAv 2 ((s 1 6).toNat) (s 2 ((s 1 6).toNat)) 0 rfl rfl rfl (by decide) rfl rfl ?_
      refine tB (v := w32 ((w32 ((s 1 9) * 10)) + (s 2 ((s 1 6).toNat)))) rfl rfl ?_
      refine tK rfl ?_
      refine tB (v := w32 ((w32 ((w32 ((s 1 9) * 10)) + (s 2 ((s 1 6).toNat)))) - 48)) rfl rfl ?_
      refine tPut 1 rfl rfl ?_
      refine tL ((1 : Nat) : Int) 0 rfl rfl rfl ?_
      refine tD rfl ?_
      refine tFv (c := 1) (s 1 6) 0 rfl rfl rfl rfl rfl ?_
      refine tK rfl ?_
      refine tB (v := w32 ((s 1 6) + 1)) rfl rfl ?_
      refine tPut 1 rfl rfl ?_
      exact tGb rfl (fun m2 l2 => h6 g1 g9 g10 m2 (Nat.lt_of_lt_of_le l2 (Nat.le_trans (Nat.le_of_lt l3) (Nat.le_refl n))))

theorem c_X7_cutNumber {n : Nat} {Q : Zr → Prop} {a0 : Int} {s : Zs} (h : zT (zE 897) (Pt PX7_cutNumber) n (0, [a0], [], s) Q) : zC n 897 [(a0, 0)] s Q := h

theorem b_X7_cutWord_0 {n : Nat} {Q : Zr → Prop} (x1 : Int) (s : Zs) 
    (h0 : zT (zE 898) (Pt PX7_cutWord) n (13, [((1 : Nat) : Int), x1], [], zu (zu s 1 7 0) 1 6 (s 1 5)) Q) : zT (zE 898) (Pt PX7_cutWord) n (0, [((1 : Nat) : Int), x1], [], s) Q := by
  refine tL ((1 : Nat) : Int) 0 rfl rfl rfl ?_
  refine tKL rfl ?_
  refine tPut 1 rfl rfl ?_
  refine tL ((1 : Nat) : Int) 0 rfl rfl rfl ?_
  refine tL ((1 : Nat) : Int) 0 rfl rfl rfl ?_
  refine tFv (c := 1) (s 1 5) 0 rfl rfl rfl rfl rfl ?_
  refine tPut 1 rfl rfl ?_
  exact zT_le (h0) (Nat.le_refl n)

theorem b_X7_cutWord_13 {n : Nat} {Q : Zr → Prop} (x1 : Int) (s : Zs) 
    (h0 : ∀ (g1 : s 1 0 ≤ s 1 6), ∀ (g2 : w32 ((s 1 6) - (s 1 5)) ≤ 8), zT (zE 898) (Pt PX7_cutWord) n (102, [((1 : Nat) : Int), 0], [], zu (zu s 1 4 2) 1 8 (-1)) Q)
    (h1 : ∀ (g1 : s 1 0 ≤ s 1 6), ∀ (g2 : 8 < w32 ((s 1 6) - (s 1 5))), zT (zE 898) (Pt PX7_cutWord) n (102, [((1 : Nat) : Int), 0], [], zu (zu s 1 4 0) 1 8 (-1)) Q)
    (h2 : ∀ (g1 : s 1 6 < s 1 0), ∀ (g4 : s 2 ((s 1 6).toNat) < 97), ∀ (g5 : w32 ((s 1 6) - (s 1 5)) ≤ 8), zT (zE 898) (Pt PX7_cutWord) n (102, [((1 : Nat) : Int), 0], [], zu (zu s 1 4 2) 1 8 (-1)) Q)
    (h3 : ∀ (g1 : s 1 6 < s 1 0), ∀ (g4 : s 2 ((s 1 6).toNat) < 97), ∀ (g5 : 8 < w32 ((s 1 6) - (s 1 5))), zT (zE 898) (Pt PX7_cutWord) n (102, [((1 : Nat) : Int), 0], [], zu (zu s 1 4 0) 1 8 (-1)) Q)
    (h4 : ∀ (g1 : s 1 6 < s 1 0), ∀ (g6 : 97 ≤ s 2 ((s 1 6).toNat)), ∀ (g7 : 122 < s 2 ((s 1 6).toNat)), ∀ (g8 : w32 ((s 1 6) - (s 1 5)) ≤ 8), zT (zE 898) (Pt PX7_cutWord) n (102, [((1 : Nat) : Int), 0], [], zu (zu s 1 4 2) 1 8 (-1)) Q)
    (h5 : ∀ (g1 : s 1 6 < s 1 0), ∀ (g6 : 97 ≤ s 2 ((s 1 6).toNat)), ∀ (g7 : 122 < s 2 ((s 1 6).toNat)), ∀ (g8 : 8 < w32 ((s 1 6) - (s 1 5))), zT (zE 898) (Pt PX7_cutWord) n (102, [((1 : Nat) : Int), 0], [], zu (zu s 1 4 0) 1 8 (-1)) Q)
    (h6 : ∀ (g1 : s 1 6 < s 1 0), ∀ (g9 : 97 ≤ s 2 ((s 1 6).toNat)), ∀ (g10 : s 2 ((s 1 6).toNat) ≤ 122), ∀ m, m < n → zT (zE 898) (Pt PX7_cutWord) m (13, [((1 : Nat) : Int), x1], [], zu (zu s 1 7 (zorL (zshlL (s 1 7) 5) (w32 ((w32 ((s 2 ((s 1 6).toNat)) - 97)) + 1)))) 1 6 (w32 ((s 1 6) + 1))) Q) : zT (zE 898) (Pt PX7_cutWord) n (13, [((1 : Nat) : Int), x1], [], s) Q := by
  refine tL ((1 : Nat) : Int) 0 rfl rfl rfl ?_
  refine tFv (c := 1) (s 1 6) 0 rfl rfl rfl rfl rfl ?_
  refine tL ((1 : Nat) : Int) 0 rfl rfl rfl ?_
  refine tFv (c := 1) (s 1 0) 0 rfl rfl rfl rfl rfl ?_
  refine tJ3 rfl (fun g1 _ l1 => zT_le ?_ (Nat.le_of_lt l1)) (fun g1 _ l1 => zT_le ?_ (Nat.le_of_lt l1))
  · refine tL ((1 : Nat) : Int) 0 rfl rfl rfl ?_
    refine tL ((1 : Nat) : Int) 0 rfl rfl rfl ?_
    refine tFv (c := 1) (s 1 6) 0 rfl rfl rfl rfl rfl ?_
    refine tL ((1 : Nat) : Int) 0 rfl rfl rfl ?_
    refine tFv (c := 1) (s 1 5) 0 rfl rfl rfl rfl rfl ?_
    refine tB (v := w32 ((s 1 6) - (s 1 5))) rfl rfl ?_
    refine tK rfl ?_
    refine tJ5 rfl (fun g2 _ l2 => zT_le ?_ (Nat.le_of_lt l2)) (fun g2 _ l2 => zT_le ?_ (Nat.le_of_lt l2))
    · refine tK rfl ?_
      refine tPut 1 rfl rfl ?_
      refine tL ((1 : Nat) : Int) 0 rfl rfl rfl ?_
      refine tK rfl ?_
      refine tPut 1 rfl rfl ?_
      refine tK rfl ?_
      refine tS [((1 : Nat) : Int), 0] rfl rfl ?_
      exact zT_le (h0 g1 g2) (Nat.le_refl n)
    · refine tK rfl ?_
      refine tG rfl ?_
      refine tPut 1 rfl rfl ?_
      refine tL ((1 : Nat) : Int) 0 rfl rfl rfl ?_
      refine tK rfl ?_
      refine tPut 1 rfl rfl ?_
      refine tK rfl ?_
      refine tS [((1 : Nat) : Int), 0] rfl rfl ?_
      exact zT_le (h1 g1 g2) (Nat.le_refl n)
  · refine tL ((1 : Nat) : Int) 0 rfl rfl rfl ?_
    refine tFR (c := 1) 2 rfl rfl rfl rfl rfl ?_
    refine tL ((1 : Nat) : Int) 0 rfl rfl rfl ?_
    refine tFv (c := 1) (s 1 6) 0 rfl rfl rfl rfl rfl ?_
    refine tAv 2 ((s 1 6).toNat) (s 2 ((s 1 6).toNat)) 0 rfl rfl rfl (by decide) rfl rfl ?_
    refine tCall [(s 2 ((s 1 6).toNat), 0)] [] rfl rfl rfl (fun m3 l3 => c_X7_isLetter (b_X7_isLetter_0 (s 2 ((s 1 6).toNat)) s ?_ ?_ ?_))
    · intro g4
      show zT (zE 898) (Pt PX7_cutWord) m3 (36, [((1 : Nat) : Int), x1], [(0, 0)], s) Q
      refine tI0 rfl (fun g _ l => zT_le ?_ (Nat.le_of_lt l)) (fun g _ l => (absurd g (by decide)))
      refine tL ((1 : Nat) : Int) 0 rfl rfl rfl ?_
      refine tL ((1 : Nat) : Int) 0 rfl rfl rfl ?_
      refine tFv (c := 1) (s 1 6) 0 rfl rfl rfl rfl rfl ?_
      refine tL ((1 : Nat) : Int) 0 rfl rfl rfl ?_
      refine tFv (c := 1) (s 1 5) 0 rfl rfl rfl rfl rfl ?_
      refine tB (v := w32 ((s 1 6) - (s 1 5))) rfl rfl ?_
      refine tK rfl ?_
      refine tJ5 rfl (fun g5 _ l5 => zT_le ?_ (Nat.le_of_lt l5)) (fun g5 _ l5 => zT_le ?_ (Nat.le_of_lt l5))
      · refine tK rfl ?_
        refine tPut 1 rfl rfl ?_
        refine tL ((1 : Nat) : Int) 0 rfl rfl rfl ?_
        refine tK rfl ?_
        refine tPut 1 rfl rfl ?_
        refine tK rfl ?_
        refine tS [((1 : Nat) : Int), 0] rfl rfl ?_
        exact zT_le (h2 g1 g4 g5) (Nat.le_trans (Nat.le_of_lt l3) (Nat.le_refl n))
      · refine tK rfl ?_
        refine tG rfl ?_
        refine tPut 1 rfl rfl ?_
        refine tL ((1 : Nat) : Int) 0 rfl rfl rfl ?_
        refine tK rfl ?_
        refine tPut 1 rfl rfl ?_
        refine tK rfl ?_
        refine tS [((1 : Nat) : Int), 0] rfl rfl ?_
        exact zT_le (h3 g1 g4 g5) (Nat.le_trans (Nat.le_of_lt l3) (Nat.le_refl n))
    · intro g6 g7
      show zT (zE 898) (Pt PX7_cutWord) m3 (36, [((1 : Nat) : Int), x1], [(0, 0)], s) Q
      refine tI0 rfl (fun g _ l => zT_le ?_ (Nat.le_of_lt l)) (fun g _ l => (absurd g (by decide)))
      refine tL ((1 : Nat) : Int) 0 rfl rfl rfl ?_
      refine tL ((1 : Nat) : Int) 0 rfl rfl rfl ?_
      refine tFv (c := 1) (s 1 6) 0 rfl rfl rfl rfl rfl ?_
      refine tL ((1 : Nat) : Int) 0 rfl rfl rfl ?_
      refine tFv (c := 1) (s 1 5) 0 rfl rfl rfl rfl rfl ?_
      refine tB (v := w32 ((s 1 6) - (s 1 5))) rfl rfl ?_
      refine tK rfl ?_
      refine tJ5 rfl (fun g8 _ l8 => zT_le ?_ (Nat.le_of_lt l8)) (fun g8 _ l8 => zT_le ?_ (Nat.le_of_lt l8))
      · refine tK rfl ?_
        refine tPut 1 rfl rfl ?_
        refine tL ((1 : Nat) : Int) 0 rfl rfl rfl ?_
        refine tK rfl ?_
        refine tPut 1 rfl rfl ?_
        refine tK rfl ?_
        refine tS [((1 : Nat) : Int), 0] rfl rfl ?_
        exact zT_le (h4 g1 g6 g7 g8) (Nat.le_trans (Nat.le_of_lt l3) (Nat.le_refl n))
      · refine tK rfl ?_
        refine tG rfl ?_
        refine tPut 1 rfl rfl ?_
        refine tL ((1 : Nat) : Int) 0 rfl rfl rfl ?_
        refine tK rfl ?_
        refine tPut 1 rfl rfl ?_
        refine tK rfl ?_
        refine tS [((1 : Nat) : Int), 0] rfl rfl ?_
        exact zT_le (h5 g1 g6 g7 g8) (Nat.le_trans (Nat.le_of_lt l3) (Nat.le_refl n))
    · intro g9 g10
      show zT (zE 898) (Pt PX7_cutWord) m3 (36, [((1 : Nat) : Int), x1], [(1, 0)], s) Q
      refine tI0 rfl (fun g _ l => (absurd g (by decide))) (fun g _ l => zT_le ?_ (Nat.le_of_lt l))
      refine tL ((1 : Nat) : Int) 0 rfl rfl rfl ?_
      refine tL ((1 : Nat) : Int) 0 rfl rfl rfl ?_
      refine tFv (c := 1) (s 1 7) 1 rfl rfl rfl rfl rfl ?_
      refine tL ((1 : Nat) : Int) 0 rfl rfl rfl ?_
      refine tFR (c := 1) 2 rfl rfl rfl rfl rfl ?_
      refine tL ((1 : Nat) : Int) 0 rfl rfl rfl ?_
      refine tFv (c := 1) (s 1 6) 0 rfl rfl rfl rfl rfl ?_
      refine tAv 2 ((s 1 6).toNat) (s 2 ((s 1 6).toNat)) 0 rfl rfl rfl (by decide) rfl rfl ?_
      refine tCall [(s 1 7, 1), (s 2 ((s 1 6).toNat), 0)] [(((1 : Nat) : Int), 0)] rfl rfl rfl (fun m11 l11 => c_X7_withLetter (b_X7_withLetter_0 (s 1 7) 0 (s 2 ((s 1 6).toNat)) s ?_))
      · show zT (zE 898) (Pt PX7_cutWord) m11 (56, [((1 : Nat) : Int), x1], [(zorL (zshlL (s 1 7) 5) (w32 ((w32 ((s 2 ((s 1 6).toNat)) - 97)) + 1)), 1), (((1 : Nat) : Int), 0)], s) Q
        refine tPut 1 rfl rfl ?_
        refine tL ((1 : Nat) : Int) 0 rfl rfl rfl ?_
        refine tD rfl ?_
        refine tFv (c := 1) (s 1 6) 0 rfl rfl rfl rfl rfl ?_
        refine tK rfl ?_
        refine tB (v := w32 ((s 1 6) + 1)) rfl rfl ?_
        refine tPut 1 rfl rfl ?_
        exact tGb rfl (fun m2 l2 => h6 g1 g9 g10 m2 (Nat.lt_of_lt_of_le l2 (Nat.le_trans (Nat.le_of_lt l11) (Nat.le_trans (Nat.le_of_lt l3) (Nat.le_refl n)))))

theorem b_X7_cutWord_102 {n : Nat} {Q : Zr → Prop} (x1 : Int) (s : Zs) 
    (h0 : ∀ (g1 : 28 ≤ x1), Q ([], s))
    (h1 : ∀ (g1 : x1 < 28), ∀ (g2 : zcmpL (s 3 x1.toNat) (s 1 7) ≠ 0), ∀ m, m < n → zT (zE 898) (Pt PX7_cutWord) m (102, [((1 : Nat) : Int), w32 (x1 + 1)], [], s) Q)
    (h2 : ∀ (g1 : x1 < 28), ∀ (g2 : zcmpL (s 3 x1.toNat) (s 1 7) = 0), ∀ m, m < n → zT (zE 898) (Pt PX7_cutWord) m (102, [((1 : Nat) : Int), w32 (x1 + 1)], [], zu s 1 8 x1) Q) : zT (zE 898) (Pt PX7_cutWord) n (102, [((1 : Nat) : Int), x1], [], s) Q := by
  refine tL x1 0 rfl rfl rfl ?_
  refine tK rfl ?_
  refine tJ3 rfl (fun g1 _ l1 => zT_le ?_ (Nat.le_of_lt l1)) (fun g1 _ l1 => zT_le ?_ (Nat.le_of_lt l1))
  · exact tR rfl (h0 g1)
  · refine tL ((1 : Nat) : Int) 0 rfl rfl rfl ?_
    refine tFR (c := 1) 3 rfl rfl rfl rfl rfl ?_
    refine tL x1 0 rfl rfl rfl ?_
    refine tAv 3 x1.toNat (s 3 x1.toNat) 1 rfl rfl rfl (by decide) rfl rfl ?_
    refine tL ((1 : Nat) : Int) 0 rfl rfl rfl ?_
    refine tFv (c := 1) (s 1 7) 1 rfl rfl rfl rfl rfl ?_
    refine tC rfl ?_
    refine tI1 rfl (fun g2 _ l2 => zT_le ?_ (Nat.le_of_lt l2)) (fun g2 _ l2 => zT_le ?_ (Nat.le_of_lt l2))
    · refine tInc [((1 : Nat) : Int), w32 (x1 + 1)] rfl rfl ?_
      exact tGb rfl (fun m2 l2 => h1 g1 g2 m2 (Nat.lt_of_lt_of_le l2 (Nat.le_refl n)))
    · refine tL ((1 : Nat) : Int) 0 rfl rfl rfl ?_
      refine tL x1 0 rfl rfl rfl ?_
      refine tPut 1 rfl rfl ?_
      refine tInc [((1 : Nat) : Int), w32 (x1 + 1)] rfl rfl ?_
      exact tGb rfl (fun m2 l2 => h2 g1 g2 m2 (Nat.lt_of_lt_of_le l2 (Nat.le_refl n)))

theorem c_X7_cutWord {n : Nat} {Q : Zr → Prop} {a0 : Int} {s : Zs} (h : zT (zE 898) (Pt PX7_cutWord) n (0, [a0, 0], [], s) Q) : zC n 898 [(a0, 0)] s Q := h

theorem b_X7_next_0 {n : Nat} {Q : Zr → Prop} (s : Zs) 
    (h0 : zT (zE 910) (Pt PX7_next) n (8, [((1 : Nat) : Int)], [], zu s 1 5 (s 1 6)) Q) : zT (zE 910) (Pt PX7_next) n (0, [((1 : Nat) : Int)], [], s) Q := by
  refine tL ((1 : Nat) : Int) 0 rfl rfl rfl ?_
  refine tL ((1 : Nat) : Int) 0 rfl rfl rfl ?_
  refine tFv (c := 1) (s 1 6) 0 rfl rfl rfl rfl rfl ?_
  refine tPut 1 rfl rfl ?_
  exact zT_le (h0) (Nat.le_refl n)

theorem b_X7_next_8 {n : Nat} {Q : Zr → Prop} (s : Zs) 
    (h0 : ∀ (g1 : s 1 0 ≤ s 1 5), Q ([], zu (zu s 1 4 1) 1 6 (s 1 5)))
    (h1 : ∀ (g1 : s 1 5 < s 1 0), ∀ (g2 : s 2 ((s 1 5).toNat) = 10), ∀ m, m < n → zT (zE 910) (Pt PX7_next) m (8, [((1 : Nat) : Int)], [], zu s 1 5 (w32 ((s 1 5) + 1))) Q)
    (h2 : ∀ (g1 : s 1 5 < s 1 0), ∀ (g2 : s 2 ((s 1 5).toNat) ≠ 10), ∀ (g3 : s 2 ((s 1 5).toNat) ≠ 32), ∀ (g5 : s 2 ((s 1 5).toNat) < 97), ∀ (g7 : s 2 ((s 1 5).toNat) < 48), ∀ (g8 : 0 ≤ zsgn (s 2 ((s 1 5).toNat))), Q ([], zu (zu s 1 4 4) 1 6 (w32 ((s 1 5) + 1))))
    (h3 : ∀ (g1 : s 1 5 < s 1 0), ∀ (g2 : s 2 ((s 1 5).toNat) ≠ 10), ∀ (g3 : s 2 ((s 1 5).toNat) ≠ 32), ∀ (g5 : s 2 ((s 1 5).toNat) < 97), ∀ (g7 : s 2 ((s 1 5).toNat) < 48), ∀ (g8 : zsgn (s 2 ((s 1 5).toNat)) < 0), Q ([], zu (zu s 1 4 0) 1 6 (w32 ((s 1 5) + 1))))
    (h4 : ∀ (g1 : s 1 5 < s 1 0), ∀ (g2 : s 2 ((s 1 5).toNat) ≠ 10), ∀ (g3 : s 2 ((s 1 5).toNat) ≠ 32), ∀ (g5 : s 2 ((s 1 5).toNat) < 97), ∀ (g9 : 48 ≤ s 2 ((s 1 5).toNat)), ∀ (g10 : 57 < s 2 ((s 1 5).toNat)), ∀ (g11 : 0 ≤ zsgn (s 2 ((s 1 5).toNat))), Q ([], zu (zu s 1 4 4) 1 6 (w32 ((s 1 5) + 1))))
    (h5 : ∀ (g1 : s 1 5 < s 1 0), ∀ (g2 : s 2 ((s 1 5).toNat) ≠ 10), ∀ (g3 : s 2 ((s 1 5).toNat) ≠ 32), ∀ (g5 : s 2 ((s 1 5).toNat) < 97), ∀ (g9 : 48 ≤ s 2 ((s 1 5).toNat)), ∀ (g10 : 57 < s 2 ((s 1 5).toNat)), ∀ (g11 : zsgn (s 2 ((s 1 5).toNat)) < 0), Q ([], zu (zu s 1 4 0) 1 6 (w32 ((s 1 5) + 1))))
    (h6 : ∀ (g1 : s 1 5 < s 1 0), ∀ (g2 : s 2 ((s 1 5).toNat) ≠ 10), ∀ (g3 : s 2 ((s 1 5).toNat) ≠ 32), ∀ (g5 : s 2 ((s 1 5).toNat) < 97), ∀ (g12 : 48 ≤ s 2 ((s 1 5).toNat)), ∀ (g13 : s 2 ((s 1 5).toNat) ≤ 57), ∀ m, m < n → zC m 897 [(((1 : Nat) : Int), 0)] s (fun p => zT (zE 910) (Pt PX7_next) m (128, [((1 : Nat) : Int)], p.1 ++ [], p.2) Q))
    (h7 : ∀ (g1 : s 1 5 < s 1 0), ∀ (g2 : s 2 ((s 1 5).toNat) ≠ 10), ∀ (g3 : s 2 ((s 1 5).toNat) ≠ 32), ∀ (g15 : 97 ≤ s 2 ((s 1 5).toNat)), ∀ (g16 : 122 < s 2 ((s 1 5).toNat)), ∀ (g18 : s 2 ((s 1 5).toNat) < 48), ∀ (g19 : 0 ≤ zsgn (s 2 ((s 1 5).toNat))), Q ([], zu (zu s 1 4 4) 1 6 (w32 ((s 1 5) + 1))))
    (h8 : ∀ (g1 : s 1 5 < s 1 0), ∀ (g2 : s 2 ((s 1 5).toNat) ≠ 10), ∀ (g3 : s 2 ((s 1 5).toNat) ≠ 32), ∀ (g15 : 97 ≤ s 2 ((s 1 5).toNat)), ∀ (g16 : 122 < s 2 ((s 1 5).toNat)), ∀ (g18 : s 2 ((s 1 5).toNat) < 48), ∀ (g19 : zsgn (s 2 ((s 1 5).toNat)) < 0), Q ([], zu (zu s 1 4 0) 1 6 (w32 ((s 1 5) + 1))))
    (h9 : ∀ (g1 : s 1 5 < s 1 0), ∀ (g2 : s 2 ((s 1 5).toNat) ≠ 10), ∀ (g3 : s 2 ((s 1 5).toNat) ≠ 32), ∀ (g15 : 97 ≤ s 2 ((s 1 5).toNat)), ∀ (g16 : 122 < s 2 ((s 1 5).toNat)), ∀ (g20 : 48 ≤ s 2 ((s 1 5).toNat)), ∀ (g21 : 57 < s 2 ((s 1 5).toNat)), ∀ (g22 : 0 ≤ zsgn (s 2 ((s 1 5).toNat))), Q ([], zu (zu s 1 4 4) 1 6 (w32 ((s 1 5) + 1))))
    (h10 : ∀ (g1 : s 1 5 < s 1 0), ∀ (g2 : s 2 ((s 1 5).toNat) ≠ 10), ∀ (g3 : s 2 ((s 1 5).toNat) ≠ 32), ∀ (g15 : 97 ≤ s 2 ((s 1 5).toNat)), ∀ (g16 : 122 < s 2 ((s 1 5).toNat)), ∀ (g20 : 48 ≤ s 2 ((s 1 5).toNat)), ∀ (g21 : 57 < s 2 ((s 1 5).toNat)), ∀ (g22 : zsgn (s 2 ((s 1 5).toNat)) < 0), Q ([], zu (zu s 1 4 0) 1 6 (w32 ((s 1 5) + 1))))
    (h11 : ∀ (g1 : s 1 5 < s 1 0), ∀ (g2 : s 2 ((s 1 5).toNat) ≠ 10), ∀ (g3 : s 2 ((s 1 5).toNat) ≠ 32), ∀ (g15 : 97 ≤ s 2 ((s 1 5).toNat)), ∀ (g16 : 122 < s 2 ((s 1 5).toNat)), ∀ (g23 : 48 ≤ s 2 ((s 1 5).toNat)), ∀ (g24 : s 2 ((s 1 5).toNat) ≤ 57), ∀ m, m < n → zC m 897 [(((1 : Nat) : Int), 0)] s (fun p => zT (zE 910) (Pt PX7_next) m (128, [((1 : Nat) : Int)], p.1 ++ [], p.2) Q))
    (h12 : ∀ (g1 : s 1 5 < s 1 0), ∀ (g2 : s 2 ((s 1 5).toNat) ≠ 10), ∀ (g3 : s 2 ((s 1 5).toNat) ≠ 32), ∀ (g26 : 97 ≤ s 2 ((s 1 5).toNat)), ∀ (g27 : s 2 ((s 1 5).toNat) ≤ 122), ∀ m, m < n → zC m 898 [(((1 : Nat) : Int), 0)] s (fun p => zT (zE 910) (Pt PX7_next) m (106, [((1 : Nat) : Int)], p.1 ++ [], p.2) Q))
    (h13 : ∀ (g1 : s 1 5 < s 1 0), ∀ (g2 : s 2 ((s 1 5).toNat) ≠ 10), ∀ (g3 : s 2 ((s 1 5).toNat) = 32), ∀ m, m < n → zT (zE 910) (Pt PX7_next) m (8, [((1 : Nat) : Int)], [], zu s 1 5 (w32 ((s 1 5) + 1))) Q) : zT (zE 910) (Pt PX7_next) n (8, [((1 : Nat) : Int)], [], s) Q := by
  refine tL ((1 : Nat) : Int) 0 rfl rfl rfl ?_
  refine tFv (c := 1) (s 1 5) 0 rfl rfl rfl rfl rfl ?_
  refine tL ((1 : Nat) : Int) 0 rfl rfl rfl ?_
  refine tFv (c := 1) (s 1 0) 0 rfl rfl rfl rfl rfl ?_
  refine tJ3 rfl (fun g1 _ l1 => zT_le ?_ (Nat.le_of_lt l1)) (fun g1 _ l1 => zT_le ?_ (Nat.le_of_lt l1))
  · refine tL ((1 : Nat) : Int) 0 rfl rfl rfl ?_
    refine tFv (c := 1) (s 1 5) 0 rfl rfl rfl rfl rfl ?_
    refine tL ((1 : Nat) : Int) 0 rfl rfl rfl ?_
    refine tFv (c := 1) (s 1 0) 0 rfl rfl rfl rfl rfl ?_
    refine tJ2 rfl (fun g _ l => False.elim (by omega)) (fun g _ l => zT_le ?_ (Nat.le_of_lt l))
    refine tL ((1 : Nat) : Int) 0 rfl rfl rfl ?_
    refine tK rfl ?_
    refine tPut 1 rfl rfl ?_
    refine tL ((1 : Nat) : Int) 0 rfl rfl rfl ?_
    refine tL ((1 : Nat) : Int) 0 rfl rfl rfl ?_
    refine tFv (c := 1) (s 1 5) 0 rfl rfl rfl rfl rfl ?_
    refine tPut 1 rfl rfl ?_
    refine tG rfl ?_
    exact tR rfl (h0 g1)
  · refine tL ((1 : Nat) : Int) 0 rfl rfl rfl ?_
    refine tFR (c := 1) 2 rfl rfl rfl rfl rfl ?_
    refine tL ((1 : Nat) : Int) 0 rfl rfl rfl ?_
    refine tFv (c := 1) (s 1 5) 0 rfl rfl rfl rfl rfl ?_
    refine tAv 2 ((s 1 5).toNat) (s 2 ((s 1 5).toNat)) 0 rfl rfl rfl (by decide) rfl rfl ?_
    refine tK rfl ?_
    refine tJ0 rfl (fun g2 _ l2 => zT_le ?_ (Nat.le_of_lt l2)) (fun g2 _ l2 => zT_le ?_ (Nat.le_of_lt l2))
    · refine tL ((1 : Nat) : Int) 0 rfl rfl rfl ?_
      refine tD rfl ?_
      refine tFv (c := 1) (s 1 5) 0 rfl rfl rfl rfl rfl ?_
      refine tK rfl ?_
      refine tB (v := w32 ((s 1 5) + 1)) rfl rfl ?_
      refine tPut 1 rfl rfl ?_
      exact tGb rfl (fun m2 l2 => h1 g1 g2 m2 (Nat.lt_of_lt_of_le l2 (Nat.le_refl n)))
    · refine tL ((1 : Nat) : Int) 0 rfl rfl rfl ?_
      refine tFR (c := 1) 2 rfl rfl rfl rfl rfl ?_
      refine tL ((1 : Nat) : Int) 0 rfl rfl rfl ?_
      refine tFv (c := 1) (s 1 5) 0 rfl rfl rfl rfl rfl ?_
      refine tAv 2 ((s 1 5).toNat) (s 2 ((s 1 5).toNat)) 0 rfl rfl rfl (by decide) rfl rfl ?_
      refine tK rfl ?_
      refine tJ1 rfl (fun g3 _ l3 => zT_le ?_ (Nat.le_of_lt l3)) (fun g3 _ l3 => zT_le ?_ (Nat.le_of_lt l3))
      · refine tL ((1 : Nat) : Int) 0 rfl rfl rfl ?_
        refine tFv (c := 1) (s 1 5) 0 rfl rfl rfl rfl rfl ?_
        refine tL ((1 : Nat) : Int) 0 rfl rfl rfl ?_
        refine tFv (c := 1) (s 1 0) 0 rfl rfl rfl rfl rfl ?_
        refine tJ2 rfl (fun g _ l => zT_le ?_ (Nat.le_of_lt l)) (fun g _ l => False.elim (by omega))
        refine tL ((1 : Nat) : Int) 0 rfl rfl rfl ?_
        refine tFR (c := 1) 2 rfl rfl rfl rfl rfl ?_
        refine tL ((1 : Nat) : Int) 0 rfl rfl rfl ?_
        refine tFv (c := 1) (s 1 5) 0 rfl rfl rfl rfl rfl ?_
        refine tAv 2 ((s 1 5).toNat) (s 2 ((s 1 5).toNat)) 0 rfl rfl rfl (by decide) rfl rfl ?_
        refine tCall [(s 2 ((s 1 5).toNat), 0)] [] rfl rfl rfl (fun m4 l4 => c_X7_isLetter (b_X7_isLetter_0 (s 2 ((s 1 5).toNat)) s ?_ ?_ ?_))
        · intro g5
          show zT (zE 910) (Pt PX7_next) m4 (99, [((1 : Nat) : Int)], [(0, 0)], s) Q
          refine tI0 rfl (fun g _ l => zT_le ?_ (Nat.le_of_lt l)) (fun g _ l => (absurd g (by decide)))
          refine tL ((1 : Nat) : Int) 0 rfl rfl rfl ?_
          refine tFR (c := 1) 2 rfl rfl rfl rfl rfl ?_
          refine tL ((1 : Nat) : Int) 0 rfl rfl rfl ?_
          refine tFv (c := 1) (s 1 5) 0 rfl rfl rfl rfl rfl ?_
          refine tAv 2 ((s 1 5).toNat) (s 2 ((s 1 5).toNat)) 0 rfl rfl rfl (by decide) rfl rfl ?_
          refine tCall [(s 2 ((s 1 5).toNat), 0)] [] rfl rfl rfl (fun m6 l6 => c_X7_isDigit (b_X7_isDigit_0 (s 2 ((s 1 5).toNat)) s ?_ ?_ ?_))
          · intro g7
            show zT (zE 910) (Pt PX7_next) m6 (121, [((1 : Nat) : Int)], [(0, 0)], s) Q
            refine tI0 rfl (fun g _ l => zT_le ?_ (Nat.le_of_lt l)) (fun g _ l => (absurd g (by decide)))
            refine tL ((1 : Nat) : Int) 0 rfl rfl rfl ?_
            refine tKR rfl ?_
            refine tL ((1 : Nat) : Int) 0 rfl rfl rfl ?_
            refine tFR (c := 1) 2 rfl rfl rfl rfl rfl ?_
            refine tL ((1 : Nat) : Int) 0 rfl rfl rfl ?_
            refine tFv (c := 1) (s 1 5) 0 rfl rfl rfl rfl rfl ?_
            refine tAv 2 ((s 1 5).toNat) (s 2 ((s 1 5).toNat)) 0 rfl rfl rfl (by decide) rfl rfl ?_
            refine tE4 rfl rfl ?_
            refine tI3 rfl (fun g8 _ l8 => zT_le ?_ (Nat.le_of_lt l8)) (fun g8 _ l8 => zT_le ?_ (Nat.le_of_lt l8))
            · refine tK rfl ?_
              refine tPut 1 rfl rfl ?_
              refine tL ((1 : Nat) : Int) 0 rfl rfl rfl ?_
              refine tL ((1 : Nat) : Int) 0 rfl rfl rfl ?_
              refine tFv (c := 1) (s 1 5) 0 rfl rfl rfl rfl rfl ?_
              refine tK rfl ?_
              refine tB (v := w32 ((s 1 5) + 1)) rfl rfl ?_
              refine tPut 1 rfl rfl ?_
              exact tR rfl (h2 g1 g2 g3 g5 g7 g8)
            · refine tK rfl ?_
              refine tG rfl ?_
              refine tPut 1 rfl rfl ?_
              refine tL ((1 : Nat) : Int) 0 rfl rfl rfl ?_
              refine tL ((1 : Nat) : Int) 0 rfl rfl rfl ?_
              refine tFv (c := 1) (s 1 5) 0 rfl rfl rfl rfl rfl ?_
              refine tK rfl ?_
              refine tB (v := w32 ((s 1 5) + 1)) rfl rfl ?_
              refine tPut 1 rfl rfl ?_
              exact tR rfl (h3 g1 g2 g3 g5 g7 g8)
          · intro g9 g10
            show zT (zE 910) (Pt PX7_next) m6 (121, [((1 : Nat) : Int)], [(0, 0)], s) Q
            refine tI0 rfl (fun g _ l => zT_le ?_ (Nat.le_of_lt l)) (fun g _ l => (absurd g (by decide)))
            refine tL ((1 : Nat) : Int) 0 rfl rfl rfl ?_
            refine tKR rfl ?_
            refine tL ((1 : Nat) : Int) 0 rfl rfl rfl ?_
            refine tFR (c := 1) 2 rfl rfl rfl rfl rfl ?_
            refine tL ((1 : Nat) : Int) 0 rfl rfl rfl ?_
            refine tFv (c := 1) (s 1 5) 0 rfl rfl rfl rfl rfl ?_
            refine tAv 2 ((s 1 5).toNat) (s 2 ((s 1 5).toNat)) 0 rfl rfl rfl (by decide) rfl rfl ?_
            refine tE4 rfl rfl ?_
            refine tI3 rfl (fun g11 _ l11 => zT_le ?_ (Nat.le_of_lt l11)) (fun g11 _ l11 => zT_le ?_ (Nat.le_of_lt l11))
            · refine tK rfl ?_
              refine tPut 1 rfl rfl ?_
              refine tL ((1 : Nat) : Int) 0 rfl rfl rfl ?_
              refine tL ((1 : Nat) : Int) 0 rfl rfl rfl ?_
              refine tFv (c := 1) (s 1 5) 0 rfl rfl rfl rfl rfl ?_
              refine tK rfl ?_
              refine tB (v := w32 ((s 1 5) + 1)) rfl rfl ?_
              refine tPut 1 rfl rfl ?_
              exact tR rfl (h4 g1 g2 g3 g5 g9 g10 g11)
            · refine tK rfl ?_
              refine tG rfl ?_
              refine tPut 1 rfl rfl ?_
              refine tL ((1 : Nat) : Int) 0 rfl rfl rfl ?_
              refine tL ((1 : Nat) : Int) 0 rfl rfl rfl ?_
              refine tFv (c := 1) (s 1 5) 0 rfl rfl rfl rfl rfl ?_
              refine tK rfl ?_
              refine tB (v := w32 ((s 1 5) + 1)) rfl rfl ?_
              refine tPut 1 rfl rfl ?_
              exact tR rfl (h5 g1 g2 g3 g5 g9 g10 g11)
          · intro g12 g13
            show zT (zE 910) (Pt PX7_next) m6 (121, [((1 : Nat) : Int)], [(1, 0)], s) Q
            refine tI0 rfl (fun g _ l => (absurd g (by decide))) (fun g _ l => zT_le ?_ (Nat.le_of_lt l))
            refine tL ((1 : Nat) : Int) 0 rfl rfl rfl ?_
            exact tCall [(((1 : Nat) : Int), 0)] [] rfl rfl rfl (fun m l => h6 g1 g2 g3 g5 g12 g13 m (Nat.lt_of_lt_of_le l (Nat.le_trans (Nat.le_of_lt l6) (Nat.le_trans (Nat.le_of_lt l4) (Nat.le_refl n)))))
        · intro g15 g16
          show zT (zE 910) (Pt PX7_next) m4 (99, [((1 : Nat) : Int)], [(0, 0)], s) Q
          refine tI0 rfl (fun g _ l => zT_le ?_ (Nat.le_of_lt l)) (fun g _ l => (absurd g (by decide)))
          refine tL ((1 : Nat) : Int) 0 rfl rfl rfl ?_
          refine tFR (c := 1) 2 rfl rfl rfl rfl rfl ?_
          refine tL ((1 : Nat) : Int) 0 rfl rfl rfl ?_
          refine tFv (c := 1) (s 1 5) 0 rfl rfl rfl rfl rfl ?_
          refine tAv 2 ((s 1 5).toNat) (s 2 ((s 1 5).toNat)) 0 rfl rfl rfl (by decide) rfl rfl ?_
          refine tCall [(s 2 ((s 1 5).toNat), 0)] [] rfl rfl rfl (fun m17 l17 => c_X7_isDigit (b_X7_isDigit_0 (s 2 ((s 1 5).toNat)) s ?_ ?_ ?_))
          · intro g18
            show zT (zE 910) (Pt PX7_next) m17 (121, [((1 : Nat) : Int)], [(0, 0)], s) Q
            refine tI0 rfl (fun g _ l => zT_le ?_ (Nat.le_of_lt l)) (fun g _ l => (absurd g (by decide)))
            refine tL ((1 : Nat) : Int) 0 rfl rfl rfl ?_
            refine tKR rfl ?_
            refine tL ((1 : Nat) : Int) 0 rfl rfl rfl ?_
            refine tFR (c := 1) 2 rfl rfl rfl rfl rfl ?_
            refine tL ((1 : Nat) : Int) 0 rfl rfl rfl ?_
            refine tFv (c := 1) (s 1 5) 0 rfl rfl rfl rfl rfl ?_
            refine tAv 2 ((s 1 5).toNat) (s 2 ((s 1 5).toNat)) 0 rfl rfl rfl (by decide) rfl rfl ?_
            refine tE4 rfl rfl ?_
            refine tI3 rfl (fun g19 _ l19 => zT_le ?_ (Nat.le_of_lt l19)) (fun g19 _ l19 => zT_le ?_ (Nat.le_of_lt l19))
            · refine tK rfl ?_
              refine tPut 1 rfl rfl ?_
              refine tL ((1 : Nat) : Int) 0 rfl rfl rfl ?_
              refine tL ((1 : Nat) : Int) 0 rfl rfl rfl ?_
              refine tFv (c := 1) (s 1 5) 0 rfl rfl rfl rfl rfl ?_
              refine tK rfl ?_
              refine tB (v := w32 ((s 1 5) + 1)) rfl rfl ?_
              refine tPut 1 rfl rfl ?_
              exact tR rfl (h7 g1 g2 g3 g15 g16 g18 g19)
            · refine tK rfl ?_
              refine tG rfl ?_
              refine tPut 1 rfl rfl ?_
              refine tL ((1 : Nat) : Int) 0 rfl rfl rfl ?_
              refine tL ((1 : Nat) : Int) 0 rfl rfl rfl ?_
              refine tFv (c := 1) (s 1 5) 0 rfl rfl rfl rfl rfl ?_
              refine tK rfl ?_
              refine tB (v := w32 ((s 1 5) + 1)) rfl rfl ?_
              refine tPut 1 rfl rfl ?_
              exact tR rfl (h8 g1 g2 g3 g15 g16 g18 g19)
          · intro g20 g21
            show zT (zE 910) (Pt PX7_next) m17 (121, [((1 : Nat) : Int)], [(0, 0)], s) Q
            refine tI0 rfl (fun g _ l => zT_le ?_ (Nat.le_of_lt l)) (fun g _ l => (absurd g (by decide)))
            refine tL ((1 : Nat) : Int) 0 rfl rfl rfl ?_
            refine tKR rfl ?_
            refine tL ((1 : Nat) : Int) 0 rfl rfl rfl ?_
            refine tFR (c := 1) 2 rfl rfl rfl rfl rfl ?_
            refine tL ((1 : Nat) : Int) 0 rfl rfl rfl ?_
            refine tFv (c := 1) (s 1 5) 0 rfl rfl rfl rfl rfl ?_
            refine tAv 2 ((s 1 5).toNat) (s 2 ((s 1 5).toNat)) 0 rfl rfl rfl (by decide) rfl rfl ?_
            refine tE4 rfl rfl ?_
            refine tI3 rfl (fun g22 _ l22 => zT_le ?_ (Nat.le_of_lt l22)) (fun g22 _ l22 => zT_le ?_ (Nat.le_of_lt l22))
            · refine tK rfl ?_
              refine tPut 1 rfl rfl ?_
              refine tL ((1 : Nat) : Int) 0 rfl rfl rfl ?_
              refine tL ((1 : Nat) : Int) 0 rfl rfl rfl ?_
              refine tFv (c := 1) (s 1 5) 0 rfl rfl rfl rfl rfl ?_
              refine tK rfl ?_
              refine tB (v := w32 ((s 1 5) + 1)) rfl rfl ?_
              refine tPut 1 rfl rfl ?_
              exact tR rfl (h9 g1 g2 g3 g15 g16 g20 g21 g22)
            · refine tK rfl ?_
              refine tG rfl ?_
              refine tPut 1 rfl rfl ?_
              refine tL ((1 : Nat) : Int) 0 rfl rfl rfl ?_
              refine tL ((1 : Nat) : Int) 0 rfl rfl rfl ?_
              refine tFv (c := 1) (s 1 5) 0 rfl rfl rfl rfl rfl ?_
              refine tK rfl ?_
              refine tB (v := w32 ((s 1 5) + 1)) rfl rfl ?_
              refine tPut 1 rfl rfl ?_
              exact tR rfl (h10 g1 g2 g3 g15 g16 g20 g21 g22)
          · intro g23 g24
            show zT (zE 910) (Pt PX7_next) m17 (121, [((1 : Nat) : Int)], [(1, 0)], s) Q
            refine tI0 rfl (fun g _ l => (absurd g (by decide))) (fun g _ l => zT_le ?_ (Nat.le_of_lt l))
            refine tL ((1 : Nat) : Int) 0 rfl rfl rfl ?_
            exact tCall [(((1 : Nat) : Int), 0)] [] rfl rfl rfl (fun m l => h11 g1 g2 g3 g15 g16 g23 g24 m (Nat.lt_of_lt_of_le l (Nat.le_trans (Nat.le_of_lt l17) (Nat.le_trans (Nat.le_of_lt l4) (Nat.le_refl n)))))
        · intro g26 g27
          show zT (zE 910) (Pt PX7_next) m4 (99, [((1 : Nat) : Int)], [(1, 0)], s) Q
          refine tI0 rfl (fun g _ l => (absurd g (by decide))) (fun g _ l => zT_le ?_ (Nat.le_of_lt l))
          refine tL ((1 : Nat) : Int) 0 rfl rfl rfl ?_
          exact tCall [(((1 : Nat) : Int), 0)] [] rfl rfl rfl (fun m l => h12 g1 g2 g3 g26 g27 m (Nat.lt_of_lt_of_le l (Nat.le_trans (Nat.le_of_lt l4) (Nat.le_refl n))))
      · refine tL ((1 : Nat) : Int) 0 rfl rfl rfl ?_
        refine tD rfl ?_
        refine tFv (c := 1) (s 1 5) 0 rfl rfl rfl rfl rfl ?_
        refine tK rfl ?_
        refine tB (v := w32 ((s 1 5) + 1)) rfl rfl ?_
        refine tPut 1 rfl rfl ?_
        exact tGb rfl (fun m2 l2 => h13 g1 g2 g3 m2 (Nat.lt_of_lt_of_le l2 (Nat.le_refl n)))

theorem c_X7_next {n : Nat} {Q : Zr → Prop} {a0 : Int} {s : Zs} (h : zT (zE 910) (Pt PX7_next) n (0, [a0], [], s) Q) : zC n 910 [(a0, 0)] s Q := h

theorem b_X7_next_128 {n : Nat} {Q : Zr → Prop} (s : Zs) 
    (h0 : Q ([], s)) : zT (zE 910) (Pt PX7_next) n (128, [((1 : Nat) : Int)], [], s) Q := by
  refine tG rfl ?_
  exact tR rfl (h0)

theorem b_X7_next_106 {n : Nat} {Q : Zr → Prop} (s : Zs) 
    (h0 : Q ([], s)) : zT (zE 910) (Pt PX7_next) n (106, [((1 : Nat) : Int)], [], s) Q := by
  refine tG rfl ?_
  exact tR rfl (h0)

/-! cutNumber -/
def qNum (s : Zs) (T : Nat → Int) (n b : Nat) (p : Zr) : Prop := p.1 = [] ∧ frK s p.2 ∧ p.2 1 5 = (b : Int) ∧ p.2 1 6 = (ze zDg T n b : Int) ∧ p.2 1 4 = (if ze zDg T n b ≤ b + 4 then 3 else 0) ∧ (ze zDg T n b ≤ b + 4 → p.2 1 9 = eM T n b)
theorem nbs_bd {T : Nat → Int} {b : Nat} : ∀ k, (∀ i, i < k → zDg (T (b + i)) = true) → 0 ≤ nbs T b k ∧ (k ≤ 4 → nbs T b k < 10 ^ k)
  | 0, _ => ⟨Int.le_refl 0, fun _ => by show (0 : Int) < 10 ^ 0; decide⟩
  | k + 1, h => by
    have h1 := nbs_bd k (fun i hi => h i (by omega))
    have h2 := zDg_t.mp (h k (by omega))
    have e : nbs T b (k + 1) = nbs T b k * 10 + T (b + k) - 48 := rfl
    rw [e]
    refine ⟨by omega, fun hk => ?_⟩
    have h3 := h1.2 (by omega)
    rw [Int.pow_succ]
    omega
theorem cutNumber_fin {s : Zs} {T : Nat → Int} {n b e : Nat} {s0 : Zs} {kd : Int} (h : frK s0 s) (h5 : s 1 5 = (b : Int)) (h6 : s 1 6 = (e : Int)) (he : ze zDg T n b = e) (hk : kd = if e ≤ b + 4 then 3 else 0) (h9 : e ≤ b + 4 → s 1 9 = nbs T b (e - b)) : qNum s0 T n b ([], zu s 1 4 kd) := by
  refine ⟨rfl, frK_u h (by omega), h5, ?_, ?_, fun h4 => ?_⟩
  · show s 1 6 = _
    rw [h6, he]
  · show kd = _
    rw [he]
    exact hk
  · show s 1 9 = _
    unfold eM
    rw [he] at h4 ⊢
    exact h9 h4
theorem cutNumber_loop {T : Nat → Int} {n b : Nat} {s0 : Zs} (t0 : tkS s0 T n) (N : Nat) : ∀ (e : Nat) (s : Zs), frK s0 s → s 1 5 = (b : Int) → s 1 6 = (e : Int) → b ≤ e → e ≤ n → ze zDg T n b = ze zDg T n e → (∀ i, b ≤ i → i < e → zDg (T i) = true) → (e ≤ b + 4 → s 1 9 = nbs T b (e - b)) → zT (zE 897) (Pt PX7_cutNumber) N (13, [((1 : Nat) : Int)], [], s) (qNum s0 T n b) := by
  induction N using Nat.strongRecOn with
  | ind N ih =>
    intro e s hf h5 h6 hbe hen hze hall h9
    have t := tkS_fr t0 hf
    obtain ⟨t1, t2, t3, t4⟩ := t
    have hT : e < n → s 2 (s 1 6).toNat = T e := fun h => by
      rw [h6, Int.toNat_natCast]
      exact t3 e h
    have hsub : w32 (s 1 6 - s 1 5) = (e : Int) - (b : Int) := by rw [h5, h6]; exact w32_id (by omega) (by omega)
    have stop : ¬ (e < n ∧ zDg (T e) = true) → ze zDg T n b = e := fun h => by rw [hze]; exact ze_no h
    refine b_X7_cutNumber_13 s (fun g1 g2 => ?_) (fun g1 g2 => ?_) (fun g1 g4 g5 => ?_) (fun g1 g4 g5 => ?_) (fun g1 g6 g7 g8 => ?_) (fun g1 g6 g7 g8 => ?_) (fun g1 g9 g10 m hm => ?_)
    · exact cutNumber_fin hf h5 h6 (stop (by omega)) (by rw [if_pos (by omega)]) h9
    · exact cutNumber_fin hf h5 h6 (stop (by omega)) (by rw [if_neg (by omega)]) h9
    · rw [hT (by omega)] at g4
      exact cutNumber_fin hf h5 h6 (stop (fun h => by have := zDg_t.mp h.2; omega)) (by rw [if_pos (by omega)]) h9
    · rw [hT (by omega)] at g4
      exact cutNumber_fin hf h5 h6 (stop (fun h => by have := zDg_t.mp h.2; omega)) (by rw [if_neg (by omega)]) h9
    · rw [hT (by omega)] at g7
      exact cutNumber_fin hf h5 h6 (stop (fun h => by have := zDg_t.mp h.2; omega)) (by rw [if_pos (by omega)]) h9
    · rw [hT (by omega)] at g7
      exact cutNumber_fin hf h5 h6 (stop (fun h => by have := zDg_t.mp h.2; omega)) (by rw [if_neg (by omega)]) h9
    · have hlt : e < n := by omega
      rw [hT hlt] at g9 g10 ⊢
      have hd : zDg (T e) = true := zDg_t.mpr ⟨g9, g10⟩
      refine ih m hm (e + 1) _ (frK_u (frK_u hf (by omega)) (by omega)) h5 ?_ (by omega) (by omega) (by rw [hze]; exact ze_go hlt hd) (fun i h1 h2 => ?_) (fun h4 => ?_)
      · show w32 (s 1 6 + 1) = _
        rw [h6, w32_id (by omega) (by omega)]
        omega
      · by_cases hi : i = e
        · rw [hi]; exact hd
        · exact hall i h1 (by omega)
      · show w32 (w32 (w32 (s 1 9 * 10) + T e) - 48) = _
        rw [h9 (by omega)]
        have hb := nbs_bd (T := T) (b := b) (e - b) (fun i hi => hall (b + i) (by omega) (by omega))
        have hb2 := hb.2 (by omega)
        have hp : (10 : Int) ^ (e - b) ≤ 10 ^ 3 := pw_le (by omega) (by omega)
        have hp2 : (10 : Int) ^ 3 = 1000 := by decide
        rw [w32_id (z := nbs T b (e - b) * 10) (by omega) (by omega), w32_id (z := nbs T b (e - b) * 10 + T e) (by omega) (by omega), w32_id (by omega) (by omega), show e + 1 - b = (e - b) + 1 from by omega]
        show _ = nbs T b (e - b) * 10 + T (b + (e - b)) - 48
        rw [show b + (e - b) = e from by omega]
theorem cutNumber_ok {N : Nat} {s : Zs} {T : Nat → Int} {n b : Nat} (t : tkS s T n) (h5 : s 1 5 = (b : Int)) (hb : b ≤ n) : zC N 897 [(((1 : Nat) : Int), 0)] s (qNum s T n b) := by
  refine c_X7_cutNumber (b_X7_cutNumber_0 s (cutNumber_loop t N b _ (frK_u (frK_u (frK_rf s) (by omega)) (by omega)) h5 h5 (Nat.le_refl b) hb rfl (fun i h1 h2 => by omega) (fun _ => ?_)))
  rw [Nat.sub_self]
  rfl
/-! cutWord -/
def qWd (s : Zs) (T : Nat → Int) (n b : Nat) (p : Zr) : Prop := p.1 = [] ∧ frK s p.2 ∧ p.2 1 5 = (b : Int) ∧ p.2 1 6 = (ze zLt T n b : Int) ∧ p.2 1 4 = (if ze zLt T n b ≤ b + 8 then 2 else 0) ∧ (ze zLt T n b ≤ b + 8 → p.2 1 7 = enc 32 (eW T n b) ∧ p.2 1 8 = kwi (eW T n b))
theorem cutWord_key {T : Nat → Int} {n b : Nat} {s0 : Zs} (t0 : tkS s0 T n) (hb : b ≤ n) (N : Nat) : ∀ (i : Nat) (s : Zs), frK s0 s → i ≤ 28 → s 1 5 = (b : Int) → s 1 6 = (ze zLt T n b : Int) → s 1 4 = (if ze zLt T n b ≤ b + 8 then 2 else 0) → (ze zLt T n b ≤ b + 8 → s 1 7 = enc 32 (eW T n b) ∧ s 1 8 = kwp (eW T n b) i) → zT (zE 898) (Pt PX7_cutWord) N (102, [((1 : Nat) : Int), (i : Int)], [], s) (qWd s0 T n b) := by
  induction N using Nat.strongRecOn with
  | ind N ih =>
    intro i s hf hi h5 h6 h4 h7
    have t := tkS_fr t0 hf
    refine b_X7_cutWord_102 (i : Int) s (fun g1 => ?_) (fun g1 g2 m hm => ?_) (fun g1 g2 m hm => ?_)
    · have : i = 28 := by omega
      subst this
      exact ⟨rfl, hf, h5, h6, h4, h7⟩
    · rw [show w32 ((i : Int) + 1) = ((i + 1 : Nat) : Int) from by rw [w32_id (by omega) (by omega)]; omega]
      refine ih m hm (i + 1) s hf (by omega) h5 h6 h4 (fun h8 => ⟨(h7 h8).1, ?_⟩)
      rw [Int.toNat_natCast, t.2.2.2 i (by omega), (h7 h8).1] at g2
      show _ = if KW i = eW T n b then (i : Int) else kwp (eW T n b) i
      rw [if_neg (fun e => g2 (zcmpL_eq.mpr (by rw [e])))]
      exact (h7 h8).2
    · rw [show w32 ((i : Int) + 1) = ((i + 1 : Nat) : Int) from by rw [w32_id (by omega) (by omega)]; omega]
      refine ih m hm (i + 1) _ (frK_u hf (by omega)) (by omega) h5 h6 h4 (fun h8 => ⟨(h7 h8).1, ?_⟩)
      rw [Int.toNat_natCast, t.2.2.2 i (by omega), (h7 h8).1] at g2
      show (i : Int) = if KW i = eW T n b then (i : Int) else kwp (eW T n b) i
      rw [if_pos (enc_inj (Or.inr rfl) _ _ (KW_ok i (by omega)) (eW_ok hb) (zcmpL_eq.mp g2))]
theorem cutWord_loop {T : Nat → Int} {n b : Nat} {s0 : Zs} (t0 : tkS s0 T n) (hb : b ≤ n) (N : Nat) : ∀ (e : Nat) (s : Zs) (x1 : Int), frK s0 s → s 1 5 = (b : Int) → s 1 6 = (e : Int) → b ≤ e → e ≤ n → ze zLt T n b = ze zLt T n e → (∀ i, b ≤ i → i < e → zLt (T i) = true) → (e ≤ b + 8 → s 1 7 = enc 32 (wds T b (e - b))) → zT (zE 898) (Pt PX7_cutWord) N (13, [((1 : Nat) : Int), x1], [], s) (qWd s0 T n b) := by
  induction N using Nat.strongRecOn with
  | ind N ih =>
    intro e s x1 hf h5 h6 hbe hen hze hall h9
    have t := tkS_fr t0 hf
    obtain ⟨t1, t2, t3, t4⟩ := t
    have hT : e < n → s 2 (s 1 6).toNat = T e := fun h => by
      rw [h6, Int.toNat_natCast]
      exact t3 e h
    have hsub : w32 (s 1 6 - s 1 5) = (e : Int) - (b : Int) := by rw [h5, h6]; exact w32_id (by omega) (by omega)
    have fin : ∀ kd : Int, ¬ (e < n ∧ zLt (T e) = true) → kd = (if e ≤ b + 8 then 2 else 0) → zT (zE 898) (Pt PX7_cutWord) N (102, [((1 : Nat) : Int), 0], [], zu (zu s 1 4 kd) 1 8 (-1)) (qWd s0 T n b) := fun kd h hk => by
      have he : ze zLt T n b = e := by rw [hze]; exact ze_no h
      refine cutWord_key t0 hb N 0 _ (frK_u (frK_u hf (by omega)) (by omega)) (by omega) h5 (by rw [he]; exact h6) (by rw [he]; exact hk) (fun h8 => ⟨?_, rfl⟩)
      rw [he] at h8
      unfold eW
      rw [he]
      exact h9 h8
    refine b_X7_cutWord_13 x1 s (fun g1 g2 => ?_) (fun g1 g2 => ?_) (fun g1 g4 g5 => ?_) (fun g1 g4 g5 => ?_) (fun g1 g6 g7 g8 => ?_) (fun g1 g6 g7 g8 => ?_) (fun g1 g9 g10 m hm => ?_)
    · exact fin 2 (by omega) (by rw [if_pos (by omega)])
    · exact fin 0 (by omega) (by rw [if_neg (by omega)])
    · rw [hT (by omega)] at g4
      exact fin 2 (fun h => by have := zLt_t.mp h.2; omega) (by rw [if_pos (by omega)])
    · rw [hT (by omega)] at g4
      exact fin 0 (fun h => by have := zLt_t.mp h.2; omega) (by rw [if_neg (by omega)])
    · rw [hT (by omega)] at g7
      exact fin 2 (fun h => by have := zLt_t.mp h.2; omega) (by rw [if_pos (by omega)])
    · rw [hT (by omega)] at g7
      exact fin 0 (fun h => by have := zLt_t.mp h.2; omega) (by rw [if_neg (by omega)])
    · have hlt : e < n := by omega
      rw [hT hlt] at g9 g10 ⊢
      have hd : zLt (T e) = true := zLt_t.mpr ⟨g9, g10⟩
      refine ih m hm (e + 1) _ x1 (frK_u (frK_u hf (by omega)) (by omega)) h5 ?_ (by omega) (by omega) (by rw [hze]; exact ze_go hlt hd) (fun i h1 h2 => ?_) (fun h4 => ?_)
      · show w32 (s 1 6 + 1) = _
        rw [h6, w32_id (by omega) (by omega)]
        omega
      · by_cases hi : i = e
        · rw [hi]; exact hd
        · exact hall i h1 (by omega)
      · show zorL (zshlL (s 1 7) 5) (w32 (w32 (T e - 97) + 1)) = _
        rw [h9 (by omega), show e + 1 - b = (e - b) + 1 from by omega]
        have hok := okW_wds (T := T) (b := b) (e - b) (fun i hi => hall (b + i) (by omega) (by omega))
        have h0 := (enc_pos (B := 32) (by omega) _ hok).1
        have h1 := enc_len _ hok
        rw [wds_len] at h1
        have hp : (32 : Int) ^ (e - b) ≤ 32 ^ 7 := pw_le (by omega) (by omega)
        have hp2 : (32 : Int) ^ 7 = 34359738368 := by decide
        rw [w32_id (z := T e - 97) (by omega) (by omega), w32_id (by omega) (by omega)]
        obtain ⟨w, hw⟩ := Int.eq_ofNat_of_zero_le h0
        obtain ⟨d, hd2⟩ := Int.eq_ofNat_of_zero_le (show 0 ≤ T e - 97 + 1 by omega)
        rw [hw, hd2, z_letter (by omega) (by omega)]
        show _ = enc 32 (wds T b (e - b)) * 32 + (T (b + (e - b)) - 96)
        rw [hw, show b + (e - b) = e from by omega]
        omega
theorem cutWord_ok {N : Nat} {s : Zs} {T : Nat → Int} {n b : Nat} (t : tkS s T n) (h5 : s 1 5 = (b : Int)) (hb : b ≤ n) : zC N 898 [(((1 : Nat) : Int), 0)] s (qWd s T n b) := by
  refine c_X7_cutWord (b_X7_cutWord_0 0 s (cutWord_loop t hb N b _ 0 (frK_u (frK_u (frK_rf s) (by omega)) (by omega)) h5 h5 (Nat.le_refl b) hb rfl (fun i h1 h2 => by omega) (fun _ => ?_)))
  rw [Nat.sub_self]
  rfl
/-! next -/
def qNx (s : Zs) (T : Nat → Int) (n b : Nat) (p : Zr) : Prop := p.1 = [] ∧ frK s p.2 ∧ tkA p.2 T n b

theorem next_fin {s s0 : Zs} {T : Nat → Int} {n b : Nat} {kd e : Int} (h : frK s0 s) (h5 : s 1 5 = (b : Int)) (hk : kd = eQ T n b) (he : e = (eE T n b : Int)) (h2 : eQ T n b ≠ 2) (h3 : eQ T n b ≠ 3) : qNx s0 T n b ([], zu (zu s 1 4 kd) 1 6 e) := ⟨rfl, frK_u (frK_u h (by omega)) (by omega), h5, he, hk, fun h => absurd h h2, fun h => absurd h h3⟩
theorem next_loop {T : Nat → Int} {n p : Nat} {s0 : Zs} (t0 : tkS s0 T n) (N : Nat) : ∀ (e : Nat) (s : Zs), frK s0 s → s 1 5 = (e : Int) → e ≤ n → ze zBl T n e = kB T n p → zT (zE 910) (Pt PX7_next) N (8, [((1 : Nat) : Int)], [], s) (qNx s0 T n (kB T n p)) := by
  induction N using Nat.strongRecOn with
  | ind N ih =>
    intro e s hf h5 hen hze
    have t := tkS_fr t0 hf
    have t' := t
    obtain ⟨t1, t2, t3, t4⟩ := t
    have hT : e < n → s 2 (s 1 5).toNat = T e := fun h => by
      rw [h5, Int.toNat_natCast]
      exact t3 e h
    have back : ∀ m, m < N → e < n → zBl (T e) = true → zT (zE 910) (Pt PX7_next) m (8, [((1 : Nat) : Int)], [], zu s 1 5 (w32 (s 1 5 + 1))) (qNx s0 T n (kB T n p)) := fun m hm hlt hb => by
      refine ih m hm (e + 1) _ (frK_u hf (by omega)) ?_ (by omega) (by rw [← hze]; exact (ze_go hlt hb).symm)
      show w32 (s 1 5 + 1) = _
      rw [h5, w32_id (by omega) (by omega)]
      omega
    have hst : e < n → T e ≠ 10 → T e ≠ 32 → kB T n p = e := fun hlt h1 h2 => by
      rw [← hze]
      exact ze_no (fun h => by rcases zBl_t.mp h.2 with h | h <;> omega)
    have hw1 : e < n → w32 (s 1 5 + 1) = ((e + 1 : Nat) : Int) := fun h => by rw [h5, w32_id (by omega) (by omega)]; omega
    have sgn : e < n → T e ≠ 10 → T e ≠ 32 → zLt (T e) = false → zDg (T e) = false → ∀ kd, kd = (if zSg (T e) = true then 4 else 0) → qNx s0 T n (kB T n p) ([], zu (zu s 1 4 kd) 1 6 (w32 (s 1 5 + 1))) := fun hlt h1 h2 h3 h4 kd hk => by
      rw [hst hlt h1 h2]
      have hq : eQ T n e = kd := by
        unfold eQ
        rw [if_neg (by omega), h3, h4, if_neg (by decide), if_neg (by decide), hk]
      refine next_fin hf h5 hq.symm ?_ (by rw [hq, hk]; split <;> decide) (by rw [hq, hk]; split <;> decide)
      rw [hw1 hlt]
      unfold eE
      rw [if_neg (by omega), h3, h4, if_neg (by decide), if_neg (by decide)]
    have num : e < n → T e ≠ 10 → T e ≠ 32 → zLt (T e) = false → zDg (T e) = true → ∀ m, m < N → zC m 897 [(((1 : Nat) : Int), 0)] s (fun q => zT (zE 910) (Pt PX7_next) m (128, [((1 : Nat) : Int)], q.1 ++ [], q.2) (qNx s0 T n (kB T n p))) := fun hlt h1 h2 h3 h4 m hm => by
      rw [hst hlt h1 h2]
      refine zC_q (cutNumber_ok t' h5 hen) (fun q hq => ?_)
      obtain ⟨q1, q2, q3, q4, q5, q6⟩ := hq
      rw [q1]
      refine b_X7_next_128 q.2 ?_
      have hE : eE T n e = ze zDg T n e := by unfold eE; rw [if_neg (by omega), h3, h4, if_neg (by decide), if_pos rfl]
      have hQ : eQ T n e = if ze zDg T n e ≤ e + 4 then 3 else 0 := by unfold eQ; rw [if_neg (by omega), h3, h4, if_neg (by decide), if_pos rfl]
      refine ⟨rfl, frK_tr hf q2, q3, by rw [hE]; exact q4, by rw [hQ]; exact q5, fun h => ?_, fun h => ?_⟩
      · rw [hQ] at h
        split at h <;> cases h
      · rw [hQ] at h
        split at h
        · rename_i h8; exact q6 h8
        · cases h
    have wrd : e < n → T e ≠ 10 → T e ≠ 32 → zLt (T e) = true → ∀ m, m < N → zC m 898 [(((1 : Nat) : Int), 0)] s (fun q => zT (zE 910) (Pt PX7_next) m (106, [((1 : Nat) : Int)], q.1 ++ [], q.2) (qNx s0 T n (kB T n p))) := fun hlt h1 h2 h3 m hm => by
      rw [hst hlt h1 h2]
      refine zC_q (cutWord_ok t' h5 hen) (fun q hq => ?_)
      obtain ⟨q1, q2, q3, q4, q5, q6⟩ := hq
      rw [q1]
      refine b_X7_next_106 q.2 ?_
      have hE : eE T n e = ze zLt T n e := by unfold eE; rw [if_neg (by omega), h3, if_pos rfl]
      have hQ : eQ T n e = if ze zLt T n e ≤ e + 8 then 2 else 0 := by unfold eQ; rw [if_neg (by omega), h3, if_pos rfl]
      refine ⟨rfl, frK_tr hf q2, q3, by rw [hE]; exact q4, by rw [hQ]; exact q5, fun h => ?_, fun h => ?_⟩
      · rw [hQ] at h
        split at h
        · rename_i h8; exact q6 h8
        · cases h
      · rw [hQ] at h
        split at h <;> cases h
    have lf : ∀ {x : Int}, x < 97 → zLt x = false := fun h => by unfold zLt; simp; omega
    have lf2 : ∀ {x : Int}, 122 < x → zLt x = false := fun h => by unfold zLt; simp; omega
    have df : ∀ {x : Int}, x < 48 → zDg x = false := fun h => by unfold zDg; simp; omega
    have df2 : ∀ {x : Int}, 57 < x → zDg x = false := fun h => by unfold zDg; simp; omega
    have sp : ∀ {x : Int}, 0 ≤ zsgn x → (4 : Int) = if zSg x = true then 4 else 0 := fun h => by rw [if_pos (zSg_t.mpr h)]
    have sn : ∀ {x : Int}, zsgn x < 0 → (0 : Int) = if zSg x = true then 4 else 0 := fun h => by rw [if_neg (fun q => by have := zSg_t.mp q; omega)]
    refine b_X7_next_8 s (fun g1 => ?_) (fun g1 g2 m hm => ?_) (fun g1 g2 g3 g5 g7 g8 => ?_) (fun g1 g2 g3 g5 g7 g8 => ?_) (fun g1 g2 g3 g5 g9 g10 g11 => ?_) (fun g1 g2 g3 g5 g9 g10 g11 => ?_) (fun g1 g2 g3 g5 g12 g13 m hm => ?_) (fun g1 g2 g3 g15 g16 g18 g19 => ?_) (fun g1 g2 g3 g15 g16 g18 g19 => ?_) (fun g1 g2 g3 g15 g16 g20 g21 g22 => ?_) (fun g1 g2 g3 g15 g16 g20 g21 g22 => ?_) (fun g1 g2 g3 g15 g16 g23 g24 m hm => ?_) (fun g1 g2 g3 g26 g27 m hm => ?_) (fun g1 g2 g3 m hm => ?_)
    · have he : kB T n p = e := by rw [← hze]; exact ze_no (by omega)
      rw [he]
      have hq : eQ T n e = 1 := by unfold eQ; rw [if_pos (by omega)]
      refine next_fin hf h5 hq.symm ?_ (by rw [hq]; decide) (by rw [hq]; decide)
      unfold eE
      rw [if_pos (by omega), h5]
    · have hlt : e < n := by omega
      rw [hT hlt] at g2
      exact back m hm hlt (zBl_t.mpr (Or.inl g2))
    · have hlt : e < n := by omega
      rw [hT hlt] at g2 g3 g5 g7 g8
      exact sgn hlt g2 g3 (lf g5) (df g7) 4 (sp g8)
    · have hlt : e < n := by omega
      rw [hT hlt] at g2 g3 g5 g7 g8
      exact sgn hlt g2 g3 (lf g5) (df g7) 0 (sn g8)
    · have hlt : e < n := by omega
      rw [hT hlt] at g2 g3 g5 g9 g10 g11
      exact sgn hlt g2 g3 (lf g5) (df2 g10) 4 (sp g11)
    · have hlt : e < n := by omega
      rw [hT hlt] at g2 g3 g5 g9 g10 g11
      exact sgn hlt g2 g3 (lf g5) (df2 g10) 0 (sn g11)
    · have hlt : e < n := by omega
      rw [hT hlt] at g2 g3 g5 g12 g13
      exact num hlt g2 g3 (lf g5) (zDg_t.mpr ⟨g12, g13⟩) m hm
    · have hlt : e < n := by omega
      rw [hT hlt] at g2 g3 g15 g16 g18 g19
      exact sgn hlt g2 g3 (lf2 g16) (df g18) 4 (sp g19)
    · have hlt : e < n := by omega
      rw [hT hlt] at g2 g3 g15 g16 g18 g19
      exact sgn hlt g2 g3 (lf2 g16) (df g18) 0 (sn g19)
    · have hlt : e < n := by omega
      rw [hT hlt] at g2 g3 g15 g16 g20 g21 g22
      exact sgn hlt g2 g3 (lf2 g16) (df2 g21) 4 (sp g22)
    · have hlt : e < n := by omega
      rw [hT hlt] at g2 g3 g15 g16 g20 g21 g22
      exact sgn hlt g2 g3 (lf2 g16) (df2 g21) 0 (sn g22)
    · have hlt : e < n := by omega
      rw [hT hlt] at g2 g3 g15 g16 g23 g24
      exact num hlt g2 g3 (lf2 g16) (zDg_t.mpr ⟨g23, g24⟩) m hm
    · have hlt : e < n := by omega
      rw [hT hlt] at g2 g3 g26 g27
      exact wrd hlt g2 g3 (zLt_t.mpr ⟨g26, g27⟩) m hm
    · have hlt : e < n := by omega
      rw [hT hlt] at g3
      exact back m hm hlt (zBl_t.mpr (Or.inr g3))
theorem next_ok {N : Nat} {s : Zs} {T : Nat → Int} {n p : Nat} (t : tkS s T n) (h6 : s 1 6 = (p : Int)) (hp : p ≤ n) : zC N 910 [(((1 : Nat) : Int), 0)] s (qNx s T n (kB T n p)) :=
  c_X7_next (b_X7_next_0 s (next_loop t N p _ (frK_u (frK_rf s) (by omega)) h6 hp rfl))

