/-! a town read, whole: the model -/
section Zmz
variable {N : Nat} {s : Zs} {T : Nat → Int} {n p : Nat} {D : ZD}
/-- from a place on, or bad for good -/
def gle (n : Nat) (x y : PS) : Prop := x.2 ≤ y.2 ∧ y.2 ≤ n ∧ (y.1 = 0 → x.1 = 0)
theorem gle_tr {x y z : PS} (h1 : gle n x y) (h2 : gle n y z) : gle n x z := ⟨Nat.le_trans h1.1 h2.1, h2.2.1, fun q => h1.2.2 (h2.2.2 q)⟩
theorem gle_F {k : Int} {x : PS} (hx : x.2 ≤ n) : gle n x (gF T n k x) := by
  have e : (gF T n k x).2 = x.2 := by unfold gF; split <;> rfl
  exact ⟨by omega, by omega, gF_z⟩
theorem gle_Nx {x : PS} (hx : x.2 ≤ n) : gle n x (gNx T n x) := by
  have hb := kE_bd (T := T) hx
  refine ⟨?_, ?_, gNx_z⟩
  · unfold gNx; split
    · show x.2 ≤ kE T n x.2; omega
    · exact Nat.le_refl _
  · unfold gNx; split
    · exact hb.2.2.2
    · exact hx
theorem gle_W {i : Nat} {x : PS} (hx : x.2 ≤ n) : gle n x (gW T n i x) := by unfold gW; split; exact gle_Nx hx; exact gle_F hx
theorem gle_S {c : Int} {x : PS} (hx : x.2 ≤ n) : gle n x (gS T n c x) := by unfold gS; split; exact gle_Nx hx; exact gle_F hx
theorem gle_N {lo hi : Int} {x : PS} (hx : x.2 ≤ n) : gle n x (gN T n lo hi x) := by
  unfold gN
  split
  · split; exact gle_Nx hx; exact gle_F hx
  · exact gle_F hx
theorem gle_rf {x : PS} (hx : x.2 ≤ n) : gle n x x := ⟨Nat.le_refl _, hx, fun q => q⟩
theorem gle_Nm {x : PS} (hx : x.2 ≤ n) : gle n x (gNm T n x) := by unfold gNm; split; exact gle_rf hx; exact gle_F hx
theorem gle_Nh {x : PS} (hx : x.2 ≤ n) : gle n x (gNh T n x) := by unfold gNh; split; exact gle_rf hx; exact gle_F hx
theorem gle_New {x : PS} (hx : x.2 ≤ n) : gle n x (gNew T n D x) := by
  have h := gle_Nm (T := T) hx
  unfold gNew
  split
  · exact gle_tr h (gle_F h.2.1)
  · exact gle_tr h (gle_Nx h.2.1)
theorem gle_To {ws : List (List Int)} {x : PS} (hx : x.2 ≤ n) : gle n x (gTo T n ws x) := by
  have h := gle_Nm (T := T) hx
  unfold gTo
  split
  · exact gle_tr h (gle_F h.2.1)
  · exact gle_tr h (gle_Nx h.2.1)
theorem gle_Pl {x : PS} (hx : x.2 ≤ n) : gle n x (gPl T n D x) := gle_tr (gle_To hx) (gle_N (gle_To (T := T) hx).2.1)
theorem go_Fi {k : Nat} (hp : p ≤ n) (hne : eQ T n (kB T n p) ≠ 1) : gFi T n D k (0, p) = (0, kE T n p) ∨ gFi T n D k (0, p) = gF T n 5 (0, p) := by
  unfold gFi
  split
  · exact Or.inr rfl
  · exact Or.inl rfl
/-- a line that is good goes on -/
theorem line_on {a : PS} {y : PS} {k : Int} (hk : 1 ≤ k) (hp : p ≤ n) (hne : eQ T n (kB T n p) ≠ 1) (ha : a = (0, kE T n p) ∨ a = gF T n k (0, p)) (h : ∀ (_ : a.2 ≤ n), gle n a y) (hy : y.1 = 0) : p < y.2 := by
  have hlt := eQ_lt hp hne
  have hb := kE_bd (T := T) hp
  rcases ha with ha | ha
  · have := h (by rw [ha]; exact hb.2.2.2)
    have h1 := this.1
    rw [ha] at h1
    have h1 : kE T n p ≤ y.2 := h1
    omega
  · have := (h (by rw [ha]; exact hp)).2.2 hy
    rw [ha] at this
    exact absurd this (gF_ne hk rfl)
theorem go_On {b : Bool} : gOn T n b (0, p) = (0, kE T n p) ∨ gOn T n b (0, p) = gF T n 3 (0, p) := by
  unfold gOn
  split
  · exact Or.inr rfl
  · exact Or.inl rfl
theorem fl_chain {x b : PS} {lo hi : Int} (h : gle n x b) : gle n x (gS T n 59 (gN T n 0 10 (gW T n 4 (gN T n 1 40 (gW T n 3 (gN T n lo hi b)))))) := by
  have s4 := gle_tr h (gle_N (T := T) (lo := lo) (hi := hi) h.2.1)
  have s5 := gle_tr s4 (gle_W (T := T) (i := 3) s4.2.1)
  have s6 := gle_tr s5 (gle_N (T := T) (lo := 1) (hi := 40) s5.2.1)
  have s7 := gle_tr s6 (gle_W (T := T) (i := 4) s6.2.1)
  have s8 := gle_tr s7 (gle_N (T := T) (lo := 0) (hi := 10) s7.2.1)
  exact gle_tr s8 (gle_S (T := T) (c := 59) s8.2.1)
theorem pFlight_le {x : PS} (hx : (gFi T n D 1 x).2 ≤ n) : gle n (gFi T n D 1 x) (pFlight T n x D).1 := by
  unfold pFlight
  dsimp only
  have s1 := gle_To (T := T) (ws := dN D 0) hx
  have s2 := gle_tr s1 (gle_Nh (T := T) s1.2.1)
  refine fl_chain ?_
  split
  · exact gle_tr s2 (gle_F s2.2.1)
  · exact s2
theorem pHouse_le {x : PS} (hx : (gFi T n D 0 x).2 ≤ n) : gle n (gFi T n D 0 x) (pHouse T n x D).1 := by
  unfold pHouse
  dsimp only
  have s1 := gle_New (T := T) (D := D) hx
  have s2 := gle_tr s1 (gle_W (T := T) (i := 1) s1.2.1)
  have s3 := gle_tr s2 (gle_N (T := T) (lo := 1) (hi := 5) s2.2.1)
  exact gle_tr s3 (gle_S (T := T) (c := 59) s3.2.1)
theorem pThing_le {x : PS} (hx : (gFi T n D 2 x).2 ≤ n) : gle n (gFi T n D 2 x) (pThing T n x D).1 := by
  unfold pThing
  dsimp only
  have s1 := gle_New (T := T) (D := D) hx
  have s2 := gle_tr s1 (gle_W (T := T) (i := 6) s1.2.1)
  have s3 := gle_tr s2 (gle_N (T := T) (lo := 1) (hi := 40) s2.2.1)
  have s4 := gle_tr s3 (gle_W (T := T) (i := 7) s3.2.1)
  have s5 := gle_tr s4 (gle_Pl (T := T) (D := D) s4.2.1)
  exact gle_tr s5 (gle_S (T := T) (c := 59) s5.2.1)
theorem pPerson_le {x : PS} (hx : (gFi T n D 3 x).2 ≤ n) : gle n (gFi T n D 3 x) (pPerson T n x D).1 := by
  unfold pPerson
  dsimp only
  have s1 := gle_New (T := T) (D := D) hx
  have s2 := gle_tr s1 (gle_W (T := T) (i := 7) s1.2.1)
  have s3 := gle_tr s2 (gle_Pl (T := T) (D := D) s2.2.1)
  have s4 := gle_tr s3 (gle_W (T := T) (i := 9) s3.2.1)
  have s5 := gle_tr s4 (gle_N (T := T) (lo := 0) (hi := 40) s4.2.1)
  have s6 := gle_tr s5 (gle_W (T := T) (i := 10) s5.2.1)
  have s7 := gle_tr s6 (gle_N (T := T) (lo := 0) (hi := 6) s6.2.1)
  have s8 := gle_tr s7 (gle_W (T := T) (i := 11) s7.2.1)
  have s9 := gle_tr s8 (gle_Pl (T := T) (D := D) s8.2.1)
  exact gle_tr s9 (gle_S (T := T) (c := 59) s9.2.1)
theorem pHill_le {x : PS} (hx : (gFi T n D 4 x).2 ≤ n) : gle n (gFi T n D 4 x) (pHill T n x D).1 := by
  unfold pHill
  dsimp only
  have s1 := gle_New (T := T) (D := D) hx
  have s2 := gle_tr s1 (gle_W (T := T) (i := 3) s1.2.1)
  have s3 := gle_tr s2 (gle_N (T := T) (lo := 1) (hi := 99) s2.2.1)
  have s4 := gle_tr s3 (gle_W (T := T) (i := 13) s3.2.1)
  have s5 := gle_tr s4 (gle_N (T := T) (lo := 0) (hi := 99) s4.2.1)
  exact gle_tr s5 (gle_S (T := T) (c := 59) s5.2.1)
theorem pHeap_le {x : PS} (hx : (gOn T n (decide (dHeap D ≠ -1)) x).2 ≤ n) : gle n (gOn T n (decide (dHeap D ≠ -1)) x) (pHeap T n x D).1 := by
  unfold pHeap
  dsimp only
  have s1 := gle_N (T := T) (lo := 0) (hi := 999) hx
  exact gle_tr s1 (gle_S (T := T) (c := 59) s1.2.1)
theorem pWalk_le {x : PS} (hx : (gOn T n (decide (dWalk D ≠ -1)) x).2 ≤ n) : gle n (gOn T n (decide (dWalk D ≠ -1)) x) (pWalk T n x D).1 := by
  unfold pWalk
  dsimp only
  have s1 := gle_N (T := T) (lo := 0) (hi := 60) hx
  exact gle_tr s1 (gle_S (T := T) (c := 59) s1.2.1)
theorem pPrice_le {x : PS} (hx : (gOn T n (decide (dPr D ≠ 0)) x).2 ≤ n) : gle n (gOn T n (decide (dPr D ≠ 0)) x) (pPrice T n x D).1 := by
  unfold pPrice
  dsimp only
  split
  · rename_i c7
    have := aRun_le (T := T) (n + 2 - (gOn T n (decide (dPr D ≠ 0)) x).2) _ true [(false, false)] hx
    exact ⟨this.1, this.2, fun _ => c7⟩
  · exact gle_rf hx
theorem pLine_on (hp : p ≤ n) (hne : eQ T n (kB T n p) ≠ 1) (hy : (pLine T n (0, p) D).1.1 = 0) : p < (pLine T n (0, p) D).1.2 := by
  have e : pLine T n (0, p) D = (fun k : Int => if k = 0 then pHouse T n (0, p) D else if k = 2 then pFlight T n (0, p) D else if k = 5 then pThing T n (0, p) D else if k = 8 then pPerson T n (0, p) D else if k = 12 then pHill T n (0, p) D
  else if k = 14 then pHeap T n (0, p) D else if k = 15 then pWalk T n (0, p) D else if k = 16 then pPrice T n (0, p) D else (gF T n 1 (0, p), D)) (if eQ T n (kB T n p) = 2 then kwi (eW T n (kB T n p)) else -1) := rfl
  rw [e] at hy ⊢
  generalize (if eQ T n (kB T n p) = 2 then kwi (eW T n (kB T n p)) else -1) = k at hy ⊢
  dsimp only at hy ⊢
  by_cases c0 : k = 0
  · rw [if_pos c0] at hy ⊢
    exact line_on (k := 5) (by decide) hp hne (go_Fi (D := D) (k := 0) hp hne) pHouse_le hy
  rw [if_neg c0] at hy ⊢
  by_cases c1 : k = 2
  · rw [if_pos c1] at hy ⊢
    exact line_on (k := 5) (by decide) hp hne (go_Fi (D := D) (k := 1) hp hne) pFlight_le hy
  rw [if_neg c1] at hy ⊢
  by_cases c2 : k = 5
  · rw [if_pos c2] at hy ⊢
    exact line_on (k := 5) (by decide) hp hne (go_Fi (D := D) (k := 2) hp hne) pThing_le hy
  rw [if_neg c2] at hy ⊢
  by_cases c3 : k = 8
  · rw [if_pos c3] at hy ⊢
    exact line_on (k := 5) (by decide) hp hne (go_Fi (D := D) (k := 3) hp hne) pPerson_le hy
  rw [if_neg c3] at hy ⊢
  by_cases c4 : k = 12
  · rw [if_pos c4] at hy ⊢
    exact line_on (k := 5) (by decide) hp hne (go_Fi (D := D) (k := 4) hp hne) pHill_le hy
  rw [if_neg c4] at hy ⊢
  by_cases c5 : k = 14
  · rw [if_pos c5] at hy ⊢
    exact line_on (k := 3) (by decide) hp hne go_On pHeap_le hy
  rw [if_neg c5] at hy ⊢
  by_cases c6 : k = 15
  · rw [if_pos c6] at hy ⊢
    exact line_on (k := 3) (by decide) hp hne go_On pWalk_le hy
  rw [if_neg c6] at hy ⊢
  by_cases c7 : k = 16
  · rw [if_pos c7] at hy ⊢
    exact line_on (k := 3) (by decide) hp hne go_On pPrice_le hy
  rw [if_neg c7] at hy ⊢
  exact absurd hy (gF_ne (by decide) rfl)
end Zmz
