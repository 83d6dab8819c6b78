/-! what a town read without a fault is good for: bounds, places, each flight once -/
abbrev plI (D : ZD) (v : Int) : Prop := 0 ≤ v ∧ v % 6 ≤ flr D (v / 6)
def wX (D : ZD) : Prop := (∀ (i j : Nat) (a b : Int), (dC D 10)[i]? = some a → (dC D 10)[j]? = some a → (dC D 11)[i]? = some b → (dC D 11)[j]? = some b → i = j) ∧ (∀ v ∈ dC D 12, 1 ≤ v ∧ v ≤ 40) ∧ (∀ v ∈ dC D 13, 0 ≤ v ∧ v ≤ 10) ∧ (∀ v ∈ dC D 20, 1 ≤ v ∧ v ≤ 40) ∧ (∀ v ∈ dC D 21, plI D v) ∧ (∀ v ∈ dC D 30, plI D v) ∧ (∀ v ∈ dC D 31, 0 ≤ v ∧ v ≤ 40) ∧ (∀ v ∈ dC D 32, 0 ≤ v ∧ v ≤ 6) ∧ (∀ v ∈ dC D 33, plI D v) ∧ (∀ v ∈ dC D 40, 1 ≤ v ∧ v ≤ 99) ∧ (∀ v ∈ dC D 41, 0 ≤ v ∧ v ≤ 99)
def wH (D : ZD) : Prop := (dHeap D = -1 ∨ 0 ≤ dHeap D ∧ dHeap D ≤ 999) ∧ (dWalk D = -1 ∨ 0 ≤ dWalk D ∧ dWalk D ≤ 60)
section Zwx
variable {T : Nat → Int} {n : Nat} {x : PS} {D : ZD}
theorem fxl_ne {h f : Int} : ∀ (as bs : List Int), fxI.fxl h f as bs = -1 → ∀ i : Nat, as[i]? = some h → bs[i]? = some f → False
  | [], _, _, i, ha, _ => by simp at ha
  | _ :: _, [], _, i, _, hb => by simp at hb
  | a :: as, b :: bs, hn, i, ha, hb => by
    unfold fxI.fxl at hn
    split at hn
    · omega
    · rename_i hc
      split at hn
      · rename_i h2
        cases i with
        | zero =>
          have ha : a = h := by simpa using ha
          have hb : b = f := by simpa using hb
          exact hc ⟨ha, hb⟩
        | succ i => exact fxl_ne as bs h2 i (by simpa using ha) (by simpa using hb)
      · have := fxl_bd (h := h) (f := f) as bs
        omega
theorem flr_le (hw : wD D) (a : Int) : flr D a ≤ 5 := by
  unfold flr
  split
  · rename_i h
    have hl : (dC D 0).length = cnt D 0 := hw.2.2.2.1
    have hc : cnt D 0 = (dN D 0).length := rfl
    rw [List.getElem?_eq_getElem (show a.toNat < (dC D 0).length by omega)]
    exact (hw.2.2.2.2.2.1 _ (List.getElem_mem _)).2
  · omega
theorem flr_in {a : Int} (h : 0 ≤ flr D a) : 0 ≤ a ∧ a < (dN D 0).length := by
  unfold flr at h
  split at h
  · rename_i q; exact q
  · omega
theorem plI_row {k : Nat} (hk1 : k ≠ 1) {w : List Int} {vs : List Int} (hw : wD D) {v : Int} (h : plI D v) : plI (addR (addN D k w) k vs) v := by
  have h2 := h.2
  have b := flr_in (D := D) (a := v / 6) (by omega)
  refine ⟨h.1, ?_⟩
  rw [flr_row hk1 hw b.1 b.2]
  exact h2
theorem col_mem {k c : Nat} {w : List Int} {vs : List Int} {v : Int} (h : v ∈ dC (addR (addN D k w) k vs) c) : v ∈ dC D c ∨ (c / 10 = k ∧ vs[c % 10]? = some v) := by
  rw [dC_row] at h
  split at h
  · rename_i hc
    split at h
    · rename_i u hu
      rcases List.mem_append.mp h with q | q
      · exact Or.inl q
      · rw [List.mem_singleton.mp q]; exact Or.inr ⟨hc, hu⟩
    · exact Or.inl h
  · exact Or.inl h
theorem colF_mem {c : Nat} {vs : List Int} {v : Int} (h : v ∈ dC (addR D 1 vs) c) : v ∈ dC D c ∨ (c / 10 = 1 ∧ vs[c % 10]? = some v) := by
  rw [dC_addR] at h
  split at h
  · rename_i hc
    split at h
    · rename_i u hu
      rcases List.mem_append.mp h with q | q
      · exact Or.inl q
      · rw [List.mem_singleton.mp q]; exact Or.inr ⟨hc, hu⟩
    · exact Or.inl h
  · exact Or.inl h
theorem wX_row {k : Nat} (hk1 : k ≠ 1) {w : List Int} {vs : List Int} (hw : wD D) (h : wX D) (h2 : k = 2 → ∀ v, (vs[0]? = some v → 1 ≤ v ∧ v ≤ 40) ∧ (vs[1]? = some v → plI D v)) (h3 : k = 3 → ∀ v, (vs[0]? = some v → plI D v) ∧ (vs[1]? = some v → 0 ≤ v ∧ v ≤ 40) ∧ (vs[2]? = some v → 0 ≤ v ∧ v ≤ 6) ∧ (vs[3]? = some v → plI D v)) (h4 : k = 4 → ∀ v, (vs[0]? = some v → 1 ≤ v ∧ v ≤ 99) ∧ (vs[1]? = some v → 0 ≤ v ∧ v ≤ 99)) : wX (addR (addN D k w) k vs) := by
  obtain ⟨a1, a2, a3, a4, a5, a6, a7, a8, a9, a10, a11⟩ := h
  have e10 : dC (addR (addN D k w) k vs) 10 = dC D 10 := by rw [dC_row, if_neg (by omega)]
  have e11 : dC (addR (addN D k w) k vs) 11 = dC D 11 := by rw [dC_row, if_neg (by omega)]
  refine ⟨by rw [e10, e11]; exact a1, fun v hv => ?_, fun v hv => ?_, fun v hv => ?_, fun v hv => ?_, fun v hv => ?_, fun v hv => ?_, fun v hv => ?_, fun v hv => ?_, fun v hv => ?_, fun v hv => ?_⟩
  · rcases col_mem hv with q | ⟨q, -⟩
    · exact a2 v q
    · exact absurd q.symm hk1
  · rcases col_mem hv with q | ⟨q, -⟩
    · exact a3 v q
    · exact absurd q.symm hk1
  · rcases col_mem hv with q | ⟨q, q2⟩
    · exact a4 v q
    · exact (h2 q.symm v).1 q2
  · rcases col_mem hv with q | ⟨q, q2⟩
    · exact plI_row hk1 hw (a5 v q)
    · exact plI_row hk1 hw ((h2 q.symm v).2 q2)
  · rcases col_mem hv with q | ⟨q, q2⟩
    · exact plI_row hk1 hw (a6 v q)
    · exact plI_row hk1 hw ((h3 q.symm v).1 q2)
  · rcases col_mem hv with q | ⟨q, q2⟩
    · exact a7 v q
    · exact (h3 q.symm v).2.1 q2
  · rcases col_mem hv with q | ⟨q, q2⟩
    · exact a8 v q
    · exact (h3 q.symm v).2.2.1 q2
  · rcases col_mem hv with q | ⟨q, q2⟩
    · exact plI_row hk1 hw (a9 v q)
    · exact plI_row hk1 hw ((h3 q.symm v).2.2.2 q2)
  · rcases col_mem hv with q | ⟨q, q2⟩
    · exact a10 v q
    · exact (h4 q.symm v).1 q2
  · rcases col_mem hv with q | ⟨q, q2⟩
    · exact a11 v q
    · exact (h4 q.symm v).2 q2
theorem wX_fl {a b r o : Int} (h : wX D) (hl : (dC D 10).length = (dC D 11).length) (hn : fxI D a b = -1) (hr : 1 ≤ r ∧ r ≤ 40) (ho : 0 ≤ o ∧ o ≤ 10) : wX (addR D 1 [a, b, r, o]) := by
  obtain ⟨a1, a2, a3, a4, a5, a6, a7, a8, a9, a10, a11⟩ := h
  have e10 : dC (addR D 1 [a, b, r, o]) 10 = dC D 10 ++ [a] := rfl
  have e11 : dC (addR D 1 [a, b, r, o]) 11 = dC D 11 ++ [b] := rfl
  have e12 : dC (addR D 1 [a, b, r, o]) 12 = dC D 12 ++ [r] := rfl
  have e13 : dC (addR D 1 [a, b, r, o]) 13 = dC D 13 ++ [o] := rfl
  have no : ∀ (i : Nat), (dC D 10)[i]? = some a → (dC D 11)[i]? = some b → False := fun i q1 q2 => fxl_ne (dC D 10) (dC D 11) hn i q1 q2
  refine ⟨fun i j u v hi hj ki kj => ?_, fun v hv => ?_, fun v hv => ?_, a4, a5, a6, a7, a8, a9, a10, a11⟩
  · rw [e10] at hi hj
    rw [e11] at ki kj
    rcases app_get hi with ⟨i1, i2⟩ | ⟨i1, i2⟩
    · rcases app_get hj with ⟨j1, j2⟩ | ⟨j1, j2⟩
      · rcases app_get ki with ⟨_, k2⟩ | ⟨k1, _⟩
        · rcases app_get kj with ⟨_, l2⟩ | ⟨l1, _⟩
          · exact a1 i j u v i2 j2 k2 l2
          · omega
        · omega
      · rcases app_get ki with ⟨_, k2⟩ | ⟨k1, _⟩
        · rcases app_get kj with ⟨l1, _⟩ | ⟨_, l2⟩
          · omega
          · subst j2
            subst l2
            exact (no i i2 k2).elim
        · omega
    · rcases app_get hj with ⟨j1, j2⟩ | ⟨j1, j2⟩
      · rcases app_get kj with ⟨_, l2⟩ | ⟨l1, _⟩
        · rcases app_get ki with ⟨k1, _⟩ | ⟨_, k2⟩
          · omega
          · subst i2
            subst k2
            exact (no j j2 l2).elim
        · omega
      · omega
  · rw [e12] at hv
    rcases List.mem_append.mp hv with q | q
    · exact a2 v q
    · rw [List.mem_singleton.mp q]; exact hr
  · rw [e13] at hv
    rcases List.mem_append.mp hv with q | q
    · exact a3 v q
    · rw [List.mem_singleton.mp q]; exact ho
theorem vPl_ok (hw : wD D) (h : (gPl T n D x).1 = 0) : plI D (vPl T n D x) := by
  have hb := gN_0 (show (gN T n 0 (flr D (vTo T n (dN D 0) x)) (gTo T n (dN D 0) x)).1 = 0 from h)
  have e : vPl T n D x = vTo T n (dN D 0) x * 6 + eM T n (kB T n (gTo T n (dN D 0) x).2) := if_pos h
  have h5 := flr_le hw (vTo T n (dN D 0) x)
  have hi := flr_in (D := D) (a := vTo T n (dN D 0) x) (by omega)
  rw [e]
  generalize vTo T n (dN D 0) x = a at *
  generalize eM T n (kB T n (gTo T n (dN D 0) x).2) = b at *
  have e1 : (a * 6 + b) / 6 = a := by omega
  have e2 : (a * 6 + b) % 6 = b := by omega
  refine ⟨by omega, ?_⟩
  rw [e1, e2]
  exact hb.2.1
/-- a line that is good leaves all well -/
def wA (D : ZD) : Prop := wD D ∧ wF D ∧ wX D ∧ wH D
theorem wF_row {k : Nat} (hk1 : k ≠ 1) {w : List Int} {vs : List Int} (hw : wD D) (h : wF D) : wF (addR (addN D k w) k vs) := fun i a b ha hb => by
  rw [dC_row, if_neg (by omega)] at ha hb
  have l1 := h i a b ha hb
  have a1 := hw.2.2.2.2.2.2.1 a (List.mem_of_getElem? ha)
  have l0 : (dN D 0).length = cnt D 0 := by unfold cnt; rw [if_neg (by decide)]
  rw [flr_row hk1 hw a1.1 (by omega)]
  exact l1
theorem eW_w (hx : x.2 ≤ n) (h : (gNew T n D x).1 = 0) : okW (eW T n (kB T n x.2)) ∧ eW T n (kB T n x.2) ≠ [] := isNm_w (kB_bd hx) (gNm_0 (gNew_0 h).1).2
theorem gFi_le {k : Nat} (hx : x.2 ≤ n) : (gFi T n D k x).2 ≤ n := by
  unfold gFi
  split
  · exact (gle_F (T := T) hx).2.1
  · exact (gle_Nx (T := T) hx).2.1
theorem wA_House (hx : x.2 ≤ n) (h0 : x.1 = 0) (h : wA D) (hy : (pHouse T n x D).1.1 = 0) : wA (pHouse T n x D).2 := by
  have z4 := gS_z hy
  have z3 := gN_z z4
  have z2 := gW_z z3
  have zn := gNew_0 z2
  have z1 := gNm_z zn.1
  have hc := gFi_0 z1 h0
  have hb := gN_0 z4
  have e : (pHouse T n x D).2 = addR (addN D 0 (eW T n (kB T n (gFi T n D 0 x).2))) 0 [vE T n (gW T n 1 (gNew T n D (gFi T n D 0 x)))] := if_pos hy
  rw [e]
  exact ⟨wD_row h.1 (by decide) (by decide) (eW_w (gFi_le hx) z2) rfl hc (fun _ v hv => by rw [List.mem_singleton.mp hv]; exact ⟨hb.1, hb.2.1⟩), wF_row (by decide) h.1 h.2.1, wX_row (by decide) h.1 h.2.2.1 (fun q => absurd q (by decide)) (fun q => absurd q (by decide)) (fun q => absurd q (by decide)), h.2.2.2⟩
theorem wA_Thing (hx : x.2 ≤ n) (h0 : x.1 = 0) (h : wA D) (hy : (pThing T n x D).1.1 = 0) : wA (pThing T n x D).2 := by
  have z6 := gS_z hy
  have z5 := gPl_z z6
  have z4 := gW_z z5
  have z3 := gN_z z4
  have z2 := gW_z z3
  have zn := gNew_0 z2
  have z1 := gNm_z zn.1
  have hc := gFi_0 z1 h0
  have hb := gN_0 z4
  have hp := vPl_ok h.1 z6
  have e : (pThing T n x D).2 = addR (addN D 2 (eW T n (kB T n (gFi T n D 2 x).2))) 2 [vE T n (gW T n 6 (gNew T n D (gFi T n D 2 x))), vPl T n D (gW T n 7 (gN T n 1 40 (gW T n 6 (gNew T n D (gFi T n D 2 x)))))] := if_pos hy
  rw [e]
  exact ⟨wD_row h.1 (by decide) (by decide) (eW_w (gFi_le hx) z2) rfl hc (fun q => absurd q (by decide)), wF_row (by decide) h.1 h.2.1, wX_row (by decide) h.1 h.2.2.1 (fun _ v => ⟨fun q => by cases q; exact ⟨hb.1, hb.2.1⟩, fun q => by cases q; exact hp⟩) (fun q => absurd q (by decide)) (fun q => absurd q (by decide)), h.2.2.2⟩
theorem wA_Person (hx : x.2 ≤ n) (h0 : x.1 = 0) (h : wA D) (hy : (pPerson T n x D).1.1 = 0) : wA (pPerson T n x D).2 := by
  have z10 := gS_z hy
  have z9 := gPl_z z10
  have z8 := gW_z z9
  have z7 := gN_z z8
  have z6 := gW_z z7
  have z5 := gN_z z6
  have z4 := gW_z z5
  have z3 := gPl_z z4
  have z2 := gW_z z3
  have zn := gNew_0 z2
  have z1 := gNm_z zn.1
  have hc := gFi_0 z1 h0
  have b6 := gN_0 z6
  have b8 := gN_0 z8
  have p4 := vPl_ok h.1 z4
  have p10 := vPl_ok h.1 z10
  have e : (pPerson T n x D).2 = addR (addN D 3 (eW T n (kB T n (gFi T n D 3 x).2))) 3 [vPl T n D (gW T n 7 (gNew T n D (gFi T n D 3 x))), vE T n (gW T n 9 (gPl T n D (gW T n 7 (gNew T n D (gFi T n D 3 x))))), vE T n (gW T n 10 (gN T n 0 40 (gW T n 9 (gPl T n D (gW T n 7 (gNew T n D (gFi T n D 3 x))))))), vPl T n D (gW T n 11 (gN T n 0 6 (gW T n 10 (gN T n 0 40 (gW T n 9 (gPl T n D (gW T n 7 (gNew T n D (gFi T n D 3 x)))))))))] := if_pos hy
  rw [e]
  exact ⟨wD_row h.1 (by decide) (by decide) (eW_w (gFi_le hx) z2) rfl hc (fun q => absurd q (by decide)), wF_row (by decide) h.1 h.2.1, wX_row (by decide) h.1 h.2.2.1 (fun q => absurd q (by decide)) (fun _ v => ⟨fun q => by cases q; exact p4, fun q => by cases q; exact ⟨b6.1, b6.2.1⟩, fun q => by cases q; exact ⟨b8.1, b8.2.1⟩, fun q => by cases q; exact p10⟩) (fun q => absurd q (by decide)), h.2.2.2⟩
theorem wA_Hill (hx : x.2 ≤ n) (h0 : x.1 = 0) (h : wA D) (hy : (pHill T n x D).1.1 = 0) : wA (pHill T n x D).2 := by
  have z6 := gS_z hy
  have z5 := gN_z z6
  have z4 := gW_z z5
  have z3 := gN_z z4
  have z2 := gW_z z3
  have zn := gNew_0 z2
  have z1 := gNm_z zn.1
  have hc := gFi_0 z1 h0
  have b4 := gN_0 z4
  have b6 := gN_0 z6
  have e : (pHill T n x D).2 = addR (addN D 4 (eW T n (kB T n (gFi T n D 4 x).2))) 4 [vE T n (gW T n 3 (gNew T n D (gFi T n D 4 x))), vE T n (gW T n 13 (gN T n 1 99 (gW T n 3 (gNew T n D (gFi T n D 4 x)))))] := if_pos hy
  rw [e]
  exact ⟨wD_row h.1 (by decide) (by decide) (eW_w (gFi_le hx) z2) rfl hc (fun q => absurd q (by decide)), wF_row (by decide) h.1 h.2.1, wX_row (by decide) h.1 h.2.2.1 (fun q => absurd q (by decide)) (fun q => absurd q (by decide)) (fun _ v => ⟨fun q => by cases q; exact ⟨b4.1, b4.2.1⟩, fun q => by cases q; exact ⟨b6.1, b6.2.1⟩⟩), h.2.2.2⟩
theorem wA_Flight (hx : x.2 ≤ n) (h0 : x.1 = 0) (h : wA D) (hy : (pFlight T n x D).1.1 = 0) : wA (pFlight T n x D).2 := by
  have z9 := gS_z hy
  have z8 := gN_z z9
  have z7 := gW_z z8
  have z6 := gN_z z7
  have z5 := gW_z z6
  have z4 := gN_z z5
  obtain ⟨z3, zf⟩ := gFx_z (h := vTo T n (dN D 0) (gFi T n D 1 x)) (v := vE T n (gTo T n (dN D 0) (gFi T n D 1 x))) (x := gNh T n (gTo T n (dN D 0) (gFi T n D 1 x))) z4
  obtain ⟨e3, q3⟩ := gNh_0 z3
  have z2 := gNh_z z3
  have zt := gTo_0 z2
  have z1 := gTo_z z2
  have hc := gFi_0 z1 h0
  have hc : cnt D 1 < 10 := hc
  have b5 := gN_0 z5
  have b7 := gN_0 z7
  have b9 := gN_0 z9
  have e4 : gFx T n D (vTo T n (dN D 0) (gFi T n D 1 x)) (vE T n (gTo T n (dN D 0) (gFi T n D 1 x))) (gNh T n (gTo T n (dN D 0) (gFi T n D 1 x))) = gTo T n (dN D 0) (gFi T n D 1 x) := by
    unfold gFx
    rw [if_neg (fun q => q.2 zf), e3]
  have e4' : (if (gNh T n (gTo T n (dN D 0) (gFi T n D 1 x))).1 = 0 ∧ fxI D (vTo T n (dN D 0) (gFi T n D 1 x)) (vE T n (gTo T n (dN D 0) (gFi T n D 1 x))) ≠ -1 then gF T n 3 (gNh T n (gTo T n (dN D 0) (gFi T n D 1 x))) else gNh T n (gTo T n (dN D 0) (gFi T n D 1 x))) = gTo T n (dN D 0) (gFi T n D 1 x) := e4
  have e : (pFlight T n x D).2 = addR D 1 [vTo T n (dN D 0) (gFi T n D 1 x), vE T n (gTo T n (dN D 0) (gFi T n D 1 x)), vE T n (gW T n 3 (gN T n 0 (flr D (vTo T n (dN D 0) (gFi T n D 1 x)) - 1) (gTo T n (dN D 0) (gFi T n D 1 x)))), vE T n (gW T n 4 (gN T n 1 40 (gW T n 3 (gN T n 0 (flr D (vTo T n (dN D 0) (gFi T n D 1 x)) - 1) (gTo T n (dN D 0) (gFi T n D 1 x))))))] := by
    have e : (pFlight T n x D).2 = _ := if_pos hy
    rw [e, e4']
  rw [e4'] at b5 b7 b9
  have hvt : vTo T n (dN D 0) (gFi T n D 1 x) = ixW (eW T n (kB T n (gFi T n D 1 x).2)) (dN D 0) := if_pos zt.1
  have hvb := ixW_bd (w := eW T n (kB T n (gFi T n D 1 x).2)) (dN D 0)
  have hv0 : 0 ≤ vTo T n (dN D 0) (gFi T n D 1 x) ∧ vTo T n (dN D 0) (gFi T n D 1 x) < cnt D 0 := by
    have : cnt D 0 = (dN D 0).length := rfl
    have := zt.2
    omega
  have f5 := flr_le h.1 (vTo T n (dN D 0) (gFi T n D 1 x))
  have hE : 0 ≤ vE T n (gTo T n (dN D 0) (gFi T n D 1 x)) ∧ vE T n (gTo T n (dN D 0) (gFi T n D 1 x)) ≤ flr D (vTo T n (dN D 0) (gFi T n D 1 x)) - 1 := ⟨b5.1, b5.2.1⟩
  rw [e]
  refine ⟨wD_fl h.1 hc hv0 (by omega), fun i a' b' ha' hb' => ?_, wX_fl h.2.2.1 ?_ zf ⟨b7.1, b7.2.1⟩ ⟨b9.1, b9.2.1⟩, h.2.2.2⟩
  · rw [flr_fl]
    have l10 : (dC D 10).length = cnt D 1 := h.1.2.2.2.2.1 1 0 (by omega) (by omega) (by decide)
    have l11 : (dC D 11).length = cnt D 1 := h.1.2.2.2.2.1 1 1 (by omega) (by omega) (by decide)
    have l12 : (D.2.1 10).length = (D.2.1 11).length := l10.trans l11.symm
    rcases app_get ha' with ⟨l1, l2⟩ | ⟨l1, l2⟩
    · rcases app_get hb' with ⟨m1, m2⟩ | ⟨m1, m2⟩
      · exact h.2.1 i a' b' l2 m2
      · omega
    · rcases app_get hb' with ⟨m1, m2⟩ | ⟨m1, m2⟩
      · omega
      · rw [l2, m2]; omega
  · have l10 : (dC D 10).length = cnt D 1 := h.1.2.2.2.2.1 1 0 (by omega) (by omega) (by decide)
    have l11 : (dC D 11).length = cnt D 1 := h.1.2.2.2.2.1 1 1 (by omega) (by omega) (by decide)
    omega
theorem wA_Heap (h : wA D) (hy : (pHeap T n x D).1.1 = 0) : wA (pHeap T n x D).2 := by
  have z2 := gS_z hy
  have hb := gN_0 z2
  exact ⟨h.1, h.2.1, h.2.2.1, Or.inr ⟨hb.1, hb.2.1⟩, h.2.2.2.2⟩
theorem wA_Walk (h : wA D) (hy : (pWalk T n x D).1.1 = 0) : wA (pWalk T n x D).2 := by
  have z2 := gS_z hy
  have hb := gN_0 z2
  exact ⟨h.1, h.2.1, h.2.2.1, h.2.2.2.1, Or.inr ⟨hb.1, hb.2.1⟩⟩
theorem wA_Price (h : wA D) : wA (pPrice T n x D).2 := ⟨h.1, h.2.1, h.2.2.1, h.2.2.2⟩
theorem gle_2 {a b : PS} (h : gle n a b) : b.2 ≤ n := h.2.1
theorem gOn_le {b : Bool} (hx : x.2 ≤ n) : (gOn T n b x).2 ≤ n := by
  unfold gOn
  split
  · exact (gle_F (T := T) hx).2.1
  · exact (gle_Nx (T := T) hx).2.1
theorem pLine_wA (hx : x.2 ≤ n) (h0 : x.1 = 0) (h : wA D) (hy : (pLine T n x D).1.1 = 0) : wA (pLine T n x D).2 ∧ (pLine T n x D).1.2 ≤ n := by
  have e : pLine T n x D = (fun k : Int => if k = 0 then pHouse T n x D else if k = 2 then pFlight T n x D else if k = 5 then pThing T n x D else if k = 8 then pPerson T n x D else if k = 12 then pHill T n x D
  else if k = 14 then pHeap T n x D else if k = 15 then pWalk T n x D else if k = 16 then pPrice T n x D else (gF T n 1 x, D)) (if eQ T n (kB T n x.2) = 2 then kwi (eW T n (kB T n x.2)) else -1) := rfl
  rw [e] at hy ⊢
  generalize (if eQ T n (kB T n x.2) = 2 then kwi (eW T n (kB T n x.2)) else -1) = k at hy ⊢
  dsimp only at hy ⊢
  by_cases c0 : k = 0
  · rw [if_pos c0] at hy ⊢
    exact ⟨wA_House hx h0 h hy, gle_2 (pHouse_le (gFi_le hx))⟩
  rw [if_neg c0] at hy ⊢
  by_cases c1 : k = 2
  · rw [if_pos c1] at hy ⊢
    exact ⟨wA_Flight hx h0 h hy, gle_2 (pFlight_le (gFi_le hx))⟩
  rw [if_neg c1] at hy ⊢
  by_cases c2 : k = 5
  · rw [if_pos c2] at hy ⊢
    exact ⟨wA_Thing hx h0 h hy, gle_2 (pThing_le (gFi_le hx))⟩
  rw [if_neg c2] at hy ⊢
  by_cases c3 : k = 8
  · rw [if_pos c3] at hy ⊢
    exact ⟨wA_Person hx h0 h hy, gle_2 (pPerson_le (gFi_le hx))⟩
  rw [if_neg c3] at hy ⊢
  by_cases c4 : k = 12
  · rw [if_pos c4] at hy ⊢
    exact ⟨wA_Hill hx h0 h hy, gle_2 (pHill_le (gFi_le hx))⟩
  rw [if_neg c4] at hy ⊢
  by_cases c5 : k = 14
  · rw [if_pos c5] at hy ⊢
    exact ⟨wA_Heap h hy, gle_2 (pHeap_le (gOn_le hx))⟩
  rw [if_neg c5] at hy ⊢
  by_cases c6 : k = 15
  · rw [if_pos c6] at hy ⊢
    exact ⟨wA_Walk h hy, gle_2 (pWalk_le (gOn_le hx))⟩
  rw [if_neg c6] at hy ⊢
  by_cases c7 : k = 16
  · rw [if_pos c7] at hy ⊢
    exact ⟨wA_Price h, gle_2 (pPrice_le (gOn_le hx))⟩
  rw [if_neg c7] at hy ⊢
  exact absurd hy (gF_ne (by decide) h0)
theorem pAll_wA : ∀ (f : Nat) (x : PS) (D : ZD), x.2 ≤ n → wA D → (pAll T n f x D).1.1 = 0 → wA (pAll T n f x D).2
  | 0, x, D, _, h, _ => h
  | f + 1, x, D, hx, h, hy => by
    by_cases c : x.1 = 0 ∧ eQ T n (kB T n x.2) ≠ 1
    · have e : pAll T n (f + 1) x D = pAll T n f (pLine T n x D).1 (pLine T n x D).2 := if_pos c
      rw [e] at hy ⊢
      by_cases c2 : (pLine T n x D).1.1 = 0
      · have q := pLine_wA hx c.1 h c2
        exact pAll_wA f _ _ q.2 q.1 hy
      · rw [pAll_bad c2] at hy
        exact absurd hy c2
    · have e : pAll T n (f + 1) x D = (x, D) := if_neg c
      rw [e]
      exact h
theorem wA_0 : wA d0 := by
  have n1 : ∀ (c : Nat) (v : Int), v ∈ dC d0 c → False := fun c v q => by
    have q : v ∈ ([] : List Int) := q
    cases q
  refine ⟨wD_0, fun i a b ha => ?_, ⟨fun i j a b ha => ?_, fun v h => (n1 _ _ h).elim, fun v h => (n1 _ _ h).elim, fun v h => (n1 _ _ h).elim, fun v h => (n1 _ _ h).elim, fun v h => (n1 _ _ h).elim, fun v h => (n1 _ _ h).elim, fun v h => (n1 _ _ h).elim, fun v h => (n1 _ _ h).elim, fun v h => (n1 _ _ h).elim, fun v h => (n1 _ _ h).elim⟩, Or.inl rfl, Or.inl rfl⟩
  · have ha : ([] : List Int)[i]? = some a := ha
    simp at ha
  · have ha : ([] : List Int)[i]? = some a := ha
    simp at ha
theorem pTown_wA (h : (pAll T n 1000 (0, 0) d0).1.1 = 0) : wA (pAll T n 1000 (0, 0) d0).2 := pAll_wA 1000 (0, 0) d0 (Nat.zero_le n) wA_0 h
end Zwx
