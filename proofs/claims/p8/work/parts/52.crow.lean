/-! a row told: what is told then -/
theorem app_get {α : Type} {l : List α} {v u : α} {i : Nat} (h : (l ++ [v])[i]? = some u) : (i < l.length ∧ l[i]? = some u) ∨ (i = l.length ∧ u = v) := by
  by_cases hi : i < l.length
  · rw [List.getElem?_append_left hi] at h
    exact Or.inl ⟨hi, h⟩
  · rw [List.getElem?_append_right (by omega)] at h
    have : i - l.length = 0 := by
      by_cases e : i - l.length = 0
      · exact e
      · rw [List.getElem?_eq_none (by simp; omega)] at h
        cases h
    rw [this] at h
    cases h
    exact Or.inr ⟨by omega, rfl⟩
theorem dN_addR {D : ZD} {k j : Nat} {vs : List Int} : dN (addR D k vs) j = dN D j := rfl
theorem dN_addN {D : ZD} {k j : Nat} {w : List Int} : dN (addN D k w) j = if j = k then dN D j ++ [w] else dN D j := rfl
theorem dC_addN {D : ZD} {k c : Nat} {w : List Int} : dC (addN D k w) c = dC D c := rfl
theorem dC_addR {D : ZD} {k c : Nat} {vs : List Int} : dC (addR D k vs) c = if c / 10 = k then (match vs[c % 10]? with
  | some v => dC D c ++ [v]
  | none => dC D c) else dC D c := rfl
theorem cnt_row {D : ZD} {k j : Nat} {w : List Int} {vs : List Int} (hk : k ≠ 1) : cnt (addR (addN D k w) k vs) j = if j = k then cnt D k + 1 else cnt D j := by
  unfold cnt
  by_cases e1 : j = 1
  · subst e1
    rw [if_pos rfl, if_pos rfl, if_neg (fun e => hk e.symm), dC_addR, if_neg (by omega)]
    rfl
  · rw [if_neg e1, dN_addR, dN_addN]
    by_cases e2 : j = k
    · rw [if_pos e2, if_pos e2, if_neg hk, List.length_append, e2]
      rfl
    · rw [if_neg e2, if_neg e2, if_neg e1]
theorem nmV_row {D : ZD} {k q : Nat} {w : List Int} {vs : List Int} (hc : (dN D k).length < 5) : nmV (addR (addN D k w) k vs) q = if q = 5 * k + (dN D k).length then enc 32 w else nmV D q := by
  unfold nmV
  rw [dN_addR, dN_addN]
  by_cases e : q / 5 = k
  · rw [if_pos e, e]
    by_cases e2 : q % 5 < (dN D k).length
    · rw [List.getElem?_append_left e2, if_neg (by omega)]
    · rw [List.getElem?_append_right (by omega)]
      by_cases e3 : q % 5 = (dN D k).length
      · rw [if_pos (by omega), e3, Nat.sub_self]
        rfl
      · rw [if_neg (by omega), List.getElem?_eq_none (by simp; omega), List.getElem?_eq_none (by omega)]
  · rw [if_neg e, if_neg (by omega)]
theorem wdt_le (k : Nat) : wdt k ≤ 4 := by unfold wdt; split <;> (try split) <;> omega
theorem dC_row {D : ZD} {k c : Nat} {w : List Int} {vs : List Int} : dC (addR (addN D k w) k vs) c = if c / 10 = k then (match vs[c % 10]? with
  | some v => dC D c ++ [v]
  | none => dC D c) else dC D c := rfl
theorem rbk_of {k : Nat} (hk : 1 ≤ k) (hk5 : k < 5) : 2 ≤ rbk k ∧ rbk k + most k ≤ 28 ∧ ∀ k', 1 ≤ k' → k' < 5 → k' ≠ k → ∀ i i', i < most k → i' < most k' → rbk k + i ≠ rbk k' + i' := by
  have : k = 1 ∨ k = 2 ∨ k = 3 ∨ k = 4 := by omega
  refine ⟨?_, ?_, fun k' h1 h2 h3 i i' h4 h5 => ?_⟩
  · rcases this with rfl | rfl | rfl | rfl <;> decide
  · rcases this with rfl | rfl | rfl | rfl <;> decide
  · have h' : k' = 1 ∨ k' = 2 ∨ k' = 3 ∨ k' = 4 := by omega
    rcases this with rfl | rfl | rfl | rfl <;> rcases h' with rfl | rfl | rfl | rfl <;> first | exact absurd rfl h3 | (simp only [most, rbk] at h4 h5 ⊢; simp at h4 h5 ⊢; omega)
theorem fx_row {D : ZD} {k : Nat} {w : List Int} {vs : List Int} (hk : k ≠ 1) {h f : Int} : fxI (addR (addN D k w) k vs) h f = fxI D h f := by
  unfold fxI
  rw [dC_row, dC_row, if_neg (by omega), if_neg (by omega)]
theorem wD_row {D : ZD} (hD : wD D) {k : Nat} (hk1 : k ≠ 1) (hk5 : k < 5) {w : List Int} (hw : okW w ∧ w ≠ []) {vs : List Int} (hvs : vs.length = if k = 0 then 1 else wdt k) (hc : cnt D k < most k) (hf : k = 0 → ∀ v ∈ vs, 1 ≤ v ∧ v ≤ 5) : wD (addR (addN D k w) k vs) := by
  obtain ⟨h1, h2, h3, h4, h5, h6, h7, h8⟩ := hD
  refine ⟨fun j hj => ?_, fun j u hu => ?_, ?_, ?_, fun j i j1 j5 hi => ?_, fun v hv => ?_, fun v hv => ?_, fun v hv => ?_⟩
  · rw [cnt_row hk1]
    by_cases e : j = k
    · rw [if_pos e, e]; omega
    · rw [if_neg e]; exact h1 j hj
  · rw [dN_addR, dN_addN] at hu
    by_cases e : j = k
    · rw [if_pos e] at hu
      rcases List.mem_append.mp hu with hu | hu
      · exact h2 j u hu
      · rw [List.mem_singleton.mp hu]; exact hw
    · rw [if_neg e] at hu
      exact h2 j u hu
  · rw [dN_addR, dN_addN, if_neg (fun e => hk1 e.symm)]
    exact h3
  · rw [cnt_row hk1, dC_row]
    by_cases e : k = 0
    · subst e
      rw [if_pos rfl, if_pos rfl]
      rw [if_pos rfl] at hvs
      have : vs[0 % 10]? = some vs[0] := List.getElem?_eq_getElem (by omega)
      rw [this]
      show (dC D 0 ++ [vs[0]]).length = _
      rw [List.length_append, h4]
      rfl
    · rw [if_neg (by omega), if_neg (fun e2 => e e2.symm)]
      exact h4
  · have hw4 := wdt_le j
    rw [cnt_row hk1, dC_row]
    by_cases e : j = k
    · subst e
      rw [if_pos (by omega), if_pos rfl]
      rw [if_neg (by omega)] at hvs
      have hi2 : (10 * j + i) % 10 = i := by omega
      have : vs[(10 * j + i) % 10]? = some vs[i] := by rw [hi2]; exact List.getElem?_eq_getElem (by omega)
      rw [this]
      show (dC D (10 * j + i) ++ [vs[i]]).length = _
      rw [List.length_append, h5 j i j1 j5 hi]
      rfl
    · rw [if_neg (by omega), if_neg e]
      exact h5 j i j1 j5 hi
  · rw [dC_row] at hv
    by_cases e : k = 0
    · subst e
      rw [if_pos rfl] at hv
      split at hv
      · rename_i u hu
        rcases List.mem_append.mp hv with hv | hv
        · exact h6 v hv
        · rw [List.mem_singleton.mp hv]
          exact hf rfl u (List.mem_of_getElem? hu)
      · exact h6 v hv
    · rw [if_neg (by omega)] at hv
      exact h6 v hv
  · rw [dC_row, if_neg (by omega)] at hv
    have := h7 v hv
    rw [cnt_row hk1]
    by_cases e : 0 = k
    · rw [if_pos e, ← e]; omega
    · rw [if_neg e]; exact this
  · rw [dC_row, if_neg (by omega)] at hv
    exact h8 v hv
theorem cDn_row {s s' : Zs} {t : Nat} {D : ZD} (h : cDn s t D) (hD : wD D) {k : Nat} (hk1 : k ≠ 1) (hk5 : k < 5) {w : List Int} {vs : List Int} (hvs : vs.length = if k = 0 then 1 else wdt k) (hc : cnt D k < most k)
    (e1 : s' (t + 1) k = ((cnt D k + 1 : Nat) : Int)) (e2 : s' (t + 32) (5 * k + cnt D k) = enc 32 w) (e3 : k ≠ 0 → ∀ j v, vs[j]? = some v → s' (t + rbk k + cnt D k) j = v) (e4 : k = 0 → ∀ v, vs[0]? = some v → s' (t + 33) (cnt D 0) = v)
    (f : ∀ c j, ¬ (c = t + 1 ∧ j = k) → ¬ (c = t + 32 ∧ j = 5 * k + cnt D k) → ¬ (k ≠ 0 ∧ c = t + rbk k + cnt D k) → ¬ (k = 0 ∧ c = t + 33 ∧ j = cnt D 0) → t ≤ c → c ≤ t + 35 → s' c j = s c j) : cDn s' t (addR (addN D k w) k vs) := by
  obtain ⟨h1, h2, h3, h4, h5⟩ := h
  have hm := most5 hk1
  have hcl : cnt D k = (dN D k).length := cnt_N hk1
  have hrb : k ≠ 0 → 2 ≤ rbk k ∧ rbk k + cnt D k < 28 := fun h0 => by
    have := rbk_of (k := k) (by omega) hk5
    omega
  refine ⟨fun j hj => ?_, fun q hq => ?_, fun i v hv => ?_, fun j c i v j1 j5 hj hv => ?_, fun q hq => ?_⟩
  · rw [cnt_row hk1]
    by_cases e : j = k
    · rw [if_pos e, e]; exact e1
    · rw [if_neg e, f (t + 1) j (fun q => e q.2) (by omega) (fun q => by have := hrb q.1; omega) (by omega) (by omega) (by omega)]
      exact h1 j hj
  · rw [nmV_row (by omega), ← hcl]
    by_cases e : q = 5 * k + cnt D k
    · rw [if_pos e, e]; exact e2
    · rw [if_neg e, f (t + 32) q (by omega) (fun x => e x.2) (fun x => by have := hrb x.1; omega) (by omega) (by omega) (by omega)]
      exact h2 q hq
  · rw [dC_row] at hv
    by_cases e : k = 0
    · subst e
      rw [if_pos rfl] at hv
      split at hv
      · rename_i u hu
        rcases app_get hv with ⟨g1, g2⟩ | ⟨g1, g2⟩
        · rw [hD.2.2.2.1] at g1
          rw [f (t + 33) i (by omega) (by omega) (by omega) (by omega) (by omega) (by omega)]
          exact h3 i v g2
        · rw [g1, g2, hD.2.2.2.1]
          exact e4 rfl u hu
      · rename_i hu
        rw [if_pos rfl] at hvs
        rw [List.getElem?_eq_getElem (by omega)] at hu
        cases hu
    · rw [if_neg (by omega)] at hv
      rw [f (t + 33) i (by omega) (by omega) (fun x => by have := hrb x.1; omega) (by omega) (by omega) (by omega)]
      exact h3 i v hv
  · have hw4 := wdt_le j
    have hj2 := rbk_of j1 j5
    have old : (dC D (10 * j + c))[i]? = some v → (j = k → i < cnt D k) → s' (t + rbk j + i) c = v := fun hv2 hlt => by
      have hil := (List.getElem?_eq_some_iff.mp hv2).1
      rw [hD.2.2.2.2.1 j c j1 j5 hj] at hil
      have hm2 := hD.1 j j5
      rw [f (t + rbk j + i) c (by omega) (by omega) (fun x => ?_) (by omega) (by omega) (by omega)]
      · exact h4 j c i v j1 j5 hj hv2
      · by_cases e : j = k
        · subst e
          have := hlt rfl
          omega
        · have := hj2.2.2 k (by omega) hk5 (fun q => e q.symm) i (cnt D k) (by omega) (by omega)
          omega
    rw [dC_row] at hv
    by_cases e : j = k
    · subst e
      rw [if_pos (by omega)] at hv
      split at hv
      · rename_i u hu
        rw [show (10 * j + c) % 10 = c from by omega] at hu
        rcases app_get hv with ⟨g1, g2⟩ | ⟨g1, g2⟩
        · rw [hD.2.2.2.2.1 j c j1 j5 hj] at g1
          exact old g2 (fun _ => g1)
        · rw [hD.2.2.2.2.1 j c j1 j5 hj] at g1
          rw [g1, g2]
          exact e3 (by omega) c u hu
      · rename_i hu
        rw [if_neg (by omega)] at hvs
        rw [show (10 * j + c) % 10 = c from by omega, List.getElem?_eq_getElem (by omega)] at hu
        cases hu
    · rw [if_neg (by omega)] at hv
      exact old hv (fun q => absurd q e)
  · rw [fx_row hk1, f (t + 34) q (by omega) (by omega) (fun x => by have := hrb x.1; omega) (by omega) (by omega) (by omega)]
    exact h5 q hq
