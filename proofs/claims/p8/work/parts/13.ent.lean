/-! a known state within another: symbols named by places -/
abbrev Lc : Type := Nat × Nat × Nat
abbrev Cu : Type := Ab × List Lc
def mp1 (A : Ab) (acc : List (Nat × Int)) (l : Lc) : Option (Nat × Int) := match l.1 with
  | 0 => match lkA A.2.1 l.2.1 with
    | some a => if a.1 < 2 then some a.2 else none
    | none => none
  | 1 => match (if l.2.2 < 4294967296 then some l.2.2 else match acc[l.2.2 - 4294967296]? with
      | some q => if q.2 = 0 then some (4294967296 + q.1) else none
      | none => none) with
    | none => none
    | some j => match fkA A.2.2.2.2 l.2.1 j with
      | some a => if a.1 < 2 then some a.2 else none
      | none => none
  | 2 => match A.2.2.1[l.2.1]? with
    | some a => if a.1 < 2 then some a.2 else none
    | none => none
  | _ => if l.2.1 < A.2.2.2.1.length then some (l.2.1, 0) else none
def mpB (A : Ab) : List (Nat × Int) → List Lc → Option (List (Nat × Int))
  | acc, [] => some acc
  | acc, l :: t => match mp1 A acc l with
    | some q => mpB A (acc ++ [q]) t
    | none => none
def mpA (A : Ab) (ls : List Lc) : Option (List (Nat × Int)) := mpB A [] ls
def ev (vs : List Int) (q : Nat × Int) : Int := (vs[q.1]?).getD 0 + q.2
/-- what is known of a symbol there holds of a value here -/
def seK (sy : Sy) (m : List (Nat × Int)) (e : Se) (q : Nat × Int) : Bool := inI sy e.1 e.2.1 (0, q.1, q.2) && (match e.2.2.1 with
  | 0 => true
  | b + 1 => match m[b]? with
    | none => false
    | some r => match dup sy q.1 r.1 q.2 r.2, dup sy r.1 q.1 r.2 q.2 with
      | some u, some w => decide (u ≤ e.2.2.2.2) && decide (w ≤ -e.2.2.2.1)
      | _, _ => false)
def syK (sy : Sy) (m : List (Nat × Int)) : Sy → List (Nat × Int) → Bool
  | [], [] => true
  | e :: es, q :: qs => seK sy m e q && syK sy m es qs
  | _, _ => false
def avK (RG : Nat → List Nat) (m : List (Nat × Int)) (a' a : Av) : Bool := match a.1 with
  | 0 => a'.1 == 0 && (match m[a.2.1]? with
    | some q => a'.2.1 == q.1 && decide (a'.2.2 = q.2 + a.2.2)
    | none => false)
  | 1 => a'.1 == 1 && (match m[a.2.1]? with
    | some q => a'.2.1 == q.1 && decide (a'.2.2 = q.2 + a.2.2)
    | none => false)
  | 2 => a'.1 == 2 && a'.2.1 == a.2.1
  | 3 => (a'.1 == 3 && a'.2.1 == a.2.1) || (a'.1 == 2 && (RG a.2.1).contains a'.2.1)
  | _ => false
def stAll (RG : Nat → List Nat) (m : List (Nat × Int)) : List Av → List Av → Bool
  | [], [] => true
  | a' :: t', a :: t => avK RG m a' a && stAll RG m t' t
  | _, _ => false
/-- the key of a slot there, here -/
def kyM (m : List (Nat × Int)) (j : Nat) : Option Nat := if j < 4294967296 then some j else match m[j - 4294967296]? with
  | some q => if q.2 = 0 then some (4294967296 + q.1) else none
  | none => none
def entM (RG : Nat → List Nat) (A : Ab) (C : Cu) (m : List (Nat × Int)) : Bool := A.1 == C.1.1 && (match m with
    | q :: _ => q.1 == 0 && decide (q.2 = 0)
    | [] => false)
  && C.1.2.1.all (fun q => match lkA A.2.1 q.1 with
    | some a => avK RG m a q.2
    | none => false)
  && stAll RG m A.2.2.1 C.1.2.2.1
  && C.1.2.2.2.2.all (fun q => match kyM m q.2.1 with
    | none => false
    | some j => match fkA A.2.2.2.2 q.1 j with
      | some a => avK RG m a q.2.2
      | none => false)
  && syK A.2.2.2.1 m C.1.2.2.2.1 m
/-- what can be seen at once -/
def pfK (fa fb : Fa) : Bool := match fkA fb cCO 4294967295, fkA fb cM kCd with
  | some b, some d => b.2.1 != d.2.1 || (match fkA fa cCO 4294967295, fkA fa cM kCd with
    | some a, some c => decide (a.2.2 - c.2.2 = b.2.2 - d.2.2)
    | _, _ => false)
  | _, _ => true
def mpC (A : Ab) (C : Cu) : Option (List (Nat × Int)) := if (A.1 == C.1.1 && C.1.2.1.all (fun q => q.2.1 != 0 || q.2.2.1 != 0 || lkA A.2.1 q.1 == some q.2) && pfK A.2.2.2.2 C.1.2.2.2.2) = true then mpA A C.2 else none
theorem mpC_ok {A : Ab} {C : Cu} {m : List (Nat × Int)} (h : mpC A C = some m) : mpA A C.2 = some m := by
  unfold mpC at h
  split at h
  · exact h
  · cases h
section Ent
variable {HT : Nat → Hk} {RG : Nat → List Nat} {n : Nat} {md : Md} {h0 : Ph} {vs : List Int} {A : Ab} {C : Cu} {cf : Cf} {m : List (Nat × Int)}
theorem gv_ix {a : Av} {v : Value} (h : gv RG vs a v) (h2 : a.1 < 2) : ∃ w, vs[a.2.1]? = some w := by
  cases v with
  | int x => obtain ⟨-, w, h1, -⟩ := h; exact ⟨w, h1⟩
  | long x => obtain ⟨-, w, h1, -⟩ := h; exact ⟨w, h1⟩
  | ref k => rcases h with h | h <;> omega
  | _ => exact False.elim h
theorem gst_get : ∀ {st : List Av} {sv : List Value} {i : Nat} {a : Av}, gst RG vs st sv → st[i]? = some a → ∃ v, gv RG vs a v
  | [], _, i, a, _, h => by cases i <;> cases h
  | _ :: _, [], _, _, g, _ => False.elim g
  | b :: t, v :: us, 0, a, g, h => by cases h; exact ⟨v, g.1⟩
  | b :: t, v :: us, i + 1, a, g, h => gst_get g.2 (by simpa using h)
theorem mp1_ok {l : Lc} {q : Nat × Int} {acc : List (Nat × Int)} (g : ga HT RG n md h0 vs A cf) (h : mp1 A acc l = some q) : ∃ w, vs[q.1]? = some w := by
  obtain ⟨g0, g1, g2, g3, g4, g5, g6⟩ := g
  unfold mp1 at h
  split at h
  · split at h
    · rename_i a ha
      split at h
      · rename_i h2
        cases h
        obtain ⟨v, -, e2⟩ := g1 _ (lkA_mem ha)
        exact gv_ix e2 h2
      · cases h
    · cases h
  · split at h
    · cases h
    · split at h
      · rename_i a ha
        split at h
        · rename_i h2
          cases h
          rcases g4 _ (fkA_mem ha) with ⟨-, -, w, k1, -⟩ | ⟨-, i, v, -, -, e2⟩
          · exact ⟨w, k1⟩
          · exact gv_ix e2 h2
        · cases h
      · cases h
  · split at h
    · rename_i a ha
      split at h
      · rename_i h2
        cases h
        obtain ⟨v, e2⟩ := gst_get g2 ha
        exact gv_ix e2 h2
      · cases h
    · cases h
  · split at h
    · rename_i hl
      cases h
      rw [g3.1] at hl
      exact ⟨_, List.getElem?_eq_getElem hl⟩
    · cases h
theorem mpB_ok (g : ga HT RG n md h0 vs A cf) : ∀ {ls : List Lc} {acc m : List (Nat × Int)}, (∀ q ∈ acc, ∃ w, vs[q.1]? = some w) → mpB A acc ls = some m → ∀ q ∈ m, ∃ w, vs[q.1]? = some w
  | [], acc, m, ha, h, q, hq => by cases h; exact ha q hq
  | l :: t, acc, m, ha, h, q, hq => by
    unfold mpB at h
    split at h
    · rename_i q0 h1
      refine mpB_ok g (fun r hr => ?_) h q hq
      rcases List.mem_append.mp hr with hr | hr
      · exact ha r hr
      · rw [List.mem_singleton.mp hr]
        exact mp1_ok g h1
    · cases h
theorem mpA_ok (g : ga HT RG n md h0 vs A cf) {ls : List Lc} {m : List (Nat × Int)} (h : mpA A ls = some m) : ∀ q ∈ m, ∃ w, vs[q.1]? = some w := mpB_ok g (fun q hq => by cases hq) h
theorem ev_ix {i : Nat} {q : Nat × Int} (h : m[i]? = some q) : (m.map (ev vs))[i]? = some (ev vs q) := by
  rw [List.getElem?_map, h]
  rfl
theorem ev_eq {q : Nat × Int} {w : Int} (h : vs[q.1]? = some w) : ev vs q = w + q.2 := by
  unfold ev
  rw [h]
  rfl
theorem seK_ok {e : Se} {q : Nat × Int} (g3 : gs A.2.2.2.1 vs) (hm : ∀ q ∈ m, ∃ w, vs[q.1]? = some w) (hq : q ∈ m) (h : seK A.2.2.2.1 m e q = true) : ge (m.map (ev vs)) e (ev vs q) := by
  unfold seK at h
  simp only [Bool.and_eq_true] at h
  obtain ⟨w, hw⟩ := hm q hq
  have e1 := ev_eq hw
  have e2 := inI_ok g3 h.1 hw
  dsimp only at e2
  refine ⟨by omega, by omega, ?_⟩
  have h2 := h.2
  split at h2
  · rename_i hb
    exact Or.inl hb
  · rename_i b hb
    right
    rw [hb]
    split at h2
    · cases h2
    · rename_i r hr
      split at h2
      · rename_i u z h3 h4
        simp only [Bool.and_eq_true, decide_eq_true_eq] at h2
        obtain ⟨wr, hwr⟩ := hm r (List.mem_of_getElem? hr)
        have a1 := dup_ok g3 h3 hw hwr
        have a2 := dup_ok g3 h4 hwr hw
        refine ⟨ev vs r, ev_ix hr, ?_⟩
        rw [ev_eq hwr, e1]
        omega
      · cases h2
theorem syK_ok (g3 : gs A.2.2.2.1 vs) (hm : ∀ q ∈ m, ∃ w, vs[q.1]? = some w) : ∀ {es : Sy} {qs : List (Nat × Int)}, (∀ q ∈ qs, q ∈ m) → syK A.2.2.2.1 m es qs = true → es.length = qs.length ∧ ∀ (s : Nat) (e : Se) (w : Int), es[s]? = some e → (qs.map (ev vs))[s]? = some w → ge (m.map (ev vs)) e w
  | [], [], _, _ => ⟨rfl, fun s e w h _ => by cases s <;> cases h⟩
  | e0 :: es, q0 :: qs, hs, h => by
    unfold syK at h
    simp only [Bool.and_eq_true] at h
    obtain ⟨r1, r2⟩ := syK_ok g3 hm (fun q hq => hs q (List.mem_cons_of_mem _ hq)) h.2
    refine ⟨by simp [r1], fun s e w h1 h2 => ?_⟩
    cases s with
    | zero =>
      cases h1
      cases h2
      exact seK_ok g3 hm (hs q0 List.mem_cons_self) h.1
    | succ s => exact r2 s e w (by simpa using h1) (by simpa using h2)
  | [], _ :: _, _, h => by cases h
  | _ :: _, [], _, h => by cases h
theorem avK_z {a' a : Av} {z : Int} (h0 : a'.1 = 0) (g : ∃ w, vs[a'.2.1]? = some w ∧ z = w + a'.2.2) (h : avK RG m a' a = true) : a.1 = 0 ∧ ∃ w, (m.map (ev vs))[a.2.1]? = some w ∧ z = w + a.2.2 := by
  obtain ⟨w, hw, hz⟩ := g
  unfold avK at h
  split at h
  · rename_i ha
    refine ⟨ha, ?_⟩
    simp only [Bool.and_eq_true, beq_iff_eq] at h
    have h2 := h.2
    split at h2
    · rename_i q hq
      simp only [Bool.and_eq_true, beq_iff_eq, decide_eq_true_eq] at h2
      refine ⟨ev vs q, ev_ix hq, ?_⟩
      rw [h2.1] at hw
      rw [ev_eq hw]
      omega
    · cases h2
  · simp only [Bool.and_eq_true, beq_iff_eq] at h; omega
  · simp only [Bool.and_eq_true, beq_iff_eq] at h; omega
  · simp only [Bool.and_eq_true, Bool.or_eq_true, beq_iff_eq] at h; omega
  · cases h
theorem avK_ok {a' a : Av} {v : Value} (hm : ∀ q ∈ m, ∃ w, vs[q.1]? = some w) (g : gv RG vs a' v) (h : avK RG m a' a = true) : gv RG (m.map (ev vs)) a v := by
  unfold avK at h
  split at h
  · rename_i ha
    simp only [Bool.and_eq_true, beq_iff_eq] at h
    obtain ⟨x, w, rfl, hw, hx⟩ := gv_int g h.1
    have h2 := h.2
    split at h2
    · rename_i q hq
      simp only [Bool.and_eq_true, beq_iff_eq, decide_eq_true_eq] at h2
      refine ⟨ha, ev vs q, ev_ix hq, ?_⟩
      rw [h2.1] at hw
      rw [ev_eq hw]
      omega
    · cases h2
  · rename_i ha
    simp only [Bool.and_eq_true, beq_iff_eq] at h
    obtain ⟨x, w, rfl, hw, hx⟩ := gv_long g h.1
    have h2 := h.2
    split at h2
    · rename_i q hq
      simp only [Bool.and_eq_true, beq_iff_eq, decide_eq_true_eq] at h2
      refine ⟨ha, ev vs q, ev_ix hq, ?_⟩
      rw [h2.1] at hw
      rw [ev_eq hw]
      omega
    · cases h2
  · rename_i ha
    simp only [Bool.and_eq_true, beq_iff_eq] at h
    have := gv_ref g h.1
    subst this
    exact Or.inl ⟨ha, h.2.symm⟩
  · rename_i ha
    simp only [Bool.and_eq_true, Bool.or_eq_true, beq_iff_eq, List.contains_iff_mem] at h
    rcases h with h | h
    · obtain ⟨k, rfl, hk⟩ := gv_reg g h.1
      rw [h.2] at hk
      exact Or.inr ⟨ha, hk⟩
    · have := gv_ref g h.1
      subst this
      exact Or.inr ⟨ha, h.2⟩
  · cases h
theorem stAll_ok (hm : ∀ q ∈ m, ∃ w, vs[q.1]? = some w) : ∀ {st' st : List Av} {sv : List Value}, gst RG vs st' sv → stAll RG m st' st = true → gst RG (m.map (ev vs)) st sv
  | [], [], [], _, _ => trivial
  | [], _, _ :: _, g, _ => False.elim g
  | a' :: t', a :: t, v :: us, g, h => by
    unfold stAll at h
    simp only [Bool.and_eq_true] at h
    exact ⟨avK_ok hm g.1 h.1, stAll_ok hm g.2 h.2⟩
  | _ :: _, _, [], g, _ => False.elim g
  | [], _ :: _, [], _, h => by cases h
  | _ :: _, [], _ :: _, _, h => by cases h
theorem entM_ok (g : ga HT RG n md h0 vs A cf) (hm : mpA A C.2 = some m) (h : entM RG A C m = true) : ga HT RG n md h0 (m.map (ev vs)) C.1 cf := by
  have hm1 := mpA_ok g hm
  obtain ⟨g0, g1, g2, g3, g4, g5, g6⟩ := g
  unfold entM at h
  simp only [Bool.and_eq_true, beq_iff_eq] at h
  obtain ⟨⟨⟨⟨⟨k0, k1⟩, k3⟩, k4⟩, k5⟩, k2⟩ := h
  obtain ⟨l1, l2⟩ := syK_ok g3 hm1 (fun q hq => hq) k2
  refine ⟨g0.trans k0, ?_, stAll_ok hm1 g2 k4, ⟨by rw [List.length_map]; exact l1, ?_, l2⟩, ?_, g5, g6⟩
  · intro q hq
    have := List.all_eq_true.mp k3 q hq
    split at this
    · rename_i a ha
      obtain ⟨v, e1, e2⟩ := g1 _ (lkA_mem ha)
      exact ⟨v, e1, avK_ok hm1 e2 this⟩
    · cases this
  · split at k1
    · rename_i q t
      simp only [Bool.and_eq_true, beq_iff_eq, decide_eq_true_eq] at k1
      show some (ev vs q) = some 0
      rw [ev_eq (w := 0) (by rw [k1.1]; exact g3.2.1), k1.2]
      rfl
    · cases k1
  · intro q hq
    have := List.all_eq_true.mp k5 q hq
    split at this
    · cases this
    · rename_i j hj
      split at this
      · rename_i a ha
        rcases g4 _ (fkA_mem ha) with ⟨k1, k2, k3⟩ | ⟨k1, i, v, e0, e1, e2⟩
        · have k1 : j = 4294967295 := k1
          have hq3 : q.2.1 = 4294967295 := by
            unfold kyM at hj
            split at hj
            · cases hj; exact k1
            · split at hj
              · split at hj
                · cases hj; omega
                · cases hj
              · cases hj
          obtain ⟨w3, k3, k4⟩ := k3
          obtain ⟨z1, w4, z2, z3⟩ := avK_z (z := w3 + a.2.2) k2 ⟨w3, k3, rfl⟩ this
          exact Or.inl ⟨hq3, z1, w4, z2, by rw [← z3]; exact k4⟩
        have hq3 : q.2.1 ≠ 4294967295 := by
          intro e8
          unfold kyM at hj
          rw [if_pos (by omega), e8] at hj
          cases hj
          exact k1 rfl
        refine Or.inr ⟨hq3, i, v, ?_, e1, avK_ok hm1 e2 this⟩
        unfold kyM at hj
        split at hj
        · rename_i hl
          cases hj
          rcases e0 with e0 | ⟨e0, -⟩
          · exact Or.inl e0
          · have e0 : 4294967296 ≤ q.2.1 := e0
            omega
        · rename_i hl
          split at hj
          · rename_i r hr
            split at hj
            · rename_i h0
              cases hj
              rcases e0 with ⟨e0, -⟩ | ⟨-, e0⟩
              · exfalso
                have e0 : 4294967296 + r.1 < 4294967296 := e0
                omega
              · right
                refine ⟨by omega, ?_⟩
                have e0 : vs[4294967296 + r.1 - 4294967296]? = some (i : Int) := e0
                rw [Nat.add_sub_cancel_left] at e0
                rw [ev_ix hr, ev_eq e0, h0, Int.add_zero]
            · cases hj
          · cases hj
      · cases this
end Ent
