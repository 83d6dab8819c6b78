/-! what a test tells -/
def rhi (sy : Sy) (s : Nat) (h : Int) : Option Sy := match sy[s]? with
  | none => none
  | some e => if e.1 ≤ h then some (if h < e.2.1 then sy.set s (e.1, h, e.2.2) else sy) else none
def rlo (sy : Sy) (s : Nat) (h : Int) : Option Sy := match sy[s]? with
  | none => none
  | some e => if h ≤ e.2.1 then some (if e.1 < h then sy.set s (h, e.2) else sy) else none
theorem rhi_ok {sy : Sy} {vs : List Int} {s : Nat} {h w : Int} (g : gs sy vs) (hw : vs[s]? = some w) (hh : w ≤ h) : ∃ sy', rhi sy s h = some sy' ∧ gs sy' vs := by
  obtain ⟨e, he, g1, g2, g3⟩ := gs_get g hw
  unfold rhi
  rw [he]
  dsimp only
  rw [if_pos (by omega)]
  refine ⟨_, rfl, ?_⟩
  split
  · exact gs_set g hw ⟨g1, hh, g3⟩
  · exact g
theorem rlo_ok {sy : Sy} {vs : List Int} {s : Nat} {h w : Int} (g : gs sy vs) (hw : vs[s]? = some w) (hh : h ≤ w) : ∃ sy', rlo sy s h = some sy' ∧ gs sy' vs := by
  obtain ⟨e, he, g1, g2, g3⟩ := gs_get g hw
  unfold rlo
  rw [he]
  dsimp only
  rw [if_pos (by omega)]
  refine ⟨_, rfl, ?_⟩
  split
  · exact gs_set g hw ⟨hh, g2, g3⟩
  · exact g
/-- the relation of two symbols: s + c is not above t + d -/
def rre (sy : Sy) (s t : Nat) (c d : Int) : Option Sy := if s = t then (if c ≤ d then some sy else none) else match sy[s]?, sy[t]? with
  | some e, some f => if e.2.2.1 = t + 1 then (if e.2.2.2.1 ≤ d - c then some (if d - c < e.2.2.2.2 then sy.set s (e.1, e.2.1, e.2.2.1, e.2.2.2.1, d - c) else sy) else none)
    else if f.2.2.1 = s + 1 then (if c - d ≤ f.2.2.2.2 then some (if f.2.2.2.1 < c - d then sy.set t (f.1, f.2.1, f.2.2.1, c - d, f.2.2.2.2) else sy) else none)
    else if e.2.2.1 = 0 ∧ 0 < t ∧ t < s then some (sy.set s (e.1, e.2.1, t + 1, e.1 - f.2.1, d - c))
    else if f.2.2.1 = 0 ∧ 0 < s ∧ s < t then some (sy.set t (f.1, f.2.1, s + 1, c - d, f.2.1 - e.1))
    else some sy
  | _, _ => none
theorem rre_ok {sy : Sy} {vs : List Int} {s t : Nat} {c d wa wb : Int} (g : gs sy vs) (ha : vs[s]? = some wa) (hb : vs[t]? = some wb) (hh : wa + c ≤ wb + d) : ∃ sy', rre sy s t c d = some sy' ∧ gs sy' vs := by
  unfold rre
  split
  · rename_i hst
    subst hst
    rw [ha] at hb
    cases hb
    rw [if_pos (by omega)]
    exact ⟨sy, rfl, g⟩
  · obtain ⟨e, he, g1, g2, g3⟩ := gs_get g ha
    obtain ⟨f, hf, f1, f2, f3⟩ := gs_get g hb
    rw [he, hf]
    dsimp only
    split
    · rename_i hq
      rcases g3 with g3 | ⟨z, g3, g4, g5⟩
      · rw [hq] at g3; cases g3
      · have g6 := g3
        rw [hq] at g6
        have g6 : vs[t]? = some z := g6
        rw [hb] at g6
        cases g6
        rw [if_pos (by omega)]
        refine ⟨_, rfl, ?_⟩
        split
        · exact gs_set g ha ⟨g1, g2, Or.inr ⟨wb, g3, g4, by show wa ≤ wb + (d - c); omega⟩⟩
        · exact g
    · split
      · rename_i hq
        rcases f3 with f3 | ⟨z, f3, f4, f5⟩
        · rw [hq] at f3; cases f3
        · have f6 := f3
          rw [hq] at f6
          have f6 : vs[s]? = some z := f6
          rw [ha] at f6
          cases f6
          rw [if_pos (by omega)]
          refine ⟨_, rfl, ?_⟩
          split
          · exact gs_set g hb ⟨f1, f2, Or.inr ⟨wa, f3, by show wa + (c - d) ≤ wb; omega, f5⟩⟩
          · exact g
      · split
        · exact ⟨_, rfl, gs_set g ha ⟨g1, g2, Or.inr ⟨wb, hb, by show wb + (e.1 - f.2.1) ≤ wa; omega, by show wa ≤ wb + (d - c); omega⟩⟩⟩
        · split
          · exact ⟨_, rfl, gs_set g hb ⟨f1, f2, Or.inr ⟨wa, ha, by show wa + (c - d) ≤ wb; omega, by show wb ≤ wa + (f.2.1 - e.1); omega⟩⟩⟩
          · exact ⟨sy, rfl, g⟩
def rle (sy : Sy) (s t : Nat) (c d : Int) : Option Sy := match iv sy s c, iv sy t d with
  | some p, some q => if p.1 ≤ q.2 then (match rhi sy s (q.2 - c) with
      | none => none
      | some sy1 => match rlo sy1 t (p.1 - d) with
        | none => none
        | some sy2 => rre sy2 s t c d) else none
  | _, _ => none
theorem iv_some {sy : Sy} {vs : List Int} {s : Nat} {c w : Int} (g : gs sy vs) (hw : vs[s]? = some w) : ∃ p, iv sy s c = some p := by
  obtain ⟨e, he, g1, g2, g3⟩ := gs_get g hw
  unfold iv
  rw [he]
  dsimp only
  split
  · exact ⟨_, rfl⟩
  · rename_i b hb
    rcases g3 with g3 | ⟨z, g3, -⟩
    · rw [hb] at g3; cases g3
    · rw [hb] at g3
      have g3 : vs[b]? = some z := g3
      obtain ⟨f, hf, -⟩ := gs_get g g3
      rw [hf]
      exact ⟨_, rfl⟩
theorem rle_ok {sy : Sy} {vs : List Int} {s t : Nat} {c d wa wb : Int} (g : gs sy vs) (ha : vs[s]? = some wa) (hb : vs[t]? = some wb) (hh : wa + c ≤ wb + d) : ∃ sy', rle sy s t c d = some sy' ∧ gs sy' vs := by
  obtain ⟨p, hp⟩ := iv_some (c := c) g ha
  obtain ⟨q, hq⟩ := iv_some (c := d) g hb
  have i1 := iv_ok g hp ha
  have i2 := iv_ok g hq hb
  unfold rle
  rw [hp, hq]
  dsimp only
  rw [if_pos (by omega)]
  obtain ⟨s1, e1, g1⟩ := rhi_ok (h := q.2 - c) g ha (by omega)
  rw [e1]
  dsimp only
  obtain ⟨s2, e2, g2⟩ := rlo_ok (h := p.1 - d) g1 hb (by omega)
  rw [e2]
  exact rre_ok g2 ha hb hh
/-- tests by number: 0 =, 1 not =, 2 <, 3 >=, 4 >, 5 <= -/
def rcq (q : Nat) (sy : Sy) (s t : Nat) (c d : Int) : Option Sy := match q with
  | 0 => (match rle sy s t c d with
    | none => none
    | some s1 => rle s1 t s d c)
  | 1 => (match rle sy s t c (d - 1), rle sy t s d (c - 1) with
    | none, r => r
    | r, none => r
    | some _, some _ => some sy)
  | 2 => rle sy s t c (d - 1)
  | 3 => rle sy t s d c
  | 4 => rle sy t s d (c - 1)
  | _ => rle sy s t c d
def ccq (q : Nat) : Jvm.ClassFile.Cond := match q with
  | 0 => .eq
  | 1 => .ne
  | 2 => .lt
  | 3 => .ge
  | 4 => .gt
  | _ => .le
def cng (q : Nat) : Nat := match q with
  | 0 => 1
  | 1 => 0
  | 2 => 3
  | 3 => 2
  | 4 => 5
  | _ => 4
theorem rcq_ok {q : Nat} {sy : Sy} {vs : List Int} {s t : Nat} {c d wa wb : Int} {x y : Int32} (g : gs sy vs) (ha : vs[s]? = some wa) (hb : vs[t]? = some wb) (hx : x.toInt = wa + c) (hy : y.toInt = wb + d) (hq : pm_c (ccq q) x y = true) : ∃ sy', rcq q sy s t c d = some sy' ∧ gs sy' vs := by
  unfold ccq at hq
  unfold rcq
  split at hq
  · simp only [pm_c, decide_eq_true_eq] at hq
    subst hq
    obtain ⟨s1, e1, g1⟩ := rle_ok (c := c) (d := d) g ha hb (by omega)
    rw [e1]
    exact rle_ok g1 hb ha (by omega)
  · simp only [pm_c, Bool.not_eq_true', decide_eq_false_iff_not] at hq
    have hne : x.toInt ≠ y.toInt := fun e => hq (Int32.toInt_inj.mp e)
    rcases Int.lt_or_gt_of_ne hne with hl | hl
    · obtain ⟨s1, e1, g1⟩ := rle_ok (c := c) (d := d - 1) g ha hb (by omega)
      rw [e1]
      split
      · rename_i h0; cases h0
      · exact ⟨s1, rfl, g1⟩
      · exact ⟨sy, rfl, g⟩
    · obtain ⟨s1, e1, g1⟩ := rle_ok (c := d) (d := c - 1) g hb ha (by omega)
      rw [e1]
      split
      · exact ⟨s1, rfl, g1⟩
      · rename_i h0 _; cases h0
      · exact ⟨sy, rfl, g⟩
  · simp only [pm_c, decide_eq_true_eq, Int32.lt_iff_toInt_lt] at hq
    exact rle_ok g ha hb (by omega)
  · simp only [pm_c, decide_eq_true_eq, Int32.le_iff_toInt_le] at hq
    exact rle_ok g hb ha (by omega)
  · simp only [pm_c, decide_eq_true_eq, Int32.lt_iff_toInt_lt] at hq
    exact rle_ok g hb ha (by omega)
  · rename_i n0 n1 n2 n3 n4
    simp only [pm_c, decide_eq_true_eq, Int32.le_iff_toInt_le] at hq
    exact rle_ok g ha hb (by omega)
theorem cng_ok {q : Nat} {x y : Int32} (h : pm_c (ccq q) x y = false) : pm_c (ccq (cng q)) x y = true := by
  unfold ccq at h
  unfold cng
  split at h
  · simpa [ccq, pm_c] using h
  · simpa [ccq, pm_c] using h
  · simp only [pm_c, decide_eq_false_iff_not, Int32.lt_iff_toInt_lt] at h
    simp only [ccq, pm_c, decide_eq_true_eq, Int32.le_iff_toInt_le]
    omega
  · simp only [pm_c, decide_eq_false_iff_not, Int32.le_iff_toInt_le] at h
    simp only [ccq, pm_c, decide_eq_true_eq, Int32.lt_iff_toInt_lt]
    omega
  · simp only [pm_c, decide_eq_false_iff_not, Int32.lt_iff_toInt_lt] at h
    simp only [ccq, pm_c, decide_eq_true_eq, Int32.le_iff_toInt_le]
    omega
  · rename_i n0 n1 n2 n3 n4
    simp only [pm_c, decide_eq_false_iff_not, Int32.le_iff_toInt_le] at h
    simp only [ccq, pm_c, decide_eq_true_eq, Int32.lt_iff_toInt_lt]
    omega
/-- an upper bound of a difference -/
def dup (sy : Sy) (s t : Nat) (c d : Int) : Option Int := match dfb sy s t c d, iv sy s c, iv sy t d with
  | some u, some p, some q => some (if u.2 ≤ p.2 - q.1 then u.2 else p.2 - q.1)
  | none, some p, some q => some (p.2 - q.1)
  | _, _, _ => none
theorem dup_ok {sy : Sy} {vs : List Int} {s t : Nat} {c d wa wb u : Int} (h : gs sy vs) (hu : dup sy s t c d = some u) (ha : vs[s]? = some wa) (hb : vs[t]? = some wb) : (wa + c) - (wb + d) ≤ u := by
  unfold dup at hu
  split at hu
  · rename_i z p q h1 h2 h3
    have a1 := dfb_ok h h1 ha hb
    have a2 := iv_ok h h2 ha
    have a3 := iv_ok h h3 hb
    cases hu
    split <;> omega
  · rename_i p q h1 h2 h3
    have a2 := iv_ok h h2 ha
    have a3 := iv_ok h h3 hb
    cases hu
    omega
  · cases hu
