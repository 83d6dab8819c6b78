/-! values by symbols, and what is known of the symbols -/
abbrev Av : Type := Nat × Nat × Int
abbrev Se : Type := Int × Int × Nat × Int × Int
abbrev Sy : Type := List Se
abbrev Rs : Type := (Nat × Int) ⊕ Se
def gv (RG : Nat → List Nat) (vs : List Int) (a : Av) (v : Value) : Prop := match v with
  | .int x => a.1 = 0 ∧ ∃ w, vs[a.2.1]? = some w ∧ x.toInt = w + a.2.2
  | .long x => a.1 = 1 ∧ ∃ w, vs[a.2.1]? = some w ∧ x.toInt = w + a.2.2
  | .ref k => (a.1 = 2 ∧ a.2.1 = k) ∨ (a.1 = 3 ∧ k ∈ RG a.2.1)
  | _ => False
def ge (vs : List Int) (e : Se) (w : Int) : Prop := e.1 ≤ w ∧ w ≤ e.2.1 ∧ (e.2.2.1 = 0 ∨ ∃ b, vs[e.2.2.1 - 1]? = some b ∧ b + e.2.2.2.1 ≤ w ∧ w ≤ b + e.2.2.2.2)
def gs (sy : Sy) (vs : List Int) : Prop := sy.length = vs.length ∧ vs[0]? = some 0 ∧ ∀ (s : Nat) (e : Se) (w : Int), sy[s]? = some e → vs[s]? = some w → ge vs e w
def gr (vs : List Int) (r : Rs) (z : Int) : Prop := match r with
  | .inl q => ∃ w, vs[q.1]? = some w ∧ z = w + q.2
  | .inr e => ge vs e z
theorem ix_app {vs ws : List Int} {s : Nat} {w : Int} (h : vs[s]? = some w) : (vs ++ ws)[s]? = some w := by
  obtain ⟨h1, h2⟩ := List.getElem?_eq_some_iff.mp h
  rw [List.getElem?_append_left h1]
  exact h
theorem gv_app {RG : Nat → List Nat} {vs : List Int} (ws : List Int) {a : Av} {v : Value} (h : gv RG vs a v) : gv RG (vs ++ ws) a v := by
  cases v with
  | int x => obtain ⟨h1, w, h2, h3⟩ := h; exact ⟨h1, w, ix_app h2, h3⟩
  | long x => obtain ⟨h1, w, h2, h3⟩ := h; exact ⟨h1, w, ix_app h2, h3⟩
  | ref k => exact h
  | _ => exact h
theorem ge_app {vs : List Int} (ws : List Int) {e : Se} {w : Int} (h : ge vs e w) : ge (vs ++ ws) e w := by
  obtain ⟨h1, h2, h3⟩ := h
  refine ⟨h1, h2, ?_⟩
  rcases h3 with h3 | ⟨b, h3, h4⟩
  · exact Or.inl h3
  · exact Or.inr ⟨b, ix_app h3, h4⟩
theorem gs_push {sy : Sy} {vs : List Int} {e : Se} {z : Int} (h : gs sy vs) (he : ge vs e z) : gs (sy ++ [e]) (vs ++ [z]) := by
  obtain ⟨h1, h2, h3⟩ := h
  refine ⟨by simp [h1], ix_app h2, fun s e' w q1 q2 => ?_⟩
  by_cases hs : s < vs.length
  · rw [List.getElem?_append_left (by omega)] at q1
    rw [List.getElem?_append_left hs] at q2
    exact ge_app _ (h3 s e' w q1 q2)
  · rw [List.getElem?_append_right (by omega)] at q1
    rw [List.getElem?_append_right (by omega)] at q2
    rw [h1] at q1
    have : s - vs.length = 0 := by
      by_cases h0 : s - vs.length = 0
      · exact h0
      · rw [List.getElem?_eq_none (by simp; omega)] at q1
        cases q1
    rw [this] at q1 q2
    cases q1
    cases q2
    exact ge_app _ he
theorem gs_get {sy : Sy} {vs : List Int} {s : Nat} {w : Int} (h : gs sy vs) (hw : vs[s]? = some w) : ∃ e, sy[s]? = some e ∧ ge vs e w := by
  obtain ⟨h1, h2, h3⟩ := h
  obtain ⟨q1, q2⟩ := List.getElem?_eq_some_iff.mp hw
  have : s < sy.length := by omega
  exact ⟨sy[s], List.getElem?_eq_getElem this, h3 s _ w (List.getElem?_eq_getElem this) hw⟩
theorem gs_set {sy : Sy} {vs : List Int} {s : Nat} {w : Int} {e : Se} (h : gs sy vs) (hw : vs[s]? = some w) (he : ge vs e w) : gs (sy.set s e) vs := by
  obtain ⟨h1, h2, h3⟩ := h
  refine ⟨by simp [h1], h2, fun t e' w' q1 q2 => ?_⟩
  rw [List.getElem?_set] at q1
  by_cases ht : s = t
  · subst ht
    rw [if_pos rfl] at q1
    split at q1
    · cases q1
      rw [hw] at q2
      cases q2
      exact he
    · cases q1
  · rw [if_neg ht] at q1
    exact h3 t e' w' q1 q2
/-- the interval of a value -/
def iv (sy : Sy) (s : Nat) (c : Int) : Option (Int × Int) := match sy[s]? with
  | none => none
  | some e => match e.2.2.1 with
    | 0 => some (e.1 + c, e.2.1 + c)
    | b + 1 => match sy[b]? with
      | none => none
      | some f => some ((if e.1 ≤ f.1 + e.2.2.2.1 then f.1 + e.2.2.2.1 else e.1) + c, (if f.2.1 + e.2.2.2.2 ≤ e.2.1 then f.2.1 + e.2.2.2.2 else e.2.1) + c)
theorem iv_ok {sy : Sy} {vs : List Int} {s : Nat} {c w : Int} {p : Int × Int} (h : gs sy vs) (hi : iv sy s c = some p) (hw : vs[s]? = some w) : p.1 ≤ w + c ∧ w + c ≤ p.2 := by
  obtain ⟨e, he, g1, g2, g3⟩ := gs_get h hw
  unfold iv at hi
  rw [he] at hi
  dsimp only at hi
  split at hi
  · cases hi
    exact ⟨by show _ + c ≤ w + c; omega, by show w + c ≤ _ + c; omega⟩
  · rename_i b hb
    rw [hb] at g3
    rcases g3 with g3 | ⟨z, g3, g4, g5⟩
    · cases g3
    · have g3 : vs[b]? = some z := g3
      obtain ⟨f, hf, f1, f2, -⟩ := gs_get h g3
      rw [hf] at hi
      cases hi
      refine ⟨?_, ?_⟩
      · dsimp only
        split <;> omega
      · dsimp only
        split <;> omega
def tp32 : Se := (-2147483648, 2147483647, 0, 0, 0)
def tp64 : Se := (-9223372036854775808, 9223372036854775807, 0, 0, 0)
theorem r32 (x : Int32) : -2147483648 ≤ x.toInt ∧ x.toInt ≤ 2147483647 := by
  have h1 := x.le_toInt
  have h2 := x.toInt_lt
  omega
theorem r64 (x : Int64) : -9223372036854775808 ≤ x.toInt ∧ x.toInt ≤ 9223372036854775807 := by
  have h1 := x.le_toInt
  have h2 := x.toInt_lt
  omega
theorem gr_tp {vs : List Int} (x : Int32) : gr vs (.inr tp32) x.toInt := ⟨(r32 x).1, (r32 x).2, Or.inl rfl⟩
theorem gr_tpL {vs : List Int} (x : Int64) : gr vs (.inr tp64) x.toInt := ⟨(r64 x).1, (r64 x).2, Or.inl rfl⟩
theorem bm32 {z : Int} (h1 : -2147483648 ≤ z) (h2 : z ≤ 2147483647) : z.bmod (2 ^ 32) = z := Int.bmod_eq_of_le (by omega) (by omega)
/-- an operation of two ints: what is known of its answer -/
def tOK (t : Sy → Av → Av → Option Rs) (f : Int32 → Int32 → Option Int32) : Prop := ∀ (sy : Sy) (vs : List Int) (a b : Av) (r : Rs) (x y : Int32) (wa wb : Int), gs sy vs → t sy a b = some r → vs[a.2.1]? = some wa → vs[b.2.1]? = some wb → x.toInt = wa + a.2.2 → y.toInt = wb + b.2.2 → ∃ z, f x y = some z ∧ gr vs r z.toInt
def ivs (sy : Sy) (a b : Av) (k : Int × Int → Int × Int → Rs) : Option Rs := match iv sy a.2.1 a.2.2 with
  | none => none
  | some p => match iv sy b.2.1 b.2.2 with
    | none => none
    | some q => some (k p q)
theorem ivs_inv {sy : Sy} {vs : List Int} {a b : Av} {k : Int × Int → Int × Int → Rs} {r : Rs} {wa wb : Int} (h : gs sy vs) (hr : ivs sy a b k = some r) (ha : vs[a.2.1]? = some wa) (hb : vs[b.2.1]? = some wb) : ∃ p q : Int × Int, k p q = r ∧ p.1 ≤ wa + a.2.2 ∧ wa + a.2.2 ≤ p.2 ∧ q.1 ≤ wb + b.2.2 ∧ wb + b.2.2 ≤ q.2 := by
  unfold ivs at hr
  split at hr
  · cases hr
  · rename_i p hp
    split at hr
    · cases hr
    · rename_i q hq
      have h1 := iv_ok h hp ha
      have h2 := iv_ok h hq hb
      exact ⟨p, q, Option.some.inj hr, h1.1, h1.2, h2.1, h2.2⟩
def t_top (sy : Sy) (a b : Av) : Option Rs := some (.inr tp32)
theorem t_top_ok {g : Int32 → Int32 → Int32} : tOK t_top (fun x y => some (g x y)) := fun sy vs a b r x y wa wb h1 h2 h3 h4 h5 h6 => by
  cases h2
  exact ⟨_, rfl, gr_tp _⟩
def t_add (sy : Sy) (a b : Av) : Option Rs := ivs sy a b fun p q =>
  if -2147483648 ≤ p.1 + q.1 ∧ p.2 + q.2 ≤ 2147483647 then
    if q.1 = q.2 then .inl (a.2.1, a.2.2 + q.1) else if p.1 = p.2 then .inl (b.2.1, b.2.2 + p.1) else .inr (p.1 + q.1, p.2 + q.2, a.2.1 + 1, a.2.2 + q.1, a.2.2 + q.2)
  else .inr tp32
theorem t_add_ok : tOK t_add (fun x y => some (x + y)) := fun sy vs a b r x y wa wb h1 h2 h3 h4 h5 h6 => by
  obtain ⟨p, q, hk, i1, i2, i3, i4⟩ := ivs_inv h1 h2 h3 h4
  refine ⟨_, rfl, ?_⟩
  subst hk
  split
  · rename_i hc
    have e : (x + y).toInt = x.toInt + y.toInt := by rw [Int32.toInt_add]; exact bm32 (by omega) (by omega)
    rw [e]
    split
    · exact ⟨wa, h3, by omega⟩
    · split
      · exact ⟨wb, h4, by omega⟩
      · exact ⟨by show p.1 + q.1 ≤ _; omega, by show _ ≤ p.2 + q.2; omega, Or.inr ⟨wa, h3, by show wa + (a.2.2 + q.1) ≤ _; omega, by show _ ≤ wa + (a.2.2 + q.2); omega⟩⟩
  · exact gr_tp _
/-- up the chain of relations, from a symbol to another -/
def upb (sy : Sy) (t : Nat) : Nat → Nat → Option (Int × Int)
  | 0, s => if s = t then some (0, 0) else none
  | f + 1, s => if s = t then some (0, 0) else match sy[s]? with
    | none => none
    | some e => match e.2.2.1 with
      | 0 => none
      | b + 1 => match upb sy t f b with
        | none => none
        | some u => some (e.2.2.2.1 + u.1, e.2.2.2.2 + u.2)
theorem upb_ok {sy : Sy} {vs : List Int} {t : Nat} {wb : Int} (h : gs sy vs) (hb : vs[t]? = some wb) : ∀ (f s : Nat) (wa : Int) (u : Int × Int), upb sy t f s = some u → vs[s]? = some wa → u.1 ≤ wa - wb ∧ wa - wb ≤ u.2
  | 0, s, wa, u, hu, ha => by
    unfold upb at hu
    split at hu
    · rename_i e
      subst e
      cases hu
      rw [ha] at hb
      cases hb
      dsimp only
      omega
    · cases hu
  | f + 1, s, wa, u, hu, ha => by
    unfold upb at hu
    split at hu
    · rename_i e
      subst e
      cases hu
      rw [ha] at hb
      cases hb
      dsimp only
      omega
    · split at hu
      · cases hu
      · rename_i e he
        split at hu
        · cases hu
        · rename_i b hq
          split at hu
          · cases hu
          · rename_i u0 hu0
            cases hu
            obtain ⟨e', he', -, -, g3⟩ := gs_get h ha
            rw [he] at he'
            cases he'
            rw [hq] at g3
            rcases g3 with g3 | ⟨z, g3, g4, g5⟩
            · cases g3
            · have g3 : vs[b]? = some z := g3
              have := upb_ok h hb f b z u0 hu0 g3
              dsimp only
              omega
/-- by a common ancestor -/
def dfc (sy : Sy) (s : Nat) : Nat → Nat → Option (Int × Int)
  | 0, t => upb sy t 24 s
  | f + 1, t => match upb sy t 24 s with
    | some u => some u
    | none => match sy[t]? with
      | none => none
      | some e => match e.2.2.1 with
        | 0 => none
        | b + 1 => match dfc sy s f b with
          | none => none
          | some u => some (u.1 - e.2.2.2.2, u.2 - e.2.2.2.1)
theorem dfc_ok {sy : Sy} {vs : List Int} {s : Nat} {wa : Int} (h : gs sy vs) (ha : vs[s]? = some wa) : ∀ (f t : Nat) (wb : Int) (u : Int × Int), dfc sy s f t = some u → vs[t]? = some wb → u.1 ≤ wa - wb ∧ wa - wb ≤ u.2
  | 0, t, wb, u, hu, hb => upb_ok h hb 24 s wa u hu ha
  | f + 1, t, wb, u, hu, hb => by
    unfold dfc at hu
    split at hu
    · rename_i u0 hu0
      cases hu
      exact upb_ok h hb 24 s wa u hu0 ha
    · split at hu
      · cases hu
      · rename_i e he
        split at hu
        · cases hu
        · rename_i b hq
          split at hu
          · cases hu
          · rename_i u0 hu0
            cases hu
            obtain ⟨e', he', -, -, g3⟩ := gs_get h hb
            rw [he] at he'
            cases he'
            rw [hq] at g3
            rcases g3 with g3 | ⟨z, g3, g4, g5⟩
            · cases g3
            · have g3 : vs[b]? = some z := g3
              have := dfc_ok h ha f b z u0 hu0 g3
              dsimp only
              omega
/-- bounds of the difference of two values -/
def dfb (sy : Sy) (s t : Nat) (c d : Int) : Option (Int × Int) := if s = t then some (c - d, c - d) else match dfc sy s 24 t with
  | some u => some (u.1 + (c - d), u.2 + (c - d))
  | none => none
theorem dfb_ok {sy : Sy} {vs : List Int} {s t : Nat} {c d wa wb : Int} {p : Int × Int} (h : gs sy vs) (hp : dfb sy s t c d = some p) (ha : vs[s]? = some wa) (hb : vs[t]? = some wb) : p.1 ≤ (wa + c) - (wb + d) ∧ (wa + c) - (wb + d) ≤ p.2 := by
  unfold dfb at hp
  split at hp
  · rename_i hst
    subst hst
    rw [ha] at hb
    cases hb
    cases hp
    dsimp only
    omega
  · split at hp
    · rename_i u hu
      cases hp
      have := dfc_ok h ha 24 t wb u hu hb
      dsimp only
      omega
    · cases hp
def t_sub (sy : Sy) (a b : Av) : Option Rs := ivs sy a b fun p q =>
  match dfb sy a.2.1 b.2.1 a.2.2 b.2.2 with
  | some u => if -2147483648 ≤ (if u.1 ≤ p.1 - q.2 then p.1 - q.2 else u.1) ∧ (if p.2 - q.1 ≤ u.2 then p.2 - q.1 else u.2) ≤ 2147483647 then .inr (if u.1 ≤ p.1 - q.2 then p.1 - q.2 else u.1, if p.2 - q.1 ≤ u.2 then p.2 - q.1 else u.2, 0, 0, 0) else .inr tp32
  | none =>
    if -2147483648 ≤ p.1 - q.2 ∧ p.2 - q.1 ≤ 2147483647 then
      if q.1 = q.2 then .inl (a.2.1, a.2.2 - q.1) else .inr (p.1 - q.2, p.2 - q.1, a.2.1 + 1, a.2.2 - q.2, a.2.2 - q.1)
    else .inr tp32
theorem t_sub_ok : tOK t_sub (fun x y => some (x - y)) := fun sy vs a b r x y wa wb h1 h2 h3 h4 h5 h6 => by
  obtain ⟨p, q, hk, i1, i2, i3, i4⟩ := ivs_inv h1 h2 h3 h4
  refine ⟨_, rfl, ?_⟩
  subst hk
  split
  · rename_i u hu
    have hd := dfb_ok h1 hu h3 h4
    generalize hL : (if u.1 ≤ p.1 - q.2 then p.1 - q.2 else u.1) = l1
    generalize hM : (if p.2 - q.1 ≤ u.2 then p.2 - q.1 else u.2) = l2
    have k1 : l1 ≤ x.toInt - y.toInt := by subst hL; split <;> omega
    have k2 : x.toInt - y.toInt ≤ l2 := by subst hM; split <;> omega
    split
    · rename_i hc
      have e : (x - y).toInt = x.toInt - y.toInt := by rw [Int32.toInt_sub]; exact bm32 (by omega) (by omega)
      rw [e]
      exact ⟨k1, k2, Or.inl rfl⟩
    · exact gr_tp _
  · split
    · rename_i hc
      have e : (x - y).toInt = x.toInt - y.toInt := by rw [Int32.toInt_sub]; exact bm32 (by omega) (by omega)
      rw [e]
      split
      · exact ⟨wa, h3, by omega⟩
      · exact ⟨by show p.1 - q.2 ≤ _; omega, by show _ ≤ p.2 - q.1; omega, Or.inr ⟨wa, h3, by show wa + (a.2.2 - q.2) ≤ _; omega, by show _ ≤ wa + (a.2.2 - q.1); omega⟩⟩
    · exact gr_tp _
def t_mul (sy : Sy) (a b : Av) : Option Rs := ivs sy a b fun p q =>
  if 0 ≤ p.1 ∧ 0 ≤ q.1 ∧ p.2 * q.2 ≤ 2147483647 then .inr (p.1 * q.1, p.2 * q.2, 0, 0, 0) else .inr tp32
theorem t_mul_ok : tOK t_mul (fun x y => some (x * y)) := fun sy vs a b r x y wa wb h1 h2 h3 h4 h5 h6 => by
  obtain ⟨p, q, hk, i1, i2, i3, i4⟩ := ivs_inv h1 h2 h3 h4
  refine ⟨_, rfl, ?_⟩
  subst hk
  split
  · rename_i hc
    obtain ⟨c1, c2, c3⟩ := hc
    rw [← h5] at i1 i2
    rw [← h6] at i3 i4
    have m1 : p.1 * q.1 ≤ x.toInt * y.toInt := Int.mul_le_mul i1 i3 c2 (by omega)
    have m2 : x.toInt * y.toInt ≤ p.2 * q.2 := Int.mul_le_mul i2 i4 (by omega) (by omega)
    have m0 : 0 ≤ p.1 * q.1 := Int.mul_nonneg c1 c2
    have e : (x * y).toInt = x.toInt * y.toInt := by rw [Int32.toInt_mul]; exact bm32 (by omega) (by omega)
    rw [e]
    exact ⟨m1, m2, Or.inl rfl⟩
  · exact gr_tp _
theorem nn32 {x : Int32} (h : 0 ≤ x.toInt) : x.toInt = (x.toBitVec.toNat : Int) ∧ x.toBitVec.toNat < 2147483648 := by
  have h1 : x.toBitVec.toInt = x.toInt := rfl
  have h2 := x.toBitVec.isLt
  rw [BitVec.toInt_eq_toNat_cond] at h1
  split at h1 <;> omega
theorem of32 {x : Int32} (h : x.toBitVec.toNat < 2147483648) : x.toInt = (x.toBitVec.toNat : Int) := by
  show x.toBitVec.toInt = _
  exact BitVec.toInt_eq_toNat_of_lt (by omega)
theorem ng32 {x : Int32} (h : x.toInt < 0) : x.toInt = (x.toBitVec.toNat : Int) - 4294967296 ∧ 2147483648 ≤ x.toBitVec.toNat ∧ x.toBitVec.toNat < 4294967296 := by
  have h1 : x.toBitVec.toInt = x.toInt := rfl
  have h2 := x.toBitVec.isLt
  rw [BitVec.toInt_eq_toNat_cond] at h1
  split at h1 <;> omega
theorem and_hi (x y : BitVec 32) : x.toNat + y.toNat ≤ (x.toNat &&& y.toNat) + 4294967295 := by
  have h0 : (x &&& y) &&& (x &&& ~~~y) = 0#32 := by
    ext i hi
    simp
    intro _ h2 _
    exact h2
  have h1 := BitVec.add_eq_or_of_and_eq_zero _ _ h0
  have h2 : (x &&& y) ||| (x &&& ~~~y) = x := by
    ext i hi
    simp
    cases x[i] <;> cases y[i] <;> rfl
  have h3 : ((x &&& y) + (x &&& ~~~y)).toNat = x.toNat := by rw [h1, h2]
  have h4 : (x &&& ~~~y).toNat ≤ (~~~y).toNat := by rw [BitVec.toNat_and]; exact Nat.and_le_right
  rw [BitVec.toNat_not] at h4
  rw [BitVec.toNat_add, BitVec.toNat_and] at h3
  have h5 : x.toNat &&& y.toNat ≤ x.toNat := Nat.and_le_left
  have h6 : (x &&& ~~~y).toNat ≤ x.toNat := by rw [BitVec.toNat_and]; exact Nat.and_le_left
  have hx := x.isLt
  have hy := y.isLt
  have h7 : ((x.toNat &&& y.toNat) + (x &&& ~~~y).toNat) % 2 ^ 32 ≤ (x.toNat &&& y.toNat) + (x &&& ~~~y).toNat := Nat.mod_le _ _
  omega
def t_and (sy : Sy) (a b : Av) : Option Rs := ivs sy a b fun p q =>
  if 0 ≤ p.1 ∧ 0 ≤ q.1 ∧ p.1 = p.2 ∧ q.1 = q.2 then .inr (((p.1.toNat &&& q.1.toNat : Nat) : Int), ((p.1.toNat &&& q.1.toNat : Nat) : Int), 0, 0, 0) else if 0 ≤ p.1 then .inr (if -1024 ≤ q.1 ∧ q.2 < 0 ∧ 1023 ≤ p.1 then p.1 - 1023 else 0, if 0 ≤ q.1 ∧ q.2 ≤ p.2 then q.2 else p.2, a.2.1 + 1, a.2.2 - p.2, a.2.2) else if 0 ≤ q.1 then .inr (0, q.2, b.2.1 + 1, b.2.2 - q.2, b.2.2) else if p.2 < 0 ∧ q.2 < 0 then .inr (-2147483648, -1, 0, 0, 0) else .inr tp32
theorem t_and_ok : tOK t_and (fun x y => some (x &&& y)) := fun sy vs a b r x y wa wb h1 h2 h3 h4 h5 h6 => by
  obtain ⟨p, q, hk, i1, i2, i3, i4⟩ := ivs_inv h1 h2 h3 h4
  refine ⟨_, rfl, ?_⟩
  subst hk
  have ev : (x &&& y).toBitVec.toNat = x.toBitVec.toNat &&& y.toBitVec.toNat := by rw [Int32.toBitVec_and, BitVec.toNat_and]
  have l1 : x.toBitVec.toNat &&& y.toBitVec.toNat ≤ x.toBitVec.toNat := Nat.and_le_left
  have l2 : x.toBitVec.toNat &&& y.toBitVec.toNat ≤ y.toBitVec.toNat := Nat.and_le_right
  split
  · rename_i hc
    obtain ⟨n1, n2⟩ := nn32 (x := x) (by omega)
    obtain ⟨m1, m2⟩ := nn32 (x := y) (by omega)
    have e := of32 (x := x &&& y) (by omega)
    rw [e, ev, show p.1.toNat = x.toBitVec.toNat from by omega, show q.1.toNat = y.toBitVec.toNat from by omega]
    exact ⟨Int.le_refl _, Int.le_refl _, Or.inl rfl⟩
  split
  · rename_i hc
    obtain ⟨n1, n2⟩ := nn32 (x := x) (by omega)
    have e := of32 (x := x &&& y) (by omega)
    refine ⟨?_, ?_, Or.inr ⟨wa, h3, by show wa + (a.2.2 - p.2) ≤ _; omega, by show _ ≤ wa + a.2.2; omega⟩⟩
    · dsimp only
      split
      · rename_i hd
        have ly := and_hi x.toBitVec y.toBitVec
        have ny := ng32 (x := y) (by omega)
        omega
      · omega
    dsimp only
    split
    · rename_i hd
      obtain ⟨m1, m2⟩ := nn32 (x := y) (by omega)
      omega
    · omega
  · split
    · rename_i hc hd
      obtain ⟨m1, m2⟩ := nn32 (x := y) (by omega)
      have e := of32 (x := x &&& y) (by omega)
      exact ⟨by show 0 ≤ _; omega, by show _ ≤ q.2; omega, Or.inr ⟨wb, h4, by show wb + (b.2.2 - q.2) ≤ _; omega, by show _ ≤ wb + b.2.2; omega⟩⟩
    · split
      · rename_i hn
        have r := r32 (x &&& y)
        have nx := ng32 (x := x) (by omega)
        have ny := ng32 (x := y) (by omega)
        refine ⟨r.1, ?_, Or.inl rfl⟩
        show (x &&& y).toInt ≤ -1
        by_cases h0 : 0 ≤ (x &&& y).toInt
        · obtain ⟨z1, z2⟩ := nn32 h0
          have k1 : x.toBitVec.toNat.testBit 31 = true := by
            rw [Nat.testBit_eq_decide_div_mod_eq]
            simp only [decide_eq_true_eq]
            omega
          have k2 : y.toBitVec.toNat.testBit 31 = true := by
            rw [Nat.testBit_eq_decide_div_mod_eq]
            simp only [decide_eq_true_eq]
            omega
          have k3 : (x.toBitVec.toNat &&& y.toBitVec.toNat).testBit 31 = true := by rw [Nat.testBit_and, k1, k2]; rfl
          have k4 := Nat.ge_two_pow_of_testBit k3
          omega
        · omega
      · exact gr_tp _
/-- the least 2 ^ k - 1 not below a number -/
def p2u (z : Int) : Nat → Nat → Nat
  | 0, k => k
  | f + 1, k => if z < ((2 ^ k : Nat) : Int) then k else p2u z f (k + 1)
theorem p2u_le (z : Int) : ∀ f k, p2u z f k ≤ k + f
  | 0, k => Nat.le_refl k
  | f + 1, k => by
    unfold p2u
    split
    · omega
    · have := p2u_le z f (k + 1)
      omega
theorem p2u_ok (z : Int) : ∀ f k, z < ((2 ^ (k + f) : Nat) : Int) → z < ((2 ^ p2u z f k : Nat) : Int)
  | 0, k, h => h
  | f + 1, k, h => by
    unfold p2u
    split
    · assumption
    · exact p2u_ok z f (k + 1) (by rw [Nat.add_right_comm]; exact h)
def t_or (sy : Sy) (a b : Av) : Option Rs := ivs sy a b fun p q =>
  if 0 ≤ p.1 ∧ 0 ≤ q.1 then .inr (if p.1 ≤ q.1 then q.1 else p.1, ((2 ^ p2u (if p.2 ≤ q.2 then q.2 else p.2) 31 0 : Nat) : Int) - 1, a.2.1 + 1, a.2.2, a.2.2 + 2147483647) else if 0 ≤ q.1 then .inr (-2147483648, 2147483647, a.2.1 + 1, a.2.2, a.2.2 + 4294967295) else .inr tp32
theorem t_or_ok : tOK t_or (fun x y => some (x ||| y)) := fun sy vs a b r x y wa wb h1 h2 h3 h4 h5 h6 => by
  obtain ⟨p, q, hk, i1, i2, i3, i4⟩ := ivs_inv h1 h2 h3 h4
  refine ⟨_, rfl, ?_⟩
  subst hk
  have ev : (x ||| y).toBitVec.toNat = x.toBitVec.toNat ||| y.toBitVec.toNat := by rw [Int32.toBitVec_or, BitVec.toNat_or]
  have l1 : x.toBitVec.toNat ≤ x.toBitVec.toNat ||| y.toBitVec.toNat := Nat.left_le_or
  have l2 : y.toBitVec.toNat ≤ x.toBitVec.toNat ||| y.toBitVec.toNat := Nat.right_le_or
  split
  · rename_i hc
    obtain ⟨n1, n2⟩ := nn32 (x := x) (by omega)
    obtain ⟨m1, m2⟩ := nn32 (x := y) (by omega)
    have l3 : x.toBitVec.toNat ||| y.toBitVec.toNat < 2 ^ 31 := Nat.or_lt_two_pow n2 m2
    have e := of32 (x := x ||| y) (by omega)
    refine ⟨?_, ?_, Or.inr ⟨wa, h3, by show wa + a.2.2 ≤ _; omega, by show _ ≤ wa + (a.2.2 + 2147483647); omega⟩⟩
    · show (if _ then _ else _) ≤ _
      split <;> omega
    · show _ ≤ ((2 ^ p2u _ 31 0 : Nat) : Int) - 1
      generalize hM : (if p.2 ≤ q.2 then q.2 else p.2) = M
      have hM1 : p.2 ≤ M ∧ q.2 ≤ M := by
        subst hM
        split <;> omega
      by_cases hb : M < ((2 ^ 31 : Nat) : Int)
      · have hp := p2u_ok M 31 0 (by simpa using hb)
        have k1 : x.toBitVec.toNat < 2 ^ p2u M 31 0 := by
          have : (x.toBitVec.toNat : Int) < ((2 ^ p2u M 31 0 : Nat) : Int) := by omega
          exact Int.ofNat_lt.mp this
        have k2 : y.toBitVec.toNat < 2 ^ p2u M 31 0 := by
          have : (y.toBitVec.toNat : Int) < ((2 ^ p2u M 31 0 : Nat) : Int) := by omega
          exact Int.ofNat_lt.mp this
        have k3 := Nat.or_lt_two_pow k1 k2
        omega
      · have k3 : p2u M 31 0 = 31 := by
          have key : ∀ f k, k + f ≤ 31 → p2u M f k = k + f := by
            intro f
            induction f with
            | zero => intro k _; rfl
            | succ f ih =>
              intro k hk
              unfold p2u
              rw [if_neg ?_, ih (k + 1) (by omega)]
              · omega
              · intro hlt
                have : 2 ^ k ≤ 2 ^ 31 := Nat.pow_le_pow_right (by decide) (by omega)
                omega
          exact key 31 0 (by omega)
        rw [k3]
        omega
  · split
    · rename_i hc hq
      have r := r32 (x ||| y)
      have rx := r32 x
      obtain ⟨m1, m2⟩ := nn32 (x := y) (by omega)
      have hx := x.toBitVec.isLt
      refine ⟨r.1, r.2, Or.inr ⟨wa, h3, ?_, by show _ ≤ wa + (a.2.2 + 4294967295); omega⟩⟩
      show wa + a.2.2 ≤ _
      rw [← h5]
      by_cases h0 : 0 ≤ x.toInt
      · obtain ⟨n1, n2⟩ := nn32 h0
        have l3 : x.toBitVec.toNat ||| y.toBitVec.toNat < 2 ^ 31 := Nat.or_lt_two_pow n2 m2
        have e := of32 (x := x ||| y) (by omega)
        omega
      · have nx := ng32 (x := x) (by omega)
        by_cases h8 : (x ||| y).toInt < 0
        · have nz := ng32 h8
          omega
        · obtain ⟨z1, z2⟩ := nn32 (x := x ||| y) (by omega)
          omega
    · exact gr_tp _
def t_xor (sy : Sy) (a b : Av) : Option Rs := ivs sy a b fun p q =>
  if 0 ≤ p.1 ∧ 0 ≤ q.1 ∧ p.2 < 1024 ∧ q.2 < 1024 then (if p.2 < 128 ∧ q.2 < 128 then .inr (0, 127, 0, 0, 0) else .inr (0, 1023, 0, 0, 0)) else if q.1 = -1 ∧ q.2 = -1 then .inr (-1 - p.2, -1 - p.1, 0, 0, 0) else .inr tp32
theorem t_xor_ok : tOK t_xor (fun x y => some (x ^^^ y)) := fun sy vs a b r x y wa wb h1 h2 h3 h4 h5 h6 => by
  obtain ⟨p, q, hk, i1, i2, i3, i4⟩ := ivs_inv h1 h2 h3 h4
  refine ⟨_, rfl, ?_⟩
  subst hk
  have ev : (x ^^^ y).toBitVec.toNat = x.toBitVec.toNat ^^^ y.toBitVec.toNat := by rw [Int32.toBitVec_xor, BitVec.toNat_xor]
  split
  · rename_i hc
    obtain ⟨n1, n2⟩ := nn32 (x := x) (by omega)
    obtain ⟨m1, m2⟩ := nn32 (x := y) (by omega)
    have l3 : x.toBitVec.toNat ^^^ y.toBitVec.toNat < 2 ^ 10 := Nat.xor_lt_two_pow (by omega) (by omega)
    have e := of32 (x := x ^^^ y) (by omega)
    split
    · rename_i hd
      have l4 : x.toBitVec.toNat ^^^ y.toBitVec.toNat < 2 ^ 7 := Nat.xor_lt_two_pow (by omega) (by omega)
      exact ⟨by show 0 ≤ _; omega, by show _ ≤ 127; omega, Or.inl rfl⟩
    · exact ⟨by show 0 ≤ _; omega, by show _ ≤ 1023; omega, Or.inl rfl⟩
  · split
    · rename_i hc hq
      have hy : y = -1 := Int32.toInt_inj.mp (by rw [show Int32.toInt (-1) = -1 from by decide]; omega)
      subst hy
      have e1 : (x ^^^ -1).toBitVec = ~~~x.toBitVec := by
        rw [Int32.toBitVec_xor]
        show x.toBitVec ^^^ BitVec.allOnes 32 = _
        exact BitVec.xor_allOnes
      have e2 : (x ^^^ -1).toBitVec.toNat = 4294967295 - x.toBitVec.toNat := by rw [e1, BitVec.toNat_not]
      have hx := x.toBitVec.isLt
      have e3 : (x ^^^ -1).toInt = -1 - x.toInt := by
        by_cases h0 : 0 ≤ x.toInt
        · obtain ⟨n1, n2⟩ := nn32 h0
          by_cases h8 : (x ^^^ -1).toInt < 0
          · have := ng32 h8
            omega
          · have := nn32 (x := x ^^^ -1) (by omega)
            omega
        · have nx := ng32 (x := x) (by omega)
          rw [of32 (by omega)]
          omega
      rw [e3]
      exact ⟨by show -1 - p.2 ≤ _; omega, by show _ ≤ -1 - p.1; omega, Or.inl rfl⟩
    · exact gr_tp _
def t_shl (sy : Sy) (a b : Av) : Option Rs := ivs sy a b fun p q =>
  if 0 ≤ p.1 ∧ 0 ≤ q.1 ∧ q.2 ≤ 30 ∧ p.2 * ((2 ^ q.2.toNat : Nat) : Int) ≤ 2147483647 then .inr (p.1 * ((2 ^ q.1.toNat : Nat) : Int), p.2 * ((2 ^ q.2.toNat : Nat) : Int), 0, 0, 0) else .inr tp32
theorem t_shl_ok : tOK t_shl (fun x y => some (x <<< (y &&& 31))) := fun sy vs a b r x y wa wb h1 h2 h3 h4 h5 h6 => by
  obtain ⟨p, q, hk, i1, i2, i3, i4⟩ := ivs_inv h1 h2 h3 h4
  refine ⟨_, rfl, ?_⟩
  subst hk
  split
  · rename_i hc
    obtain ⟨c1, c2, c3, c4⟩ := hc
    obtain ⟨n1, n2⟩ := nn32 (x := x) (by omega)
    obtain ⟨m1, m2⟩ := nn32 (x := y) (by omega)
    have ey : (y &&& 31).toBitVec.toNat = y.toBitVec.toNat := by
      rw [Int32.toBitVec_and, BitVec.toNat_and]
      show y.toBitVec.toNat &&& 31 = _
      rw [show (31 : Nat) = 2 ^ 5 - 1 from rfl, Nat.and_two_pow_sub_one_eq_mod]
      exact Nat.mod_eq_of_lt (by omega)
    have es : ((y &&& 31).toBitVec.smod 32).toNat = y.toBitVec.toNat := by
      have hm : (y &&& 31).toBitVec.msb = false := by
        rw [BitVec.msb_eq_false_iff_two_mul_lt]
        omega
      rw [BitVec.smod_eq, hm]
      show (BitVec.umod _ _).toNat = _
      show ((y &&& 31).toBitVec % 32#32).toNat = _
      rw [BitVec.toNat_umod, ey]
      exact Nat.mod_eq_of_lt (by show _ < 32; omega)
    have le1 : 2 ^ y.toBitVec.toNat ≤ 2 ^ q.2.toNat := Nat.pow_le_pow_right (by decide) (by omega)
    have le2 : 2 ^ q.1.toNat ≤ 2 ^ y.toBitVec.toNat := Nat.pow_le_pow_right (by decide) (by omega)
    have up : (x.toBitVec.toNat : Int) * ((2 ^ y.toBitVec.toNat : Nat) : Int) ≤ p.2 * ((2 ^ q.2.toNat : Nat) : Int) := Int.mul_le_mul (by omega) (Int.ofNat_le.mpr le1) (Int.natCast_nonneg _) (by omega)
    have dn : p.1 * ((2 ^ q.1.toNat : Nat) : Int) ≤ (x.toBitVec.toNat : Int) * ((2 ^ y.toBitVec.toNat : Nat) : Int) := Int.mul_le_mul (by omega) (Int.ofNat_le.mpr le2) (Int.natCast_nonneg _) (by omega)
    have ez : (x <<< (y &&& 31)).toBitVec.toNat = x.toBitVec.toNat * 2 ^ y.toBitVec.toNat := by
      rw [Int32.toBitVec_shiftLeft, BitVec.shiftLeft_eq', BitVec.toNat_shiftLeft, es, Nat.shiftLeft_eq]
      refine Nat.mod_eq_of_lt ?_
      have : ((x.toBitVec.toNat * 2 ^ y.toBitVec.toNat : Nat) : Int) ≤ 2147483647 := by
        rw [Int.natCast_mul]
        omega
      have : x.toBitVec.toNat * 2 ^ y.toBitVec.toNat ≤ 2147483647 := Int.ofNat_le.mp this
      omega
    have ec : ((x.toBitVec.toNat * 2 ^ y.toBitVec.toNat : Nat) : Int) = (x.toBitVec.toNat : Int) * ((2 ^ y.toBitVec.toNat : Nat) : Int) := Int.natCast_mul _ _
    have e := of32 (x := x <<< (y &&& 31)) (by omega)
    rw [e, ez, ec]
    exact ⟨dn, up, Or.inl rfl⟩
  · exact gr_tp _
def t_shr (sy : Sy) (a b : Av) : Option Rs := ivs sy a b fun p q =>
  if 0 ≤ p.1 ∧ 0 ≤ q.1 ∧ q.1 = q.2 ∧ q.2 ≤ 31 then .inr (p.1 / ((2 ^ q.1.toNat : Nat) : Int), p.2 / ((2 ^ q.1.toNat : Nat) : Int), 0, 0, 0) else .inr tp32
theorem t_shr_ok : tOK t_shr (fun x y => some (x >>> (y &&& 31))) := fun sy vs a b r x y wa wb h1 h2 h3 h4 h5 h6 => by
  obtain ⟨p, q, hk, i1, i2, i3, i4⟩ := ivs_inv h1 h2 h3 h4
  refine ⟨_, rfl, ?_⟩
  subst hk
  split
  · rename_i hc
    obtain ⟨c1, c2, c3, c4⟩ := hc
    obtain ⟨n1, n2⟩ := nn32 (x := x) (by omega)
    obtain ⟨m1, m2⟩ := nn32 (x := y) (by omega)
    have ey : (y &&& 31).toBitVec.toNat = y.toBitVec.toNat := by
      rw [Int32.toBitVec_and, BitVec.toNat_and]
      show y.toBitVec.toNat &&& 31 = _
      rw [show (31 : Nat) = 2 ^ 5 - 1 from rfl, Nat.and_two_pow_sub_one_eq_mod]
      exact Nat.mod_eq_of_lt (by omega)
    have es : ((y &&& 31).toBitVec.smod 32).toNat = y.toBitVec.toNat := by
      have hm : (y &&& 31).toBitVec.msb = false := by
        rw [BitVec.msb_eq_false_iff_two_mul_lt]
        omega
      rw [BitVec.smod_eq, hm]
      show (BitVec.umod _ _).toNat = _
      show ((y &&& 31).toBitVec % 32#32).toNat = _
      rw [BitVec.toNat_umod, ey]
      exact Nat.mod_eq_of_lt (by show _ < 32; omega)
    have hmx : x.toBitVec.msb = false := by
      rw [BitVec.msb_eq_false_iff_two_mul_lt]
      omega
    have ez : (x >>> (y &&& 31)).toBitVec.toNat = x.toBitVec.toNat / 2 ^ y.toBitVec.toNat := by
      rw [Int32.toBitVec_shiftRight, BitVec.sshiftRight_eq', es, BitVec.sshiftRight_eq_of_msb_false hmx, BitVec.toNat_ushiftRight, Nat.shiftRight_eq_div_pow]
    have hq : q.1.toNat = y.toBitVec.toNat := by omega
    have hle : x.toBitVec.toNat / 2 ^ y.toBitVec.toNat ≤ x.toBitVec.toNat := Nat.div_le_self _ _
    have e := of32 (x := x >>> (y &&& 31)) (by omega)
    rw [e, ez, hq, Int.natCast_ediv]
    have hp : (0 : Int) < ((2 ^ y.toBitVec.toNat : Nat) : Int) := by exact Int.natCast_pos.mpr (Nat.two_pow_pos _)
    exact ⟨Int.ediv_le_ediv hp (by omega), Int.ediv_le_ediv hp (by omega), Or.inl rfl⟩
  · exact gr_tp _
def nz (q : Int × Int) : Bool := decide (0 < q.1) || decide (q.2 < 0)
def t_div (sy : Sy) (a b : Av) : Option Rs := match iv sy a.2.1 a.2.2, iv sy b.2.1 b.2.2 with
  | some p, some q => if nz q = true then (if 0 ≤ p.1 ∧ 0 < q.1 ∧ q.1 = q.2 then some (.inr (p.1 / q.1, p.2 / q.1, 0, 0, 0)) else some (.inr tp32)) else none
  | _, _ => none
theorem ne0 {y : Int32} {q : Int × Int} (h : nz q = true) (h1 : q.1 ≤ y.toInt) (h2 : y.toInt ≤ q.2) : ¬ y = 0 := by
  intro e
  subst e
  have e0 : Int32.toInt 0 = 0 := Int32.toInt_zero
  rw [e0] at h1 h2
  simp only [nz, Bool.or_eq_true, decide_eq_true_eq] at h
  omega
theorem ne0L {y : Int64} {q : Int × Int} (h : nz q = true) (h1 : q.1 ≤ y.toInt) (h2 : y.toInt ≤ q.2) : ¬ y = 0 := by
  intro e
  subst e
  have e0 : Int64.toInt 0 = 0 := Int64.toInt_zero
  rw [e0] at h1 h2
  simp only [nz, Bool.or_eq_true, decide_eq_true_eq] at h
  omega
theorem dv32 {x y : Int32} (h1 : 0 ≤ x.toInt) (h2 : 0 < y.toInt) : (x / y).toInt = x.toInt / y.toInt := by
  rw [Int32.toInt_div, Int.tdiv_eq_ediv_of_nonneg h1]
  have := r32 x
  have l : x.toInt / y.toInt ≤ x.toInt := Int.ediv_le_self _ h1
  have g : 0 ≤ x.toInt / y.toInt := Int.ediv_nonneg h1 (by omega)
  exact bm32 (by omega) (by omega)
theorem t_div_ok : tOK t_div (fun x y => if y = 0 then none else some (x / y)) := fun sy vs a b r x y wa wb h1 h2 h3 h4 h5 h6 => by
  unfold t_div at h2
  split at h2
  · rename_i p q hp hq
    have a1 := iv_ok h1 hp h3
    have a2 := iv_ok h1 hq h4
    rw [← h5] at a1
    rw [← h6] at a2
    split at h2
    · rename_i hn
      have n0 := ne0 hn a2.1 a2.2
      refine ⟨x / y, if_neg n0, ?_⟩
      split at h2
      · rename_i hc
        obtain ⟨c1, c2, c3⟩ := hc
        cases h2
        have ey : y.toInt = q.1 := by omega
        rw [dv32 (by omega) (by omega), ey]
        exact ⟨Int.ediv_le_ediv (by omega) a1.1, Int.ediv_le_ediv (by omega) a1.2, Or.inl rfl⟩
      · cases h2
        exact gr_tp _
    · cases h2
  · cases h2
def t_rem (sy : Sy) (a b : Av) : Option Rs := match iv sy a.2.1 a.2.2, iv sy b.2.1 b.2.2 with
  | some p, some q => if nz q = true then (if 0 ≤ p.1 ∧ 0 < q.1 ∧ q.1 = q.2 then some (.inr (0, q.1 - 1, 0, 0, 0)) else some (.inr tp32)) else none
  | _, _ => none
theorem t_rem_ok : tOK t_rem (fun x y => if y = 0 then none else some (x - x / y * y)) := fun sy vs a b r x y wa wb h1 h2 h3 h4 h5 h6 => by
  unfold t_rem at h2
  split at h2
  · rename_i p q hp hq
    have a1 := iv_ok h1 hp h3
    have a2 := iv_ok h1 hq h4
    rw [← h5] at a1
    rw [← h6] at a2
    split at h2
    · rename_i hn
      have n0 := ne0 hn a2.1 a2.2
      refine ⟨_, if_neg n0, ?_⟩
      split at h2
      · rename_i hc
        obtain ⟨c1, c2, c3⟩ := hc
        cases h2
        have ey : y.toInt = q.1 := by omega
        have r := r32 x
        have e1 := dv32 (x := x) (y := y) (by omega) (by omega)
        have m1 : 0 ≤ x.toInt / y.toInt := Int.ediv_nonneg (by omega) (by omega)
        have m2 : x.toInt / y.toInt * y.toInt ≤ x.toInt := Int.ediv_mul_le _ (by omega)
        have m3 : 0 ≤ x.toInt / y.toInt * y.toInt := Int.mul_nonneg m1 (by omega)
        have e2 : (x / y * y).toInt = x.toInt / y.toInt * y.toInt := by rw [Int32.toInt_mul, e1]; exact bm32 (by omega) (by omega)
        have e3 : (x - x / y * y).toInt = x.toInt - x.toInt / y.toInt * y.toInt := by rw [Int32.toInt_sub, e2]; exact bm32 (by omega) (by omega)
        have m4 : x.toInt % y.toInt < y.toInt := Int.emod_lt_of_pos _ (by omega)
        have m5 : x.toInt % y.toInt = x.toInt - x.toInt / y.toInt * y.toInt := by rw [Int.emod_def, Int.mul_comm]
        rw [e3]
        exact ⟨by show 0 ≤ _; omega, by show _ ≤ q.1 - 1; omega, Or.inl rfl⟩
      · cases h2
        exact gr_tp _
    · cases h2
  · cases h2
