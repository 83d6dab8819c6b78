/-! calls by what is promised of the method called -/
abbrev Cx : Type := Nat × Nat × Nat × Md × Cu × List Cu
def ctg (a : Av) : Nat := if a.1 = 1 then 2 else 1
def lvA : Nat → List Av → List (Nat × Av)
  | _, [] => []
  | i, a :: t => (i, a) :: lvA (i + ctg a) t
def mav (m : List (Nat × Int)) (g N : Nat) (a : Av) : Option Av := if a.1 < 2 then (if a.2.1 < g then (match m[a.2.1]? with
    | some q => some (a.1, q.1, q.2 + a.2.2)
    | none => none) else some (a.1, N + (a.2.1 - g), a.2.2)) else some a
def mse (m : List (Nat × Int)) (g N : Nat) (e : Se) : Option Se := match e.2.2.1 with
  | 0 => some e
  | b + 1 => if b < g then (match m[b]? with
    | some q => some (e.1, e.2.1, q.1 + 1, e.2.2.2.1 + q.2, e.2.2.2.2 + q.2)
    | none => none) else some (e.1, e.2.1, N + (b - g) + 1, e.2.2.2.1, e.2.2.2.2)
def mpO {α β : Type} (f : α → Option β) : List α → Option (List β)
  | [] => some []
  | a :: t => match f a, mpO f t with
    | some b, some u => some (b :: u)
    | _, _ => none
theorem mpO_ix {α β : Type} {f : α → Option β} : ∀ {l : List α} {r : List β}, mpO f l = some r → r.length = l.length ∧ ∀ (i : Nat) (b : β), r[i]? = some b → ∃ a, l[i]? = some a ∧ f a = some b
  | [], r, h => by
    cases h
    exact ⟨rfl, fun i b h => by cases i <;> cases h⟩
  | a :: t, r, h => by
    unfold mpO at h
    split at h
    · rename_i b0 u h1 h2
      cases h
      obtain ⟨r1, r2⟩ := mpO_ix h2
      refine ⟨by simp [r1], fun i b hb => ?_⟩
      cases i with
      | zero => cases hb; exact ⟨a, rfl, h1⟩
      | succ i => obtain ⟨a', q1, q2⟩ := r2 i b (by simpa using hb); exact ⟨a', by simpa using q1, q2⟩
    · cases h
theorem mpO_mem {α β : Type} {f : α → Option β} {l : List α} {r : List β} {b : β} (h : mpO f l = some r) (hb : b ∈ r) : ∃ a ∈ l, f a = some b := by
  obtain ⟨i, hi⟩ := List.mem_iff_getElem?.mp hb
  obtain ⟨a, h1, h2⟩ := (mpO_ix h).2 i b hi
  exact ⟨a, List.mem_of_getElem? h1, h2⟩
def rfG : Sy → List (Nat × Int) → Sy → Option Sy
  | sy, q :: qs, e :: es => match rlo sy q.1 (e.1 - q.2) with
    | none => none
    | some s1 => match rhi s1 q.1 (e.2.1 - q.2) with
      | none => none
      | some s2 => rfG s2 qs es
  | sy, _, _ => some sy
def rfR (m : List (Nat × Int)) : Sy → List (Nat × Int) → Sy → Option Sy
  | sy, q :: qs, e :: es => (match e.2.2.1 with
    | 0 => rfR m sy qs es
    | b + 1 => match m[b]? with
      | none => rfR m sy qs es
      | some r => match rre sy q.1 r.1 q.2 (r.2 + e.2.2.2.2) with
        | none => none
        | some s1 => match rre s1 r.1 q.1 (r.2 + e.2.2.2.1) q.2 with
          | none => none
          | some s2 => rfR m s2 qs es)
  | sy, _, _ => some sy
def covF (md : Md) (c j : Nat) : Bool := md.any fun m => m.1 == c && (decide (4294967295 ≤ j) || (decide (m.2.1 ≤ j) && decide (j < m.2.2)))
def covB (md : Md) (c j : Nat) : Bool := md.any fun m => m.1 == c && decide (m.2.1 ≤ j) && decide (j < m.2.2)
def mdS (md md' : Md) : Bool := md'.all fun e => md.any fun f => f.1 == e.1 && decide (f.2.1 ≤ e.2.1) && decide (e.2.2 ≤ f.2.2)
/-- the key of a slot of an end, seen from the caller -/
def kyE (m : List (Nat × Int)) (g N j : Nat) : Option Nat := if j < 4294967296 then some j else if j - 4294967296 < g then (match m[j - 4294967296]? with
    | some r => if r.2 = 0 then some (4294967296 + r.1) else none
    | none => none) else some (4294967296 + (N + (j - 4294967296 - g)))
def aft (A : Ab) (st : List Av) (nx : Nat) (m : List (Nat × Int)) (g : Nat) (md' : Md) (E : Cu) : Option (List Ab) := match rfG A.2.2.2.1 m (E.1.2.2.2.1.take g) with
  | none => some []
  | some sy0 => match rfR m sy0 m (E.1.2.2.2.1.take g) with
  | none => some []
  | some sy1 => match mpO (mse m g A.2.2.2.1.length) (E.1.2.2.2.1.drop g), mpO (mav m g A.2.2.2.1.length) E.1.2.2.1, mpO (fun q => match mav m g A.2.2.2.1.length q.2.2, kyE m g A.2.2.2.1.length q.2.1 with
      | some a, some j => some (q.1, j, a)
      | _, _ => none) E.1.2.2.2.2 with
    | some es, some rs, some fs => some [(nx, A.2.1, rs ++ st, sy1 ++ es, fs ++ A.2.2.2.2.filter (fun q => !covF md' q.1 q.2.1))]
    | _, _, _ => none
def afts (A : Ab) (st : List Av) (nx : Nat) (m : List (Nat × Int)) (g : Nat) (md' : Md) : List Cu → Option (List Ab)
  | [] => some []
  | E :: t => match aft A st nx m g md' E, afts A st nx m g md' t with
    | some l, some r => some (l ++ r)
    | _, _ => none
def sumA (l : List Av) : Nat := match l with
  | [] => 0
  | a :: t => ctg a + sumA t
def fcall (RG : Nat → List Nat) (md : Md) (lv k nx : Nat) (A : Ab) (args st : List Av) : List Cx → Option (List Ab)
  | [] => none
  | cx :: t => if cx.1 = k ∧ cx.2.1 < lv ∧ cx.2.2.1 = sumA args ∧ mdS md cx.2.2.2.1 = true then (match mpC (0, lvA 0 args, [], A.2.2.2) cx.2.2.2.2.1 with
      | some m => if entM RG (0, lvA 0 args, [], A.2.2.2) cx.2.2.2.2.1 m = true then afts A st nx m cx.2.2.2.2.1.1.2.2.2.1.length cx.2.2.2.1 cx.2.2.2.2.2 else fcall RG md lv k nx A args st t
      | none => fcall RG md lv k nx A args st t) else fcall RG md lv k nx A args st t
def recv (HT : Nat → Hk) (KC : Nat → Option Nat) (k kind : Nat) (args : List Av) : Bool := match kind with
  | 0 => true
  | _ => match args with
    | a :: _ => a.1 == 2 && (HT a.2.1).1 == 0 && (match KC k with
      | some ci => ci == (HT a.2.1).2.1
      | none => false)
    | [] => false
def callA (HT : Nat → Hk) (RG : Nat → List Nat) (KC : Nat → Option Nat) (md : Md) (lv : Nat) (cs : List Cx) (k np kind nx : Nat) (A : Ab) : Option (List Ab) :=
  if np + kind ≤ A.2.2.1.length ∧ sumA (A.2.2.1.drop (np + kind)) ≤ 8 ∧ recv HT KC k kind (A.2.2.1.take (np + kind)).reverse = true then fcall RG md lv k nx A (A.2.2.1.take (np + kind)).reverse (A.2.2.1.drop (np + kind)) cs else none
section Call
variable {HT : Nat → Hk} {RG : Nat → List Nat} {n : Nat} {md : Md} {h0 : Ph} {vs : List Int} {A : Ab} {cf : Cf}
theorem rfG_ok : ∀ {qs : List (Nat × Int)} {es : Sy} {sy : Sy}, gs sy vs → (∀ (i : Nat) (q : Nat × Int) (e : Se), qs[i]? = some q → es[i]? = some e → ∃ w, vs[q.1]? = some w ∧ e.1 ≤ w + q.2 ∧ w + q.2 ≤ e.2.1) → ∃ sy', rfG sy qs es = some sy' ∧ gs sy' vs
  | [], es, sy, g, _ => ⟨sy, by unfold rfG; rfl, g⟩
  | q :: qs, [], sy, g, _ => ⟨sy, by unfold rfG; rfl, g⟩
  | q :: qs, e :: es, sy, g, h => by
    obtain ⟨w, h1, h2, h3⟩ := h 0 q e rfl rfl
    obtain ⟨s1, e1, g1⟩ := rlo_ok (h := e.1 - q.2) g h1 (by omega)
    obtain ⟨s2, e2, g2⟩ := rhi_ok (h := e.2.1 - q.2) g1 h1 (by omega)
    obtain ⟨s3, e3, g3⟩ := rfG_ok (qs := qs) (es := es) g2 (fun i q' e' a b => h (i + 1) q' e' (by simpa using a) (by simpa using b))
    refine ⟨s3, ?_, g3⟩
    unfold rfG
    rw [e1]
    dsimp only
    rw [e2]
    exact e3
theorem rfR_ok {m : List (Nat × Int)} : ∀ {qs : List (Nat × Int)} {es : Sy} {sy : Sy}, gs sy vs → (∀ (i : Nat) (q : Nat × Int) (e : Se), qs[i]? = some q → es[i]? = some e → ∃ w, vs[q.1]? = some w ∧ ∀ b r, e.2.2.1 = b + 1 → m[b]? = some r → ∃ z, vs[r.1]? = some z ∧ z + r.2 + e.2.2.2.1 ≤ w + q.2 ∧ w + q.2 ≤ z + r.2 + e.2.2.2.2) → ∃ sy', rfR m sy qs es = some sy' ∧ gs sy' vs
  | [], es, sy, g, _ => ⟨sy, by unfold rfR; rfl, g⟩
  | q :: qs, [], sy, g, _ => ⟨sy, by unfold rfR; rfl, g⟩
  | q :: qs, e :: es, sy, g, h => by
    obtain ⟨w, h1, h2⟩ := h 0 q e rfl rfl
    have ih : ∀ s0, gs s0 vs → ∃ sy', rfR m s0 qs es = some sy' ∧ gs sy' vs := fun s0 g0 => rfR_ok g0 (fun i q' e' a b => h (i + 1) q' e' (by simpa using a) (by simpa using b))
    unfold rfR
    split
    · exact ih sy g
    · rename_i b hb
      split
      · exact ih sy g
      · rename_i r hr
        obtain ⟨z, z1, z2, z3⟩ := h2 b r hb hr
        obtain ⟨s1, e1, g1⟩ := rre_ok (c := q.2) (d := r.2 + e.2.2.2.2) g h1 z1 (by omega)
        rw [e1]
        dsimp only
        obtain ⟨s2, e2, g2⟩ := rre_ok (c := r.2 + e.2.2.2.1) (d := q.2) g1 z1 h1 (by omega)
        rw [e2]
        exact ih s2 g2
theorem gs_apps {sy es : Sy} {ws : List Int} (g : gs sy vs) (hl : es.length = ws.length) (h : ∀ (i : Nat) (e : Se) (w : Int), es[i]? = some e → ws[i]? = some w → ge (vs ++ ws) e w) : gs (sy ++ es) (vs ++ ws) := by
  obtain ⟨h1, h2, h3⟩ := g
  refine ⟨by simp [h1, hl], ix_app h2, fun s e w q1 q2 => ?_⟩
  by_cases hs : s < vs.length
  · rw [List.getElem?_append_left (by omega)] at q1
    rw [List.getElem?_append_left hs] at q2
    exact ge_app _ (h3 s e w q1 q2)
  · rw [List.getElem?_append_right (by omega)] at q1
    rw [List.getElem?_append_right (by omega)] at q2
    rw [h1] at q1
    exact h _ e w q1 q2
theorem covB_ok {c j : Nat} (h : covB md c j = false) : ¬ cov md c j := by
  intro ⟨m, hm, h1, h2, h3⟩
  have : covB md c j = true := List.any_eq_true.mpr ⟨m, hm, by simp [h1, h2, h3]⟩
  rw [h] at this
  cases this
theorem covF_ok {c j i : Nat} (h : covF md c j = false) (hi : sIx vs j i) : ¬ cov md c i := by
  intro ⟨m, hm, h1, h2, h3⟩
  have : covF md c j = true := List.any_eq_true.mpr ⟨m, hm, by
    rcases hi with ⟨q1, rfl⟩ | ⟨q1, -⟩
    · simp [h1, h2, h3]
    · simp [h1, show 4294967295 ≤ j from by omega]⟩
  rw [h] at this
  cases this
theorem covF_slots {c : Nat} {h h' : Ph} (hf : fr md h h') (hc : covF md c 4294967295 = false) : ∀ j, pm_slot (h' c) j = pm_slot (h c) j := by
  intro j
  apply hf c j
  intro ⟨m, hm, h1, h2, h3⟩
  have : covF md c 4294967295 = true := List.any_eq_true.mpr ⟨m, hm, by simp [h1]⟩
  rw [hc] at this
  cases this
theorem mdS_ok {md' : Md} {c j : Nat} (h : mdS md md' = true) (hc : cov md' c j) : cov md c j := by
  obtain ⟨e, he, h1, h2, h3⟩ := hc
  obtain ⟨f, hf, h4⟩ := List.any_eq_true.mp (List.all_eq_true.mp h e he)
  simp only [Bool.and_eq_true, beq_iff_eq, decide_eq_true_eq] at h4
  exact ⟨f, hf, by omega, by omega, by omega⟩
theorem fr_trans {md' : Md} {h1 h2 : Ph} (hs : mdS md md' = true) (a : fr md h0 h1) (b : fr md' h1 h2) : fr md h0 h2 := fun c j hc => by
  rw [← a c j hc]
  exact b c j (fun q => hc (mdS_ok hs q))
/-- the symbols of an end, seen from the caller -/
theorem sm_ix {m : List (Nat × Int)} {vsE : List Int} {N : Nat} (hN : N = vs.length) (hm : ∀ q ∈ m, ∃ w, vs[q.1]? = some w) (hp : ∃ ws, vsE = m.map (ev vs) ++ ws) {s : Nat} {w : Int} (hs : vsE[s]? = some w) : (s < m.length → ∃ q w', m[s]? = some q ∧ (vs ++ vsE.drop m.length)[q.1]? = some w' ∧ w = w' + q.2) ∧ (m.length ≤ s → (vs ++ vsE.drop m.length)[N + (s - m.length)]? = some w) := by
  obtain ⟨ws, rfl⟩ := hp
  refine ⟨fun h => ?_, fun h => ?_⟩
  · have hq := List.getElem?_eq_getElem h
    obtain ⟨w', hw'⟩ := hm _ (List.mem_of_getElem? hq)
    refine ⟨m[s], w', hq, ix_app hw', ?_⟩
    rw [List.getElem?_append_left (by simpa using h), ev_ix hq] at hs
    cases hs
    exact ev_eq hw'
  · subst hN
    rw [List.getElem?_append_right (by omega), Nat.add_sub_cancel_left, List.getElem?_drop, show m.length + (s - m.length) = s from by omega]
    exact hs
theorem mav_z {m : List (Nat × Int)} {vsE : List Int} {N : Nat} {a a' : Av} (hN : N = vs.length) (hm : ∀ q ∈ m, ∃ w, vs[q.1]? = some w) (hp : ∃ ws, vsE = m.map (ev vs) ++ ws) (ha : a.1 < 2) (h : mav m m.length N a = some a') : ∀ z : Int, (∃ w, vsE[a.2.1]? = some w ∧ z = w + a.2.2) → a'.1 = a.1 ∧ ∃ w, (vs ++ vsE.drop m.length)[a'.2.1]? = some w ∧ z = w + a'.2.2 := by
  intro z ⟨w, hw, hz⟩
  unfold mav at h
  rw [if_pos ha] at h
  obtain ⟨k1, k2⟩ := sm_ix hN hm hp hw
  split at h
  · rename_i hg
    obtain ⟨q, w', q1, q2, q3⟩ := k1 hg
    rw [q1] at h
    cases h
    refine ⟨rfl, w', q2, ?_⟩
    show z = w' + (q.2 + a.2.2)
    omega
  · rename_i hg
    cases h
    exact ⟨rfl, w, k2 (by omega), hz⟩
theorem mav_ok {m : List (Nat × Int)} {vsE : List Int} {N : Nat} {a a' : Av} {v : Value} (hN : N = vs.length) (hm : ∀ q ∈ m, ∃ w, vs[q.1]? = some w) (hp : ∃ ws, vsE = m.map (ev vs) ++ ws) (g : gv RG vsE a v) (h : mav m m.length N a = some a') : gv RG (vs ++ vsE.drop m.length) a' v := by
  unfold mav at h
  split at h
  · rename_i ha
    have key : ∀ z : Int, (∃ w, vsE[a.2.1]? = some w ∧ z = w + a.2.2) → a'.1 = a.1 ∧ ∃ w, (vs ++ vsE.drop m.length)[a'.2.1]? = some w ∧ z = w + a'.2.2 := by
      intro z ⟨w, hw, hz⟩
      obtain ⟨k1, k2⟩ := sm_ix hN hm hp hw
      split at h
      · rename_i hg
        obtain ⟨q, w', q1, q2, q3⟩ := k1 hg
        rw [q1] at h
        cases h
        refine ⟨rfl, w', q2, ?_⟩
        show z = w' + (q.2 + a.2.2)
        omega
      · rename_i hg
        cases h
        exact ⟨rfl, w, k2 (by omega), hz⟩
    cases v with
    | int x =>
      obtain ⟨g1, g2⟩ := g
      obtain ⟨k1, k2⟩ := key _ g2
      exact ⟨k1.trans g1, k2⟩
    | long x =>
      obtain ⟨g1, g2⟩ := g
      obtain ⟨k1, k2⟩ := key _ g2
      exact ⟨k1.trans g1, k2⟩
    | ref k => rcases g with g | g <;> omega
    | _ => exact False.elim g
  · rename_i ha
    cases h
    cases v with
    | int x => obtain ⟨g1, -⟩ := g; omega
    | long x => obtain ⟨g1, -⟩ := g; omega
    | ref k => exact g
    | _ => exact False.elim g
theorem kyE_ok {m : List (Nat × Int)} {vsE : List Int} {N j j' i : Nat} (hN : N = vs.length) (hm : ∀ q ∈ m, ∃ w, vs[q.1]? = some w) (hp : ∃ ws, vsE = m.map (ev vs) ++ ws) (g : sIx vsE j i) (h : kyE m m.length N j = some j') : sIx (vs ++ vsE.drop m.length) j' i ∧ (j' = 4294967295 → j = 4294967295) := by
  unfold kyE at h
  split at h
  · cases h
    rcases g with g | ⟨g, -⟩
    · exact ⟨Or.inl g, id⟩
    · omega
  · rename_i hj
    rcases g with ⟨g, -⟩ | ⟨g, g2⟩
    · omega
    · obtain ⟨k1, k2⟩ := sm_ix hN hm hp g2
      split at h
      · rename_i hg
        obtain ⟨q, w', q1, q2, q3⟩ := k1 hg
        rw [q1] at h
        dsimp only at h
        split at h
        · rename_i h0
          cases h
          refine ⟨Or.inr ⟨by omega, ?_⟩, fun e => by omega⟩
          rw [Nat.add_sub_cancel_left, q2]
          congr 1
          omega
        · cases h
      · rename_i hg
        cases h
        refine ⟨Or.inr ⟨by omega, ?_⟩, fun e => by omega⟩
        rw [Nat.add_sub_cancel_left]
        exact k2 (by omega)
theorem mse_ok {m : List (Nat × Int)} {vsE : List Int} {N : Nat} {e e' : Se} {w : Int} (hN : N = vs.length) (hm : ∀ q ∈ m, ∃ w, vs[q.1]? = some w) (hp : ∃ ws, vsE = m.map (ev vs) ++ ws) (g : ge vsE e w) (h : mse m m.length N e = some e') : ge (vs ++ vsE.drop m.length) e' w := by
  obtain ⟨g1, g2, g3⟩ := g
  unfold mse at h
  split at h
  · rename_i hb
    cases h
    exact ⟨g1, g2, Or.inl hb⟩
  · rename_i b hb
    rw [hb] at g3
    rcases g3 with g3 | ⟨z, g3, g4, g5⟩
    · cases g3
    · have g3 : vsE[b]? = some z := g3
      obtain ⟨k1, k2⟩ := sm_ix hN hm hp g3
      split at h
      · rename_i hg
        obtain ⟨q, w', q1, q2, q3⟩ := k1 hg
        rw [q1] at h
        cases h
        refine ⟨g1, g2, Or.inr ⟨w', q2, ?_, ?_⟩⟩
        · show w' + (e.2.2.2.1 + q.2) ≤ w
          omega
        · show w ≤ w' + (e.2.2.2.2 + q.2)
          omega
      · rename_i hg
        cases h
        exact ⟨g1, g2, Or.inr ⟨z, k2 (by omega), g4, g5⟩⟩
theorem mpO_gst {m : List (Nat × Int)} {vsE : List Int} {N : Nat} (hN : N = vs.length) (hm : ∀ q ∈ m, ∃ w, vs[q.1]? = some w) (hp : ∃ ws, vsE = m.map (ev vs) ++ ws) : ∀ {st rs st2 : List Av} {sv sv2 : List Value}, gst RG vsE st sv → mpO (mav m m.length N) st = some rs → gst RG (vs ++ vsE.drop m.length) st2 sv2 → gst RG (vs ++ vsE.drop m.length) (rs ++ st2) (sv ++ sv2)
  | [], rs, st2, [], sv2, _, h, g2 => by cases h; exact g2
  | [], _, _, _ :: _, _, g, _, _ => False.elim g
  | _ :: _, _, _, [], _, g, _, _ => False.elim g
  | a :: t, rs, st2, v :: us, sv2, g, h, g2 => by
    unfold mpO at h
    split at h
    · rename_i b u h1 h2
      cases h
      exact ⟨mav_ok hN hm hp g.1 h1, mpO_gst hN hm hp g.2 h2 g2⟩
    · cases h
theorem aft_ok {st : List Av} {sv : List Value} {nx : Nat} {m : List (Nat × Int)} {md' : Md} {E : Cu} {Bs : List Ab} {vsE : List Int} {h' : Ph} {r : List Value} (g : ga HT RG n md h0 vs A cf) (hst : gst RG vs st sv) (hm : ∀ q ∈ m, ∃ w, vs[q.1]? = some w) (hp : ∃ ws, vsE = m.map (ev vs) ++ ws) (hS : mdS md md' = true) (gE : ga HT RG n md' cf.2.2.2 vsE E.1 (E.1.1, [], r, h')) (h : aft A st nx m m.length md' E = some Bs) : ∃ B ∈ Bs, ∃ ws, ga HT RG n md h0 (vs ++ ws) B (nx, cf.2.1, r ++ sv, h') := by
  obtain ⟨g0, g1, g2, g3, g4, g5, g6⟩ := g
  obtain ⟨-, -, k2, k3, k4, k5, k6⟩ := gE
  have hN : A.2.2.2.1.length = vs.length := g3.1
  have hvl : m.length ≤ vsE.length := by
    obtain ⟨ws, rfl⟩ := hp
    simp
  unfold aft at h
  obtain ⟨sy1, e1, q1⟩ := rfG_ok (qs := m) (es := E.1.2.2.2.1.take m.length) g3 (by
    intro i q e hq he
    have hi : i < m.length := (List.getElem?_eq_some_iff.mp hq).1
    rw [List.getElem?_take_of_lt hi] at he
    obtain ⟨w', hw'⟩ := hm q (List.mem_of_getElem? hq)
    have hv : vsE[i]? = some (ev vs q) := by
      obtain ⟨ws, rfl⟩ := hp
      exact ix_app (ev_ix hq)
    have := k3.2.2 i e _ he hv
    rw [ev_eq hw'] at this
    exact ⟨w', hw', this.1, this.2.1⟩)
  rw [e1] at h
  dsimp only at h
  obtain ⟨sy2, e2, q2⟩ := rfR_ok (m := m) (qs := m) (es := E.1.2.2.2.1.take m.length) q1 (by
    intro i q e hq he
    have hi : i < m.length := (List.getElem?_eq_some_iff.mp hq).1
    rw [List.getElem?_take_of_lt hi] at he
    obtain ⟨w', hw'⟩ := hm q (List.mem_of_getElem? hq)
    have hv : vsE[i]? = some (ev vs q) := by
      obtain ⟨ws, rfl⟩ := hp
      exact ix_app (ev_ix hq)
    have := k3.2.2 i e _ he hv
    rw [ev_eq hw'] at this
    refine ⟨w', hw', fun b r hb hr => ?_⟩
    obtain ⟨z, hz⟩ := hm r (List.mem_of_getElem? hr)
    rcases this.2.2 with h8 | ⟨z', h8, h9, h10⟩
    · rw [hb] at h8; cases h8
    · rw [hb] at h8
      have h8 : vsE[b]? = some z' := h8
      have hv2 : vsE[b]? = some (ev vs r) := by
        obtain ⟨ws, rfl⟩ := hp
        exact ix_app (ev_ix hr)
      rw [hv2, ev_eq hz] at h8
      have := Option.some.inj h8
      exact ⟨z, hz, by omega, by omega⟩)
  rw [e2] at h
  dsimp only at h
  clear q1
  have q1 := q2
  split at h
  · rename_i es rs fs h1 h2 h3
    cases h
    refine ⟨_, List.mem_cons_self, vsE.drop m.length, rfl, gl_app _ g1, mpO_gst hN hm hp k2 h2 (gst_app _ hst), ?_, ?_, k5, fr_trans hS g6 k6⟩
    · obtain ⟨l1, l2⟩ := mpO_ix h1
      refine gs_apps q1 (by rw [l1, List.length_drop, List.length_drop, k3.1]) (fun i e w he hw => ?_)
      obtain ⟨e0, q2, q3⟩ := l2 i e he
      rw [List.getElem?_drop] at q2 hw
      exact mse_ok hN hm hp (k3.2.2 _ e0 w q2 hw) q3
    · intro q hq
      rcases List.mem_append.mp hq with hq | hq
      · obtain ⟨q0, z1, z2⟩ := mpO_mem h3 hq
        split at z2
        · rename_i a j ha hj
          cases z2
          rcases k4 q0 z1 with ⟨x1, x2, x3⟩ | ⟨x1, i, v, y0, y1, y2⟩
          · obtain ⟨x6, x7, x8⟩ := x3
            obtain ⟨x4, x5, x9, x10⟩ := mav_z hN hm hp (by omega) ha _ ⟨x6, x7, rfl⟩
            have hj1 : j = 4294967295 := by
              unfold kyE at hj
              rw [x1] at hj
              cases hj
              rfl
            exact Or.inl ⟨hj1, by rw [x4, x2], x5, x9, by rw [← x10]; exact x8⟩
          · obtain ⟨o1, o2⟩ := kyE_ok hN hm hp y0 hj
            exact Or.inr ⟨fun e => x1 (o2 e), i, v, o1, y1, mav_ok hN hm hp y2 ha⟩
        · cases z2
      · obtain ⟨z1, z2⟩ := List.mem_filter.mp hq
        have z2 : covF md' q.1 q.2.1 = false := by simpa using z2
        rcases g4 q z1 with ⟨x1, x2, w, x3, x4⟩ | ⟨x1, i, v, y0, y1, y2⟩
        · rw [x1] at z2
          exact Or.inl ⟨x1, x2, w, ix_app x3, smP_eq (covF_slots k6 z2) x4⟩
        · refine Or.inr ⟨x1, i, v, sIx_app _ y0, ?_, gv_app _ y2⟩
          rw [← y1]
          exact k6 q.1 i (covF_ok z2 y0)
  · cases h
theorem afts_mem {st : List Av} {nx g : Nat} {m : List (Nat × Int)} {md' : Md} {E : Cu} : ∀ {Es : List Cu} {Bs : List Ab}, afts A st nx m g md' Es = some Bs → E ∈ Es → ∃ l, aft A st nx m g md' E = some l ∧ ∀ B ∈ l, B ∈ Bs
  | [], _, _, hE => by cases hE
  | E0 :: t, Bs, h, hE => by
    unfold afts at h
    split at h
    · rename_i l r h1 h2
      cases h
      rcases List.mem_cons.mp hE with rfl | hE
      · exact ⟨l, h1, fun B hB => List.mem_append_left _ hB⟩
      · obtain ⟨l', q1, q2⟩ := afts_mem h2 hE
        exact ⟨l', q1, fun B hB => List.mem_append_right _ (q2 B hB)⟩
    · cases h
theorem gl_args : ∀ {args : List Av} {av : List Value} (i : Nat), gst RG vs args av → (∀ q ∈ lvA i args, i ≤ q.1 ∧ ∃ v, pm_g (lv_args i av) q.1 = some v ∧ gv RG vs q.2 v) ∧ (lg_sl av).length = sumA args
  | [], [], i, _ => ⟨fun q hq => (by cases hq), rfl⟩
  | [], _ :: _, _, g => False.elim g
  | _ :: _, [], _, g => False.elim g
  | a :: t, v :: us, i, g => by
    have hc : v.category = ctg a := gv_catv g.1
    obtain ⟨k1, k2⟩ := gl_args (i + ctg a) g.2
    have hpos : 0 < ctg a := by unfold ctg; split <;> omega
    refine ⟨fun q hq => ?_, ?_⟩
    · rcases List.mem_cons.mp hq with rfl | hq
      · refine ⟨Nat.le_refl _, v, ?_, g.1⟩
        simp [pm_g, lv_args]
      · obtain ⟨l1, u, l2, l3⟩ := k1 q hq
        refine ⟨by omega, u, ?_, l3⟩
        have hi : (if v.category = 2 then i + 2 else i + 1) = i + ctg a := by
          rw [hc]
          unfold ctg
          split <;> rfl
        have hl : lv_args i (v :: us) = (i, v) :: lv_args (i + ctg a) us := by
          rw [← hi]
          rfl
        unfold pm_g at l2 ⊢
        rw [hl, List.find?_cons, show ((i, v).1 == q.1) = false from by simpa using fun e => by omega]
        exact l2
    · show (lg_sl (v :: us)).length = ctg a + sumA t
      rw [← k2, ← hc]
      unfold lg_sl
      rw [List.flatMap_cons, List.length_append]
      congr 1
      unfold Value.category
      cases v <;> rfl
theorem gst_split : ∀ {st : List Av} {sv : List Value} (i : Nat), gst RG vs st sv → gst RG vs (st.take i) (sv.take i) ∧ gst RG vs (st.drop i) (sv.drop i)
  | st, sv, 0, g => ⟨trivial, g⟩
  | [], [], i + 1, _ => ⟨trivial, trivial⟩
  | [], _ :: _, _, g => False.elim g
  | _ :: _, [], _, g => False.elim g
  | a :: t, v :: us, i + 1, g => by
    obtain ⟨h1, h2⟩ := gst_split i g.2
    exact ⟨⟨g.1, h1⟩, h2⟩
theorem gst_apd : ∀ {st st2 : List Av} {sv sv2 : List Value}, gst RG vs st sv → gst RG vs st2 sv2 → gst RG vs (st ++ st2) (sv ++ sv2)
  | [], _, [], _, _, g => g
  | [], _, _ :: _, _, g, _ => False.elim g
  | _ :: _, _, [], _, g, _ => False.elim g
  | a :: t, _, v :: us, _, g, g2 => ⟨g.1, gst_apd g.2 g2⟩
theorem gst_rev : ∀ {st : List Av} {sv : List Value}, gst RG vs st sv → gst RG vs st.reverse sv.reverse
  | [], [], _ => trivial
  | [], _ :: _, g => False.elim g
  | _ :: _, [], g => False.elim g
  | a :: t, v :: us, g => by
    rw [List.reverse_cons, List.reverse_cons]
    exact gst_apd (gst_rev g.2) ⟨g.1, trivial⟩
theorem gst_len : ∀ {st : List Av} {sv : List Value}, gst RG vs st sv → sv.length = st.length
  | [], [], _ => rfl
  | [], _ :: _, g => False.elim g
  | _ :: _, [], g => False.elim g
  | a :: t, v :: us, g => by simp [gst_len g.2]
theorem gst_sum : ∀ {st : List Av} {sv : List Value}, gst RG vs st sv → (sv.map fun v => v.category).sum = sumA st
  | [], [], _ => rfl
  | [], _ :: _, g => False.elim g
  | _ :: _, [], g => False.elim g
  | a :: t, v :: us, g => by
    rw [List.map_cons, List.sum_cons, gst_sum g.2, gv_catv g.1]
    rfl
end Call
/-- what is promised of a method: at its depth and beyond -/
def Hd (HT : Nat → Hk) (RG : Nat → List Nat) (n : Nat) (MT : Nat → Option Me) (xs : Nat → Me → Cf → Cf → Prop) (cx : Cx) : Prop :=
  ∀ (d : Nat), cx.2.1 ≤ d → ∀ (av : List Value) (h : Ph) (vs0 : List Int), (lg_sl av).length = cx.2.2.1 → ga HT RG n cx.2.2.2.1 h vs0 cx.2.2.2.2.1.1 (0, lv_args 0 av, [], h) → ∃ (r : Option Value) (h' : Ph) (E : Cu) (vsE : List Int), pm_Ex MT xs n d cx.1 av h r h' ∧ E ∈ cx.2.2.2.2.2 ∧ (∃ ws, vsE = vs0 ++ ws) ∧ ga HT RG n cx.2.2.2.1 h vsE E.1 (E.1.1, [], r.toList, h')
section Call2
variable {HT : Nat → Hk} {RG : Nat → List Nat} {n : Nat} {md : Md} {h0 : Ph} {vs : List Int} {A : Ab} {cf : Cf} {MT : Nat → Option Me} {xs : Nat → Me → Cf → Cf → Prop}
theorem fcall_ok {lv k nx d : Nat} {args st : List Av} {av sv : List Value} (g : ga HT RG n md h0 vs A cf) (hd : lv ≤ d + 1) (ha : gst RG vs args av) (hst : gst RG vs st sv) : ∀ {cs : List Cx} {Bs : List Ab}, (∀ cx ∈ cs, Hd HT RG n MT xs cx) → fcall RG md lv k nx A args st cs = some Bs → ∃ (r : Option Value) (h' : Ph), pm_Ex MT xs n d k av cf.2.2.2 r h' ∧ ∃ B ∈ Bs, ∃ ws, ga HT RG n md h0 (vs ++ ws) B (nx, cf.2.1, r.toList ++ sv, h')
  | [], _, _, h => by cases h
  | cx :: t, Bs, hc, h => by
    have ih : fcall RG md lv k nx A args st t = some Bs → _ := fcall_ok g hd ha hst (fun c hcc => hc c (List.mem_cons_of_mem _ hcc))
    unfold fcall at h
    split at h
    · rename_i hq
      obtain ⟨q1, q2, q3, q4⟩ := hq
      split at h
      · rename_i m hm
        have hm := mpC_ok hm
        split at h
        · rename_i he
          obtain ⟨g0, g1, g2, g3, g4, g5, g6⟩ := g
          have gA : ga HT RG n cx.2.2.2.1 cf.2.2.2 vs (0, lvA 0 args, [], A.2.2.2) (0, lv_args 0 av, [], cf.2.2.2) := ⟨rfl, fun q hq => ((gl_args 0 ha).1 q hq).2, trivial, g3, g4, g5, fun c j _ => rfl⟩
          have hm1 := mpA_ok gA hm
          have gC := entM_ok gA hm he
          obtain ⟨r, h', E, vsE, w1, w2, w3, w4⟩ := hc cx List.mem_cons_self d (by omega) av cf.2.2.2 _ (by rw [(gl_args 0 ha).2, q3]) gC
          have hl : cx.2.2.2.2.1.1.2.2.2.1.length = m.length := by
            have := gC.2.2.2.1.1
            rw [List.length_map] at this
            exact this
          rw [hl] at h
          obtain ⟨l, z1, z2⟩ := afts_mem h w2
          obtain ⟨B, y1, ws, y2⟩ := aft_ok (r := r.toList) ⟨g0, g1, g2, g3, g4, g5, g6⟩ hst hm1 w3 q4 w4 z1
          rw [q1] at w1
          exact ⟨r, h', w1, B, z2 B y1, ws, y2⟩
        · exact ih h
      · exact ih h
    · exact ih h
theorem callA_ok {KC : Nat → Option Nat} {lv k np kind nx d idx : Nat} {cs : List Cx} {Bs : List Ab} {me me' : Me} (g : ga HT RG n md h0 vs A cf) (hd : lv ≤ d + 1) (hc : ∀ cx ∈ cs, Hd HT RG n MT xs cx) (hK : ∀ ci, KC k = some ci → ∃ q, vwCl[ci]? = some q ∧ q.1 = me'.1.cls) (hme : MT k = some me') (hl : me.2.2.2.2.1.2.2.2 idx = some (k, np)) (hdec : (kind = 0 ∧ me'.2.2.2.2.2 = true ∧ decode me.2.1 cf.1 = .ok (.invokestatic idx, 3)) ∨ (kind = 1 ∧ me'.2.2.2.2.2 = false ∧ decode me.2.1 cf.1 = .ok (.invokevirtual idx, 3))) (hnx : nx = cf.1 + 3) (h : callA HT RG KC md lv cs k np kind nx A = some Bs) : ∃ cf', pm_Call MT (pm_Ex MT xs n d) me n cf cf' ∧ ∃ B ∈ Bs, ∃ ws, ga HT RG n md h0 (vs ++ ws) B cf' := by
  unfold callA at h
  split at h
  · rename_i hq
    obtain ⟨q1, q2, q3⟩ := hq
    obtain ⟨s1, s2⟩ := gst_split (np + kind) g.2.2.1
    have s3 := gst_rev s1
    obtain ⟨r, h', w1, B, w2, ws, w3⟩ := fcall_ok g hd s3 s2 hc h
    have hlen : cf.2.2.1.length = A.2.2.1.length := gst_len g.2.2.1
    have hal : (cf.2.2.1.take (np + kind)).reverse.length = np + kind := by simp; omega
    refine ⟨_, ⟨idx, k, np, me', (cf.2.2.1.take (np + kind)).reverse, cf.2.2.1.drop (np + kind), r, h', hl, hme, ?_, ?_, w1, rfl, ?_⟩, B, w2, ws, by rw [← hnx]; exact w3⟩
    · rw [List.reverse_reverse, List.take_append_drop]
    · rw [gst_sum s2]
      exact q2
    · rcases hdec with ⟨k0, k1, k2⟩ | ⟨k0, k1, k2⟩
      · subst k0
        exact Or.inl ⟨k1, k2, hal⟩
      · subst k0
        right
        refine ⟨k1, k2, ?_⟩
        unfold recv at q3
        split at q3
        · rename_i he
          cases he
        · split at q3
          · rename_i a t hat
            rw [hat] at s3
            obtain ⟨v, us, e1, e2, e3⟩ := gst_cons s3
            simp only [Bool.and_eq_true, beq_iff_eq] at q3
            obtain ⟨⟨p1, p2⟩, p3⟩ := q3
            have := gv_ref e2 p1
            subst this
            split at p3
            · rename_i ci hci
              simp only [beq_iff_eq] at p3
              obtain ⟨q, z1, z2⟩ := hK ci hci
              obtain ⟨i1, i2, -⟩ := g.2.2.2.2.2.1.1 a.2.1 (by omega)
              unfold hsh at i2
              rw [p2] at i2
              obtain ⟨fs, i3, -⟩ := i2
              have hls : us.length = np := by
                rw [e1] at hal
                simpa using hal
              exact ⟨a.2.1, ci, us, fs, q, e1, hls, i1, by rw [i3, p3], z1, z2⟩
            · cases p3
          · cases q3
  · cases h
end Call2
