/-! the kinds of cells, and what is known of a configuration -/
abbrev Kd : Type := Nat × Nat × Int × Int
abbrev Hk : Type := Nat × Nat × Nat × List (Nat × Nat × Kd)
abbrev Fa : Type := List (Nat × Nat × Av)
abbrev Md : Type := List (Nat × Nat × Nat)
abbrev Ab : Type := Nat × List (Nat × Av) × List Av × Sy × Fa
def pm_slot (x : Pc) (j : Nat) : Option Value := match x with
  | .inr (_, fs) => fs[j]?
  | .inl (_, k, .inl f) => if j < k then some (.int (f j)) else none
  | .inl (_, k, .inr (.inl f)) => if j < k then some (.long (f j)) else none
  | .inl (_, k, .inr (.inr (.inr (.inr f)))) => if j < k then (f j).map .ref else none
  | _ => none
def gk (RG : Nat → List Nat) (k : Kd) (v : Value) : Prop := match v with
  | .int x => k.1 = 0 ∧ k.2.2.1 ≤ x.toInt ∧ x.toInt ≤ k.2.2.2
  | .long x => k.1 = 1 ∧ k.2.2.1 ≤ x.toInt ∧ x.toInt ≤ k.2.2.2
  | .ref r => k.1 = 2 ∧ r ∈ RG k.2.1
  | _ => False
def hsh (q : Hk) (x : Pc) : Prop := match q.1 with
  | 0 => ∃ fs, x = .inr (q.2.1, fs) ∧ fs.length = q.2.2.1
  | 1 => ∃ f, x = .inl (q.2.1, q.2.2.1, .inl f)
  | 2 => ∃ f, x = .inl (q.2.1, q.2.2.1, .inr (.inl f))
  | 3 => ∃ f, x = .inl (q.2.1, q.2.2.1, .inr (.inr (.inr (.inr f))))
  | _ => False
def hI0 (HT : Nat → Hk) (RG : Nat → List Nat) (n : Nat) (h : Ph) : Prop := ∀ c, (HT c).1 < 4 → c < n ∧ hsh (HT c) (h c) ∧ ∀ q ∈ (HT c).2.2.2, ∀ j, q.1 ≤ j → j < q.2.1 → ∃ v, pm_slot (h c) j = some v ∧ gk RG q.2.2 v
/-- the law of price kept by the model: its codes are nested; a state is the list of what is open (true: by not) -/
def nsStep (c : Int) (st : List Bool) : Option (List Bool) :=
  if c = 28 ∨ c = 30 then (if st.length < 6 then some (decide (c = 30) :: st) else none)
  else if 20 ≤ c ∧ c ≤ 27 ∧ c ≠ 23 then some st
  else if c = 29 then (match st with
    | [] => none
    | _ :: t => some (t.dropWhile id))
  else if c < 0 then none
  else some (st.dropWhile id)
def nsRun (f : Nat → Int) : Nat → Nat → List Bool → Option (List Bool)
  | 0, _, st => some st
  | n + 1, k, st => match nsStep (f k) st with
    | none => none
    | some st' => nsRun f n (k + 1) st'
def ivx (x : Pc) (j : Nat) : Int := match pm_slot x j with
  | some (.int v) => v.toInt
  | _ => 0
def ivl (h : Ph) (c j : Nat) : Int := match pm_slot (h c) j with
  | some (.int x) => x.toInt
  | _ => 0
/-- a list of what is open, by its number -/
def stD : Nat → Nat → List Bool
  | 0, _ => []
  | f + 1, n => if n = 0 then [] else decide (n % 2 = 0) :: stD f ((n - 1) / 2)
def stE : List Bool → Nat
  | [] => 0
  | b :: t => 2 * stE t + (if b = true then 2 else 1)
/-- the codes from 1000 to z mod 4096 are nested, what is open has the number z / 4096 -/
def nsZ (x : Pc) (z : Int) : Prop := nsRun (ivx x) ((z % 4096).toNat - 1000) 1000 [] = some (stD 8 (z / 4096).toNat)
def cKO : Nat := 221
def cCO : Nat := 194
def cLF : Nat := 192
def cLT : Nat := 193
def cM : Nat := 172
def kCd : Nat := 31
def xp (h : Ph) : Prop := (ivl h cLT 0).toNat ≤ 1000 ∧ ∃ st, nsRun (ivl h cCO) ((ivl h cLT 0).toNat - (ivl h cLF 0).toNat) (ivl h cLF 0).toNat [] = some st
def nst (h : Ph) (b : Int) : Prop := ∃ st, nsRun (ivl h cCO) (b.toNat - 1000) 1000 [] = some st
def yp (h : Ph) : Prop := nst h (ivl h cM kCd) ∧ nst h (ivl h cLT 1)
def prY (c j : Nat) : Prop := (c = cCO ∧ 1000 ≤ j) ∨ (c = cLT ∧ j = 1) ∨ (c = cM ∧ j = kCd)
def prYK (c : Nat) : Bool := c == cCO || c == cLT || c == cM
/-- whether the world's law of price is watched over -/
def hxM (HT : Nat → Hk) : Bool := match (HT cLT).2.2.2 with
  | [_, _] => true
  | _ => false
def prt (c j : Nat) : Prop := (c = cCO ∧ j < 1000) ∨ ((c = cLF ∨ c = cLT) ∧ j < 1)
def prK (HT : Nat → Hk) (c i1 : Nat) : Bool := ((c == cCO && decide (i1 < 1000)) || ((c == cLF || c == cLT) && decide (i1 < 1))) && hxM HT
theorem nsRun_congr {f g : Nat → Int} : ∀ (n k : Nat) (st : List Bool), (∀ i, k ≤ i → i < k + n → f i = g i) → nsRun f n k st = nsRun g n k st
  | 0, _, _, _ => rfl
  | n + 1, k, st, h => by
    unfold nsRun
    rw [h k (Nat.le_refl k) (by omega)]
    split
    · rfl
    · exact nsRun_congr n (k + 1) _ (fun i h1 h2 => h i (by omega) (by omega))
theorem xp_congr {h h' : Ph} (e : ∀ c j, prt c j → pm_slot (h' c) j = pm_slot (h c) j) (x : xp h) : xp h' := by
  have e1 : ivl h' cLF 0 = ivl h cLF 0 := by unfold ivl; rw [e cLF 0 (Or.inr ⟨Or.inl rfl, by decide⟩)]
  have e2 : ivl h' cLT 0 = ivl h cLT 0 := by unfold ivl; rw [e cLT 0 (Or.inr ⟨Or.inr rfl, by decide⟩)]
  obtain ⟨hb, st, hs⟩ := x
  refine ⟨by rw [e2]; exact hb, st, ?_⟩
  rw [e1, e2, ← hs]
  apply nsRun_congr
  intro i h1 h2
  unfold ivl
  rw [e cCO i (Or.inl ⟨rfl, by omega⟩)]
theorem nst_congr {h h' : Ph} {b : Int} (e : ∀ j, 1000 ≤ j → pm_slot (h' cCO) j = pm_slot (h cCO) j) (x : nst h b) : nst h' b := by
  obtain ⟨st, hs⟩ := x
  refine ⟨st, ?_⟩
  rw [← hs]
  apply nsRun_congr
  intro i h1 h2
  unfold ivl
  rw [e i h1]
theorem nst_le {h : Ph} {b : Int} (hb : b ≤ 1000) : nst h b := ⟨[], by rw [show b.toNat - 1000 = 0 from by omega]; rfl⟩
theorem yp_congr {h h' : Ph} (e : ∀ c j, prY c j → pm_slot (h' c) j = pm_slot (h c) j) (x : yp h) : yp h' := by
  have e1 : ivl h' cM kCd = ivl h cM kCd := by unfold ivl; rw [e cM kCd (Or.inr (Or.inr ⟨rfl, rfl⟩))]
  have e2 : ivl h' cLT 1 = ivl h cLT 1 := by unfold ivl; rw [e cLT 1 (Or.inr (Or.inl ⟨rfl, rfl⟩))]
  unfold yp
  rw [e1, e2]
  exact ⟨nst_congr (fun j hj => e cCO j (Or.inl ⟨rfl, hj⟩)) x.1, nst_congr (fun j hj => e cCO j (Or.inl ⟨rfl, hj⟩)) x.2⟩
def hX (HT : Nat → Hk) (h : Ph) : Prop := hxM HT = true → xp h ∧ yp h
def hI (HT : Nat → Hk) (RG : Nat → List Nat) (n : Nat) (h : Ph) : Prop := hI0 HT RG n h ∧ hX HT h
def cov (md : Md) (c j : Nat) : Prop := ∃ m ∈ md, m.1 = c ∧ m.2.1 ≤ j ∧ j < m.2.2
def fr (md : Md) (h0 h : Ph) : Prop := ∀ c j, ¬ cov md c j → pm_slot (h c) j = pm_slot (h0 c) j
/-- a slot by its number, or by a symbol -/
def sIx (vs : List Int) (j i : Nat) : Prop := (j < 4294967296 ∧ i = j) ∨ (4294967296 ≤ j ∧ vs[j - 4294967296]? = some (i : Int))
theorem sIx_app {vs : List Int} (ws : List Int) {j i : Nat} (h : sIx vs j i) : sIx (vs ++ ws) j i := by
  rcases h with h | ⟨h1, h2⟩
  · exact Or.inl h
  · exact Or.inr ⟨h1, ix_app h2⟩
def sumS (x : Pc) : Nat → Int
  | 0 => 0
  | k + 1 => sumS x k + (match pm_slot x k with
    | some (.int v) => v.toInt
    | _ => 0)
theorem nsRun_snoc {f : Nat → Int} : ∀ (n k : Nat) (st st1 st2 : List Bool), nsRun f n k st = some st1 → nsStep (f (k + n)) st1 = some st2 → nsRun f (n + 1) k st = some st2
  | 0, k, st, st1, st2, h1, h2 => by
    cases h1
    unfold nsRun
    rw [show nsStep (f k) st = some st2 from h2]
    rfl
  | n + 1, k, st, st1, st2, h1, h2 => by
    unfold nsRun at h1 ⊢
    split at h1
    · cases h1
    · exact nsRun_snoc n (k + 1) _ st1 st2 h1 (by rw [show k + 1 + n = k + (n + 1) from by omega]; exact h2)
def smP (c : Nat) (x : Pc) (z : Int) : Prop := if c = cCO then nsZ x z else sumS x 30 = z
/-- a slot known; the key 4294967295: the sum of the first thirty, or how far the codes are nested -/
def gf1 (RG : Nat → List Nat) (vs : List Int) (h : Ph) (q : Nat × Nat × Av) : Prop := (q.2.1 = 4294967295 ∧ q.2.2.1 = 0 ∧ ∃ w, vs[q.2.2.2.1]? = some w ∧ smP q.1 (h q.1) (w + q.2.2.2.2)) ∨ (q.2.1 ≠ 4294967295 ∧ ∃ i v, sIx vs q.2.1 i ∧ pm_slot (h q.1) i = some v ∧ gv RG vs q.2.2 v)
def gf (RG : Nat → List Nat) (vs : List Int) (fa : Fa) (h : Ph) : Prop := ∀ q ∈ fa, gf1 RG vs h q
theorem gf1_v {RG : Nat → List Nat} {vs : List Int} {h : Ph} {q : Nat × Nat × Av} (g : gf1 RG vs h q) (hq : q.2.1 ≠ 4294967295) : ∃ i v, sIx vs q.2.1 i ∧ pm_slot (h q.1) i = some v ∧ gv RG vs q.2.2 v := by
  rcases g with ⟨g, -⟩ | ⟨-, g⟩
  · exact absurd g hq
  · exact g
theorem sumS_eq {x y : Pc} (e : ∀ j, pm_slot x j = pm_slot y j) : ∀ k, sumS x k = sumS y k
  | 0 => rfl
  | k + 1 => by
    unfold sumS
    rw [sumS_eq e k, e k]
theorem smP_eq {x y : Pc} {c : Nat} {z : Int} (e : ∀ j, pm_slot x j = pm_slot y j) (h : smP c y z) : smP c x z := by
  unfold smP at h ⊢
  split at h
  · rename_i hc
    rw [if_pos hc]
    unfold nsZ at h ⊢
    rw [show ivx x = ivx y from by funext j; unfold ivx; rw [e j]]
    exact h
  · rename_i hc
    rw [if_neg hc, sumS_eq e]
    exact h
theorem sumS_upd {x y : Pc} {j : Nat} {a b : Int32} (h1 : pm_slot x j = some (.int a)) (h2 : pm_slot y j = some (.int b)) (h3 : ∀ i, i ≠ j → pm_slot y i = pm_slot x i) : ∀ k, sumS y k = sumS x k + (if j < k then b.toInt - a.toInt else 0)
  | 0 => by simp [sumS]
  | k + 1 => by
    unfold sumS
    rw [sumS_upd h1 h2 h3 k]
    by_cases hk : k = j
    · subst hk
      rw [h1, h2, if_neg (by omega), if_pos (by omega)]
      dsimp only
      omega
    · rw [h3 k hk]
      by_cases hj : j < k
      · rw [if_pos hj, if_pos (by omega)]
        omega
      · rw [if_neg hj, if_neg (by omega)]
        omega
def gl (RG : Nat → List Nat) (vs : List Int) (al : List (Nat × Av)) (lo : List (Nat × Value)) : Prop := ∀ q ∈ al, ∃ v, pm_g lo q.1 = some v ∧ gv RG vs q.2 v
def gst (RG : Nat → List Nat) (vs : List Int) : List Av → List Value → Prop
  | [], [] => True
  | a :: as, v :: ws => gv RG vs a v ∧ gst RG vs as ws
  | _, _ => False
theorem gf_app {RG : Nat → List Nat} {vs : List Int} (ws : List Int) {fa : Fa} {h : Ph} (g : gf RG vs fa h) : gf RG (vs ++ ws) fa h := fun q hq => by
  rcases g q hq with ⟨k1, k2, w, k3, k4⟩ | ⟨k1, i, v, h0, h1, h2⟩
  · exact Or.inl ⟨k1, k2, w, ix_app k3, k4⟩
  · exact Or.inr ⟨k1, i, v, sIx_app ws h0, h1, gv_app ws h2⟩
theorem gl_app {RG : Nat → List Nat} {vs : List Int} (ws : List Int) {al : List (Nat × Av)} {lo : List (Nat × Value)} (g : gl RG vs al lo) : gl RG (vs ++ ws) al lo := fun q hq => by
  obtain ⟨v, h1, h2⟩ := g q hq
  exact ⟨v, h1, gv_app ws h2⟩
theorem gst_app {RG : Nat → List Nat} {vs : List Int} (ws : List Int) : ∀ {st : List Av} {sv : List Value}, gst RG vs st sv → gst RG (vs ++ ws) st sv
  | [], [], _ => trivial
  | a :: as, v :: us, h => ⟨gv_app ws h.1, gst_app ws h.2⟩
  | [], _ :: _, h => False.elim h
  | _ :: _, [], h => False.elim h
theorem gst_cons {RG : Nat → List Nat} {vs : List Int} {a : Av} {as : List Av} {sv : List Value} (h : gst RG vs (a :: as) sv) : ∃ v us, sv = v :: us ∧ gv RG vs a v ∧ gst RG vs as us := by
  cases sv with
  | nil => exact False.elim h
  | cons v us => exact ⟨v, us, rfl, h.1, h.2⟩
theorem gst_cons2 {RG : Nat → List Nat} {vs : List Int} {a b : Av} {as : List Av} {sv : List Value} (h : gst RG vs (a :: b :: as) sv) : ∃ v u us, sv = v :: u :: us ∧ gv RG vs a v ∧ gv RG vs b u ∧ gst RG vs as us := by
  obtain ⟨v, s1, rfl, h1, h2⟩ := gst_cons h
  obtain ⟨u, s2, rfl, h3, h4⟩ := gst_cons h2
  exact ⟨v, u, s2, rfl, h1, h3, h4⟩
theorem gst_cons3 {RG : Nat → List Nat} {vs : List Int} {a b c : Av} {as : List Av} {sv : List Value} (h : gst RG vs (a :: b :: c :: as) sv) : ∃ v u t us, sv = v :: u :: t :: us ∧ gv RG vs a v ∧ gv RG vs b u ∧ gv RG vs c t ∧ gst RG vs as us := by
  obtain ⟨v, s1, rfl, h1, h2⟩ := gst_cons h
  obtain ⟨u, t, s2, rfl, h3, h4, h5⟩ := gst_cons2 h2
  exact ⟨v, u, t, s2, rfl, h1, h3, h4, h5⟩
theorem gst_nil {RG : Nat → List Nat} {vs : List Int} {sv : List Value} (h : gst RG vs [] sv) : sv = [] := by
  cases sv with
  | nil => rfl
  | cons v us => exact False.elim h
theorem gv_int {RG : Nat → List Nat} {vs : List Int} {a : Av} {v : Value} (h : gv RG vs a v) (h0 : a.1 = 0) : ∃ (x : Int32) (w : Int), v = .int x ∧ vs[a.2.1]? = some w ∧ x.toInt = w + a.2.2 := by
  cases v with
  | int x => obtain ⟨-, w, h1, h2⟩ := h; exact ⟨x, w, rfl, h1, h2⟩
  | long x => obtain ⟨h1, -⟩ := h; omega
  | ref k => rcases h with h | h <;> omega
  | _ => exact False.elim h
theorem gv_long {RG : Nat → List Nat} {vs : List Int} {a : Av} {v : Value} (h : gv RG vs a v) (h0 : a.1 = 1) : ∃ (x : Int64) (w : Int), v = .long x ∧ vs[a.2.1]? = some w ∧ x.toInt = w + a.2.2 := by
  cases v with
  | long x => obtain ⟨-, w, h1, h2⟩ := h; exact ⟨x, w, rfl, h1, h2⟩
  | int x => obtain ⟨h1, -⟩ := h; omega
  | ref k => rcases h with h | h <;> omega
  | _ => exact False.elim h
theorem gv_ref {RG : Nat → List Nat} {vs : List Int} {a : Av} {v : Value} (h : gv RG vs a v) (h0 : a.1 = 2) : v = .ref a.2.1 := by
  cases v with
  | ref k => rcases h with h | h
             · rw [h.2]
             · omega
  | long x => obtain ⟨h1, -⟩ := h; omega
  | int x => obtain ⟨h1, -⟩ := h; omega
  | _ => exact False.elim h
theorem gv_reg {RG : Nat → List Nat} {vs : List Int} {a : Av} {v : Value} (h : gv RG vs a v) (h0 : a.1 = 3) : ∃ k, v = .ref k ∧ k ∈ RG a.2.1 := by
  cases v with
  | ref k => rcases h with h | h
             · omega
             · exact ⟨k, rfl, h.2⟩
  | long x => obtain ⟨h1, -⟩ := h; omega
  | int x => obtain ⟨h1, -⟩ := h; omega
  | _ => exact False.elim h
/-- what is known of a configuration: pc, locals, stack, symbols, slots -/
def ga (HT : Nat → Hk) (RG : Nat → List Nat) (n : Nat) (md : Md) (h0 : Ph) (vs : List Int) (A : Ab) (cf : Cf) : Prop :=
  cf.1 = A.1 ∧ gl RG vs A.2.1 cf.2.1 ∧ gst RG vs A.2.2.1 cf.2.2.1 ∧ gs A.2.2.2.1 vs ∧ gf RG vs A.2.2.2.2 cf.2.2.2 ∧ hI HT RG n cf.2.2.2 ∧ fr md h0 cf.2.2.2
/-- an answer pushed -/
def pr (pc : Nat) (al : List (Nat × Av)) (st : List Av) (sy : Sy) (fa : Fa) (tag : Nat) (r : Rs) : Ab := match r with
  | .inl q => (pc, al, (tag, q.1, q.2) :: st, sy, fa)
  | .inr e => (pc, al, (tag, sy.length, 0) :: st, sy ++ [e], fa)
section Hp
variable {HT : Nat → Hk} {RG : Nat → List Nat} {n : Nat} {md : Md} {h0 : Ph} {vs : List Int} {A : Ab} {cf : Cf}
theorem ix_new {sy : Sy} {vs : List Int} {z : Int} (h : gs sy vs) : (vs ++ [z])[sy.length]? = some z := by
  rw [h.1, List.getElem?_append_right (Nat.le_refl _), Nat.sub_self]
  rfl
theorem pr_int {pc : Nat} {al : List (Nat × Av)} {lo : List (Nat × Value)} {st : List Av} {sv : List Value} {sy : Sy} {fa : Fa} {h : Ph} {r : Rs} {x : Int32} (g1 : gl RG vs al lo) (g2 : gst RG vs st sv) (g3 : gs sy vs) (g4 : gf RG vs fa h) (g5 : hI HT RG n h) (g6 : fr md h0 h) (hr : gr vs r x.toInt) : ∃ ws, ga HT RG n md h0 (vs ++ ws) (pr pc al st sy fa 0 r) (pc, lo, .int x :: sv, h) := by
  cases r with
  | inl q =>
    obtain ⟨w, e1, e2⟩ := hr
    exact ⟨[], by rw [List.append_nil]; exact ⟨rfl, g1, ⟨⟨rfl, w, e1, e2⟩, g2⟩, g3, g4, g5, g6⟩⟩
  | inr e => exact ⟨[x.toInt], rfl, gl_app _ g1, ⟨⟨rfl, x.toInt, ix_new g3, (Int.add_zero _).symm⟩, gst_app _ g2⟩, gs_push g3 hr, gf_app _ g4, g5, g6⟩
theorem pr_long {pc : Nat} {al : List (Nat × Av)} {lo : List (Nat × Value)} {st : List Av} {sv : List Value} {sy : Sy} {fa : Fa} {h : Ph} {r : Rs} {x : Int64} (g1 : gl RG vs al lo) (g2 : gst RG vs st sv) (g3 : gs sy vs) (g4 : gf RG vs fa h) (g5 : hI HT RG n h) (g6 : fr md h0 h) (hr : gr vs r x.toInt) : ∃ ws, ga HT RG n md h0 (vs ++ ws) (pr pc al st sy fa 1 r) (pc, lo, .long x :: sv, h) := by
  cases r with
  | inl q =>
    obtain ⟨w, e1, e2⟩ := hr
    exact ⟨[], by rw [List.append_nil]; exact ⟨rfl, g1, ⟨⟨rfl, w, e1, e2⟩, g2⟩, g3, g4, g5, g6⟩⟩
  | inr e => exact ⟨[x.toInt], rfl, gl_app _ g1, ⟨⟨rfl, x.toInt, ix_new g3, (Int.add_zero _).symm⟩, gst_app _ g2⟩, gs_push g3 hr, gf_app _ g4, g5, g6⟩
/-- locals -/
def lkA (al : List (Nat × Av)) (i : Nat) : Option Av := match al with
  | [] => none
  | q :: t => if q.1 = i then some q.2 else lkA t i
theorem lkA_mem {i : Nat} {a : Av} : ∀ {al : List (Nat × Av)}, lkA al i = some a → (i, a) ∈ al
  | [], h => by cases h
  | q :: t, h => by
    unfold lkA at h
    split at h
    · rename_i e
      cases h
      rw [← e]
      exact List.mem_cons_self
    · exact List.mem_cons_of_mem _ (lkA_mem h)
theorem fd_flt {α : Type} {p r : α → Bool} {x : α} : ∀ {l : List α}, l.find? r = some x → p x = true → (l.filter p).find? r = some x
  | [], h, _ => by cases h
  | y :: t, h, hp => by
    rw [List.find?_cons] at h
    rw [List.filter_cons]
    split at h
    · rename_i hy
      cases h
      rw [if_pos hp, List.find?_cons, hy]
    · rename_i hy
      split
      · rw [List.find?_cons, hy]
        exact fd_flt h hp
      · exact fd_flt h hp
def sA1 (al : List (Nat × Av)) (i : Nat) (a : Av) : List (Nat × Av) := (i, a) :: al.filter (fun q => !(q.1 == i) && !(q.1 + 1 == i && q.2.1 == 1))
def sA2 (al : List (Nat × Av)) (i : Nat) (a : Av) : List (Nat × Av) := (i, a) :: al.filter (fun q => !(q.1 == i) && (!(q.1 == i + 1) && !(q.1 + 1 == i && q.2.1 == 1)))
theorem gv_cat {a : Av} {v : Value} (h : gv RG vs a v) : v.category = 2 → a.1 = 1 := by
  cases v with
  | long x => intro _; exact h.1
  | int x => intro q; cases q
  | ref x => intro q; cases q
  | _ => exact False.elim h
theorem gv_cat1 {a : Av} {v : Value} (h : gv RG vs a v) (h1 : a.1 ≠ 1) : v.category = 1 := by
  cases v with
  | long x => exact absurd h.1 h1
  | int x => rfl
  | ref x => rfl
  | _ => exact False.elim h
theorem gv_catv {a : Av} {v : Value} (h : gv RG vs a v) : v.category = if a.1 = 1 then 2 else 1 := by
  split
  · rename_i h1
    obtain ⟨x, w, rfl, -⟩ := gv_long h h1
    rfl
  · rename_i h1
    exact gv_cat1 h h1
theorem gl_s1 {al : List (Nat × Av)} {lo : List (Nat × Value)} {i : Nat} {a : Av} {v : Value} (g : gl RG vs al lo) (hv : gv RG vs a v) : gl RG vs (sA1 al i a) (pm_s1 lo i v) := by
  intro q hq
  rcases List.mem_cons.mp hq with rfl | hq
  · refine ⟨v, ?_, hv⟩
    simp [pm_g, pm_s1]
  · obtain ⟨hq1, hq2⟩ := List.mem_filter.mp hq
    obtain ⟨u, h1, h2⟩ := g q hq1
    refine ⟨u, ?_, h2⟩
    simp only [Bool.and_eq_true, Bool.not_eq_true', beq_eq_false_iff_ne, ne_eq, Bool.and_eq_false_imp, beq_iff_eq] at hq2
    unfold pm_g at h1 ⊢
    obtain ⟨y, hy, rfl⟩ := Option.map_eq_some_iff.mp h1
    have hy1 : y.1 = q.1 := by simpa using List.find?_some hy
    unfold pm_s1
    rw [List.find?_cons, show ((i, v).1 == q.1) = false from by simpa using fun e => hq2.1 e.symm]
    dsimp only
    rw [fd_flt hy]
    · rfl
    · rw [hy1]
      simp only [Bool.and_eq_true, Bool.not_eq_true', beq_eq_false_iff_ne, ne_eq, Bool.and_eq_false_imp, beq_iff_eq]
      exact ⟨hq2.1, fun e c => hq2.2 e (gv_cat h2 c)⟩
theorem gl_s2 {al : List (Nat × Av)} {lo : List (Nat × Value)} {i : Nat} {a : Av} {v : Value} (g : gl RG vs al lo) (hv : gv RG vs a v) : gl RG vs (sA2 al i a) (pm_s2 lo i v) := by
  intro q hq
  rcases List.mem_cons.mp hq with rfl | hq
  · refine ⟨v, ?_, hv⟩
    simp [pm_g, pm_s2]
  · obtain ⟨hq1, hq2⟩ := List.mem_filter.mp hq
    obtain ⟨u, h1, h2⟩ := g q hq1
    refine ⟨u, ?_, h2⟩
    simp only [Bool.and_eq_true, Bool.not_eq_true', beq_eq_false_iff_ne, ne_eq, Bool.and_eq_false_imp, beq_iff_eq] at hq2
    unfold pm_g at h1 ⊢
    obtain ⟨y, hy, rfl⟩ := Option.map_eq_some_iff.mp h1
    have hy1 : y.1 = q.1 := by simpa using List.find?_some hy
    unfold pm_s2
    rw [List.find?_cons, show ((i, v).1 == q.1) = false from by simpa using fun e => hq2.1 e.symm]
    dsimp only
    rw [fd_flt hy]
    · rfl
    · rw [hy1]
      simp only [Bool.and_eq_true, Bool.not_eq_true', beq_eq_false_iff_ne, ne_eq, Bool.and_eq_false_imp, beq_iff_eq]
      exact ⟨hq2.1, hq2.2.1, fun e c => hq2.2.2 e (gv_cat h2 c)⟩
/-- reading a slot -/
def hkf (runs : List (Nat × Nat × Kd)) (i1 i2 : Nat) : Option Kd := match runs with
  | [] => none
  | q :: t => if q.1 ≤ i1 ∧ i2 < q.2.1 then some q.2.2 else hkf t i1 i2
theorem hkf_mem {i1 i2 : Nat} {kd : Kd} : ∀ {runs : List (Nat × Nat × Kd)}, hkf runs i1 i2 = some kd → ∃ q ∈ runs, q.1 ≤ i1 ∧ i2 < q.2.1 ∧ q.2.2 = kd
  | [], h => by cases h
  | q :: t, h => by
    unfold hkf at h
    split at h
    · rename_i e
      cases h
      exact ⟨q, List.mem_cons_self, e.1, e.2, rfl⟩
    · obtain ⟨r, h1, h2⟩ := hkf_mem h
      exact ⟨r, List.mem_cons_of_mem _ h1, h2⟩
def kld (RG : Nat → List Nat) (FK : Nat → Bool) (kd : Kd) (sy : Sy) : Option (List (Av × Sy)) := match kd.1 with
  | 0 => some [((0, sy.length, 0), sy ++ [(kd.2.2.1, kd.2.2.2, 0, 0, 0)])]
  | 1 => some [((1, sy.length, 0), sy ++ [(kd.2.2.1, kd.2.2.2, 0, 0, 0)])]
  | 2 => if FK kd.2.1 = true then some ((RG kd.2.1).map fun c => ((2, c, 0), sy)) else some [((3, kd.2.1, 0), sy)]
  | _ => none
theorem kld_ok {FK : Nat → Bool} {kd : Kd} {sy : Sy} {l : List (Av × Sy)} {v : Value} (g : gs sy vs) (hv : gk RG kd v) (hl : kld RG FK kd sy = some l) : ∃ q ∈ l, ∃ ws, gs q.2 (vs ++ ws) ∧ gv RG (vs ++ ws) q.1 v := by
  cases v with
  | int x =>
    obtain ⟨h1, h2, h3⟩ := hv
    unfold kld at hl
    rw [h1] at hl
    cases hl
    exact ⟨_, List.mem_cons_self, [x.toInt], gs_push g ⟨h2, h3, Or.inl rfl⟩, rfl, x.toInt, ix_new g, (Int.add_zero _).symm⟩
  | long x =>
    obtain ⟨h1, h2, h3⟩ := hv
    unfold kld at hl
    rw [h1] at hl
    cases hl
    exact ⟨_, List.mem_cons_self, [x.toInt], gs_push g ⟨h2, h3, Or.inl rfl⟩, rfl, x.toInt, ix_new g, (Int.add_zero _).symm⟩
  | ref r =>
    obtain ⟨h1, h2⟩ := hv
    unfold kld at hl
    rw [h1] at hl
    replace hl : (if FK kd.2.1 = true then some ((RG kd.2.1).map fun c => (((2, c, 0), sy) : Av × Sy)) else some [((3, kd.2.1, 0), sy)]) = some l := hl
    split at hl
    · cases hl
      exact ⟨((2, r, 0), sy), List.mem_map.mpr ⟨r, h2, rfl⟩, [], by rw [List.append_nil]; exact g, Or.inl ⟨rfl, rfl⟩⟩
    · cases hl
      exact ⟨((3, kd.2.1, 0), sy), List.mem_cons_self, [], by rw [List.append_nil]; exact g, Or.inr ⟨rfl, h2⟩⟩
  | _ => exact False.elim hv
def fkA (fa : Fa) (k j : Nat) : Option Av := match fa with
  | [] => none
  | q :: t => if q.1 = k ∧ q.2.1 = j then some q.2.2 else fkA t k j
theorem fkA_mem {k j : Nat} {a : Av} : ∀ {fa : Fa}, fkA fa k j = some a → (k, j, a) ∈ fa
  | [], h => by cases h
  | q :: t, h => by
    unfold fkA at h
    split at h
    · rename_i e
      cases h
      rw [← e.1, ← e.2]
      exact List.mem_cons_self
    · exact List.mem_cons_of_mem _ (fkA_mem h)
def lod (HT : Nat → Hk) (RG : Nat → List Nat) (FK : Nat → Bool) (sy : Sy) (fa : Fa) (k i1 i2 : Nat) (ky : Option Nat) : Option (List (Av × Sy × Fa)) := match ky with
  | some j => if j = 4294967295 then none else (match fkA fa k j with
    | some a => some [(a, sy, fa)]
    | none => match hkf (HT k).2.2.2 i1 i2 with
      | none => none
      | some kd => (kld RG FK kd sy).map fun l => l.map fun q => (q.1, q.2, (k, j, q.1) :: fa))
  | none => match hkf (HT k).2.2.2 i1 i2 with
    | none => none
    | some kd => (kld RG FK kd sy).map fun l => l.map fun q => (q.1, q.2, fa)
theorem sIx_fun {vs : List Int} {j a b : Nat} (h1 : sIx vs j a) (h2 : sIx vs j b) : a = b := by
  rcases h1 with ⟨h1, rfl⟩ | ⟨h1, h3⟩
  · rcases h2 with ⟨h2, rfl⟩ | ⟨h2, h4⟩
    · rfl
    · omega
  · rcases h2 with ⟨h2, rfl⟩ | ⟨h2, h4⟩
    · omega
    · rw [h3] at h4
      have := Option.some.inj h4
      omega
theorem lod_ok {FK : Nat → Bool} {sy : Sy} {fa : Fa} {k i1 i2 j : Nat} {ky : Option Nat} {h : Ph} {l : List (Av × Sy × Fa)} (g : gs sy vs) (gF : gf RG vs fa h) (gI : hI HT RG n h) (hk : (HT k).1 < 4) (h1 : i1 ≤ j) (h2 : j ≤ i2) (hky : ∀ j', ky = some j' → sIx vs j' j) (hl : lod HT RG FK sy fa k i1 i2 ky = some l) : ∃ v, pm_slot (h k) j = some v ∧ ∃ q ∈ l, ∃ ws, gs q.2.1 (vs ++ ws) ∧ gf RG (vs ++ ws) q.2.2 h ∧ gv RG (vs ++ ws) q.1 v := by
  unfold lod at hl
  split at hl
  · rename_i j'
    have hj := hky j' rfl
    split at hl
    · cases hl
    rename_i hne
    split at hl
    · rename_i a ha
      cases hl
      obtain ⟨i, v, e0, e1, e2⟩ := gf1_v (gF _ (fkA_mem ha)) hne
      rw [sIx_fun e0 hj] at e1
      exact ⟨v, e1, _, List.mem_cons_self, [], by rw [List.append_nil]; exact ⟨g, gF, e2⟩⟩
    · split at hl
      · cases hl
      · rename_i kd hkd
        obtain ⟨q, q1, q2, q3, rfl⟩ := hkf_mem hkd
        obtain ⟨v, e1, e2⟩ := (gI.1 k hk).2.2 q q1 j (by omega) (by omega)
        obtain ⟨l0, hl0, rfl⟩ := Option.map_eq_some_iff.mp hl
        obtain ⟨r, r1, ws, r2, r3⟩ := kld_ok g e2 hl0
        refine ⟨v, e1, _, List.mem_map.mpr ⟨r, r1, rfl⟩, ws, r2, ?_, r3⟩
        intro z hz
        rcases List.mem_cons.mp hz with rfl | hz
        · exact Or.inr ⟨hne, j, v, sIx_app ws hj, e1, r3⟩
        · exact gf_app ws gF z hz
  · split at hl
    · cases hl
    · rename_i kd hkd
      obtain ⟨q, q1, q2, q3, rfl⟩ := hkf_mem hkd
      obtain ⟨v, e1, e2⟩ := (gI.1 k hk).2.2 q q1 j (by omega) (by omega)
      obtain ⟨l0, hl0, rfl⟩ := Option.map_eq_some_iff.mp hl
      obtain ⟨r, r1, ws, r2, r3⟩ := kld_ok g e2 hl0
      exact ⟨v, e1, _, List.mem_map.mpr ⟨r, r1, rfl⟩, ws, r2, gf_app ws gF, r3⟩
/-- writing a slot -/
def inI (sy : Sy) (lo hi : Int) (a : Av) : Bool := match iv sy a.2.1 a.2.2 with
  | some p => decide (lo ≤ p.1) && decide (p.2 ≤ hi)
  | none => false
theorem inI_ok {sy : Sy} {lo hi w : Int} {a : Av} (g : gs sy vs) (h : inI sy lo hi a = true) (hw : vs[a.2.1]? = some w) : lo ≤ w + a.2.2 ∧ w + a.2.2 ≤ hi := by
  unfold inI at h
  split at h
  · rename_i p hp
    simp only [Bool.and_eq_true, decide_eq_true_eq] at h
    have := iv_ok g hp hw
    omega
  · cases h
def inK (RG : Nat → List Nat) (sy : Sy) (kd : Kd) (a : Av) : Bool := match kd.1 with
  | 0 => a.1 == 0 && inI sy kd.2.2.1 kd.2.2.2 a
  | 1 => a.1 == 1 && inI sy kd.2.2.1 kd.2.2.2 a
  | 2 => a.1 == 2 && (RG kd.2.1).contains a.2.1
  | _ => false
theorem inK_ok {sy : Sy} {kd : Kd} {a : Av} {v : Value} (g : gs sy vs) (hv : gv RG vs a v) (h : inK RG sy kd a = true) : gk RG kd v := by
  unfold inK at h
  split at h
  · rename_i h2
    simp only [Bool.and_eq_true, beq_iff_eq] at h
    obtain ⟨x, w, rfl, e1, e2⟩ := gv_int hv h.1
    have := inI_ok g h.2 e1
    rw [← e2] at this
    exact ⟨h2, this⟩
  · rename_i h2
    simp only [Bool.and_eq_true, beq_iff_eq] at h
    obtain ⟨x, w, rfl, e1, e2⟩ := gv_long hv h.1
    have := inI_ok g h.2 e1
    rw [← e2] at this
    exact ⟨h2, this⟩
  · rename_i h2
    simp only [Bool.and_eq_true, beq_iff_eq, List.contains_iff_mem] at h
    have := gv_ref hv h.1
    subst this
    exact ⟨h2, h.2⟩
  · cases h
def stK (RG : Nat → List Nat) (sy : Sy) (runs : List (Nat × Nat × Kd)) (i1 i2 : Nat) (a : Av) : Bool := runs.all fun q => decide (i2 < q.1) || decide (q.2.1 ≤ i1) || inK RG sy q.2.2 a
def mdK (md : Md) (k i1 i2 : Nat) : Bool := md.any fun m => m.1 == k && decide (m.2.1 ≤ i1) && decide (i2 < m.2.2)
theorem mdK_ok {k i1 i2 j : Nat} (h : mdK md k i1 i2 = true) (h1 : i1 ≤ j) (h2 : j ≤ i2) : cov md k j := by
  obtain ⟨m, hm, h3⟩ := List.any_eq_true.mp h
  simp only [Bool.and_eq_true, beq_iff_eq, decide_eq_true_eq] at h3
  exact ⟨m, hm, h3.1.1, by omega, by omega⟩
/-- a cell with one slot written -/
theorem prK_ok {c i1 j : Nat} (h : prK HT c i1 = false) (hj : i1 ≤ j) (hM : hxM HT = true) : ¬ prt c j := by
  simp only [prK, hM, Bool.and_true, Bool.or_eq_false_iff, Bool.and_eq_false_imp, beq_iff_eq, decide_eq_false_iff_not, Bool.or_eq_true] at h
  intro hp
  rcases hp with ⟨h1, h2⟩ | ⟨h1, h2⟩
  · have := h.1 h1
    omega
  · have := h.2 h1
    omega
theorem st_hI {h : Ph} {k j : Nat} {x' : Pc} {v : Value} (gI : hI HT RG n h) (hk : (HT k).1 < 4) (s1 : hsh (HT k) x') (s2 : pm_slot x' j = some v) (s3 : ∀ i, i ≠ j → pm_slot x' i = pm_slot (h k) i) (hv : ∀ q ∈ (HT k).2.2.2, q.1 ≤ j → j < q.2.1 → gk RG q.2.2 v) (hp : hxM HT = true → ¬ prt k j) (hy : hxM HT = true → yp h → yp (pm_u h k x')) : hI HT RG n (pm_u h k x') := by
  refine ⟨?_, fun hL => ?_⟩
  · intro c hc
    obtain ⟨g1, g2, g3⟩ := gI.1 c hc
    refine ⟨g1, ?_⟩
    by_cases hck : c = k
    · subst hck
      have e : pm_u h c x' c = x' := by simp [pm_u]
      rw [e]
      refine ⟨s1, fun q hq i hi1 hi2 => ?_⟩
      by_cases hij : i = j
      · subst hij
        exact ⟨v, s2, hv q hq hi1 hi2⟩
      · rw [s3 i hij]
        exact g3 q hq i hi1 hi2
    · have e : pm_u h k x' c = h c := by simp [pm_u, hck]
      rw [e]
      exact ⟨g2, g3⟩
  · refine ⟨xp_congr (fun c i hci => ?_) (gI.2 hL).1, hy hL (gI.2 hL).2⟩
    by_cases hck : c = k
    · subst hck
      have e : pm_u h c x' c = x' := by simp [pm_u]
      rw [e]
      exact s3 i (fun e => by subst e; exact hp hL hci)
    · have e : pm_u h k x' c = h c := by simp [pm_u, hck]
      rw [e]
theorem st_fr {h : Ph} {k j : Nat} {x' : Pc} (gF : fr md h0 h) (s3 : ∀ i, i ≠ j → pm_slot x' i = pm_slot (h k) i) (hc : cov md k j) : fr md h0 (pm_u h k x') := by
  intro c i hci
  rw [← gF c i hci]
  by_cases hck : c = k
  · subst hck
    have e : pm_u h c x' c = x' := by simp [pm_u]
    rw [e]
    exact s3 i (fun e => by subst e; exact hci hc)
  · have e : pm_u h k x' c = h c := by simp [pm_u, hck]
    rw [e]
def fdrop (fa : Fa) (k i1 i2 : Nat) : Fa := fa.filter fun q => !(q.1 == k && (decide (4294967295 ≤ q.2.1) || (decide (i1 ≤ q.2.1) && decide (q.2.1 ≤ i2))))
theorem st_gf {h : Ph} {k j i1 i2 : Nat} {x' : Pc} {fa : Fa} (gF : gf RG vs fa h) (s3 : ∀ i, i ≠ j → pm_slot x' i = pm_slot (h k) i) (h1 : i1 ≤ j) (h2 : j ≤ i2) : gf RG vs (fdrop fa k i1 i2) (pm_u h k x') := by
  intro q hq
  obtain ⟨hq1, hq2⟩ := List.mem_filter.mp hq
  by_cases hck : q.1 = k
  · simp only [hck, beq_self_eq_true, Bool.true_and, Bool.not_eq_true', Bool.or_eq_false_iff, decide_eq_false_iff_not, Bool.and_eq_false_imp, decide_eq_true_eq] at hq2
    have hne : q.2.1 ≠ 4294967295 := by omega
    obtain ⟨i, v, e0, e1, e2⟩ := gf1_v (gF q hq1) hne
    refine Or.inr ⟨hne, i, v, e0, ?_, e2⟩
    have e : pm_u h k x' q.1 = x' := by simp [pm_u, hck]
    rw [e, s3 i (fun e => ?_), ← hck]
    · exact e1
    · subst e
      rcases e0 with ⟨e3, e4⟩ | ⟨e3, -⟩
      · have := hq2.2 (by omega)
        omega
      · omega
  · have e : pm_u h k x' q.1 = h q.1 := by simp [pm_u, hck]
    have := gF q hq1
    unfold gf1 at this ⊢
    rw [e]
    exact this
theorem stK_ok {sy : Sy} {runs : List (Nat × Nat × Kd)} {i1 i2 j : Nat} {a : Av} {v : Value} (g : gs sy vs) (hv : gv RG vs a v) (h : stK RG sy runs i1 i2 a = true) (h1 : i1 ≤ j) (h2 : j ≤ i2) : ∀ q ∈ runs, q.1 ≤ j → j < q.2.1 → gk RG q.2.2 v := by
  intro q hq q1 q2
  have := List.all_eq_true.mp h q hq
  simp only [Bool.or_eq_true, decide_eq_true_eq] at this
  rcases this with (this | this) | this
  · omega
  · omega
  · exact inK_ok g hv this
def kKO : Hk := (1, 0, 30, [(0, 30, (0, 0, 0, 1000000))])
def isKO (q : Hk) : Bool := q.1 == 1 && q.2.1 == 0 && q.2.2.1 == 30 && (match q.2.2.2 with
  | [r] => r.1 == 0 && r.2.1 == 30 && r.2.2.1 == 0 && r.2.2.2.1 == 0 && decide (r.2.2.2.2.1 = 0) && decide (r.2.2.2.2.2 = 1000000)
  | _ => false)
theorem isKO_ok {q : Hk} (h : isKO q = true) : q = kKO := by
  obtain ⟨a, b, c, l⟩ := q
  simp only [isKO, Bool.and_eq_true, beq_iff_eq] at h
  obtain ⟨⟨⟨h1, h2⟩, h3⟩, h4⟩ := h
  subst h1 h2 h3
  match l, h4 with
  | [(r1, r2, r3, r4, r5, r6)], h4 =>
    simp only [Bool.and_eq_true, beq_iff_eq, decide_eq_true_eq] at h4
    obtain ⟨⟨⟨⟨⟨k1, k2⟩, k3⟩, k4⟩, k5⟩, k6⟩ := h4
    subst k1 k2 k3 k4 k5 k6
    rfl
theorem sum_rg {h : Ph} (gI : hI0 HT RG n h) (hK : HT cKO = kKO) : ∀ k, k ≤ 30 → 0 ≤ sumS (h cKO) k ∧ sumS (h cKO) k ≤ 1000000 * k
  | 0, _ => by simp [sumS]
  | k + 1, hk => by
    obtain ⟨h1, h2⟩ := sum_rg gI hK k (by omega)
    obtain ⟨-, -, g3⟩ := gI cKO (by rw [hK]; decide)
    rw [hK] at g3
    obtain ⟨v, e1, e2⟩ := g3 (0, 30, (0, 0, 0, 1000000)) List.mem_cons_self k (Nat.zero_le k) (by show k < 30; omega)
    unfold sumS
    rw [e1]
    cases v with
    | int x =>
      obtain ⟨-, h3, h4⟩ := e2
      have h3 : 0 ≤ x.toInt := h3
      have h4 : x.toInt ≤ 1000000 := h4
      dsimp only
      omega
    | long x => obtain ⟨h3, -⟩ := e2; cases h3
    | ref x => obtain ⟨h3, -⟩ := e2; cases h3
    | _ => exact False.elim e2
def cCP : Nat := 196
/-- the sum, taken up where the array comes onto the stack; how far the codes are nested, where the array beside them does -/
def itr (HT : Nat → Hk) (B : Ab) : Ab := match B.2.2.1 with
  | a :: _ => if a.1 = 2 ∧ a.2.1 = cCP ∧ (fkA B.2.2.2.2 cCO 4294967295).isNone = true then (B.1, B.2.1, B.2.2.1, B.2.2.2.1, (cCO, 4294967295, (0, 0, 1000)) :: B.2.2.2.2) else if a.1 = 2 ∧ a.2.1 = cKO ∧ (fkA B.2.2.2.2 cKO 4294967295).isNone = true ∧ isKO (HT cKO) = true then (B.1, B.2.1, B.2.2.1, B.2.2.2.1 ++ [(0, 30000000, 0, 0, 0)], (cKO, 4294967295, (0, B.2.2.2.1.length, 0)) :: B.2.2.2.2) else B
  | [] => B
theorem itr_ok {B : Ab} (g : ga HT RG n md h0 vs B cf) : ∃ ws, ga HT RG n md h0 (vs ++ ws) (itr HT B) cf := by
  obtain ⟨g0, g1, g2, g3, g4, g5, g6⟩ := g
  unfold itr
  split
  · split
    · refine ⟨[], ?_⟩
      rw [List.append_nil]
      refine ⟨g0, g1, g2, g3, ?_, g5, g6⟩
      intro q hq
      rcases List.mem_cons.mp hq with rfl | hq
      · refine Or.inl ⟨rfl, rfl, 0, g3.2.1, ?_⟩
        show smP cCO _ (0 + 1000)
        unfold smP
        rw [if_pos rfl]
        rfl
      · exact g4 q hq
    split
    · rename_i hc
      obtain ⟨s1, s2⟩ := sum_rg g5.1 (isKO_ok hc.2.2.2) 30 (Nat.le_refl 30)
      refine ⟨[sumS (cf.2.2.2 cKO) 30], g0, gl_app _ g1, gst_app _ g2, gs_push g3 ⟨s1, by show _ ≤ (30000000 : Int); omega, Or.inl rfl⟩, ?_, g5, g6⟩
      intro q hq
      rcases List.mem_cons.mp hq with rfl | hq
      · refine Or.inl ⟨rfl, rfl, _, ix_new g3, ?_⟩
        show smP cKO _ (_ + 0)
        unfold smP
        rw [if_neg (by decide)]
        exact (Int.add_zero _).symm
      · exact gf_app _ g4 q hq
    · exact ⟨[], by rw [List.append_nil]; exact ⟨g0, g1, g2, g3, g4, g5, g6⟩⟩
  · exact ⟨[], by rw [List.append_nil]; exact ⟨g0, g1, g2, g3, g4, g5, g6⟩⟩
/-- the sum behind a store -/
def sumD (sy : Sy) (fa : Fa) (k : Nat) (ky : Option Nat) (v : Av) : Option Se := if v.1 = 0 then (match ky with
  | none => none
  | some j => if j = 4294967295 then none else match fkA fa k j, fkA fa k 4294967295 with
    | some o, some t => if o.1 = 0 then (match dup sy v.2.1 o.2.1 v.2.2 o.2.2, dup sy o.2.1 v.2.1 o.2.2 v.2.2 with
      | some u, some l => some (0, 30000000, t.2.1 + 1, t.2.2 - l, t.2.2 + u)
      | _, _ => none) else none
    | _, _ => none) else none
def sumE (HT : Nat → Hk) (sy : Sy) (fa : Fa) (k : Nat) (ky : Option Nat) (v : Av) : Option Se := if k = cKO ∧ isKO (HT cKO) = true then (match sumD sy fa k ky v with
  | some e => some e
  | none => some (0, 30000000, 0, 0, 0)) else none
theorem sumE_ok {sy : Sy} {fa : Fa} {k j : Nat} {ky : Option Nat} {v : Av} {e : Se} {h : Ph} {x' : Pc} {u : Value} (g3 : gs sy vs) (g4 : gf RG vs fa h) (g5 : hI HT RG n h) (gn : hI HT RG n (pm_u h k x')) (hv : gv RG vs v u) (hk : ∀ j', ky = some j' → sIx vs j' j) (s2 : pm_slot x' j = some u) (s3 : ∀ i, i ≠ j → pm_slot x' i = pm_slot (h k) i) (hj : j < 30) (hE : sumE HT sy fa k ky v = some e) : k = cKO ∧ ge vs e (sumS (pm_u h k x' k) 30) := by
  unfold sumE at hE
  split at hE
  · rename_i hc
    obtain ⟨rfl, hK0⟩ := hc
    have hK := isKO_ok hK0
    refine ⟨rfl, ?_⟩
    obtain ⟨r1, r2⟩ := sum_rg gn.1 hK 30 (Nat.le_refl 30)
    cases hD : sumD sy fa cKO ky v with
    | none =>
      rw [hD] at hE
      cases hE
      exact ⟨r1, by show _ ≤ (30000000 : Int); omega, Or.inl rfl⟩
    | some e' =>
      rw [hD] at hE
      cases hE
      unfold sumD at hD
      split at hD
      · rename_i hv0
        split at hD
        · cases hD
        · rename_i j'
          have hs := hk j' rfl
          split at hD
          · cases hD
          · rename_i hne
            split at hD
            · rename_i o t ho ht
              split at hD
              · rename_i ho0
                split at hD
                · rename_i uu ll hu hl
                  cases hD
                  obtain ⟨i, vo, e0, e1, e2⟩ := gf1_v (g4 _ (fkA_mem ho)) hne
                  rw [sIx_fun e0 hs] at e1
                  obtain ⟨xo, wo, rfl, w1, w2⟩ := gv_int e2 ho0
                  obtain ⟨xv, wv, rfl, w3, w4⟩ := gv_int hv hv0
                  have e1 : pm_slot (h cKO) j = some (.int xo) := e1
                  rcases g4 _ (fkA_mem ht) with ⟨-, -, wt, t1, t2⟩ | ⟨q, -⟩
                  · have t2 : sumS (h cKO) 30 = wt + t.2.2 := by
                      have t2 : smP cKO (h cKO) (wt + t.2.2) := t2
                      unfold smP at t2
                      rw [if_neg (by decide)] at t2
                      exact t2
                    have t1 : vs[t.2.1]? = some wt := t1
                    have d1 := dup_ok g3 hu w3 w1
                    have d2 := dup_ok g3 hl w1 w3
                    have w2 : xo.toInt = wo + o.2.2 := w2
                    have ex : pm_u h cKO x' cKO = x' := by simp [pm_u]
                    rw [ex] at r1 r2 ⊢
                    have eq := sumS_upd e1 s2 s3 30
                    rw [if_pos hj] at eq
                    refine ⟨r1, by show _ ≤ (30000000 : Int); omega, Or.inr ⟨wt, t1, ?_, ?_⟩⟩
                    · show wt + (t.2.2 - ll) ≤ _
                      omega
                    · show _ ≤ wt + (t.2.2 + uu)
                      omega
                  · exact absurd rfl q
                · cases hD
              · cases hD
            · cases hD
      · cases hD
  · cases hE
/-- a code in an interval in which one step does as another -/
def nsV (lo hi : Int) (st : List Bool) : Option (List Bool) := if lo = hi ∨ (0 ≤ lo ∧ hi ≤ 19) ∨ 31 ≤ lo ∨ (20 ≤ lo ∧ hi ≤ 22) ∨ (24 ≤ lo ∧ hi ≤ 27) then nsStep lo st else none
theorem nsV_ok {lo hi c : Int} {st st' : List Bool} (h : nsV lo hi st = some st') (h1 : lo ≤ c) (h2 : c ≤ hi) : nsStep c st = some st' := by
  unfold nsV at h
  split at h
  · rename_i hc
    rw [← h]
    rcases hc with hc | hc | hc | hc | hc
    · rw [show c = lo from by omega]
    rotate_left
    rotate_left
    · unfold nsStep
      rw [if_neg (by omega), if_pos (by omega), if_neg (by omega), if_pos (by omega)]
    · unfold nsStep
      rw [if_neg (by omega), if_pos (by omega), if_neg (by omega), if_pos (by omega)]
    · unfold nsStep
      rw [if_neg (by omega), if_neg (by omega), if_neg (by omega), if_neg (by omega), if_neg (by omega), if_neg (by omega), if_neg (by omega), if_neg (by omega)]
    · unfold nsStep
      rw [if_neg (by omega), if_neg (by omega), if_neg (by omega), if_neg (by omega), if_neg (by omega), if_neg (by omega), if_neg (by omega), if_neg (by omega)]
  · cases h
/-- how far the codes are nested behind a store -/
def nkF (sy : Sy) (fa : Fa) (k : Nat) (i v : Av) : Fa := if k = cCO ∧ v.1 = 0 then (match fkA fa cCO 4294967295, iv sy v.2.1 v.2.2 with
  | some o, some p => if o.1 = 0 ∧ o.2.1 = i.2.1 ∧ (o.2.2 - i.2.2) % 4096 = 0 ∧ 0 ≤ o.2.2 - i.2.2 then (match nsV p.1 p.2 (stD 8 ((o.2.2 - i.2.2) / 4096).toNat) with
    | some st => if stD 8 (stE st) = st then [(cCO, 4294967295, (0, i.2.1, i.2.2 + 1 + 4096 * (stE st : Int)))] else []
    | none => []) else []
  | _, _ => []) else []
theorem nkF_ok {sy : Sy} {fa : Fa} {k j : Nat} {i v : Av} {h : Ph} {x' : Pc} {u : Value} {w : Int} (g3 : gs sy vs) (g4 : gf RG vs fa h) (hw : vs[i.2.1]? = some w) (hj : w + i.2.2 = (j : Int)) (hj1 : 1000 ≤ j) (hj2 : j < 4000) (hv : gv RG vs v u) (s2 : pm_slot x' j = some u) (s3 : ∀ l, l ≠ j → pm_slot x' l = pm_slot (h k) l) : gf RG vs (nkF sy fa k i v) (pm_u h k x') := by
  intro q hq
  unfold nkF at hq
  split at hq
  · rename_i hk
    obtain ⟨rfl, hv0⟩ := hk
    split at hq
    · rename_i o p ho hp
      split at hq
      · rename_i hc
        obtain ⟨c1, c2, c3, c4⟩ := hc
        split at hq
        · rename_i st hst
          split at hq
          · rename_i hs
            have := List.mem_singleton.mp hq
            subst this
            obtain ⟨xv, wv, rfl, w1, w2⟩ := gv_int hv hv0
            have b := iv_ok g3 hp w1
            rw [← w2] at b
            have hn := nsV_ok hst b.1 b.2
            refine Or.inl ⟨rfl, rfl, w, hw, ?_⟩
            show smP cCO (pm_u h cCO x' cCO) (w + (i.2.2 + 1 + 4096 * (stE st : Int)))
            rw [show pm_u h cCO x' cCO = x' from by simp [pm_u]]
            unfold smP
            rw [if_pos rfl]
            rcases g4 _ (fkA_mem ho) with ⟨-, -, w0, q1, q2⟩ | ⟨q1, -⟩
            · have q1 : vs[o.2.1]? = some w0 := q1
              rw [c2, hw] at q1
              cases q1
              have q2 : smP cCO (h cCO) (w + o.2.2) := q2
              unfold smP at q2
              rw [if_pos rfl] at q2
              unfold nsZ at q2 ⊢
              rw [show w + o.2.2 = (j : Int) + 4096 * ((o.2.2 - i.2.2) / 4096) from by omega, show (((j : Int) + 4096 * ((o.2.2 - i.2.2) / 4096)) % 4096).toNat = j from by omega, show (((j : Int) + 4096 * ((o.2.2 - i.2.2) / 4096)) / 4096).toNat = ((o.2.2 - i.2.2) / 4096).toNat from by omega] at q2
              rw [show ((w + (i.2.2 + 1 + 4096 * (stE st : Int))) % 4096).toNat = j + 1 from by omega, show ((w + (i.2.2 + 1 + 4096 * (stE st : Int))) / 4096).toNat = stE st from by omega, hs, show j + 1 - 1000 = (j - 1000) + 1 from by omega]
              refine nsRun_snoc _ _ _ (stD 8 ((o.2.2 - i.2.2) / 4096).toNat) _ ?_ ?_
              · rw [← q2]
                apply nsRun_congr
                intro l l1 l2
                unfold ivx
                rw [s3 l (by omega)]
              · rw [show 1000 + (j - 1000) = j from by omega]
                unfold ivx
                rw [s2]
                exact hn
            · exact absurd rfl q1
          · cases hq
        · cases hq
      · cases hq
    · cases hq
  · cases hq
/-- a store into what the law told is made of: behind it the law told is nested, or none -/
def yK (HT : Nat → Hk) (sy : Sy) (fa : Fa) (k i1 i2 : Nat) (ix : Option (Nat × Int)) (v : Av) : Bool := !prYK k || (if k = cCO then decide (i2 < 1000) || (match ix, fkA fa cM kCd, fkA fa cLT 1 with
    | some i, some c, some l => c.1 == 0 && c.2.1 == i.1 && decide (c.2.2 = i.2) && l.1 == 0 && inI sy (-2147483648) 1000 l
    | _, _, _ => false) else if k = cLT then decide (i2 < 1) || (v.1 == 0 && inI sy (-2147483648) 1000 v) || (v.1 == 0 && fkA fa cM kCd == some v) else decide (i2 < kCd) || decide (kCd < i1) || (v.1 == 0 && inI sy (-2147483648) 1000 v) || (v.1 == 0 && inI sy 0 4000 v && (match fkA fa cCO 4294967295 with
    | some o => o.1 == 0 && o.2.1 == v.2.1 && decide ((o.2.2 - v.2.2) % 4096 = 0)
    | none => false))) || !hxM HT
theorem prYK_ok {c j : Nat} (h : prYK c = false) : ¬ prY c j := by
  simp only [prYK, Bool.or_eq_false_iff, beq_eq_false_iff_ne] at h
  intro hp
  rcases hp with hp | hp | hp
  · exact h.1.1 hp.1
  · exact h.1.2 hp.1
  · exact h.2 hp.1
theorem fk_ivl {sy : Sy} {fa : Fa} {h : Ph} {c j : Nat} {a : Av} (hj : j < 4294967295) (g4 : gf RG vs fa h) (hf : fkA fa c j = some a) (h0 : a.1 = 0) : ∃ w, vs[a.2.1]? = some w ∧ ivl h c j = w + a.2.2 := by
  obtain ⟨i, v, e0, e1, e2⟩ := gf1_v (g4 _ (fkA_mem hf)) (by show j ≠ 4294967295; omega)
  obtain ⟨x, w, rfl, w1, w2⟩ := gv_int e2 h0
  refine ⟨w, w1, ?_⟩
  have hi : i = j := by
    rcases e0 with ⟨-, e0⟩ | ⟨e0, -⟩
    · exact e0
    · have e0 : 4294967296 ≤ j := e0
      omega
  subst hi
  unfold ivl
  rw [show pm_slot (h c) i = some (.int x) from e1]
  exact w2
theorem yp_off {h : Ph} {k j : Nat} {x' : Pc} (s3 : ∀ i, i ≠ j → pm_slot x' i = pm_slot (h k) i) (hn : ¬ prY k j) (hy : yp h) : yp (pm_u h k x') := by
  refine yp_congr (fun c i hci => ?_) hy
  by_cases hck : c = k
  · subst hck
    have e : pm_u h c x' c = x' := by simp [pm_u]
    rw [e]
    exact s3 i (fun e => by subst e; exact hn hci)
  · have e : pm_u h k x' c = h c := by simp [pm_u, hck]
    rw [e]
theorem yK_ok {sy : Sy} {fa : Fa} {h : Ph} {k j i1 i2 : Nat} {ix : Option (Nat × Int)} {v : Av} {u : Value} {x' : Pc} (g3 : gs sy vs) (g4 : gf RG vs fa h) (hv : gv RG vs v u) (s2 : pm_slot x' j = some u) (s3 : ∀ i, i ≠ j → pm_slot x' i = pm_slot (h k) i) (h1 : i1 ≤ j) (h2 : j ≤ i2) (hix : ∀ i, ix = some i → ∃ w, vs[i.1]? = some w ∧ w + i.2 = (j : Int)) (hk : yK HT sy fa k i1 i2 ix v = true) : hxM HT = true → yp h → yp (pm_u h k x') := by
  intro hM hy
  refine Classical.byCases (fun hpk : prY k j => ?_) (fun hpk => yp_off s3 hpk hy)
  have same : ∀ c i, c ≠ k → ivl (pm_u h k x') c i = ivl h c i := fun c i hc => by
    unfold ivl
    rw [show pm_u h k x' c = h c from by simp [pm_u, hc]]
  have hco : k ≠ cCO → ∀ b, nst h b → nst (pm_u h k x') b := fun hne b hb => nst_congr (fun i _ => by rw [show pm_u h k x' cCO = h cCO from by simp [pm_u, Ne.symm hne]]) hb
  unfold yK at hk
  simp only [hM, Bool.not_true, Bool.or_false, Bool.or_eq_true, Bool.not_eq_true'] at hk
  rcases hk with hk | hk
  · exact absurd hpk (prYK_ok hk)
  rcases hpk with ⟨rfl, hp⟩ | ⟨rfl, rfl⟩ | ⟨rfl, rfl⟩
  · rw [if_pos rfl] at hk
    simp only [Bool.or_eq_true, decide_eq_true_eq] at hk
    rcases hk with hk | hk
    · omega
    cases ix with
    | none => cases hk
    | some i =>
    cases hc : fkA fa cM kCd with
    | none => rw [hc] at hk; cases hk
    | some c =>
    cases hl : fkA fa cLT 1 with
    | none => rw [hc, hl] at hk; cases hk
    | some l =>
      rw [hc, hl] at hk
      simp only [Bool.and_eq_true, beq_iff_eq, decide_eq_true_eq] at hk
      obtain ⟨⟨⟨⟨k1, k2⟩, k3⟩, k4⟩, k5⟩ := hk
      obtain ⟨w, i1', i2'⟩ := hix i rfl
      obtain ⟨wc, c1, c2⟩ := fk_ivl (sy := sy) (by decide) g4 hc k1
      obtain ⟨wl, l1, l2⟩ := fk_ivl (sy := sy) (by decide) g4 hl k4
      rw [k2, i1'] at c1
      cases c1
      have := inI_ok g3 k5 l1
      unfold yp
      rw [same cM kCd (by decide), same cLT 1 (by decide)]
      refine ⟨?_, nst_le (by omega)⟩
      obtain ⟨st, hs⟩ := hy.1
      refine ⟨st, ?_⟩
      rw [← hs]
      apply nsRun_congr
      intro z z1 z2
      unfold ivl
      rw [show pm_u h cCO x' cCO = x' from by simp [pm_u], s3 z (by omega)]
  · rw [if_neg (by decide), if_pos rfl] at hk
    simp only [Bool.or_eq_true, Bool.and_eq_true, beq_iff_eq, decide_eq_true_eq] at hk
    have e1 : ∀ x : Int32, u = .int x → ivl (pm_u h cLT x') cLT 1 = x.toInt := fun x hx => by
      unfold ivl
      rw [show pm_u h cLT x' cLT = x' from by simp [pm_u], s2, hx]
    unfold yp
    rw [same cM kCd (by decide)]
    rcases hk with (hk | hk) | hk
    · omega
    · obtain ⟨x, w, hx, w1, w2⟩ := gv_int hv hk.1
      have := inI_ok g3 hk.2 w1
      rw [e1 x hx]
      exact ⟨hco (by decide) _ hy.1, nst_le (by omega)⟩
    · obtain ⟨x, w, hx, w1, w2⟩ := gv_int hv hk.1
      obtain ⟨w', q1, q2⟩ := fk_ivl (sy := sy) (by decide) g4 hk.2 hk.1
      rw [w1] at q1
      cases q1
      rw [e1 x hx, w2, ← q2]
      exact ⟨hco (by decide) _ hy.1, hco (by decide) _ hy.1⟩
  · rw [if_neg (by decide), if_neg (by decide)] at hk
    simp only [Bool.or_eq_true, Bool.and_eq_true, beq_iff_eq, decide_eq_true_eq] at hk
    rcases hk with ((hk | hk) | hk) | hk
    · omega
    · omega
    rotate_left
    · obtain ⟨⟨k0, k1⟩, hk⟩ := hk
      obtain ⟨x, w, hx, w1, w2⟩ := gv_int hv k0
      have hb := inI_ok g3 k1 w1
      split at hk
      · rename_i o ho
        simp only [Bool.and_eq_true, beq_iff_eq, decide_eq_true_eq] at hk
        obtain ⟨⟨k2, k3⟩, k4⟩ := hk
        have e1 : ivl (pm_u h cM x') cM kCd = x.toInt := by
          unfold ivl
          rw [show pm_u h cM x' cM = x' from by simp [pm_u], s2, hx]
        unfold yp
        rw [e1, same cLT 1 (by decide)]
        refine ⟨hco (by decide) _ ?_, hco (by decide) _ hy.2⟩
        rcases g4 _ (fkA_mem ho) with ⟨-, -, w0, q1, q2⟩ | ⟨q1, -⟩
        · have q1 : vs[o.2.1]? = some w0 := q1
          rw [k3, w1] at q1
          cases q1
          have q2 : smP cCO (h cCO) (w + o.2.2) := q2
          unfold smP at q2
          rw [if_pos rfl] at q2
          unfold nsZ at q2
          refine ⟨stD 8 ((w + o.2.2) / 4096).toNat, ?_⟩
          rw [show x.toInt.toNat = ((w + o.2.2) % 4096).toNat from by omega]
          exact q2
        · exact absurd rfl q1
      · cases hk
    · obtain ⟨x, w, hx, w1, w2⟩ := gv_int hv hk.1
      have := inI_ok g3 hk.2 w1
      have e1 : ivl (pm_u h cM x') cM kCd = x.toInt := by
        unfold ivl
        rw [show pm_u h cM x' cM = x' from by simp [pm_u], s2, hx]
      unfold yp
      rw [e1, same cLT 1 (by decide)]
      exact ⟨nst_le (by omega), hco (by decide) _ hy.2⟩
end Hp
