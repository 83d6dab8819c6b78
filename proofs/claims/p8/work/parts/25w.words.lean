/-! what `learn` writes, exactly -/
def sgn (K j : Nat) : Int32 := ((((stB.getD K []).getD j 0) &&& 255).toUInt32 % 65536).toInt32
def lnD (x : Int32) : Bool := decide (¬ x < 97) && decide (¬ x > 122)
def lnW (w : Int64) (x : Int32) : Int64 := (w <<< ((5 : Int32).toInt64 &&& 63)) ||| ((x - 97) + 1).toInt64
def lnP (K j : Nat) (u : Nat × (Nat → Int64)) : Nat × (Nat → Int64) :=
  if 28 ≤ u.1 then u else if lnD (sgn K j) = true then (u.1, vp_updL u.2 u.1 (lnW (u.2 u.1) (sgn K j))) else (u.1 + 1, u.2)
def lnS (K : Nat) : Nat → Nat × (Nat → Int64) → Nat × (Nat → Int64)
  | 0, u => u
  | j + 1, u => lnP K j (lnS K j u)
theorem ln_i0 {x : Int32} (h : x < 97) : (0 : Int32) = (if lnD x = true then (1 : Int32) else 0) := by
  have : lnD x = false := by unfold lnD; simp [h]
  rw [this]; rfl
theorem ln_i1 {x : Int32} (h : x > 122) : (0 : Int32) = (if lnD x = true then (1 : Int32) else 0) := by
  have : lnD x = false := by unfold lnD; simp [h]
  rw [this]; rfl
theorem ln_i2 {x : Int32} (h : ¬ x < 97) (h2 : ¬ x > 122) : (1 : Int32) = (if lnD x = true then (1 : Int32) else 0) := by
  have : lnD x = true := by unfold lnD; rw [decide_eq_true h, decide_eq_true h2]; rfl
  rw [this]; rfl
theorem ln_f {x : Int32} (h : (0 : Int32) = (if lnD x = true then (1 : Int32) else 0)) : lnD x = false := by
  cases hx : lnD x with
  | false => rfl
  | true => rw [hx] at h; exact absurd h (by decide)
theorem ln_t {x r : Int32} (h : r = (if lnD x = true then (1 : Int32) else 0)) (hr : ¬ r = 0) : lnD x = true := by
  cases hx : lnD x with
  | true => rfl
  | false => rw [hx] at h; exact absurd h hr
theorem ln_skip {K k a : Nat} {f8 : Nat → Int64} {u : Nat × (Nat → Int64)} (h : (a, f8) = lnS K k u) (ha : ¬ 28 ≤ a) (hx : lnD (sgn K k) = false) : (a + 1, f8) = lnS K (k + 1) u := by
  show _ = lnP K k (lnS K k u)
  rw [← h]; unfold lnP
  rw [if_neg ha, hx]; rfl
theorem ln_put {K k a : Nat} {f8 : Nat → Int64} {u : Nat × (Nat → Int64)} (h : (a, f8) = lnS K k u) (ha : ¬ 28 ≤ a) (hx : lnD (sgn K k) = true) : (a, vp_updL f8 a (lnW (f8 a) (sgn K k))) = lnS K (k + 1) u := by
  show _ = lnP K k (lnS K k u)
  rw [← h]; unfold lnP
  rw [if_neg ha, hx]; rfl
theorem ln_stay {K a : Nat} {f8 : Nat → Int64} {u : Nat × (Nat → Int64)} (ha : 28 ≤ a) : ∀ (d k : Nat), (a, f8) = lnS K k u → (a, f8) = lnS K (k + d) u := by
  intro d
  induction d with
  | zero => intro k h; exact h
  | succ d ih =>
    intro k h
    have := ih k h
    show _ = lnP K (k + d) (lnS K (k + d) u)
    rw [← this]; unfold lnP
    rw [if_pos ha]
theorem ln_end {K k a n : Nat} {f8 : Nat → Int64} {u : Nat × (Nat → Int64)} (ha : 28 ≤ a) (hk : k ≤ n) (h : (a, f8) = lnS K k u) : (a, f8) = lnS K n u := by
  have := ln_stay ha (n - k) k h
  rwa [show k + (n - k) = n by omega] at this
def fkT : Nat → Int64 := (lnS 2 17 (lnS 1 38 (lnS 0 97 (0, fun _ => 0)))).2
/-! the same over lists, to be reckoned -/
def lqP (K j : Nat) (u : Nat × List Int64) : Nat × List Int64 :=
  if 28 ≤ u.1 then u else if lnD (sgn K j) = true then (u.1, u.2.set u.1 (lnW (u.2.getD u.1 0) (sgn K j))) else (u.1 + 1, u.2)
def lqR (u : Nat × (Nat → Int64)) (v : Nat × List Int64) : Prop := u.1 = v.1 ∧ v.2.length = 28 ∧ ∀ q, q < 28 → u.2 q = v.2.getD q 0
theorem lqR_P {K j : Nat} {u : Nat × (Nat → Int64)} {v : Nat × List Int64} (h : lqR u v) : lqR (lnP K j u) (lqP K j v) := by
  obtain ⟨a, f⟩ := u
  obtain ⟨b, L⟩ := v
  obtain ⟨h1, h2, h3⟩ := h
  dsimp only at h1 h2 h3
  subst h1
  unfold lnP lqP
  dsimp only
  by_cases ha : 28 ≤ a
  · rw [if_pos ha, if_pos ha]; exact ⟨rfl, h2, h3⟩
  · rw [if_neg ha, if_neg ha]
    by_cases hx : lnD (sgn K j) = true
    · rw [if_pos hx, if_pos hx]
      refine ⟨rfl, by simpa using h2, fun q hq => ?_⟩
      dsimp only
      unfold vp_updL
      rw [h3 a (by omega)]
      by_cases e : q = a
      · subst e
        rw [if_pos rfl]
        show _ = ((L.set q _)[q]?).getD 0
        rw [List.getElem?_set_self (by omega)]
        rfl
      · rw [if_neg e, h3 q hq]
        show (L[q]?).getD 0 = ((L.set a _)[q]?).getD 0
        rw [List.getElem?_set_ne (fun z => e z.symm)]
    · rw [if_neg hx, if_neg hx]
      exact ⟨rfl, h2, h3⟩
def lqS (K : Nat) : Nat → Nat → Nat × List Int64 → Nat × List Int64
  | _, 0, v => v
  | j, n + 1, v => lqS K (j + 1) n (lqP K j v)
theorem lqR_S {K : Nat} {u : Nat × (Nat → Int64)} : ∀ (n j : Nat) {v : Nat × List Int64}, lqR (lnS K j u) v → lqR (lnS K (j + n) u) (lqS K j n v) := by
  intro n
  induction n with
  | zero => intro j v h; exact h
  | succ n ih =>
    intro j v h
    have := ih (j + 1) (v := lqP K j v) (lqR_P h)
    rwa [show j + 1 + n = j + (n + 1) by omega] at this
theorem lqR_to {K j n : Nat} {u : Nat × (Nat → Int64)} {v w : Nat × List Int64} (h : lqR (lnS K j u) v) (e : lqS K j n v = w) : lqR (lnS K (j + n) u) w := by
  rw [← e]; exact lqR_S n j h

theorem fq_0 : lqR (lnS 0 0 (0, fun _ => 0)) (0, [0, 0, 0, 0, 0, 0, 0, 0, 0, 0, 0, 0, 0, 0, 0, 0, 0, 0, 0, 0, 0, 0, 0, 0, 0, 0, 0, 0]) := ⟨rfl, rfl, fun q hq => by
  have : ∀ q, q < 28 → ([0, 0, 0, 0, 0, 0, 0, 0, 0, 0, 0, 0, 0, 0, 0, 0, 0, 0, 0, 0, 0, 0, 0, 0, 0, 0, 0, 0] : List Int64).getD q 0 = 0 := by decide
  exact (this q hq).symm⟩
theorem fq_1 : lqR (lnS 0 4 (0, fun _ => 0)) (0, [278195, 0, 0, 0, 0, 0, 0, 0, 0, 0, 0, 0, 0, 0, 0, 0, 0, 0, 0, 0, 0, 0, 0, 0, 0, 0, 0, 0]) := lqR_to (n := 4) fq_0 (by decide +kernel)
theorem fq_2 : lqR (lnS 0 8 (0, fun _ => 0)) (1, [8902245, 204, 0, 0, 0, 0, 0, 0, 0, 0, 0, 0, 0, 0, 0, 0, 0, 0, 0, 0, 0, 0, 0, 0, 0, 0, 0, 0]) := lqR_to (n := 4) fq_1 (by decide +kernel)
theorem fq_3 : lqR (lnS 0 12 (0, fun _ => 0)) (1, [8902245, 214416979, 0, 0, 0, 0, 0, 0, 0, 0, 0, 0, 0, 0, 0, 0, 0, 0, 0, 0, 0, 0, 0, 0, 0, 0, 0, 0]) := lqR_to (n := 4) fq_2 (by decide +kernel)
theorem fq_4 : lqR (lnS 0 16 (0, fun _ => 0)) (2, [8902245, 214416979, 6537, 0, 0, 0, 0, 0, 0, 0, 0, 0, 0, 0, 0, 0, 0, 0, 0, 0, 0, 0, 0, 0, 0, 0, 0, 0]) := lqR_to (n := 4) fq_3 (by decide +kernel)
theorem fq_5 : lqR (lnS 0 20 (0, fun _ => 0)) (3, [8902245, 214416979, 214211860, 0, 0, 0, 0, 0, 0, 0, 0, 0, 0, 0, 0, 0, 0, 0, 0, 0, 0, 0, 0, 0, 0, 0, 0, 0]) := lqR_to (n := 4) fq_4 (by decide +kernel)
theorem fq_6 : lqR (lnS 0 24 (0, fun _ => 0)) (3, [8902245, 214416979, 214211860, 599653, 0, 0, 0, 0, 0, 0, 0, 0, 0, 0, 0, 0, 0, 0, 0, 0, 0, 0, 0, 0, 0, 0, 0, 0]) := lqR_to (n := 4) fq_5 (by decide +kernel)
theorem fq_7 : lqR (lnS 0 28 (0, fun _ => 0)) (4, [8902245, 214416979, 214211860, 599653, 15492, 0, 0, 0, 0, 0, 0, 0, 0, 0, 0, 0, 0, 0, 0, 0, 0, 0, 0, 0, 0, 0, 0, 0]) := lqR_to (n := 4) fq_6 (by decide +kernel)
theorem fq_8 : lqR (lnS 0 32 (0, fun _ => 0)) (5, [8902245, 214416979, 214211860, 599653, 495763, 648, 0, 0, 0, 0, 0, 0, 0, 0, 0, 0, 0, 0, 0, 0, 0, 0, 0, 0, 0, 0, 0, 0]) := lqR_to (n := 4) fq_7 (by decide +kernel)
theorem fq_9 : lqR (lnS 0 36 (0, fun _ => 0)) (6, [8902245, 214416979, 214211860, 599653, 495763, 21243335, 0, 0, 0, 0, 0, 0, 0, 0, 0, 0, 0, 0, 0, 0, 0, 0, 0, 0, 0, 0, 0, 0]) := lqR_to (n := 4) fq_8 (by decide +kernel)
theorem fq_10 : lqR (lnS 0 40 (0, fun _ => 0)) (6, [8902245, 214416979, 214211860, 599653, 495763, 21243335, 402644, 0, 0, 0, 0, 0, 0, 0, 0, 0, 0, 0, 0, 0, 0, 0, 0, 0, 0, 0, 0, 0]) := lqR_to (n := 4) fq_9 (by decide +kernel)
theorem fq_11 : lqR (lnS 0 44 (0, fun _ => 0)) (7, [8902245, 214416979, 214211860, 599653, 495763, 21243335, 12884627, 52, 0, 0, 0, 0, 0, 0, 0, 0, 0, 0, 0, 0, 0, 0, 0, 0, 0, 0, 0, 0]) := lqR_to (n := 4) fq_10 (by decide +kernel)
theorem fq_12 : lqR (lnS 0 48 (0, fun _ => 0)) (8, [8902245, 214416979, 214211860, 599653, 495763, 21243335, 12884627, 52, 16562, 0, 0, 0, 0, 0, 0, 0, 0, 0, 0, 0, 0, 0, 0, 0, 0, 0, 0, 0]) := lqR_to (n := 4) fq_11 (by decide +kernel)
theorem fq_13 : lqR (lnS 0 52 (0, fun _ => 0)) (9, [8902245, 214416979, 214211860, 599653, 495763, 21243335, 12884627, 52, 542723566, 0, 0, 0, 0, 0, 0, 0, 0, 0, 0, 0, 0, 0, 0, 0, 0, 0, 0, 0]) := lqR_to (n := 4) fq_12 (by decide +kernel)
theorem fq_14 : lqR (lnS 0 56 (0, fun _ => 0)) (9, [8902245, 214416979, 214211860, 599653, 495763, 21243335, 12884627, 52, 542723566, 594979, 0, 0, 0, 0, 0, 0, 0, 0, 0, 0, 0, 0, 0, 0, 0, 0, 0, 0]) := lqR_to (n := 4) fq_13 (by decide +kernel)
theorem fq_15 : lqR (lnS 0 60 (0, fun _ => 0)) (10, [8902245, 214416979, 214211860, 599653, 495763, 21243335, 12884627, 52, 542723566, 19039336, 648, 0, 0, 0, 0, 0, 0, 0, 0, 0, 0, 0, 0, 0, 0, 0, 0, 0]) := lqR_to (n := 4) fq_14 (by decide +kernel)
theorem fq_16 : lqR (lnS 0 64 (0, fun _ => 0)) (10, [8902245, 214416979, 214211860, 599653, 495763, 21243335, 12884627, 52, 542723566, 19039336, 680083187, 0, 0, 0, 0, 0, 0, 0, 0, 0, 0, 0, 0, 0, 0, 0, 0, 0]) := lqR_to (n := 4) fq_15 (by decide +kernel)
theorem fq_17 : lqR (lnS 0 68 (0, fun _ => 0)) (11, [8902245, 214416979, 214211860, 599653, 495763, 21243335, 12884627, 52, 542723566, 19039336, 680083187, 23598, 0, 0, 0, 0, 0, 0, 0, 0, 0, 0, 0, 0, 0, 0, 0, 0]) := lqR_to (n := 4) fq_16 (by decide +kernel)
theorem fq_18 : lqR (lnS 0 72 (0, fun _ => 0)) (12, [8902245, 214416979, 214211860, 599653, 495763, 21243335, 12884627, 52, 542723566, 19039336, 680083187, 24165011, 8, 0, 0, 0, 0, 0, 0, 0, 0, 0, 0, 0, 0, 0, 0, 0]) := lqR_to (n := 4) fq_17 (by decide +kernel)
theorem fq_19 : lqR (lnS 0 76 (0, fun _ => 0)) (13, [8902245, 214416979, 214211860, 599653, 495763, 21243335, 12884627, 52, 542723566, 19039336, 680083187, 24165011, 271756, 0, 0, 0, 0, 0, 0, 0, 0, 0, 0, 0, 0, 0, 0, 0]) := lqR_to (n := 4) fq_18 (by decide +kernel)
theorem fq_20 : lqR (lnS 0 80 (0, fun _ => 0)) (13, [8902245, 214416979, 214211860, 599653, 495763, 21243335, 12884627, 52, 542723566, 19039336, 680083187, 24165011, 271756, 526131, 0, 0, 0, 0, 0, 0, 0, 0, 0, 0, 0, 0, 0, 0]) := lqR_to (n := 4) fq_19 (by decide +kernel)
theorem fq_21 : lqR (lnS 0 84 (0, fun _ => 0)) (14, [8902245, 214416979, 214211860, 599653, 495763, 21243335, 12884627, 52, 542723566, 19039336, 680083187, 24165011, 271756, 526131, 8353, 0, 0, 0, 0, 0, 0, 0, 0, 0, 0, 0, 0, 0]) := lqR_to (n := 4) fq_20 (by decide +kernel)
theorem fq_22 : lqR (lnS 0 88 (0, fun _ => 0)) (15, [8902245, 214416979, 214211860, 599653, 495763, 21243335, 12884627, 52, 542723566, 19039336, 680083187, 24165011, 271756, 526131, 267312, 737, 0, 0, 0, 0, 0, 0, 0, 0, 0, 0, 0, 0]) := lqR_to (n := 4) fq_21 (by decide +kernel)
theorem fq_23 : lqR (lnS 0 92 (0, fun _ => 0)) (16, [8902245, 214416979, 214211860, 599653, 495763, 21243335, 12884627, 52, 542723566, 19039336, 680083187, 24165011, 271756, 526131, 267312, 755083, 16, 0, 0, 0, 0, 0, 0, 0, 0, 0, 0, 0]) := lqR_to (n := 4) fq_22 (by decide +kernel)
theorem fq_24 : lqR (lnS 0 96 (0, fun _ => 0)) (16, [8902245, 214416979, 214211860, 599653, 495763, 21243335, 12884627, 52, 542723566, 19039336, 680083187, 24165011, 271756, 526131, 267312, 755083, 17376357, 0, 0, 0, 0, 0, 0, 0, 0, 0, 0, 0]) := lqR_to (n := 4) fq_23 (by decide +kernel)
theorem fq_25 : lqR (lnS 0 97 (0, fun _ => 0)) (17, [8902245, 214416979, 214211860, 599653, 495763, 21243335, 12884627, 52, 542723566, 19039336, 680083187, 24165011, 271756, 526131, 267312, 755083, 17376357, 0, 0, 0, 0, 0, 0, 0, 0, 0, 0, 0]) := lqR_to (n := 1) fq_24 (by decide +kernel)
theorem fq_26 : lqR (lnS 1 0 (lnS 0 97 (0, fun _ => 0))) (17, [8902245, 214416979, 214211860, 599653, 495763, 21243335, 12884627, 52, 542723566, 19039336, 680083187, 24165011, 271756, 526131, 267312, 755083, 17376357, 0, 0, 0, 0, 0, 0, 0, 0, 0, 0, 0]) := fq_25
theorem fq_27 : lqR (lnS 1 4 (lnS 0 97 (0, fun _ => 0))) (17, [8902245, 214416979, 214211860, 599653, 495763, 21243335, 12884627, 52, 542723566, 19039336, 680083187, 24165011, 271756, 526131, 267312, 755083, 17376357, 643233, 0, 0, 0, 0, 0, 0, 0, 0, 0, 0]) := lqR_to (n := 4) fq_26 (by decide +kernel)
theorem fq_28 : lqR (lnS 1 8 (lnS 0 97 (0, fun _ => 0))) (18, [8902245, 214416979, 214211860, 599653, 495763, 21243335, 12884627, 52, 542723566, 19039336, 680083187, 24165011, 271756, 526131, 267312, 755083, 17376357, 20583468, 85, 0, 0, 0, 0, 0, 0, 0, 0, 0]) := lqR_to (n := 4) fq_27 (by decide +kernel)
theorem fq_29 : lqR (lnS 1 12 (lnS 0 97 (0, fun _ => 0))) (19, [8902245, 214416979, 214211860, 599653, 495763, 21243335, 12884627, 52, 542723566, 19039336, 680083187, 24165011, 271756, 526131, 267312, 755083, 17376357, 20583468, 2794884, 0, 0, 0, 0, 0, 0, 0, 0, 0]) := lqR_to (n := 4) fq_28 (by decide +kernel)
theorem fq_30 : lqR (lnS 1 16 (lnS 0 97 (0, fun _ => 0))) (20, [8902245, 214416979, 214211860, 599653, 495763, 21243335, 12884627, 52, 542723566, 19039336, 680083187, 24165011, 271756, 526131, 267312, 755083, 17376357, 20583468, 2794884, 239, 3, 0, 0, 0, 0, 0, 0, 0]) := lqR_to (n := 4) fq_29 (by decide +kernel)
theorem fq_31 : lqR (lnS 1 20 (lnS 0 97 (0, fun _ => 0))) (20, [8902245, 214416979, 214211860, 599653, 495763, 21243335, 12884627, 52, 542723566, 19039336, 680083187, 24165011, 271756, 526131, 267312, 755083, 17376357, 20583468, 2794884, 239, 3197529, 0, 0, 0, 0, 0, 0, 0]) := lqR_to (n := 4) fq_30 (by decide +kernel)
theorem fq_32 : lqR (lnS 1 24 (lnS 0 97 (0, fun _ => 0))) (21, [8902245, 214416979, 214211860, 599653, 495763, 21243335, 12884627, 52, 542723566, 19039336, 680083187, 24165011, 271756, 526131, 267312, 755083, 17376357, 20583468, 2794884, 239, 3197529, 14631, 0, 0, 0, 0, 0, 0]) := lqR_to (n := 4) fq_31 (by decide +kernel)
theorem fq_33 : lqR (lnS 1 28 (lnS 0 97 (0, fun _ => 0))) (22, [8902245, 214416979, 214211860, 599653, 495763, 21243335, 12884627, 52, 542723566, 19039336, 680083187, 24165011, 271756, 526131, 267312, 755083, 17376357, 20583468, 2794884, 239, 3197529, 14982420, 14, 0, 0, 0, 0, 0]) := lqR_to (n := 4) fq_32 (by decide +kernel)
theorem fq_34 : lqR (lnS 1 32 (lnS 0 97 (0, fun _ => 0))) (23, [8902245, 214416979, 214211860, 599653, 495763, 21243335, 12884627, 52, 542723566, 19039336, 680083187, 24165011, 271756, 526131, 267312, 755083, 17376357, 20583468, 2794884, 239, 3197529, 14982420, 14836, 1, 0, 0, 0, 0]) := lqR_to (n := 4) fq_33 (by decide +kernel)
theorem fq_35 : lqR (lnS 1 36 (lnS 0 97 (0, fun _ => 0))) (24, [8902245, 214416979, 214211860, 599653, 495763, 21243335, 12884627, 52, 542723566, 19039336, 680083187, 24165011, 271756, 526131, 267312, 755083, 17376357, 20583468, 2794884, 239, 3197529, 14982420, 14836, 1476, 15, 0, 0, 0]) := lqR_to (n := 4) fq_34 (by decide +kernel)
theorem fq_36 : lqR (lnS 1 38 (lnS 0 97 (0, fun _ => 0))) (25, [8902245, 214416979, 214211860, 599653, 495763, 21243335, 12884627, 52, 542723566, 19039336, 680083187, 24165011, 271756, 526131, 267312, 755083, 17376357, 20583468, 2794884, 239, 3197529, 14982420, 14836, 1476, 498, 0, 0, 0]) := lqR_to (n := 2) fq_35 (by decide +kernel)
theorem fq_37 : lqR (lnS 2 0 (lnS 1 38 (lnS 0 97 (0, fun _ => 0)))) (25, [8902245, 214416979, 214211860, 599653, 495763, 21243335, 12884627, 52, 542723566, 19039336, 680083187, 24165011, 271756, 526131, 267312, 755083, 17376357, 20583468, 2794884, 239, 3197529, 14982420, 14836, 1476, 498, 0, 0, 0]) := fq_36
theorem fq_38 : lqR (lnS 2 4 (lnS 1 38 (lnS 0 97 (0, fun _ => 0)))) (25, [8902245, 214416979, 214211860, 599653, 495763, 21243335, 12884627, 52, 542723566, 19039336, 680083187, 24165011, 271756, 526131, 267312, 755083, 17376357, 20583468, 2794884, 239, 3197529, 14982420, 14836, 1476, 498, 271592, 0, 0]) := lqR_to (n := 4) fq_37 (by decide +kernel)
theorem fq_39 : lqR (lnS 2 8 (lnS 1 38 (lnS 0 97 (0, fun _ => 0)))) (26, [8902245, 214416979, 214211860, 599653, 495763, 21243335, 12884627, 52, 542723566, 19039336, 680083187, 24165011, 271756, 526131, 267312, 755083, 17376357, 20583468, 2794884, 239, 3197529, 14982420, 14836, 1476, 498, 271592, 14631, 0]) := lqR_to (n := 4) fq_38 (by decide +kernel)
theorem fq_40 : lqR (lnS 2 12 (lnS 1 38 (lnS 0 97 (0, fun _ => 0)))) (27, [8902245, 214416979, 214211860, 599653, 495763, 21243335, 12884627, 52, 542723566, 19039336, 680083187, 24165011, 271756, 526131, 267312, 755083, 17376357, 20583468, 2794884, 239, 3197529, 14982420, 14836, 1476, 498, 271592, 479437459, 0]) := lqR_to (n := 4) fq_39 (by decide +kernel)
theorem fq_41 : lqR (lnS 2 16 (lnS 1 38 (lnS 0 97 (0, fun _ => 0)))) (27, [8902245, 214416979, 214211860, 599653, 495763, 21243335, 12884627, 52, 542723566, 19039336, 680083187, 24165011, 271756, 526131, 267312, 755083, 17376357, 20583468, 2794884, 239, 3197529, 14982420, 14836, 1476, 498, 271592, 479437459, 245189]) := lqR_to (n := 4) fq_40 (by decide +kernel)
theorem fq_42 : lqR (lnS 2 17 (lnS 1 38 (lnS 0 97 (0, fun _ => 0)))) (28, [8902245, 214416979, 214211860, 599653, 495763, 21243335, 12884627, 52, 542723566, 19039336, 680083187, 24165011, 271756, 526131, 267312, 755083, 17376357, 20583468, 2794884, 239, 3197529, 14982420, 14836, 1476, 498, 271592, 479437459, 245189]) := lqR_to (n := 1) fq_41 (by decide +kernel)
def FKL : List Int64 := [8902245, 214416979, 214211860, 599653, 495763, 21243335, 12884627, 52, 542723566, 19039336, 680083187, 24165011, 271756, 526131, 267312, 755083, 17376357, 20583468, 2794884, 239, 3197529, 14982420, 14836, 1476, 498, 271592, 479437459, 245189]
theorem fkT_L : ∀ q, q < 28 → fkT q = FKL.getD q 0 := fq_42.2.2
