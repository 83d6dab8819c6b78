/-! a law of price, read -/
theorem eM_bd {T : Nat → Int} {n b : Nat} (h : eQ T n b = 3) : 0 ≤ eM T n b ∧ eM T n b ≤ 9999 := by
  have h0 := h
  unfold eQ at h
  split at h
  · cases h
  · rename_i hb
    split at h
    · split at h <;> cases h
    · split at h
      · rename_i hd
        split at h
        · rename_i hl
          have := nbs_bd (T := T) (b := b) (ze zDg T n b - b) (fun i hi => ze_all (n := n) _ b rfl (by omega) (b + i) (by omega) (by omega))
          have h2 := this.2 (by omega)
          have h3 : (10 : Int) ^ (ze zDg T n b - b) ≤ 10 ^ 4 := by
            have : (10 : Nat) ^ (ze zDg T n b - b) ≤ 10 ^ 4 := Nat.pow_le_pow_right (by decide) (by omega)
            exact_mod_cast this
          unfold eM
          exact ⟨this.1, by have : (10 : Int) ^ 4 = 10000 := by decide
                            omega⟩
        · cases h
      · split at h <;> cases h
def prF (u : Nat) (s s' : Zs) : Prop := ∀ c j, ¬ (c = 1 ∧ (j = 1 ∨ 4 ≤ j)) → ¬ (c = u ∧ j = 1) → c ≠ u + 1 → s' c j = s c j
theorem prF_rf (u : Nat) (s : Zs) : prF u s s := fun _ _ _ _ _ => rfl
theorem prF_tr {u : Nat} {s s' s'' : Zs} (h1 : prF u s s') (h2 : prF u s' s'') : prF u s s'' := fun c j a b d => (h2 c j a b d).trans (h1 c j a b d)
theorem prF_F {u : Nat} {s s' : Zs} (h : frF s s') : prF u s s' := fun c j a _ _ => h c j a
section Zpr
variable {T : Nat → Int} {n u : Nat}
theorem add_ok {N : Nat} {v : Int} {s : Zs} {y : PS} (hu : u = 36 ∨ u = 72) (h : pst s T n y) (hs : 0 ≤ s u 1) : zC N 512 [((u : Int), 0), (v, 0)] s (fun r => r.1 = [] ∧ prF u s r.2 ∧ pst r.2 T n y ∧ 1 ≤ r.2 u 1) := by
  have e0 : zrho u 0 = u + 1 := zp4_0 hu
  refine c_X4_add (b_X4_add_0 v s hu (fun g => ?_) (fun g => ?_))
  · rw [e0, zp4_len hu] at g
    exact ⟨rfl, prF_rf u s, h, by show 1 ≤ s u 1; omega⟩
  · rw [e0, zp4_len hu] at g
    rw [e0, zu_n (s := s) (c := u + 1) (by omega), w32_id (by omega) (by omega)]
    have f : prF u s (zu (zu s (u + 1) (s u 1).toNat v) u 1 (s u 1 + 1)) := fun c j a b d => by rw [zu_n (by omega), zu_n (by omega)]
    refine ⟨rfl, f, pst_T h (fun c j hc => by show zu (zu s (u + 1) (s u 1).toNat v) u 1 (s u 1 + 1) c j = _; rw [zu_n (by omega), zu_n (by omega)]), ?_⟩
    show 1 ≤ zu (zu s (u + 1) (s u 1).toNat v) u 1 (s u 1 + 1) u 1
    rw [zu_eq]
    omega
/-- no join of this level and those above it -/
def nj (T : Nat → Int) (n lv : Nat) (c : Bool) (p : Nat) : Prop := ∀ k, lv ≤ k → k < 4 → (k = 1 → c = false) → jn T n k (kB T n p) = false
def qR (T : Nat → Int) (n u : Nat) (x : PS) (l : List (Bool × Bool)) (R : PS → Prop) (s : Zs) (r : Zr) : Prop := r.1 = [] ∧ prF u s r.2 ∧ ∃ y : PS, pst r.2 T n y ∧ x.2 ≤ y.2 ∧ 0 ≤ r.2 u 1 ∧ (y.1 ≠ 0 → aR T n x.2 true l = y) ∧ (y.1 = 0 → 1 ≤ r.2 u 1 ∧ R y)
def RPt (T : Nat → Int) (n : Nat) (x : PS) (l : List (Bool × Bool)) (y : PS) : Prop := aR T n x.2 true l = aR T n y.2 false (popZ l)
def RLv (T : Nat → Int) (n : Nat) (x : PS) (l : List (Bool × Bool)) (lv : Nat) (c : Bool) (l' : List (Bool × Bool)) (y : PS) : Prop := ∃ c', aR T n x.2 true l = aR T n y.2 false ((false, c') :: l') ∧ nj T n lv c' y.2 ∧ (2 ≤ lv → c' = c)
theorem popZ_f (c : Bool) (l : List (Bool × Bool)) : popZ ((false, c) :: l) = (false, c) :: l := by cases l <;> rfl
theorem popZ_t (c : Bool) {l : List (Bool × Bool)} (h : l ≠ []) : popZ ((true, c) :: l) = popZ l := by
  cases l with
  | nil => exact absurd rfl h
  | cons a l => rfl
def PTok (T : Nat → Int) (n u N : Nat) : Prop := ∀ (dp : Nat) (x : PS) (l : List (Bool × Bool)) (s : Zs), dp ≤ 5 → l.length = dp + 1 → pst s T n x → x.1 = 0 → 0 ≤ s u 1 → zC N 520 [((u : Int), 0), (((1 : Nat) : Int), 0), ((dp : Int), 0)] s (qR T n u x l (RPt T n x l) s)
def LVok (T : Nat → Int) (n u N : Nat) : Prop := ∀ (lv dp : Nat) (c : Bool) (l' : List (Bool × Bool)) (x : PS) (s : Zs), lv ≤ 4 → dp ≤ 5 → l'.length = dp → (lv ≤ 1 → c = false) → pst s T n x → x.1 = 0 → 0 ≤ s u 1 → zC N 519 [((u : Int), 0), (((1 : Nat) : Int), 0), ((lv : Int), 0), ((dp : Int), 0)] s (qR T n u x ((false, c) :: l') (RLv T n x ((false, c) :: l') lv c l') s)

theorem factOf_ok {N : Nat} {v : Int} {s : Zs} (hv : v < 28) : zC N 515 [(v, 0)] s (fun r => ∃ f : Int, r = ([(f, 0)], s) ∧ (f ≠ 0 ↔ 25 ≤ v)) := by
  refine c_X4_factOf (b_X4_factOf_0 v s (fun g => ?_) (fun g => ?_) (fun g => ?_) (fun g1 g2 g3 => ?_))
  · exact ⟨-1, rfl, by omega⟩
  · exact ⟨-2, rfl, by omega⟩
  · exact ⟨-3, rfl, by omega⟩
  · exact ⟨0, rfl, by omega⟩
theorem aRt_bad {p : Nat} {l : List (Bool × Bool)} (hp : p ≤ n) (h : isFa T n (kB T n p) = false ∧ isKw T n (kB T n p) 22 = false ∧ isSg T n (kB T n p) 40 = false ∧ isNu T n (kB T n p) = false) : aR T n p true l = gF T n 1 (0, p) := by
  rw [aR_t hp, if_pos h]
theorem aRt_many {p : Nat} {l : List (Bool × Bool)} (hp : p ≤ n) (h : ¬ (isFa T n (kB T n p) = false ∧ isKw T n (kB T n p) 22 = false ∧ isSg T n (kB T n p) 40 = false ∧ isNu T n (kB T n p) = false)) (hl : l.length = 6) : aR T n p true l = gF T n 5 (0, p) := by
  rw [aR_t hp, if_neg h, if_pos hl]
theorem aRt_not {p : Nat} {l : List (Bool × Bool)} (hp : p ≤ n) (h : isKw T n (kB T n p) 22 = true) (hl : l.length ≠ 6) : aR T n p true l = aR T n (kE T n p) true ((true, false) :: l) := by
  rw [aR_t hp, if_neg (fun q => by rw [h] at q; cases q.2.1), if_neg hl, if_pos h]
theorem aRt_open {p : Nat} {l : List (Bool × Bool)} (hp : p ≤ n) (h2 : isKw T n (kB T n p) 22 = false) (h : isSg T n (kB T n p) 40 = true) (hl : l.length ≠ 6) : aR T n p true l = aR T n (kE T n p) true ((false, false) :: l) := by
  rw [aR_t hp, if_neg (fun q => by rw [h] at q; cases q.2.2.1), if_neg hl, if_neg (by rw [h2]; decide), if_pos h]
theorem aRt_one {p : Nat} {l : List (Bool × Bool)} (hp : p ≤ n) (h2 : isKw T n (kB T n p) 22 = false) (h3 : isSg T n (kB T n p) 40 = false) (h : isFa T n (kB T n p) = true ∨ isNu T n (kB T n p) = true) (hl : l.length ≠ 6) : aR T n p true l = aR T n (kE T n p) false (popZ l) := by
  rw [aR_t hp, if_neg (fun q => by rcases h with h | h <;> rw [h] at q <;> simp at q), if_neg hl, if_neg (by rw [h2]; decide), if_neg (by rw [h3]; decide)]
section Zpt2
variable {N : Nat} {dp : Nat} {x : PS} {l : List (Bool × Bool)} {s : Zs} {x3 x4 x5 : Int}
theorem pt_not (hu : u = 36 ∨ u = 72) (ih : ∀ m, m < N → PTok T n u m ∧ LVok T n u m) (hd : dp < 5) (hl : l.length = dp + 1) (h : pst s T n x) (h0 : x.1 = 0) (hs : 0 ≤ s u 1) (hk : isKw T n (kB T n x.2) 22 = true) {m : Nat} (hm : m < N) : zC m 910 [(((1 : Nat) : Int), 0)] s (fun p => zT (zE 520) (Pt PX4_readPart) m (75, [((u : Nat) : Int), ((1 : Nat) : Int), (dp : Int), x3, x4, x5], p.1 ++ [], p.2) (qR T n u x l (RPt T n x l) s)) := by
  have hg : gNx T n x = (0, kE T n x.2) := if_pos h0
  have hp := h.2.2.1
  have hkb := kE_bd (T := T) hp
  refine pst_nextC h h0 (fun s' f p => ?_)
  rw [hg] at p
  have hs' : 0 ≤ s' u 1 := by rw [f u 1 (by omega)]; exact hs
  refine b_X4_readPart_75 _ _ _ _ s' hu (fun m' hm' => ?_)
  rw [w32_id (z := (dp : Int) + 1) (by omega) (by omega), show (dp : Int) + 1 = ((dp + 1 : Nat) : Int) from by omega]
  refine zC_q ((ih m' (by omega)).1 (dp + 1) (0, kE T n x.2) ((true, false) :: l) s' (by omega) (by simp [hl]) p rfl hs') (fun r hr => ?_)
  obtain ⟨r1, s2⟩ := r
  obtain ⟨e, f2, y, py, hle, hs2, hbad, hgood⟩ := hr
  have e : r1 = [] := e
  subst e
  have hle : kE T n x.2 ≤ y.2 := hle
  refine b_X4_readPart_83 _ _ _ _ s2 hu (fun m2 hm2 => ?_)
  refine zC_q (add_ok hu py hs2) (fun r hr => ?_)
  obtain ⟨r1, s3⟩ := r
  obtain ⟨e, f3, py3, hs3⟩ := hr
  have e : r1 = [] := e
  subst e
  have ea := aRt_not (l := l) hp hk (by omega)
  refine b_X4_readPart_89 _ _ _ _ s3 hu ⟨rfl, prF_tr (prF_F f) (prF_tr f2 f3), y, py3, by omega, by show 0 ≤ s3 u 1; have : 1 ≤ s3 u 1 := hs3; omega, fun hy => ?_, fun hy => ⟨hs3, ?_⟩⟩
  · rw [ea]; exact hbad hy
  · unfold RPt
    rw [ea]
    have := (hgood hy).2
    unfold RPt at this
    rw [popZ_t false (l := l) (by intro q; rw [q] at hl; simp at hl)] at this
    exact this
theorem pt_open (hu : u = 36 ∨ u = 72) (ih : ∀ m, m < N → PTok T n u m ∧ LVok T n u m) (hd : dp < 5) (hl : l.length = dp + 1) (h : pst s T n x) (h0 : x.1 = 0) (hs : 0 ≤ s u 1) (hk : isKw T n (kB T n x.2) 22 = false) (ho : isSg T n (kB T n x.2) 40 = true) {m : Nat} (hm : m < N) : zC m 910 [(((1 : Nat) : Int), 0)] s (fun p => zT (zE 520) (Pt PX4_readPart) m (101, [((u : Nat) : Int), ((1 : Nat) : Int), (dp : Int), x3, x4, x5], p.1 ++ [], p.2) (qR T n u x l (RPt T n x l) s)) := by
  have hg : gNx T n x = (0, kE T n x.2) := if_pos h0
  have hp := h.2.2.1
  have hkb := kE_bd (T := T) hp
  refine pst_nextC h h0 (fun s' f p => ?_)
  rw [hg] at p
  have hs' : 0 ≤ s' u 1 := by rw [f u 1 (by omega)]; exact hs
  refine b_X4_readPart_101 _ _ _ _ s' hu (fun m' hm' => ?_)
  rw [w32_id (z := (dp : Int) + 1) (by omega) (by omega), show (dp : Int) + 1 = ((dp + 1 : Nat) : Int) from by omega]
  refine zC_q ((ih m' (by omega)).2 0 (dp + 1) false l (0, kE T n x.2) s' (by omega) (by omega) hl (fun _ => rfl) p rfl hs') (fun r hr => ?_)
  obtain ⟨r1, s2⟩ := r
  obtain ⟨e, f2, y, py, hle, hs2, hbad, hgood⟩ := hr
  have e : r1 = [] := e
  subst e
  have hle : kE T n x.2 ≤ y.2 := hle
  have hyn := py.2.2.1
  have hyb := kE_bd (T := T) hyn
  refine b_X4_readPart_110 _ _ _ _ s2 hu (fun m2 hm2 => ?_)
  refine zC_q (takeSign_ok (c := 41) py) (fun r hr => ?_)
  obtain ⟨r1, s3⟩ := r
  obtain ⟨e, f3, py3⟩ := hr
  have e : r1 = [] := e
  subst e
  have ea := aRt_open (l := l) hp hk ho (by omega)
  have es : s3 u 1 = s2 u 1 := f3 u 1 (by omega)
  have hle2 : y.2 ≤ (gS T n 41 y).2 := by
    unfold gS gNx gF
    split <;> split <;> (try exact Nat.le_refl _)
    exact Nat.le_trans hyb.1 hyb.2.2.1
  refine b_X4_readPart_116 _ _ _ _ s3 hu ⟨rfl, prF_tr (prF_F f) (prF_tr f2 (prF_F f3)), gS T n 41 y, py3, by omega, by show 0 ≤ s3 u 1; rw [es]; exact hs2, fun hy => ?_, fun hy => ?_⟩
  · rw [ea]
    by_cases hy0 : y.1 = 0
    · obtain ⟨c', e1, nj1, -⟩ := (hgood hy0).2
      have e1 : aR T n (kE T n x.2) true ((false, false) :: l) = aR T n y.2 false ((false, c') :: l) := e1
      rw [e1, aR_f hyn]
      have n0 := nj1 0 (by omega) (by omega) (by omega)
      have n2 := nj1 2 (by omega) (by omega) (by omega)
      have n3 := nj1 3 (by omega) (by omega) (by omega)
      have n1 := nj1 1 (by omega) (by omega)
      simp only [jn] at n0 n1 n2 n3
      simp at n0 n1 n2 n3
      have h41 : isSg T n (kB T n y.2) 41 ≠ true := fun q => by
        have := isSg_q q
        have e : gS T n 41 y = gNx T n y := if_pos this
        rw [e] at hy
        exact hy (by unfold gNx; rw [if_pos hy0])
      rw [if_neg (by rw [n2.1, n2.2, n3]; simp), if_neg (fun q => by have := n1 q.2; rw [this.1, this.2] at q; simp at q), if_neg (by rw [n0.1, n0.2]; simp), if_neg (fun q => h41 q.1), if_neg (fun q => by have := q.1; rw [List.length_cons, hl] at this; omega)]
      have e : gS T n 41 y = gF T n 1 y := if_neg (fun q => h41 (by unfold isSg; rw [decide_eq_true q.1, decide_eq_true q.2]; rfl))
      rw [e]
      obtain ⟨y1, y2⟩ := y
      have : y1 = 0 := hy0
      rw [this]
    · rw [gS_nz hy0]
      exact hbad hy0
  · have hy0 : y.1 = 0 := by
      by_cases c : y.1 = 0
      · exact c
      · rw [gS_nz c] at hy; exact hy
    obtain ⟨hs3, c', e1, nj1, -⟩ := hgood hy0
    have e1 : aR T n (kE T n x.2) true ((false, false) :: l) = aR T n y.2 false ((false, c') :: l) := e1
    refine ⟨by show 1 ≤ s3 u 1; rw [es]; exact hs3, ?_⟩
    have h41 : eQ T n (kB T n y.2) = 4 ∧ T (kB T n y.2) = 41 := by
      by_cases c : eQ T n (kB T n y.2) = 4 ∧ T (kB T n y.2) = 41
      · exact c
      · have e : gS T n 41 y = gF T n 1 y := if_neg c
        rw [e] at hy
        exact absurd hy (gF_ne (by decide) hy0)
    have e : gS T n 41 y = (0, kE T n y.2) := (if_pos h41).trans (if_pos hy0)
    unfold RPt
    rw [ea, e1, e, aR_f hyn]
    have n0 := nj1 0 (by omega) (by omega) (by omega)
    have n2 := nj1 2 (by omega) (by omega) (by omega)
    have n3 := nj1 3 (by omega) (by omega) (by omega)
    have n1 := nj1 1 (by omega) (by omega)
    simp only [jn] at n0 n1 n2 n3
    simp at n0 n1 n2 n3
    rw [if_neg (by rw [n2.1, n2.2, n3]; simp), if_neg (fun q => by have := n1 q.2; rw [this.1, this.2] at q; simp at q), if_neg (by rw [n0.1, n0.2]; simp), if_pos ⟨by unfold isSg; rw [decide_eq_true h41.1, decide_eq_true h41.2]; rfl, by rw [List.length_cons, hl]; omega⟩]
    rfl
theorem pt_many (hu : u = 36 ∨ u = 72) (hd : 5 ≤ dp) (hd2 : dp ≤ 5) (hl : l.length = dp + 1) (h : pst s T n x) (h0 : x.1 = 0) (hs : 0 ≤ s u 1) (hk : ¬ (isFa T n (kB T n x.2) = false ∧ isKw T n (kB T n x.2) 22 = false ∧ isSg T n (kB T n x.2) 40 = false ∧ isNu T n (kB T n x.2) = false)) {m : Nat} : zC m 899 [(((1 : Nat) : Int), 0), (5, 0)] s (fun p => zT (zE 520) (Pt PX4_readPart) m (63, [((u : Nat) : Int), ((1 : Nat) : Int), (dp : Int), x3, x4, x5], p.1 ++ [], p.2) (qR T n u x l (RPt T n x l) s)) := by
  refine zC_q (fail_ok (k := 5) (by decide) h) (fun r hr => ?_)
  obtain ⟨r1, s3⟩ := r
  obtain ⟨e, f3, py3⟩ := hr
  have e : r1 = [] := e
  subst e
  have hb := gF_ne (T := T) (n := n) (k := 5) (by decide) h0
  have e2 : (gF T n 5 x).2 = x.2 := by unfold gF; split <;> rfl
  refine b_X4_readPart_63 _ _ _ _ s3 hu ⟨rfl, prF_F f3, gF T n 5 x, py3, by omega, by show 0 ≤ s3 u 1; rw [show s3 u 1 = s u 1 from f3 u 1 (by omega)]; exact hs, fun _ => ?_, fun q => absurd q hb⟩
  rw [aRt_many h.2.2.1 hk (by omega)]
  obtain ⟨y1, y2⟩ := x
  have : y1 = 0 := h0
  rw [this]
theorem pt_fact (hu : u = 36 ∨ u = 72) (hd : dp < 5) (hl : l.length = dp + 1) (h : pst s T n x) (h0 : x.1 = 0) (hs : 0 ≤ s u 1) (hk : isKw T n (kB T n x.2) 22 = false) (ho : isSg T n (kB T n x.2) 40 = false) (hf : isFa T n (kB T n x.2) = true) {m : Nat} : zC m 910 [(((1 : Nat) : Int), 0)] s (fun p => zT (zE 520) (Pt PX4_readPart) m (127, [((u : Nat) : Int), ((1 : Nat) : Int), (dp : Int), x3, x4, x5], p.1 ++ [], p.2) (qR T n u x l (RPt T n x l) s)) := by
  have hg : gNx T n x = (0, kE T n x.2) := if_pos h0
  have hp := h.2.2.1
  have hkb := kE_bd (T := T) hp
  refine pst_nextC h h0 (fun s' f p => ?_)
  rw [hg] at p
  have hs' : 0 ≤ s' u 1 := by rw [f u 1 (by omega)]; exact hs
  refine b_X4_readPart_127 _ _ _ _ s' hu (fun m' hm' => ?_)
  refine zC_q (add_ok hu p hs') (fun r hr => ?_)
  obtain ⟨r1, s3⟩ := r
  obtain ⟨e, f3, py3, hs3⟩ := hr
  have e : r1 = [] := e
  subst e
  refine b_X4_readPart_132 _ _ _ _ s3 hu ⟨rfl, prF_tr (prF_F f) f3, (0, kE T n x.2), py3, by show x.2 ≤ kE T n x.2; omega, by show 0 ≤ s3 u 1; have : 1 ≤ s3 u 1 := hs3; omega, fun hy => absurd rfl hy, fun hy => ⟨hs3, ?_⟩⟩
  exact aRt_one hp hk ho (Or.inl hf) (by omega)
theorem pt_num (hu : u = 36 ∨ u = 72) (hd : dp < 5) (hl : l.length = dp + 1) (h : pst s T n x) (h0 : x.1 = 0) (hs : 0 ≤ s u 1) (hk : isKw T n (kB T n x.2) 22 = false) (ho : isSg T n (kB T n x.2) 40 = false) (hf : isNu T n (kB T n x.2) = true) {m : Nat} : zC m 912 [(((1 : Nat) : Int), 0), (0, 0), (9999, 0)] s (fun p => zT (zE 520) (Pt PX4_readPart) m (144, [((u : Nat) : Int), ((1 : Nat) : Int), (dp : Int), x3, x4, x5], p.1 ++ [(((u : Nat) : Int), 0)], p.2) (qR T n u x l (RPt T n x l) s)) := by
  have hp := h.2.2.1
  have hkb := kE_bd (T := T) hp
  have hg : gN T n 0 9999 x = (0, kE T n x.2) := by
    unfold gN
    rw [if_pos (isNu_q hf), if_pos (eM_bd (isNu_q hf))]
    exact if_pos h0
  refine zC_q (takeNumber_ok (lo := 0) (hi := 9999) (by decide) h) (fun r hr => ?_)
  obtain ⟨r1, s'⟩ := r
  obtain ⟨e, f, p⟩ := hr
  have e : r1 = _ := e
  subst e
  rw [hg] at p
  have f : frF s s' := f
  have hs' : 0 ≤ s' u 1 := by rw [f u 1 (by omega)]; exact hs
  refine b_X4_readPart_144 _ _ _ _ _ s' hu (fun m' hm' => ?_)
  refine zC_q (add_ok hu p hs') (fun r hr => ?_)
  obtain ⟨r1, s3⟩ := r
  obtain ⟨e, f3, py3, hs3⟩ := hr
  have e : r1 = [] := e
  subst e
  refine b_X4_readPart_147 _ _ _ _ s3 hu ⟨rfl, prF_tr (prF_F f) f3, (0, kE T n x.2), py3, by show x.2 ≤ kE T n x.2; omega, by show 0 ≤ s3 u 1; have : 1 ≤ s3 u 1 := hs3; omega, fun hy => absurd rfl hy, fun hy => ⟨hs3, ?_⟩⟩
  exact aRt_one hp hk ho (Or.inr hf) (by omega)
end Zpt2
theorem kwp_lt {w : List Int} : ∀ k : Nat, kwp w k < (k : Int)
  | 0 => by show (-1 : Int) < 0; decide
  | k + 1 => by
    have := kwp_lt (w := w) k
    show (if KW k = w then (k : Int) else kwp w k) < _
    split <;> omega
theorem pt_step (hu : u = 36 ∨ u = 72) {N : Nat} (ih : ∀ m, m < N → PTok T n u m ∧ LVok T n u m) : PTok T n u N := by
  intro dp x l s hd hl h h0 hs
  refine c_X4_readPart (b_X4_readPart_0 _ _ _ _ s hu (fun m hm => ?_))
  refine zC_q (keyHere_ok h) (fun r hr => ?_)
  subst hr
  refine b_X4_readPart_4 _ _ _ _ _ s hu (fun m1 hm1 => ?_)
  have hk28 : (if x.1 = 0 ∧ eQ T n (kB T n x.2) = 2 then kwi (eW T n (kB T n x.2)) else -1 : Int) < 28 := by
    split
    · exact kwp_lt 28
    · decide
  refine zC_q (factOf_ok hk28) (fun r hr => ?_)
  obtain ⟨f, hr, hf⟩ := hr
  subst hr
  have hfa : f ≠ 0 ↔ isFa T n (kB T n x.2) = true := by
    rw [hf]
    unfold isFa
    constructor
    · intro q
      split at q
      · rename_i c
        rw [decide_eq_true c.2, decide_eq_true q]; rfl
      · omega
    · intro q
      simp only [Bool.and_eq_true, decide_eq_true_eq] at q
      rw [if_pos ⟨h0, q.1⟩]
      exact q.2
  refine b_X4_readPart_7 _ _ _ _ _ s hu (fun m2 hm2 => ?_)
  refine zC_q (isWord_ok (i := 22) (by omega) h) (fun r hr => ?_)
  subst hr
  refine b_X4_readPart_14 _ _ _ _ _ s hu (fun m3 hm3 => ?_)
  refine zC_q (isSign_ok (c := 40) h) (fun r hr => ?_)
  subst hr
  have ed : decide (x.1 = 0) = true := decide_eq_true h0
  rw [ed, Bool.true_and, Bool.true_and]
  have hm4 : ∀ {m4 : Nat}, m4 < m3 → m4 < N := fun q => by omega
  have F0 : ¬ f = 0 → isFa T n (kB T n x.2) = true := hfa.mp
  have F1 : f = 0 → isFa T n (kB T n x.2) = false := fun q => Bool.eq_false_iff.mpr (fun e => (hfa.mpr e) q)
  refine b_X4_readPart_22 _ _ _ _ _ s hu (fun g1 g2 g3 g4 m4 hm => ?_) (fun g1 g2 g3 g4 m4 hm => ?_) (fun g1 g2 g3 m4 hm => ?_) (fun g1 g2 m4 hm => ?_) (fun g1 g9 g10 m4 hm => ?_) (fun g1 g9 g10 m4 hm => ?_) (fun g1 g9 g13 g14 m4 hm => ?_) (fun g1 g9 g13 g14 m4 hm => ?_) (fun g1 g9 g13 m4 hm => ?_)
  · exact pt_fact hu (by omega) hl h h0 hs (b2i_0.mp g3) (b2i_0.mp g4) (F0 g1)
  · exact pt_open hu ih (by omega) hl h h0 hs (b2i_0.mp g3) (b2i_1.mp g4) (hm4 hm)
  · exact pt_not hu ih (by omega) hl h h0 hs (b2i_1.mp g3) (hm4 hm)
  · exact pt_many hu (by omega) hd hl h h0 hs (fun q => by rw [F0 g1] at q; cases q.1)
  · exact pt_not hu ih (by omega) hl h h0 hs (b2i_1.mp g9) (hm4 hm)
  · exact pt_many hu (by omega) hd hl h h0 hs (fun q => by rw [b2i_1.mp g9] at q; cases q.2.1)
  · exact pt_open hu ih (by omega) hl h h0 hs (b2i_0.mp g9) (b2i_1.mp g13) (hm4 hm)
  · exact pt_many hu (by omega) hd hl h h0 hs (fun q => by rw [b2i_1.mp g13] at q; cases q.2.2.1)
  · refine zC_q (isNumber_ok h) (fun r hr => ?_)
    subst hr
    rw [ed, Bool.true_and]
    refine b_X4_readPart_42 _ _ _ _ _ s hu (fun e1 e2 e3 e4 e5 m5 hm5 => ?_) (fun e1 e2 e3 e4 e5 m5 hm5 => ?_) (fun e1 e2 e3 e4 m5 hm5 => ?_) (fun e1 e2 e3 m5 hm5 => ?_) (fun e1 e2 m5 hm5 => ?_) (fun e1 m5 hm5 => ?_)
    · exact pt_num hu (by omega) hl h h0 hs (b2i_0.mp g9) (b2i_0.mp g13) (b2i_1.mp e1)
    · exact absurd g1 e5
    · exact absurd g13 e4
    · exact absurd g9 e3
    · exact pt_many hu (by omega) hd hl h h0 hs (fun q => by rw [b2i_1.mp e1] at q; cases q.2.2.2)
    · refine zC_q (fail_ok (k := 1) (by decide) h) (fun r hr => ?_)
      obtain ⟨r1, s3⟩ := r
      obtain ⟨e, f3, py3⟩ := hr
      have e : r1 = [] := e
      subst e
      have hb := gF_ne (T := T) (n := n) (k := 1) (by decide) h0
      have e2 : (gF T n 1 x).2 = x.2 := by unfold gF; split <;> rfl
      refine b_X4_readPart_50 _ _ _ _ s3 hu ⟨rfl, prF_F f3, gF T n 1 x, py3, by omega, by show 0 ≤ s3 u 1; rw [show s3 u 1 = s u 1 from f3 u 1 (by omega)]; exact hs, fun _ => ?_, fun q => absurd q hb⟩
      rw [aRt_bad h.2.2.1 ⟨F1 g1, b2i_0.mp g9, b2i_0.mp g13, b2i_0.mp e1⟩]
      obtain ⟨y1, y2⟩ := x
      have : y1 = 0 := h0
      rw [this]
theorem jn_q {lv b : Nat} (h : jn T n lv b = true) : eQ T n b = 2 ∨ eQ T n b = 4 := by
  unfold jn at h
  split at h
  · simp only [Bool.or_eq_true] at h
    rcases h with h | h <;> exact Or.inl (isKw_q h).1
  · split at h
    · simp only [Bool.or_eq_true] at h
      rcases h with h | h <;> exact Or.inr (isSg_q h).1
    · split at h
      · simp only [Bool.or_eq_true] at h
        rcases h with h | h <;> exact Or.inr (isSg_q h).1
      · exact Or.inr (isSg_q h).1
theorem aRf_join {lv p : Nat} {c : Bool} {l' : List (Bool × Bool)} (hp : p ≤ n) (hj : jn T n lv (kB T n p) = true) (hlv : lv < 4) (hc : lv = 1 → c = false) : aR T n p false ((false, c) :: l') = aR T n (kE T n p) true ((false, if lv = 0 then false else if lv = 1 then true else c) :: l') := by
  have sg : ∀ {a b : Int}, isSg T n (kB T n p) a = true → a ≠ b → ¬ isSg T n (kB T n p) b = true := fun h1 hn h2 => hn ((isSg_q h1).2.symm.trans (isSg_q h2).2)
  rw [aR_f hp]
  have : lv = 0 ∨ lv = 1 ∨ lv = 2 ∨ lv = 3 := by omega
  rcases this with rfl | rfl | rfl | rfl
  · have hj : (isKw T n (kB T n p) 23 || isKw T n (kB T n p) 24) = true := hj
    simp only [Bool.or_eq_true] at hj
    have hq : eQ T n (kB T n p) = 2 := by rcases hj with h | h <;> exact (isKw_q h).1
    have ns : ∀ a : Int, ¬ isSg T n (kB T n p) a = true := fun a h => by have := (isSg_q h).1; omega
    rw [if_neg (fun q => by rcases q with q | q | q <;> exact ns _ q), if_neg (fun q => by rcases q.1 with q | q <;> exact ns _ q), if_pos hj]
    rfl
  · have hj : (isSg T n (kB T n p) 60 || isSg T n (kB T n p) 61) = true := hj
    simp only [Bool.or_eq_true] at hj
    rw [if_neg (fun q => by rcases hj with h | h <;> rcases q with q | q | q <;> exact sg h (by decide) q), if_pos ⟨hj, hc rfl⟩]
    rfl
  · have hj : (isSg T n (kB T n p) 43 || isSg T n (kB T n p) 45) = true := hj
    simp only [Bool.or_eq_true] at hj
    rw [if_pos (by rcases hj with h | h
                   · exact Or.inl h
                   · exact Or.inr (Or.inl h))]
    rfl
  · have hj : isSg T n (kB T n p) 42 = true := hj
    rw [if_pos (Or.inr (Or.inr hj))]
    rfl
section Zlv
variable {N : Nat} {lv dp : Nat} {c : Bool} {l' : List (Bool × Bool)} {x : PS} {s : Zs}
def LI (T : Nat → Int) (n lv : Nat) (c : Bool) (l' : List (Bool × Bool)) (x : PS) (i : Nat) (y : PS) : Prop := ∃ c1, aR T n x.2 true ((false, c) :: l') = aR T n y.2 false ((false, c1) :: l') ∧ nj T n (lv + 1) c1 y.2 ∧ (2 ≤ lv → c1 = c) ∧ (lv = 1 → (c1 = false ∧ i = 0) ∨ (c1 = true ∧ i = 1))
theorem lv_loop (hu : u = 36 ∨ u = 72) (ih : ∀ m, m < N → PTok T n u m ∧ LVok T n u m) (hlv : lv < 4) (hd : dp ≤ 5) (hl : l'.length = dp) : ∀ (M : Nat), M ≤ N → ∀ (i : Nat) (mo x6 : Int) (y : PS) (s1 : Zs), (lv = 1 → mo = 1) → (lv ≠ 1 → mo = 1000) → prF u s s1 → pst s1 T n y → x.2 ≤ y.2 → 0 ≤ s1 u 1 → i ≤ y.2 → (y.1 ≠ 0 → aR T n x.2 true ((false, c) :: l') = y) → (y.1 = 0 → 1 ≤ s1 u 1 ∧ LI T n lv c l' x i y) → zT (zE 519) (Pt PX4_readLevel) M (38, [((u : Nat) : Int), ((1 : Nat) : Int), (lv : Int), (dp : Int), mo, (i : Int), x6], [], s1) (qR T n u x ((false, c) :: l') (RLv T n x ((false, c) :: l') lv c l') s) := by
  intro M
  induction M using Nat.strongRecOn with
  | ind M ihM =>
    intro hM i mo x6 y s1 m1 m2 hf py hle hs hi hbad hgood
    have hyn := py.2.2.1
    have hn := py.2.1.2.1
    have hkb := kE_bd (T := T) hyn
    have fin : (y.1 = 0 → (lv = 1 → i = 0) → jn T n lv (kB T n y.2) = false) → qR T n u x ((false, c) :: l') (RLv T n x ((false, c) :: l') lv c l') s ([], s1) := fun hj => by
      refine ⟨rfl, hf, y, py, hle, hs, hbad, fun hy => ⟨(hgood hy).1, ?_⟩⟩
      obtain ⟨c1, e1, e2, e3, e4⟩ := (hgood hy).2
      refine ⟨c1, e1, fun k k1 k4 kc => ?_, e3⟩
      by_cases hk : k = lv
      · subst hk
        refine hj hy (fun q => ?_)
        rcases e4 q with h | h
        · exact h.2
        · rw [kc q] at h; cases h.1
      · exact e2 k (by omega) k4 kc
    refine b_X4_readLevel_38 _ _ _ _ _ s1 hu (fun g => ?_) (fun g m hm => ?_)
    · refine fin (fun hy h1 => ?_)
      by_cases hl1 : lv = 1
      · have := m1 hl1
        have := h1 hl1
        omega
      · have := m2 hl1
        refine Bool.eq_false_iff.mpr (fun q => ?_)
        have hne : eQ T n (kB T n y.2) ≠ 1 := by rcases jn_q q with q | q <;> omega
        have := eQ_lt hyn hne
        omega
    · refine zC_q (joinHere_ok hlv py) (fun r hr => ?_)
      obtain ⟨v, hr, hv⟩ := hr
      subst hr
      refine b_X4_readLevel_50 _ _ _ _ _ _ s1 hu (fun g1 m' hm' => ?_) (fun g1 => ?_)
      · obtain ⟨hy, hj⟩ := hv.mp g1
        obtain ⟨c1, e1, e2, e3, e4⟩ := (hgood hy).2
        have hne : eQ T n (kB T n y.2) ≠ 1 := by rcases jn_q hj with q | q <;> omega
        have hlt := eQ_lt hyn hne
        have hg : gNx T n y = (0, kE T n y.2) := if_pos hy
        have hc1 : lv = 1 → c1 = false ∧ i = 0 := fun q => by
          have := m1 q
          rcases e4 q with q | q
          · exact q
          · omega
        have ej := aRf_join (l' := l') hyn hj hlv (fun q => (hc1 q).1)
        refine pst_nextC py hy (fun s2 f2 p2 => ?_)
        rw [hg] at p2
        have hs2 : 0 ≤ s2 u 1 := by rw [f2 u 1 (by omega)]; exact hs
        refine b_X4_readLevel_64 _ _ _ _ _ s2 hu (fun m3 hm3 => ?_)
        rw [w32_id (z := (lv : Int) + 1) (by omega) (by omega), show (lv : Int) + 1 = ((lv + 1 : Nat) : Int) from by omega]
        refine zC_q ((ih m3 (by omega)).2 (lv + 1) dp (if lv = 0 then false else if lv = 1 then true else c1) l' (0, kE T n y.2) s2 (by omega) hd hl (fun q => if_pos (by omega)) p2 rfl hs2) (fun r hr => ?_)
        obtain ⟨r1, s3⟩ := r
        obtain ⟨e, f3, z, pz, hlez, hs3, hbadz, hgoodz⟩ := hr
        have e : r1 = [] := e
        subst e
        have hlez : kE T n y.2 ≤ z.2 := hlez
        refine b_X4_readLevel_73 _ _ _ _ _ s3 hu (fun m4 hm4 => ?_)
        refine zC_q (add_ok hu pz hs3) (fun r hr => ?_)
        obtain ⟨r1, s4⟩ := r
        obtain ⟨e, f4, pz4, hs4⟩ := hr
        have e : r1 = [] := e
        subst e
        have hs4 : 1 ≤ s4 u 1 := hs4
        refine b_X4_readLevel_79 _ _ _ _ _ s4 hu (fun m5 hm5 => ?_)
        rw [w32_id (z := (i : Int) + 1) (by omega) (by omega), show (i : Int) + 1 = ((i + 1 : Nat) : Int) from by omega]
        refine ihM m5 (by omega) (by omega) (i + 1) mo _ z s4 m1 m2 (prF_tr hf (prF_tr (prF_F f2) (prF_tr f3 f4))) pz4 (by omega) (by omega) (by omega) (fun hz => ?_) (fun hz => ⟨hs4, ?_⟩)
        · rw [e1, ej]; exact hbadz hz
        · obtain ⟨-, c3, z1, z2, z3⟩ := hgoodz hz
          have z1 : aR T n (kE T n y.2) true _ = aR T n z.2 false ((false, c3) :: l') := z1
          refine ⟨c3, by rw [e1, ej]; exact z1, z2, fun q => ?_, fun q => Or.inr ⟨?_, by have := (hc1 q).2; omega⟩⟩
          · rw [z3 (by omega), if_neg (by omega), if_neg (by omega)]; exact e3 q
          · rw [z3 (by omega), if_neg (by omega), if_pos q]
      · refine fin (fun hy _ => Bool.eq_false_iff.mpr (fun q => (hv.mpr ⟨hy, q⟩) g1))
end Zlv
theorem lv_step (hu : u = 36 ∨ u = 72) {N : Nat} (ih : ∀ m, m < N → PTok T n u m ∧ LVok T n u m) : LVok T n u N := by
  intro lv dp c l' x s hlv hd hl hc h h0 hs
  refine c_X4_readLevel (b_X4_readLevel_0 _ _ _ _ _ s hu (fun g m hm => ?_) (fun g m hm => ?_))
  · rw [w32_id (z := (lv : Int) + 1) (by omega) (by omega), show (lv : Int) + 1 = ((lv + 1 : Nat) : Int) from by omega]
    refine zC_q ((ih m hm).2 (lv + 1) dp c l' x s (by omega) hd hl (fun q => hc (by omega)) h h0 hs) (fun r hr => ?_)
    obtain ⟨r1, s2⟩ := r
    obtain ⟨e, f2, y, py, hle, hs2, hbad, hgood⟩ := hr
    have e : r1 = [] := e
    subst e
    have hi : y.1 = 0 → 1 ≤ s2 u 1 ∧ LI T n lv c l' x 0 y := fun hy => by
      obtain ⟨h1, c1, e1, e2, e3⟩ := hgood hy
      exact ⟨h1, c1, e1, e2, fun q => e3 (by omega), fun q => Or.inl ⟨(e3 (by omega)).trans (hc (by omega)), rfl⟩⟩
    refine b_X4_readLevel_21 _ _ _ _ _ s2 hu (fun g => ?_) (fun g => ?_)
    · exact lv_loop hu ih (by omega) hd hl m (by omega) 0 1000 0 y s2 (fun q => absurd q (by omega)) (fun _ => rfl) f2 py hle hs2 (by omega) hbad hi
    · exact lv_loop hu ih (by omega) hd hl m (by omega) 0 1 0 y s2 (fun _ => rfl) (fun q => absurd g (by omega)) f2 py hle hs2 (by omega) hbad hi
  · have : lv = 4 := by omega
    subst this
    refine zC_q ((ih m hm).1 dp x ((false, c) :: l') s hd (by simp [hl]) h h0 hs) (fun r hr => ?_)
    obtain ⟨r1, s2⟩ := r
    obtain ⟨e, f2, y, py, hle, hs2, hbad, hgood⟩ := hr
    have e : r1 = [] := e
    subst e
    refine b_X4_readLevel_11 _ _ _ _ _ s2 hu ⟨rfl, f2, y, py, hle, hs2, hbad, fun hy => ⟨(hgood hy).1, c, ?_, fun k k1 k4 => by omega, fun _ => rfl⟩⟩
    have := (hgood hy).2
    unfold RPt at this
    rw [popZ_f] at this
    exact this
theorem rd_ok (hu : u = 36 ∨ u = 72) : ∀ N, PTok T n u N ∧ LVok T n u N := by
  intro N
  induction N using Nat.strongRecOn with
  | ind N ih => exact ⟨pt_step hu ih, lv_step hu ih⟩
end Zpr
