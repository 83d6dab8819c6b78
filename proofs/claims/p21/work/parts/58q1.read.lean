/-! a law of price read by the class: the steps that it lays, the codes that the model puts -/
def aC (T : Nat → Int) (n : Nat) : Nat → Nat → Bool → List (Bool × Bool) → List Int
  | 0, _, _, _ => []
  | f + 1, p, true, l =>
    if isFa T n (kB T n p) = false ∧ isKw T n (kB T n p) 22 = false ∧ isSg T n (kB T n p) 40 = false ∧ isNu T n (kB T n p) = false then []
    else if l.length = 6 then []
    else if isKw T n (kB T n p) 22 = true then 30 :: aC T n f (kE T n p) true ((true, false) :: l)
    else if isSg T n (kB T n p) 40 = true then 28 :: aC T n f (kE T n p) true ((false, false) :: l)
    else (if isFa T n (kB T n p) = true then kwi (eW T n (kB T n p)) - 24 else 100 + eM T n (kB T n p)) :: aC T n f (kE T n p) false (popZ l)
  | f + 1, p, false, l =>
    if isSg T n (kB T n p) 43 = true ∨ isSg T n (kB T n p) 45 = true ∨ isSg T n (kB T n p) 42 = true then (if isSg T n (kB T n p) 43 = true then 20 else if isSg T n (kB T n p) 45 = true then 21 else 22) :: aC T n f (kE T n p) true l
    else if (isSg T n (kB T n p) 60 = true ∨ isSg T n (kB T n p) 61 = true) ∧ cmpd l = false then (if isSg T n (kB T n p) 60 = true then 24 else 25) :: aC T n f (kE T n p) true (setC true l)
    else if isKw T n (kB T n p) 23 = true ∨ isKw T n (kB T n p) 24 = true then (if isKw T n (kB T n p) 23 = true then 26 else 27) :: aC T n f (kE T n p) true (setC false l)
    else if isSg T n (kB T n p) 41 = true ∧ 1 < l.length then 29 :: aC T n f (kE T n p) false (popZ l.tail)
    else []
theorem aC_fu {T : Nat → Int} {n : Nat} : ∀ (f f' p : Nat) (w : Bool) (l : List (Bool × Bool)), p ≤ n → n + 2 - p ≤ f → n + 2 - p ≤ f' → aC T n f p w l = aC T n f' p w l
  | 0, _, _, _, _, hp, h, _ => by omega
  | _ + 1, 0, _, _, _, hp, _, h => by omega
  | f + 1, f' + 1, p, w, l, hp, h1, h2 => by
    have on : eQ T n (kB T n p) ≠ 1 → ∀ w' l', aC T n f (kE T n p) w' l' = aC T n f' (kE T n p) w' l' := fun hq w' l' => by
      have := eQ_lt hp hq
      have hb := kE_bd (T := T) hp
      exact aC_fu f f' _ w' l' hb.2.2.2 (by omega) (by omega)
    cases w with
    | true =>
      unfold aC
      split
      · rfl
      · rename_i c
        have hq : eQ T n (kB T n p) ≠ 1 := fun q => c ⟨Bool.eq_false_iff.mpr (fun e => by have := (isFa_q e).1; omega), Bool.eq_false_iff.mpr (fun e => by have := (isKw_q e).1; omega), Bool.eq_false_iff.mpr (fun e => by have := (isSg_q e).1; omega), Bool.eq_false_iff.mpr (fun e => by have := isNu_q e; omega)⟩
        split
        · rfl
        · split
          · exact congrArg (List.cons _) (on hq _ _)
          · split
            · exact congrArg (List.cons _) (on hq _ _)
            · exact congrArg (List.cons _) (on hq _ _)
    | false =>
      unfold aC
      split
      · rename_i c
        exact congrArg (List.cons _) (on (fun q => by rcases c with c | c | c <;> (have := (isSg_q c).1; omega)) _ _)
      · split
        · rename_i c
          exact congrArg (List.cons _) (on (fun q => by rcases c.1 with c | c <;> (have := (isSg_q c).1; omega)) _ _)
        · split
          · rename_i c
            exact congrArg (List.cons _) (on (fun q => by rcases c with c | c <;> (have := (isKw_q c).1; omega)) _ _)
          · split
            · rename_i c
              exact congrArg (List.cons _) (on (fun q => by have := (isSg_q c.1).1; omega) _ _)
            · rfl
def aK (T : Nat → Int) (n p : Nat) (w : Bool) (l : List (Bool × Bool)) : List Int := aC T n (n + 2 - p) p w l
section Zak
variable {T : Nat → Int} {n p : Nat} {l : List (Bool × Bool)}
theorem aK_on (hp : p ≤ n) (hq : eQ T n (kB T n p) ≠ 1) (w' : Bool) (l' : List (Bool × Bool)) : aC T n (n + 1 - p) (kE T n p) w' l' = aK T n (kE T n p) w' l' := by
  have := eQ_lt hp hq
  exact aC_fu _ _ _ w' l' (kE_bd (T := T) hp).2.2.2 (by omega) (by omega)
theorem aK_not (hp : p ≤ n) (h : isKw T n (kB T n p) 22 = true) (hl : l.length ≠ 6) : aK T n p true l = 30 :: aK T n (kE T n p) true ((true, false) :: l) := by
  have hq : eQ T n (kB T n p) ≠ 1 := by have := (isKw_q h).1; omega
  rw [← aK_on hp hq]
  conv => lhs; unfold aK; rw [show n + 2 - p = (n + 1 - p) + 1 from by omega]; unfold aC
  rw [if_neg (fun q => by rw [h] at q; cases q.2.1), if_neg hl, if_pos h]
theorem aK_open (hp : p ≤ n) (h2 : isKw T n (kB T n p) 22 = false) (h : isSg T n (kB T n p) 40 = true) (hl : l.length ≠ 6) : aK T n p true l = 28 :: aK T n (kE T n p) true ((false, false) :: l) := by
  have hq : eQ T n (kB T n p) ≠ 1 := by have := (isSg_q h).1; omega
  rw [← aK_on hp hq]
  conv => lhs; unfold aK; rw [show n + 2 - p = (n + 1 - p) + 1 from by omega]; unfold aC
  rw [if_neg (fun q => by rw [h] at q; cases q.2.2.1), if_neg hl, if_neg (by rw [h2]; decide), if_pos h]
theorem aK_one (hp : p ≤ n) (h2 : isKw T n (kB T n p) 22 = false) (h3 : isSg T n (kB T n p) 40 = false) (h : isFa T n (kB T n p) = true ∨ isNu T n (kB T n p) = true) (hl : l.length ≠ 6) : aK T n p true l = (if isFa T n (kB T n p) = true then kwi (eW T n (kB T n p)) - 24 else 100 + eM T n (kB T n p)) :: aK T n (kE T n p) false (popZ l) := by
  have hq : eQ T n (kB T n p) ≠ 1 := by
    rcases h with h | h
    · have := (isFa_q h).1; omega
    · have := isNu_q h; omega
  rw [← aK_on hp hq]
  conv => lhs; unfold aK; rw [show n + 2 - p = (n + 1 - p) + 1 from by omega]; unfold aC
  rw [if_neg (fun q => by rcases h with h | h <;> rw [h] at q <;> simp at q), if_neg hl, if_neg (by rw [h2]; decide), if_neg (by rw [h3]; decide)]
def jcd (T : Nat → Int) (n lv b : Nat) : Int := if lv = 0 then (if isKw T n b 23 = true then 26 else 27) else if lv = 1 then (if isSg T n b 60 = true then 24 else 25) else if lv = 2 then (if isSg T n b 43 = true then 20 else 21) else 22
def jst (T : Nat → Int) (n lv b : Nat) : Int := if lv = 0 then (if isKw T n b 23 = true then -5 else -6) else if lv = 1 then (if isSg T n b 60 = true then -7 else -8) else if lv = 2 then (if isSg T n b 43 = true then -9 else -10) else -11
theorem aK_join {lv : Nat} {c : Bool} {l' : List (Bool × Bool)} (hp : p ≤ n) (hj : jn T n lv (kB T n p) = true) (hlv : lv < 4) (hc : lv = 1 → c = false) : aK T n p false ((false, c) :: l') = jcd T n lv (kB T n p) :: aK T n (kE T n p) true ((false, if lv = 0 then false else if lv = 1 then true else c) :: l') := by
  have sg : ∀ {a b : Int}, isSg T n (kB T n p) a = true → a ≠ b → ¬ isSg T n (kB T n p) b = true := fun h1 hn h2 => hn ((isSg_q h1).2.symm.trans (isSg_q h2).2)
  have hq : eQ T n (kB T n p) ≠ 1 := by rcases jn_q hj with q | q <;> omega
  rw [← aK_on hp hq]
  conv => lhs; unfold aK; rw [show n + 2 - p = (n + 1 - p) + 1 from by omega]; unfold aC
  have : lv = 0 ∨ lv = 1 ∨ lv = 2 ∨ lv = 3 := by omega
  rcases this with rfl | rfl | rfl | rfl
  · have hj : (isKw T n (kB T n p) 23 || isKw T n (kB T n p) 24) = true := hj
    simp only [Bool.or_eq_true] at hj
    have hq : eQ T n (kB T n p) = 2 := by rcases hj with h | h <;> exact (isKw_q h).1
    have ns : ∀ a : Int, ¬ isSg T n (kB T n p) a = true := fun a h => by have := (isSg_q h).1; omega
    rw [if_neg (fun q => by rcases q with q | q | q <;> exact ns _ q), if_neg (fun q => by rcases q.1 with q | q <;> exact ns _ q), if_pos hj]
    rfl
  · have hj : (isSg T n (kB T n p) 60 || isSg T n (kB T n p) 61) = true := hj
    simp only [Bool.or_eq_true] at hj
    rw [if_neg (fun q => by rcases hj with h | h <;> rcases q with q | q | q <;> exact sg h (by decide) q), if_pos ⟨hj, hc rfl⟩]
    rfl
  · have hj : (isSg T n (kB T n p) 43 || isSg T n (kB T n p) 45) = true := hj
    simp only [Bool.or_eq_true] at hj
    rw [if_pos (by rcases hj with h | h
                   · exact Or.inl h
                   · exact Or.inr (Or.inl h))]
    have e : jcd T n 2 (kB T n p) = (if isSg T n (kB T n p) 43 = true then 20 else 21) := rfl
    rw [e]
    by_cases q : isSg T n (kB T n p) 43 = true
    · rw [if_pos q, if_pos q]
      rfl
    · rw [if_neg q, if_neg q, if_pos (hj.resolve_left q)]
      rfl
  · have hj : isSg T n (kB T n p) 42 = true := hj
    rw [if_pos (Or.inr (Or.inr hj)), if_neg (sg hj (by decide)), if_neg (sg hj (by decide))]
    rfl
/-- a bracket that closes -/
theorem aK_shut {c : Bool} {l' : List (Bool × Bool)} (hp : p ≤ n) (h : isSg T n (kB T n p) 41 = true) (hl : l' ≠ []) : aK T n p false ((false, c) :: l') = 29 :: aK T n (kE T n p) false (popZ l') := by
  have hq : eQ T n (kB T n p) ≠ 1 := by have := (isSg_q h).1; omega
  have sg : ∀ {b : Int}, (41 : Int) ≠ b → ¬ isSg T n (kB T n p) b = true := fun hn h2 => hn ((isSg_q h).2.symm.trans (isSg_q h2).2)
  have kw : ∀ i : Int, ¬ isKw T n (kB T n p) i = true := fun i h2 => by have := (isSg_q h).1; have := (isKw_q h2).1; omega
  rw [← aK_on hp hq]
  conv => lhs; unfold aK; rw [show n + 2 - p = (n + 1 - p) + 1 from by omega]; unfold aC
  rw [if_neg (fun q => by rcases q with q | q | q <;> exact sg (by decide) q), if_neg (fun q => by rcases q.1 with q | q <;> exact sg (by decide) q), if_neg (fun q => by rcases q with q | q <;> exact kw _ q), if_pos ⟨h, by rw [List.length_cons]; have := List.length_pos_iff.mpr hl; omega⟩]
  rfl
end Zak
/-- the steps q are laid behind -/
def emS (u : Nat) (s s' : Zs) (q : List Int) : Prop := s' u 1 = s u 1 + ((q.length : Nat) : Int) ∧ (∀ i c, q[i]? = some c → s' (u + 1) ((s u 1).toNat + i) = c) ∧ ∀ j, j < (s u 1).toNat → s' (u + 1) j = s (u + 1) j
theorem emS_fr {u : Nat} {s s' s2 : Zs} {q : List Int} (h : emS u s s' q) (e1 : s2 u 1 = s' u 1) (e2 : ∀ j, s2 (u + 1) j = s' (u + 1) j) : emS u s s2 q := ⟨e1.trans h.1, fun i c hi => (e2 _).trans (h.2.1 i c hi), fun j hj => (e2 _).trans (h.2.2 j hj)⟩
theorem emS_fl {u : Nat} {s0 s s' : Zs} {q : List Int} (h : emS u s s' q) (e1 : s u 1 = s0 u 1) (e2 : ∀ j, s (u + 1) j = s0 (u + 1) j) : emS u s0 s' q := ⟨by rw [← e1]; exact h.1, fun i c hi => by rw [← e1]; exact h.2.1 i c hi, fun j hj => (h.2.2 j (by rw [e1]; exact hj)).trans (e2 j)⟩
theorem emS_app {u : Nat} {s s1 s2 : Zs} {q r : List Int} (h0 : 0 ≤ s u 1) (h1 : emS u s s1 q) (h2 : emS u s1 s2 r) : emS u s s2 (q ++ r) := by
  obtain ⟨a1, a2, a3⟩ := h1
  obtain ⟨b1, b2, b3⟩ := h2
  have e : (s1 u 1).toNat = (s u 1).toNat + q.length := by omega
  refine ⟨by rw [b1, a1, List.length_append]; omega, fun i c hi => ?_, fun j hj => (b3 j (by omega)).trans (a3 j hj)⟩
  by_cases l : i < q.length
  · rw [List.getElem?_append_left l] at hi
    exact (b3 _ (by omega)).trans (a2 i c hi)
  · rw [List.getElem?_append_right (by omega)] at hi
    have := b2 (i - q.length) c hi
    rw [e, show (s u 1).toNat + q.length + (i - q.length) = (s u 1).toNat + i from by omega] at this
    exact this
theorem emS_nil {u : Nat} {s s' : Zs} (e1 : s' u 1 = s u 1) (e2 : ∀ j, s' (u + 1) j = s (u + 1) j) : emS u s s' [] := ⟨by rw [e1]; exact (Int.add_zero _).symm, fun i c hi => by simp at hi, fun j _ => e2 j⟩
section Zpq
variable {T : Nat → Int} {n u : Nat}
theorem add_E {N : Nat} {v : Int} {s : Zs} {y : PS} (hu : u = 36 ∨ u = 72) (h : pst s T n y) (hs : 0 ≤ s u 1) (h9 : s u 1 < 1000) : zC N 512 [((u : Int), 0), (v, 0)] s (fun r => r.1 = [] ∧ prF u s r.2 ∧ pst r.2 T n y ∧ emS u s r.2 [v]) := by
  have e0 : zrho u 0 = u + 1 := zp4_0 hu
  refine c_X4_add (b_X4_add_0 v s hu (fun g => ?_) (fun g => ?_))
  · rw [e0, zp4_len hu] at g
    omega
  · rw [e0, zp4_len hu] at g
    rw [e0, zu_n (s := s) (c := u + 1) (by omega), w32_id (by omega) (by omega)]
    have f : prF u s (zu (zu s (u + 1) (s u 1).toNat v) u 1 (s u 1 + 1)) := fun c j a b d => by rw [zu_n (by omega), zu_n (by omega)]
    refine ⟨rfl, f, pst_T h (fun c j hc => by show zu (zu s (u + 1) (s u 1).toNat v) u 1 (s u 1 + 1) c j = _; rw [zu_n (by omega), zu_n (by omega)]), ?_⟩
    show emS u s (zu (zu s (u + 1) (s u 1).toNat v) u 1 (s u 1 + 1)) [v]
    refine ⟨by rw [zu_eq]; rfl, fun i c hi => ?_, fun j hj => by rw [zu_n (by omega), zu_n (by omega)]⟩
    have : i = 0 := by
      have := (List.getElem?_eq_some_iff.mp hi).1
      simp at this
      exact this
    subst this
    have : v = c := by simpa using hi
    rw [zu_n (by omega)]
    show zu s (u + 1) (s u 1).toNat v (u + 1) (s u 1).toNat = c
    rw [zu_eq, this]
def qE (T : Nat → Int) (n u : Nat) (x : PS) (l : List (Bool × Bool)) (R : PS → List Int → List Int → Prop) (s : Zs) (r : Zr) : Prop := r.1 = [] ∧ prF u s r.2 ∧ ∃ y : PS, pst r.2 T n y ∧ x.2 ≤ y.2 ∧ 0 ≤ r.2 u 1 ∧ r.2 u 1 + (x.2 : Int) ≤ s u 1 + (y.2 : Int) ∧ (y.1 ≠ 0 → aR T n x.2 true l = y) ∧ (y.1 = 0 → ∃ g q, R y g q ∧ emS u s r.2 q)
def RPtE (T : Nat → Int) (n : Nat) (x : PS) (l : List (Bool × Bool)) (dp : Nat) (y : PS) (g q : List Int) : Prop := aR T n x.2 true l = aR T n y.2 false (popZ l) ∧ aK T n x.2 true l = g ++ aK T n y.2 false (popZ l) ∧ SEM 4 dp g q
def RLvE (T : Nat → Int) (n : Nat) (x : PS) (l : List (Bool × Bool)) (lv : Nat) (c : Bool) (l' : List (Bool × Bool)) (dp : Nat) (y : PS) (g q : List Int) : Prop := ∃ c', aR T n x.2 true l = aR T n y.2 false ((false, c') :: l') ∧ aK T n x.2 true l = g ++ aK T n y.2 false ((false, c') :: l') ∧ nj T n lv c' y.2 ∧ (2 ≤ lv → c' = c) ∧ SEM lv dp g q
def PTokE (T : Nat → Int) (n u N : Nat) : Prop := ∀ (dp : Nat) (x : PS) (l : List (Bool × Bool)) (s : Zs), dp ≤ 5 → l.length = dp + 1 → pst s T n x → x.1 = 0 → 0 ≤ s u 1 → s u 1 ≤ (x.2 : Int) → zC N 520 [((u : Int), 0), (((1 : Nat) : Int), 0), ((dp : Int), 0)] s (qE T n u x l (RPtE T n x l dp) s)
def LVokE (T : Nat → Int) (n u N : Nat) : Prop := ∀ (lv dp : Nat) (c : Bool) (l' : List (Bool × Bool)) (x : PS) (s : Zs), lv ≤ 4 → dp ≤ 5 → l'.length = dp → (lv ≤ 1 → c = false) → pst s T n x → x.1 = 0 → 0 ≤ s u 1 → s u 1 ≤ (x.2 : Int) → zC N 519 [((u : Int), 0), (((1 : Nat) : Int), 0), ((lv : Int), 0), ((dp : Int), 0)] s (qE T n u x ((false, c) :: l') (RLvE T n x ((false, c) :: l') lv c l' dp) s)
theorem factOf_ex {N : Nat} {v : Int} {s : Zs} (hv : v < 28) : zC N 515 [(v, 0)] s (fun r => r = ([(if 25 ≤ v then 24 - v else 0, 0)], s)) := by
  have W : ∀ w : Int, w = (if 25 ≤ v then 24 - v else 0) → (([(w, 0)], s) : Zr) = ([(if 25 ≤ v then 24 - v else 0, 0)], s) := fun w hw => by rw [hw]
  refine c_X4_factOf (b_X4_factOf_0 v s (fun g => ?_) (fun g => ?_) (fun g => ?_) (fun g1 g2 g3 => ?_))
  · exact W _ (by rw [if_pos (by omega)]; omega)
  · exact W _ (by rw [if_pos (by omega)]; omega)
  · exact W _ (by rw [if_pos (by omega)]; omega)
  · exact W _ (by rw [if_neg (by omega)])
section Zpt2E
variable {N : Nat} {dp : Nat} {x : PS} {l : List (Bool × Bool)} {s : Zs} {x3 x4 x5 : Int}
theorem pt_notE (hu : u = 36 ∨ u = 72) (ih : ∀ m, m < N → PTokE T n u m ∧ LVokE T n u m) (hd : dp < 5) (hl : l.length = dp + 1) (h : pst s T n x) (h0 : x.1 = 0) (hs : 0 ≤ s u 1) (hs9 : s u 1 ≤ (x.2 : Int)) (hk : isKw T n (kB T n x.2) 22 = true) {m : Nat} (hm : m < N) : zC m 910 [(((1 : Nat) : Int), 0)] s (fun p => zT (zE 520) (Pt PX4_readPart) m (75, [((u : Nat) : Int), ((1 : Nat) : Int), (dp : Int), x3, x4, x5], p.1 ++ [], p.2) (qE T n u x l (RPtE T n x l dp) s)) := by
  have hg : gNx T n x = (0, kE T n x.2) := if_pos h0
  have hp := h.2.2.1
  have hkb := kE_bd (T := T) hp
  have hn := h.2.1.2.1
  have hne : eQ T n (kB T n x.2) ≠ 1 := by have := (isKw_q hk).1; omega
  have hlt := eQ_lt hp hne
  refine pst_nextC h h0 (fun s' f p => ?_)
  rw [hg] at p
  have es : s' u 1 = s u 1 := f u 1 (by omega)
  have es2 : ∀ j, s' (u + 1) j = s (u + 1) j := fun j => f _ _ (by omega)
  refine b_X4_readPart_75 _ _ _ _ s' hu (fun m' hm' => ?_)
  rw [w32_id (z := (dp : Int) + 1) (by omega) (by omega), show (dp : Int) + 1 = ((dp + 1 : Nat) : Int) from by omega]
  refine zC_q ((ih m' (by omega)).1 (dp + 1) (0, kE T n x.2) ((true, false) :: l) s' (by omega) (by simp [hl]) p rfl (by omega) (by rw [es]; show s u 1 ≤ ((kE T n x.2 : Nat) : Int); omega)) (fun r hr => ?_)
  obtain ⟨r1, s2⟩ := r
  obtain ⟨e, f2, y, py, hle, hs2, hb2, hbad, hgood⟩ := hr
  have e : r1 = [] := e
  subst e
  have hle : kE T n x.2 ≤ y.2 := hle
  have hs2 : 0 ≤ s2 u 1 := hs2
  have hb2 : s2 u 1 + ((kE T n x.2 : Nat) : Int) ≤ s' u 1 + (y.2 : Int) := hb2
  have hyn := py.2.2.1
  refine b_X4_readPart_83 _ _ _ _ s2 hu (fun m2 hm2 => ?_)
  refine zC_q (add_E hu py hs2 (by omega)) (fun r hr => ?_)
  obtain ⟨r1, s3⟩ := r
  obtain ⟨e, f3, py3, e3⟩ := hr
  have e : r1 = [] := e
  subst e
  have e3 : emS u s2 s3 [-4] := e3
  have e31 : s3 u 1 = s2 u 1 + 1 := e3.1
  have ea := aRt_not (l := l) hp hk (by omega)
  have ek := aK_not (l := l) hp hk (by omega)
  refine b_X4_readPart_89 _ _ _ _ s3 hu ⟨rfl, prF_tr (prF_F f) (prF_tr f2 f3), y, py3, by omega, by show 0 ≤ s3 u 1; omega, by show s3 u 1 + (x.2 : Int) ≤ s u 1 + (y.2 : Int); omega, fun hy => ?_, fun hy => ?_⟩
  · rw [ea]; exact hbad hy
  · obtain ⟨g, q, ⟨r1, r2, r3⟩, em⟩ := hgood hy
    have hne2 : l ≠ [] := by intro q; rw [q] at hl; simp at hl
    rw [popZ_t false (l := l) hne2] at r1 r2
    have r1 : aR T n (kE T n x.2) true ((true, false) :: l) = aR T n y.2 false (popZ l) := r1
    have r2 : aK T n (kE T n x.2) true ((true, false) :: l) = g ++ aK T n y.2 false (popZ l) := r2
    refine ⟨30 :: g, q ++ [-4], ⟨by rw [ea, r1], by rw [ek, r2]; rfl, SEM_not (by have := r3.1; omega) r3⟩, ?_⟩
    exact emS_app hs (emS_fl em es es2) e3
theorem pt_openE (hu : u = 36 ∨ u = 72) (ih : ∀ m, m < N → PTokE T n u m ∧ LVokE T n u m) (hd : dp < 5) (hl : l.length = dp + 1) (h : pst s T n x) (h0 : x.1 = 0) (hs : 0 ≤ s u 1) (hs9 : s u 1 ≤ (x.2 : Int)) (hk : isKw T n (kB T n x.2) 22 = false) (ho : isSg T n (kB T n x.2) 40 = true) {m : Nat} (hm : m < N) : zC m 910 [(((1 : Nat) : Int), 0)] s (fun p => zT (zE 520) (Pt PX4_readPart) m (101, [((u : Nat) : Int), ((1 : Nat) : Int), (dp : Int), x3, x4, x5], p.1 ++ [], p.2) (qE T n u x l (RPtE T n x l dp) s)) := by
  have hg : gNx T n x = (0, kE T n x.2) := if_pos h0
  have hp := h.2.2.1
  have hkb := kE_bd (T := T) hp
  refine pst_nextC h h0 (fun s' f p => ?_)
  rw [hg] at p
  have es' : s' u 1 = s u 1 := f u 1 (by omega)
  have es2 : ∀ j, s' (u + 1) j = s (u + 1) j := fun j => f _ _ (by omega)
  refine b_X4_readPart_101 _ _ _ _ s' hu (fun m' hm' => ?_)
  rw [w32_id (z := (dp : Int) + 1) (by omega) (by omega), show (dp : Int) + 1 = ((dp + 1 : Nat) : Int) from by omega]
  refine zC_q ((ih m' (by omega)).2 0 (dp + 1) false l (0, kE T n x.2) s' (by omega) (by omega) hl (fun _ => rfl) p rfl (by omega) (by rw [es']; show s u 1 ≤ ((kE T n x.2 : Nat) : Int); omega)) (fun r hr => ?_)
  obtain ⟨r1, s2⟩ := r
  obtain ⟨e, f2, y, py, hle, hs2, hb2, hbad, hgood⟩ := hr
  have e : r1 = [] := e
  subst e
  have hle : kE T n x.2 ≤ y.2 := hle
  have hs2 : 0 ≤ s2 u 1 := hs2
  have hb2 : s2 u 1 + ((kE T n x.2 : Nat) : Int) ≤ s' u 1 + (y.2 : Int) := hb2
  have hyn := py.2.2.1
  have hyb := kE_bd (T := T) hyn
  refine b_X4_readPart_110 _ _ _ _ s2 hu (fun m2 hm2 => ?_)
  refine zC_q (takeSign_ok (c := 41) py) (fun r hr => ?_)
  obtain ⟨r1, s3⟩ := r
  obtain ⟨e, f3, py3⟩ := hr
  have e : r1 = [] := e
  subst e
  have ea := aRt_open (l := l) hp hk ho (by omega)
  have ek := aK_open (l := l) hp hk ho (by omega)
  have es : s3 u 1 = s2 u 1 := f3 u 1 (by omega)
  have es3 : ∀ j, s3 (u + 1) j = s2 (u + 1) j := fun j => f3 _ _ (by omega)
  have hle2 : y.2 ≤ (gS T n 41 y).2 := by
    unfold gS gNx gF
    split <;> split <;> (try exact Nat.le_refl _)
    exact Nat.le_trans hyb.1 hyb.2.2.1
  refine b_X4_readPart_116 _ _ _ _ s3 hu ⟨rfl, prF_tr (prF_F f) (prF_tr f2 (prF_F f3)), gS T n 41 y, py3, by omega, by show 0 ≤ s3 u 1; rw [es]; exact hs2, by show s3 u 1 + (x.2 : Int) ≤ s u 1 + ((gS T n 41 y).2 : Int); omega, fun hy => ?_, fun hy => ?_⟩
  · rw [ea]
    by_cases hy0 : y.1 = 0
    · obtain ⟨g, q, ⟨c', e1, -, nj1, -⟩, -⟩ := hgood hy0
      have e1 : aR T n (kE T n x.2) true ((false, false) :: l) = aR T n y.2 false ((false, c') :: l) := e1
      rw [e1, aR_f hyn]
      have n0 := nj1 0 (by omega) (by omega) (by omega)
      have n2 := nj1 2 (by omega) (by omega) (by omega)
      have n3 := nj1 3 (by omega) (by omega) (by omega)
      have n1 := nj1 1 (by omega) (by omega)
      simp only [jn] at n0 n1 n2 n3
      simp at n0 n1 n2 n3
      have h41 : isSg T n (kB T n y.2) 41 ≠ true := fun q => by
        have := isSg_q q
        have e : gS T n 41 y = gNx T n y := if_pos this
        rw [e] at hy
        exact hy (by unfold gNx; rw [if_pos hy0])
      rw [if_neg (by rw [n2.1, n2.2, n3]; simp), if_neg (fun q => by have := n1 q.2; rw [this.1, this.2] at q; simp at q), if_neg (by rw [n0.1, n0.2]; simp), if_neg (fun q => h41 q.1), if_neg (fun q => by have := q.1; rw [List.length_cons, hl] at this; omega)]
      have e : gS T n 41 y = gF T n 1 y := if_neg (fun q => h41 (by unfold isSg; rw [decide_eq_true q.1, decide_eq_true q.2]; rfl))
      rw [e]
      obtain ⟨y1, y2⟩ := y
      have : y1 = 0 := hy0
      rw [this]
    · rw [gS_nz hy0]
      exact hbad hy0
  · have hy0 : y.1 = 0 := by
      by_cases c : y.1 = 0
      · exact c
      · rw [gS_nz c] at hy; exact hy
    obtain ⟨g, q, ⟨c', e1, k1, nj1, -, sm⟩, em⟩ := hgood hy0
    have e1 : aR T n (kE T n x.2) true ((false, false) :: l) = aR T n y.2 false ((false, c') :: l) := e1
    have k1 : aK T n (kE T n x.2) true ((false, false) :: l) = g ++ aK T n y.2 false ((false, c') :: l) := k1
    have h41 : eQ T n (kB T n y.2) = 4 ∧ T (kB T n y.2) = 41 := by
      by_cases c : eQ T n (kB T n y.2) = 4 ∧ T (kB T n y.2) = 41
      · exact c
      · have e : gS T n 41 y = gF T n 1 y := if_neg c
        rw [e] at hy
        exact absurd hy (gF_ne (by decide) hy0)
    have e : gS T n 41 y = (0, kE T n y.2) := (if_pos h41).trans (if_pos hy0)
    have i41 : isSg T n (kB T n y.2) 41 = true := by unfold isSg; rw [decide_eq_true h41.1, decide_eq_true h41.2]; rfl
    have hne2 : l ≠ [] := by intro q; rw [q] at hl; simp at hl
    have sh := aK_shut (c := c') (l' := l) hyn i41 hne2
    refine ⟨28 :: (g ++ [29]), q, ⟨?_, ?_, SEM_par (by have := sm.1; omega) sm⟩, emS_fr (emS_fl em es' es2) es es3⟩
    · rw [ea, e1, e, aR_f hyn]
      have n0 := nj1 0 (by omega) (by omega) (by omega)
      have n2 := nj1 2 (by omega) (by omega) (by omega)
      have n3 := nj1 3 (by omega) (by omega) (by omega)
      have n1 := nj1 1 (by omega) (by omega)
      simp only [jn] at n0 n1 n2 n3
      simp at n0 n1 n2 n3
      rw [if_neg (by rw [n2.1, n2.2, n3]; simp), if_neg (fun q => by have := n1 q.2; rw [this.1, this.2] at q; simp at q), if_neg (by rw [n0.1, n0.2]; simp), if_pos ⟨i41, by rw [List.length_cons, hl]; omega⟩]
      rfl
    · rw [ek, k1, sh, e]
      show 28 :: (g ++ 29 :: aK T n (kE T n y.2) false (popZ l)) = (28 :: (g ++ [29])) ++ aK T n (kE T n y.2) false (popZ l)
      rw [List.cons_append, List.append_assoc]
      rfl
theorem pt_manyE (hu : u = 36 ∨ u = 72) (hd : 5 ≤ dp) (hd2 : dp ≤ 5) (hl : l.length = dp + 1) (h : pst s T n x) (h0 : x.1 = 0) (hs : 0 ≤ s u 1) (hk : ¬ (isFa T n (kB T n x.2) = false ∧ isKw T n (kB T n x.2) 22 = false ∧ isSg T n (kB T n x.2) 40 = false ∧ isNu T n (kB T n x.2) = false)) {m : Nat} : zC m 899 [(((1 : Nat) : Int), 0), (5, 0)] s (fun p => zT (zE 520) (Pt PX4_readPart) m (63, [((u : Nat) : Int), ((1 : Nat) : Int), (dp : Int), x3, x4, x5], p.1 ++ [], p.2) (qE T n u x l (RPtE T n x l dp) s)) := by
  refine zC_q (fail_ok (k := 5) (by decide) h) (fun r hr => ?_)
  obtain ⟨r1, s3⟩ := r
  obtain ⟨e, f3, py3⟩ := hr
  have e : r1 = [] := e
  subst e
  have hb := gF_ne (T := T) (n := n) (k := 5) (by decide) h0
  have e2 : (gF T n 5 x).2 = x.2 := by unfold gF; split <;> rfl
  have es : s3 u 1 = s u 1 := f3 u 1 (by omega)
  refine b_X4_readPart_63 _ _ _ _ s3 hu ⟨rfl, prF_F f3, gF T n 5 x, py3, by omega, by show 0 ≤ s3 u 1; rw [es]; exact hs, by show s3 u 1 + (x.2 : Int) ≤ s u 1 + ((gF T n 5 x).2 : Int); omega, fun _ => ?_, fun q => absurd q hb⟩
  rw [aRt_many h.2.2.1 hk (by omega)]
  obtain ⟨y1, y2⟩ := x
  have : y1 = 0 := h0
  rw [this]
theorem pt_factE (hu : u = 36 ∨ u = 72) (hd : dp < 5) (hl : l.length = dp + 1) (h : pst s T n x) (h0 : x.1 = 0) (hs : 0 ≤ s u 1) (hs9 : s u 1 ≤ (x.2 : Int)) (hk : isKw T n (kB T n x.2) 22 = false) (ho : isSg T n (kB T n x.2) 40 = false) (hf : isFa T n (kB T n x.2) = true) {m : Nat} : zC m 910 [(((1 : Nat) : Int), 0)] s (fun p => zT (zE 520) (Pt PX4_readPart) m (127, [((u : Nat) : Int), ((1 : Nat) : Int), (dp : Int), 24 - kwi (eW T n (kB T n x.2)), x4, x5], p.1 ++ [], p.2) (qE T n u x l (RPtE T n x l dp) s)) := by
  have hg : gNx T n x = (0, kE T n x.2) := if_pos h0
  have hp := h.2.2.1
  have hkb := kE_bd (T := T) hp
  have hn := h.2.1.2.1
  have hne : eQ T n (kB T n x.2) ≠ 1 := by have := (isFa_q hf).1; omega
  have hlt := eQ_lt hp hne
  refine pst_nextC h h0 (fun s' f p => ?_)
  rw [hg] at p
  have es : s' u 1 = s u 1 := f u 1 (by omega)
  have es2 : ∀ j, s' (u + 1) j = s (u + 1) j := fun j => f _ _ (by omega)
  refine b_X4_readPart_127 _ _ _ _ s' hu (fun m' hm' => ?_)
  refine zC_q (add_E hu p (by omega) (by omega)) (fun r hr => ?_)
  obtain ⟨r1, s3⟩ := r
  obtain ⟨e, f3, py3, e3⟩ := hr
  have e : r1 = [] := e
  subst e
  have e3 : emS u s' s3 [24 - kwi (eW T n (kB T n x.2))] := e3
  have e31 : s3 u 1 = s' u 1 + 1 := e3.1
  have k25 := (isFa_q hf).2
  have k28 := kwp_lt (w := eW T n (kB T n x.2)) 28
  have k28 : kwi (eW T n (kB T n x.2)) < 28 := k28
  obtain ⟨i, hi⟩ : ∃ i : Nat, kwi (eW T n (kB T n x.2)) - 24 = (i : Int) := ⟨(kwi (eW T n (kB T n x.2)) - 24).toNat, by omega⟩
  refine b_X4_readPart_132 _ _ _ _ s3 hu ⟨rfl, prF_tr (prF_F f) f3, (0, kE T n x.2), py3, by show x.2 ≤ kE T n x.2; omega, by show 0 ≤ s3 u 1; omega, by show s3 u 1 + (x.2 : Int) ≤ s u 1 + ((kE T n x.2 : Nat) : Int); omega, fun hy => absurd rfl hy, fun hy => ⟨[kwi (eW T n (kB T n x.2)) - 24], [24 - kwi (eW T n (kB T n x.2))], ⟨aRt_one hp hk ho (Or.inl hf) (by omega), ?_, ?_⟩, emS_fl e3 es es2⟩⟩
  · rw [aK_one hp hk ho (Or.inl hf) (by omega), if_pos hf]
    rfl
  · rw [show 24 - kwi (eW T n (kB T n x.2)) = -(kwi (eW T n (kB T n x.2)) - 24) from by omega, hi]
    exact SEM_fact (by omega) (by omega)
theorem pt_numE (hu : u = 36 ∨ u = 72) (hd : dp < 5) (hl : l.length = dp + 1) (h : pst s T n x) (h0 : x.1 = 0) (hs : 0 ≤ s u 1) (hs9 : s u 1 ≤ (x.2 : Int)) (hk : isKw T n (kB T n x.2) 22 = false) (ho : isSg T n (kB T n x.2) 40 = false) (hnf : isFa T n (kB T n x.2) = false) (hf : isNu T n (kB T n x.2) = true) {m : Nat} : zC m 912 [(((1 : Nat) : Int), 0), (0, 0), (9999, 0)] s (fun p => zT (zE 520) (Pt PX4_readPart) m (144, [((u : Nat) : Int), ((1 : Nat) : Int), (dp : Int), x3, x4, x5], p.1 ++ [(((u : Nat) : Int), 0)], p.2) (qE T n u x l (RPtE T n x l dp) s)) := by
  have hp := h.2.2.1
  have hkb := kE_bd (T := T) hp
  have hn := h.2.1.2.1
  have hne : eQ T n (kB T n x.2) ≠ 1 := by have := isNu_q hf; omega
  have hlt := eQ_lt hp hne
  have hg : gN T n 0 9999 x = (0, kE T n x.2) := by
    unfold gN
    rw [if_pos (isNu_q hf), if_pos (eM_bd (isNu_q hf))]
    exact if_pos h0
  refine zC_q (takeNumber_ok (lo := 0) (hi := 9999) (by decide) h) (fun r hr => ?_)
  obtain ⟨r1, s'⟩ := r
  obtain ⟨e, f, p⟩ := hr
  have e : r1 = [(vN T n 0 9999 x, 0)] := e
  have ev : vN T n 0 9999 x = eM T n (kB T n x.2) := by
    unfold vN
    rw [hg]
    exact if_pos rfl
  rw [ev] at e
  subst e
  rw [hg] at p
  have f : frF s s' := f
  have es : s' u 1 = s u 1 := f u 1 (by omega)
  have es2 : ∀ j, s' (u + 1) j = s (u + 1) j := fun j => f _ _ (by omega)
  refine b_X4_readPart_144 _ _ _ _ _ s' hu (fun m' hm' => ?_)
  refine zC_q (add_E hu p (by omega) (by omega)) (fun r hr => ?_)
  obtain ⟨r1, s3⟩ := r
  obtain ⟨e, f3, py3, e3⟩ := hr
  have e : r1 = [] := e
  subst e
  have e3 : emS u s' s3 [eM T n (kB T n x.2)] := e3
  have e31 : s3 u 1 = s' u 1 + 1 := e3.1
  have mb := eM_bd (isNu_q hf)
  refine b_X4_readPart_147 _ _ _ _ s3 hu ⟨rfl, prF_tr (prF_F f) f3, (0, kE T n x.2), py3, by show x.2 ≤ kE T n x.2; omega, by show 0 ≤ s3 u 1; omega, by show s3 u 1 + (x.2 : Int) ≤ s u 1 + ((kE T n x.2 : Nat) : Int); omega, fun hy => absurd rfl hy, fun hy => ⟨[100 + eM T n (kB T n x.2)], [eM T n (kB T n x.2)], ⟨aRt_one hp hk ho (Or.inr hf) (by omega), ?_, SEM_num (by omega) mb.1 mb.2⟩, emS_fl e3 es es2⟩⟩
  rw [aK_one hp hk ho (Or.inr hf) (by omega), if_neg (by rw [hnf]; decide)]
  rfl
end Zpt2E
theorem pt_stepE (hu : u = 36 ∨ u = 72) {N : Nat} (ih : ∀ m, m < N → PTokE T n u m ∧ LVokE T n u m) : PTokE T n u N := by
  intro dp x l s hd hl h h0 hs hs9
  refine c_X4_readPart (b_X4_readPart_0 _ _ _ _ s hu (fun m hm => ?_))
  refine zC_q (keyHere_ok h) (fun r hr => ?_)
  subst hr
  refine b_X4_readPart_4 _ _ _ _ _ s hu (fun m1 hm1 => ?_)
  have hk28 : (if x.1 = 0 ∧ eQ T n (kB T n x.2) = 2 then kwi (eW T n (kB T n x.2)) else -1 : Int) < 28 := by
    split
    · exact kwp_lt 28
    · decide
  refine zC_q (factOf_ex hk28) (fun r hr => ?_)
  have hfx : isFa T n (kB T n x.2) = true → (if 25 ≤ (if x.1 = 0 ∧ eQ T n (kB T n x.2) = 2 then kwi (eW T n (kB T n x.2)) else -1 : Int) then 24 - (if x.1 = 0 ∧ eQ T n (kB T n x.2) = 2 then kwi (eW T n (kB T n x.2)) else -1 : Int) else 0) = 24 - kwi (eW T n (kB T n x.2)) := fun q => by
    have q := isFa_q q
    have e : (if x.1 = 0 ∧ eQ T n (kB T n x.2) = 2 then kwi (eW T n (kB T n x.2)) else -1 : Int) = kwi (eW T n (kB T n x.2)) := if_pos ⟨h0, q.1⟩
    rw [e]
    exact if_pos q.2
  have hfa : (if 25 ≤ (if x.1 = 0 ∧ eQ T n (kB T n x.2) = 2 then kwi (eW T n (kB T n x.2)) else -1 : Int) then 24 - (if x.1 = 0 ∧ eQ T n (kB T n x.2) = 2 then kwi (eW T n (kB T n x.2)) else -1 : Int) else 0) ≠ 0 ↔ isFa T n (kB T n x.2) = true := by
    constructor
    · intro q
      unfold isFa
      by_cases c : x.1 = 0 ∧ eQ T n (kB T n x.2) = 2
      · rw [if_pos c] at q
        by_cases c2 : 25 ≤ kwi (eW T n (kB T n x.2))
        · rw [decide_eq_true c.2, decide_eq_true c2]; rfl
        · rw [if_neg c2] at q
          exact absurd rfl q
      · rw [if_neg c, if_neg (by decide)] at q
        exact absurd rfl q
    · intro q
      have k25 := (isFa_q q).2
      rw [hfx q]
      omega
  subst hr
  generalize (if 25 ≤ (if x.1 = 0 ∧ eQ T n (kB T n x.2) = 2 then kwi (eW T n (kB T n x.2)) else -1 : Int) then 24 - (if x.1 = 0 ∧ eQ T n (kB T n x.2) = 2 then kwi (eW T n (kB T n x.2)) else -1 : Int) else 0) = f at hfx hfa ⊢
  refine b_X4_readPart_7 _ _ _ _ _ s hu (fun m2 hm2 => ?_)
  refine zC_q (isWord_ok (i := 22) (by omega) h) (fun r hr => ?_)
  subst hr
  refine b_X4_readPart_14 _ _ _ _ _ s hu (fun m3 hm3 => ?_)
  refine zC_q (isSign_ok (c := 40) h) (fun r hr => ?_)
  subst hr
  have ed : decide (x.1 = 0) = true := decide_eq_true h0
  rw [ed, Bool.true_and, Bool.true_and]
  have hm4 : ∀ {m4 : Nat}, m4 < m3 → m4 < N := fun q => by omega
  have F0 : ¬ f = 0 → isFa T n (kB T n x.2) = true := hfa.mp
  have F1 : f = 0 → isFa T n (kB T n x.2) = false := fun q => Bool.eq_false_iff.mpr (fun e => (hfa.mpr e) q)
  refine b_X4_readPart_22 _ _ _ _ _ s hu (fun g1 g2 g3 g4 m4 hm => ?_) (fun g1 g2 g3 g4 m4 hm => ?_) (fun g1 g2 g3 m4 hm => ?_) (fun g1 g2 m4 hm => ?_) (fun g1 g9 g10 m4 hm => ?_) (fun g1 g9 g10 m4 hm => ?_) (fun g1 g9 g13 g14 m4 hm => ?_) (fun g1 g9 g13 g14 m4 hm => ?_) (fun g1 g9 g13 m4 hm => ?_)
  · rw [hfx (F0 g1)]
    exact pt_factE hu (by omega) hl h h0 hs hs9 (b2i_0.mp g3) (b2i_0.mp g4) (F0 g1)
  · exact pt_openE hu ih (by omega) hl h h0 hs hs9 (b2i_0.mp g3) (b2i_1.mp g4) (hm4 hm)
  · exact pt_notE hu ih (by omega) hl h h0 hs hs9 (b2i_1.mp g3) (hm4 hm)
  · exact pt_manyE hu (by omega) hd hl h h0 hs (fun q => by rw [F0 g1] at q; cases q.1)
  · exact pt_notE hu ih (by omega) hl h h0 hs hs9 (b2i_1.mp g9) (hm4 hm)
  · exact pt_manyE hu (by omega) hd hl h h0 hs (fun q => by rw [b2i_1.mp g9] at q; cases q.2.1)
  · exact pt_openE hu ih (by omega) hl h h0 hs hs9 (b2i_0.mp g9) (b2i_1.mp g13) (hm4 hm)
  · exact pt_manyE hu (by omega) hd hl h h0 hs (fun q => by rw [b2i_1.mp g13] at q; cases q.2.2.1)
  · refine zC_q (isNumber_ok h) (fun r hr => ?_)
    subst hr
    rw [ed, Bool.true_and]
    refine b_X4_readPart_42 _ _ _ _ _ s hu (fun e1 e2 e3 e4 e5 m5 hm5 => ?_) (fun e1 e2 e3 e4 e5 m5 hm5 => ?_) (fun e1 e2 e3 e4 m5 hm5 => ?_) (fun e1 e2 e3 m5 hm5 => ?_) (fun e1 e2 m5 hm5 => ?_) (fun e1 m5 hm5 => ?_)
    · exact pt_numE hu (by omega) hl h h0 hs hs9 (b2i_0.mp g9) (b2i_0.mp g13) (F1 g1) (b2i_1.mp e1)
    · exact absurd g1 e5
    · exact absurd g13 e4
    · exact absurd g9 e3
    · exact pt_manyE hu (by omega) hd hl h h0 hs (fun q => by rw [b2i_1.mp e1] at q; cases q.2.2.2)
    · refine zC_q (fail_ok (k := 1) (by decide) h) (fun r hr => ?_)
      obtain ⟨r1, s3⟩ := r
      obtain ⟨e, f3, py3⟩ := hr
      have e : r1 = [] := e
      subst e
      have hb := gF_ne (T := T) (n := n) (k := 1) (by decide) h0
      have e2 : (gF T n 1 x).2 = x.2 := by unfold gF; split <;> rfl
      have es : s3 u 1 = s u 1 := f3 u 1 (by omega)
      refine b_X4_readPart_50 _ _ _ _ s3 hu ⟨rfl, prF_F f3, gF T n 1 x, py3, by omega, by show 0 ≤ s3 u 1; rw [es]; exact hs, by show s3 u 1 + (x.2 : Int) ≤ s u 1 + ((gF T n 1 x).2 : Int); omega, fun _ => ?_, fun q => absurd q hb⟩
      rw [aRt_bad h.2.2.1 ⟨F1 g1, b2i_0.mp g9, b2i_0.mp g13, b2i_0.mp e1⟩]
      obtain ⟨y1, y2⟩ := x
      have : y1 = 0 := h0
      rw [this]
theorem joinHere_ex {lv N : Nat} {s : Zs} {x : PS} (hlv : lv < 4) (h : pst s T n x) : zC N 517 [(((1 : Nat) : Int), 0), ((lv : Int), 0)] s (fun r => r = ([(if x.1 = 0 ∧ jn T n lv (kB T n x.2) = true then jst T n lv (kB T n x.2) else 0, 0)], s)) := by
  have W : ∀ w : Int, w = (if x.1 = 0 ∧ jn T n lv (kB T n x.2) = true then jst T n lv (kB T n x.2) else 0) → (([(w, 0)], s) : Zr) = ([(if x.1 = 0 ∧ jn T n lv (kB T n x.2) = true then jst T n lv (kB T n x.2) else 0, 0)], s) := fun w hw => by rw [hw]
  have dd : ∀ {c : Bool}, (decide (x.1 = 0) && c) = true ↔ (x.1 = 0 ∧ c = true) := fun {c} => by simp
  have nn : ∀ {c : Bool}, b2i (decide (x.1 = 0) && c) = 0 → x.1 = 0 → c = false := fun {c} q h0 => by
    have q := b2i_0.mp q
    rw [decide_eq_true h0, Bool.true_and] at q
    exact q
  have yy : ∀ {c : Bool}, b2i (decide (x.1 = 0) && c) ≠ 0 → x.1 = 0 ∧ c = true := fun {c} q => dd.mp (b2i_1.mp q)
  refine c_X4_joinHere (b_X4_joinHere_0 (lv : Int) s (fun g m _ => ?_) (fun g m _ => ?_) (fun g m _ => ?_) (fun g1 g2 g3 m _ => ?_))
  · have : lv = 0 := by omega
    subst this
    refine zC_q (isWord_ok (i := 23) (by omega) h) (fun r hr => ?_)
    subst hr
    refine b_X4_joinHere_34 _ _ s (fun g m' _ => ?_) (fun g => ?_)
    · refine zC_q (isWord_ok (i := 24) (by omega) h) (fun r hr => ?_)
      subst hr
      refine b_X4_joinHere_48 _ _ s (fun g' => W _ ?_) (fun g' => W _ ?_)
      · rw [if_neg (fun q => by
          have q2 : (isKw T n (kB T n x.2) 23 || isKw T n (kB T n x.2) 24) = true := q.2
          rw [nn g q.1, nn g' q.1] at q2
          cases q2)]
      · have y := yy g'
        have q2 : jn T n 0 (kB T n x.2) = true := by
          show (isKw T n (kB T n x.2) 23 || isKw T n (kB T n x.2) 24) = true
          rw [y.2, Bool.or_true]
        rw [if_pos ⟨y.1, q2⟩]
        show -6 = (if isKw T n (kB T n x.2) 23 = true then -5 else -6 : Int)
        rw [nn g y.1, if_neg (by decide)]
    · refine W _ ?_
      have y := yy g
      have q2 : jn T n 0 (kB T n x.2) = true := by
        show (isKw T n (kB T n x.2) 23 || isKw T n (kB T n x.2) 24) = true
        rw [y.2, Bool.true_or]
      rw [if_pos ⟨y.1, q2⟩]
      show -5 = (if isKw T n (kB T n x.2) 23 = true then -5 else -6 : Int)
      rw [if_pos y.2]
  · have : lv = 1 := by omega
    subst this
    refine zC_q (isSign_ok (c := 60) h) (fun r hr => ?_)
    subst hr
    refine b_X4_joinHere_64 _ _ s (fun g m' _ => ?_) (fun g => ?_)
    · refine zC_q (isSign_ok (c := 61) h) (fun r hr => ?_)
      subst hr
      refine b_X4_joinHere_78 _ _ s (fun g' => W _ ?_) (fun g' => W _ ?_)
      · rw [if_neg (fun q => by
          have q2 : (isSg T n (kB T n x.2) 60 || isSg T n (kB T n x.2) 61) = true := q.2
          rw [nn g q.1, nn g' q.1] at q2
          cases q2)]
      · have y := yy g'
        have q2 : jn T n 1 (kB T n x.2) = true := by
          show (isSg T n (kB T n x.2) 60 || isSg T n (kB T n x.2) 61) = true
          rw [y.2, Bool.or_true]
        rw [if_pos ⟨y.1, q2⟩]
        show -8 = (if isSg T n (kB T n x.2) 60 = true then -7 else -8 : Int)
        rw [nn g y.1, if_neg (by decide)]
    · refine W _ ?_
      have y := yy g
      have q2 : jn T n 1 (kB T n x.2) = true := by
        show (isSg T n (kB T n x.2) 60 || isSg T n (kB T n x.2) 61) = true
        rw [y.2, Bool.true_or]
      rw [if_pos ⟨y.1, q2⟩]
      show -7 = (if isSg T n (kB T n x.2) 60 = true then -7 else -8 : Int)
      rw [if_pos y.2]
  · have : lv = 2 := by omega
    subst this
    refine zC_q (isSign_ok (c := 43) h) (fun r hr => ?_)
    subst hr
    refine b_X4_joinHere_94 _ _ s (fun g m' _ => ?_) (fun g => ?_)
    · refine zC_q (isSign_ok (c := 45) h) (fun r hr => ?_)
      subst hr
      refine b_X4_joinHere_108 _ _ s (fun g' => W _ ?_) (fun g' => W _ ?_)
      · rw [if_neg (fun q => by
          have q2 : (isSg T n (kB T n x.2) 43 || isSg T n (kB T n x.2) 45) = true := q.2
          rw [nn g q.1, nn g' q.1] at q2
          cases q2)]
      · have y := yy g'
        have q2 : jn T n 2 (kB T n x.2) = true := by
          show (isSg T n (kB T n x.2) 43 || isSg T n (kB T n x.2) 45) = true
          rw [y.2, Bool.or_true]
        rw [if_pos ⟨y.1, q2⟩]
        show -10 = (if isSg T n (kB T n x.2) 43 = true then -9 else -10 : Int)
        rw [nn g y.1, if_neg (by decide)]
    · refine W _ ?_
      have y := yy g
      have q2 : jn T n 2 (kB T n x.2) = true := by
        show (isSg T n (kB T n x.2) 43 || isSg T n (kB T n x.2) 45) = true
        rw [y.2, Bool.true_or]
      rw [if_pos ⟨y.1, q2⟩]
      show -9 = (if isSg T n (kB T n x.2) 43 = true then -9 else -10 : Int)
      rw [if_pos y.2]
  · have : lv = 3 := by omega
    subst this
    refine zC_q (isSign_ok (c := 42) h) (fun r hr => ?_)
    subst hr
    refine b_X4_joinHere_124 _ _ s (fun g => W _ ?_) (fun g => W _ ?_)
    · rw [if_neg (fun q => by
        have q2 : isSg T n (kB T n x.2) 42 = true := q.2
        rw [nn g q.1] at q2
        cases q2)]
    · have y := yy g
      rw [if_pos ⟨y.1, show jn T n 3 (kB T n x.2) = true from y.2⟩]
      rfl
theorem SEM_lift {lv dp : Nat} {g q : List Int} (hlv : lv < 4) (h : SEM (lv + 1) dp g q) : SEM lv dp g q := by
  have : lv = 0 ∨ lv = 1 ∨ lv = 2 ∨ lv = 3 := by omega
  rcases this with rfl | rfl | rfl | rfl
  · exact SEM_0 h
  · exact SEM_1 h
  · exact SEM_2 h
  · exact SEM_3 h
section ZlvE
variable {N : Nat} {lv dp : Nat} {c : Bool} {l' : List (Bool × Bool)} {x : PS} {s : Zs}
def LIE (T : Nat → Int) (n lv : Nat) (c : Bool) (l' : List (Bool × Bool)) (x : PS) (dp i : Nat) (y : PS) (g q : List Int) : Prop := ∃ c1, aR T n x.2 true ((false, c) :: l') = aR T n y.2 false ((false, c1) :: l') ∧ aK T n x.2 true ((false, c) :: l') = g ++ aK T n y.2 false ((false, c1) :: l') ∧ nj T n (lv + 1) c1 y.2 ∧ (2 ≤ lv → c1 = c) ∧ (lv = 1 → (c1 = false ∧ i = 0) ∨ (c1 = true ∧ i = 1)) ∧ SEM lv dp g q ∧ (lv = 1 → i = 0 → SEM 2 dp g q)
theorem SEM_join {b : Nat} {g1 q1 g2 q2 : List Int} (hlv : lv < 4) (h1 : SEM lv dp g1 q1) (h12 : lv = 1 → SEM 2 dp g1 q1) (h2 : SEM (lv + 1) dp g2 q2) : SEM lv dp (g1 ++ jcd T n lv b :: g2) (q1 ++ (q2 ++ [jst T n lv b])) := by
  have : lv = 0 ∨ lv = 1 ∨ lv = 2 ∨ lv = 3 := by omega
  rcases this with rfl | rfl | rfl | rfl
  · refine SEM_0j ?_ h1 h2
    show ((if isKw T n b 23 = true then 26 else 27 : Int) = 26 ∧ (if isKw T n b 23 = true then -5 else -6 : Int) = -5) ∨ ((if isKw T n b 23 = true then 26 else 27 : Int) = 27 ∧ (if isKw T n b 23 = true then -5 else -6 : Int) = -6)
    split
    · exact Or.inl ⟨rfl, rfl⟩
    · exact Or.inr ⟨rfl, rfl⟩
  · refine SEM_1j ?_ (h12 rfl) h2
    show ((if isSg T n b 60 = true then 24 else 25 : Int) = 24 ∧ (if isSg T n b 60 = true then -7 else -8 : Int) = -7) ∨ ((if isSg T n b 60 = true then 24 else 25 : Int) = 25 ∧ (if isSg T n b 60 = true then -7 else -8 : Int) = -8)
    split
    · exact Or.inl ⟨rfl, rfl⟩
    · exact Or.inr ⟨rfl, rfl⟩
  · refine SEM_2j ?_ h1 h2
    show ((if isSg T n b 43 = true then 20 else 21 : Int) = 20 ∧ (if isSg T n b 43 = true then -9 else -10 : Int) = -9) ∨ ((if isSg T n b 43 = true then 20 else 21 : Int) = 21 ∧ (if isSg T n b 43 = true then -9 else -10 : Int) = -10)
    split
    · exact Or.inl ⟨rfl, rfl⟩
    · exact Or.inr ⟨rfl, rfl⟩
  · exact SEM_3j h1 h2
theorem lv_loopE (hu : u = 36 ∨ u = 72) (ih : ∀ m, m < N → PTokE T n u m ∧ LVokE T n u m) (hlv : lv < 4) (hd : dp ≤ 5) (hl : l'.length = dp) (h00 : 0 ≤ s u 1) (h09 : s u 1 ≤ (x.2 : Int)) : ∀ (M : Nat), M ≤ N → ∀ (i : Nat) (mo x6 : Int) (y : PS) (s1 : Zs), (lv = 1 → mo = 1) → (lv ≠ 1 → mo = 1000) → prF u s s1 → pst s1 T n y → x.2 ≤ y.2 → 0 ≤ s1 u 1 → s1 u 1 + (x.2 : Int) ≤ s u 1 + (y.2 : Int) → i ≤ y.2 → (y.1 ≠ 0 → aR T n x.2 true ((false, c) :: l') = y) → (y.1 = 0 → ∃ g q, LIE T n lv c l' x dp i y g q ∧ emS u s s1 q) → zT (zE 519) (Pt PX4_readLevel) M (38, [((u : Nat) : Int), ((1 : Nat) : Int), (lv : Int), (dp : Int), mo, (i : Int), x6], [], s1) (qE T n u x ((false, c) :: l') (RLvE T n x ((false, c) :: l') lv c l' dp) s) := by
  intro M
  induction M using Nat.strongRecOn with
  | ind M ihM =>
    intro hM i mo x6 y s1 m1 m2 hf py hle hs hbd hi hbad hgood
    have hyn := py.2.2.1
    have hn := py.2.1.2.1
    have hkb := kE_bd (T := T) hyn
    have fin : (y.1 = 0 → (lv = 1 → i = 0) → jn T n lv (kB T n y.2) = false) → qE T n u x ((false, c) :: l') (RLvE T n x ((false, c) :: l') lv c l' dp) s ([], s1) := fun hj => by
      refine ⟨rfl, hf, y, py, hle, hs, hbd, hbad, fun hy => ?_⟩
      obtain ⟨g, q, ⟨c1, e1, k1, e2, e3, e4, sm, -⟩, em⟩ := hgood hy
      refine ⟨g, q, ⟨c1, e1, k1, fun k k1 k4 kc => ?_, e3, sm⟩, em⟩
      by_cases hk : k = lv
      · subst hk
        refine hj hy (fun q => ?_)
        rcases e4 q with h | h
        · exact h.2
        · rw [kc q] at h; cases h.1
      · exact e2 k (by omega) k4 kc
    refine b_X4_readLevel_38 _ _ _ _ _ s1 hu (fun g => ?_) (fun g m hm => ?_)
    · refine fin (fun hy h1 => ?_)
      by_cases hl1 : lv = 1
      · have := m1 hl1
        have := h1 hl1
        omega
      · have := m2 hl1
        refine Bool.eq_false_iff.mpr (fun q => ?_)
        have hne : eQ T n (kB T n y.2) ≠ 1 := by rcases jn_q q with q | q <;> omega
        have := eQ_lt hyn hne
        omega
    · refine zC_q (joinHere_ex hlv py) (fun r hr => ?_)
      have hjs : jst T n lv (kB T n y.2) ≠ 0 := by
        unfold jst
        split
        · split <;> decide
        · split
          · split <;> decide
          · split
            · split <;> decide
            · decide
      have hv : (if y.1 = 0 ∧ jn T n lv (kB T n y.2) = true then jst T n lv (kB T n y.2) else 0) ≠ 0 ↔ (y.1 = 0 ∧ jn T n lv (kB T n y.2) = true) := by
        constructor
        · intro q
          exact Classical.byContradiction fun c => q (if_neg c)
        · intro q
          rw [if_pos q]
          exact hjs
      subst hr
      refine b_X4_readLevel_50 _ _ _ _ _ _ s1 hu (fun g1 m' hm' => ?_) (fun g1 => ?_)
      · obtain ⟨hy, hj⟩ := hv.mp g1
        rw [if_pos ⟨hy, hj⟩]
        obtain ⟨g0, q0, ⟨c1, e1, k1, e2, e3, e4, sm, sm2⟩, em⟩ := hgood hy
        have hne : eQ T n (kB T n y.2) ≠ 1 := by rcases jn_q hj with q | q <;> omega
        have hlt := eQ_lt hyn hne
        have hg : gNx T n y = (0, kE T n y.2) := if_pos hy
        have hc1 : lv = 1 → c1 = false ∧ i = 0 := fun q => by
          have := m1 q
          rcases e4 q with q | q
          · exact q
          · omega
        have ej := aRf_join (l' := l') hyn hj hlv (fun q => (hc1 q).1)
        have kj := aK_join (l' := l') hyn hj hlv (fun q => (hc1 q).1)
        refine pst_nextC py hy (fun s2 f2 p2 => ?_)
        rw [hg] at p2
        have es : s2 u 1 = s1 u 1 := f2 u 1 (by omega)
        have es2 : ∀ j, s2 (u + 1) j = s1 (u + 1) j := fun j => f2 _ _ (by omega)
        refine b_X4_readLevel_64 _ _ _ _ _ s2 hu (fun m3 hm3 => ?_)
        rw [w32_id (z := (lv : Int) + 1) (by omega) (by omega), show (lv : Int) + 1 = ((lv + 1 : Nat) : Int) from by omega]
        refine zC_q ((ih m3 (by omega)).2 (lv + 1) dp (if lv = 0 then false else if lv = 1 then true else c1) l' (0, kE T n y.2) s2 (by omega) hd hl (fun q => if_pos (by omega)) p2 rfl (by omega) (by rw [es]; show s1 u 1 ≤ ((kE T n y.2 : Nat) : Int); omega)) (fun r hr => ?_)
        obtain ⟨r1, s3⟩ := r
        obtain ⟨e, f3, z, pz, hlez, hs3, hb3, hbadz, hgoodz⟩ := hr
        have e : r1 = [] := e
        subst e
        have hlez : kE T n y.2 ≤ z.2 := hlez
        have hs3 : 0 ≤ s3 u 1 := hs3
        have hb3 : s3 u 1 + ((kE T n y.2 : Nat) : Int) ≤ s2 u 1 + (z.2 : Int) := hb3
        have hzn := pz.2.2.1
        refine b_X4_readLevel_73 _ _ _ _ _ s3 hu (fun m4 hm4 => ?_)
        refine zC_q (add_E hu pz hs3 (by omega)) (fun r hr => ?_)
        obtain ⟨r1, s4⟩ := r
        obtain ⟨e, f4, pz4, e5⟩ := hr
        have e : r1 = [] := e
        subst e
        have e5 : emS u s3 s4 [jst T n lv (kB T n y.2)] := e5
        have e51 : s4 u 1 = s3 u 1 + 1 := e5.1
        refine b_X4_readLevel_79 _ _ _ _ _ s4 hu (fun m5 hm5 => ?_)
        rw [w32_id (z := (i : Int) + 1) (by omega) (by omega), show (i : Int) + 1 = ((i + 1 : Nat) : Int) from by omega]
        refine ihM m5 (by omega) (by omega) (i + 1) mo _ z s4 m1 m2 (prF_tr hf (prF_tr (prF_F f2) (prF_tr f3 f4))) pz4 (by omega) (by omega) (by omega) (by omega) (fun hz => ?_) (fun hz => ?_)
        · rw [e1, ej]; exact hbadz hz
        · obtain ⟨gz, qz, ⟨c3, z1, kz, z2, z3, smz⟩, emz⟩ := hgoodz hz
          have z1 : aR T n (kE T n y.2) true _ = aR T n z.2 false ((false, c3) :: l') := z1
          have kz : aK T n (kE T n y.2) true _ = gz ++ aK T n z.2 false ((false, c3) :: l') := kz
          refine ⟨g0 ++ jcd T n lv (kB T n y.2) :: gz, q0 ++ (qz ++ [jst T n lv (kB T n y.2)]), ⟨c3, by rw [e1, ej]; exact z1, ?_, z2, fun q => ?_, fun q => Or.inr ⟨?_, by have := (hc1 q).2; omega⟩, SEM_join hlv sm (fun q => sm2 q (hc1 q).2) smz, fun q q2 => by omega⟩, ?_⟩
          · rw [k1, kj, kz, List.append_assoc]
            rfl
          · rw [z3 (by omega), if_neg (by omega), if_neg (by omega)]; exact e3 q
          · rw [z3 (by omega), if_neg (by omega), if_pos q]
          · exact emS_app h00 em (emS_app hs (emS_fl emz es es2) e5)
      · refine fin (fun hy _ => Bool.eq_false_iff.mpr (fun q => (hv.mpr ⟨hy, q⟩) g1))
end ZlvE
theorem lv_stepE (hu : u = 36 ∨ u = 72) {N : Nat} (ih : ∀ m, m < N → PTokE T n u m ∧ LVokE T n u m) : LVokE T n u N := by
  intro lv dp c l' x s hlv hd hl hc h h0 hs hs9
  refine c_X4_readLevel (b_X4_readLevel_0 _ _ _ _ _ s hu (fun g m hm => ?_) (fun g m hm => ?_))
  · rw [w32_id (z := (lv : Int) + 1) (by omega) (by omega), show (lv : Int) + 1 = ((lv + 1 : Nat) : Int) from by omega]
    refine zC_q ((ih m hm).2 (lv + 1) dp c l' x s (by omega) hd hl (fun q => hc (by omega)) h h0 hs hs9) (fun r hr => ?_)
    obtain ⟨r1, s2⟩ := r
    obtain ⟨e, f2, y, py, hle, hs2, hb2, hbad, hgood⟩ := hr
    have e : r1 = [] := e
    subst e
    have hi : y.1 = 0 → ∃ g q, LIE T n lv c l' x dp 0 y g q ∧ emS u s s2 q := fun hy => by
      obtain ⟨g0, q0, ⟨c1, e1, k1, e2, e3, sm⟩, em⟩ := hgood hy
      exact ⟨g0, q0, ⟨c1, e1, k1, e2, fun q => e3 (by omega), fun q => Or.inl ⟨(e3 (by omega)).trans (hc (by omega)), rfl⟩, SEM_lift (by omega) sm, fun q _ => by subst q; exact sm⟩, em⟩
    refine b_X4_readLevel_21 _ _ _ _ _ s2 hu (fun g => ?_) (fun g => ?_)
    · exact lv_loopE hu ih (by omega) hd hl hs hs9 m (by omega) 0 1000 0 y s2 (fun q => absurd q (by omega)) (fun _ => rfl) f2 py hle hs2 hb2 (by omega) hbad hi
    · exact lv_loopE hu ih (by omega) hd hl hs hs9 m (by omega) 0 1 0 y s2 (fun _ => rfl) (fun q => absurd g (by omega)) f2 py hle hs2 hb2 (by omega) hbad hi
  · have : lv = 4 := by omega
    subst this
    refine zC_q ((ih m hm).1 dp x ((false, c) :: l') s hd (by simp [hl]) h h0 hs hs9) (fun r hr => ?_)
    obtain ⟨r1, s2⟩ := r
    obtain ⟨e, f2, y, py, hle, hs2, hb2, hbad, hgood⟩ := hr
    have e : r1 = [] := e
    subst e
    refine b_X4_readLevel_11 _ _ _ _ _ s2 hu ⟨rfl, f2, y, py, hle, hs2, hb2, hbad, fun hy => ?_⟩
    obtain ⟨g0, q0, ⟨r1, r2, r3⟩, em⟩ := hgood hy
    rw [popZ_f] at r1 r2
    exact ⟨g0, q0, ⟨c, r1, r2, fun k k1 k4 => by omega, fun _ => rfl, r3⟩, em⟩
theorem rd_okE (hu : u = 36 ∨ u = 72) : ∀ N, PTokE T n u N ∧ LVokE T n u N := by
  intro N
  induction N using Nat.strongRecOn with
  | ind N ih => exact ⟨pt_stepE hu ih, lv_stepE hu ih⟩
end Zpq
