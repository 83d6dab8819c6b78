/-! a town told anew: the law of price -/
section Zq7
variable {N t n : Nat} {s : Zs} {D : ZD} {T : Nat → Int}
theorem laysP : zC N 1462 [(((172 : Nat) : Int), 0)] s (fun r => r.1 = [] ∧ r.2 192 0 = w32 (s 192 1 - 1000) ∧ r.2 193 0 = w32 (s 193 1 - 1000) ∧ ∀ j, j < 1000 → r.2 194 j = s 194 (1000 + j)) := by
  refine c_X11_lays (b_X11_lays_0 s (fun m0 _ => ?_))
  refine zC_q (moves_fr (c := 174)) (fun r hr => ?_)
  obtain ⟨r1, s1⟩ := r
  obtain ⟨e, f1⟩ := hr
  have e : r1 = [] := e
  subst e
  have f1 : ∀ d j, d ≠ 174 → s1 d j = s d j := f1
  refine b_X11_lays_9 s1 (fun m1 _ => ?_)
  refine zC_q (movesL_fr (c := 175)) (fun r hr => ?_)
  obtain ⟨r1, s2⟩ := r
  obtain ⟨e, f2⟩ := hr
  have e : r1 = [] := e
  subst e
  have f2 : ∀ d j, d ≠ 175 → s2 d j = s1 d j := f2
  refine b_X11_lays_17 s2 (fun m2 _ => ?_)
  refine zC_q (movesL_fr (c := 176)) (fun r hr => ?_)
  obtain ⟨r1, s3⟩ := r
  obtain ⟨e, f3⟩ := hr
  have e : r1 = [] := e
  subst e
  have f3 : ∀ d j, d ≠ 176 → s3 d j = s2 d j := f3
  refine b_X11_lays_25 s3 (fun m3 _ => ?_)
  refine zC_q (movesL_fr (c := 177)) (fun r hr => ?_)
  obtain ⟨r1, s4⟩ := r
  obtain ⟨e, f4⟩ := hr
  have e : r1 = [] := e
  subst e
  have f4 : ∀ d j, d ≠ 177 → s4 d j = s3 d j := f4
  refine b_X11_lays_33 s4 (fun m4 _ => ?_)
  refine zC_q (movesL_fr (c := 178)) (fun r hr => ?_)
  obtain ⟨r1, s5⟩ := r
  obtain ⟨e, f5⟩ := hr
  have e : r1 = [] := e
  subst e
  have f5 : ∀ d j, d ≠ 178 → s5 d j = s4 d j := f5
  refine b_X11_lays_41 s5 (fun m5 _ => ?_)
  refine zC_q (moves_fr (c := 179)) (fun r hr => ?_)
  obtain ⟨r1, s6⟩ := r
  obtain ⟨e, f6⟩ := hr
  have e : r1 = [] := e
  subst e
  have f6 : ∀ d j, d ≠ 179 → s6 d j = s5 d j := f6
  refine b_X11_lays_49 s6 (fun m6 _ => ?_)
  refine zC_q (moves_fr (c := 180)) (fun r hr => ?_)
  obtain ⟨r1, s7⟩ := r
  obtain ⟨e, f7⟩ := hr
  have e : r1 = [] := e
  subst e
  have f7 : ∀ d j, d ≠ 180 → s7 d j = s6 d j := f7
  refine b_X11_lays_58 s7 (fun m7 _ => ?_)
  refine zC_q (moves_fr (c := 181)) (fun r hr => ?_)
  obtain ⟨r1, s8⟩ := r
  obtain ⟨e, f8⟩ := hr
  have e : r1 = [] := e
  subst e
  have f8 : ∀ d j, d ≠ 181 → s8 d j = s7 d j := f8
  refine b_X11_lays_67 s8 (fun m8 _ => ?_)
  refine zC_q (moves_fr (c := 182)) (fun r hr => ?_)
  obtain ⟨r1, s9⟩ := r
  obtain ⟨e, f9⟩ := hr
  have e : r1 = [] := e
  subst e
  have f9 : ∀ d j, d ≠ 182 → s9 d j = s8 d j := f9
  refine b_X11_lays_76 s9 (fun m9 _ => ?_)
  refine zC_q (moves_fr (c := 183)) (fun r hr => ?_)
  obtain ⟨r1, s10⟩ := r
  obtain ⟨e, f10⟩ := hr
  have e : r1 = [] := e
  subst e
  have f10 : ∀ d j, d ≠ 183 → s10 d j = s9 d j := f10
  refine b_X11_lays_85 s10 (fun m10 _ => ?_)
  refine zC_q (moves_fr (c := 184)) (fun r hr => ?_)
  obtain ⟨r1, s11⟩ := r
  obtain ⟨e, f11⟩ := hr
  have e : r1 = [] := e
  subst e
  have f11 : ∀ d j, d ≠ 184 → s11 d j = s10 d j := f11
  refine b_X11_lays_93 s11 (fun m11 _ => ?_)
  refine zC_q (moves_fr (c := 185)) (fun r hr => ?_)
  obtain ⟨r1, s12⟩ := r
  obtain ⟨e, f12⟩ := hr
  have e : r1 = [] := e
  subst e
  have f12 : ∀ d j, d ≠ 185 → s12 d j = s11 d j := f12
  refine b_X11_lays_101 s12 (fun m12 _ => ?_)
  refine zC_q (moves_fr (c := 186)) (fun r hr => ?_)
  obtain ⟨r1, s13⟩ := r
  obtain ⟨e, f13⟩ := hr
  have e : r1 = [] := e
  subst e
  have f13 : ∀ d j, d ≠ 186 → s13 d j = s12 d j := f13
  refine b_X11_lays_109 s13 (fun m13 _ => ?_)
  refine zC_q (moves_fr (c := 187)) (fun r hr => ?_)
  obtain ⟨r1, s14⟩ := r
  obtain ⟨e, f14⟩ := hr
  have e : r1 = [] := e
  subst e
  have f14 : ∀ d j, d ≠ 187 → s14 d j = s13 d j := f14
  refine b_X11_lays_117 s14 (fun m14 _ => ?_)
  refine zC_q (moves_fr (c := 188)) (fun r hr => ?_)
  obtain ⟨r1, s15⟩ := r
  obtain ⟨e, f15⟩ := hr
  have e : r1 = [] := e
  subst e
  have f15 : ∀ d j, d ≠ 188 → s15 d j = s14 d j := f15
  refine b_X11_lays_125 s15 (fun m15 _ => ?_)
  refine zC_q (moves_fr (c := 189)) (fun r hr => ?_)
  obtain ⟨r1, s16⟩ := r
  obtain ⟨e, f16⟩ := hr
  have e : r1 = [] := e
  subst e
  have f16 : ∀ d j, d ≠ 189 → s16 d j = s15 d j := f16
  refine b_X11_lays_133 s16 (fun m16 _ => ?_)
  refine zC_q (moves_fr (c := 190)) (fun r hr => ?_)
  obtain ⟨r1, s17⟩ := r
  obtain ⟨e, f17⟩ := hr
  have e : r1 = [] := e
  subst e
  have f17 : ∀ d j, d ≠ 190 → s17 d j = s16 d j := f17
  refine b_X11_lays_141 s17 (fun m17 _ => ?_)
  refine zC_q (moves_fr (c := 191)) (fun r hr => ?_)
  obtain ⟨r1, s18⟩ := r
  obtain ⟨e, f18⟩ := hr
  have e : r1 = [] := e
  subst e
  have f18 : ∀ d j, d ≠ 191 → s18 d j = s17 d j := f18
  refine b_X11_lays_149 s18 (fun m18 _ => ?_)
  refine zC_q (movesE (c := 194) (n := 1000) (by omega)) (fun r hr => ?_)
  obtain ⟨r1, s19⟩ := r
  obtain ⟨e, e19, f19⟩ := hr
  have e : r1 = [] := e
  subst e
  have e19 : ∀ j : Nat, j < 1000 → s19 194 j = s18 194 (1000 + j) := e19
  have f19 : ∀ d j, ¬ (d = 194 ∧ j < 1000) → s19 d j = s18 d j := f19
  have k : ∀ c j, 192 ≤ c → c ≤ 194 → s18 c j = s c j := fun c j a b => by
    rw [f18 c j (by omega), f17 c j (by omega), f16 c j (by omega), f15 c j (by omega), f14 c j (by omega), f13 c j (by omega), f12 c j (by omega), f11 c j (by omega), f10 c j (by omega), f9 c j (by omega), f8 c j (by omega), f7 c j (by omega), f6 c j (by omega), f5 c j (by omega), f4 c j (by omega), f3 c j (by omega), f2 c j (by omega), f1 c j (by omega)]
  have W : ∀ s9 : Zs, s9 = zu (zu s19 192 0 (w32 (s19 192 1 - 1000))) 193 0 (w32 (s19 193 1 - 1000)) → s9 192 0 = w32 (s 192 1 - 1000) ∧ s9 193 0 = w32 (s 193 1 - 1000) ∧ ∀ j, j < 1000 → s9 194 j = s 194 (1000 + j) := fun s9 e9 => by
    have a1 : s19 192 1 = s 192 1 := (f19 _ _ (by omega)).trans (k _ _ (by omega) (by omega))
    have a2 : s19 193 1 = s 193 1 := (f19 _ _ (by omega)).trans (k _ _ (by omega) (by omega))
    refine ⟨?_, ?_, fun j hj => ?_⟩
    · rw [e9, zu_n (by omega), zu_eq, a1]
    · rw [e9, zu_eq, a2]
    · rw [e9, zu_n (by omega), zu_n (by omega), e19 j hj, k _ _ (by omega) (by omega)]
  exact b_X11_lays_159 s19 ⟨rfl, W _ rfl⟩
theorem aC_le : ∀ (f p : Nat) (w : Bool) (l : List (Bool × Bool)) (c : Int), c ∈ aC T n f p w l → c ≤ 100000
  | 0, _, _, _, c, h => by
    unfold aC at h
    cases h
  | f + 1, p, true, l, c, h => by
    unfold aC at h
    split at h
    · cases h
    · rename_i c1
      split at h
      · cases h
      · split at h
        · rcases List.mem_cons.mp h with rfl | h
          · decide
          · exact aC_le f _ _ _ c h
        · rename_i c2
          split at h
          · rcases List.mem_cons.mp h with rfl | h
            · decide
            · exact aC_le f _ _ _ c h
          · rename_i c3
            rcases List.mem_cons.mp h with h | h
            · have kl : kwi (eW T n (kB T n p)) < 28 := kwp_lt 28
              by_cases c4 : isFa T n (kB T n p) = true
              · rw [if_pos c4] at h
                omega
              · rw [if_neg c4] at h
                have hn : isNu T n (kB T n p) = true := by
                  cases q : isNu T n (kB T n p) with
                  | true => rfl
                  | false => exact absurd ⟨Bool.eq_false_iff.mpr c4, Bool.eq_false_iff.mpr c2, Bool.eq_false_iff.mpr c3, q⟩ c1
                have mb := eM_bd (isNu_q hn)
                omega
            · exact aC_le f _ _ _ c h
  | f + 1, p, false, l, c, h => by
    unfold aC at h
    split at h
    · rcases List.mem_cons.mp h with h | h
      · have : c ≤ 22 := by
          rw [h]
          split
          · decide
          · split <;> decide
        omega
      · exact aC_le f _ _ _ c h
    · split at h
      · rcases List.mem_cons.mp h with h | h
        · have : c ≤ 25 := by
            rw [h]
            split <;> decide
          omega
        · exact aC_le f _ _ _ c h
      · split at h
        · rcases List.mem_cons.mp h with h | h
          · have : c ≤ 27 := by
              rw [h]
              split <;> decide
            omega
          · exact aC_le f _ _ _ c h
        · split at h
          · rcases List.mem_cons.mp h with rfl | h
            · decide
            · exact aC_le f _ _ _ c h
          · cases h
/-- the codes g stand in line 0 -/
def prL0 (s : Zs) (g : List Int) : Prop := ∃ a : Nat, s 192 0 = ((a : Nat) : Int) ∧ s 193 0 = ((a + g.length : Nat) : Int) ∧ 0 < g.length ∧ a + g.length ≤ 1000 ∧ ∀ k c, g[k]? = some c → s 194 (a + k) = c ∧ c ≤ 100000
def prM0 (s : Zs) (T : Nat → Int) (n : Nat) (D : ZD) : Prop := (dPr D ≠ 0 → prL0 s (aK T n ((dPr D).toNat - 1) true [(false, false)])) ∧ (dPr D = 0 → ¬ s 192 0 < s 193 0)
def qPm (s : Zs) (T : Nat → Int) (n : Nat) (a : PS × ZD) (r : Zr) : Prop := (a.1.1 ≠ 0 → (∀ j, j ≠ 1 → r.2 192 j = s 192 j ∧ r.2 193 j = s 193 j) ∧ ∀ j, j < 1000 → r.2 194 j = s 194 j) ∧ (a.1.1 = 0 → prM0 r.2 T n a.2)
theorem townP_m (h1 : s 172 1 = (n : Int)) (hn : n ≤ 1000) (hT : ∀ i, i < n → s 173 i = T i) : zC N 1521 [(((172 : Nat) : Int), 0)] s (qPm s T n (pAll T n 1000 (0, 0) d0)) := by
  refine c_X11_town (b_X11_town_0 _ s (fun m hm => ?_))
  refine zC_q (readsAll_okE (T := T) (n := n) (by rw [zu_n (by omega)]; exact h1) hn (fun i hi => by rw [zu_n (by omega)]; exact hT i hi)) (fun r hr => ?_)
  obtain ⟨r1, s1⟩ := r
  obtain ⟨⟨e, t, a, b⟩, ap⟩ := hr
  generalize pAll T n 1000 (0, 0) d0 = y at e a b ap ⊢
  have e : r1 = [(if y.1.1 = 0 then 1 else 0, 0)] := e
  subst e
  have t : frHW (zu (zu s 172 0 0) 172 1 0) s1 := t
  refine b_X11_town_9 _ _ s1 (fun g m1 hm1 => ?_) (fun g => ?_)
  · have hy : y.1.1 = 0 := Decidable.byContradiction fun c => g (if_neg c)
    have ap : prM s1 T n y.2 := ap hy
    refine zC_q laysP (fun r hr => ?_)
    obtain ⟨r1, s2⟩ := r
    obtain ⟨e, f2, g2, h2⟩ := hr
    have e : r1 = [] := e
    subst e
    have f2 : s2 192 0 = w32 (s1 192 1 - 1000) := f2
    have g2 : s2 193 0 = w32 (s1 193 1 - 1000) := g2
    have h2 : ∀ j, j < 1000 → s2 194 j = s1 194 (1000 + j) := h2
    have fin : ∀ (l : List Zv) (s4 : Zs), (∀ c j, 192 ≤ c → c ≤ 194 → s4 c j = s2 c j) → qPm s T n y (l, s4) := fun l s4 h => by
      refine ⟨fun q => absurd hy q, fun _ => ⟨fun q => ?_, fun q => ?_⟩⟩
      · obtain ⟨k, c1, c2, c3, c4, c5⟩ := ap.1 q
        have c4 : 1000 ≤ k := c4 rfl
        refine ⟨k - 1000, ?_, ?_, by omega, by omega, fun i c hc => ⟨?_, aC_le _ _ _ _ c (List.mem_of_getElem? hc)⟩⟩
        · show s4 192 0 = _
          rw [h _ _ (by omega) (by omega), f2, c1, w32_id (by omega) (by omega)]
          omega
        · show s4 193 0 = _
          rw [h _ _ (by omega) (by omega), g2, c2, w32_id (by omega) (by omega)]
          omega
        · show s4 194 _ = _
          have hl := (List.getElem?_eq_some_iff.mp hc).1
          rw [h _ _ (by omega) (by omega), h2 _ (by omega), show 1000 + (k - 1000 + i) = k + i from by omega]
          exact c5 i c hc
      · show ¬ s4 192 0 < s4 193 0
        obtain ⟨c1, c2⟩ := ap.2 q
        rw [h _ _ (by omega) (by omega), h _ _ (by omega) (by omega), f2, g2, c1, c2]
        exact Int.lt_irrefl _
    refine b_X11_town_21 _ s2 (fun m2 hm2 => ?_)
    refine zC_q freshF (fun r hr => ?_)
    obtain ⟨r1, s3⟩ := r
    obtain ⟨e, f3⟩ := hr
    have e : r1 = [] := e
    subst e
    have f3 : ∀ c j, c ≠ 216 → s3 c j = s2 c j := f3
    have loop : ∀ (M : Nat) (x1 : Int) (s4 : Zs), (∀ c j, 192 ≤ c → c ≤ 194 → s4 c j = s2 c j) → zT (zE 1521) (Pt PX11_town) M (46, [((172 : Nat) : Int), x1], [], s4) (qPm s T n y) := by
      intro M
      induction M using Nat.strongRecOn with
      | ind M ih =>
        intro x1 s4 h
        exact b_X11_town_46 _ s4 (fun _ => fin _ s4 h) (fun _ m hm => ih m hm _ _ (fun c j a b => by rw [zu_n (by omega)]; exact h c j a b))
    exact b_X11_town_25 _ s3 (loop _ _ _ (fun c j a b => by rw [zu_n (by omega), zu_n (by omega), zu_n (by omega)]; exact f3 c j (by omega)))
  · have hy : y.1.1 ≠ 0 := fun c => by rw [if_pos c] at g; exact absurd g (by decide)
    refine ⟨fun _ => ⟨fun j q => ?_, fun j q => ?_⟩, fun q => absurd q hy⟩
    · obtain ⟨u1, u2⟩ := t.2.2.2.2.1 j q
      exact ⟨u1.trans ((zu_n (by omega)).trans (zu_n (by omega))), u2.trans ((zu_n (by omega)).trans (zu_n (by omega)))⟩
    · exact (t.2.2.2.2.2 j q).trans ((zu_n (by omega)).trans (zu_n (by omega)))
theorem townP_c (ht' : t = 7 ∨ t = 43) (et : s 0 4 = ((t : Nat) : Int)) (h : tkS s T n) (hz : zM s) : zC N 1318 [(((0 : Nat) : Int), 0)] s (fun r => (pAll T n 1000 (0, 0) d0).1.1 = 0 → prS r.2 t T n (pAll T n 1000 (0, 0) d0).2) := by
  refine c_X10_town (b_X10_town_0 _ _ s (fun m hm => ?_))
  rw [et]
  refine zC_q (readE_okE (T := T) (n := n) ht' h hz) (fun r hr => ?_)
  obtain ⟨r1, s1⟩ := r
  generalize pAll T n 1000 (0, 0) d0 = y at hr ⊢
  obtain ⟨⟨e, f1, -, -⟩, a⟩ := hr
  have e : r1 = [(y.1.1, 0)] := e
  subst e
  have f1 : frT t s s1 := f1
  have z0 : ∀ j, s1 0 j = s 0 j := fun j => f1 0 j (by omega) (by omega)
  refine b_X10_town_11 _ _ _ s1 (fun g => fun q => absurd q g) (fun g m1 hm1 => ?_)
  have ap : prS s1 t T n y.2 := a g
  rw [show s1 0 4 = ((t : Nat) : Int) from (z0 4).trans et]
  refine zC_q (begin_fr ht') (fun r hr => ?_)
  obtain ⟨r1, s2⟩ := r
  obtain ⟨e, f2⟩ := hr
  have e : r1 = [] := e
  subst e
  have f2 : ∀ c j, ¬ (79 ≤ c ∧ c ≤ 81) → s2 c j = zu (zu (zu s1 1 0 0) 0 3 ((t : Nat) : Int)) 0 4 (s1 0 3) c j := f2
  refine b_X10_town_53 _ _ s2 (fun m2 hm2 => ?_)
  refine c_X5_clear (b_X5_clear_0 s2 ?_)
  refine b_X10_town_60 _ _ _ (fun m3 hm3 => ?_)
  refine c_X1_clear (b_X1_clear_0 _ ?_)
  refine b_X10_town_67 _ _ _ ?_
  have W : ∀ s9 : Zs, s9 = zu (zu (zu (zu (zu s2 85 1 0) 85 2 0) 85 4 0) 88 0 0) 0 11 0 → prS s9 t T n y.2 := fun s9 e9 => by
    obtain ⟨q, a1, a2⟩ := ap
    have v : ∀ c j, t ≤ c → c ≤ t + 35 → s9 c j = s1 c j := fun c j a b => by
      rw [e9, zu_n (by omega), zu_n (by omega), zu_n (by omega), zu_n (by omega), zu_n (by omega), f2 c j (by omega), zu_n (by omega), zu_n (by omega), zu_n (by omega)]
    exact ⟨q, a1, laid_e a2 (v _ _ (by omega) (by omega)) (fun j => v _ _ (by omega) (by omega))⟩
  exact fun _ => W _ rfl
/-- the law of price on both sides: its steps q, and the codes that say the same -/
def prR (s : Zs) (t : Nat) (q : List Int) : Prop := laid s t q ∧ ((∃ g, SEM 0 0 g q ∧ prL0 s g) ∨ (q = [-1] ∧ ¬ s 192 0 < s 193 0))
theorem prR_town {s1 s2 : Zs} (c : prS s1 t T n D) (m : prM0 s2 T n D) (e1 : s2 (t + 29) 1 = s1 (t + 29) 1) (e2 : ∀ j, s2 (t + 30) j = s1 (t + 30) j) : ∃ q, prR s2 t q := by
  obtain ⟨q, a, l⟩ := c
  refine ⟨q, laid_e l e1 e2, ?_⟩
  rcases a with ⟨a, b⟩ | ⟨a, b⟩
  · exact Or.inl ⟨_, b, m.1 a⟩
  · exact Or.inr ⟨b, m.2 a⟩
/-- the cells of the law of price -/
def prcC (t c j : Nat) : Prop := (c = t + 29 ∧ j = 1) ∨ (c = t + 30 ∧ j < 1000) ∨ ((c = 192 ∨ c = 193) ∧ j = 0) ∨ (c = 194 ∧ j < 1000)
theorem prR_e {s' : Zs} {q : List Int} (h : prR s t q) (e : ∀ c j, prcC t c j → s' c j = s c j) : prR s' t q := by
  obtain ⟨l, h⟩ := h
  have a0 := e 192 0 (Or.inr (Or.inr (Or.inl ⟨Or.inl rfl, rfl⟩)))
  have a1 := e 193 0 (Or.inr (Or.inr (Or.inl ⟨Or.inr rfl, rfl⟩)))
  refine ⟨⟨(e _ _ (Or.inl ⟨rfl, rfl⟩)).trans l.1, l.2.1, fun i c hi => ?_⟩, ?_⟩
  · have hl := (List.getElem?_eq_some_iff.mp hi).1
    have hn := l.2.1
    rw [e (t + 30) i (Or.inr (Or.inl ⟨rfl, by omega⟩))]
    exact l.2.2 i c hi
  rcases h with ⟨g, a, b, b1, b2, b3, b5, b4⟩ | ⟨a, b⟩
  · refine Or.inl ⟨g, a, b, a0.trans b1, a1.trans b2, b3, b5, fun k c hk => ?_⟩
    have hl := (List.getElem?_eq_some_iff.mp hk).1
    rw [e 194 _ (Or.inr (Or.inr (Or.inr ⟨rfl, by omega⟩)))]
    exact b4 k c hk
  · exact Or.inr ⟨a, by rw [a0, a1]; exact b⟩
theorem prX_e {s' : Zs} (h : ∃ q, prR s t q) (e : ∀ c j, prcC t c j → s' c j = s c j) : ∃ q, prR s' t q := h.elim fun q h => ⟨q, prR_e h e⟩
/-- so it is held: where there are flights -/
def prZ (s : Zs) (t : Nat) (D : ZD) : Prop := cnt D 1 = 0 ∨ ∃ q, prR s t q
theorem prZ_get (h : prZ s t D) (c : 0 < cnt D 1) : ∃ q, prR s t q := Or.resolve_left h (by omega)
theorem prY_e {s' : Zs} (h : prZ s t D) (e : ∀ c j, prcC t c j → s' c j = s c j) : prZ s' t D := Or.imp id (fun h => prX_e h e) h
end Zq7
