/-! calls of the JDK as steps: Math, String.indexOf over the signs, System.arraycopy of ints -/
theorem rop_ext {L : Lk} {nL pc len : Nat} {ins : Instr} {o : Op0} (h : rop L nL pc ins len = some o) (h2 : o.1 = 24) : len = 3 ∧ o.2.2.2.2.1 = pc + 3 ∧ ((o.2.2.1 = 0 ∧ ins = .invokestatic o.2.1) ∨ (o.2.2.1 = 1 ∧ ins = .invokevirtual o.2.1)) := by
  unfold rop at h
  split at h
  all_goals first
    | (obtain ⟨rfl, rfl⟩ := gd1_ok h; simp at h2; done)
    | (split at h <;> first | (obtain ⟨rfl, rfl⟩ := gd1_ok h; simp at h2; done) | (cases h; done) | (split at h <;> first | (cases h; simp at h2; done) | (cases h; done)) | (obtain ⟨rfl, rfl⟩ := gd1_ok h; exact ⟨rfl, rfl, Or.inl ⟨rfl, rfl⟩⟩) | (obtain ⟨rfl, rfl⟩ := gd1_ok h; exact ⟨rfl, rfl, Or.inr ⟨rfl, rfl⟩⟩))
    | cases h
def yIdx : MethodName := { cls := "java/lang/String", name := "indexOf", desc := "(I)I" }
def yCpy : MethodName := { cls := "java/lang/System", name := "arraycopy", desc := "(Ljava/lang/Object;ILjava/lang/Object;II)V" }
/-- where a sign stands among ()<=+-*; -/
def sgIx (x : Int32) : Int32 := if x = 40 then 0 else if x = 41 then 1 else if x = 60 then 2 else if x = 61 then 3 else if x = 43 then 4 else if x = 45 then 5 else if x = 42 then 6 else if x = 59 then 7 else -1
def px_idx (me : Me) (a b : Cf) : Prop := ∃ (idx : Nat) (x : Int32) (st : List Value), decode me.2.1 a.1 = .ok (.invokevirtual idx, 3) ∧ Cond.methodLink me.1.cls idx yIdx ∈ gw ∧ a.2.2.1 = .int x :: .ref 1004 :: st ∧ (st.map fun v => v.category).sum ≤ 8 ∧ b = (a.1 + 3, a.2.1, .int (sgIx x) :: st, a.2.2.2)
def px_cpy (n : Nat) (me : Me) (a b : Cf) : Prop := ∃ (idx s d k N1 N2 : Nat) (f g : Nat → Int32) (st : List Value), decode me.2.1 a.1 = .ok (.invokestatic idx, 3) ∧ Cond.methodLink me.1.cls idx yCpy ∈ gw ∧ a.2.2.1 = .int (Int32.ofNat k) :: .int 0 :: .ref d :: .int 0 :: .ref s :: st ∧ (st.map fun v => v.category).sum ≤ 8 ∧ s < n ∧ d < n ∧ s ≠ d ∧ a.2.2.2 s = .inl (0, N1, .inl f) ∧ a.2.2.2 d = .inl (0, N2, .inl g) ∧ k ≤ N1 ∧ k ≤ N2 ∧ k < 2147483648 ∧ b = (a.1 + 3, a.2.1, st, pm_u a.2.2.2 d (.inl (0, N2, .inl (fun i => if i < k then f i else g i))))
def xsT (n : Nat) (d : Nat) (me : Me) (a b : Cf) : Prop := px_max me a b ∨ px_min me a b ∨ px_abs me a b ∨ px_maxL me a b ∨ (4 ≤ d ∧ px_idx me a b) ∨ px_cpy n me a b
/-- the links of a class to them: index, which -/
def exOK (me : Me) (ex : List (Nat × Nat)) : Prop := ∀ q ∈ ex, Cond.methodLink me.1.cls q.1 (match q.2 with
  | 0 => Lib.Math.max.name
  | 1 => Lib.Math.min.name
  | 2 => Lib.Math.abs.name
  | 3 => Lib.MathLoose.max_long.x
  | 4 => yIdx
  | _ => yCpy) ∈ gw
def anyI (q : Hk) : Bool := q.1 == 1 && q.2.1 == 0 && (match q.2.2.2 with
  | [r] => r.1 == 0 && r.2.1 == q.2.2.1 && r.2.2.1 == 0 && decide (r.2.2.2.2.1 = -2147483648) && decide (r.2.2.2.2.2 = 2147483647)
  | _ => false)
def isC (sy : Sy) (a : Av) (z : Int) : Bool := a.1 == 0 && inI sy z z a
def exA (HT : Nat → Hk) (md : Md) (lv : Nat) (ex : List (Nat × Nat)) (o : Op0) (A : Ab) : Option (List Ab) := match pm_lk ex o.2.1 with
  | none => none
  | some w => if w = 4 then (if o.2.2.1 = 1 ∧ 5 ≤ lv then (match A.2.2.1 with
      | x :: r :: st => if x.1 = 0 ∧ r.1 = 2 ∧ r.2.1 = 1004 ∧ sumA st ≤ 8 then some [pr o.2.2.2.2.1 A.2.1 st A.2.2.2.1 A.2.2.2.2 0 (.inr tp32)] else none
      | _ => none) else none)
    else if o.2.2.1 = 0 then (match w with
      | 0 => (match A.2.2.1 with
        | y :: x :: st => if x.1 = 0 ∧ y.1 = 0 ∧ sumA st ≤ 8 then (match ivs A.2.2.2.1 x y (fun p q => .inr (if p.1 ≤ q.1 then q.1 else p.1, if p.2 ≤ q.2 then q.2 else p.2, 0, 0, 0)) with
          | some r => some [pr o.2.2.2.2.1 A.2.1 st A.2.2.2.1 A.2.2.2.2 0 r]
          | none => none) else none
        | _ => none)
      | 1 => (match A.2.2.1 with
        | y :: x :: st => if x.1 = 0 ∧ y.1 = 0 ∧ sumA st ≤ 8 then (match ivs A.2.2.2.1 x y (fun p q => .inr (if p.1 ≤ q.1 then p.1 else q.1, if p.2 ≤ q.2 then p.2 else q.2, 0, 0, 0)) with
          | some r => some [pr o.2.2.2.2.1 A.2.1 st A.2.2.2.1 A.2.2.2.2 0 r]
          | none => none) else none
        | _ => none)
      | 2 => (match A.2.2.1 with
        | x :: st => if x.1 = 0 ∧ sumA st ≤ 8 then some [pr o.2.2.2.2.1 A.2.1 st A.2.2.2.1 A.2.2.2.2 0 (.inr tp32)] else none
        | _ => none)
      | 3 => (match A.2.2.1 with
        | y :: x :: st => if x.1 = 1 ∧ y.1 = 1 ∧ sumA st ≤ 8 then some [pr o.2.2.2.2.1 A.2.1 st A.2.2.2.1 A.2.2.2.2 1 (.inr tp64)] else none
        | _ => none)
      | 5 => (match A.2.2.1 with
        | c :: dp :: d :: sp :: s :: st => (match iv A.2.2.2.1 c.2.1 c.2.2 with
          | some p => if c.1 = 0 ∧ p.1 = p.2 ∧ 0 ≤ p.1 ∧ isC A.2.2.2.1 dp 0 = true ∧ isC A.2.2.2.1 sp 0 = true ∧ d.1 = 2 ∧ s.1 = 2 ∧ d.2.1 ≠ s.2.1 ∧ anyI (HT d.2.1) = true ∧ anyI (HT s.2.1) = true ∧ p.1 ≤ (HT d.2.1).2.2.1 ∧ p.1 ≤ (HT s.2.1).2.2.1 ∧ p.1 ≤ 1000000 ∧ (HT d.2.1).2.2.1 ≤ 1000000 ∧ mdK md d.2.1 0 ((HT d.2.1).2.2.1 - 1) = true ∧ (prK HT d.2.1 0 = false ∧ prYK d.2.1 = false) ∧ sumA st ≤ 8 then some [(o.2.2.2.2.1, A.2.1, st, A.2.2.2.1, fdrop A.2.2.2.2 d.2.1 0 1000000)] else none
          | none => none)
        | _ => none)
      | _ => none) else none
section Ext
variable {HT : Nat → Hk} {RG : Nat → List Nat} {n : Nat} {md : Md} {h0 : Ph} {vs : List Int} {A : Ab} {cf : Cf} {me : Me} {ex : List (Nat × Nat)}
theorem anyI_ok {k : Nat} {h : Ph} (gI : hI0 HT RG n h) (hk : anyI (HT k) = true) : k < n ∧ ∃ f, h k = .inl (0, (HT k).2.2.1, .inl f) := by
  unfold anyI at hk
  simp only [Bool.and_eq_true, beq_iff_eq] at hk
  obtain ⟨⟨h1, h2⟩, h3⟩ := hk
  obtain ⟨g1, g2, -⟩ := gI k (by omega)
  unfold hsh at g2
  rw [h1] at g2
  obtain ⟨f, hf⟩ := g2
  exact ⟨g1, f, by rw [hf, h2]⟩
theorem anyI_gk {k : Nat} (hk : anyI (HT k) = true) (x : Int32) : ∀ q ∈ (HT k).2.2.2, gk RG q.2.2 (.int x) := by
  unfold anyI at hk
  simp only [Bool.and_eq_true, beq_iff_eq] at hk
  obtain ⟨-, h3⟩ := hk
  split at h3
  · rename_i r hr
    simp only [Bool.and_eq_true, beq_iff_eq, decide_eq_true_eq] at h3
    obtain ⟨⟨⟨⟨k1, k2⟩, k3⟩, k4⟩, k5⟩ := h3
    intro q hq
    rw [hr] at hq
    have := List.mem_singleton.mp hq
    subst this
    exact ⟨k3, by rw [k4]; exact (r32 x).1, by rw [k5]; exact (r32 x).2⟩
  · cases h3
theorem isC_ok {a : Av} {v : Value} {z : Int} (g : gs A.2.2.2.1 vs) (hv : gv RG vs a v) (h : isC A.2.2.2.1 a z = true) : ∃ x : Int32, v = .int x ∧ x.toInt = z := by
  unfold isC at h
  simp only [Bool.and_eq_true, beq_iff_eq] at h
  obtain ⟨x, w, rfl, h1, h2⟩ := gv_int hv h.1
  have := inI_ok g h.2 h1
  exact ⟨x, rfl, by omega⟩
theorem cp_hI {h : Ph} {d k N : Nat} {f g : Nat → Int32} (gI : hI HT RG n h) (hd : anyI (HT d) = true) (he : h d = .inl (0, (HT d).2.2.1, .inl g)) (hp : hxM HT = true → ∀ j, ¬ prt d j) (hy : ∀ j, ¬ prY d j) : hI HT RG n (pm_u h d (.inl (0, (HT d).2.2.1, .inl (fun i => if i < k then f i else g i)))) := by
  refine ⟨?_, fun hL => ?_⟩
  · intro c hc
    obtain ⟨g1, g2, g3⟩ := gI.1 c hc
    refine ⟨g1, ?_⟩
    by_cases hcd : c = d
    · subst hcd
      have e : ∀ x, pm_u h c x c = x := fun x => by simp [pm_u]
      rw [e]
      have hd2 := hd
      unfold anyI at hd2
      simp only [Bool.and_eq_true, beq_iff_eq] at hd2
      refine ⟨?_, fun q hq i hi1 hi2 => ?_⟩
      · unfold hsh
        rw [hd2.1.1]
        exact ⟨_, by rw [hd2.1.2]⟩
      · obtain ⟨v, e1, e2⟩ := g3 q hq i hi1 hi2
        rw [he] at e1
        have hlt : i < (HT c).2.2.1 := by
          by_cases hlt : i < (HT c).2.2.1
          · exact hlt
          · have e1 : (if i < (HT c).2.2.1 then some (Value.int (g i)) else none) = some v := e1
            rw [if_neg hlt] at e1
            cases e1
        exact ⟨.int (if i < k then f i else g i), if_pos hlt, anyI_gk hd _ q hq⟩
    · have e : ∀ x, pm_u h d x c = h c := fun x => by simp [pm_u, hcd]
      rw [e]
      exact ⟨g2, g3⟩
  · refine ⟨xp_congr (fun c i hci => ?_) (gI.2 hL).1, yp_congr (fun c i hci => ?_) (gI.2 hL).2⟩
    · by_cases hcd : c = d
      · subst hcd
        exact absurd hci (hp hL i)
      · have e : ∀ x, pm_u h d x c = h c := fun x => by simp [pm_u, hcd]
        rw [e]
    · have hcd : c ≠ d := fun e => hy i (e ▸ hci)
      have e : ∀ x, pm_u h d x c = h c := fun x => by simp [pm_u, hcd]
      rw [e]
theorem cp_fr {h : Ph} {d : Nat} {x : Pc} (gF : fr md h0 h) (hc : ∀ j, ¬ cov md d j → pm_slot x j = pm_slot (h d) j) : fr md h0 (pm_u h d x) := by
  intro c i hci
  rw [← gF c i hci]
  by_cases hcd : c = d
  · subst hcd
    have e : pm_u h c x c = x := by simp [pm_u]
    rw [e]
    exact hc i hci
  · have e : pm_u h d x c = h c := by simp [pm_u, hcd]
    rw [e]
theorem exA_ok {d : Nat} {o : Op0} {Bs : List Ab} {ins : Instr} {len lv : Nat} (hlv : lv ≤ d + 1) (hx : exOK me ex) (hdc : decode me.2.1 cf.1 = .ok (ins, len)) (hr : rop me.2.2.2.2.1 me.2.2.1 cf.1 ins len = some o) (h24 : o.1 = 24) (g : ga HT RG n md h0 vs A cf) (h : exA HT md lv ex o A = some Bs) : ∃ cf', xsT n d me cf cf' ∧ ∃ B ∈ Bs, ∃ ws, ga HT RG n md h0 (vs ++ ws) B cf' := by
  obtain ⟨rfl, hnx, hin⟩ := rop_ext hr h24
  obtain ⟨g0, g1, g2, g3, g4, g5, g6⟩ := g
  unfold exA at h
  split at h
  · cases h
  · rename_i w hw
    have hlk := hx _ (pm_lk_mem hw)
    split at h
    · rename_i hw4
      subst hw4
      split at h
      · rename_i hk1
        rcases hin with ⟨q, -⟩ | ⟨-, rfl⟩
        · omega
        · split at h
          · rename_i x r st hst
            rw [hst] at g2
            obtain ⟨vx, vr, sv, e1, hx1, hr1, g2⟩ := gst_cons2 g2
            split at h
            · rename_i hc
              cases h
              obtain ⟨x', wx, rfl, -, -⟩ := gv_int hx1 hc.1
              have := gv_ref hr1 hc.2.1
              rw [hc.2.2.1] at this
              subst this
              obtain ⟨ws, hga⟩ := pr_int (pc := o.2.2.2.2.1) g1 g2 g3 g4 g5 g6 (gr_tp (sgIx x'))
              refine ⟨_, Or.inr (Or.inr (Or.inr (Or.inr (Or.inl ⟨by omega, ⟨o.2.1, x', sv, hdc, hlk, e1, by rw [gst_sum g2]; exact hc.2.2.2, rfl⟩⟩)))), _, List.mem_cons_self, ws, by rw [← hnx]; exact hga⟩
            · cases h
          · cases h
      · cases h
    · split at h
      · rename_i hk0
        rcases hin with ⟨-, rfl⟩ | ⟨q, -⟩
        · split at h
          · split at h
            · rename_i y x st hst
              rw [hst] at g2
              obtain ⟨vy, vx, sv, e1, hy1, hx1, g2⟩ := gst_cons2 g2
              split at h
              · rename_i hc
                split at h
                · rename_i r hr2
                  cases h
                  obtain ⟨x', wx, rfl, a1, a2⟩ := gv_int hx1 hc.1
                  obtain ⟨y', wy, rfl, b1, b2⟩ := gv_int hy1 hc.2.1
                  obtain ⟨p, q, hk, i1, i2, i3, i4⟩ := ivs_inv g3 hr2 a1 b1
                  subst hk
                  rw [← a2] at i1 i2
                  rw [← b2] at i3 i4
                  obtain ⟨ws, hga⟩ := pr_int (pc := o.2.2.2.2.1) (x := if x' < y' then y' else x') (r := .inr (if p.1 ≤ q.1 then q.1 else p.1, if p.2 ≤ q.2 then q.2 else p.2, 0, 0, 0)) g1 g2 g3 g4 g5 g6 (by
                    refine ⟨?_, ?_, Or.inl rfl⟩
                    · dsimp only
                      by_cases hlt : x' < y'
                      · rw [if_pos hlt]
                        rw [Int32.lt_iff_toInt_lt] at hlt
                        split <;> omega
                      · rw [if_neg hlt]
                        rw [Int32.lt_iff_toInt_lt] at hlt
                        split <;> omega
                    · dsimp only
                      by_cases hlt : x' < y'
                      · rw [if_pos hlt]
                        split <;> omega
                      · rw [if_neg hlt]
                        split <;> omega)
                  refine ⟨_, Or.inl ⟨o.2.1, x', y', sv, hdc, hlk, e1, by rw [gst_sum g2]; exact hc.2.2, rfl⟩, _, List.mem_cons_self, ws, by rw [← hnx]; exact hga⟩
                · cases h
              · cases h
            · cases h
          · split at h
            · rename_i y x st hst
              rw [hst] at g2
              obtain ⟨vy, vx, sv, e1, hy1, hx1, g2⟩ := gst_cons2 g2
              split at h
              · rename_i hc
                split at h
                · rename_i r hr2
                  cases h
                  obtain ⟨x', wx, rfl, a1, a2⟩ := gv_int hx1 hc.1
                  obtain ⟨y', wy, rfl, b1, b2⟩ := gv_int hy1 hc.2.1
                  obtain ⟨p, q, hk, i1, i2, i3, i4⟩ := ivs_inv g3 hr2 a1 b1
                  subst hk
                  rw [← a2] at i1 i2
                  rw [← b2] at i3 i4
                  obtain ⟨ws, hga⟩ := pr_int (pc := o.2.2.2.2.1) (x := if y' < x' then y' else x') (r := .inr (if p.1 ≤ q.1 then p.1 else q.1, if p.2 ≤ q.2 then p.2 else q.2, 0, 0, 0)) g1 g2 g3 g4 g5 g6 (by
                    refine ⟨?_, ?_, Or.inl rfl⟩
                    · dsimp only
                      by_cases hlt : y' < x'
                      · rw [if_pos hlt]
                        split <;> omega
                      · rw [if_neg hlt]
                        split <;> omega
                    · dsimp only
                      by_cases hlt : y' < x'
                      · rw [if_pos hlt]
                        rw [Int32.lt_iff_toInt_lt] at hlt
                        split <;> omega
                      · rw [if_neg hlt]
                        rw [Int32.lt_iff_toInt_lt] at hlt
                        split <;> omega)
                  refine ⟨_, Or.inr (Or.inl ⟨o.2.1, x', y', sv, hdc, hlk, e1, by rw [gst_sum g2]; exact hc.2.2, rfl⟩), _, List.mem_cons_self, ws, by rw [← hnx]; exact hga⟩
                · cases h
              · cases h
            · cases h
          · split at h
            · rename_i x st hst
              rw [hst] at g2
              obtain ⟨vx, sv, e1, hx1, g2⟩ := gst_cons g2
              split at h
              · rename_i hc
                cases h
                obtain ⟨x', wx, rfl, a1, a2⟩ := gv_int hx1 hc.1
                obtain ⟨ws, hga⟩ := pr_int (pc := o.2.2.2.2.1) g1 g2 g3 g4 g5 g6 (gr_tp (if 0 ≤ x' then x' else 0 - x'))
                refine ⟨_, Or.inr (Or.inr (Or.inl ⟨o.2.1, x', sv, hdc, hlk, e1, by rw [gst_sum g2]; exact hc.2, rfl⟩)), _, List.mem_cons_self, ws, by rw [← hnx]; exact hga⟩
              · cases h
            · cases h
          · split at h
            · rename_i y x st hst
              rw [hst] at g2
              obtain ⟨vy, vx, sv, e1, hy1, hx1, g2⟩ := gst_cons2 g2
              split at h
              · rename_i hc
                cases h
                obtain ⟨x', wx, rfl, a1, a2⟩ := gv_long hx1 hc.1
                obtain ⟨y', wy, rfl, b1, b2⟩ := gv_long hy1 hc.2.1
                obtain ⟨ws, hga⟩ := pr_long (pc := o.2.2.2.2.1) g1 g2 g3 g4 g5 g6 (gr_tpL (if y' < x' then x' else y'))
                refine ⟨_, Or.inr (Or.inr (Or.inr (Or.inl ⟨o.2.1, x', y', sv, hdc, hlk, e1, by rw [gst_sum g2]; exact hc.2.2, rfl⟩))), _, List.mem_cons_self, ws, by rw [← hnx]; exact hga⟩
              · cases h
            · cases h
          · split at h
            · rename_i c dp dd sp s st hst
              rw [hst] at g2
              obtain ⟨vc, s1, e1, hc1, t2⟩ := gst_cons g2
              obtain ⟨vdp, vd, vsp, s2, e2, hdp, hdd, hsp, t3⟩ := gst_cons3 t2
              obtain ⟨vs', sv, e3, hss, t4⟩ := gst_cons t3
              subst e3
              subst e2
              clear g2 t2 t3
              have g2 := t4
              split at h
              · rename_i p hp
                split at h
                · rename_i hc
                  obtain ⟨c1, c2, c3, c4, c5, c6, c7, c8, c9, c10, c11, c12, c13, c14, c15, c16, c17⟩ := hc
                  cases h
                  obtain ⟨xc, wc, rfl, a1, a2⟩ := gv_int hc1 c1
                  have b1 := iv_ok g3 hp a1
                  obtain ⟨xd, rfl, d1⟩ := isC_ok g3 hdp c4
                  obtain ⟨xs, rfl, d2⟩ := isC_ok g3 hsp c5
                  have d3 : xd = 0 := Int32.toInt_inj.mp (by rw [d1]; rfl)
                  have d4 : xs = 0 := Int32.toInt_inj.mp (by rw [d2]; rfl)
                  subst d3 d4
                  have hd2 := gv_ref hdd c6
                  have hs2 := gv_ref hss c7
                  subst hd2 hs2
                  obtain ⟨k1, fd, k2⟩ := anyI_ok g5.1 c9
                  obtain ⟨k3, fs, k4⟩ := anyI_ok g5.1 c10
                  have exc : xc = Int32.ofNat p.1.toNat := by
                    apply Int32.toInt_inj.mp
                    rw [Int32.toInt_ofNat_of_lt (by omega)]
                    omega
                  subst exc
                  have hG5 := cp_hI (k := p.1.toNat) (N := 0) (f := fs) g5 c9 k2 (fun hM j => prK_ok c16.1 (Nat.zero_le j) hM) (fun j => prYK_ok c16.2)
                  refine ⟨_, Or.inr (Or.inr (Or.inr (Or.inr (Or.inr ⟨o.2.1, s.2.1, dd.2.1, p.1.toNat, _, _, fs, fd, sv, hdc, hlk, e1, by rw [gst_sum g2]; exact c17, k3, k1, fun e => c8 e.symm, k4, k2, by omega, by omega, by omega, rfl⟩)))), _, List.mem_cons_self, ga0 ⟨by rw [hnx], g1, g2, g3, ?_, hG5, ?_⟩⟩
                  · intro q hq
                    obtain ⟨hq1, hq2⟩ := List.mem_filter.mp hq
                    by_cases hck : q.1 = dd.2.1
                    · simp only [hck, beq_self_eq_true, Bool.true_and, Bool.not_eq_true', Bool.or_eq_false_iff, decide_eq_false_iff_not, Bool.and_eq_false_imp, decide_eq_true_eq] at hq2
                      exfalso
                      have hne : q.2.1 ≠ 4294967295 := by omega
                      obtain ⟨i, v, y0, y1, y2⟩ := gf1_v (g4 q hq1) hne
                      rw [hck, k2] at y1
                      have y1 : (if i < (HT dd.2.1).2.2.1 then some (Value.int (fd i)) else none) = some v := y1
                      split at y1
                      · rename_i hil
                        rcases y0 with ⟨y3, y4⟩ | ⟨y3, -⟩
                        · have := hq2.2 (by omega)
                          omega
                        · omega
                      · cases y1
                    · have e : ∀ x, pm_u cf.2.2.2 dd.2.1 x q.1 = cf.2.2.2 q.1 := fun x => by simp [pm_u, hck]
                      have := g4 q hq1
                      unfold gf1 at this ⊢
                      show (_ ∧ _ ∧ ∃ w, _ ∧ smP q.1 (pm_u cf.2.2.2 dd.2.1 _ q.1) _) ∨ (_ ∧ ∃ i v, _ ∧ pm_slot (pm_u cf.2.2.2 dd.2.1 _ q.1) i = some v ∧ _)
                      rw [e]
                      exact this
                  · refine cp_fr g6 (fun j hj => ?_)
                    rw [k2]
                    have hjl : ¬ j < (HT dd.2.1).2.2.1 := fun hjl => hj (mdK_ok c15 (Nat.zero_le j) (by omega))
                    show (if j < (HT dd.2.1).2.2.1 then _ else none) = (if j < (HT dd.2.1).2.2.1 then _ else none)
                    rw [if_neg hjl, if_neg hjl]
                · cases h
              · cases h
            · cases h
          · cases h
        · omega
      · cases h
end Ext
