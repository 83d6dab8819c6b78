/-! every run of the pure machine is a run of the machine of whole numbers -/
def zV (v : Value) : Int := match v with
  | .int x => x.toInt
  | .long x => x.toInt
  | .ref k => (k : Int)
  | _ => 0
def zvl (v : Value) : Zv := (zV v, v.category - 1)
def zso (o : Option Value) : Int := match o with
  | some v => zV v
  | none => 0
def zH (h : Ph) : Zs := fun c j => if c = 1000 then (moF j).toInt else zso (pm_slot (h c) j)
def rl (nL : Nat) (lo : List (Nat × Value)) (L : List Int) : Prop := L.length = nL ∧ ∀ q ∈ lo, L[q.1]? = some (zV q.2)
def kpc (x0 x : Pc) : Prop := match x0 with
  | .inr (ci, fs0) => ∃ fs, x = .inr (ci, fs) ∧ fs.length = fs0.length ∧ ∀ j, (fs[j]?).map Value.category = (fs0[j]?).map Value.category ∧ (zfin ci j = true → fs[j]? = fs0[j]?)
  | .inl (t, k, .inl _) => ∃ f, x = .inl (t, k, .inl f)
  | .inl (t, k, .inr (.inl _)) => ∃ f, x = .inl (t, k, .inr (.inl f))
  | .inl (t, k, .inr (.inr (.inr (.inr f)))) => ∃ f', x = .inl (t, k, .inr (.inr (.inr (.inr f')))) ∧ ∀ j, j < k → f' j = f j
  | _ => False
def Kp (h : Ph) : Prop := ∀ c, c < 229 → kpc (hZ c) (h c)
theorem Kp_u {h : Ph} {c : Nat} {x : Pc} (k : Kp h) (hx : kpc (hZ c) x) : Kp (pm_u h c x) := fun c' hc => by
  unfold pm_u
  split
  · rename_i e
    subst e
    exact hx
  · exact k c' hc
theorem zst2_ok (x : Int32) : zst2 x.toInt = (vp_nar .char x).toInt := by unfold zst2; rw [Int32.ofInt_toInt]
theorem zst3_ok (x : Int32) : zst3 x.toInt = (vp_nar .boolean x).toInt := by unfold zst3; rw [Int32.ofInt_toInt]
theorem zH_n {h : Ph} {c j : Nat} (hc : c ≠ 1000) : zH h c j = zso (pm_slot (h c) j) := if_neg hc
theorem zH_u {h : Ph} {c c' j : Nat} {x : Pc} (e : c' ≠ c) : zH (pm_u h c x) c' j = zH h c' j := by
  unfold zH pm_u
  rw [if_neg e]
theorem zH_s {h : Ph} {c j : Nat} {x : Pc} (hc : c < 229) : zH (pm_u h c x) c j = zso (pm_slot x j) := by
  rw [zH_n (by omega)]
  unfold pm_u
  rw [if_pos rfl]
theorem zu_o {s : Zs} {c c' j j' : Nat} {v : Int} (e : c' ≠ c) : zu s c j v c' j' = s c' j' := by
  unfold zu
  rw [if_neg e]
theorem zu_s {s : Zs} {c j j' : Nat} {v : Int} : zu s c j v c j' = if j' = j then v else s c j' := by
  unfold zu
  rw [if_pos rfl]
theorem zH_put {h : Ph} {c ci j : Nat} {fs : List Value} {v : Value} (hc : c < 229) (he : h c = .inr (ci, fs)) (hj : j < fs.length) : zH (pm_u h c (.inr (ci, fs.set j v))) = zu (zH h) c j (zV v) := by
  funext c' j'
  by_cases e : c' = c
  · subst e
    rw [zH_s hc, zu_s, zH_n (by omega), he]
    show zso ((fs.set j v)[j']?) = if j' = j then zV v else zso (fs[j']?)
    rw [List.getElem?_set]
    by_cases e2 : j' = j
    · subst e2
      rw [if_pos rfl, if_pos hj, if_pos rfl]
      rfl
    · rw [if_neg e2, if_neg (fun q => e2 q.symm)]
  · rw [zH_u e, zu_o e]
theorem zH_int {h : Ph} {c t k j : Nat} {f : Nat → Int32} {z : Int32} (hc : c < 229) (he : h c = .inl (t, k, .inl f)) (hj : j < k) : zH (pm_u h c (.inl (t, k, .inl (upd f j z)))) = zu (zH h) c j z.toInt := by
  funext c' j'
  by_cases e : c' = c
  · subst e
    rw [zH_s hc, zu_s, zH_n (by omega), he]
    show zso (if j' < k then some (.int (upd f j z j')) else none) = if j' = j then z.toInt else zso (if j' < k then some (.int (f j')) else none)
    unfold upd
    by_cases e2 : j' = j
    · subst e2
      rw [if_pos hj, if_pos rfl, if_pos rfl]
      rfl
    · rw [if_neg e2, if_neg e2]
  · rw [zH_u e, zu_o e]
theorem zH_long {h : Ph} {c t k j : Nat} {f : Nat → Int64} {z : Int64} (hc : c < 229) (he : h c = .inl (t, k, .inr (.inl f))) (hj : j < k) : zH (pm_u h c (.inl (t, k, .inr (.inl (vp_updL f j z))))) = zu (zH h) c j z.toInt := by
  funext c' j'
  by_cases e : c' = c
  · subst e
    rw [zH_s hc, zu_s, zH_n (by omega), he]
    show zso (if j' < k then some (.long (vp_updL f j z j')) else none) = if j' = j then z.toInt else zso (if j' < k then some (.long (f j')) else none)
    unfold vp_updL
    by_cases e2 : j' = j
    · subst e2
      rw [if_pos hj, if_pos rfl, if_pos rfl]
      rfl
    · rw [if_neg e2, if_neg e2]
  · rw [zH_u e, zu_o e]
theorem zH_cpy {h : Ph} {s d k N1 N2 : Nat} {f g : Nat → Int32} (hd : d < 229) (hs : s < 229) (h1 : h s = .inl (0, N1, .inl f)) (h2 : h d = .inl (0, N2, .inl g)) (k1 : k ≤ N1) (k2 : k ≤ N2) : zH (pm_u h d (.inl (0, N2, .inl (fun i => if i < k then f i else g i)))) = zcpy (zH h) s d k := by
  funext c' j'
  unfold zcpy
  by_cases e : c' = d
  · subst e
    rw [zH_s hd, if_pos rfl, zH_n (by omega), zH_n (by omega), h2, h1]
    show zso (if j' < N2 then some (.int (if j' < k then f j' else g j')) else none) = if j' < k then zso (if j' < N1 then some (.int (f j')) else none) else zso (if j' < N2 then some (.int (g j')) else none)
    by_cases e2 : j' < k
    · rw [if_pos e2, if_pos e2, if_pos (by omega), if_pos (by omega)]
    · rw [if_neg e2, if_neg e2]
  · rw [zH_u e, if_neg e]
/-- locals -/
theorem rl_s1 {nL i : Nat} {lo : List (Nat × Value)} {L : List Int} {v : Value} (h : rl nL lo L) (hi : i < nL) : rl nL (pm_s1 lo i v) (L.set i (zV v)) := by
  refine ⟨by rw [List.length_set]; exact h.1, fun q hq => ?_⟩
  unfold pm_s1 at hq
  rcases List.mem_cons.mp hq with rfl | hq
  · rw [List.getElem?_set, if_pos rfl, if_pos (by rw [h.1]; exact hi)]
  · obtain ⟨h1, h2⟩ := List.mem_filter.mp hq
    have h3 : ¬ q.1 = i := by
      simp only [Bool.and_eq_true, Bool.not_eq_true', beq_eq_false_iff_ne] at h2
      exact h2.1
    rw [List.getElem?_set, if_neg (fun e => h3 e.symm)]
    exact h.2 q h1
theorem rl_s2 {nL i : Nat} {lo : List (Nat × Value)} {L : List Int} {v : Value} (h : rl nL lo L) (hi : i < nL) : rl nL (pm_s2 lo i v) (L.set i (zV v)) := by
  refine ⟨by rw [List.length_set]; exact h.1, fun q hq => ?_⟩
  unfold pm_s2 at hq
  rcases List.mem_cons.mp hq with rfl | hq
  · rw [List.getElem?_set, if_pos rfl, if_pos (by rw [h.1]; exact hi)]
  · obtain ⟨h1, h2⟩ := List.mem_filter.mp hq
    have h3 : ¬ q.1 = i := by
      simp only [Bool.and_eq_true, Bool.not_eq_true', beq_eq_false_iff_ne] at h2
      exact h2.1
    rw [List.getElem?_set, if_neg (fun e => h3 e.symm)]
    exact h.2 q h1
theorem rl_g {nL i : Nat} {lo : List (Nat × Value)} {L : List Int} {v : Value} (h : rl nL lo L) (hg : pm_g lo i = some v) : L.getD i 0 = zV v := by
  have := h.2 _ (pm_g_mem hg)
  have this : L[i]? = some (zV v) := this
  rw [List.getD_eq_getElem?_getD, this]
  rfl
theorem zlo_ok : ∀ (av : List Value) (i nL : Nat), (lg_sl av).length ≤ nL → (zlo nL (av.map zvl)).length = nL ∧ ∀ q ∈ lv_args i av, i ≤ q.1 ∧ (zlo nL (av.map zvl))[q.1 - i]? = some (zV q.2)
  | [], i, nL, _ => by
    refine ⟨?_, fun q hq => by cases hq⟩
    induction nL with
    | zero => rfl
    | succ n ih =>
      have ih2 : (zlo n []).length = n := ih (by simp [lg_sl])
      show (zlo n []).length + 1 = n + 1
      rw [ih2]
  | v :: vs, i, nL, hl => by
    have hc : v.category = 1 ∨ v.category = 2 := by cases v <;> first | exact Or.inl rfl | exact Or.inr rfl
    rcases hc with hc | hc
    · have e1 : lg_sl (v :: vs) = .val v :: lg_sl vs := by
        unfold lg_sl
        rw [List.flatMap_cons, if_neg (by omega)]
        rfl
      rw [e1] at hl
      obtain ⟨m, rfl⟩ : ∃ m, nL = m + 1 := ⟨nL - 1, by simp at hl; omega⟩
      obtain ⟨h1, h2⟩ := zlo_ok vs (i + 1) m (by simp at hl; omega)
      have e2 : zlo (m + 1) ((v :: vs).map zvl) = zV v :: zlo m (vs.map zvl) := by
        have e3 : zvl v = (zV v, 0) := by unfold zvl; rw [hc]
        rw [List.map_cons, e3]
        cases m <;> rfl
      rw [e2]
      refine ⟨by rw [List.length_cons, h1], fun q hq => ?_⟩
      have hq : q ∈ (i, v) :: lv_args (if v.category = 2 then i + 2 else i + 1) vs := hq
      rw [if_neg (by omega)] at hq
      rcases List.mem_cons.mp hq with rfl | hq
      · exact ⟨Nat.le_refl _, by rw [Nat.sub_self]; rfl⟩
      · obtain ⟨q1, q2⟩ := h2 q hq
        refine ⟨by omega, ?_⟩
        rw [show q.1 - i = (q.1 - (i + 1)) + 1 from by omega, List.getElem?_cons_succ]
        exact q2
    · have e1 : lg_sl (v :: vs) = .val v :: .second :: lg_sl vs := by
        unfold lg_sl
        rw [List.flatMap_cons, if_pos hc]
        rfl
      rw [e1] at hl
      obtain ⟨m, rfl⟩ : ∃ m, nL = m + 2 := ⟨nL - 2, by simp at hl; omega⟩
      obtain ⟨h1, h2⟩ := zlo_ok vs (i + 2) m (by simp at hl; omega)
      have e2 : zlo (m + 2) ((v :: vs).map zvl) = zV v :: 0 :: zlo m (vs.map zvl) := by
        have e3 : zvl v = (zV v, 1) := by unfold zvl; rw [hc]
        rw [List.map_cons, e3]
        rfl
      rw [e2]
      refine ⟨by rw [List.length_cons, List.length_cons, h1], fun q hq => ?_⟩
      have hq : q ∈ (i, v) :: lv_args (if v.category = 2 then i + 2 else i + 1) vs := hq
      rw [if_pos hc] at hq
      rcases List.mem_cons.mp hq with rfl | hq
      · exact ⟨Nat.le_refl _, by rw [Nat.sub_self]; rfl⟩
      · obtain ⟨q1, q2⟩ := h2 q hq
        refine ⟨by omega, ?_⟩
        rw [show q.1 - i = (q.1 - (i + 2)) + 2 from by omega, List.getElem?_cons_succ, List.getElem?_cons_succ]
        exact q2
/-- one instruction -/
def zsc (o : Op0) (pc : Nat) : Bool := match o.1 with
  | 13 => pc == o.2.2.2.2.1 || pc == o.2.1
  | 14 => pc == o.2.2.2.2.1 || pc == o.2.1
  | 15 => pc == o.2.2.2.2.1 || o.2.2.2.2.2.contains pc
  | 22 => false
  | _ => pc == o.2.2.2.2.1
def zSt (nL : Nat) (o : Op0) (cf cf' : Cf) (Lz : List Int) : Prop := ∃ Lz', rl nL cf'.2.1 Lz' ∧ Kp cf'.2.2.2 ∧ zsc o cf'.1 = true ∧ ∀ E cl go, znx E cl o (Lz, cf.2.2.1.map zvl, zH cf.2.2.2) go = go cf'.1 (Lz', cf'.2.2.1.map zvl, zH cf'.2.2.2)
def zLk (L : Lk) : Prop := ∀ idx ci j ty fin, L.1 idx = some (ci, j, ty, fin) → (∀ v, fits ty v = true → v.category = 1 + zcat ci j) ∧ (fin = false → zfin ci j = false)
section Zb
variable {nL len nx : Nat} {L : Lk} {cf cf' : Cf} {Lz : List Int} {o : Op0}
theorem zs_st {st' : List Value} (hl : rl nL cf.2.1 Lz) (hk : Kp cf.2.2.2) (he : cf' = (nx, cf.2.1, st', cf.2.2.2)) (hs : zsc o nx = true) (hz : ∀ E cl go, znx E cl o (Lz, cf.2.2.1.map zvl, zH cf.2.2.2) go = go nx (Lz, st'.map zvl, zH cf.2.2.2)) : zSt nL o cf cf' Lz := by
  subst he
  exact ⟨Lz, hl, hk, hs, hz⟩
theorem bq (nx : Nat) : (nx == nx) = true := beq_self_eq_true nx
theorem zs_ii {f : Int32 → Int32 → Option Int32} {b : Nat} (hf : ∀ x y v, f x y = some v → zii b x.toInt y.toInt = v.toInt) (hl : rl nL cf.2.1 Lz) (hk : Kp cf.2.2.2) (h : pi_gd len 1 (pi_ii f cf) = some cf') (ho : o = (5, 0, b, 0, cf.1 + 1, []) ∨ o = (27, 0, b, 0, cf.1 + 1, [])) : zSt nL o cf cf' Lz := by
  obtain ⟨-, h⟩ := pi_gd_inv h
  obtain ⟨x, y, v, st, e1, e2, e3⟩ := pi_ii_inv h
  rcases ho with rfl | rfl
  · refine zs_st hl hk e3 (bq _) (fun E cl go => ?_)
    rw [e1]
    show go _ (Lz, (zii b x.toInt y.toInt, 0) :: _, _) = _
    rw [hf x y v e2]
    rfl
  · refine zs_st hl hk e3 (bq _) (fun E cl go => ?_)
    rw [e1]
    show go _ (Lz, (zii b x.toInt y.toInt, 0) :: _, _) = _
    rw [hf x y v e2]
    rfl
theorem zs_ll {f : Int64 → Int64 → Option Int64} {b : Nat} (hf : ∀ x y v, f x y = some v → zll b x.toInt y.toInt = v.toInt) (hl : rl nL cf.2.1 Lz) (hk : Kp cf.2.2.2) (h : pi_gd len 1 (pi_ll f cf) = some cf') (ho : o = (6, 0, b, 0, cf.1 + 1, [])) : zSt nL o cf cf' Lz := by
  obtain ⟨-, h⟩ := pi_gd_inv h
  obtain ⟨x, y, v, st, e1, e2, e3⟩ := pi_ll_inv h
  subst ho
  refine zs_st hl hk e3 (bq _) (fun E cl go => ?_)
  rw [e1]
  show go _ (Lz, (zll b x.toInt y.toInt, 1) :: _, _) = _
  rw [hf x y v e2]
  rfl
theorem zs_li {f : Int64 → Int32 → Int64} {b : Nat} (hf : ∀ x y, zli b x.toInt y.toInt = (f x y).toInt) (hl : rl nL cf.2.1 Lz) (hk : Kp cf.2.2.2) (h : pi_gd len 1 (pi_li f cf) = some cf') (ho : o = (25, 0, b, 0, cf.1 + 1, [])) : zSt nL o cf cf' Lz := by
  obtain ⟨-, h⟩ := pi_gd_inv h
  obtain ⟨x, y, st, e1, e3⟩ := pi_li_inv h
  subst ho
  refine zs_st hl hk e3 (bq _) (fun E cl go => ?_)
  rw [e1]
  show go _ (Lz, (zli b x.toInt y.toInt, 1) :: _, _) = _
  rw [hf x y]
  rfl
theorem zs_i {f : Int32 → Value} {b : Nat} (hl : rl nL cf.2.1 Lz) (hk : Kp cf.2.2.2) (h : pi_gd len 1 (pi_i f cf) = some cf') (ho : o = (7, 0, b, 0, cf.1 + 1, [])) (hf : ∀ (x : Int32) (st : List Zv) (s : Zs) E cl go, znx E cl o (Lz, (x.toInt, 0) :: st, s) go = go (cf.1 + 1) (Lz, zvl (f x) :: st, s)) : zSt nL o cf cf' Lz := by
  obtain ⟨-, h⟩ := pi_gd_inv h
  obtain ⟨x, st, e1, e3⟩ := pi_i_inv h
  refine zs_st hl hk e3 (by subst ho; exact bq _) (fun E cl go => ?_)
  rw [e1]
  exact hf x _ _ E cl go
theorem zs_l (hl : rl nL cf.2.1 Lz) (hk : Kp cf.2.2.2) (h : pi_gd len 1 (pi_l (fun x => .int x.toInt32) cf) = some cf') (ho : o = (26, 0, 0, 0, cf.1 + 1, [])) : zSt nL o cf cf' Lz := by
  obtain ⟨-, h⟩ := pi_gd_inv h
  obtain ⟨x, st, e1, e3⟩ := pi_l_inv h
  subst ho
  refine zs_st hl hk e3 (bq _) (fun E cl go => ?_)
  rw [e1]
  show go _ (Lz, (zl2i x.toInt, 0) :: _, _) = _
  unfold zl2i
  rw [Int64.ofInt_toInt]
  rfl
theorem zs_lc (hl : rl nL cf.2.1 Lz) (hk : Kp cf.2.2.2) (h : pi_gd len 1 (pi_lc cf) = some cf') (ho : o = (8, 0, 0, 0, cf.1 + 1, [])) : zSt nL o cf cf' Lz := by
  obtain ⟨-, h⟩ := pi_gd_inv h
  obtain ⟨x, y, st, e1, e3⟩ := pi_lc_inv h
  subst ho
  refine zs_st hl hk e3 (bq _) (fun E cl go => ?_)
  rw [e1]
  have e : zcmpL x.toInt y.toInt = (lg_cmp x y).toInt := by
    unfold zcmpL lg_cmp
    by_cases c1 : y < x
    · rw [if_pos (Int64.lt_iff_toInt_lt.mp c1), if_pos c1]
      rfl
    · rw [if_neg (fun q => c1 (Int64.lt_iff_toInt_lt.mpr q)), if_neg c1]
      by_cases c2 : x = y
      · rw [if_pos (by rw [c2]), if_pos c2]
        rfl
      · rw [if_neg (fun q => c2 (Int64.toInt_inj.mp q)), if_neg c2]
        rfl
  show go _ (Lz, (zcmpL x.toInt y.toInt, 0) :: _, _) = _
  rw [e]
  rfl
theorem zs_k {v : Value} {k : Nat} {st : List Value} (hl : rl nL cf.2.1 Lz) (hk : Kp cf.2.2.2) (he : cf' = (cf.1 + k, cf.2.1, v :: cf.2.2.1, cf.2.2.2)) (ho : o = (0, 0, 0, zV v, cf.1 + k, []) ∧ v.category = 1 ∨ o = (1, 0, 0, zV v, cf.1 + k, []) ∧ v.category = 2) : zSt nL o cf cf' Lz := by
  rcases ho with ⟨rfl, hc⟩ | ⟨rfl, hc⟩
  · refine zs_st hl hk he (bq _) (fun E cl go => ?_)
    show go _ (Lz, (zV v, 0) :: _, _) = go _ (Lz, zvl v :: _, _)
    unfold zvl
    rw [hc]
  · refine zs_st hl hk he (bq _) (fun E cl go => ?_)
    show go _ (Lz, (zV v, 1) :: _, _) = go _ (Lz, zvl v :: _, _)
    unfold zvl
    rw [hc]
theorem zs_ld {kd : Value → Bool} {i k b : Nat} (hb : ∀ v, kd v = true → v.category = if b = 1 then 2 else 1) (hl : rl nL cf.2.1 Lz) (hk : Kp cf.2.2.2) (h : pi_gd len k (pi_ld kd i k cf) = some cf') (ho : o = (3, i, b, 0, cf.1 + k, [])) : zSt nL o cf cf' Lz := by
  obtain ⟨-, h⟩ := pi_gd_inv h
  obtain ⟨v, e1, e2, e3⟩ := pi_ld_inv h
  subst ho
  refine zs_st hl hk e3 (bq _) (fun E cl go => ?_)
  show go _ (Lz, (Lz.getD i 0, if b = 1 then 1 else 0) :: _, _) = go _ (Lz, (zV v, v.category - 1) :: _, _)
  rw [rl_g hl e1, hb v e2]
  by_cases hb1 : b = 1
  · rw [if_pos hb1, if_pos hb1]
  · rw [if_neg hb1, if_neg hb1]
theorem zs_st1 {kd : Value → Bool} {i k b : Nat} (hl : rl nL cf.2.1 Lz) (hk : Kp cf.2.2.2) (h : pi_gd len k (pi_st1 kd i k nL cf) = some cf') (ho : o = (4, i, b, 0, cf.1 + k, [])) : zSt nL o cf cf' Lz := by
  obtain ⟨-, h⟩ := pi_gd_inv h
  obtain ⟨v, st, e1, ⟨-, e2⟩, e3⟩ := pi_st1_inv h
  subst ho
  subst e3
  refine ⟨Lz.set i (zV v), rl_s1 hl e2, hk, bq _, fun E cl go => ?_⟩
  rw [e1]
  rfl
theorem zs_st2 {i k b : Nat} (hl : rl nL cf.2.1 Lz) (hk : Kp cf.2.2.2) (h : pi_gd len k (pi_st2 i k nL cf) = some cf') (ho : o = (4, i, b, 0, cf.1 + k, [])) : zSt nL o cf cf' Lz := by
  obtain ⟨-, h⟩ := pi_gd_inv h
  obtain ⟨v, st, e1, ⟨-, e2⟩, e3⟩ := pi_st2_inv h
  subst ho
  subst e3
  refine ⟨Lz.set i (zV v), rl_s2 hl (by omega), hk, bq _, fun E cl go => ?_⟩
  rw [e1]
  rfl
theorem zs_inc {i : Nat} {z : Int} (hl : rl nL cf.2.1 Lz) (hk : Kp cf.2.2.2) (hz1 : -2147483648 ≤ z) (hz2 : z ≤ 2147483647) (h : pi_gd len 3 (pi_inc i z nL cf) = some cf') (ho : o = (16, i, 0, z, cf.1 + 3, [])) : zSt nL o cf cf' Lz := by
  obtain ⟨-, h⟩ := pi_gd_inv h
  obtain ⟨x, e1, e2, e3⟩ := pi_inc_inv h
  subst ho
  subst e3
  have e : w32 (Lz.getD i 0 + z) = zV (.int (x + Int32.ofInt z)) := by
    rw [rl_g hl e1]
    show w32 (x.toInt + z) = (x + Int32.ofInt z).toInt
    rw [Int32.toInt_add, Int32.toInt_ofInt, show Int.bmod z Int32.size = z from bm32 hz1 hz2]
    rfl
  refine ⟨Lz.set i (zV (.int (x + Int32.ofInt z))), rl_s1 hl e2, hk, bq _, fun E cl go => ?_⟩
  show go _ (Lz.set i (w32 (Lz.getD i 0 + z)), _, _) = _
  rw [e]
theorem zif_c {α : Type} {q : Jvm.ClassFile.Cond} {x y : Int32} {a b : α} : zif (qn q) x.toInt y.toInt a b = if pm_c q x y = true then a else b := by
  cases q
  · show (if x.toInt = y.toInt then a else b) = if decide (x = y) = true then a else b
    simp only [Int32.toInt_inj, decide_eq_true_eq]
  · show (if x.toInt = y.toInt then b else a) = if (!decide (x = y)) = true then a else b
    by_cases hc : x = y
    · subst hc
      simp
    · rw [if_neg (fun e => hc (Int32.toInt_inj.mp e)), if_pos (by simp [hc])]
  · show (if x.toInt < y.toInt then a else b) = if decide (x < y) = true then a else b
    simp only [Int32.lt_iff_toInt_lt, decide_eq_true_eq]
  · show (if x.toInt < y.toInt then b else a) = if decide (y ≤ x) = true then a else b
    simp only [Int32.le_iff_toInt_le, decide_eq_true_eq]
    by_cases hc : x.toInt < y.toInt
    · rw [if_pos hc, if_neg (by omega)]
    · rw [if_neg hc, if_pos (by omega)]
  · show (if y.toInt < x.toInt then a else b) = if decide (y < x) = true then a else b
    simp only [Int32.lt_iff_toInt_lt, decide_eq_true_eq]
  · show (if y.toInt < x.toInt then b else a) = if decide (x ≤ y) = true then a else b
    simp only [Int32.le_iff_toInt_le, decide_eq_true_eq]
    by_cases hc : y.toInt < x.toInt
    · rw [if_pos hc, if_neg (by omega)]
    · rw [if_neg hc, if_pos (by omega)]
theorem zs_if {q : Jvm.ClassFile.Cond} {off : Int} {t : Nat} (hl : rl nL cf.2.1 Lz) (hk : Kp cf.2.2.2) (h : pi_gd len 3 (pi_if q off cf) = some cf') (ht : pm_t cf.1 off = some t) (ho : o = (13, t, qn q, 0, cf.1 + 3, [])) : zSt nL o cf cf' Lz := by
  obtain ⟨-, h⟩ := pi_gd_inv h
  unfold pi_if at h
  split at h
  · rename_i x st e1
    unfold pi_br at h
    rw [ht] at h
    cases h
    subst ho
    refine ⟨Lz, hl, hk, ?_, fun E cl go => ?_⟩
    · show ((if pm_c q x 0 = true then t else cf.1 + 3) == cf.1 + 3 || (if pm_c q x 0 = true then t else cf.1 + 3) == t) = true
      split <;> simp
    · rw [e1]
      show zif (qn q) x.toInt (0 : Int32).toInt (go t (Lz, st.map zvl, _)) (go (cf.1 + 3) (Lz, st.map zvl, _)) = _
      rw [zif_c]
      split <;> rfl
  · cases h
theorem zs_icmp {q : Jvm.ClassFile.Cond} {off : Int} {t : Nat} (hl : rl nL cf.2.1 Lz) (hk : Kp cf.2.2.2) (h : pi_gd len 3 (pi_icmp q off cf) = some cf') (ht : pm_t cf.1 off = some t) (ho : o = (14, t, qn q, 0, cf.1 + 3, [])) : zSt nL o cf cf' Lz := by
  obtain ⟨-, h⟩ := pi_gd_inv h
  unfold pi_icmp at h
  split at h
  · rename_i y x st e1
    unfold pi_br at h
    rw [ht] at h
    cases h
    subst ho
    refine ⟨Lz, hl, hk, ?_, fun E cl go => ?_⟩
    · show ((if pm_c q x y = true then t else cf.1 + 3) == cf.1 + 3 || (if pm_c q x y = true then t else cf.1 + 3) == t) = true
      split <;> simp
    · rw [e1]
      show zif (qn q) x.toInt y.toInt (go t (Lz, st.map zvl, _)) (go (cf.1 + 3) (Lz, st.map zvl, _)) = _
      rw [zif_c]
      split <;> rfl
  · cases h
theorem zs_goto {off : Int} {t : Nat} (hl : rl nL cf.2.1 Lz) (hk : Kp cf.2.2.2) (h : pi_gd len 3 (pi_goto off cf) = some cf') (ht : pm_t cf.1 off = some t) (ho : o = (12, 0, 0, 0, t, [])) : zSt nL o cf cf' Lz := by
  obtain ⟨-, h⟩ := pi_gd_inv h
  unfold pi_goto at h
  rw [ht] at h
  cases h
  subst ho
  exact zs_st hl hk rfl (bq _) (fun E cl go => rfl)
theorem zsw_out {α : Type} {go : Nat → α} {x : Int} {d : Nat} : ∀ (lo : Int) (ts : List Nat), x < lo ∨ lo + ts.length ≤ x → zsw go x d lo ts = go d
  | _, [], _ => rfl
  | lo, t :: ts, h => by
    unfold zsw
    simp only [List.length_cons] at h
    rw [if_neg (by omega)]
    exact zsw_out (lo + 1) ts (by omega)
theorem zsw_in {α : Type} {go : Nat → α} {x : Int} {d t : Nat} : ∀ (lo : Int) (ts : List Nat), lo ≤ x → ts[(x - lo).toNat]? = some t → zsw go x d lo ts = go t
  | lo, [], _, h => by simp at h
  | lo, t0 :: ts, h1, h => by
    unfold zsw
    by_cases hc : x = lo
    · rw [if_pos hc]
      rw [hc, Int.sub_self] at h
      cases h
      rfl
    · rw [if_neg hc]
      refine zsw_in (lo + 1) ts (by omega) ?_
      rw [show (x - lo).toNat = (x - (lo + 1)).toNat + 1 from by omega, List.getElem?_cons_succ] at h
      exact h
theorem mpt_len {pc : Nat} : ∀ {os : List Int} {ts : List Nat}, mpt pc os = some ts → ts.length = os.length
  | [], ts, h => by cases h; rfl
  | o :: os, ts, h => by
    unfold mpt at h
    split at h
    · rename_i t ts' h1 h2
      cases h
      simp [mpt_len h2]
    · cases h
theorem zs_tsw {d lo hi : Int} {offs : Array Int} {t : Nat} {ts : List Nat} (hl : rl nL cf.2.1 Lz) (hk : Kp cf.2.2.2) (h : pi_tsw d lo hi offs cf = some cf') (ht : pm_t cf.1 d = some t) (hts : mpt cf.1 offs.toList = some ts) (hh : hi = lo + ts.length - 1) (ho : o = (15, 0, 0, lo, t, ts)) : zSt nL o cf cf' Lz := by
  unfold pi_tsw at h
  split at h
  · rename_i x st e1
    obtain ⟨t', h1, rfl⟩ := Option.map_eq_some_iff.mp h
    subst ho
    have hz : (t' = t ∧ (x.toInt < lo ∨ lo + ts.length ≤ x.toInt)) ∨ (lo ≤ x.toInt ∧ ts[(x.toInt - lo).toNat]? = some t') := by
      split at h1
      · rename_i hc
        rw [ht] at h1
        cases h1
        exact Or.inl ⟨rfl, by omega⟩
      · rename_i hc
        right
        refine ⟨by omega, ?_⟩
        have hlt : (x.toInt - lo).toNat < ts.length := by omega
        have hget := List.getElem?_eq_getElem hlt
        have := mpt_ok hts _ _ hget
        rw [← Array.getElem?_toList] at h1
        rw [h1] at this
        rw [hget]
        exact this.symm
    refine ⟨Lz, hl, hk, ?_, fun E cl go => ?_⟩
    · show (t' == t || ts.contains t') = true
      rcases hz with ⟨rfl, -⟩ | ⟨-, hz⟩
      · simp
      · simp [List.mem_of_getElem? hz]
    · rw [e1]
      show zsw (fun t => go t (Lz, st.map zvl, _)) x.toInt t lo ts = _
      rcases hz with ⟨rfl, hz⟩ | ⟨hz1, hz2⟩
      · exact zsw_out lo ts hz
      · exact zsw_in lo ts hz1 hz2
  · cases h
theorem zs_dup (hl : rl nL cf.2.1 Lz) (hk : Kp cf.2.2.2) (h : pi_gd len 1 (pi_dup cf) = some cf') (ho : o = (9, 0, 0, 0, cf.1 + 1, [])) : zSt nL o cf cf' Lz := by
  obtain ⟨-, h⟩ := pi_gd_inv h
  obtain ⟨a, st, e1, -, e3⟩ := pi_dup_inv h
  subst ho
  refine zs_st hl hk e3 (bq _) (fun E cl go => ?_)
  rw [e1]
  rfl
theorem zs_pop (hl : rl nL cf.2.1 Lz) (hk : Kp cf.2.2.2) (h : pi_gd len 1 (pi_pop cf) = some cf') (ho : o = (10, 0, 0, 0, cf.1 + 1, [])) : zSt nL o cf cf' Lz := by
  obtain ⟨-, h⟩ := pi_gd_inv h
  obtain ⟨a, st, e1, -, e3⟩ := pi_pop_inv h
  subst ho
  refine zs_st hl hk e3 (bq _) (fun E cl go => ?_)
  rw [e1]
  rfl
theorem zs_dup2 (hl : rl nL cf.2.1 Lz) (hk : Kp cf.2.2.2) (h : pi_gd len 1 (pi_dup2 cf) = some cf') (ho : o = (11, 0, 0, 0, cf.1 + 1, [])) : zSt nL o cf cf' Lz := by
  obtain ⟨-, h⟩ := pi_gd_inv h
  obtain ⟨a, b, st, e1, -, e3⟩ := pi_dup2_inv h
  subst ho
  refine zs_st hl hk e3 (bq _) (fun E cl go => ?_)
  rw [e1]
  rfl
/-- what the fixed world says of a cell -/
def zcB (c : Nat) : Bool := match hZ c with
  | .inr (ci, fs) => (List.range fs.length).all fun j => match fs[j]? with
    | some v => (v.category == 1 + zcat ci j) && (!(zfin ci j) || (match v with
      | .ref _ => true
      | _ => false))
    | none => true
  | .inl (_, _, .inl _) => true
  | .inl (_, _, .inr (.inl _)) => true
  | .inl (_, _, .inr (.inr (.inr (.inr _)))) => true
  | _ => false
theorem zcB_all : ((List.range 229).all fun c => zcB c) = true := by decide +kernel
theorem zcB_c {c : Nat} (h : c < 229) : zcB c = true := List.all_eq_true.mp zcB_all c (List.mem_range.mpr h)
theorem zc_obj {h : Ph} {c ci : Nat} {fs : List Value} (hk : Kp h) (hc : c < 229) (he : h c = .inr (ci, fs)) : ∃ fs0, hZ c = .inr (ci, fs0) ∧ fs.length = fs0.length ∧ ∀ j v, fs[j]? = some v → v.category = 1 + zcat ci j ∧ (zfin ci j = true → v = .ref (zrho c j)) := by
  have k := hk c hc
  have b := zcB_c hc
  unfold kpc at k
  unfold zcB at b
  split at k
  · rename_i ci0 fs0 e0
    obtain ⟨fs1, k1, k2, k3⟩ := k
    rw [he] at k1
    cases k1
    rw [e0] at b
    dsimp only at b
    refine ⟨fs0, e0, k2, fun j v hv => ?_⟩
    obtain ⟨k4, k5⟩ := k3 j
    have hj : j < fs0.length := by
      rw [← k2]
      exact (List.getElem?_eq_some_iff.mp hv).1
    have bj := List.all_eq_true.mp b j (List.mem_range.mpr hj)
    rw [hv] at k4
    have hget := List.getElem?_eq_getElem hj
    rw [hget] at k4 bj
    simp only [Option.map_some, Option.some.injEq] at k4
    simp only [Bool.and_eq_true, beq_iff_eq] at bj
    refine ⟨by rw [k4]; exact bj.1, fun hf => ?_⟩
    have b2 := bj.2
    rw [hf] at b2
    simp only [Bool.not_true, Bool.false_or] at b2
    have k6 := k5 hf
    rw [hv, hget] at k6
    have k6 := Option.some.inj k6
    split at b2
    · rename_i r hr
      rw [k6, hr]
      unfold zrho
      rw [e0]
      show Value.ref r = .ref (match fs0[j]? with
        | some (.ref r) => r
        | _ => 0)
      rw [hget, hr]
    · cases b2
  · obtain ⟨f, k⟩ := k; rw [he] at k; cases k
  · obtain ⟨f, k⟩ := k; rw [he] at k; cases k
  · obtain ⟨_, k, -⟩ := k; rw [he] at k; cases k
  · exact k.elim
theorem zs_get {idx ci j : Nat} {ty : FieldType} {fin : Bool} (hl : rl nL cf.2.1 Lz) (hk : Kp cf.2.2.2) (h : pi_gd len 3 (pi_get L 229 idx cf) = some cf') (hi : L.1 idx = some (ci, j, ty, fin)) (ho : o = (17, ci, j, 0, cf.1 + 3, [])) : zSt nL o cf cf' Lz := by
  obtain ⟨-, h⟩ := pi_gd_inv h
  unfold pi_get at h
  split at h
  · rename_i k st e1
    rw [hi] at h
    obtain ⟨q0, hq0, h⟩ := Option.bind_eq_some_iff.mp h
    cases hq0
    obtain ⟨x, hx, h⟩ := Option.bind_eq_some_iff.mp h
    obtain ⟨hk1, hx⟩ := pm_at?_inv hx
    obtain ⟨ob, hob, h⟩ := Option.bind_eq_some_iff.mp h
    have hob := pm_O_inv hob
    split at h
    · rename_i hci
      obtain ⟨v, hv, h⟩ := Option.map_eq_some_iff.mp h
      have he : cf.2.2.2 k = .inr (ci, ob.2) := by
        rw [hx, hob]
        have hci : ob.1 = ci := hci
        rw [← hci]
      have hv : ob.2[j]? = some v := hv
      obtain ⟨fs0, -, -, z⟩ := zc_obj hk hk1 he
      obtain ⟨z1, z2⟩ := z j v hv
      subst ho
      refine zs_st hl hk h.symm (bq _) (fun E cl go => ?_)
      rw [e1]
      show go _ (Lz, (if zfin ci j = true then ((zrho k j : Nat) : Int) else zH cf.2.2.2 k j, zcat ci j) :: _, _) = go _ (Lz, (zV v, v.category - 1) :: _, _)
      have e2 : (if zfin ci j = true then ((zrho k j : Nat) : Int) else zH cf.2.2.2 k j) = zV v := by
        split
        · rename_i hf
          rw [z2 hf]
          rfl
        · unfold zH
          rw [if_neg (by omega), he]
          show zso (ob.2[j]?) = _
          rw [hv]
          rfl
      rw [e2, z1, Nat.add_sub_cancel_left]
    · cases h
  · cases h
theorem zs_put {idx ci j w : Nat} {ty : FieldType} (hL : zLk L) (hl : rl nL cf.2.1 Lz) (hk : Kp cf.2.2.2) (h : pi_gd len 3 (pi_put L 229 idx cf) = some cf') (hi : L.1 idx = some (ci, j, ty, false)) (ho : o = (18, ci, j, (w : Int), cf.1 + 3, [])) : zSt nL o cf cf' Lz := by
  obtain ⟨-, h⟩ := pi_gd_inv h
  unfold pi_put at h
  split at h
  · rename_i v k st e1
    rw [hi] at h
    obtain ⟨q0, hq0, h⟩ := Option.bind_eq_some_iff.mp h
    cases hq0
    obtain ⟨x, hx, h⟩ := Option.bind_eq_some_iff.mp h
    obtain ⟨hk1, hx⟩ := pm_at?_inv hx
    obtain ⟨ob, hob, h⟩ := Option.bind_eq_some_iff.mp h
    have hob := pm_O_inv hob
    split at h
    · rename_i hci
      obtain ⟨hci, hlt, -, -, hfit⟩ := hci
      have hci : ob.1 = ci := hci
      have hlt : j < ob.2.length := hlt
      have h := (Option.some.inj h).symm
      have h : cf' = (cf.1 + 3, cf.2.1, st, pm_u cf.2.2.2 k (.inr (ob.1, ob.2.set j v))) := h
      rw [hci] at h
      have he : cf.2.2.2 k = .inr (ci, ob.2) := by rw [hx, hob, ← hci]
      obtain ⟨q1, q2⟩ := hL idx ci j ty false hi
      obtain ⟨fs0, e0, z0, z⟩ := zc_obj hk hk1 he
      subst ho
      subst h
      refine ⟨Lz, hl, Kp_u hk ?_, bq _, fun E cl go => ?_⟩
      · rw [e0]
        refine ⟨ob.2.set j v, rfl, by rw [List.length_set]; exact z0, fun j' => ?_⟩
        have kk := hk k hk1
        rw [e0] at kk
        obtain ⟨fs1, k1, k2, k3⟩ := kk
        rw [he] at k1
        cases k1
        rw [List.getElem?_set]
        by_cases e : j = j'
        · subst e
          rw [if_pos rfl, if_pos hlt]
          refine ⟨?_, fun hf => ?_⟩
          · rw [← (k3 j).1, List.getElem?_eq_getElem hlt]
            have := (z j _ (List.getElem?_eq_getElem hlt)).1
            simp only [Option.map_some, Option.some.injEq]
            rw [this]
            exact q1 v hfit
          · rw [q2 rfl] at hf
            cases hf
        · rw [if_neg e]
          exact k3 j'
      · rw [e1]
        show go _ (Lz, st.map zvl, zu (zH cf.2.2.2) k j (zV v)) = _
        rw [← zH_put hk1 he hlt]
    · cases h
  · cases h
theorem pm_ix_nat {i : Int32} {N j : Nat} (h : pm_ix i N = some j) : i.toInt.toNat = j ∧ j < N := by
  obtain ⟨h1, h2, h3⟩ := pm_ix_inv h
  refine ⟨?_, h3⟩
  rw [← h2, ← Int32.toNat_toInt]
theorem zs_ald {b t : Nat} (hl : rl nL cf.2.1 Lz) (hk : Kp cf.2.2.2) (h : pi_gd len 1 (pi_ald t 229 cf) = some cf') (hb : b ≠ 1 ∧ b ≠ 9) (ho : o = (19, 0, b, 0, cf.1 + 1, [])) : zSt nL o cf cf' Lz := by
  obtain ⟨-, h⟩ := pi_gd_inv h
  unfold pi_ald at h
  split at h
  · rename_i i k st e1
    obtain ⟨x, hx, h⟩ := Option.bind_eq_some_iff.mp h
    obtain ⟨hk1, hx⟩ := pm_at?_inv hx
    obtain ⟨q, hq, h⟩ := Option.bind_eq_some_iff.mp h
    have hq := pm_I_inv hq
    split at h
    · obtain ⟨j, hj, h⟩ := Option.map_eq_some_iff.mp h
      obtain ⟨j1, j2⟩ := pm_ix_nat hj
      subst ho
      refine zs_st hl hk h.symm (bq _) (fun E cl go => ?_)
      rw [e1]
      show go _ (Lz, (if b = 9 then _ else zH cf.2.2.2 k i.toInt.toNat, if b = 1 then 1 else 0) :: _, _) = go _ (Lz, ((q.2.2 j).toInt, 0) :: _, _)
      have e2 : zH cf.2.2.2 k i.toInt.toNat = (q.2.2 j).toInt := by
        unfold zH
        rw [if_neg (by omega), hx, hq, j1]
        show zso (if j < q.2.1 then some (.int (q.2.2 j)) else none) = _
        rw [if_pos j2]
        rfl
      rw [if_neg hb.1, if_neg hb.2, e2]
    · cases h
  · cases h
theorem zs_mld (hl : rl nL cf.2.1 Lz) (hk : Kp cf.2.2.2) (h : pi_gd len 1 (pi_mld cf) = some cf') (ho : o = (19, 0, 0, 0, cf.1 + 1, [])) : zSt nL o cf cf' Lz := by
  obtain ⟨-, h⟩ := pi_gd_inv h
  unfold pi_mld at h
  split at h
  · rename_i i k st e1
    split at h
    · rename_i hk1
      obtain ⟨j, hj, h⟩ := Option.map_eq_some_iff.mp h
      obtain ⟨j1, j2⟩ := pm_ix_nat hj
      subst ho
      subst hk1
      refine zs_st hl hk h.symm (bq _) (fun E cl go => ?_)
      rw [e1]
      show go _ (Lz, (zH cf.2.2.2 1000 i.toInt.toNat, 0) :: _, _) = go _ (Lz, ((moF j).toInt, 0) :: _, _)
      unfold zH
      rw [if_pos rfl, j1]
    · cases h
  · cases h
theorem zs_lld (hl : rl nL cf.2.1 Lz) (hk : Kp cf.2.2.2) (h : pi_gd len 1 (pi_lld 229 cf) = some cf') (ho : o = (19, 0, 1, 0, cf.1 + 1, [])) : zSt nL o cf cf' Lz := by
  obtain ⟨-, h⟩ := pi_gd_inv h
  unfold pi_lld at h
  split at h
  · rename_i i k st e1
    obtain ⟨x, hx, h⟩ := Option.bind_eq_some_iff.mp h
    obtain ⟨hk1, hx⟩ := pm_at?_inv hx
    obtain ⟨q, hq, h⟩ := Option.bind_eq_some_iff.mp h
    have hq := pm_L_inv hq
    split at h
    · obtain ⟨j, hj, h⟩ := Option.map_eq_some_iff.mp h
      obtain ⟨j1, j2⟩ := pm_ix_nat hj
      subst ho
      refine zs_st hl hk h.symm (bq _) (fun E cl go => ?_)
      rw [e1]
      show go _ (Lz, (zH cf.2.2.2 k i.toInt.toNat, 1) :: _, _) = go _ (Lz, ((q.2.2 j).toInt, 1) :: _, _)
      have e2 : zH cf.2.2.2 k i.toInt.toNat = (q.2.2 j).toInt := by
        unfold zH
        rw [if_neg (by omega), hx, hq, j1]
        show zso (if j < q.2.1 then some (.long (q.2.2 j)) else none) = _
        rw [if_pos j2]
        rfl
      rw [e2]
    · cases h
  · cases h
theorem zs_qld (hl : rl nL cf.2.1 Lz) (hk : Kp cf.2.2.2) (h : pi_gd len 1 (pi_qld 229 cf) = some cf') (ho : o = (19, 0, 9, 0, cf.1 + 1, [])) : zSt nL o cf cf' Lz := by
  obtain ⟨-, h⟩ := pi_gd_inv h
  unfold pi_qld at h
  split at h
  · rename_i i k st e1
    obtain ⟨x, hx, h⟩ := Option.bind_eq_some_iff.mp h
    obtain ⟨hk1, hx⟩ := pm_at?_inv hx
    obtain ⟨q, hq, h⟩ := Option.bind_eq_some_iff.mp h
    have hq := pm_Q_inv hq
    split at h
    · obtain ⟨j, hj, h⟩ := Option.bind_eq_some_iff.mp h
      obtain ⟨r, hr, h⟩ := Option.map_eq_some_iff.mp h
      obtain ⟨j1, j2⟩ := pm_ix_nat hj
      subst ho
      refine zs_st hl hk h.symm (bq _) (fun E cl go => ?_)
      rw [e1]
      show go _ (Lz, (((zrho k i.toInt.toNat : Nat) : Int), 0) :: _, _) = go _ (Lz, ((r : Int), 0) :: _, _)
      have e2 : zrho k i.toInt.toNat = r := by
        have kk := hk k hk1
        rw [hx, hq] at kk
        unfold zrho
        rw [j1]
        unfold kpc at kk
        split at kk
        · obtain ⟨f, k1, -⟩ := kk; cases k1
        · obtain ⟨f, k1⟩ := kk; cases k1
        · obtain ⟨f, k1⟩ := kk; cases k1
        · rename_i t0 k0 f0 e0
          obtain ⟨f', k1, k2⟩ := kk
          cases k1
          rw [e0]
          show (match (if j < q.2.1 then (f0 j).map .ref else none : Option Value) with
            | some (.ref r) => r
            | _ => 0) = r
          rw [if_pos j2, ← k2 j j2, hr]
          rfl
        · exact kk.elim
      rw [e2]
    · cases h
  · cases h
theorem zs_ast {b t : Nat} {nr : Int32 → Int32} (hl : rl nL cf.2.1 Lz) (hk : Kp cf.2.2.2) (h : pi_gd len 1 (pi_ast t 229 nr cf) = some cf') (hb : ∀ x : Int32, (if b = 2 then zst2 x.toInt else if b = 3 then zst3 x.toInt else x.toInt) = (nr x).toInt) (ho : o = (20, 0, b, 0, cf.1 + 1, [])) : zSt nL o cf cf' Lz := by
  obtain ⟨-, h⟩ := pi_gd_inv h
  unfold pi_ast at h
  split at h
  · rename_i z i k st e1
    obtain ⟨x, hx, h⟩ := Option.bind_eq_some_iff.mp h
    obtain ⟨hk1, hx⟩ := pm_at?_inv hx
    obtain ⟨q, hq, h⟩ := Option.bind_eq_some_iff.mp h
    have hq := pm_I_inv hq
    split at h
    · rename_i ht
      obtain ⟨j, hj, h⟩ := Option.map_eq_some_iff.mp h
      obtain ⟨j1, j2⟩ := pm_ix_nat hj
      subst ho
      rw [← ht] at h
      have h := h.symm
      subst h
      have he : cf.2.2.2 k = .inl (q.1, q.2.1, .inl q.2.2) := by rw [hx, hq]
      refine ⟨Lz, hl, Kp_u hk ?_, bq _, fun E cl go => ?_⟩
      · have kk := hk k hk1
        rw [he] at kk
        unfold kpc at kk ⊢
        split at kk
        · obtain ⟨f, k1, -⟩ := kk; cases k1
        · obtain ⟨f, k1⟩ := kk; cases k1; exact ⟨_, rfl⟩
        · obtain ⟨f, k1⟩ := kk; cases k1
        · obtain ⟨f, k1, -⟩ := kk; cases k1
        · exact kk.elim
      · rw [e1]
        show go _ (Lz, st.map zvl, zu (zH cf.2.2.2) k i.toInt.toNat (if b = 2 then zst2 z.toInt else if b = 3 then zst3 z.toInt else z.toInt)) = _
        rw [hb z, j1, ← zH_int hk1 he j2]
    · cases h
  · cases h
theorem zs_lst (hl : rl nL cf.2.1 Lz) (hk : Kp cf.2.2.2) (h : pi_gd len 1 (pi_lst 229 cf) = some cf') (ho : o = (20, 0, 1, 0, cf.1 + 1, [])) : zSt nL o cf cf' Lz := by
  obtain ⟨-, h⟩ := pi_gd_inv h
  unfold pi_lst at h
  split at h
  · rename_i z i k st e1
    obtain ⟨x, hx, h⟩ := Option.bind_eq_some_iff.mp h
    obtain ⟨hk1, hx⟩ := pm_at?_inv hx
    obtain ⟨q, hq, h⟩ := Option.bind_eq_some_iff.mp h
    have hq := pm_L_inv hq
    split at h
    · rename_i ht
      obtain ⟨j, hj, h⟩ := Option.map_eq_some_iff.mp h
      obtain ⟨j1, j2⟩ := pm_ix_nat hj
      subst ho
      have h := h.symm
      subst h
      have he : cf.2.2.2 k = .inl (1, q.2.1, .inr (.inl q.2.2)) := by rw [hx, hq, ht]
      refine ⟨Lz, hl, Kp_u hk ?_, bq _, fun E cl go => ?_⟩
      · have kk := hk k hk1
        rw [he] at kk
        unfold kpc at kk ⊢
        split at kk
        · obtain ⟨f, k1, -⟩ := kk; cases k1
        · obtain ⟨f, k1⟩ := kk; cases k1
        · obtain ⟨f, k1⟩ := kk; cases k1; exact ⟨_, rfl⟩
        · obtain ⟨f, k1, -⟩ := kk; cases k1
        · exact kk.elim
      · rw [e1]
        show go _ (Lz, st.map zvl, zu (zH cf.2.2.2) k i.toInt.toNat z.toInt) = _
        rw [j1, ← zH_long hk1 he j2]
    · cases h
  · cases h
theorem ne1000 {k : Nat} (h : k < 229) : ¬ k = 1000 := by omega
def zlB (c : Nat) : Bool := match hZ c with
  | .inl (_, k, _) => decide (k < 2147483648)
  | _ => true
theorem zlB_all : ((List.range 229).all fun c => zlB c) = true := by decide +kernel
theorem zs_len (hl : rl nL cf.2.1 Lz) (hk : Kp cf.2.2.2) (h : pi_gd len 1 (pi_len 229 cf) = some cf') (ho : o = (21, 0, 0, 0, cf.1 + 1, [])) : zSt nL o cf cf' Lz := by
  obtain ⟨-, h⟩ := pi_gd_inv h
  unfold pi_len at h
  split at h
  · rename_i k st e1
    subst ho
    split at h
    · rename_i hk1
      obtain ⟨z, hz, h⟩ := Option.map_eq_some_iff.mp h
      refine zs_st hl hk h.symm (bq _) (fun E cl go => ?_)
      rw [e1]
      show go _ (Lz, (zq_len k, 0) :: _, _) = go _ (Lz, ((Int32.ofNat z).toInt, 0) :: _, _)
      have e2 : zq_len k = (Int32.ofNat z).toInt := by
        have kk := hk k hk1
        have bb := List.all_eq_true.mp zlB_all k (List.mem_range.mpr hk1)
        have bb : zlB k = true := bb
        unfold zq_len
        rw [if_neg (ne1000 hk1)]
        unfold pm_N at hz
        split at hz
        · rename_i t0 k0 a0 e0
          split at hz
          · cases hz
            rw [e0] at kk
            have key : ∃ t a, hZ k = .inl (t, z, a) := by
              unfold kpc at kk
              split at kk
              · obtain ⟨f, k1, -⟩ := kk; cases k1
              · rename_i he; obtain ⟨f, k1⟩ := kk; cases k1; exact ⟨_, _, he⟩
              · rename_i he; obtain ⟨f, k1⟩ := kk; cases k1; exact ⟨_, _, he⟩
              · rename_i he; obtain ⟨f, k1, -⟩ := kk; cases k1; exact ⟨_, _, he⟩
              · exact kk.elim
            obtain ⟨t, a, ea⟩ := key
            unfold zlB at bb
            rw [ea] at bb ⊢
            have bb : z < 2147483648 := by simpa using bb
            exact (Int32.toInt_ofNat_of_lt bb).symm
          · cases hz
        · cases hz
      rw [e2]
    · split at h
      · rename_i hk2
        subst hk2
        have h := (Option.some.inj h).symm
        refine zs_st hl hk h (bq _) (fun E cl go => ?_)
        rw [e1]
        rfl
      · cases h
  · cases h
end Zb
