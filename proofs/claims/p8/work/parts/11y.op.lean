/-! fields and arrays -/
section Ops3
def a_get (HT : Nat → Hk) (RG : Nat → List Nat) (FK : Nat → Bool) (ci j nx : Nat) (A : Ab) : Option (List Ab) := match A.2.2.1 with
  | a :: st => if a.1 = 2 ∧ (HT a.2.1).1 = 0 ∧ (HT a.2.1).2.1 = ci ∧ j < 4294967295 then (match lod HT RG FK A.2.2.2.1 A.2.2.2.2 a.2.1 j j (some j) with
    | some l => some (l.map fun q => itr HT (nx, A.2.1, q.1 :: st, q.2.1, q.2.2))
    | none => none) else none
  | _ => none
def tyc (ty : FieldType) : Nat := match ty with
  | .int => 0
  | .long => 1
  | .boolean => 2
  | .char => 3
  | .object _ => 4
  | .array _ => 4
  | _ => 9
def tyK (t : Nat) (sy : Sy) (a : Av) : Bool := match t with
  | 0 => a.1 == 0
  | 1 => a.1 == 1
  | 2 => a.1 == 0 && inI sy 0 1 a
  | 3 => a.1 == 0 && inI sy 0 65535 a
  | 4 => a.1 == 2
  | _ => false
def a_put (HT : Nat → Hk) (RG : Nat → List Nat) (md : Md) (ci j t nx : Nat) (A : Ab) : Option (List Ab) := match A.2.2.1 with
  | v :: a :: st => if a.1 = 2 ∧ (HT a.2.1).1 = 0 ∧ (HT a.2.1).2.1 = ci ∧ j < (HT a.2.1).2.2.1 ∧ tyK t A.2.2.2.1 v = true ∧ stK RG A.2.2.2.1 (HT a.2.1).2.2.2 j j v = true ∧ mdK md a.2.1 j j = true ∧ prK HT a.2.1 j = false ∧ j < 4294967295 ∧ yK HT A.2.2.2.1 A.2.2.2.2 a.2.1 j j none v = true then some [(nx, A.2.1, st, A.2.2.2.1, (a.2.1, j, v) :: fdrop A.2.2.2.2 a.2.1 j j)] else none
  | _ => none
/-- form and number of arrays by the kind of the instruction: 0 int, 2 char, 3 boolean, 1 long, 9 references -/
def arF (b : Nat) (q : Hk) : Bool := match b with
  | 1 => q.1 == 2 && q.2.1 == 1
  | 9 => q.1 == 3 && (q.2.1 == 4 || q.2.1 == 5 || q.2.1 == 6)
  | t => q.1 == 1 && q.2.1 == t
def a_ald (HT : Nat → Hk) (RG : Nat → List Nat) (FK : Nat → Bool) (UN : Nat → Option Nat) (b nx : Nat) (A : Ab) : Option (List Ab) := match A.2.2.1 with
  | i :: a :: st => if i.1 = 0 then (match iv A.2.2.2.1 i.2.1 i.2.2 with
    | none => none
    | some p => if 0 ≤ p.1 then (if a.1 = 2 then
        (if a.2.1 = 1000 then (if b = 0 ∧ p.2 ≤ 4 then some [pr nx A.2.1 st A.2.2.2.1 A.2.2.2.2 0 (if p.1 = p.2 then .inl (0, (moF p.1.toNat).toInt) else .inr (4, 10, 0, 0, 0))] else none)
        else if arF b (HT a.2.1) = true ∧ p.2 < (HT a.2.1).2.2.1 ∧ p.2 < 4294967295 then (match lod HT RG FK A.2.2.2.1 A.2.2.2.2 a.2.1 p.1.toNat p.2.toNat (if p.1 = p.2 then some p.1.toNat else if i.2.2 = 0 then some (4294967296 + i.2.1) else none) with
          | some l => some (l.map fun q => (nx, A.2.1, q.1 :: st, q.2.1, q.2.2))
          | none => none) else none)
      else if a.1 = 3 then (match UN a.2.1 with
        | none => none
        | some k0 => if arF b (HT k0) = true ∧ (HT k0).1 < 4 ∧ p.2 < (HT k0).2.2.1 then (match hkf (HT k0).2.2.2 p.1.toNat p.2.toNat with
          | none => none
          | some kd => (kld RG FK kd A.2.2.2.1).map fun l => l.map fun q => (nx, A.2.1, q.1 :: st, q.2, A.2.2.2.2)) else none)
      else none) else none) else none
  | _ => none
def nrK (b : Nat) (sy : Sy) (v : Av) : Bool := match b with
  | 0 => v.1 == 0
  | 1 => v.1 == 1
  | 2 => v.1 == 0 && inI sy 0 65535 v
  | 3 => v.1 == 0 && inI sy 0 1 v
  | _ => false
def a_ast (HT : Nat → Hk) (RG : Nat → List Nat) (UN : Nat → Option Nat) (md : Md) (b nx : Nat) (A : Ab) : Option (List Ab) := match A.2.2.1 with
  | v :: i :: a :: st => if i.1 = 0 ∧ nrK b A.2.2.2.1 v = true then (match iv A.2.2.2.1 i.2.1 i.2.2 with
    | none => none
    | some p => if 0 ≤ p.1 then (if a.1 = 2 then
        (if arF b (HT a.2.1) = true ∧ p.2 < (HT a.2.1).2.2.1 ∧ stK RG A.2.2.2.1 (HT a.2.1).2.2.2 p.1.toNat p.2.toNat v = true ∧ mdK md a.2.1 p.1.toNat p.2.toNat = true ∧ prK HT a.2.1 p.1.toNat = false ∧ p.2 < 4294967295 ∧ yK HT A.2.2.2.1 A.2.2.2.2 a.2.1 p.1.toNat p.2.toNat (some i.2) v = true ∧ (a.2.1 = cCO → 1000 ≤ p.1 ∧ p.2 < 4000 ∨ fkA A.2.2.2.2 cCO 4294967295 = none) then
          (match sumE HT A.2.2.2.1 A.2.2.2.2 a.2.1 (if p.1 = p.2 then some p.1.toNat else if i.2.2 = 0 then some (4294967296 + i.2.1) else none) v with
          | some e => some [(nx, A.2.1, st, A.2.2.2.1 ++ [e], (a.2.1, 4294967295, (0, A.2.2.2.1.length, 0)) :: fdrop A.2.2.2.2 a.2.1 p.1.toNat p.2.toNat)]
          | none => some [(nx, A.2.1, st, A.2.2.2.1, nkF A.2.2.2.1 A.2.2.2.2 a.2.1 i v ++ (if p.1 = p.2 then (a.2.1, p.1.toNat, v) :: fdrop A.2.2.2.2 a.2.1 p.1.toNat p.2.toNat else fdrop A.2.2.2.2 a.2.1 p.1.toNat p.2.toNat))]) else none)
      else if a.1 = 3 then (match UN a.2.1 with
        | none => none
        | some k0 => if arF b (HT k0) = true ∧ p.2 < (HT k0).2.2.1 ∧ stK RG A.2.2.2.1 (HT k0).2.2.2 p.1.toNat p.2.toNat v = true ∧ (RG a.2.1).all (fun k => mdK md k p.1.toNat p.2.toNat && !prK HT k p.1.toNat && !prYK k) = true then
            some [(nx, A.2.1, st, A.2.2.2.1, (RG a.2.1).foldl (fun f k => fdrop f k p.1.toNat p.2.toNat) A.2.2.2.2)] else none)
      else none) else none) else none
  | _ => none
def a_len (HT : Nat → Hk) (nx : Nat) (A : Ab) : Option (List Ab) := match A.2.2.1 with
  | a :: st => if a.1 = 2 then (if a.2.1 = 1000 then some [(nx, A.2.1, (0, 0, 5) :: st, A.2.2.2)] else if 1 ≤ (HT a.2.1).1 ∧ (HT a.2.1).1 < 4 ∧ (HT a.2.1).2.1 < 7 ∧ (HT a.2.1).2.2.1 < 2147483648 then some [(nx, A.2.1, (0, 0, ((HT a.2.1).2.2.1 : Int)) :: st, A.2.2.2)] else none) else none
  | _ => none
variable {HT : Nat → Hk} {RG : Nat → List Nat} {FK : Nat → Bool} {UN : Nat → Option Nat} {n : Nat} {md : Md} {h0 : Ph} {vs : List Int} {A : Ab} {cf : Cf}
theorem a_get_ok {L : Lk} {idx ci j nx : Nat} {ty : FieldType} {fin : Bool} {Bs : List Ab} (g : ga HT RG n md h0 vs A cf) (h : a_get HT RG FK ci j nx A = some Bs) (hL : L.1 idx = some (ci, j, ty, fin)) (hnx : nx = cf.1 + 3) : ∃ cf', pi_get L n idx cf = some cf' ∧ ∃ B ∈ Bs, ∃ ws, ga HT RG n md h0 (vs ++ ws) B cf' := by
  obtain ⟨g0, g1, g2, g3, g4, g5, g6⟩ := g
  unfold a_get at h
  split at h
  · rename_i a st hst
    rw [hst] at g2
    obtain ⟨v, sv, e1, hv, g2⟩ := gst_cons g2
    split at h
    · rename_i hc
      obtain ⟨c1, c2, c3, c4⟩ := hc
      have hr := gv_ref hv c1
      subst hr
      split at h
      · rename_i l hl
        cases h
        have hk4 : (HT a.2.1).1 < 4 := by omega
        obtain ⟨u, hu, q, hq, ws, q1, q2, q3⟩ := lod_ok g3 g4 g5 hk4 (Nat.le_refl j) (Nat.le_refl j) (fun j' e => by cases e; exact Or.inl ⟨by omega, rfl⟩) hl
        obtain ⟨i1, i2, -⟩ := g5.1 a.2.1 hk4
        unfold hsh at i2
        rw [c2] at i2
        obtain ⟨fs, i3, i4⟩ := i2
        rw [c3] at i3
        rw [i3] at hu
        have hu : fs[j]? = some u := hu
        have gB : ga HT RG n md h0 (vs ++ ws) (nx, A.2.1, q.1 :: st, q.2.1, q.2.2) (cf.1 + 3, cf.2.1, u :: sv, cf.2.2.2) := ⟨hnx.symm, gl_app _ g1, ⟨q3, gst_app _ g2⟩, q1, q2, g5, g6⟩
        obtain ⟨ws2, gB2⟩ := itr_ok gB
        refine ⟨(cf.1 + 3, cf.2.1, u :: sv, cf.2.2.2), ?_, _, List.mem_map.mpr ⟨q, hq, rfl⟩, ws ++ ws2, by rw [← List.append_assoc]; exact gB2⟩
        unfold pi_get
        rw [e1]
        dsimp only
        rw [hL]
        show (pm_at? n cf.2.2.2 a.2.1).bind _ = _
        rw [show pm_at? n cf.2.2.2 a.2.1 = some (.inr (ci, fs)) from by unfold pm_at?; rw [if_pos i1, i3]]
        show (if ci = ci then _ else _) = _
        rw [if_pos rfl]
        show (fs[j]?).map _ = _
        rw [hu]
        rfl
      · cases h
    · cases h
  · cases h
theorem tyK_ok {ty : FieldType} {sy : Sy} {a : Av} {v : Value} (g : gs sy vs) (hv : gv RG vs a v) (h : tyK (tyc ty) sy a = true) : narrow ty v = v ∧ fits ty v = true := by
  cases ty with
  | int =>
    have h : (a.1 == 0) = true := h
    obtain ⟨x, w, rfl, -⟩ := gv_int hv (by simpa using h)
    exact ⟨rfl, rfl⟩
  | long =>
    have h : (a.1 == 1) = true := h
    obtain ⟨x, w, rfl, -⟩ := gv_long hv (by simpa using h)
    exact ⟨rfl, rfl⟩
  | boolean =>
    have h : (a.1 == 0 && inI sy 0 1 a) = true := h
    simp only [Bool.and_eq_true, beq_iff_eq] at h
    obtain ⟨x, w, rfl, hw, hx⟩ := gv_int hv h.1
    have := inI_ok g h.2 hw
    rw [← hx] at this
    have : x = 0 ∨ x = 1 := by
      by_cases h0 : x.toInt = 0
      · exact Or.inl (Int32.toInt_inj.mp (by rw [h0]; rfl))
      · exact Or.inr (Int32.toInt_inj.mp (by rw [show Int32.toInt 1 = 1 from by decide]; omega))
    rcases this with rfl | rfl
    · exact ⟨by decide, by decide⟩
    · exact ⟨by decide, by decide⟩
  | char =>
    have h : (a.1 == 0 && inI sy 0 65535 a) = true := h
    simp only [Bool.and_eq_true, beq_iff_eq] at h
    obtain ⟨x, w, rfl, hw, hx⟩ := gv_int hv h.1
    have := inI_ok g h.2 hw
    rw [← hx] at this
    have hf : fits .char (.int x) = true := by
      show (decide (0 ≤ x) && decide (x ≤ 65535)) = true
      simp only [Bool.and_eq_true, decide_eq_true_eq, Int32.le_iff_toInt_le]
      rw [show Int32.toInt 0 = 0 from by decide, show Int32.toInt 65535 = 65535 from by decide]
      exact this
    refine ⟨?_, hf⟩
    show Value.int _ = _
    congr 1
    apply Int32.toInt_inj.mp
    obtain ⟨n1, n2⟩ := nn32 this.1
    have e : (x.toUInt32.toUInt16.toUInt32.toInt32).toBitVec.toNat = x.toBitVec.toNat := by
      show (x.toUInt32.toUInt16.toUInt32).toNat = _
      rw [UInt16.toNat_toUInt32, UInt32.toNat_toUInt16]
      show x.toBitVec.toNat % 65536 = _
      exact Nat.mod_eq_of_lt (by omega)
    rw [of32 (by omega), e, n1]
  | object s =>
    have h : (a.1 == 2) = true := h
    have := gv_ref hv (by simpa using h)
    subst this
    exact ⟨rfl, rfl⟩
  | array t =>
    have h : (a.1 == 2) = true := h
    have := gv_ref hv (by simpa using h)
    subst this
    exact ⟨rfl, rfl⟩
  | _ => cases h
theorem a_put_ok {L : Lk} {idx ci j nx : Nat} {ty : FieldType} {Bs : List Ab} (g : ga HT RG n md h0 vs A cf) (h : a_put HT RG md ci j (tyc ty) nx A = some Bs) (hL : L.1 idx = some (ci, j, ty, false)) (hnx : nx = cf.1 + 3) : ∃ cf', pi_put L n idx cf = some cf' ∧ ∃ B ∈ Bs, ∃ ws, ga HT RG n md h0 (vs ++ ws) B cf' := by
  obtain ⟨g0, g1, g2, g3, g4, g5, g6⟩ := g
  unfold a_put at h
  split at h
  · rename_i v a st hst
    rw [hst] at g2
    obtain ⟨u, r, sv, e1, hu, hr, g2⟩ := gst_cons2 g2
    split at h
    · rename_i hc
      obtain ⟨c1, c2, c3, c4, c5, c6, c7, c8, c9, c10⟩ := hc
      have hr := gv_ref hr c1
      subst hr
      cases h
      have hk4 : (HT a.2.1).1 < 4 := by omega
      obtain ⟨i1, i2, -⟩ := g5.1 a.2.1 hk4
      have i2' := i2
      unfold hsh at i2
      rw [c2] at i2
      obtain ⟨fs, i3, i4⟩ := i2
      rw [c3] at i3
      have hj : j < fs.length := by omega
      have t := tyK_ok g3 hu c5
      have s1 : hsh (HT a.2.1) (.inr (ci, fs.set j u)) := by
        unfold hsh
        rw [c2]
        exact ⟨fs.set j u, by rw [c3], by rw [List.length_set]; exact i4⟩
      have s2 : pm_slot (.inr (ci, fs.set j u)) j = some u := by
        show (fs.set j u)[j]? = _
        rw [List.getElem?_set_self hj]
      have s3 : ∀ i, i ≠ j → pm_slot (.inr (ci, fs.set j u)) i = pm_slot (cf.2.2.2 a.2.1) i := by
        intro i hi
        rw [i3]
        show (fs.set j u)[i]? = fs[i]?
        rw [List.getElem?_set_ne (fun e => hi e.symm)]
      have G5 := st_hI g5 hk4 s1 s2 s3 (stK_ok g3 hu c6 (Nat.le_refl j) (Nat.le_refl j)) (prK_ok c8 (Nat.le_refl j)) (yK_ok g3 g4 hu s2 s3 (Nat.le_refl j) (Nat.le_refl j) (fun i e => by cases e) c10)
      have G6 := st_fr g6 s3 (mdK_ok c7 (Nat.le_refl j) (Nat.le_refl j))
      have G4 := st_gf g4 s3 (Nat.le_refl j) (Nat.le_refl j)
      refine ⟨(cf.1 + 3, cf.2.1, sv, pm_u cf.2.2.2 a.2.1 (.inr (ci, fs.set j u))), ?_, _, List.mem_cons_self, ga0 ⟨hnx.symm, g1, g2, g3, ?_, G5, G6⟩⟩
      · unfold pi_put
        rw [e1]
        dsimp only
        rw [hL]
        show (pm_at? n cf.2.2.2 a.2.1).bind _ = _
        rw [show pm_at? n cf.2.2.2 a.2.1 = some (.inr (ci, fs)) from by unfold pm_at?; rw [if_pos i1, i3]]
        exact if_pos ⟨rfl, hj, rfl, t.1, t.2⟩
      · intro q hq
        rcases List.mem_cons.mp hq with rfl | hq
        · refine Or.inr ⟨by show j ≠ _; omega, j, u, Or.inl ⟨by show j < _; omega, rfl⟩, ?_, hu⟩
          show pm_slot (pm_u cf.2.2.2 a.2.1 _ a.2.1) j = _
          rw [show pm_u cf.2.2.2 a.2.1 (.inr (ci, fs.set j u)) a.2.1 = .inr (ci, fs.set j u) from by simp [pm_u]]
          exact s2
        · exact G4 q hq
    · cases h
  · cases h
end Ops3
