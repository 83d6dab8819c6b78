/-! arrays: reading, writing, length -/
def fA (b n : Nat) (cf : Cf) : Option Cf := match b with
  | 1 => pi_lld n cf
  | 9 => pi_qld n cf
  | t => pi_ald t n cf
def fS (b n : Nat) (cf : Cf) : Option Cf := match b with
  | 0 => pi_ast 0 n (fun z => z) cf
  | 1 => pi_lst n cf
  | 2 => pi_ast 2 n (vp_nar .char) cf
  | 3 => pi_ast 3 n (vp_nar .boolean) cf
  | _ => none
theorem ix_ok {i : Int32} {N : Nat} (h1 : 0 ≤ i.toInt) (h2 : i.toInt.toNat < N) : pm_ix i N = some i.toInt.toNat := by
  unfold pm_ix
  have h3 : ¬ i < 0 := by
    rw [Int32.lt_iff_toInt_lt, Int32.toInt_zero]
    omega
  rw [if_neg h3, if_pos (show i.toNatClampNeg < N from h2)]
  rfl
section Ops4
variable {HT : Nat → Hk} {RG : Nat → List Nat} {FK : Nat → Bool} {UN : Nat → Option Nat} {n : Nat} {md : Md} {h0 : Ph} {vs : List Int} {A : Ab} {cf : Cf}
theorem ar_ld {b k : Nat} {i : Int32} {u : Value} {sv : List Value} (g5 : hI HT RG n cf.2.2.2) (hf : arF b (HT k) = true) (h1 : 0 ≤ i.toInt) (h2 : i.toInt.toNat < (HT k).2.2.1) (hu : pm_slot (cf.2.2.2 k) i.toInt.toNat = some u) (e1 : cf.2.2.1 = .int i :: .ref k :: sv) : fA b n cf = some (cf.1 + 1, cf.2.1, u :: sv, cf.2.2.2) := by
  unfold arF at hf
  split at hf
  · show pi_lld n cf = _
    simp only [Bool.and_eq_true, beq_iff_eq] at hf
    obtain ⟨i1, i2, -⟩ := g5.1 k (by omega)
    unfold hsh at i2
    rw [hf.1] at i2
    obtain ⟨f, i3⟩ := i2
    rw [i3] at hu
    have hu : (if i.toInt.toNat < (HT k).2.2.1 then some (Value.long (f i.toInt.toNat)) else none) = some u := hu
    rw [if_pos h2] at hu
    cases hu
    unfold pi_lld
    rw [e1]
    dsimp only
    rw [show pm_at? n cf.2.2.2 k = some (.inl ((HT k).2.1, (HT k).2.2.1, .inr (.inl f))) from by unfold pm_at?; rw [if_pos i1, i3]]
    show (if (HT k).2.1 = 1 then (pm_ix i (HT k).2.2.1).map _ else none) = _
    rw [if_pos hf.2, ix_ok h1 h2]
    rfl
  · show pi_qld n cf = _
    simp only [Bool.and_eq_true, beq_iff_eq, Bool.or_eq_true] at hf
    obtain ⟨i1, i2, -⟩ := g5.1 k (by omega)
    unfold hsh at i2
    rw [hf.1] at i2
    obtain ⟨f, i3⟩ := i2
    rw [i3] at hu
    have hu : (if i.toInt.toNat < (HT k).2.2.1 then (f i.toInt.toNat).map Value.ref else none) = some u := hu
    rw [if_pos h2] at hu
    obtain ⟨r, hr, rfl⟩ := Option.map_eq_some_iff.mp hu
    unfold pi_qld
    rw [e1]
    dsimp only
    rw [show pm_at? n cf.2.2.2 k = some (.inl ((HT k).2.1, (HT k).2.2.1, .inr (.inr (.inr (.inr f))))) from by unfold pm_at?; rw [if_pos i1, i3]]
    show (if (HT k).2.1 = 4 ∨ (HT k).2.1 = 5 ∨ (HT k).2.1 = 6 then (pm_ix i (HT k).2.2.1).bind (fun j => (f j).map _) else none) = _
    rw [if_pos (by rcases hf.2 with (h | h) | h <;> simp [h]), ix_ok h1 h2]
    show (f i.toInt.toNat).map _ = _
    rw [hr]
    rfl
  · rename_i t n1 n9
    rw [show fA b n cf = pi_ald b n cf from by unfold fA; split <;> first | exact absurd rfl n1 | exact absurd rfl n9 | rfl]
    simp only [Bool.and_eq_true, beq_iff_eq] at hf
    obtain ⟨i1, i2, -⟩ := g5.1 k (by omega)
    unfold hsh at i2
    rw [hf.1] at i2
    obtain ⟨f, i3⟩ := i2
    rw [i3] at hu
    have hu : (if i.toInt.toNat < (HT k).2.2.1 then some (Value.int (f i.toInt.toNat)) else none) = some u := hu
    rw [if_pos h2] at hu
    cases hu
    unfold pi_ald
    rw [e1]
    dsimp only
    rw [show pm_at? n cf.2.2.2 k = some (.inl ((HT k).2.1, (HT k).2.2.1, .inl f)) from by unfold pm_at?; rw [if_pos i1, i3]]
    show (if (HT k).2.1 = b then (pm_ix i (HT k).2.2.1).map _ else none) = _
    rw [if_pos hf.2, ix_ok h1 h2]
    rfl
theorem mo_ix (h : n ≤ 1000) {b : Nat} {i : Int32} {sv : List Value} (e1 : cf.2.2.1 = .int i :: .ref 1000 :: sv) : pi_ald b n cf = none := by
  unfold pi_ald
  rw [e1]
  dsimp only
  rw [show pm_at? n cf.2.2.2 1000 = none from by unfold pm_at?; rw [if_neg (by omega)]]
  rfl
theorem moF_rg (j : Nat) : 4 ≤ (moF j).toInt ∧ (moF j).toInt ≤ 10 := by
  unfold moF
  split <;> decide
theorem a_ald_ok {b nx : Nat} {Bs : List Ab} (g : ga HT RG n md h0 vs A cf) (h : a_ald HT RG FK UN b nx A = some Bs) (hn : n ≤ 1000) (hU : ∀ r k0 k, UN r = some k0 → k ∈ RG r → HT k = HT k0) (hnx : nx = cf.1 + 1) : ∃ cf', (fA b n cf = some cf' ∨ (b = 0 ∧ pi_ald 0 n cf = none ∧ pi_mld cf = some cf')) ∧ ∃ B ∈ Bs, ∃ ws, ga HT RG n md h0 (vs ++ ws) B cf' := by
  obtain ⟨g0, g1, g2, g3, g4, g5, g6⟩ := g
  unfold a_ald at h
  split at h
  · rename_i i a st hst
    rw [hst] at g2
    obtain ⟨vi, va, sv, e1, hi, ha, g2⟩ := gst_cons2 g2
    split at h
    · rename_i ht
      obtain ⟨i', w, rfl, hw, hx⟩ := gv_int hi ht
      split at h
      · cases h
      · rename_i p hp
        have b1 := iv_ok g3 hp hw
        rw [← hx] at b1
        split at h
        · rename_i hp0
          split at h
          · rename_i ha2
            have hr := gv_ref ha ha2
            subst hr
            split at h
            · rename_i hM
              split at h
              · rename_i hb
                cases h
                rw [hM] at e1
                have hj : i'.toInt.toNat < 5 := by omega
                obtain ⟨ws, hga⟩ := pr_int (pc := nx) (x := moF i'.toInt.toNat) (r := if p.1 = p.2 then .inl (0, (moF p.1.toNat).toInt) else .inr (4, 10, 0, 0, 0)) g1 g2 g3 g4 g5 g6 (by
                  split
                  · rename_i hq
                    refine ⟨0, g3.2.1, ?_⟩
                    rw [show i'.toInt = p.1 from by omega]
                    exact (Int.zero_add _).symm
                  · exact ⟨(moF_rg _).1, (moF_rg _).2, Or.inl rfl⟩)
                refine ⟨(cf.1 + 1, cf.2.1, .int (moF i'.toInt.toNat) :: sv, cf.2.2.2), Or.inr ⟨hb.1, mo_ix hn e1, ?_⟩, _, List.mem_cons_self, ws, by rw [← hnx]; exact hga⟩
                unfold pi_mld
                rw [e1]
                dsimp only
                rw [if_pos rfl, ix_ok (by omega) hj]
                rfl
              · cases h
            · split at h
              · rename_i hc
                split at h
                · rename_i l hl
                  cases h
                  have hk4 : (HT a.2.1).1 < 4 := by
                    have := hc.1
                    unfold arF at this
                    split at this
                    · simp only [Bool.and_eq_true, beq_iff_eq] at this; omega
                    · simp only [Bool.and_eq_true, beq_iff_eq] at this; omega
                    · simp only [Bool.and_eq_true, beq_iff_eq] at this; omega
                  obtain ⟨u, hu, q, hq, ws, q1, q2, q3⟩ := lod_ok (j := i'.toInt.toNat) g3 g4 g5 hk4 (by omega) (by omega) (fun j' e => by
                    split at e
                    · rename_i hpp
                      cases e
                      exact Or.inl ⟨by omega, by omega⟩
                    · split at e
                      · rename_i h0
                        cases e
                        refine Or.inr ⟨by omega, ?_⟩
                        rw [Nat.add_sub_cancel_left, hw]
                        congr 1
                        omega
                      · cases e) hl
                  refine ⟨_, Or.inl (ar_ld g5 hc.1 (by omega) (by have := hc.2.1; omega) hu e1), _, List.mem_map.mpr ⟨q, hq, rfl⟩, ws, hnx.symm, gl_app _ g1, ⟨q3, gst_app _ g2⟩, q1, q2, g5, g6⟩
                · cases h
              · cases h
          · split at h
            · rename_i ha3
              obtain ⟨k, rfl, hk⟩ := gv_reg ha ha3
              split at h
              · cases h
              · rename_i k0 hU0
                have hHT := hU _ _ _ hU0 hk
                split at h
                · rename_i hc
                  split at h
                  · cases h
                  · rename_i kd hkd
                    obtain ⟨l, hl, rfl⟩ := Option.map_eq_some_iff.mp h
                    rw [← hHT] at hc hkd
                    obtain ⟨q, q1, q2, q3, rfl⟩ := hkf_mem hkd
                    obtain ⟨u, e2, e3⟩ := (g5.1 k hc.2.1).2.2 q q1 i'.toInt.toNat (by omega) (by omega)
                    obtain ⟨r, r1, ws, r2, r3⟩ := kld_ok g3 e3 hl
                    refine ⟨_, Or.inl (ar_ld g5 hc.1 (by omega) (by omega) e2 e1), _, List.mem_map.mpr ⟨r, r1, rfl⟩, ws, hnx.symm, gl_app _ g1, ⟨r3, gst_app _ g2⟩, r2, gf_app _ g4, g5, g6⟩
                · cases h
            · cases h
        · cases h
    · cases h
  · cases h
theorem nar_c {z : Int32} (h : 0 ≤ z.toInt ∧ z.toInt ≤ 65535) : vp_nar .char z = z := by
  have hv : gv (fun _ => []) [z.toInt] (0, 0, 0) (.int z) := ⟨rfl, z.toInt, rfl, (Int.add_zero _).symm⟩
  show z.toUInt32.toUInt16.toUInt32.toInt32 = z
  apply Int32.toInt_inj.mp
  obtain ⟨n1, n2⟩ := nn32 h.1
  have e : (z.toUInt32.toUInt16.toUInt32.toInt32).toBitVec.toNat = z.toBitVec.toNat := by
    show (z.toUInt32.toUInt16.toUInt32).toNat = _
    rw [UInt16.toNat_toUInt32, UInt32.toNat_toUInt16]
    show z.toBitVec.toNat % 65536 = _
    exact Nat.mod_eq_of_lt (by omega)
  rw [of32 (by omega), e, n1]
theorem nar_b {z : Int32} (h : 0 ≤ z.toInt ∧ z.toInt ≤ 1) : vp_nar .boolean z = z := by
  have : z = 0 ∨ z = 1 := by
    by_cases h0 : z.toInt = 0
    · exact Or.inl (Int32.toInt_inj.mp (by rw [h0]; rfl))
    · exact Or.inr (Int32.toInt_inj.mp (by rw [show Int32.toInt 1 = 1 from by decide]; omega))
  rcases this with rfl | rfl <;> decide
/-- a store: the new cell -/
theorem ar_st {b k : Nat} {i : Int32} {v : Av} {u : Value} {sv : List Value} (g3 : gs A.2.2.2.1 vs) (g5 : hI HT RG n cf.2.2.2) (hu : gv RG vs v u) (hf : arF b (HT k) = true) (hnr : nrK b A.2.2.2.1 v = true) (h1 : 0 ≤ i.toInt) (h2 : i.toInt.toNat < (HT k).2.2.1) (e1 : cf.2.2.1 = u :: .int i :: .ref k :: sv) : ∃ x', fS b n cf = some (cf.1 + 1, cf.2.1, sv, pm_u cf.2.2.2 k x') ∧ (HT k).1 < 4 ∧ hsh (HT k) x' ∧ pm_slot x' i.toInt.toNat = some u ∧ ∀ j, j ≠ i.toInt.toNat → pm_slot x' j = pm_slot (cf.2.2.2 k) j := by
  have keyI : ∀ (t : Nat) (nr : Int32 → Int32) (z : Int32), t ≠ 1 → (HT k).1 = 1 → (HT k).2.1 = t → u = .int z → nr z = z → ∃ x', pi_ast t n nr cf = some (cf.1 + 1, cf.2.1, sv, pm_u cf.2.2.2 k x') ∧ (HT k).1 < 4 ∧ hsh (HT k) x' ∧ pm_slot x' i.toInt.toNat = some u ∧ ∀ j, j ≠ i.toInt.toNat → pm_slot x' j = pm_slot (cf.2.2.2 k) j := by
    intro t nr z ht1 f1 f2 hz hn
    subst hz
    obtain ⟨i1, i2, -⟩ := g5.1 k (by omega)
    unfold hsh at i2
    rw [f1] at i2
    obtain ⟨f, i3⟩ := i2
    refine ⟨.inl ((HT k).2.1, (HT k).2.2.1, .inl (upd f i.toInt.toNat z)), ?_, by omega, ?_, ?_, ?_⟩
    · unfold pi_ast
      rw [e1]
      dsimp only
      rw [show pm_at? n cf.2.2.2 k = some (.inl ((HT k).2.1, (HT k).2.2.1, .inl f)) from by unfold pm_at?; rw [if_pos i1, i3]]
      show (if (HT k).2.1 = t then (pm_ix i (HT k).2.2.1).map _ else none) = _
      rw [if_pos f2, ix_ok h1 h2, ← f2]
      show some (_, _, _, pm_u _ _ (.inl (_, _, .inl (upd f _ (nr z))))) = _
      rw [hn]
    · unfold hsh
      rw [f1]
      exact ⟨_, rfl⟩
    · show (if i.toInt.toNat < (HT k).2.2.1 then some (Value.int (upd f i.toInt.toNat z i.toInt.toNat)) else none) = _
      rw [if_pos h2]
      simp [upd]
    · intro j hj
      rw [i3]
      show (if j < (HT k).2.2.1 then some (Value.int (upd f i.toInt.toNat z j)) else none) = (if j < (HT k).2.2.1 then some (Value.int (f j)) else none)
      rw [show upd f i.toInt.toNat z j = f j from if_neg hj]
  unfold nrK at hnr
  unfold fS
  split at hnr
  · obtain ⟨z, w, rfl, hw, hz⟩ := gv_int hu (by simpa using hnr)
    have hf : ((HT k).1 == 1 && (HT k).2.1 == 0) = true := hf
    simp only [Bool.and_eq_true, beq_iff_eq] at hf
    exact keyI 0 (fun z => z) z (by decide) hf.1 hf.2 rfl rfl
  · obtain ⟨z, w, rfl, hw, hz⟩ := gv_long hu (by simpa using hnr)
    have hf : ((HT k).1 == 2 && (HT k).2.1 == 1) = true := hf
    simp only [Bool.and_eq_true, beq_iff_eq] at hf
    obtain ⟨i1, i2, -⟩ := g5.1 k (by omega)
    unfold hsh at i2
    rw [hf.1] at i2
    obtain ⟨f, i3⟩ := i2
    refine ⟨.inl (1, (HT k).2.2.1, .inr (.inl (vp_updL f i.toInt.toNat z))), ?_, by omega, ?_, ?_, ?_⟩
    · unfold pi_lst
      rw [e1]
      dsimp only
      rw [show pm_at? n cf.2.2.2 k = some (.inl ((HT k).2.1, (HT k).2.2.1, .inr (.inl f))) from by unfold pm_at?; rw [if_pos i1, i3]]
      show (if (HT k).2.1 = 1 then (pm_ix i (HT k).2.2.1).map _ else none) = _
      rw [if_pos hf.2, ix_ok h1 h2]
      rfl
    · unfold hsh
      rw [hf.1]
      exact ⟨_, by rw [hf.2]⟩
    · show (if i.toInt.toNat < (HT k).2.2.1 then some (Value.long (vp_updL f i.toInt.toNat z i.toInt.toNat)) else none) = _
      rw [if_pos h2]
      simp [vp_updL]
    · intro j hj
      rw [i3]
      show (if j < (HT k).2.2.1 then some (Value.long (vp_updL f i.toInt.toNat z j)) else none) = (if j < (HT k).2.2.1 then some (Value.long (f j)) else none)
      rw [show vp_updL f i.toInt.toNat z j = f j from if_neg hj]
  · simp only [Bool.and_eq_true, beq_iff_eq] at hnr
    obtain ⟨z, w, rfl, hw, hz⟩ := gv_int hu hnr.1
    have hf : ((HT k).1 == 1 && (HT k).2.1 == 2) = true := hf
    simp only [Bool.and_eq_true, beq_iff_eq] at hf
    have := inI_ok g3 hnr.2 hw
    rw [← hz] at this
    exact keyI 2 (vp_nar .char) z (by decide) hf.1 hf.2 rfl (nar_c this)
  · simp only [Bool.and_eq_true, beq_iff_eq] at hnr
    obtain ⟨z, w, rfl, hw, hz⟩ := gv_int hu hnr.1
    have hf : ((HT k).1 == 1 && (HT k).2.1 == 3) = true := hf
    simp only [Bool.and_eq_true, beq_iff_eq] at hf
    have := inI_ok g3 hnr.2 hw
    rw [← hz] at this
    exact keyI 3 (vp_nar .boolean) z (by decide) hf.1 hf.2 rfl (nar_b this)
  · cases hnr
theorem fd_fold {vs : List Int} {h : Ph} {i1 i2 : Nat} : ∀ (ks : List Nat) (fa : Fa) (q : Nat × Nat × Av), q ∈ ks.foldl (fun f k => fdrop f k i1 i2) fa → q ∈ fa ∧ ∀ k ∈ ks, ¬ (q.1 = k ∧ (4294967295 ≤ q.2.1 ∨ (i1 ≤ q.2.1 ∧ q.2.1 ≤ i2)))
  | [], fa, q, hq => ⟨hq, fun k hk => by cases hk⟩
  | k0 :: ks, fa, q, hq => by
    obtain ⟨h1, h2⟩ := fd_fold (vs := vs) (h := h) ks (fdrop fa k0 i1 i2) q hq
    obtain ⟨h3, h4⟩ := List.mem_filter.mp h1
    refine ⟨h3, fun k hk => ?_⟩
    rcases List.mem_cons.mp hk with rfl | hk
    · intro ⟨q1, q2⟩
      simp only [q1, beq_self_eq_true, Bool.true_and, Bool.not_eq_true', Bool.or_eq_false_iff, decide_eq_false_iff_not, Bool.and_eq_false_imp, decide_eq_true_eq] at h4
      rcases q2 with q2 | q2
      · exact h4.1 q2
      · exact h4.2 q2.1 q2.2
    · exact h2 k hk
theorem a_ast_ok {b nx : Nat} {Bs : List Ab} (g : ga HT RG n md h0 vs A cf) (h : a_ast HT RG UN md b nx A = some Bs) (hU : ∀ r k0 k, UN r = some k0 → k ∈ RG r → HT k = HT k0) (hnx : nx = cf.1 + 1) : ∃ cf', fS b n cf = some cf' ∧ ∃ B ∈ Bs, ∃ ws, ga HT RG n md h0 (vs ++ ws) B cf' := by
  obtain ⟨g0, g1, g2, g3, g4, g5, g6⟩ := g
  unfold a_ast at h
  split at h
  · rename_i v i a st hst
    rw [hst] at g2
    obtain ⟨u, vi, va, sv, e1, hu, hi, ha, g2⟩ := gst_cons3 g2
    split at h
    · rename_i ht
      obtain ⟨i', w, rfl, hw, hx⟩ := gv_int hi ht.1
      split at h
      · cases h
      · rename_i p hp
        have b1 := iv_ok g3 hp hw
        rw [← hx] at b1
        split at h
        · rename_i hp0
          split at h
          · rename_i ha2
            have hr := gv_ref ha ha2
            subst hr
            split at h
            · rename_i hc
              obtain ⟨c1, c2, c3, c4, c5, c6, c7, c8⟩ := hc
              obtain ⟨x', q1, q2, q3, q4, q5⟩ := ar_st (A := A) g3 g5 hu c1 ht.2 (by omega) (by omega) e1
              have G5 := st_hI g5 q2 q3 q4 q5 (stK_ok g3 hu c3 (by omega) (by omega)) (prK_ok c5 (by omega)) (yK_ok g3 g4 hu q4 q5 (by omega) (by omega) (fun i0 e0 => by cases e0; exact ⟨w, hw, by omega⟩) c7)
              have G6 := st_fr g6 q5 (mdK_ok c4 (by omega) (by omega))
              have G4 := st_gf (i1 := p.1.toNat) (i2 := p.2.toNat) g4 q5 (by omega) (by omega)
              have hky : ∀ j', (if p.1 = p.2 then some p.1.toNat else if i.2.2 = 0 then some (4294967296 + i.2.1) else none) = some j' → sIx vs j' i'.toInt.toNat := fun j' e => by
                split at e
                · rename_i hpp
                  cases e
                  exact Or.inl ⟨by omega, by omega⟩
                · split at e
                  · rename_i h0
                    cases e
                    refine Or.inr ⟨by omega, ?_⟩
                    rw [Nat.add_sub_cancel_left, hw]
                    congr 1
                    omega
                  · cases e
              split at h
              · rename_i e hE
                cases h
                have hj30 : i'.toInt.toNat < 30 := by
                  have hko : a.2.1 = cKO ∧ HT cKO = kKO := by
                    unfold sumE at hE
                    split at hE
                    · rename_i hc
                      exact ⟨hc.1, isKO_ok hc.2⟩
                    · cases hE
                  have : (HT a.2.1).2.2.1 = 30 := by rw [hko.1, hko.2]; rfl
                  omega
                obtain ⟨hk1, hge⟩ := sumE_ok g3 g4 g5 G5 hu hky q4 q5 hj30 hE
                refine ⟨_, q1, _, List.mem_cons_self, [sumS (pm_u cf.2.2.2 a.2.1 x' a.2.1) 30], hnx.symm, gl_app _ g1, gst_app _ g2, gs_push g3 hge, ?_, G5, G6⟩
                intro q hq
                rcases List.mem_cons.mp hq with rfl | hq
                · refine Or.inl ⟨rfl, rfl, _, ix_new g3, ?_⟩
                  show smP a.2.1 (pm_u cf.2.2.2 a.2.1 x' a.2.1) (_ + 0)
                  unfold smP
                  rw [if_neg (by rw [hk1]; decide)]
                  exact (Int.add_zero _).symm
                · exact gf_app _ G4 q hq
              cases h
              refine ⟨_, q1, _, List.mem_cons_self, ga0 ⟨hnx.symm, g1, g2, g3, ?_, G5, G6⟩⟩
              dsimp only
              have G7 : gf RG vs (if p.1 = p.2 then (a.2.1, p.1.toNat, v) :: fdrop A.2.2.2.2 a.2.1 p.1.toNat p.2.toNat else fdrop A.2.2.2.2 a.2.1 p.1.toNat p.2.toNat) (pm_u cf.2.2.2 a.2.1 x') := by
                split
                · rename_i hpp
                  intro q hq
                  rcases List.mem_cons.mp hq with rfl | hq
                  · refine Or.inr ⟨by show p.1.toNat ≠ _; omega, p.1.toNat, u, Or.inl ⟨by show p.1.toNat < _; omega, rfl⟩, ?_, hu⟩
                    show pm_slot (pm_u cf.2.2.2 a.2.1 x' a.2.1) p.1.toNat = _
                    rw [show pm_u cf.2.2.2 a.2.1 x' a.2.1 = x' from by simp [pm_u], show p.1.toNat = i'.toInt.toNat from by omega]
                    exact q4
                  · exact G4 q hq
                · exact G4
              intro q hq
              rcases List.mem_append.mp hq with hq | hq
              · by_cases hcc : a.2.1 = cCO
                · rcases c8 hcc with c8 | c8
                  · exact nkF_ok g3 g4 hw (by omega) (by omega) (by omega) hu q4 q5 q hq
                  · exfalso
                    unfold nkF at hq
                    rw [c8] at hq
                    split at hq
                    · cases hq
                    · cases hq
                · exfalso
                  unfold nkF at hq
                  rw [if_neg (fun e => hcc e.1)] at hq
                  cases hq
              · exact G7 q hq
            · cases h
          · split at h
            · rename_i ha3
              obtain ⟨k, rfl, hk⟩ := gv_reg ha ha3
              split at h
              · cases h
              · rename_i k0 hU0
                have hHT := hU _ _ _ hU0 hk
                split at h
                · rename_i hc
                  rw [← hHT] at hc
                  obtain ⟨c1, c2, c3, c4⟩ := hc
                  cases h
                  obtain ⟨x', q1, q2, q3, q4, q5⟩ := ar_st (A := A) g3 g5 hu c1 ht.2 (by omega) (by omega) e1
                  have c5 := List.all_eq_true.mp c4 k hk
                  simp only [Bool.and_eq_true, Bool.not_eq_true'] at c5
                  obtain ⟨⟨c5a, c5b⟩, c5c⟩ := c5
                  have G5 := st_hI g5 q2 q3 q4 q5 (stK_ok g3 hu c3 (by omega) (by omega)) (prK_ok c5b (by omega)) (fun _ hy => yp_off q5 (prYK_ok c5c) hy)
                  have G6 := st_fr g6 q5 (mdK_ok c5a (by omega) (by omega))
                  refine ⟨_, q1, _, List.mem_cons_self, ga0 ⟨hnx.symm, g1, g2, g3, ?_, G5, G6⟩⟩
                  intro q hq
                  obtain ⟨z1, z2⟩ := fd_fold (vs := vs) (h := cf.2.2.2) _ _ q hq
                  have z3 := z2 k hk
                  by_cases hck : q.1 = k
                  · have hne : q.2.1 ≠ 4294967295 := fun e8 => z3 ⟨hck, Or.inl (by omega)⟩
                    obtain ⟨iz, vv, y0, y1, y2⟩ := gf1_v (g4 q z1) hne
                    refine Or.inr ⟨hne, iz, vv, y0, ?_, y2⟩
                    have e : pm_u cf.2.2.2 k x' q.1 = x' := by simp [pm_u, hck]
                    show pm_slot (pm_u cf.2.2.2 k x' q.1) iz = _
                    rw [e, q5 iz (fun e => z3 ⟨hck, by
                      rcases y0 with ⟨y3, y4⟩ | ⟨y3, -⟩
                      · right
                        omega
                      · exact Or.inl (by omega)⟩), ← hck]
                    exact y1
                  · have e : pm_u cf.2.2.2 k x' q.1 = cf.2.2.2 q.1 := by simp [pm_u, hck]
                    have := g4 q z1
                    unfold gf1 at this ⊢
                    show (_ ∧ _ ∧ ∃ w, _ ∧ smP q.1 (pm_u cf.2.2.2 k x' q.1) _) ∨ (_ ∧ ∃ i v, _ ∧ pm_slot (pm_u cf.2.2.2 k x' q.1) i = some v ∧ _)
                    rw [e]
                    exact this
                · cases h
            · cases h
        · cases h
    · cases h
  · cases h
theorem a_len_ok {nx : Nat} {Bs : List Ab} (g : ga HT RG n md h0 vs A cf) (h : a_len HT nx A = some Bs) (hn : n ≤ 1000) (hnx : nx = cf.1 + 1) : ∃ cf', pi_len n cf = some cf' ∧ ∃ B ∈ Bs, ∃ ws, ga HT RG n md h0 (vs ++ ws) B cf' := by
  obtain ⟨g0, g1, g2, g3, g4, g5, g6⟩ := g
  unfold a_len at h
  split at h
  · rename_i a st hst
    rw [hst] at g2
    obtain ⟨v, sv, e1, hv, g2⟩ := gst_cons g2
    split at h
    · rename_i ha2
      have hr := gv_ref hv ha2
      subst hr
      split at h
      · rename_i hM
        cases h
        rw [hM] at e1
        refine ⟨(cf.1 + 1, cf.2.1, .int 5 :: sv, cf.2.2.2), ?_, _, List.mem_cons_self, ga0 ⟨hnx.symm, g1, ⟨⟨rfl, 0, g3.2.1, by decide⟩, g2⟩, g3, g4, g5, g6⟩⟩
        unfold pi_len
        rw [e1]
        dsimp only
        rw [if_neg (show ¬ 1000 < n by omega), if_pos rfl]
      · split at h
        · rename_i hc
          obtain ⟨c1, c2, c3, c4⟩ := hc
          cases h
          obtain ⟨i1, i2, -⟩ := g5.1 a.2.1 c2
          have hN : pm_N (cf.2.2.2 a.2.1) = some (HT a.2.1).2.2.1 := by
            unfold hsh at i2
            split at i2
            · omega
            · obtain ⟨f, i3⟩ := i2
              rw [i3]
              exact if_pos c3
            · obtain ⟨f, i3⟩ := i2
              rw [i3]
              exact if_pos c3
            · obtain ⟨f, i3⟩ := i2
              rw [i3]
              exact if_pos c3
            · exact False.elim i2
          have ez : (Int32.ofNat (HT a.2.1).2.2.1).toInt = ((HT a.2.1).2.2.1 : Int) := Int32.toInt_ofNat_of_lt (by omega)
          refine ⟨(cf.1 + 1, cf.2.1, .int (Int32.ofNat (HT a.2.1).2.2.1) :: sv, cf.2.2.2), ?_, _, List.mem_cons_self, ga0 ⟨hnx.symm, g1, ⟨⟨rfl, 0, g3.2.1, by rw [ez]; exact (Int.zero_add _).symm⟩, g2⟩, g3, g4, g5, g6⟩⟩
          unfold pi_len
          rw [e1]
          dsimp only
          rw [if_pos i1, hN]
          rfl
        · cases h
    · cases h
  · cases h
end Ops4
