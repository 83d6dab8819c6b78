/-! one instruction over what is known -/
abbrev Op0 : Type := Nat × Nat × Nat × Int × Nat × List Nat
def fI (b : Nat) : Int32 → Int32 → Option Int32 := match b with
  | 0 => fun x y => some (x + y)
  | 1 => fun x y => some (x - y)
  | 2 => fun x y => some (x * y)
  | 3 => fun x y => some (x &&& y)
  | 4 => fun x y => some (x ||| y)
  | 5 => fun x y => some (x ^^^ y)
  | 6 => fun x y => some (x <<< (y &&& 31))
  | 7 => fun x y => some (x >>> (y &&& 31))
  | 8 => fun x y => some ((x.toUInt32 >>> (y.toUInt32 &&& Int32.toUInt32 31)).toInt32)
  | 9 => fun x y => if y = 0 then none else some (x / y)
  | _ => fun x y => if y = 0 then none else some (x - x / y * y)
def tI (b : Nat) : Sy → Av → Av → Option Rs := match b with
  | 0 => t_add
  | 1 => t_sub
  | 2 => t_mul
  | 3 => t_and
  | 4 => t_or
  | 5 => t_xor
  | 6 => t_shl
  | 7 => t_shr
  | 8 => t_top
  | 9 => t_div
  | _ => t_rem
theorem tI_ok (b : Nat) : tOK (tI b) (fI b) := by
  unfold tI fI
  split
  · exact t_add_ok
  · exact t_sub_ok
  · exact t_mul_ok
  · exact t_and_ok
  · exact t_or_ok
  · exact t_xor_ok
  · exact t_shl_ok
  · exact t_shr_ok
  · exact t_top_ok
  · exact t_div_ok
  · exact t_rem_ok
def fL (b : Nat) : Int64 → Int64 → Option Int64 := match b with
  | 0 => fun x y => some (x + y)
  | 1 => fun x y => some (x - y)
  | 2 => fun x y => some (x * y)
  | 3 => fun x y => some (x &&& y)
  | 4 => fun x y => some (x ||| y)
  | 5 => fun x y => some (x ^^^ y)
  | 6 => fun x y => if y = 0 then none else some (x / y)
  | _ => fun x y => if y = 0 then none else some (x - x / y * y)
def fLi (b : Nat) : Int64 → Int32 → Int64 := match b with
  | 0 => fun x y => x <<< (y.toInt64 &&& 63)
  | 1 => fun x y => x >>> (y.toInt64 &&& 63)
  | _ => fun x y => (x.toUInt64 >>> (y.toInt64.toUInt64 &&& Int64.toUInt64 63)).toInt64
theorem fL_ok {b : Nat} (h : b < 6) (x y : Int64) : ∃ z, fL b x y = some z := by
  have : b = 0 ∨ b = 1 ∨ b = 2 ∨ b = 3 ∨ b = 4 ∨ b = 5 := by omega
  rcases this with rfl | rfl | rfl | rfl | rfl | rfl <;> exact ⟨_, rfl⟩
theorem fL_ok2 {b : Nat} {x y : Int64} (h : ¬ y = 0) : ∃ z, fL b x y = some z := by
  unfold fL
  split <;> first | exact ⟨_, rfl⟩ | exact ⟨_, if_neg h⟩
section Ops
variable (HT : Nat → Hk) (RG : Nat → List Nat) (FK : Nat → Bool) (UN : Nat → Option Nat) (n : Nat) (md : Md)
def a_ii (b nx : Nat) (A : Ab) : Option (List Ab) := match A.2.2.1 with
  | y :: x :: st => if x.1 = 0 ∧ y.1 = 0 then (match tI b A.2.2.2.1 x y with
    | some r => some [pr nx A.2.1 st A.2.2.2.1 A.2.2.2.2 0 r]
    | none => none) else none
  | _ => none
def m13 (A : Ab) (st : List Av) (y : Av) (nx : Nat) : Nat → Int → List Ab
  | 0, _ => []
  | f + 1, v => (match rcq 0 A.2.2.2.1 y.2.1 0 y.2.2 v with
    | some sy => [(nx, A.2.1, (0, 0, 13 * v) :: st, sy, A.2.2.2.2)]
    | none => []) ++ m13 A st y nx f (v + 1)
def a_mul (nx : Nat) (A : Ab) : Option (List Ab) := match A.2.2.1 with
  | y :: x :: st => if x.1 = 0 ∧ y.1 = 0 ∧ iv A.2.2.2.1 x.2.1 x.2.2 = some (13, 13) then (match iv A.2.2.2.1 y.2.1 y.2.2 with
    | some q => if 0 ≤ q.1 ∧ q.2 - q.1 ≤ 20 ∧ q.2 ≤ 1000 then some (m13 A st y nx (q.2 - q.1 + 1).toNat q.1) else a_ii 2 nx A
    | none => none) else a_ii 2 nx A
  | _ => none
def a_ll (b nx : Nat) (A : Ab) : Option (List Ab) := match A.2.2.1 with
  | y :: x :: st => if x.1 = 1 ∧ y.1 = 1 then (if b < 6 then some [pr nx A.2.1 st A.2.2.2.1 A.2.2.2.2 1 (.inr tp64)] else match iv A.2.2.2.1 y.2.1 y.2.2 with
    | some q => if nz q = true then some [pr nx A.2.1 st A.2.2.2.1 A.2.2.2.2 1 (.inr tp64)] else none
    | none => none) else none
  | _ => none
def a_li (nx : Nat) (A : Ab) : Option (List Ab) := match A.2.2.1 with
  | y :: x :: st => if x.1 = 1 ∧ y.1 = 0 then some [pr nx A.2.1 st A.2.2.2.1 A.2.2.2.2 1 (.inr tp64)] else none
  | _ => none
def fU (b : Nat) (x : Int32) : Value := match b with
  | 0 => .int (-x)
  | 1 => .long x.toInt64
  | 2 => .int x.toInt8.toInt32
  | _ => .int (x.toUInt32 % 65536).toInt32
def a_u (b nx : Nat) (A : Ab) : Option (List Ab) := match A.2.2.1 with
  | x :: st => if x.1 = 0 then (match b with
    | 0 => some [pr nx A.2.1 st A.2.2.2.1 A.2.2.2.2 0 (.inr tp32)]
    | 1 => some [(nx, A.2.1, (1, x.2.1, x.2.2) :: st, A.2.2.2)]
    | 2 => some [pr nx A.2.1 st A.2.2.2.1 A.2.2.2.2 0 (.inr tp32)]
    | _ => some [pr nx A.2.1 st A.2.2.2.1 A.2.2.2.2 0 (if inI A.2.2.2.1 0 65535 x = true then .inl (x.2.1, x.2.2) else .inr (0, 65535, 0, 0, 0))]) else none
  | _ => none
def a_l2i (nx : Nat) (A : Ab) : Option (List Ab) := match A.2.2.1 with
  | x :: st => if x.1 = 1 then some [pr nx A.2.1 st A.2.2.2.1 A.2.2.2.2 0 (if inI A.2.2.2.1 (-2147483648) 2147483647 x = true then .inl (x.2.1, x.2.2) else .inr tp32)] else none
  | _ => none
def a_lc (nx : Nat) (A : Ab) : Option (List Ab) := match A.2.2.1 with
  | y :: x :: st => if x.1 = 1 ∧ y.1 = 1 then some [pr nx A.2.1 st A.2.2.2.1 A.2.2.2.2 0 (.inr (-1, 1, 0, 0, 0))] else none
  | _ => none
variable {HT RG FK UN n md} {h0 : Ph} {vs : List Int} {A : Ab} {cf : Cf}
theorem a_ii_ok {b nx : Nat} {Bs : List Ab} (g : ga HT RG n md h0 vs A cf) (h : a_ii b nx A = some Bs) (hnx : nx = cf.1 + 1) : ∃ cf', pi_ii (fI b) cf = some cf' ∧ ∃ B ∈ Bs, ∃ ws, ga HT RG n md h0 (vs ++ ws) B cf' := by
  obtain ⟨g0, g1, g2, g3, g4, g5, g6⟩ := g
  unfold a_ii at h
  split at h
  · rename_i y x st hst
    rw [hst] at g2
    obtain ⟨vy, vx, sv, e1, hy, hx, g2⟩ := gst_cons2 g2
    split at h
    · rename_i ht
      obtain ⟨x', wx, rfl, hx1, hx2⟩ := gv_int hx ht.1
      obtain ⟨y', wy, rfl, hy1, hy2⟩ := gv_int hy ht.2
      split at h
      · rename_i r hr
        cases h
        obtain ⟨z, hz, hgr⟩ := tI_ok b _ vs x y r x' y' wx wy g3 hr hx1 hy1 hx2 hy2
        obtain ⟨ws, hga⟩ := pr_int (pc := nx) g1 g2 g3 g4 g5 g6 hgr
        refine ⟨(cf.1 + 1, cf.2.1, .int z :: sv, cf.2.2.2), ?_, _, List.mem_cons_self, ws, by rw [← hnx]; exact hga⟩
        unfold pi_ii
        rw [e1]
        dsimp only
        rw [hz]
        rfl
      · cases h
    · cases h
  · cases h
theorem m13_mem {st : List Av} {y : Av} {nx : Nat} : ∀ (f : Nat) (v w : Int) (sy' : Sy), v ≤ w → w < v + f → rcq 0 A.2.2.2.1 y.2.1 0 y.2.2 w = some sy' → (nx, A.2.1, (0, 0, 13 * w) :: st, sy', A.2.2.2.2) ∈ m13 A st y nx f v
  | 0, v, w, sy', h1, h2, _ => by omega
  | f + 1, v, w, sy', h1, h2, h => by
    unfold m13
    by_cases e : v = w
    · subst e
      rw [h]
      exact List.mem_append_left _ List.mem_cons_self
    · exact List.mem_append_right _ (m13_mem f (v + 1) w sy' (by omega) (by omega) h)
theorem a_mul_ok {nx : Nat} {Bs : List Ab} (g : ga HT RG n md h0 vs A cf) (h : a_mul nx A = some Bs) (hnx : nx = cf.1 + 1) : ∃ cf', pi_ii (fI 2) cf = some cf' ∧ ∃ B ∈ Bs, ∃ ws, ga HT RG n md h0 (vs ++ ws) B cf' := by
  have g' := g
  obtain ⟨g0, g1, g2, g3, g4, g5, g6⟩ := g
  unfold a_mul at h
  split at h
  · rename_i y x st hst
    rw [hst] at g2
    obtain ⟨vy, vx, sv, e1, hy, hx, g2⟩ := gst_cons2 g2
    split at h
    · rename_i hc
      obtain ⟨c1, c2, c3⟩ := hc
      split at h
      · rename_i q hq
        split at h
        · rename_i hr
          cases h
          obtain ⟨x', wx, rfl, hx1, hx2⟩ := gv_int hx c1
          obtain ⟨y', wy, rfl, hy1, hy2⟩ := gv_int hy c2
          have b1 := iv_ok g3 c3 hx1
          have b2 := iv_ok g3 hq hy1
          dsimp only at b1
          have ex : x'.toInt = 13 := by omega
          have em : (x' * y').toInt = 13 * y'.toInt := by
            rw [Int32.toInt_mul, ex]
            exact bm32 (by omega) (by omega)
          obtain ⟨sy', s1, s2⟩ := rcq_ok (q := 0) (x := y') (y := y') (c := y.2.2) (d := y'.toInt) g3 hy1 g3.2.1 hy2 (Int.zero_add _).symm (by simp [ccq, pm_c])
          refine ⟨(cf.1 + 1, cf.2.1, .int (x' * y') :: sv, cf.2.2.2), ?_, _, m13_mem _ q.1 y'.toInt sy' (by omega) (by omega) s1, [], ?_⟩
          · unfold pi_ii
            rw [e1]
            rfl
          · rw [List.append_nil]
            exact ⟨hnx.symm, g1, ⟨⟨rfl, 0, g3.2.1, by rw [em]; exact (Int.zero_add _).symm⟩, g2⟩, s2, g4, g5, g6⟩
        · exact a_ii_ok g' h hnx
      · cases h
    · exact a_ii_ok g' h hnx
  · cases h
theorem a_ll_ok {b nx : Nat} {Bs : List Ab} (g : ga HT RG n md h0 vs A cf) (h : a_ll b nx A = some Bs) (hnx : nx = cf.1 + 1) : ∃ cf', pi_ll (fL b) cf = some cf' ∧ ∃ B ∈ Bs, ∃ ws, ga HT RG n md h0 (vs ++ ws) B cf' := by
  obtain ⟨g0, g1, g2, g3, g4, g5, g6⟩ := g
  unfold a_ll at h
  split at h
  · rename_i y x st hst
    rw [hst] at g2
    obtain ⟨vy, vx, sv, e1, hy, hx, g2⟩ := gst_cons2 g2
    split at h
    · rename_i ht
      obtain ⟨x', wx, rfl, hx1, hx2⟩ := gv_long hx ht.1
      obtain ⟨y', wy, rfl, hy1, hy2⟩ := gv_long hy ht.2
      have key : ∀ z, fL b x' y' = some z → Bs = [pr nx A.2.1 st A.2.2.2.1 A.2.2.2.2 1 (.inr tp64)] → ∃ cf', pi_ll (fL b) cf = some cf' ∧ ∃ B ∈ Bs, ∃ ws, ga HT RG n md h0 (vs ++ ws) B cf' := by
        intro z hz hB
        subst hB
        obtain ⟨ws, hga⟩ := pr_long (pc := nx) g1 g2 g3 g4 g5 g6 (gr_tpL z)
        refine ⟨(cf.1 + 1, cf.2.1, .long z :: sv, cf.2.2.2), ?_, _, List.mem_cons_self, ws, by rw [← hnx]; exact hga⟩
        unfold pi_ll
        rw [e1]
        dsimp only
        rw [hz]
        rfl
      split at h
      · rename_i hb
        obtain ⟨z, hz⟩ := fL_ok hb x' y'
        exact key z hz (Option.some.inj h).symm
      · split at h
        · rename_i q hq
          split at h
          · rename_i hn
            have := iv_ok g3 hq hy1
            rw [← hy2] at this
            obtain ⟨z, hz⟩ := fL_ok2 (b := b) (x := x') (ne0L hn this.1 this.2)
            exact key z hz (Option.some.inj h).symm
          · cases h
        · cases h
    · cases h
  · cases h
theorem a_li_ok {b nx : Nat} {Bs : List Ab} (g : ga HT RG n md h0 vs A cf) (h : a_li nx A = some Bs) (hnx : nx = cf.1 + 1) : ∃ cf', pi_li (fLi b) cf = some cf' ∧ ∃ B ∈ Bs, ∃ ws, ga HT RG n md h0 (vs ++ ws) B cf' := by
  obtain ⟨g0, g1, g2, g3, g4, g5, g6⟩ := g
  unfold a_li at h
  split at h
  · rename_i y x st hst
    rw [hst] at g2
    obtain ⟨vy, vx, sv, e1, hy, hx, g2⟩ := gst_cons2 g2
    split at h
    · rename_i ht
      obtain ⟨x', wx, rfl, hx1, hx2⟩ := gv_long hx ht.1
      obtain ⟨y', wy, rfl, hy1, hy2⟩ := gv_int hy ht.2
      cases h
      obtain ⟨ws, hga⟩ := pr_long (pc := nx) g1 g2 g3 g4 g5 g6 (gr_tpL (fLi b x' y'))
      refine ⟨(cf.1 + 1, cf.2.1, .long (fLi b x' y') :: sv, cf.2.2.2), ?_, _, List.mem_cons_self, ws, by rw [← hnx]; exact hga⟩
      unfold pi_li
      rw [e1]
    · cases h
  · cases h
theorem i2c_ok {x : Int32} (h : 0 ≤ x.toInt ∧ x.toInt ≤ 65535) : (x.toUInt32 % 65536).toInt32 = x := by
  apply Int32.toInt_inj.mp
  obtain ⟨n1, n2⟩ := nn32 h.1
  have e : (x.toUInt32 % 65536).toInt32.toBitVec.toNat = x.toBitVec.toNat := by
    show (x.toBitVec % 65536#32).toNat = _
    rw [BitVec.toNat_umod]
    exact Nat.mod_eq_of_lt (by show _ < 65536; omega)
  rw [of32 (by omega), e, n1]
theorem i2c_rg (x : Int32) : 0 ≤ (x.toUInt32 % 65536).toInt32.toInt ∧ (x.toUInt32 % 65536).toInt32.toInt ≤ 65535 := by
  have e : (x.toUInt32 % 65536).toInt32.toBitVec.toNat < 65536 := by
    show (x.toBitVec % 65536#32).toNat < _
    rw [BitVec.toNat_umod]
    exact Nat.mod_lt _ (by decide)
  rw [of32 (by omega)]
  omega
theorem a_u_ok {b nx : Nat} {Bs : List Ab} (g : ga HT RG n md h0 vs A cf) (h : a_u b nx A = some Bs) (hnx : nx = cf.1 + 1) : ∃ cf', pi_i (fU b) cf = some cf' ∧ ∃ B ∈ Bs, ∃ ws, ga HT RG n md h0 (vs ++ ws) B cf' := by
  obtain ⟨g0, g1, g2, g3, g4, g5, g6⟩ := g
  unfold a_u at h
  split at h
  · rename_i x st hst
    rw [hst] at g2
    obtain ⟨vx, sv, e1, hx, g2⟩ := gst_cons g2
    split at h
    · rename_i ht
      obtain ⟨x', wx, rfl, hx1, hx2⟩ := gv_int hx ht
      refine ⟨(cf.1 + 1, cf.2.1, fU b x' :: sv, cf.2.2.2), by unfold pi_i; rw [e1], ?_⟩
      rw [← hnx]
      unfold fU
      split at h
      · cases h
        obtain ⟨ws, hga⟩ := pr_int (pc := nx) g1 g2 g3 g4 g5 g6 (gr_tp (-x'))
        exact ⟨_, List.mem_cons_self, ws, hga⟩
      · cases h
        exact ⟨_, List.mem_cons_self, [], by rw [List.append_nil]; exact ⟨rfl, g1, ⟨⟨rfl, wx, hx1, by rw [Int32.toInt_toInt64]; exact hx2⟩, g2⟩, g3, g4, g5, g6⟩⟩
      · cases h
        obtain ⟨ws, hga⟩ := pr_int (pc := nx) g1 g2 g3 g4 g5 g6 (gr_tp x'.toInt8.toInt32)
        exact ⟨_, List.mem_cons_self, ws, hga⟩
      · cases h
        obtain ⟨ws, hga⟩ := pr_int (pc := nx) (x := (x'.toUInt32 % 65536).toInt32) (r := if inI A.2.2.2.1 0 65535 x = true then .inl (x.2.1, x.2.2) else .inr (0, 65535, 0, 0, 0)) g1 g2 g3 g4 g5 g6 (by
          split
          · rename_i hi
            have := inI_ok g3 hi hx1
            rw [← hx2] at this
            rw [i2c_ok this]
            exact ⟨wx, hx1, hx2⟩
          · exact ⟨(i2c_rg x').1, (i2c_rg x').2, Or.inl rfl⟩)
        exact ⟨_, List.mem_cons_self, ws, hga⟩
    · cases h
  · cases h
theorem a_l2i_ok {nx : Nat} {Bs : List Ab} (g : ga HT RG n md h0 vs A cf) (h : a_l2i nx A = some Bs) (hnx : nx = cf.1 + 1) : ∃ cf', pi_l (fun x => .int x.toInt32) cf = some cf' ∧ ∃ B ∈ Bs, ∃ ws, ga HT RG n md h0 (vs ++ ws) B cf' := by
  obtain ⟨g0, g1, g2, g3, g4, g5, g6⟩ := g
  unfold a_l2i at h
  split at h
  · rename_i x st hst
    rw [hst] at g2
    obtain ⟨vx, sv, e1, hx, g2⟩ := gst_cons g2
    split at h
    · rename_i ht
      obtain ⟨x', wx, rfl, hx1, hx2⟩ := gv_long hx ht
      refine ⟨(cf.1 + 1, cf.2.1, .int x'.toInt32 :: sv, cf.2.2.2), by unfold pi_l; rw [e1], ?_⟩
      rw [← hnx]
      cases h
      obtain ⟨ws, hga⟩ := pr_int (pc := nx) (x := x'.toInt32) (r := if inI A.2.2.2.1 (-2147483648) 2147483647 x = true then .inl (x.2.1, x.2.2) else .inr tp32) g1 g2 g3 g4 g5 g6 (by
        split
        · rename_i hi
          have := inI_ok g3 hi hx1
          rw [Int64.toInt_toInt32, hx2, bm32 this.1 this.2]
          exact ⟨wx, hx1, rfl⟩
        · exact gr_tp _)
      exact ⟨_, List.mem_cons_self, ws, hga⟩
    · cases h
  · cases h
theorem a_lc_ok {nx : Nat} {Bs : List Ab} (g : ga HT RG n md h0 vs A cf) (h : a_lc nx A = some Bs) (hnx : nx = cf.1 + 1) : ∃ cf', pi_lc cf = some cf' ∧ ∃ B ∈ Bs, ∃ ws, ga HT RG n md h0 (vs ++ ws) B cf' := by
  obtain ⟨g0, g1, g2, g3, g4, g5, g6⟩ := g
  unfold a_lc at h
  split at h
  · rename_i y x st hst
    rw [hst] at g2
    obtain ⟨vy, vx, sv, e1, hy, hx, g2⟩ := gst_cons2 g2
    split at h
    · rename_i ht
      obtain ⟨x', wx, rfl, hx1, hx2⟩ := gv_long hx ht.1
      obtain ⟨y', wy, rfl, hy1, hy2⟩ := gv_long hy ht.2
      cases h
      have hr : gr vs (.inr (-1, 1, 0, 0, 0)) (lg_cmp x' y').toInt := by
        unfold lg_cmp
        split
        · exact ⟨by decide, by decide, Or.inl rfl⟩
        · split
          · exact ⟨by decide, by decide, Or.inl rfl⟩
          · exact ⟨by decide, by decide, Or.inl rfl⟩
      obtain ⟨ws, hga⟩ := pr_int (pc := nx) g1 g2 g3 g4 g5 g6 hr
      refine ⟨(cf.1 + 1, cf.2.1, .int (lg_cmp x' y') :: sv, cf.2.2.2), ?_, _, List.mem_cons_self, ws, by rw [← hnx]; exact hga⟩
      unfold pi_lc
      rw [e1]
    · cases h
  · cases h
end Ops
