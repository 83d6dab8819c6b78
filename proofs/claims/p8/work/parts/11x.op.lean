/-! locals, stack, constants, branches -/
section Ops2
def a_k (a : Av) (nx : Nat) (A : Ab) : Option (List Ab) := some [(nx, A.2.1, a :: A.2.2.1, A.2.2.2)]
def kdA (b : Nat) (a : Av) : Bool := match b with
  | 0 => a.1 == 0
  | 1 => a.1 == 1
  | _ => a.1 == 2 || a.1 == 3
def kdV (b : Nat) (v : Value) : Bool := match b with
  | 0 => pm_isI v
  | 1 => pm_isL v
  | _ => pm_isR v
def a_ld (b i nx : Nat) (A : Ab) : Option (List Ab) := match lkA A.2.1 i with
  | some a => if kdA b a = true then some [(nx, A.2.1, a :: A.2.2.1, A.2.2.2)] else none
  | none => none
def a_st (b i nx : Nat) (A : Ab) : Option (List Ab) := match A.2.2.1 with
  | a :: st => if kdA b a = true then some [(nx, (if b = 1 then sA2 A.2.1 i a else sA1 A.2.1 i a), st, A.2.2.2)] else none
  | [] => none
def a_inc (i : Nat) (z : Int) (nx : Nat) (A : Ab) : Option (List Ab) := match lkA A.2.1 i with
  | some a => if a.1 = 0 then (match t_add A.2.2.2.1 a (0, 0, z) with
    | some (.inl q) => some [(nx, sA1 A.2.1 i (0, q.1, q.2), A.2.2.1, A.2.2.2)]
    | some (.inr e) => some [(nx, sA1 A.2.1 i (0, A.2.2.2.1.length, 0), A.2.2.1, A.2.2.2.1 ++ [e], A.2.2.2.2)]
    | none => none) else none
  | none => none
def a_dup (nx : Nat) (A : Ab) : Option (List Ab) := match A.2.2.1 with
  | a :: st => if a.1 = 1 then none else some [(nx, A.2.1, a :: a :: st, A.2.2.2)]
  | [] => none
def a_pop (nx : Nat) (A : Ab) : Option (List Ab) := match A.2.2.1 with
  | a :: st => if a.1 = 1 then none else some [(nx, A.2.1, st, A.2.2.2)]
  | [] => none
def a_dup2 (nx : Nat) (A : Ab) : Option (List Ab) := match A.2.2.1 with
  | a :: b :: st => if a.1 = 1 ∨ b.1 = 1 then none else some [(nx, A.2.1, a :: b :: a :: b :: st, A.2.2.2)]
  | _ => none
def a_go (t : Nat) (A : Ab) : Option (List Ab) := some [(t, A.2)]
def toS (A : Ab) (st : List Av) (t : Nat) (o : Option Sy) : List Ab := match o with
  | some sy => [(t, A.2.1, st, sy, A.2.2.2.2)]
  | none => []
def a_if (q t nx : Nat) (A : Ab) : Option (List Ab) := match A.2.2.1 with
  | x :: st => if x.1 = 0 then some (toS A st t (rcq q A.2.2.2.1 x.2.1 0 x.2.2 0) ++ toS A st nx (rcq (cng q) A.2.2.2.1 x.2.1 0 x.2.2 0)) else none
  | _ => none
def a_icmp (q t nx : Nat) (A : Ab) : Option (List Ab) := match A.2.2.1 with
  | y :: x :: st => if x.1 = 0 ∧ y.1 = 0 then some (toS A st t (rcq q A.2.2.2.1 x.2.1 y.2.1 x.2.2 y.2.2) ++ toS A st nx (rcq (cng q) A.2.2.2.1 x.2.1 y.2.1 x.2.2 y.2.2)) else none
  | _ => none
def swt (A : Ab) (st : List Av) (x : Av) : Int → List Nat → List Ab
  | _, [] => []
  | z, t :: ts => toS A st t (rcq 0 A.2.2.2.1 x.2.1 0 x.2.2 z) ++ swt A st x (z + 1) ts
def a_sw (lo : Int) (ts : List Nat) (d : Nat) (A : Ab) : Option (List Ab) := match A.2.2.1 with
  | x :: st => if x.1 = 0 then some (toS A st d (rle A.2.2.2.1 x.2.1 0 x.2.2 (lo - 1)) ++ toS A st d (rle A.2.2.2.1 0 x.2.1 (lo + ts.length) x.2.2) ++ swt A st x lo ts) else none
  | _ => none
variable {HT : Nat → Hk} {RG : Nat → List Nat} {n : Nat} {md : Md} {h0 : Ph} {vs : List Int} {A : Ab} {cf : Cf}
theorem ga0 {B : Ab} {c : Cf} (h : ga HT RG n md h0 vs B c) : ∃ ws, ga HT RG n md h0 (vs ++ ws) B c := ⟨[], by rw [List.append_nil]; exact h⟩
theorem a_k_ok {a : Av} {nx len : Nat} {v : Value} {Bs : List Ab} (g : ga HT RG n md h0 vs A cf) (h : a_k a nx A = some Bs) (hnx : nx = cf.1 + len) (hv : gv RG vs a v) : ∃ cf', pi_k v len cf = some cf' ∧ ∃ B ∈ Bs, ∃ ws, ga HT RG n md h0 (vs ++ ws) B cf' := by
  obtain ⟨g0, g1, g2, g3, g4, g5, g6⟩ := g
  cases h
  exact ⟨_, rfl, _, List.mem_cons_self, ga0 ⟨hnx.symm, g1, ⟨hv, g2⟩, g3, g4, g5, g6⟩⟩
theorem kdA_ok {b : Nat} {a : Av} {v : Value} (h : kdA b a = true) (hv : gv RG vs a v) : kdV b v = true := by
  unfold kdA at h
  unfold kdV
  split at h
  · simp only [beq_iff_eq] at h
    obtain ⟨x, w, rfl, -⟩ := gv_int hv h
    rfl
  · simp only [beq_iff_eq] at h
    obtain ⟨x, w, rfl, -⟩ := gv_long hv h
    rfl
  · simp only [Bool.or_eq_true, beq_iff_eq] at h
    rcases h with h | h
    · have := gv_ref hv h
      subst this
      rfl
    · obtain ⟨k, rfl, -⟩ := gv_reg hv h
      rfl
theorem a_ld_ok {b i nx len : Nat} {Bs : List Ab} (g : ga HT RG n md h0 vs A cf) (h : a_ld b i nx A = some Bs) (hnx : nx = cf.1 + len) : ∃ cf', pi_ld (kdV b) i len cf = some cf' ∧ ∃ B ∈ Bs, ∃ ws, ga HT RG n md h0 (vs ++ ws) B cf' := by
  obtain ⟨g0, g1, g2, g3, g4, g5, g6⟩ := g
  unfold a_ld at h
  split at h
  · rename_i a ha
    split at h
    · rename_i hk
      cases h
      obtain ⟨v, e1, e2⟩ := g1 _ (lkA_mem ha)
      refine ⟨(cf.1 + len, cf.2.1, v :: cf.2.2.1, cf.2.2.2), ?_, _, List.mem_cons_self, ga0 ⟨hnx.symm, g1, ⟨e2, g2⟩, g3, g4, g5, g6⟩⟩
      unfold pi_ld
      rw [e1]
      show (if kdV b v = true then _ else _) = _
      rw [if_pos (kdA_ok hk e2)]
    · cases h
  · cases h
theorem a_st1_ok {b i nx len nL : Nat} {Bs : List Ab} (g : ga HT RG n md h0 vs A cf) (h : a_st b i nx A = some Bs) (hb : b ≠ 1) (hi : i < nL) (hnx : nx = cf.1 + len) : ∃ cf', pi_st1 (kdV b) i len nL cf = some cf' ∧ ∃ B ∈ Bs, ∃ ws, ga HT RG n md h0 (vs ++ ws) B cf' := by
  obtain ⟨g0, g1, g2, g3, g4, g5, g6⟩ := g
  unfold a_st at h
  split at h
  · rename_i a st hst
    split at h
    · rename_i hk
      cases h
      rw [hst] at g2
      obtain ⟨v, sv, e1, hv, g2⟩ := gst_cons g2
      refine ⟨(cf.1 + len, pm_s1 cf.2.1 i v, sv, cf.2.2.2), ?_, _, List.mem_cons_self, ga0 ⟨hnx.symm, ?_, g2, g3, g4, g5, g6⟩⟩
      · unfold pi_st1
        rw [e1]
        exact if_pos ⟨kdA_ok hk hv, hi⟩
      · exact gl_s1 g1 hv
    · cases h
  · cases h
theorem a_st2_ok {i nx len nL : Nat} {Bs : List Ab} (g : ga HT RG n md h0 vs A cf) (h : a_st 1 i nx A = some Bs) (hi : i + 1 < nL) (hnx : nx = cf.1 + len) : ∃ cf', pi_st2 i len nL cf = some cf' ∧ ∃ B ∈ Bs, ∃ ws, ga HT RG n md h0 (vs ++ ws) B cf' := by
  obtain ⟨g0, g1, g2, g3, g4, g5, g6⟩ := g
  unfold a_st at h
  split at h
  · rename_i a st hst
    split at h
    · rename_i hk
      cases h
      rw [hst] at g2
      obtain ⟨v, sv, e1, hv, g2⟩ := gst_cons g2
      refine ⟨(cf.1 + len, pm_s2 cf.2.1 i v, sv, cf.2.2.2), ?_, _, List.mem_cons_self, ga0 ⟨hnx.symm, ?_, g2, g3, g4, g5, g6⟩⟩
      · unfold pi_st2
        rw [e1]
        exact if_pos ⟨kdA_ok hk hv, hi⟩
      · exact gl_s2 g1 hv
    · cases h
  · cases h
theorem kc32 {z : Int} (h : -2147483648 ≤ z ∧ z ≤ 2147483647) : (Int32.ofInt z).toInt = z := by
  rw [Int32.toInt_ofInt]
  exact bm32 h.1 h.2
theorem a_inc_ok {i nx nL : Nat} {z : Int} {Bs : List Ab} (g : ga HT RG n md h0 vs A cf) (h : a_inc i z nx A = some Bs) (hi : i < nL) (hz : -2147483648 ≤ z ∧ z ≤ 2147483647) (hnx : nx = cf.1 + 3) : ∃ cf', pi_inc i z nL cf = some cf' ∧ ∃ B ∈ Bs, ∃ ws, ga HT RG n md h0 (vs ++ ws) B cf' := by
  obtain ⟨g0, g1, g2, g3, g4, g5, g6⟩ := g
  unfold a_inc at h
  split at h
  · rename_i a ha
    split at h
    · rename_i ht
      obtain ⟨v, e1, e2⟩ := g1 _ (lkA_mem ha)
      obtain ⟨x, w, rfl, hw, hx⟩ := gv_int e2 ht
      have hp : pi_inc i z nL cf = some (cf.1 + 3, pm_s1 cf.2.1 i (.int (x + Int32.ofInt z)), cf.2.2.1, cf.2.2.2) := by
        unfold pi_inc
        rw [e1]
        dsimp only
        rw [if_pos hi]
      refine ⟨_, hp, ?_⟩
      split at h
      · rename_i q hq
        obtain ⟨z', hz', hr⟩ := t_add_ok _ vs a (0, 0, z) _ x (Int32.ofInt z) w 0 g3 hq hw g3.2.1 hx (by rw [kc32 hz]; exact (Int.zero_add z).symm)
        cases hz'
        cases h
        exact ⟨_, List.mem_cons_self, ga0 ⟨hnx.symm, gl_s1 g1 ⟨rfl, hr⟩, g2, g3, g4, g5, g6⟩⟩
      · rename_i e hq
        obtain ⟨z', hz', hr⟩ := t_add_ok _ vs a (0, 0, z) _ x (Int32.ofInt z) w 0 g3 hq hw g3.2.1 hx (by rw [kc32 hz]; exact (Int.zero_add z).symm)
        cases hz'
        cases h
        refine ⟨_, List.mem_cons_self, [(x + Int32.ofInt z).toInt], hnx.symm, gl_s1 (gl_app _ g1) ⟨rfl, _, ix_new g3, (Int.add_zero _).symm⟩, gst_app _ g2, gs_push g3 hr, gf_app _ g4, g5, g6⟩
      · cases h
    · cases h
  · cases h
theorem a_dup_ok {nx : Nat} {Bs : List Ab} (g : ga HT RG n md h0 vs A cf) (h : a_dup nx A = some Bs) (hnx : nx = cf.1 + 1) : ∃ cf', pi_dup cf = some cf' ∧ ∃ B ∈ Bs, ∃ ws, ga HT RG n md h0 (vs ++ ws) B cf' := by
  obtain ⟨g0, g1, g2, g3, g4, g5, g6⟩ := g
  unfold a_dup at h
  split at h
  · rename_i a st hst
    split at h
    · cases h
    · rename_i ht
      cases h
      rw [hst] at g2
      obtain ⟨v, sv, e1, hv, g2⟩ := gst_cons g2
      refine ⟨(cf.1 + 1, cf.2.1, v :: v :: sv, cf.2.2.2), ?_, _, List.mem_cons_self, ga0 ⟨hnx.symm, g1, ⟨hv, hv, g2⟩, g3, g4, g5, g6⟩⟩
      unfold pi_dup
      rw [e1]
      exact if_pos (gv_cat1 hv ht)
  · cases h
theorem a_pop_ok {nx : Nat} {Bs : List Ab} (g : ga HT RG n md h0 vs A cf) (h : a_pop nx A = some Bs) (hnx : nx = cf.1 + 1) : ∃ cf', pi_pop cf = some cf' ∧ ∃ B ∈ Bs, ∃ ws, ga HT RG n md h0 (vs ++ ws) B cf' := by
  obtain ⟨g0, g1, g2, g3, g4, g5, g6⟩ := g
  unfold a_pop at h
  split at h
  · rename_i a st hst
    split at h
    · cases h
    · rename_i ht
      cases h
      rw [hst] at g2
      obtain ⟨v, sv, e1, hv, g2⟩ := gst_cons g2
      refine ⟨(cf.1 + 1, cf.2.1, sv, cf.2.2.2), ?_, _, List.mem_cons_self, ga0 ⟨hnx.symm, g1, g2, g3, g4, g5, g6⟩⟩
      unfold pi_pop
      rw [e1]
      exact if_pos (gv_cat1 hv ht)
  · cases h
theorem a_dup2_ok {nx : Nat} {Bs : List Ab} (g : ga HT RG n md h0 vs A cf) (h : a_dup2 nx A = some Bs) (hnx : nx = cf.1 + 1) : ∃ cf', pi_dup2 cf = some cf' ∧ ∃ B ∈ Bs, ∃ ws, ga HT RG n md h0 (vs ++ ws) B cf' := by
  obtain ⟨g0, g1, g2, g3, g4, g5, g6⟩ := g
  unfold a_dup2 at h
  split at h
  · rename_i a b st hst
    split at h
    · cases h
    · rename_i ht
      cases h
      rw [hst] at g2
      obtain ⟨v, u, sv, e1, hv, hu, g2⟩ := gst_cons2 g2
      refine ⟨(cf.1 + 1, cf.2.1, v :: u :: v :: u :: sv, cf.2.2.2), ?_, _, List.mem_cons_self, ga0 ⟨hnx.symm, g1, ⟨hv, hu, hv, hu, g2⟩, g3, g4, g5, g6⟩⟩
      unfold pi_dup2
      rw [e1]
      exact if_pos ⟨gv_cat1 hv (fun q => ht (Or.inl q)), gv_cat1 hu (fun q => ht (Or.inr q))⟩
  · cases h
theorem a_go_ok {t : Nat} {off : Int} {Bs : List Ab} (g : ga HT RG n md h0 vs A cf) (h : a_go t A = some Bs) (ht : pm_t cf.1 off = some t) : ∃ cf', pi_goto off cf = some cf' ∧ ∃ B ∈ Bs, ∃ ws, ga HT RG n md h0 (vs ++ ws) B cf' := by
  obtain ⟨g0, g1, g2, g3, g4, g5, g6⟩ := g
  cases h
  refine ⟨(t, cf.2.1, cf.2.2.1, cf.2.2.2), ?_, _, List.mem_cons_self, ga0 ⟨rfl, g1, g2, g3, g4, g5, g6⟩⟩
  unfold pi_goto
  rw [ht]
  rfl
theorem toS_mem {st : List Av} {t : Nat} {o : Option Sy} {sy : Sy} (h : o = some sy) : (t, A.2.1, st, sy, A.2.2.2.2) ∈ toS A st t o := by
  subst h
  exact List.mem_cons_self
theorem br_ok {q t nx : Nat} {off : Int} {st : List Av} {sv : List Value} {s u : Nat} {c d wa wb : Int} {x y : Int32} (g1 : gl RG vs A.2.1 cf.2.1) (g2 : gst RG vs st sv) (g3 : gs A.2.2.2.1 vs) (g4 : gf RG vs A.2.2.2.2 cf.2.2.2) (g5 : hI HT RG n cf.2.2.2) (g6 : fr md h0 cf.2.2.2) (ha : vs[s]? = some wa) (hb : vs[u]? = some wb) (hx : x.toInt = wa + c) (hy : y.toInt = wb + d) (ht : pm_t cf.1 off = some t) (hnx : nx = cf.1 + 3) : ∃ cf', pi_br (pm_c (ccq q) x y) off sv cf = some cf' ∧ ∃ B ∈ toS A st t (rcq q A.2.2.2.1 s u c d) ++ toS A st nx (rcq (cng q) A.2.2.2.1 s u c d), ∃ ws, ga HT RG n md h0 (vs ++ ws) B cf' := by
  cases hq : pm_c (ccq q) x y with
  | true =>
    obtain ⟨sy', e1, e2⟩ := rcq_ok g3 ha hb hx hy hq
    refine ⟨(t, cf.2.1, sv, cf.2.2.2), ?_, _, List.mem_append_left _ (toS_mem e1), ga0 ⟨rfl, g1, g2, e2, g4, g5, g6⟩⟩
    unfold pi_br
    rw [ht]
    rfl
  | false =>
    obtain ⟨sy', e1, e2⟩ := rcq_ok g3 ha hb hx hy (cng_ok hq)
    refine ⟨(cf.1 + 3, cf.2.1, sv, cf.2.2.2), ?_, _, List.mem_append_right _ (toS_mem e1), ga0 ⟨hnx.symm, g1, g2, e2, g4, g5, g6⟩⟩
    unfold pi_br
    rw [ht]
    rfl
theorem a_if_ok {q t nx : Nat} {off : Int} {Bs : List Ab} (g : ga HT RG n md h0 vs A cf) (h : a_if q t nx A = some Bs) (ht : pm_t cf.1 off = some t) (hnx : nx = cf.1 + 3) : ∃ cf', pi_if (ccq q) off cf = some cf' ∧ ∃ B ∈ Bs, ∃ ws, ga HT RG n md h0 (vs ++ ws) B cf' := by
  obtain ⟨g0, g1, g2, g3, g4, g5, g6⟩ := g
  unfold a_if at h
  split at h
  · rename_i x st hst
    rw [hst] at g2
    obtain ⟨v, sv, e1, hv, g2⟩ := gst_cons g2
    split at h
    · rename_i h0'
      obtain ⟨x', w, rfl, hw, hx⟩ := gv_int hv h0'
      cases h
      unfold pi_if
      rw [e1]
      exact br_ok g1 g2 g3 g4 g5 g6 hw g3.2.1 hx (by rw [Int32.toInt_zero]; rfl) ht hnx
    · cases h
  · cases h
theorem a_icmp_ok {q t nx : Nat} {off : Int} {Bs : List Ab} (g : ga HT RG n md h0 vs A cf) (h : a_icmp q t nx A = some Bs) (ht : pm_t cf.1 off = some t) (hnx : nx = cf.1 + 3) : ∃ cf', pi_icmp (ccq q) off cf = some cf' ∧ ∃ B ∈ Bs, ∃ ws, ga HT RG n md h0 (vs ++ ws) B cf' := by
  obtain ⟨g0, g1, g2, g3, g4, g5, g6⟩ := g
  unfold a_icmp at h
  split at h
  · rename_i y x st hst
    rw [hst] at g2
    obtain ⟨v, u, sv, e1, hv, hu, g2⟩ := gst_cons2 g2
    split at h
    · rename_i h0'
      obtain ⟨y', wy, rfl, hwy, hy⟩ := gv_int hv h0'.2
      obtain ⟨x', wx, rfl, hwx, hx⟩ := gv_int hu h0'.1
      cases h
      unfold pi_icmp
      rw [e1]
      exact br_ok g1 g2 g3 g4 g5 g6 hwx hwy hx hy ht hnx
    · cases h
  · cases h
theorem swt_mem {st : List Av} {x : Av} : ∀ (ts : List Nat) (z : Int) (i t : Nat) (sy' : Sy), ts[i]? = some t → rcq 0 A.2.2.2.1 x.2.1 0 x.2.2 (z + i) = some sy' → (t, A.2.1, st, sy', A.2.2.2.2) ∈ swt A st x z ts
  | [], z, i, t, sy', h, _ => by cases i <;> cases h
  | t0 :: ts, z, 0, t, sy', h, h2 => by
    cases h
    refine List.mem_append_left _ (toS_mem ?_)
    simpa using h2
  | t0 :: ts, z, i + 1, t, sy', h, h2 => by
    refine List.mem_append_right _ (swt_mem ts (z + 1) i t sy' (by simpa using h) ?_)
    rw [← h2]
    congr 1
    omega
theorem a_sw_ok {lo hi dO : Int} {offs : Array Int} {ts : List Nat} {d : Nat} {Bs : List Ab} (g : ga HT RG n md h0 vs A cf) (h : a_sw lo ts d A = some Bs) (hd : pm_t cf.1 dO = some d) (hl : hi = lo + ts.length - 1) (hr : -2147483648 ≤ lo ∧ hi ≤ 2147483647) (ht : ∀ (i t : Nat), ts[i]? = some t → (offs[i]?).bind (pm_t cf.1) = some t) : ∃ cf', pi_tsw dO lo hi offs cf = some cf' ∧ ∃ B ∈ Bs, ∃ ws, ga HT RG n md h0 (vs ++ ws) B cf' := by
  obtain ⟨g0, g1, g2, g3, g4, g5, g6⟩ := g
  unfold a_sw at h
  split at h
  · rename_i x st hst
    rw [hst] at g2
    obtain ⟨v, sv, e1, hv, g2⟩ := gst_cons g2
    split at h
    · rename_i h0'
      obtain ⟨x', w, rfl, hw, hx⟩ := gv_int hv h0'
      cases h
      unfold pi_tsw
      rw [e1]
      dsimp only
      by_cases hc : x'.toInt < lo ∨ hi < x'.toInt
      · rw [if_pos hc, hd]
        refine ⟨(d, cf.2.1, sv, cf.2.2.2), rfl, ?_⟩
        rcases hc with hc | hc
        · obtain ⟨sy', e2, e3⟩ := rle_ok (c := x.2.2) (d := lo - 1) g3 hw g3.2.1 (by omega)
          exact ⟨_, List.mem_append_left _ (List.mem_append_left _ (toS_mem e2)), ga0 ⟨rfl, g1, g2, e3, g4, g5, g6⟩⟩
        · obtain ⟨sy', e2, e3⟩ := rle_ok (c := lo + ts.length) (d := x.2.2) g3 g3.2.1 hw (by omega)
          exact ⟨_, List.mem_append_left _ (List.mem_append_right _ (toS_mem e2)), ga0 ⟨rfl, g1, g2, e3, g4, g5, g6⟩⟩
      · rw [if_neg hc]
        have hi' : (x'.toInt - lo).toNat < ts.length := by omega
        have e4 := ht _ _ (List.getElem?_eq_getElem hi')
        rw [e4]
        refine ⟨(ts[(x'.toInt - lo).toNat], cf.2.1, sv, cf.2.2.2), rfl, ?_⟩
        have e5 : lo + ((x'.toInt - lo).toNat : Int) = x'.toInt := by omega
        obtain ⟨sy', e2, e3⟩ := rcq_ok (q := 0) (x := x') (y := x') (c := x.2.2) (d := lo + ((x'.toInt - lo).toNat : Int)) g3 hw g3.2.1 hx (by omega) (by simp [ccq, pm_c])
        exact ⟨_, List.mem_append_right _ (swt_mem ts lo _ _ sy' (List.getElem?_eq_getElem hi') e2), ga0 ⟨rfl, g1, g2, e3, g4, g5, g6⟩⟩
    · cases h
  · cases h
end Ops2
